/-! THE START -/
section
variable {A : Array Value} {s : State}
theorem st_prim {ty : FieldType} (hty : ty = .int ∨ ty = .boolean ∨ ty = .long) (h : (Cond.arrayClass ty).before A s = true) : ∃ cA, ArrOfT s cA ty ∧ va_RA s cA ty := by
  obtain ⟨c, k, comp, h1, h2, h3⟩ := Cond.arrayClass_spec h
  refine ⟨c, fun n z => ⟨fun k h => (by cases h), k, h2, comp, h3⟩, ?_⟩
  rcases hty with e | e | e <;> subst e <;> exact h1
theorem st_obj {C : String} (h : (Cond.arrayOver (.object C)).before A s = true) : ∃ cA, ArrOfT s cA (.object C) ∧ va_RA s cA (.object C) := by
  obtain ⟨comp, c, k, f1, -, f3, f4, f5⟩ := Cond.arrayOver_spec h
  exact ⟨c, fun n z => ⟨fun k h => (by cases h), k, f3, comp, f4⟩, k, comp, f3, f4, f1, f5⟩
def st_dA (a b c d e f g h : ClassId) (t : Nat) : ClassId := if t = 70 then a else if t = 71 then b else if t = 72 then c else if t = 41 then d else if t = 42 then e else if t = 44 then f else if t = 45 then g else h
theorem st_w1 : Cond.arrayClass .int ∈ lw_tbl := by decide +kernel
theorem st_w2 : Cond.arrayClass .boolean ∈ lw_tbl := by decide +kernel
theorem st_w3 : Cond.arrayClass .long ∈ lw_tbl := by decide +kernel
theorem st_w4 : Cond.arrayOver (.object fx_R1) ∈ lw_tbl := by decide +kernel
theorem st_w5 : Cond.arrayOver (.object fx_R2) ∈ lw_tbl := by decide +kernel
theorem st_w6 : Cond.arrayOver (.object fx_R4) ∈ lw_tbl := by decide +kernel
theorem st_w7 : Cond.arrayOver (.object fx_R5) ∈ lw_tbl := by decide +kernel
theorem st_w8 : Cond.arrayOver (.object fx_R6) ∈ lw_tbl := by decide +kernel
theorem st_ctx {scr : Cell} (hts : ∀ w ∈ lw_tbl, w.before A s = true) (hscr : s.isArrayOf scr .int) : ∃ (D : va_G) (dA : Nat → ClassId), fx_ctx D dA scr s := by
  have hT1 : ∀ w ∈ fx_T1, w.before A s = true := fun w hw => hts w (fx_T1_good hw).1
  have hcl : ∀ k : Nat, ∃ d : ClassId × (Nat → Nat), ∀ q : vw_C, fx_cl[k]? = some q → u_Kn s q.1 q.2.1 q.2.2 d.1 d.2 := by
    intro k
    cases hq : fx_cl[k]? with
    | none => exact ⟨(0, fun _ => 0), fun q h => (by cases h)⟩
    | some q =>
      obtain ⟨cC, iS, h⟩ := u_known hT1 (fx_cls_in hq) (hT1 _ (fx_cls_w hq).2.1)
      exact ⟨(cC, iS), fun q' h' => (by cases h'; exact h)⟩
  obtain ⟨d, hd⟩ := Classical.axiomOfChoice hcl
  obtain ⟨a1, p1, q1⟩ := st_prim (Or.inl rfl) (hts _ st_w1)
  obtain ⟨a2, p2, q2⟩ := st_prim (Or.inr (Or.inl rfl)) (hts _ st_w2)
  obtain ⟨a3, p3, q3⟩ := st_prim (Or.inr (Or.inr rfl)) (hts _ st_w3)
  obtain ⟨a4, p4, q4⟩ := st_obj (hts _ st_w4)
  obtain ⟨a5, p5, q5⟩ := st_obj (hts _ st_w5)
  obtain ⟨a6, p6, q6⟩ := st_obj (hts _ st_w6)
  obtain ⟨a7, p7, q7⟩ := st_obj (hts _ st_w7)
  obtain ⟨a8, p8, q8⟩ := st_obj (hts _ st_w8)
  refine ⟨(fun k => (d k).1, fun k => (d k).2), st_dA a1 a2 a3 a4 a5 a6 a7 a8, ⟨fun c q hq => hd c q hq, fun k q hq => ?_⟩, fun own idx y hw => va_Nw.of rfl (hts _ hw), fun C hC => va_AO.of (hts _ hC), hscr⟩
  match k, hq with
  | 0, hq => cases hq; exact ⟨p1, q1⟩
  | 1, hq => cases hq; exact ⟨p2, q2⟩
  | 2, hq => cases hq; exact ⟨p3, q3⟩
  | 3, hq => cases hq; exact ⟨p4, q4⟩
  | 4, hq => cases hq; exact ⟨p5, q5⟩
  | 5, hq => cases hq; exact ⟨p6, q6⟩
  | 6, hq => cases hq; exact ⟨p7, q7⟩
  | 7, hq => cases hq; exact ⟨p8, q8⟩
  | k + 8, hq => simp [fx_tys] at hq
/-- the pure heap at the start -/
def fx_s0 (b L n : Nat) (xs : Nat → Int32) : fx_S := (fun a => if a = b then 73 else 0, fun _ _ => 0, fun _ _ => none, fun a => if a = b then L else 0, fun a => if a = b then xs else fun _ => 0, fun _ _ => none, fun _ _ => 0, n, 0)
theorem s0_kd {b L n a : Nat} {xs : Nat → Int32} : fx_kd (fx_s0 b L n xs) a = if a = b then 73 else 0 := rfl
theorem s0_rep {D : va_G} {dA : Nat → ClassId} {scr : Cell} {b L : Nat} {xs : Nat → Int32} {H : Heap} (h1 : H[b]? = some scr) (h2 : scr.vm ≠ .unknown) (h3 : scr.slots.size = L) (h4 : ∀ j : Nat, j < L → scr.slots[j]? = some (.int (xs j))) : fx_rep D dA scr H.size (fx_s0 b L H.size xs) H := by
  refine ⟨rfl, Nat.le_refl _, fun a g1 g2 => ?_, fun a => ?_⟩
  · rw [s0_kd] at g1 g2
    by_cases e : a = b
    · rw [if_pos e] at g2; exact absurd rfl g2
    · rw [if_neg e] at g1; exact absurd rfl g1
  · by_cases e : a = b
    · have k0 : fx_kd (fx_s0 b L H.size xs) a = 73 := by rw [s0_kd, if_pos e]
      have l0 : fx_ln (fx_s0 b L H.size xs) a = L := if_pos e
      have x0 : fx_ai (fx_s0 b L H.size xs) a = xs := if_pos e
      unfold fx_cellok
      rw [k0, l0, x0]
      refine ⟨fun ci r g hr => ?_, fun g => by omega, fun g => by omega, fun g => by omega, fun g => absurd g (by decide), fun _ => ⟨by rw [e]; exact h1, h2, h3, h4⟩⟩
      have : ci < 13 := (List.getElem?_eq_some_iff.mp hr).1
      omega
    · have k0 : fx_kd (fx_s0 b L H.size xs) a = 0 := by rw [s0_kd, if_neg e]
      unfold fx_cellok
      rw [k0]
      exact ⟨fun ci r g _ => by omega, fun g => by omega, fun g => by omega, fun g => by omega, fun g => absurd g (by decide), fun g => by omega⟩
theorem s0_inv {b L n : Nat} {xs : Nat → Int32} (hb : b < n) : fx_inv (fx_s0 b L n xs) [some (vR 73 (some b)), none, none, none, none, none, none] [] := by
  refine ⟨fun a ha => ?_, ⟨fun a f c _ _ h => (by cases h), fun a j c _ h => (by cases h)⟩, fun i v hv => ?_, fun v hv => (by cases hv)⟩
  · have ha' : n ≤ a := ha
    rw [s0_kd, if_neg (by omega)]
  · match i, hv with
    | 0, hv =>
      cases hv
      refine ⟨?_, by decide⟩
      rw [s0_kd, if_pos rfl]
    | 1, hv => cases hv
    | 2, hv => cases hv
    | 3, hv => cases hv
    | 4, hv => cases hv
    | 5, hv => cases hv
    | 6, hv => cases hv
    | i + 7, hv => simp [fx_get] at hv
end
