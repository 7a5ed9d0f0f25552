/-! THE HEAP OF THE MACHINE HOLDS THE PURE HEAP -/
def fx_fv (s : fx_S) (f a : Nat) : Value := bif Nat.ble (fx_ft f) 1 then .int (fx_fi s f a) else va_rf (fx_fr s f a)
def fx_cellok (D : va_G) (dA : Nat → ClassId) (scr : Cell) (s : fx_S) (H : Heap) (a : Nat) : Prop :=
  (∀ ci r, fx_kd s a = 10 + ci → fx_cl[ci]? = some r → t_OB a (D.1 ci) r.2.2 (D.2 ci) H (fun k => fx_fv s (64 * ci + k) a)) ∧
  (fx_kd s a = 70 → H[a]? = some (arrV (dA 70) (fx_ln s a) (fun j => .int (fx_ai s a j)))) ∧
  (fx_kd s a = 71 → H[a]? = some (arrV (dA 71) (fx_ln s a) (fun j => .int (fx_ai s a j)))) ∧
  (fx_kd s a = 72 → H[a]? = some (arrV (dA 72) (fx_ln s a) (fun j => .long (fx_al s a j)))) ∧
  (fx_ia (fx_kd s a) = true → H[a]? = some (arrV (dA (fx_kd s a)) (fx_ln s a) (fun j => va_rf (fx_ar s a j)))) ∧
  (fx_kd s a = 73 → H[a]? = some scr ∧ scr.vm ≠ .unknown ∧ scr.slots.size = fx_ln s a ∧ ∀ j, j < fx_ln s a → scr.slots[j]? = some (.int (fx_ai s a j)))
def fx_rep (D : va_G) (dA : Nat → ClassId) (scr : Cell) (sz0 : Nat) (s : fx_S) (H : Heap) : Prop :=
  H.size = fx_nx s ∧ sz0 ≤ fx_nx s ∧ (∀ a, fx_kd s a ≠ 0 → fx_kd s a ≠ 73 → sz0 ≤ a) ∧ ∀ a, fx_cellok D dA scr s H a
section
variable {D : va_G} {dA : Nat → ClassId} {scr : Cell} {sz0 : Nat} {s s1 : fx_S} {H H1 : Heap} {a : Nat}
theorem fx_fv_cong {f : Nat} (hfi : ∀ g, fx_fi s1 g a = fx_fi s g a) (hfr : ∀ g, fx_fr s1 g a = fx_fr s g a) : fx_fv s1 f a = fx_fv s f a := by
  unfold fx_fv
  rw [hfi, hfr]
theorem fx_cellok.cong (h : fx_cellok D dA scr s H a) (hk : fx_kd s1 a = fx_kd s a) (hfi : ∀ g, fx_fi s1 g a = fx_fi s g a) (hfr : ∀ g, fx_fr s1 g a = fx_fr s g a) (hln : fx_ln s1 a = fx_ln s a) (hai : fx_ai s1 a = fx_ai s a) (har : fx_ar s1 a = fx_ar s a) (hal : fx_al s1 a = fx_al s a) (hH : H1[a]? = H[a]?) : fx_cellok D dA scr s1 H1 a := by
  obtain ⟨h1, h2, h3, h4, h5, h6⟩ := h
  refine ⟨fun ci r g1 g2 => ?_, fun g => ?_, fun g => ?_, fun g => ?_, fun g => ?_, fun g => ?_⟩
  · exact ((h1 ci r (hk ▸ g1) g2).kept hH).to (fun k _ => (fx_fv_cong hfi hfr).symm)
  · rw [hH, hln, hai]; exact h2 (hk ▸ g)
  · rw [hH, hln, hai]; exact h3 (hk ▸ g)
  · rw [hH, hln, hal]; exact h4 (hk ▸ g)
  · rw [hH, hln, har, hk]; exact h5 (hk ▸ g)
  · rw [hH, hln, hai]; exact h6 (hk ▸ g)
theorem fx_rep.upd (h : fx_rep D dA scr sz0 s H) (hz : H1.size = H.size) (ho : ∀ q, q ≠ a → H1[q]? = H[q]?) (hk : fx_kd s1 = fx_kd s) (hn : fx_nx s1 = fx_nx s)
    (hoff : ∀ b, b ≠ a → (∀ g, fx_fi s1 g b = fx_fi s g b) ∧ (∀ g, fx_fr s1 g b = fx_fr s g b) ∧ fx_ln s1 b = fx_ln s b ∧ fx_ai s1 b = fx_ai s b ∧ fx_ar s1 b = fx_ar s b ∧ fx_al s1 b = fx_al s b)
    (ha : fx_cellok D dA scr s1 H1 a) : fx_rep D dA scr sz0 s1 H1 := by
  obtain ⟨h1, h2, h3, h4⟩ := h
  refine ⟨by rw [hz, hn, h1], by rw [hn]; exact h2, fun b => by rw [hk]; exact h3 b, fun b => ?_⟩
  by_cases e : b = a
  · rw [e]; exact ha
  · obtain ⟨g1, g2, g3, g4, g5, g6⟩ := hoff b e
    exact (h4 b).cong (by rw [hk]) g1 g2 g3 g4 g5 g6 (ho b e)
theorem fx_rep.push {tag : Nat} (h : fx_rep D dA scr sz0 s H) (hz : H1.size = H.size + 1) (ho : ∀ q, q < H.size → H1[q]? = H[q]?) (hk : fx_kd s1 = fx_at (fx_kd s) (fx_nx s) tag) (hn : fx_nx s1 = fx_nx s + 1) (hfr : fx_fresh s)
    (hoff : ∀ b, b ≠ fx_nx s → (∀ g, fx_fi s1 g b = fx_fi s g b) ∧ (∀ g, fx_fr s1 g b = fx_fr s g b) ∧ fx_ln s1 b = fx_ln s b ∧ fx_ai s1 b = fx_ai s b ∧ fx_ar s1 b = fx_ar s b ∧ fx_al s1 b = fx_al s b)
    (ha : fx_cellok D dA scr s1 H1 (fx_nx s)) : fx_rep D dA scr sz0 s1 H1 := by
  obtain ⟨h1, h2, h3, h4⟩ := h
  refine ⟨by rw [hz, hn, h1], by rw [hn]; omega, fun b => ?_, fun b => ?_⟩
  · rw [hk]
    by_cases e : b = fx_nx s
    · intro _ _; omega
    · simp only [fx_at, e, if_false]; exact h3 b
  · by_cases e : b = fx_nx s
    · rw [e]; exact ha
    · obtain ⟨g1, g2, g3, g4, g5, g6⟩ := hoff b e
      rcases Nat.lt_or_ge b (fx_nx s) with q | q
      · exact (h4 b).cong (by rw [hk]; simp [fx_at, e]) g1 g2 g3 g4 g5 g6 (ho b (by omega))
      · have k0 : fx_kd s1 b = 0 := by rw [hk]; simp only [fx_at, e, if_false]; exact hfr b q
        unfold fx_cellok
        rw [k0]
        exact ⟨fun ci r g _ => by omega, fun g => by omega, fun g => by omega, fun g => by omega, fun g => absurd g (by decide), fun g => by omega⟩
theorem fx_up_ne {α : Type} {f : Nat → Nat → α} {g x b y : Nat} {v : α} (h : ¬ (g = x ∧ b = y)) : fx_up f x y v g b = f g b := by
  unfold fx_up
  by_cases e1 : g = x
  · have e2 : ¬ b = y := fun q => h ⟨e1, q⟩
    simp [e1, e2]
  · simp [e1]
/-- a field of an object is set -/
theorem fx_rep.field {ci k : Nat} {r : vw_C} {v : Value} (h : fx_rep D dA scr sz0 s H) (hka : fx_kd s a = 10 + ci) (hr : fx_cl[ci]? = some r) (hk : k < r.2.2) (hN : r.2.2 < 64) (hap : ∀ x y, x < r.2.2 → y < r.2.2 → x ≠ y → D.2 ci x ≠ D.2 ci y)
    {cell : Cell} (hc : H[a]? = some cell) (he : H1[a]? = some (cell.setSlot (D.2 ci k) v)) (hz : H1.size = H.size) (ho : ∀ q, q ≠ a → H1[q]? = H[q]?)
    (hkd : fx_kd s1 = fx_kd s) (hn : fx_nx s1 = fx_nx s) (hln : fx_ln s1 = fx_ln s) (hai : fx_ai s1 = fx_ai s) (har : fx_ar s1 = fx_ar s) (hal : fx_al s1 = fx_al s)
    (hoff : ∀ b, b ≠ a → (∀ g, fx_fi s1 g b = fx_fi s g b) ∧ (∀ g, fx_fr s1 g b = fx_fr s g b)) (hfv : fx_fv s1 (64 * ci + k) a = v) (hfo : ∀ j, j ≠ k → j < r.2.2 → fx_fv s1 (64 * ci + j) a = fx_fv s (64 * ci + j) a) : fx_rep D dA scr sz0 s1 H1 := by
  refine h.upd hz ho hkd hn (fun b hb => ⟨(hoff b hb).1, (hoff b hb).2, by rw [hln], by rw [hai], by rw [har], by rw [hal]⟩) ?_
  obtain ⟨g1, -⟩ := h.2.2.2 a
  have hci : ci < 13 := (List.getElem?_eq_some_iff.mp hr).1
  obtain ⟨cell', q1, q2, q3, q4⟩ := g1 ci r hka hr
  cases hc.symm.trans q1
  have hkk : fx_kd s1 a = 10 + ci := by rw [hkd]; exact hka
  refine ⟨fun cj r' e1 e2 => ?_, fun g => by omega, fun g => by omega, fun g => by omega, fun g => ?_, fun g => by omega⟩
  · have : cj = ci := by omega
    subst this
    cases hr.symm.trans e2
    refine (show t_OB a (D.1 cj) r.2.2 (D.2 cj) H1 (updV (fun j => fx_fv s (64 * cj + j) a) k v) from ⟨_, he, q2, q3, t_set q4 hap hk v⟩).to (fun j hj => ?_)
    by_cases e : j = k
    · subst e; simp [updV, hfv]
    · simp [updV, e, hfo j e hj]
  · rw [hkk] at g
    simp only [fx_ia, Bool.or_eq_true, beq_iff_eq] at g
    omega
end
