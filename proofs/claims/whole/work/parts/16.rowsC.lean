section
variable {p : Program} {l : Launch} {e : Env} {R : Room} {u : State} {m : MethodId} {args : Array Value} {below : List Frame} {meth : Method} {c : Code} {Qf : State → Prop} {D : va_G} {dA : Nat → ClassId} {scr : Cell} {sz0 : Nat} {mi pc : Nat} {s : fx_S} {H : Heap} {locs : List Loc} {cells slots : Nat} {LS : Array Slot} {rest : List Value} {a f idx : Nat}
theorem fx_up_row {α : Type} (f : Nat → Nat → α) (a i : Nat) (v : α) (j : Nat) : fx_up f a i v a j = if j = i then v else f a j := by simp [fx_up]
theorem fx_up_off {α : Type} (f : Nat → Nat → α) {a i b : Nat} {v : α} (h : b ≠ a) : fx_up f a i v b = f b := by
  funext j
  exact fx_up_ne (fun q => h q.1)
theorem fx_rep_sai {H1 : Heap} {i : Nat} {x : Int32} {tag : Nat} (htag : tag = 70 ∨ tag = 71) (hka : fx_kd s a = tag) (hrep : fx_rep D dA scr sz0 s H) (z : H1.size = H.size) (oq : ∀ q, q ≠ a → H1[q]? = H[q]?) (he : H1[a]? = some ((arrV (dA tag) (fx_ln s a) (fun j => .int (fx_ai s a j))).setSlot i (.int x))) : fx_rep D dA scr sz0 (fx_sai s a i x) H1 := by
  refine hrep.upd z oq rfl rfl (fun b hb => ⟨fun g => rfl, fun g => rfl, rfl, fx_up_off _ hb, rfl, rfl⟩) ?_
  have hkk : fx_kd (fx_sai s a i x) a = tag := hka
  have key : H1[a]? = some (arrV (dA tag) (fx_ln s a) (fun j => .int (fx_ai (fx_sai s a i x) a j))) := by
    rw [he, arrV_store]
    congr 2
    funext j
    show _ = Value.int (fx_up (fx_ai s) a i x a j)
    rw [fx_up_row]
    by_cases q : j = i
    · simp [updV, q]
    · simp [updV, q]
  refine ⟨fun cj r' g1 g2 => ?_, fun g => ?_, fun g => ?_, fun g => by omega, fun g => ?_, fun g => by omega⟩
  · have hcj : cj < 13 := (List.getElem?_eq_some_iff.mp g2).1
    omega
  · have : tag = 70 := by omega
    subst this; exact key
  · have : tag = 71 := by omega
    subst this; exact key
  · rw [hkk] at g
    simp only [fx_ia, Bool.or_eq_true, beq_iff_eq] at g
    omega
theorem fx_astI (I : fx_in mi p R u m args meth c D dA scr) (hd : decode (fx_cc mi) pc = .ok (.iastore, 1)) (hka : fx_kd s a = 70) (hrep : fx_rep D dA scr sz0 s H) {j x : Int32} (hin : vp_in j (fx_ln s a)) (hS0 : va_S (fun q => sz0 ≤ q) u.heap H locs)
    (k : ∀ (H1 : Heap) (locs1 : List Loc), fx_rep D dA scr sz0 (fx_sai s a j.toNatClampNeg x) H1 → va_S (fun q => sz0 ≤ q) u.heap H1 locs1 → W p l e R u m args below meth c H1 locs1 cells slots Qf (F0 m (pc + 1) LS rest)) : W p l e R u m args below meth c H locs cells slots Qf (F0 m pc LS (.int x :: .int j :: .ref a :: rest)) := by
  obtain ⟨hx, hb, hml, hown, hts, hnm, hfr, hlo, hctx⟩ := I
  have hsz : sz0 ≤ a := hrep.2.2.1 a (by omega) (by omega)
  obtain ⟨-, h2, -, -, -, -⟩ := hrep.2.2.2 a
  refine W.iast hx hb (h2 hka) ((hctx.1.2 0 _ rfl).1 _ _) (fun q => by cases q) (by rw [arrV_size]; exact hin) rfl rfl hd fun H1 e1 z oq => ?_
  exact k H1 _ (fx_rep_sai (Or.inl rfl) hka hrep z oq e1) (hS0.put z oq hsz)
theorem fx_astZ (I : fx_in mi p R u m args meth c D dA scr) (hd : decode (fx_cc mi) pc = .ok (.bastore, 1)) (hka : fx_kd s a = 71) (hrep : fx_rep D dA scr sz0 s H) {j x : Int32} (hin : vp_in j (fx_ln s a)) (hx1 : x = 0 ∨ x = 1) (hS0 : va_S (fun q => sz0 ≤ q) u.heap H locs)
    (k : ∀ (H1 : Heap) (locs1 : List Loc), fx_rep D dA scr sz0 (fx_sai s a j.toNatClampNeg x) H1 → va_S (fun q => sz0 ≤ q) u.heap H1 locs1 → W p l e R u m args below meth c H1 locs1 cells slots Qf (F0 m (pc + 1) LS rest)) : W p l e R u m args below meth c H locs cells slots Qf (F0 m pc LS (.int x :: .int j :: .ref a :: rest)) := by
  obtain ⟨hx, hb, hml, hown, hts, hnm, hfr, hlo, hctx⟩ := I
  have hsz : sz0 ≤ a := hrep.2.2.1 a (by omega) (by omega)
  obtain ⟨-, -, h3, -, -, -⟩ := hrep.2.2.2 a
  have hnar : narrow .boolean (.int x) = .int x := by rcases hx1 with e | e <;> subst e <;> decide
  refine W.zast hx hb (h3 hka) ((hctx.1.2 1 _ rfl).1 _ _) (fun q => by cases q) (by rw [arrV_size]; exact hin) rfl rfl hd fun H1 e1 z oq => ?_
  rw [hnar] at e1
  exact k H1 _ (fx_rep_sai (Or.inr rfl) hka hrep z oq e1) (hS0.put z oq hsz)
theorem fx_astL (I : fx_in mi p R u m args meth c D dA scr) (hd : decode (fx_cc mi) pc = .ok (.lastore, 1)) (hka : fx_kd s a = 72) (hrep : fx_rep D dA scr sz0 s H) {j : Int32} {x : Int64} (hin : vp_in j (fx_ln s a)) (hS0 : va_S (fun q => sz0 ≤ q) u.heap H locs)
    (k : ∀ (H1 : Heap) (locs1 : List Loc), fx_rep D dA scr sz0 (fx_sal s a j.toNatClampNeg x) H1 → va_S (fun q => sz0 ≤ q) u.heap H1 locs1 → W p l e R u m args below meth c H1 locs1 cells slots Qf (F0 m (pc + 1) LS rest)) : W p l e R u m args below meth c H locs cells slots Qf (F0 m pc LS (.long x :: .int j :: .ref a :: rest)) := by
  obtain ⟨hx, hb, hml, hown, hts, hnm, hfr, hlo, hctx⟩ := I
  have hsz : sz0 ≤ a := hrep.2.2.1 a (by omega) (by omega)
  obtain ⟨-, -, -, h4, -, -⟩ := hrep.2.2.2 a
  refine W.last hx hb (h4 hka) ((hctx.1.2 2 _ rfl).1 _ _) (fun q => by cases q) (by rw [arrV_size]; exact hin) rfl rfl hd fun H1 e1 z oq => ?_
  refine k H1 _ (hrep.upd z oq rfl rfl (fun b hb => ⟨fun g => rfl, fun g => rfl, rfl, rfl, rfl, fx_up_off _ hb⟩) ?_) (hS0.put z oq hsz)
  have hkk : fx_kd (fx_sal s a j.toNatClampNeg x) a = 72 := hka
  refine ⟨fun cj r' g1 g2 => ?_, fun g => by omega, fun g => by omega, fun g => ?_, fun g => ?_, fun g => by omega⟩
  · have hcj : cj < 13 := (List.getElem?_eq_some_iff.mp g2).1
    omega
  · rw [e1, arrV_store]
    congr 2
    funext i
    show _ = Value.long (fx_up (fx_al s) a j.toNatClampNeg x a i)
    rw [fx_up_row]
    by_cases q : i = j.toNatClampNeg
    · simp [updV, q]
    · simp [updV, q]
  · rw [hkk] at g
    simp only [fx_ia, Bool.or_eq_true, beq_iff_eq] at g
    omega
theorem fx_rep_sar {H1 : Heap} {i : Nat} {v : Option Nat} (hia : fx_ia (fx_kd s a) = true) (hrep : fx_rep D dA scr sz0 s H) (z : H1.size = H.size) (oq : ∀ q, q ≠ a → H1[q]? = H[q]?) (he : H1[a]? = some ((arrV (dA (fx_kd s a)) (fx_ln s a) (fun j => va_rf (fx_ar s a j))).setSlot i (va_rf v))) : fx_rep D dA scr sz0 (fx_sar s a i v) H1 := by
  refine hrep.upd z oq rfl rfl (fun b hb => ⟨fun g => rfl, fun g => rfl, rfl, rfl, fx_up_off _ hb, rfl⟩) ?_
  have hkk : fx_kd (fx_sar s a i v) a = fx_kd s a := rfl
  have hr : 41 ≤ fx_kd s a ∧ fx_kd s a ≤ 46 := by
    simp only [fx_ia, Bool.or_eq_true, beq_iff_eq] at hia
    omega
  refine ⟨fun cj r' g1 g2 => ?_, fun g => by omega, fun g => by omega, fun g => by omega, fun g => ?_, fun g => by omega⟩
  · have hcj : cj < 13 := (List.getElem?_eq_some_iff.mp g2).1
    omega
  · rw [hkk, he, arrV_store]
    congr 2
    funext j
    show _ = va_rf (fx_up (fx_ar s) a i v a j)
    rw [fx_up_row]
    by_cases q : j = i
    · simp [updV, q]
    · simp [updV, q]
theorem fx_astR (I : fx_in mi p R u m args meth c D dA scr) (hd : decode (fx_cc mi) pc = .ok (.aastore, 1)) (hka : fx_ia (fx_kd s a) = true) (hrep : fx_rep D dA scr sz0 s H) {j : Int32} {v : Option Nat} (hin : vp_in j (fx_ln s a)) (hv : ∀ b, v = some b → fx_kd s b = fx_kd s a - 30) (hS0 : va_S (fun q => sz0 ≤ q) u.heap H locs)
    (k : ∀ (H1 : Heap) (locs1 : List Loc), fx_rep D dA scr sz0 (fx_sar s a j.toNatClampNeg v) H1 → va_S (fun q => sz0 ≤ q) u.heap H1 locs1 → W p l e R u m args below meth c H1 locs1 cells slots Qf (F0 m (pc + 1) LS rest)) : W p l e R u m args below meth c H locs cells slots Qf (F0 m pc LS (va_rf v :: .int j :: .ref a :: rest)) := by
  obtain ⟨hx, hb, hml, hown, hts, hnm, hfr, hlo, hctx⟩ := I
  have hlt : j.toNatClampNeg < fx_ln s a := Nat.not_le.mp fun q => hin (Or.inr q)
  have h0 : ¬ j < 0 := fun q => hin (Or.inl q)
  have hrg : 41 ≤ fx_kd s a ∧ fx_kd s a ≤ 46 := by
    have hia := hka
    simp only [fx_ia, Bool.or_eq_true, beq_iff_eq] at hia
    omega
  have hsz : sz0 ≤ a := hrep.2.2.1 a (by omega) (by omega)
  obtain ⟨-, -, -, -, h5, -⟩ := hrep.2.2.2 a
  obtain ⟨t, r, ht, hr⟩ := fx_tys_ia dA hka
  cases v with
  | none =>
    refine va_WaastN (C := r.1) hx hb (h5 hka) ((hctx.1.2 t _ ht).1 _ _) (fun q => by cases q) (by rw [arrV_size]; exact hin) rfl rfl hd fun H1 e1 z oq => ?_
    exact k H1 _ (fx_rep_sar (v := none) hka hrep z oq e1) (hS0.put z oq hsz)
  | some b =>
    have hkb := hv b rfl
    obtain ⟨cellV, g1, g2, g3, -⟩ := (hrep.2.2.2 b).1 (fx_kd s a - 40) r (by omega) hr
    have hcls := (hctx.1.1 (fx_kd s a - 40) r hr).2
    obtain ⟨kA, comp, k1, k2, k3, -⟩ := (hctx.1.2 t _ ht).2
    have hcomp : comp = D.1 (fx_kd s a - 40) := Option.some.inj (k3.symm.trans hcls.1)
    subst hcomp
    obtain ⟨kC, hkC, -⟩ := hcls.2
    refine W.aast hx hb (h5 hka) (fun q h => by cases h) (fun h => by cases h) k1 k2 rfl hkC ⟨h0, by rw [arrV_size]; exact hlt⟩ g1 (fun q h => by rw [g3] at h; cases h) (by rw [g2]; exact hkC) (by rw [g2]; exact va_assign hcls) rfl rfl hd fun H1 e1 z oq => ?_
    exact k H1 _ (fx_rep_sar (v := some b) hka hrep z oq e1) (hS0.put z oq hsz)
end
