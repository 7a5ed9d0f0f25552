section
variable {p : Program} {l : Launch} {e : Env} {R : Room} {u : State} {m : MethodId} {args : Array Value} {below : List Frame} {meth : Method} {c : Code} {Qf : State → Prop} {D : va_G} {dA : Nat → ClassId} {scr : Cell} {sz0 : Nat} {mi pc : Nat} {s : fx_S} {H : Heap} {locs : List Loc} {cells slots : Nat} {LS : Array Slot} {rest : List Value} {a f idx : Nat}
theorem fx_S_push {H1 : Heap} (h : va_S (fun q => sz0 ≤ q) u.heap H locs) (z : H1.size = H.size + 1) (o : ∀ q, q < H.size → H1[q]? = H[q]?) : va_S (fun q => sz0 ≤ q) u.heap H1 locs :=
  ⟨Nat.le_trans h.1 (by omega), fun x h1 h2 => (o x (Nat.lt_of_lt_of_le h1 h.1)).trans (h.2.1 x h1 h2), h.2.2⟩
theorem fx_newo (I : fx_in mi p R u m args meth c D dA scr) {ci : Nat} {r : vw_C} (hr : fx_cl[ci]? = some r) (hd : decode (fx_cc mi) pc = .ok (.new idx, 3)) (hlk : Cond.classLink (fx_yy mi).cls idx r.1 ∈ fx_T1) (hfresh : fx_fresh s) (hrep : fx_rep D dA scr sz0 s H) (hcells : cells + 1 ≤ R.cells) (hslots : slots + r.2.2 ≤ R.slots) (hS0 : va_S (fun q => sz0 ≤ q) u.heap H locs)
    (k : ∀ H1 : Heap, fx_rep D dA scr sz0 (fx_new s (10 + ci) r.2.2) H1 → va_S (fun q => sz0 ≤ q) u.heap H1 locs → W p l e R u m args below meth c H1 locs (cells + 1) (slots + r.2.2) Qf (F0 m (pc + 3) LS (.ref (fx_nx s) :: rest))) : W p l e R u m args below meth c H locs cells slots Qf (F0 m pc LS rest) := by
  obtain ⟨hx, hb, hml, hown, hts, hnm, hfr, hlo, hctx⟩ := I
  have hKn := hctx.1.1 ci _ hr
  obtain ⟨w1, w2, w3⟩ := fx_cls_w hr
  have hci : ci < 13 := (List.getElem?_eq_some_iff.mp hr).1
  refine W.newcK hx hb hown (hts _ hlk) (hts _ w2) (hts _ w1) rfl hd hcells hslots hKn.2.1 hrep.1 fun H1 kC hkC e1 z1 o1 => ?_
  rw [← hrep.1] at z1 o1
  refine k H1 (hrep.push (tag := 10 + ci) z1 o1 rfl rfl hfresh (fun b hb => ⟨fun g => ?_, fun g => ?_, rfl, rfl, rfl, rfl⟩) ?_) (fx_S_push hS0 z1 o1)
  · show fx_col (fx_fi s) (fx_nx s) 0 g b = _
    simp [fx_col, hb]
  · show fx_col (fx_fr s) (fx_nx s) none g b = _
    simp [fx_col, hb]
  · have hk0 : fx_kd (fx_new s (10 + ci) r.2.2) (fx_nx s) = 10 + ci := by
      show fx_at (fx_kd s) (fx_nx s) (10 + ci) (fx_nx s) = _
      simp [fx_at]
    refine ⟨fun cj r' g1 g2 => ?_, fun g => by omega, fun g => by omega, fun g => by omega, fun g => ?_, fun g => by omega⟩
    · have : cj = ci := by omega
      subst this
      cases hr.symm.trans g2
      refine (u_born (fx_ty cj) hts (fx_cls_in hr) hKn hkC e1 (fun k hk => (fx_cls_t hr hk).1)).to (fun j hj => ?_)
      obtain ⟨-, -, t0, t1, t2⟩ := fx_cls_t hr hj
      have i0 : fx_fi (fx_new s (10 + cj) r.2.2) (64 * cj + j) (fx_nx s) = 0 := by
        show fx_col (fx_fi s) (fx_nx s) 0 (64 * cj + j) (fx_nx s) = _
        simp [fx_col]
      have r0 : fx_fr (fx_new s (10 + cj) r.2.2) (64 * cj + j) (fx_nx s) = none := by
        show fx_col (fx_fr s) (fx_nx s) none (64 * cj + j) (fx_nx s) = _
        simp [fx_col]
      rcases (show fx_ft (64 * cj + j) = 0 ∨ fx_ft (64 * cj + j) = 1 ∨ 2 ≤ fx_ft (64 * cj + j) by omega) with h | h | h
      · rw [t0 h, fx_fv_i (by omega), i0]; rfl
      · rw [t1 h, fx_fv_i (by omega), i0]; rfl
      · rw [fx_fv_r h, r0]
        have h3 := t2 h
        cases hty : fx_ty cj j <;> rw [hty] at h3 <;> first | (cases h3; done) | rfl
    · rw [hk0] at g
      simp only [fx_ia, Bool.or_eq_true, beq_iff_eq] at g
      omega
theorem fx_newp (I : fx_in mi p R u m args meth c D dA scr) {atype : ArrayType} {tag t0 : Nat} (hty : (fx_tys dA)[t0]? = some (dA tag, newarray.typeOf atype)) (htag : (tag = 70 ∧ newarray.typeOf atype = .int) ∨ (tag = 71 ∧ newarray.typeOf atype = .boolean) ∨ (tag = 72 ∧ newarray.typeOf atype = .long)) (hd : decode (fx_cc mi) pc = .ok (.newarray atype, 2)) (hw : Cond.arrayClass (newarray.typeOf atype) ∈ fx_T1) (hfresh : fx_fresh s) (hrep : fx_rep D dA scr sz0 s H) {n : Int32} (hn : ¬ n < 0) (hn2 : n.toNatClampNeg ≤ 40000) (hcells : cells + 1 ≤ R.cells) (hslots : slots + n.toNatClampNeg ≤ R.slots) (hS0 : va_S (fun q => sz0 ≤ q) u.heap H locs)
    (k : ∀ H1 : Heap, fx_rep D dA scr sz0 (fx_newa s tag n.toNatClampNeg) H1 → va_S (fun q => sz0 ≤ q) u.heap H1 locs → W p l e R u m args below meth c H1 locs (cells + 1) (slots + n.toNatClampNeg) Qf (F0 m (pc + 2) LS (.ref (fx_nx s) :: rest))) : W p l e R u m args below meth c H locs cells slots Qf (F0 m pc LS (.int n :: rest)) := by
  obtain ⟨hx, hb, hml, hown, hts, hnm, hfr, hlo, hctx⟩ := I
  have hra := (hctx.1.2 t0 _ hty).2
  refine va_newaK hx hb (hts _ hw) rfl hd rfl hn rfl ?_ hcells hslots hrep.1 fun H1 cA e1 z1 o1 hAr hNm => ?_
  · rcases htag with ⟨-, h⟩ | ⟨-, h⟩ | ⟨-, h⟩ <;> rw [h] <;> simp only [componentBytes] <;> omega
  have hcA : cA = dA tag := by
    have : u.vm.findClass ("[" ++ (newarray.typeOf atype).toString) = some (dA tag) := by
      rcases htag with ⟨-, h⟩ | ⟨-, h⟩ | ⟨-, h⟩ <;> rw [h] at hra ⊢ <;> exact hra
    exact Option.some.inj (hNm.symm.trans this)
  subst hcA
  rw [← hrep.1] at z1 o1
  have hk0 : fx_kd (fx_newa s tag n.toNatClampNeg) (fx_nx s) = tag := by
    show fx_at (fx_kd s) (fx_nx s) tag (fx_nx s) = _
    simp [fx_at]
  have hl0 : fx_ln (fx_newa s tag n.toNatClampNeg) (fx_nx s) = n.toNatClampNeg := by
    show fx_at (fx_ln s) (fx_nx s) n.toNatClampNeg (fx_nx s) = _
    simp [fx_at]
  have ha0 : fx_ai (fx_newa s tag n.toNatClampNeg) (fx_nx s) = fun _ => 0 := by
    show fx_at (fx_ai s) (fx_nx s) (fun _ => 0) (fx_nx s) = _
    simp [fx_at]
  have hg0 : fx_al (fx_newa s tag n.toNatClampNeg) (fx_nx s) = fun _ => 0 := by
    show fx_at (fx_al s) (fx_nx s) (fun _ => 0) (fx_nx s) = _
    simp [fx_at]
  refine k H1 (hrep.push (tag := tag) z1 o1 rfl rfl hfresh (fun b hb => ⟨fun g => rfl, fun g => rfl, ?_, ?_, ?_, ?_⟩) ?_) (fx_S_push hS0 z1 o1)
  · show fx_at (fx_ln s) (fx_nx s) n.toNatClampNeg b = _
    simp [fx_at, hb]
  · show fx_at (fx_ai s) (fx_nx s) (fun _ => 0) b = _
    simp [fx_at, hb]
  · show fx_at (fx_ar s) (fx_nx s) (fun _ => none) b = _
    simp [fx_at, hb]
  · show fx_at (fx_al s) (fx_nx s) (fun _ => 0) b = _
    simp [fx_at, hb]
  · refine ⟨fun cj r' g1 g2 => ?_, fun g => ?_, fun g => ?_, fun g => ?_, fun g => ?_, fun g => ?_⟩
    · have hcj : cj < 13 := (List.getElem?_eq_some_iff.mp g2).1
      rw [hk0] at g1
      omega
    · rw [hk0] at g
      rw [hl0, ha0, ← g, e1]
      rcases htag with ⟨h0, h⟩ | ⟨h0, h⟩ | ⟨h0, h⟩
      · rw [h]; rfl
      · omega
      · omega
    · rw [hk0] at g
      rw [hl0, ha0, ← g, e1]
      rcases htag with ⟨h0, h⟩ | ⟨h0, h⟩ | ⟨h0, h⟩
      · omega
      · rw [h]; rfl
      · omega
    · rw [hk0] at g
      rw [hl0, hg0, ← g, e1]
      rcases htag with ⟨h0, h⟩ | ⟨h0, h⟩ | ⟨h0, h⟩
      · omega
      · omega
      · rw [h]; rfl
    · rw [hk0] at g
      simp only [fx_ia, Bool.or_eq_true, beq_iff_eq] at g
      omega
    · rw [hk0] at g
      omega
theorem fx_newr (I : fx_in mi p R u m args meth c D dA scr) {ci : Nat} {r : vw_C} (hr : fx_cl[ci]? = some r) (hia : fx_ia (40 + ci) = true) (hd : decode (fx_cc mi) pc = .ok (.anewarray idx, 3)) (hlk : Cond.classLink (fx_yy mi).cls idx r.1 ∈ fx_T1) (hov : Cond.arrayOver (.object r.1) ∈ lw_tbl) (hfresh : fx_fresh s) (hrep : fx_rep D dA scr sz0 s H) {n : Int32} (hn : ¬ n < 0) (hn2 : n.toNatClampNeg ≤ 40000) (hcells : cells + 1 ≤ R.cells) (hslots : slots + n.toNatClampNeg ≤ R.slots) (hS0 : va_S (fun q => sz0 ≤ q) u.heap H locs)
    (k : ∀ H1 : Heap, fx_rep D dA scr sz0 (fx_newa s (40 + ci) n.toNatClampNeg) H1 → va_S (fun q => sz0 ≤ q) u.heap H1 locs → W p l e R u m args below meth c H1 locs (cells + 1) (slots + n.toNatClampNeg) Qf (F0 m (pc + 3) LS (.ref (fx_nx s) :: rest))) : W p l e R u m args below meth c H locs cells slots Qf (F0 m pc LS (.int n :: rest)) := by
  obtain ⟨hx, hb, hml, hown, hts, hnm, hfr, hlo, hctx⟩ := I
  obtain ⟨t, r', ht, hr'⟩ := fx_tys_ia dA hia
  rw [show 40 + ci - 40 = ci by omega] at hr'
  cases hr.symm.trans hr'
  obtain ⟨kA, comp, k1, k2, k3, k4⟩ := (hctx.1.2 t _ ht).2
  refine W.anew hx hb hown (hts _ hlk) (va_AO.use (hctx.2.2.1 _ hov)) rfl hd rfl hn (by omega) hcells hslots fun cA kA' comp' f1 f2 f3 f4 => ?_
  have hcA : cA = dA (40 + ci) := Option.some.inj (f1.symm.trans k4)
  subst hcA
  generalize hH1 : H.push ({ cls := dA (40 + ci), slots := Array.replicate n.toNatClampNeg .null, vm := .none } : Cell) = H1
  have z1 : H1.size = H.size + 1 := by rw [← hH1, Array.size_push]
  have e1 : H1[H.size]? = some (arrV (dA (40 + ci)) n.toNatClampNeg (fun _ => .null)) := by rw [← hH1, Array.getElem?_push_size, ← arrV_new]
  have o1 : ∀ q : Nat, q < H.size → H1[q]? = H[q]? := fun q hq => by rw [← hH1, Array.getElem?_push, if_neg (Nat.ne_of_lt hq)]
  rw [hrep.1] at e1
  have hk0 : fx_kd (fx_newa s (40 + ci) n.toNatClampNeg) (fx_nx s) = 40 + ci := by
    show fx_at (fx_kd s) (fx_nx s) (40 + ci) (fx_nx s) = _
    simp [fx_at]
  have hl0 : fx_ln (fx_newa s (40 + ci) n.toNatClampNeg) (fx_nx s) = n.toNatClampNeg := by
    show fx_at (fx_ln s) (fx_nx s) n.toNatClampNeg (fx_nx s) = _
    simp [fx_at]
  have ha0 : fx_ar (fx_newa s (40 + ci) n.toNatClampNeg) (fx_nx s) = fun _ => none := by
    show fx_at (fx_ar s) (fx_nx s) (fun _ => none) (fx_nx s) = _
    simp [fx_at]
  have hcl : ci < 13 := (List.getElem?_eq_some_iff.mp hr).1
  rw [show H.size = fx_nx s from hrep.1]
  refine k H1 (hrep.push (tag := 40 + ci) z1 o1 rfl rfl hfresh (fun b hb => ⟨fun g => rfl, fun g => rfl, ?_, ?_, ?_, ?_⟩) ?_) (fx_S_push hS0 z1 o1)
  · show fx_at (fx_ln s) (fx_nx s) n.toNatClampNeg b = _
    simp [fx_at, hb]
  · show fx_at (fx_ai s) (fx_nx s) (fun _ => 0) b = _
    simp [fx_at, hb]
  · show fx_at (fx_ar s) (fx_nx s) (fun _ => none) b = _
    simp [fx_at, hb]
  · show fx_at (fx_al s) (fx_nx s) (fun _ => 0) b = _
    simp [fx_at, hb]
  · refine ⟨fun cj r' g1 g2 => ?_, fun g => by omega, fun g => by omega, fun g => by omega, fun g => ?_, fun g => by omega⟩
    · have hcj : cj < 13 := (List.getElem?_eq_some_iff.mp g2).1
      rw [hk0] at g1
      omega
    · rw [hk0, hl0, ha0]
      exact e1
/-- arrays are read -/
theorem fx_aldI (I : fx_in mi p R u m args meth c D dA scr) (hd : decode (fx_cc mi) pc = .ok (.iaload, 1)) (hka : fx_kd s a = 70 ∨ fx_kd s a = 73) (hrep : fx_rep D dA scr sz0 s H) {j : Int32} (hin : vp_in j (fx_ln s a))
    (k : W p l e R u m args below meth c H locs cells slots Qf (F0 m (pc + 1) LS (.int (fx_ai s a j.toNatClampNeg) :: rest))) : W p l e R u m args below meth c H locs cells slots Qf (F0 m pc LS (.int j :: .ref a :: rest)) := by
  obtain ⟨hx, hb, hml, hown, hts, hnm, hfr, hlo, hctx⟩ := I
  have hlt : j.toNatClampNeg < fx_ln s a := Nat.not_le.mp fun q => hin (Or.inr q)
  obtain ⟨-, h2, -, -, -, h6⟩ := hrep.2.2.2 a
  rcases hka with h | h
  · exact W.iald (v := .int (fx_ai s a j.toNatClampNeg)) hx hb (h2 h) ((hctx.1.2 0 _ rfl).1 _ _) (fun q => by cases q) (by rw [arrV_size]; exact hin) (by rw [arrV_read _ _ hlt]) rfl rfl hd k
  · obtain ⟨g1, g2, g3, g4⟩ := h6 h
    exact W.iald (v := .int (fx_ai s a j.toNatClampNeg)) hx hb g1 hctx.2.2.2 g2 (by rw [g3]; exact hin) (g4 _ hlt) rfl rfl hd k
theorem fx_aldZ (I : fx_in mi p R u m args meth c D dA scr) (hd : decode (fx_cc mi) pc = .ok (.baload, 1)) (hka : fx_kd s a = 71) (hrep : fx_rep D dA scr sz0 s H) {j : Int32} (hin : vp_in j (fx_ln s a))
    (k : W p l e R u m args below meth c H locs cells slots Qf (F0 m (pc + 1) LS (.int (fx_ai s a j.toNatClampNeg) :: rest))) : W p l e R u m args below meth c H locs cells slots Qf (F0 m pc LS (.int j :: .ref a :: rest)) := by
  obtain ⟨hx, hb, hml, hown, hts, hnm, hfr, hlo, hctx⟩ := I
  have hlt : j.toNatClampNeg < fx_ln s a := Nat.not_le.mp fun q => hin (Or.inr q)
  obtain ⟨-, -, h3, -, -, -⟩ := hrep.2.2.2 a
  exact W.zald (v := .int (fx_ai s a j.toNatClampNeg)) hx hb (h3 hka) ((hctx.1.2 1 _ rfl).1 _ _) (fun q => by cases q) (by rw [arrV_size]; exact hin) (by rw [arrV_read _ _ hlt]) rfl rfl hd k
theorem fx_aldL (I : fx_in mi p R u m args meth c D dA scr) (hd : decode (fx_cc mi) pc = .ok (.laload, 1)) (hka : fx_kd s a = 72) (hrep : fx_rep D dA scr sz0 s H) {j : Int32} (hin : vp_in j (fx_ln s a))
    (k : W p l e R u m args below meth c H locs cells slots Qf (F0 m (pc + 1) LS (.long (fx_al s a j.toNatClampNeg) :: rest))) : W p l e R u m args below meth c H locs cells slots Qf (F0 m pc LS (.int j :: .ref a :: rest)) := by
  obtain ⟨hx, hb, hml, hown, hts, hnm, hfr, hlo, hctx⟩ := I
  have hlt : j.toNatClampNeg < fx_ln s a := Nat.not_le.mp fun q => hin (Or.inr q)
  obtain ⟨-, -, -, h4, -, -⟩ := hrep.2.2.2 a
  exact W.lald (v := .long (fx_al s a j.toNatClampNeg)) hx hb (h4 hka) ((hctx.1.2 2 _ rfl).1 _ _) (fun q => by cases q) (by rw [arrV_size]; exact hin) (by rw [arrV_read _ _ hlt]) rfl rfl hd k
theorem fx_aldR (I : fx_in mi p R u m args meth c D dA scr) (hd : decode (fx_cc mi) pc = .ok (.aaload, 1)) (hka : fx_ia (fx_kd s a) = true) (hrep : fx_rep D dA scr sz0 s H) {j : Int32} (hin : vp_in j (fx_ln s a))
    (k : W p l e R u m args below meth c H locs cells slots Qf (F0 m (pc + 1) LS (va_rf (fx_ar s a j.toNatClampNeg) :: rest))) : W p l e R u m args below meth c H locs cells slots Qf (F0 m pc LS (.int j :: .ref a :: rest)) := by
  obtain ⟨hx, hb, hml, hown, hts, hnm, hfr, hlo, hctx⟩ := I
  have hlt : j.toNatClampNeg < fx_ln s a := Nat.not_le.mp fun q => hin (Or.inr q)
  obtain ⟨-, -, -, -, h5, -⟩ := hrep.2.2.2 a
  obtain ⟨t, r, ht, -⟩ := fx_tys_ia dA hka
  exact W.aald (v := va_rf (fx_ar s a j.toNatClampNeg)) (ty := .object r.1) hx hb (h5 hka) ((hctx.1.2 t _ ht).1 _ _) rfl (fun q => by cases q) (by rw [arrV_size]; exact hin) (by rw [arrV_read _ _ hlt]) rfl rfl hd k
end
