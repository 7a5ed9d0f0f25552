/-! ROWS OF THE MACHINE over the pure heap: fields, objects, arrays -/
theorem fx_cls_in {ci : Nat} {r : vw_C} (h : fx_cl[ci]? = some r) : ∀ w ∈ u_ws r.1 r.2.1 r.2.2, w ∈ fx_T1 := by
  intro w hw
  obtain ⟨k, hk, rfl⟩ := List.mem_map.mp hw
  have h1 := fx_clsF h
  simp only [fx_okF, Bool.and_eq_true] at h1
  exact fx_wd_in (List.all_eq_true.mp h1.1.1.1.2 k hk)
theorem fx_cls_w {ci : Nat} {r : vw_C} (h : fx_cl[ci]? = some r) : Cond.initialized r.1 ∈ fx_T1 ∧ Cond.instantiable r.1 r.2.2 ∈ fx_T1 ∧ r.2.2 < 64 := by
  have h1 := fx_clsF h
  simp only [fx_okF, Bool.and_eq_true] at h1
  exact ⟨fx_wd_in h1.1.1.2, fx_wd_in h1.1.2, by simpa [Nat.blt_eq] using h1.2⟩
theorem fx_cls_t {ci : Nat} {r : vw_C} (h : fx_cl[ci]? = some r) {k : Nat} (hk : k < r.2.2) : parseFieldDescriptor (r.2.1 k).2.2.1 = some (fx_ty ci k) ∧ (r.2.1 k).1 = r.1 ∧ (fx_ft (64 * ci + k) = 0 → fx_ty ci k = .int) ∧ (fx_ft (64 * ci + k) = 1 → fx_ty ci k = .boolean) ∧ (2 ≤ fx_ft (64 * ci + k) → fx_isRT (fx_ty ci k) = true) := by
  have h1 := fx_clsF h
  simp only [fx_okF, Bool.and_eq_true] at h1
  have h2 := List.all_eq_true.mp h1.1.1.1.1 k (List.mem_range.mpr hk)
  simp only [Bool.and_eq_true, decide_eq_true_eq] at h2
  obtain ⟨⟨g1, g2⟩, g3⟩ := h2
  refine ⟨g1, g2, fun e => ?_, fun e => ?_, fun e => ?_⟩
  · rw [e] at g3; simpa using g3
  · rw [e] at g3; simpa using g3
  · match hf : fx_ft (64 * ci + k), e, g3 with
    | 0, e, _ => omega
    | 1, e, _ => omega
    | n + 2, _, g3 => exact g3
theorem fx_cls_n {ci : Nat} {r : vw_C} (h : fx_cl[ci]? = some r) : ∀ a, a < r.2.2 → ∀ b, b < r.2.2 → a ≠ b → (r.2.1 a).2.1 ≠ (r.2.1 b).2.1 := by
  intro a ha b hb hne
  have h1 := fx_clsD h
  simp only [fx_okD] at h1
  have h2 := List.all_eq_true.mp (List.all_eq_true.mp h1 a (List.mem_range.mpr ha)) b (List.mem_range.mpr hb)
  simp only [Bool.or_eq_true, beq_iff_eq, Bool.not_eq_true'] at h2
  rcases h2 with h2 | h2
  · exact absurd h2 hne
  · exact fun q => by rw [q] at h2; simp at h2
theorem fx_cls_ex {ci : Nat} (h : ci < 13) : ∃ r, fx_cl[ci]? = some r := ⟨_, List.getElem?_eq_getElem (show ci < fx_cl.length from h)⟩
theorem fx_F_eq {f : Nat} {r : vw_C} (h : fx_cl[f / 64]? = some r) : fx_F f = r.2.1 (f % 64) ∧ fx_Nf f = r.2.2 := by
  unfold fx_F fx_Nf
  rw [List.getD_eq_getElem?_getD, h]
  exact ⟨rfl, rfl⟩
theorem fx_Cn_eq {ci : Nat} {r : vw_C} (h : fx_cl[ci]? = some r) : fx_Cn ci = r.1 ∧ fx_Cs ci = r.2.2 := by
  unfold fx_Cn fx_Cs
  rw [List.getD_eq_getElem?_getD, h]
  exact ⟨rfl, rfl⟩
section
variable {p : Program} {l : Launch} {e : Env} {R : Room} {u : State} {m : MethodId} {args : Array Value} {below : List Frame} {meth : Method} {c : Code} {Qf : State → Prop} {D : va_G} {dA : Nat → ClassId} {scr : Cell} {sz0 : Nat} {mi pc : Nat} {s : fx_S} {H : Heap} {locs : List Loc} {cells slots : Nat} {LS : Array Slot} {rest : List Value} {a f idx : Nat}
theorem fx_apart (I : fx_in mi p R u m args meth c D dA scr) {ci : Nat} {r : vw_C} (h : fx_cl[ci]? = some r) : ∀ x y, x < r.2.2 → y < r.2.2 → x ≠ y → D.2 ci x ≠ D.2 ci y := by
  obtain ⟨hx, hb, hml, hown, hts, hnm, hfr, hlo, hctx⟩ := I
  exact va_apart (own := r.1) (T := r.2.1) (C := r.1) (N := r.2.2) hts (fx_cls_in h) (fx_ty ci) (fun k hk => (fx_cls_t h hk).1) (fx_cls_n h) hctx.1 h
theorem fx_getf (I : fx_in mi p R u m args meth c D dA scr) (hd : decode (fx_cc mi) pc = .ok (.getfield idx, 3)) (hlk : Cond.fieldLink (fx_yy mi).cls idx (fx_F f).1 (fx_F f).2.1 (fx_F f).2.2.1 ∈ fx_T1) (hf1 : f / 64 < 13) (hf2 : f % 64 < fx_Nf f) (hka : fx_kd s a = 10 + f / 64) (hrep : fx_rep D dA scr sz0 s H)
    (k : W p l e R u m args below meth c H locs cells slots Qf (F0 m (pc + 3) LS (fx_fv s f a :: rest))) : W p l e R u m args below meth c H locs cells slots Qf (F0 m pc LS (.ref a :: rest)) := by
  obtain ⟨r, hr⟩ := fx_cls_ex hf1
  obtain ⟨e1, e2⟩ := fx_F_eq hr
  rw [e1] at hlk
  rw [e2] at hf2
  obtain ⟨cell, q1, q2, q3, q4⟩ := (hrep.2.2.2 a).1 (f / 64) r hka hr
  obtain ⟨hx, hb, hml, hown, hts, hnm, hfr, hlo, hctx⟩ := I
  obtain ⟨hS, hfc, kC, hkC, hkind⟩ := hctx.1.1 (f / 64) _ hr
  obtain ⟨cf, kf, fi, fd, hi, hsl⟩ := hS (f % 64) hf2
  refine W.getf hx hb hown (hts _ hlk) hi (u_facts hfc hkC (u_lays hts (fx_cls_in hr) hf2) hi).1 q1 (by rw [q3]; exact fun h => by cases h) (v := fx_fv s f a) ?_ rfl rfl hd k
  rw [hsl, q4 (f % 64) hf2]
  show some (fx_fv s (64 * (f / 64) + f % 64) a) = _
  rw [show 64 * (f / 64) + f % 64 = f by omega]
theorem fx_putf (I : fx_in mi p R u m args meth c D dA scr) (hd : decode (fx_cc mi) pc = .ok (.putfield idx, 3)) (hlk : Cond.fieldLink (fx_yy mi).cls idx (fx_F f).1 (fx_F f).2.1 (fx_F f).2.2.1 ∈ fx_T1) (hf1 : f / 64 < 13) (hf2 : f % 64 < fx_Nf f) (hfin : (fx_F f).2.2.2 = false ∨ ((fx_yy mi).name = "<init>" ∧ (fx_yy mi).cls = (fx_F f).1)) (hka : fx_kd s a = 10 + f / 64) (hrep : fx_rep D dA scr sz0 s H) {v : Value} (hn : narrow (fx_ty (f / 64) (f % 64)) v = v) (hfit : fits (fx_ty (f / 64) (f % 64)) v = true) (hS0 : va_S (fun q => sz0 ≤ q) u.heap H locs)
    (k : ∀ (H1 : Heap) (locs1 : List Loc) (cell : Cell), H[a]? = some cell → H1[a]? = some (cell.setSlot (D.2 (f / 64) (f % 64)) v) → H1.size = H.size → (∀ q, q ≠ a → H1[q]? = H[q]?) → va_S (fun q => sz0 ≤ q) u.heap H1 locs1 → W p l e R u m args below meth c H1 locs1 cells slots Qf (F0 m (pc + 3) LS rest)) : W p l e R u m args below meth c H locs cells slots Qf (F0 m pc LS (v :: .ref a :: rest)) := by
  obtain ⟨r, hr⟩ := fx_cls_ex hf1
  obtain ⟨e1, e2⟩ := fx_F_eq hr
  rw [e1] at hlk hfin
  rw [e2] at hf2
  have hsz : sz0 ≤ a := hrep.2.2.1 a (by omega) (by omega)
  obtain ⟨cell, q1, q2, q3, q4⟩ := (hrep.2.2.2 a).1 (f / 64) r hka hr
  obtain ⟨hx, hb, hml, hown, hts, hnm, hfr, hlo, hctx⟩ := I
  obtain ⟨hS, hfc, kC, hkC, hkind⟩ := hctx.1.1 (f / 64) _ hr
  obtain ⟨cf, kf, fi, fd, hi, hsl⟩ := hS (f % 64) hf2
  have hty := (fx_cls_t hr hf2).1
  have hlay := hts _ (fx_cls_in hr _ (u_in_lay hf2))
  have hst := (u_facts hfc hkC (u_lays hts (fx_cls_in hr) hf2) hi).1
  by_cases hf : (r.2.1 (f % 64)).2.2.2 = false
  · unfold u_lay at hlay
    rw [if_neg (by rw [hf]; decide)] at hlay
    have h6 := u_store hfc hkC hkind hlay hi hty hn hfit
    refine W.putK hx hb (f := fd) ⟨hown, hts _ hlk, ⟨_, _, _, hi⟩, hst⟩ (by rw [q2]; exact h6) q1 q3 (by rw [hsl]; exact k2_hasslot (q4 _ hf2)) rfl rfl hd fun H' e1 e2 e3 => ?_
    rw [hsl] at e1 ⊢
    exact k H' _ cell q1 e1 e2 e3 (hS0.put e2 e3 hsz)
  · have hf' : (r.2.1 (f % 64)).2.2.2 = true := by simpa using hf
    obtain ⟨hi1, hi2⟩ := hfin.resolve_left hf
    unfold u_lay at hlay
    rw [if_pos hf'] at hlay
    have hcf : m.cls = cf := by
      obtain ⟨_, _, c', _, _, _, -, -, hf', -, -, -, hown2, -⟩ := Cond.laysFinal_spec hlay
      have e1 : c' = cf := by have := hi.symm.trans hf'; simp at this; exact this.1.symm
      rw [← hi2] at hown2
      rw [← e1]; exact Option.some.inj (hown.symm.trans hown2)
    have h6 := u_fits hfc hkC hkind (Or.inr hlay) hi hty hn hfit
    refine W.putFinK hx hb hown (hts _ hlk) hi hst hcf (by rw [hnm]; exact hi1) (by rw [q2]; exact h6) q1 q3 (by rw [hsl]; exact k2_hasslot (q4 _ hf2)) rfl rfl hd fun H' e1 e2 e3 => ?_
    rw [hsl] at e1 ⊢
    exact k H' _ cell q1 e1 e2 e3 (hS0.put e2 e3 hsz)
theorem fx_fv_i {t : fx_S} {g b : Nat} (h : fx_ft g ≤ 1) : fx_fv t g b = .int (fx_fi t g b) := by
  unfold fx_fv
  rw [Nat.ble_eq_true_of_le h]
  rfl
theorem fx_fv_r {t : fx_S} {g b : Nat} (h : 2 ≤ fx_ft g) : fx_fv t g b = va_rf (fx_fr t g b) := by
  unfold fx_fv
  have : Nat.ble (fx_ft g) 1 = false := by
    cases q : Nat.ble (fx_ft g) 1
    · rfl
    · have := Nat.le_of_ble_eq_true q; omega
  rw [this]
  rfl
theorem fx_puti (I : fx_in mi p R u m args meth c D dA scr) (hd : decode (fx_cc mi) pc = .ok (.putfield idx, 3)) (hlk : Cond.fieldLink (fx_yy mi).cls idx (fx_F f).1 (fx_F f).2.1 (fx_F f).2.2.1 ∈ fx_T1) (hf1 : f / 64 < 13) (hf2 : f % 64 < fx_Nf f) (hfin : (fx_F f).2.2.2 = false ∨ ((fx_yy mi).name = "<init>" ∧ (fx_yy mi).cls = (fx_F f).1)) (hka : fx_kd s a = 10 + f / 64) (hrep : fx_rep D dA scr sz0 s H) {x : Int32} (ht : fx_ft f ≤ 1) (hx1 : fx_ft f = 1 → x = 0 ∨ x = 1) (hS0 : va_S (fun q => sz0 ≤ q) u.heap H locs)
    (k : ∀ (H1 : Heap) (locs1 : List Loc), fx_rep D dA scr sz0 (fx_sfi s f a x) H1 → va_S (fun q => sz0 ≤ q) u.heap H1 locs1 → W p l e R u m args below meth c H1 locs1 cells slots Qf (F0 m (pc + 3) LS rest)) : W p l e R u m args below meth c H locs cells slots Qf (F0 m pc LS (.int x :: .ref a :: rest)) := by
  obtain ⟨r, hr⟩ := fx_cls_ex hf1
  have hk2 : f % 64 < r.2.2 := by rw [← (fx_F_eq hr).2]; exact hf2
  have hff : 64 * (f / 64) + f % 64 = f := by omega
  obtain ⟨-, -, t0, t1, -⟩ := fx_cls_t hr hk2
  rw [hff] at t0 t1
  have hnf : narrow (fx_ty (f / 64) (f % 64)) (.int x) = .int x ∧ fits (fx_ty (f / 64) (f % 64)) (.int x) = true := by
    rcases (show fx_ft f = 0 ∨ fx_ft f = 1 by omega) with h | h
    · rw [t0 h]; exact ⟨rfl, rfl⟩
    · rw [t1 h]
      rcases hx1 h with e | e <;> subst e <;> exact ⟨by decide, by decide⟩
  refine fx_putf I hd hlk hf1 hf2 hfin hka hrep hnf.1 hnf.2 hS0 fun H1 locs1 cell g1 g2 g3 g4 g5 => k H1 locs1 ?_ g5
  refine hrep.field hka hr hk2 (fx_cls_w hr).2.2 (fx_apart I hr) g1 g2 g3 g4 rfl rfl rfl rfl rfl rfl (fun b hb => ⟨fun g => fx_up_ne (fun q => hb q.2), fun g => rfl⟩) ?_ (fun j hj hj2 => ?_)
  · rw [hff, fx_fv_i ht]
    exact congrArg Value.int (fx_up_same _ _ _ _)
  · unfold fx_fv
    have : fx_fi (fx_sfi s f a x) (64 * (f / 64) + j) a = fx_fi s (64 * (f / 64) + j) a := fx_up_ne (fun q => hj (by omega))
    rw [this]
    rfl
theorem fx_putr (I : fx_in mi p R u m args meth c D dA scr) (hd : decode (fx_cc mi) pc = .ok (.putfield idx, 3)) (hlk : Cond.fieldLink (fx_yy mi).cls idx (fx_F f).1 (fx_F f).2.1 (fx_F f).2.2.1 ∈ fx_T1) (hf1 : f / 64 < 13) (hf2 : f % 64 < fx_Nf f) (hfin : (fx_F f).2.2.2 = false ∨ ((fx_yy mi).name = "<init>" ∧ (fx_yy mi).cls = (fx_F f).1)) (hka : fx_kd s a = 10 + f / 64) (hrep : fx_rep D dA scr sz0 s H) {v : Option Nat} (ht : 2 ≤ fx_ft f) (hS0 : va_S (fun q => sz0 ≤ q) u.heap H locs)
    (k : ∀ (H1 : Heap) (locs1 : List Loc), fx_rep D dA scr sz0 (fx_sfr s f a v) H1 → va_S (fun q => sz0 ≤ q) u.heap H1 locs1 → W p l e R u m args below meth c H1 locs1 cells slots Qf (F0 m (pc + 3) LS rest)) : W p l e R u m args below meth c H locs cells slots Qf (F0 m pc LS (va_rf v :: .ref a :: rest)) := by
  obtain ⟨r, hr⟩ := fx_cls_ex hf1
  have hk2 : f % 64 < r.2.2 := by rw [← (fx_F_eq hr).2]; exact hf2
  have hff : 64 * (f / 64) + f % 64 = f := by omega
  obtain ⟨-, -, -, -, t2⟩ := fx_cls_t hr hk2
  rw [hff] at t2
  have hnf : narrow (fx_ty (f / 64) (f % 64)) (va_rf v) = va_rf v ∧ fits (fx_ty (f / 64) (f % 64)) (va_rf v) = true := by
    have h := t2 ht
    cases hty : fx_ty (f / 64) (f % 64) <;> rw [hty] at h <;> first | (cases h; done) | (cases v <;> exact ⟨rfl, rfl⟩)
  refine fx_putf I hd hlk hf1 hf2 hfin hka hrep hnf.1 hnf.2 hS0 fun H1 locs1 cell g1 g2 g3 g4 g5 => k H1 locs1 ?_ g5
  refine hrep.field hka hr hk2 (fx_cls_w hr).2.2 (fx_apart I hr) g1 g2 g3 g4 rfl rfl rfl rfl rfl rfl (fun b hb => ⟨fun g => rfl, fun g => fx_up_ne (fun q => hb q.2)⟩) ?_ (fun j hj hj2 => ?_)
  · rw [hff, fx_fv_r ht]
    exact congrArg va_rf (fx_up_same _ _ _ _)
  · unfold fx_fv
    have : fx_fr (fx_sfr s f a v) (64 * (f / 64) + j) a = fx_fr s (64 * (f / 64) + j) a := fx_up_ne (fun q => hj (by omega))
    rw [this]
    rfl
end
