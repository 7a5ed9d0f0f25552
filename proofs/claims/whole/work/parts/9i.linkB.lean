/-! LINKS: link -/
section
variable {M : rf_M}
/-- it may be done -/
def slk (M : rf_M) (a b : Nat) (p : Bool) : Prop := p = true ∨ (2 < fx_ow (rz M ff_Mod_closed) a 4 ∧ 2 < fx_ow (rz M ff_Mod_closed) (nb (rn M ff_Mod_n 0) a b) 4 ∧ ∃ k, WK (lk2 (rz M ff_Mod_closed) (rn M ff_Mod_n 0) a b true) (rn M ff_Mod_n 0) (nb (rn M ff_Mod_n 0) a b) k a)
theorem slink_get {a b : Nat} {p : Bool} (ha : a < 64) (hb : b < 4) (h : slink M (nI a) (nI b) p = true) : rn M ff_Mod_mode 0 ≠ 1 ∧ rz M ff_Mod_closed (4 * a + b) = p ∧ sq M ((rn M ff_Mod_all 0)) = true := by
  unfold slink at h
  rw [nI_clamp (by omega), nI_clamp (by omega)] at h
  simp only [Bool.and_eq_true, Bool.not_eq_true', beq_iff_eq, beq_eq_false_iff_ne] at h
  exact ⟨h.1.1.2, h.1.2, h.2⟩
theorem quiet0 (hJ : JV M (fun k => k < (rn M ff_Mod_notes 0))) (h : sq M ((rn M ff_Mod_all 0)) = true) : (rn M ff_Mod_flits 0) = 0 := by
  have key : ∀ N, sq M N = true → (rn M ff_Mod_flits 0) = 0 := by
    intro N
    induction N with
    | zero => intro h; unfold sq at h; simp only [Bool.and_eq_true, beq_iff_eq] at h; exact h.2
    | succ N ih => intro h; unfold sq at h; simp only [Bool.and_eq_true, beq_iff_eq] at h; exact ih h.1.1
  exact key _ h
theorem lk_ji {N : rf_M} (hJ : JI M) (hI : RI N) (e : N = om_mlk M N) (hf : (rn M ff_Mod_flits 0) = 0) (hm : rn M ff_Mod_mode 0 ≠ 1) : JI N := by
  have h5 : J5 N := by
    intro v hv
    have : (rn N ff_Mod_flits 0) = 0 := by rw [e]; exact hf
    rw [this]
    exact Nat.zero_le _
  have h14 : J14 N := by
    intro h1
    have h2 : rn N ff_Mod_mode 0 = rn M ff_Mod_mode 0 := by rw [e]; rfl
    exact absurd (h2.symm.trans h1) hm
  rw [e] at hI h5 h14 ⊢
  exact hJ.mlk hI h5 h14
theorem link_ok {a b : Nat} {p : Bool} (hJ : JI M) (hN : JN M) (ha : a < (rn M ff_Mod_all 0)) (hb : b < 4) (hs : slink M (nI a) (nI b) p = true) {M2 : rf_M} {j : Bool} (hM : MS (om_cl (om_t0 M) a b (!p)) M2 j) :
    (smays M M2 j a b p = true ↔ slk M a b p) ∧ (slk M a b p → JI M2 ∧ JN M2 ∧ M2 = om_mlk M M2 ∧ rz M2 ff_Mod_closed = lk2 (rz M ff_Mod_closed) (rn M ff_Mod_n 0) a b (!p)) ∧ ∀ M4 j4, MS (om_cl M2 a b p) M4 j4 → JI M4 ∧ JN M4 ∧ M4 = om_mlk M M4 ∧ rz M4 ff_Mod_closed = rz M ff_Mod_closed := by
  have h64 := hJ.1.all64
  obtain ⟨n2, n9, nn⟩ := hJ.1.n2
  obtain ⟨s1, s2, s3⟩ := slink_get (by omega) hb hs
  have f0 := quiet0 hJ.1 s3
  have hnb : nb (rn M ff_Mod_n 0) a b < (rn M ff_Mod_all 0) := by rw [nn]; exact nb_lt (by omega) (by rw [← nn]; exact ha)
  have hne : nb (rn M ff_Mod_n 0) a b ≠ a := nb_ne n9 n2 (by rw [← nn]; exact ha) hb
  have hwb := wb_lt hb
  have s2' : rz M ff_Mod_closed (4 * nb (rn M ff_Mod_n 0) a b + wb b) = p := by rw [← hN.1 a b ha hb]; exact s2
  obtain ⟨m1, m2, m3, m4, -, -⟩ := id hM
  have ecl : rz (om_cl (om_t0 M) a b (!p)) ff_Mod_closed = lk2 (rz M ff_Mod_closed) (rn M ff_Mod_n 0) a b (!p) := funext (fun i => cl_rz)
  have en : rn (om_cl (om_t0 M) a b (!p)) ff_Mod_n 0 = rn M ff_Mod_n 0 := by
    unfold om_cl om_t0
    rw [rn_pe (by decide), rn_pe (by decide), rn_pe (by decide)]
  have eA : (rn (om_cl (om_t0 M) a b (!p)) ff_Mod_all 0) = (rn M ff_Mod_all 0) := by
    unfold om_cl om_t0
    rw [rn_pe (by decide), rn_pe (by decide), rn_pe (by decide)]
  have o2 : ∀ g i, g ≠ 768 → g ≠ 775 → g ≠ 776 → g ≠ 777 → M2 g i = M g i := by
    intro g i a1 a2 a3 a4
    rw [m1 g i a3 a4]
    unfold om_cl om_t0
    rw [fx_up_ne (fun q => a2 q.1), fx_up_ne (fun q => a2 q.1), fx_up_ne (fun q => a1 q.1)]
  have e2 := mlk_eq o2
  have c2 : rz M2 ff_Mod_closed = lk2 (rz M ff_Mod_closed) (rn M ff_Mod_n 0) a b (!p) := by
    rw [← ecl]; exact funext (fun i => sx_rz m1 (by decide) (by decide))
  have n22 : rn M2 ff_Mod_n 0 = rn M ff_Mod_n 0 := rn_eq (o2 _ _ (by decide) (by decide) (by decide) (by decide))
  have A2 : (rn M2 ff_Mod_all 0) = (rn M ff_Mod_all 0) := rn_eq (o2 _ _ (by decide) (by decide) (by decide) (by decide))
  have cs2 := lk_cs (q := !p) n2 n9 nn hN.1 ha hb
  have ji2 : JI M2 := lk_ji hJ m2 e2 f0 s1
  -- where all stay joined
  have jt : CO (lk2 (rz M ff_Mod_closed) (rn M ff_Mod_n 0) a b (!p)) (rn M ff_Mod_n 0) ((rn M ff_Mod_all 0)) → j = true := fun hC => MS.joined hM (by rw [en]; exact n2) (by rw [en]; exact n9) (by rw [en, eA]; exact nn) (by rw [ecl, en, eA]; exact hC)
  have jn2 : j = true → JN M2 := fun hj => MS.jn hM (by rw [ecl, en, eA]; exact cs2) hj
  have ow : p = false → fx_ow (rz M2 ff_Mod_closed) a 4 + 1 = fx_ow (rz M ff_Mod_closed) a 4 ∧ fx_ow (rz M2 ff_Mod_closed) (nb (rn M ff_Mod_n 0) a b) 4 + 1 = fx_ow (rz M ff_Mod_closed) (nb (rn M ff_Mod_n 0) a b) 4 := by
    intro hp
    subst hp
    refine ⟨lk_ow hb s2 (by rw [c2, lk2_eq, if_pos (Or.inl rfl)]; rfl) (fun i hi hne2 => ?_), lk_ow hwb s2' (by rw [c2, lk2_eq, if_pos (Or.inr rfl)]; rfl) (fun i hi hne2 => ?_)⟩
    · rw [c2, lk2_eq, if_neg (by omega)]
    · rw [c2, lk2_eq, if_neg (by omega)]
  have iff1 : smays M M2 j a b p = true ↔ slk M a b p := by
    unfold smays slk
    simp only [Bool.and_eq_true, Bool.or_eq_true, decide_eq_true_eq]
    cases p with
    | true =>
      refine ⟨fun _ => Or.inl rfl, fun _ => ⟨jt (fun u v hu hv => ?_), Or.inl rfl⟩⟩
      obtain ⟨k, hk⟩ := hN.co u v hu hv
      exact ⟨k, wk_mono (fun i hi => by
        rw [lk2_eq]
        split
        · rfl
        · exact hi) k v hk⟩
    | false =>
      obtain ⟨w1, w2⟩ := ow rfl
      constructor
      · rintro ⟨h1, h2⟩
        rcases h2 with h2 | h2
        · cases h2
        · refine Or.inr ⟨by omega, by omega, ?_⟩
          have hd := m4.mp h1 (nb (rn M ff_Mod_n 0) a b) a (by rw [eA]; exact hnb) (by rw [eA]; exact ha)
          have := (m3 (nb (rn M ff_Mod_n 0) a b) (by rw [eA]; exact hnb) a (by rw [eA]; exact ha)).2.1 hd
          rw [ecl, en] at this
          exact ⟨_, this⟩
      · rintro (h1 | ⟨h1, h2, k, hk⟩)
        · cases h1
        · exact ⟨jt (co_close n2 n9 nn hN.1 ha hb hN.co hk), Or.inr ⟨by omega, by omega⟩⟩
  refine ⟨iff1, fun hk => ⟨ji2, jn2 ?_, e2, c2⟩, fun M4 j4 h4 => ?_⟩
  · have := iff1.mpr hk
    unfold smays at this
    simp only [Bool.and_eq_true] at this
    exact this.1
  · obtain ⟨q1, q2, -, -, -, -⟩ := id h4
    have o4 : ∀ g i, g ≠ 768 → g ≠ 775 → g ≠ 776 → g ≠ 777 → M4 g i = M g i := by
      intro g i a1 a2 a3 a4
      rw [q1 g i a3 a4]
      unfold om_cl
      rw [fx_up_ne (fun q => a2 q.1), fx_up_ne (fun q => a2 q.1)]
      exact o2 g i a1 a2 a3 a4
    have e4 := mlk_eq o4
    have cc : rz (om_cl M2 a b p) ff_Mod_closed = rz M ff_Mod_closed := by
      funext i
      rw [cl_rz, c2, n22, lk2_eq]
      by_cases c : i = 4 * a + b ∨ i = 4 * nb (rn M ff_Mod_n 0) a b + wb b
      · rw [if_pos c]
        rcases c with c | c
        · rw [c, s2]
        · rw [c, s2']
      · rw [if_neg c, lk2_eq, if_neg c]
    have en4 : rn (om_cl M2 a b p) ff_Mod_n 0 = rn M ff_Mod_n 0 := by
      unfold om_cl
      rw [rn_pe (by decide), rn_pe (by decide), n22]
    have eA4 : (rn (om_cl M2 a b p) ff_Mod_all 0) = (rn M ff_Mod_all 0) := by
      unfold om_cl
      rw [rn_pe (by decide), rn_pe (by decide), A2]
    have hj4 : j4 = true := MS.joined h4 (by rw [en4]; exact n2) (by rw [en4]; exact n9) (by rw [en4, eA4]; exact nn) (by rw [cc, en4, eA4]; exact hN.co)
    refine ⟨lk_ji hJ q2 e4 f0 s1, MS.jn h4 (by rw [cc, en4, eA4]; exact hN.1) hj4, e4, ?_⟩
    rw [← cc]; exact funext (fun i => sx_rz q1 (by decide) (by decide))
end
section
variable {s t : fx_S} {Q : fx_Q} {x m a : Nat} {B H P : Nat → Nat} {C : Nat → Nat → Option Nat} {Y : Nat → Nat → Nat} {rt : Nat → List Nat} {K : Nat → Prop} {L : List Nat} {M N M6 : rf_M} {lv : Nat → Prop}
theorem k_link {v w : Int32} {p : Bool} (h : RA s x B H C Y P m rt K L M) (hJ : JI M) (hN : JN M) (k1 : slink M v w p = false → Q (some (vI (fx_bit false))) s)
    (k2 : ∀ a b, v = nI a → w = nI b → a < (rn M ff_Mod_all 0) → b < 4 → slink M v w p = true → slk M a b p → ∀ t, GF x s t → RGa t x (lk2 (rz M ff_Mod_closed) (rn M ff_Mod_n 0) a b (!p)) (rn M ff_Mod_n 0) ((rn M ff_Mod_all 0)) → RGb t x (lk2 (rz M ff_Mod_closed) (rn M ff_Mod_n 0) a b (!p)) (rn M ff_Mod_n 0) ((rn M ff_Mod_all 0)) → Q (some (vI (fx_bit true))) t)
    (k3 : ∀ a b, v = nI a → w = nI b → a < (rn M ff_Mod_all 0) → b < 4 → slink M v w p = true → ¬ slk M a b p → ∀ t, GF x s t → RGa t x (rz M ff_Mod_closed) (rn M ff_Mod_n 0) ((rn M ff_Mod_all 0)) → RGb t x (rz M ff_Mod_closed) (rn M ff_Mod_n 0) ((rn M ff_Mod_all 0)) → Q (some (vI (fx_bit false))) t) : fx_M mm_Torus_link [vR 10 (some x), vI v, vI w, vI (fx_bit p)] s Q := by
  have h64 := hJ.1.all64
  obtain ⟨n2, n9, nn⟩ := hJ.1.n2
  have hmd := hJ.1.ri.l ff_Mod_mode 0 2 (n := 1) rfl (by omega) rfl (by omega)
  have no1 : slink M v w p = false → fx_W 106 28 [some (vR 10 (some x)), some (vI v), some (vI w), some (vI (fx_bit p))] [] s Q := by
    intro e
    refine xx_k ee106_28 0 rfl ?_
    exact xx_t fx_bit_f (xx_rz ee106_29 (k1 e))
  have no2 : slink M v w p = false → fx_W 106 50 [some (vR 10 (some x)), some (vI v), some (vI w), some (vI (fx_bit p))] [] s Q := by
    intro e
    refine xx_k ee106_50 0 rfl ?_
    exact xx_t fx_bit_f (xx_rz ee106_51 (k1 e))
  have wn : slink M v w p = (fx_isN ((rn M ff_Mod_all 0)) v && fx_isN 4 w && !(rn M ff_Mod_mode 0 == 1) && (rz M ff_Mod_closed (4 * v.toNatClampNeg + w.toNatClampNeg) == p) && sq M ((rn M ff_Mod_all 0))) := by
    unfold slink
    rw [wi_lt (by omega)]
  refine xx_i ml106 ?_
  refine xx_j ee106_0 rfl trivial ?_
  refine xx_gr ee106_1 h.sk.a.grid rfl rfl ?_
  refine xx_j ee106_4 rfl trivial ?_
  refine xx_c ee106_5 rfl (k_hasNode (by omega) h.g.a.1 ?_)
  refine xx_z ee106_8 (fun hv => no1 (by rw [wn, hv]; simp only [Bool.false_and])) (fun hv => ?_)
  refine xx_j ee106_11 rfl trivial ?_
  have e0 : (0 : Int32).toInt = 0 := by decide
  have e4 : (nI 4).toInt = 4 := by decide
  refine xx_b ee106_12 rfl (fun q => no1 ?_) (fun q1 => ?_)
  · have hw : fx_isN 4 w = false := by
      have := Int32.lt_iff_toInt_lt.mp q
      rw [e0] at this
      unfold fx_isN
      rw [decide_eq_false (by omega), Bool.false_and]
    rw [wn, hw]; simp only [Bool.and_false, Bool.false_and]
  refine xx_j ee106_15 rfl trivial ?_
  refine xx_k ee106_16 4 rfl ?_
  refine xx_b ee106_17 rfl (fun q => no1 ?_) (fun q2 => ?_)
  · have hw : fx_isN 4 w = false := by
      have := Int32.le_iff_toInt_le.mp q
      rw [e4] at this
      unfold fx_isN
      rw [decide_eq_false (p := w.toInt < _) (by omega), Bool.and_false]
    rw [wn, hw]; simp only [Bool.and_false, Bool.false_and]
  have hw : fx_isN 4 w = true := by
    have z1 : ¬ w.toInt < 0 := fun z => q1 (Int32.lt_iff_toInt_lt.mpr (by rw [e0]; exact z))
    have z2 : ¬ 4 ≤ w.toInt := fun z => q2 (Int32.le_iff_toInt_le.mpr (by rw [e4]; exact z))
    unfold fx_isN
    simp only [Bool.and_eq_true, decide_eq_true_eq]
    omega
  obtain ⟨a, ea, ha⟩ := fx_isN_nI h64 hv
  obtain ⟨b, eb, hb⟩ := fx_isN_nI (by omega) hw
  subst ea; subst eb
  rw [hv, hw, nI_clamp (by omega), nI_clamp (by omega), Bool.true_and, Bool.true_and] at wn
  refine xx_j ee106_20 rfl trivial ?_
  refine xx_gi ee106_21 (h.t.mode.trans (hJ.1.ri.f ff_Mod_mode rfl (by decide))) rfl rfl ?_
  refine xx_k ee106_24 1 rfl ?_
  refine xx_ne ee106_25 (by omega) (by omega) (fun hm => ?_) (fun hm => no1 ?_)
  rotate_left
  · rw [wn, beq_iff_eq.mpr hm]; simp only [Bool.not_true, Bool.false_and]
  rw [beq_eq_false_iff_ne.mpr hm, Bool.not_false, Bool.true_and] at wn
  have hsq := sq_eq hJ.1
  have hsp : spks M ((rn M ff_Mod_all 0)) < 2 ^ 31 := by
    have : ∀ N, N ≤ 64 → spks M N ≤ 13 * N := by
      intro N
      induction N with
      | zero => intro _; exact Nat.le_refl _
      | succ N ih =>
        intro hN
        have e : spks M (N + 1) = spks M N + (rn M ff_Mod_waits N + suse M N) := rfl
        have z1 := ih (by omega)
        have z2 := hJ.1.ri.wNl (v := N) (by omega)
        have z3 : suse M N ≤ 8 := sp_cnt_le _ _
        omega
    have := this ((rn M ff_Mod_all 0)) h64
    omega
  refine xx_j ee106_30 rfl trivial ?_
  refine xx_gi ee106_31 h.t.pks rfl rfl ?_
  refine xx_kne ee106_34 hsp (fun hp => no2 ?_) (fun hp => ?_)
  · rw [wn, hsq, beq_eq_false_iff_ne.mpr hp, Bool.and_false]
  rw [hsq, beq_iff_eq.mpr hp, Bool.and_true] at wn
  refine xx_j ee106_37 rfl trivial ?_
  refine xx_gr ee106_38 h.sk.a.grid rfl rfl ?_
  refine xx_j ee106_41 rfl trivial ?_
  refine xx_j ee106_42 rfl trivial ?_
  refine xx_c ee106_43 rfl (k_isOpen h.sk.a h.g.a h64 ha hb ?_)
  refine xx_j ee106_46 rfl trivial ?_
  refine xx_b ee106_47 rfl (fun hq => ?_) (fun hq => no2 ?_)
  rotate_left
  · have hq' : fx_bit (!rz M ff_Mod_closed (4 * a + b)) = fx_bit p := Classical.byContradiction hq
    rw [wn]
    revert hq'
    cases rz M ff_Mod_closed (4 * a + b) <;> cases p <;> decide
  have hcl : rz M ff_Mod_closed (4 * a + b) = p := by
    have hq' : ¬ fx_bit (!rz M ff_Mod_closed (4 * a + b)) = fx_bit p := hq
    revert hq'
    cases rz M ff_Mod_closed (4 * a + b) <;> cases p <;> decide
  rw [hcl, beq_self_eq_true] at wn
  have k2 := k2 a b rfl rfl ha hb wn
  have k3 := k3 a b rfl rfl ha hb wn
  clear no1 no2 k1
  have hcl' : rz M ff_Mod_closed (4 * nb (rn M ff_Mod_n 0) a b + wb b) = p := by rw [← hN.1 a b ha hb]; exact hcl
  refine xx_j ee106_52 rfl trivial ?_
  refine xx_z ee106_53 (fun hp => ?_) (fun hp => ?_)
  · subst hp
    refine xx_j ee106_68 rfl trivial ?_
    refine xx_gr ee106_69 h.sk.a.grid rfl rfl ?_
    refine xx_j ee106_72 rfl trivial ?_
    refine xx_j ee106_73 rfl trivial ?_
    refine xx_c ee106_74 rfl (k_close h.sk.a h.g.a h.g.b n2 n9 nn h64 ha hb (fun how => ?_) (fun o1 o2 hno t g1 g2 g3 g4 => ?_) (fun o1 o2 d hd hwk t g1 g2 g3 g4 => ?_))
    · refine xx_rz ee106_77 (k3 (fun q => ?_) s (GF.rf x s) h.g.a h.g.b)
      rcases q with q | ⟨q1, q2, -⟩
      · cases q
      · omega
    · refine xx_rz ee106_77 (k3 (fun q => ?_) t g1 ?_ (g4 _ _))
      · rcases q with q | ⟨-, -, kk, q3⟩
        · cases q
        · exact hno kk q3
      · have e := lk_back (cl := rz M ff_Mod_closed) (n := rn M ff_Mod_n 0) (a := a) (b := b) hcl hcl'
        unfold lk2 at e
        rw [e] at g3
        exact g3
    · exact xx_rz ee106_77 (k2 (Or.inr ⟨o1, o2, d, hwk⟩) t g1 g3 g4)
  · subst hp
    refine xx_j ee106_56 rfl trivial ?_
    refine xx_gr ee106_57 h.sk.a.grid rfl rfl ?_
    refine xx_j ee106_60 rfl trivial ?_
    refine xx_j ee106_61 rfl trivial ?_
    refine xx_k ee106_62 1 rfl ?_
    refine xx_t fx_bit_t ?_
    refine xx_c ee106_63 rfl (k_setOpen h.sk.a h.g.a n2 nn h64 ha hb (fun t g1 g2 g3 g4 => ?_))
    refine xx_k ee106_66 1 rfl ?_
    exact xx_t fx_bit_t (xx_rz ee106_67 (k2 (Or.inl rfl) t g1 g3 (g4 _ _)))
end
