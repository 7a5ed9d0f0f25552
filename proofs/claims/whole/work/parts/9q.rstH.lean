section
variable {s t u : fx_S} {Q : fx_Q} {x m a b c : Nat} {rt : Nat → List Nat} {B H P : Nat → Nat} {Y : Nat → Nat → Nat} {K : Nat → Prop} {M M' : rf_M}
theorem EM.sfi {f : Nat} {y : Int32} (h : EM s x B H Y m rt K) (hf : f < 64) (h4 : f ≠ 4) : EM (fx_sfi s f x y) x B H Y m rt K := h.same rfl rfl rfl rfl (fun g c hg => fi_ne (fun q => by omega))
theorem EM.gf (h : EM s x B H Y m rt K) (g : GF x s t) : EM t x B H Y m rt K := h.same g.2.1 g.2.2.1 g.2.2.2.1 g.2.2.2.2.2.1 (fun f c hf => g.2.2.2.2.2.2.2.1 f c (by omega))
/-- the torus's numbers after reset -/
def RZ (t : fx_S) (x a b c : Nat) : Prop := fx_fi t ff_Torus_mode x = nI b ∧ fx_fi t ff_Torus_patience x = nI c ∧ fx_fi t ff_Torus_now x = nI 0 ∧ fx_fi t ff_Torus_turn x = nI 0 ∧ fx_fi t ff_Torus_packets x = nI 0 ∧ fx_fi t ff_Torus_flitsInNet x = nI 0 ∧ fx_fi t ff_Torus_flitsDeflected x = nI 0 ∧ fx_fi t ff_Torus_flitsReceived x = nI 0 ∧ fx_fi t ff_Torus_packetsAsked x = nI 0 ∧ RGa t x (fun _ => false) a (a * a) ∧ ∀ cl q, RGb t x cl q (a * a)
def ZR (M : rf_M) (a b c : Nat) : Prop := ZM M ∧ M ff_Mod_n 0 = nI a ∧ M ff_Mod_all 0 = nI (a * a) ∧ M ff_Mod_mode 0 = nI b ∧ M ff_Mod_patience 0 = nI c ∧ M ff_Mod_cycle 0 = nI 0 ∧ M ff_Mod_turn 0 = nI 0 ∧ M ff_Mod_deflected 0 = nI 0 ∧ M ff_Mod_received 0 = nI 0 ∧ M ff_Mod_lost 0 = nI 0 ∧ M ff_Mod_notes 0 = nI 0 ∧ ∀ i, i < 256 → M ff_Mod_closed i = fx_bit false
theorem RZ.ra (h : EM t x B H Y m rt K) (hz : RZ t x a b c) (z : ZR M a b c) (ha : a ≤ 8) (hm : a * a ≤ m) : RA t x B H (fun _ _ => none) Y P m rt K [] M := by
  obtain ⟨z0, z1, z2, z3, z4, z5, z6, z7, z8, z9, _, z10⟩ := z
  obtain ⟨t1, t2, t3, t4, t5, t6, t7, t8, t9, t10, t11⟩ := hz
  have hA : a * a ≤ 64 := Nat.mul_le_mul ha ha
  have eN : (rn M ff_Mod_all 0) = a * a := rn_of z2 (by omega)
  have en : rn M ff_Mod_n 0 = a := rn_of z1 (by omega)
  have m64 := h.1.c.m64
  have sp : spks M ((rn M ff_Mod_all 0)) = 0 := by
    have key : ∀ n, n ≤ 64 → spks M n = 0 := by
      intro n
      induction n with
      | zero => intro _; rfl
      | succ n ih =>
        intro hn
        show spks M n + (rn M ff_Mod_waits n + suse M n) = 0
        have e1 : rn M ff_Mod_waits n = 0 := rn_of (z0.1 _ n (by decide) (by omega)) (by omega)
        have e2 : suse M n = 0 := by
          unfold suse
          rw [sp_cnt_zero]
          intro i hi
          have : rn M ff_Mod_lengths (8 * n + i) = 0 := rn_of (z0.2.1 _ (by omega)) (by omega)
          rw [this]; rfl
        rw [ih (by omega), e1, e2]
    rw [eN]; exact key _ hA
  refine h.ra ⟨t1.trans z3.symm, t2.trans z4.symm, t3.trans z5.symm, t4.trans z6.symm, t6.trans z0.2.2.2.2.symm, t7.trans z7.symm, t8.trans z8.symm, t9.trans z9.symm, by rw [sp]; exact t5⟩ ⟨?_, ?_⟩ z0 (by rw [eN]; exact hm)
  · rw [eN, en]
    refine ⟨t10.1, t10.2.1, fun v w hv hw => ?_⟩
    have : rz M ff_Mod_closed (4 * v + w) = false := by
      unfold rz
      rw [rn_of (x := 0) (z10 _ (by omega)) (by omega)]; rfl
    rw [this]
    exact t10.2.2 v w hv hw
  · rw [eN]; exact t11 _ _
theorem ZR.rst {j : Bool} (h : MS (om_rst M a b c) M' j) : ZR M' a b c := by
  have e : ∀ f i, (Nat.beq f ff_Mod_away || Nat.beq f ff_Mod_farthest) = false → M' f i = om_rst M a b c f i := fun f i hf => h.1 f i (fun q => by rw [q] at hf; exact absurd hf (by decide)) (fun q => by rw [q] at hf; exact absurd hf (by decide))
  have o : ∀ f i, f ∉ [ff_Mod_closed] → f ∉ [ff_Mod_whose] → f ∉ [ff_Mod_lengths] → f ∉ rs_six → f ∉ [ff_Mod_taken] → om_rst M a b c f i = om_rsf M a b c f i := fun f i h1 h2 h3 h4 h5 => by
    unfold om_rst
    rw [om_fl_ne h5, om_fl_ne h4, om_fl_ne h3, om_fl_ne h2, om_fl_ne h1]
  refine ⟨⟨fun f v hf hv => ?_, fun p hp => ?_, fun i hi => ?_, fun i hi => ?_, ?_⟩, ?_, ?_, ?_, ?_, ?_, ?_, ?_, ?_, ?_, ?_, fun i hi => ?_⟩
  · have hb : (Nat.beq f ff_Mod_away || Nat.beq f ff_Mod_farthest) = false := by
      revert hf
      unfold rs_six
      simp only [List.mem_cons, List.not_mem_nil, or_false]
      rintro (e | e | e | e | e | e) <;> subst e <;> rfl
    have h5 : f ∉ [ff_Mod_taken] := by
      intro q
      rw [List.mem_singleton.mp q] at hf
      exact absurd hf (by decide)
    rw [e f v hb]
    unfold om_rst
    rw [om_fl_ne h5, om_fl_in hf hv]
  · rw [e _ _ rfl]
    unfold om_rst
    rw [om_fl_ne (by decide), om_fl_ne (by decide), om_fl_in (by decide) hp]
  · rw [e _ _ rfl]
    unfold om_rst
    rw [om_fl_ne (by decide), om_fl_ne (by decide), om_fl_ne (by decide), om_fl_in (by decide) hi]
  · rw [e _ _ rfl]
    unfold om_rst
    rw [om_fl_in (by decide) hi]
  · rw [e _ _ rfl, o _ _ (by decide) (by decide) (by decide) (by decide) (by decide)]; rfl
  · rw [e _ _ rfl, o _ _ (by decide) (by decide) (by decide) (by decide) (by decide)]; rfl
  · rw [e _ _ rfl, o _ _ (by decide) (by decide) (by decide) (by decide) (by decide)]; rfl
  · rw [e _ _ rfl, o _ _ (by decide) (by decide) (by decide) (by decide) (by decide)]; rfl
  · rw [e _ _ rfl, o _ _ (by decide) (by decide) (by decide) (by decide) (by decide)]; rfl
  · rw [e _ _ rfl, o _ _ (by decide) (by decide) (by decide) (by decide) (by decide)]; rfl
  · rw [e _ _ rfl, o _ _ (by decide) (by decide) (by decide) (by decide) (by decide)]; rfl
  · rw [e _ _ rfl, o _ _ (by decide) (by decide) (by decide) (by decide) (by decide)]; rfl
  · rw [e _ _ rfl, o _ _ (by decide) (by decide) (by decide) (by decide) (by decide)]; rfl
  · rw [e _ _ rfl, o _ _ (by decide) (by decide) (by decide) (by decide) (by decide)]; rfl
  · rw [e _ _ rfl, o _ _ (by decide) (by decide) (by decide) (by decide) (by decide)]; rfl
  · rw [e _ _ rfl]
    unfold om_rst
    rw [om_fl_ne (by decide), om_fl_ne (by decide), om_fl_ne (by decide), om_fl_ne (by decide), om_fl_in (by decide) hi]; rfl
theorem k_reset {n md p : Int32} (h : EP s x B H Y m rt K) (k1 : srst n md p = false → Q (some (vI (fx_bit false))) s)
    (k2 : ∀ a b c, n = nI a → md = nI b → p = nI c → 2 ≤ a → a ≤ 8 → b < 2 → 1 ≤ c → c ≤ 1000 → srst n md p = true → ∀ t B' H' Y' m' rt', EM t x B' H' Y' m' rt' K → a * a ≤ m' → m ≤ m' → RZ t x a b c → CF x s t → fx_nx t + 20 * m = fx_nx s + 20 * m' → fx_sl t + 83 * m = fx_sl s + 83 * m' → Q (some (vI (fx_bit true))) t) : fx_M mm_Torus_reset [vR 10 (some x), vI n, vI md, vI p] s Q := by
  have lt0 : ∀ {y z : Int32}, y < z → decide (z ≤ y) = false := fun q => by
    rw [decide_eq_false_iff_not]
    exact Int32.not_le.mpr q
  have zero : nI 0 = (0 : Int32) := by decide
  refine xx_i ml128 ?_
  have no : srst n md p = false → fx_W 128 20 [some (vR 10 (some x)), some (vI n), some (vI md), some (vI p)] [] s Q := by
    intro q
    refine xx_k ee128_20 0 rfl ?_
    exact xx_t fx_bit_f (xx_rz ee128_21 (k1 q))
  have no2 : srst n md p = false → fx_W 128 34 [some (vR 10 (some x)), some (vI n), some (vI md), some (vI p)] [] s Q := by
    intro q
    refine xx_k ee128_34 0 rfl ?_
    exact xx_t fx_bit_f (xx_rz ee128_35 (k1 q))
  refine xx_j ee128_0 rfl trivial ?_
  refine xx_k ee128_1 2 rfl ?_
  refine xx_b ee128_2 rfl (fun q => no ?_) (fun q1 => ?_)
  · have := lt0 (show n < nI 2 from q)
    simp only [srst, this, Bool.false_and]
  refine xx_j ee128_5 rfl trivial ?_
  refine xx_kb ee128_6 8 rfl ?_
  refine xx_b ee128_8 rfl (fun q => no ?_) (fun q2 => ?_)
  · have := lt0 (show nI 8 < n from q)
    simp only [srst, this, Bool.false_and, Bool.and_false]
  refine xx_j ee128_11 rfl trivial ?_
  refine xx_b ee128_12 rfl (fun q => no ?_) (fun q3 => ?_)
  · have := lt0 (show md < nI 0 from by rw [zero]; exact q)
    simp only [srst, this, Bool.false_and, Bool.and_false]
  refine xx_j ee128_15 rfl trivial ?_
  refine xx_k ee128_16 1 rfl ?_
  refine xx_b ee128_17 rfl (fun q4 => ?_) (fun q => no ?_)
  rotate_left
  · have : decide (md ≤ nI 1) = false := by
      rw [decide_eq_false_iff_not]; exact q
    simp only [srst, this, Bool.false_and, Bool.and_false]
  refine xx_j ee128_22 rfl trivial ?_
  refine xx_k ee128_23 1 rfl ?_
  refine xx_b ee128_24 rfl (fun q => no2 ?_) (fun q5 => ?_)
  · have := lt0 (show p < nI 1 from q)
    simp only [srst, this, Bool.false_and, Bool.and_false]
  refine xx_j ee128_27 rfl trivial ?_
  refine xx_ks ee128_28 1000 rfl ?_
  refine xx_b ee128_31 rfl (fun q6 => ?_) (fun q => no2 ?_)
  rotate_left
  · have : decide (p ≤ nI 1000) = false := by
      rw [decide_eq_false_iff_not]; exact q
    simp only [srst, this, Bool.and_false]
  have d1 : decide (nI 2 ≤ n) = true := decide_eq_true (Int32.not_lt.mp q1)
  have d2 : decide (n ≤ nI 8) = true := decide_eq_true (Int32.not_lt.mp q2)
  have d3 : decide (nI 0 ≤ md) = true := decide_eq_true (by rw [zero]; exact Int32.not_lt.mp q3)
  have d4 : decide (md ≤ nI 1) = true := decide_eq_true q4
  have d5 : decide (nI 1 ≤ p) = true := decide_eq_true (Int32.not_lt.mp q5)
  have d6 : decide (p ≤ nI 1000) = true := decide_eq_true q6
  have ok : srst n md p = true := by simp only [srst, d1, d2, d3, d4, d5, d6, Bool.and_true]
  obtain ⟨a, ea, ha1, ha2⟩ := fx_within_nI (w := n) (a := 2) (b := 8) (by omega) (by omega) (by rw [d1, d2]; rfl)
  obtain ⟨b, eb, _, hb2⟩ := fx_within_nI (w := md) (a := 0) (b := 1) (by omega) (by omega) (by rw [d3, d4]; rfl)
  obtain ⟨c, ec, hc1, hc2⟩ := fx_within_nI (w := p) (a := 1) (b := 1000) (by omega) (by omega) (by rw [d5, d6]; rfl)
  have hA : a * a ≤ 64 := Nat.mul_le_mul ha2 ha2
  subst ea
  subst eb
  subst ec
  refine xx_j ee128_36 rfl trivial ?_
  refine xx_c ee128_37 rfl (k_emptyAll h (fun t1 rt1 T hE => ?_))
  refine xx_j ee128_40 rfl trivial ?_
  refine xx_gr ee128_41 hE.1.a.grid rfl rfl ?_
  refine xx_j ee128_44 rfl trivial ?_
  refine xx_c ee128_45 rfl (k_lay hE.1.a ha1 (by omega) (fun t2 gf hS2 ga gb => ?_))
  have hE2 := hE.gf gf
  refine xx_j ee128_48 rfl trivial ?_
  refine xx_c ee128_49 rfl (k_makeNodes hE2 ga.1 hA (fun t3 B3 H3 Y3 rt3 hE3 hF3 gk hn hs => ?_))
  refine xx_j ee128_52 rfl trivial ?_
  refine xx_j ee128_53 rfl trivial ?_
  refine xx_pi ee128_54 rfl ?_
  refine xx_j ee128_57 rfl trivial ?_
  refine xx_j ee128_58 rfl trivial ?_
  refine xx_pi ee128_59 rfl ?_
  refine xx_j ee128_62 rfl trivial ?_
  refine xx_k ee128_63 0 rfl ?_
  refine xx_pi ee128_64 rfl ?_
  refine xx_j ee128_67 rfl trivial ?_
  refine xx_k ee128_68 0 rfl ?_
  refine xx_pi ee128_69 rfl ?_
  refine xx_j ee128_72 rfl trivial ?_
  refine xx_k ee128_73 0 rfl ?_
  refine xx_pi ee128_74 rfl ?_
  refine xx_j ee128_77 rfl trivial ?_
  refine xx_k ee128_78 0 rfl ?_
  refine xx_pi ee128_79 rfl ?_
  refine xx_j ee128_82 rfl trivial ?_
  refine xx_k ee128_83 0 rfl ?_
  refine xx_pi ee128_84 rfl ?_
  refine xx_j ee128_87 rfl trivial ?_
  refine xx_k ee128_88 0 rfl ?_
  refine xx_pi ee128_89 rfl ?_
  refine xx_j ee128_92 rfl trivial ?_
  refine xx_k ee128_93 0 rfl ?_
  refine xx_pi ee128_94 rfl ?_
  refine xx_k ee128_97 1 rfl ?_
  have gk2 : ∀ {t4 : fx_S} {f : Nat} {y : Int32}, GK x t2 t4 → GK x t2 (fx_sfi t4 f x y) := fun q => q.tr ⟨fun f => fi_ne (fun q => absurd q.2 (by omega)), fun _ _ _ => rfl⟩
  have gg := gk2 (f := ff_Torus_packetsAsked) (y := nI 0) (gk2 (f := ff_Torus_flitsReceived) (y := nI 0) (gk2 (f := ff_Torus_flitsDeflected) (y := nI 0) (gk2 (f := ff_Torus_flitsInNet) (y := nI 0) (gk2 (f := ff_Torus_packets) (y := nI 0) (gk2 (f := ff_Torus_turn) (y := nI 0) (gk2 (f := ff_Torus_now) (y := nI 0) (gk2 (f := ff_Torus_patience) (y := nI c) (gk2 (f := ff_Torus_mode) (y := nI b) gk))))))))
  refine xx_t fx_bit_t (xx_rz ee128_98 (k2 a b c rfl rfl rfl ha1 ha2 (by omega) hc1 hc2 ok _ B3 H3 Y3 _ rt3 (((((((((hE3.sfi (by decide) (by decide)).sfi (by decide) (by decide)).sfi (by decide) (by decide)).sfi (by decide) (by decide)).sfi (by decide) (by decide)).sfi (by decide) (by decide)).sfi (by decide) (by decide)).sfi (by decide) (by decide)).sfi (by decide) (by decide)) (Nat.le_max_right _ _) (Nat.le_max_left _ _) ⟨(by (repeat (first | rw [fr_same] | rw [fi_same] | rw [ar_same] | rw [n_r1] | rw [n_i1] | rw [n_al1] | rw [n_aa1] | rw [n_r2] | rw [n_i2] | rw [n_l2] | rw [n_a2] | rw [w_fr] | rw [w_fi] | rw [w_l1] | rw [w_l2] | rw [w_a1] | rw [w_a2] | rw [w_i1] | rw [w_i2] | rw [w_i3] | rw [rc_fr (by omega)] | rw [rc_fi (by omega)] | rw [rc_ln (by omega)] | rw [rc_ar (by omega)] | rw [n_r3 (by omega)] | rw [n_i3 (by omega)] | rw [n_l3 (by omega)] | rw [n_a3 (by omega)] | rw [fr_ne (fun q => absurd q.1 (by decide))] | rw [fr_ne (fun q => absurd q.2 (by omega))] | rw [fi_ne (fun q => absurd q.1 (by decide))] | rw [fi_ne (fun q => absurd q.2 (by omega))] | rw [ar_ne (fun q => absurd q.1 (by omega))] | rw [ar_ne (fun q => absurd q.2 (by omega))])); (try first | rfl | assumption)), (by (repeat (first | rw [fr_same] | rw [fi_same] | rw [ar_same] | rw [n_r1] | rw [n_i1] | rw [n_al1] | rw [n_aa1] | rw [n_r2] | rw [n_i2] | rw [n_l2] | rw [n_a2] | rw [w_fr] | rw [w_fi] | rw [w_l1] | rw [w_l2] | rw [w_a1] | rw [w_a2] | rw [w_i1] | rw [w_i2] | rw [w_i3] | rw [rc_fr (by omega)] | rw [rc_fi (by omega)] | rw [rc_ln (by omega)] | rw [rc_ar (by omega)] | rw [n_r3 (by omega)] | rw [n_i3 (by omega)] | rw [n_l3 (by omega)] | rw [n_a3 (by omega)] | rw [fr_ne (fun q => absurd q.1 (by decide))] | rw [fr_ne (fun q => absurd q.2 (by omega))] | rw [fi_ne (fun q => absurd q.1 (by decide))] | rw [fi_ne (fun q => absurd q.2 (by omega))] | rw [ar_ne (fun q => absurd q.1 (by omega))] | rw [ar_ne (fun q => absurd q.2 (by omega))])); (try first | rfl | assumption)), (by (repeat (first | rw [fr_same] | rw [fi_same] | rw [ar_same] | rw [n_r1] | rw [n_i1] | rw [n_al1] | rw [n_aa1] | rw [n_r2] | rw [n_i2] | rw [n_l2] | rw [n_a2] | rw [w_fr] | rw [w_fi] | rw [w_l1] | rw [w_l2] | rw [w_a1] | rw [w_a2] | rw [w_i1] | rw [w_i2] | rw [w_i3] | rw [rc_fr (by omega)] | rw [rc_fi (by omega)] | rw [rc_ln (by omega)] | rw [rc_ar (by omega)] | rw [n_r3 (by omega)] | rw [n_i3 (by omega)] | rw [n_l3 (by omega)] | rw [n_a3 (by omega)] | rw [fr_ne (fun q => absurd q.1 (by decide))] | rw [fr_ne (fun q => absurd q.2 (by omega))] | rw [fi_ne (fun q => absurd q.1 (by decide))] | rw [fi_ne (fun q => absurd q.2 (by omega))] | rw [ar_ne (fun q => absurd q.1 (by omega))] | rw [ar_ne (fun q => absurd q.2 (by omega))])); (try first | rfl | assumption)), (by (repeat (first | rw [fr_same] | rw [fi_same] | rw [ar_same] | rw [n_r1] | rw [n_i1] | rw [n_al1] | rw [n_aa1] | rw [n_r2] | rw [n_i2] | rw [n_l2] | rw [n_a2] | rw [w_fr] | rw [w_fi] | rw [w_l1] | rw [w_l2] | rw [w_a1] | rw [w_a2] | rw [w_i1] | rw [w_i2] | rw [w_i3] | rw [rc_fr (by omega)] | rw [rc_fi (by omega)] | rw [rc_ln (by omega)] | rw [rc_ar (by omega)] | rw [n_r3 (by omega)] | rw [n_i3 (by omega)] | rw [n_l3 (by omega)] | rw [n_a3 (by omega)] | rw [fr_ne (fun q => absurd q.1 (by decide))] | rw [fr_ne (fun q => absurd q.2 (by omega))] | rw [fi_ne (fun q => absurd q.1 (by decide))] | rw [fi_ne (fun q => absurd q.2 (by omega))] | rw [ar_ne (fun q => absurd q.1 (by omega))] | rw [ar_ne (fun q => absurd q.2 (by omega))])); (try first | rfl | assumption)), (by (repeat (first | rw [fr_same] | rw [fi_same] | rw [ar_same] | rw [n_r1] | rw [n_i1] | rw [n_al1] | rw [n_aa1] | rw [n_r2] | rw [n_i2] | rw [n_l2] | rw [n_a2] | rw [w_fr] | rw [w_fi] | rw [w_l1] | rw [w_l2] | rw [w_a1] | rw [w_a2] | rw [w_i1] | rw [w_i2] | rw [w_i3] | rw [rc_fr (by omega)] | rw [rc_fi (by omega)] | rw [rc_ln (by omega)] | rw [rc_ar (by omega)] | rw [n_r3 (by omega)] | rw [n_i3 (by omega)] | rw [n_l3 (by omega)] | rw [n_a3 (by omega)] | rw [fr_ne (fun q => absurd q.1 (by decide))] | rw [fr_ne (fun q => absurd q.2 (by omega))] | rw [fi_ne (fun q => absurd q.1 (by decide))] | rw [fi_ne (fun q => absurd q.2 (by omega))] | rw [ar_ne (fun q => absurd q.1 (by omega))] | rw [ar_ne (fun q => absurd q.2 (by omega))])); (try first | rfl | assumption)), (by (repeat (first | rw [fr_same] | rw [fi_same] | rw [ar_same] | rw [n_r1] | rw [n_i1] | rw [n_al1] | rw [n_aa1] | rw [n_r2] | rw [n_i2] | rw [n_l2] | rw [n_a2] | rw [w_fr] | rw [w_fi] | rw [w_l1] | rw [w_l2] | rw [w_a1] | rw [w_a2] | rw [w_i1] | rw [w_i2] | rw [w_i3] | rw [rc_fr (by omega)] | rw [rc_fi (by omega)] | rw [rc_ln (by omega)] | rw [rc_ar (by omega)] | rw [n_r3 (by omega)] | rw [n_i3 (by omega)] | rw [n_l3 (by omega)] | rw [n_a3 (by omega)] | rw [fr_ne (fun q => absurd q.1 (by decide))] | rw [fr_ne (fun q => absurd q.2 (by omega))] | rw [fi_ne (fun q => absurd q.1 (by decide))] | rw [fi_ne (fun q => absurd q.2 (by omega))] | rw [ar_ne (fun q => absurd q.1 (by omega))] | rw [ar_ne (fun q => absurd q.2 (by omega))])); (try first | rfl | assumption)), (by (repeat (first | rw [fr_same] | rw [fi_same] | rw [ar_same] | rw [n_r1] | rw [n_i1] | rw [n_al1] | rw [n_aa1] | rw [n_r2] | rw [n_i2] | rw [n_l2] | rw [n_a2] | rw [w_fr] | rw [w_fi] | rw [w_l1] | rw [w_l2] | rw [w_a1] | rw [w_a2] | rw [w_i1] | rw [w_i2] | rw [w_i3] | rw [rc_fr (by omega)] | rw [rc_fi (by omega)] | rw [rc_ln (by omega)] | rw [rc_ar (by omega)] | rw [n_r3 (by omega)] | rw [n_i3 (by omega)] | rw [n_l3 (by omega)] | rw [n_a3 (by omega)] | rw [fr_ne (fun q => absurd q.1 (by decide))] | rw [fr_ne (fun q => absurd q.2 (by omega))] | rw [fi_ne (fun q => absurd q.1 (by decide))] | rw [fi_ne (fun q => absurd q.2 (by omega))] | rw [ar_ne (fun q => absurd q.1 (by omega))] | rw [ar_ne (fun q => absurd q.2 (by omega))])); (try first | rfl | assumption)), (by (repeat (first | rw [fr_same] | rw [fi_same] | rw [ar_same] | rw [n_r1] | rw [n_i1] | rw [n_al1] | rw [n_aa1] | rw [n_r2] | rw [n_i2] | rw [n_l2] | rw [n_a2] | rw [w_fr] | rw [w_fi] | rw [w_l1] | rw [w_l2] | rw [w_a1] | rw [w_a2] | rw [w_i1] | rw [w_i2] | rw [w_i3] | rw [rc_fr (by omega)] | rw [rc_fi (by omega)] | rw [rc_ln (by omega)] | rw [rc_ar (by omega)] | rw [n_r3 (by omega)] | rw [n_i3 (by omega)] | rw [n_l3 (by omega)] | rw [n_a3 (by omega)] | rw [fr_ne (fun q => absurd q.1 (by decide))] | rw [fr_ne (fun q => absurd q.2 (by omega))] | rw [fi_ne (fun q => absurd q.1 (by decide))] | rw [fi_ne (fun q => absurd q.2 (by omega))] | rw [ar_ne (fun q => absurd q.1 (by omega))] | rw [ar_ne (fun q => absurd q.2 (by omega))])); (try first | rfl | assumption)), (by (repeat (first | rw [fr_same] | rw [fi_same] | rw [ar_same] | rw [n_r1] | rw [n_i1] | rw [n_al1] | rw [n_aa1] | rw [n_r2] | rw [n_i2] | rw [n_l2] | rw [n_a2] | rw [w_fr] | rw [w_fi] | rw [w_l1] | rw [w_l2] | rw [w_a1] | rw [w_a2] | rw [w_i1] | rw [w_i2] | rw [w_i3] | rw [rc_fr (by omega)] | rw [rc_fi (by omega)] | rw [rc_ln (by omega)] | rw [rc_ar (by omega)] | rw [n_r3 (by omega)] | rw [n_i3 (by omega)] | rw [n_l3 (by omega)] | rw [n_a3 (by omega)] | rw [fr_ne (fun q => absurd q.1 (by decide))] | rw [fr_ne (fun q => absurd q.2 (by omega))] | rw [fi_ne (fun q => absurd q.1 (by decide))] | rw [fi_ne (fun q => absurd q.2 (by omega))] | rw [ar_ne (fun q => absurd q.1 (by omega))] | rw [ar_ne (fun q => absurd q.2 (by omega))])); (try first | rfl | assumption)), ga.gk gg, fun cl q => (gb cl q).gk gg⟩ ((((((((((T.cf.gf gf).tr hF3).sfi (by decide)).sfi (by decide)).sfi (by decide)).sfi (by decide)).sfi (by decide)).sfi (by decide)).sfi (by decide)).sfi (by decide) |>.sfi (by decide)) ?_ ?_))
  · show fx_nx t3 + _ = _
    have e1 := T.nx
    have e2 := gf.2.2.2.2.2.1
    omega
  · show fx_sl t3 + _ = _
    have e1 := T.2.2.2.2.2.1
    have e2 := gf.2.2.2.2.2.2.1
    omega
end
