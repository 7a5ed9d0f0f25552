/-! THE CLASS: put, walked -/
section
variable {s t : fx_S} {Q : fx_Q} {x m a : Nat} {B H P : Nat → Nat} {C : Nat → Nat → Option Nat} {Y : Nat → Nat → Nat} {rt : Nat → List Nat} {K : Nat → Prop} {L : List Nat} {M N M6 : rf_M} {lv : Nat → Prop}
theorem k_packetI (k : Q none (fx_sfr (fx_newa s 42 8) ff_Packet_flits a (some (fx_nx s)))) : fx_M mm_Packet_init [vR 15 (some a)] s Q := by
  refine xx_i ml58 ?_
  refine xx_j ee58_0 rfl trivial ?_
  refine xx_j ee58_1 rfl trivial ?_
  refine xx_j ee58_4 rfl trivial ?_
  refine xx_kb ee58_5 8 rfl ?_
  refine xx_j ee58_7 rfl ⟨by decide, by decide⟩ ?_
  first | refine xx_pr ee58_10 rfl rfl (Or.inl rfl) ?_ | refine xx_pr ee58_10 rfl rfl (Or.inr rfl) ?_
  exact xx_rv ee58_13 k
theorem k_fill {v g tg : Int32} {l : Nat} (h : RA s x B H C Y P m rt K L M) (hJ : JV M lv) (hL : ∀ k, k ∈ L → lv k) (hn : NU x B P m rt K M a) (hl8 : l ≤ 8) (k : ∀ t, RA t x B H C Y P m rt K L M → CF x s t → fx_fi t ff_Packet_source a = v → fx_fi t ff_Packet_slot a = fx_neg → fx_fi t ff_Packet_goal a = g → fx_fi t ff_Packet_length a = nI l → fx_fi t ff_Packet_tag a = tg → fx_fi t ff_Packet_attempt a = nI 1 → fx_fi t ff_Packet_entered a = nI 0 → fx_fi t ff_Packet_wasAsked a = fx_bit false → fx_fi t ff_Packet_flitsInNet a = nI 0 → (∀ b, b < l → fx_ar t (a + 1) b ≠ none) → fx_nx t ≤ fx_nx s + 8 → fx_sl t ≤ fx_sl s + 32 → Q none t) : fx_M mm_Packet_fill [vR 15 (some a), vI v, vI g, vI (nI l), vI tg] s Q := by
  refine xx_i ml109 ?_
  refine xx_j ee109_0 rfl trivial ?_
  refine xx_j ee109_1 rfl trivial ?_
  refine xx_pi ee109_2 rfl ?_
  refine xx_j ee109_5 rfl trivial ?_
  refine xx_j ee109_6 rfl trivial ?_
  refine xx_pi ee109_7 rfl ?_
  refine xx_j ee109_10 rfl trivial ?_
  refine xx_j ee109_11 rfl trivial ?_
  refine xx_pi ee109_12 rfl ?_
  refine xx_j ee109_15 rfl trivial ?_
  refine xx_j ee109_16 rfl trivial ?_
  refine xx_pi ee109_18 rfl ?_
  refine xx_j ee109_21 rfl trivial ?_
  refine xx_km ee109_22 rfl ?_
  refine xx_pi ee109_23 rfl ?_
  refine xx_j ee109_26 rfl trivial ?_
  refine xx_k ee109_27 1 rfl ?_
  refine xx_pi ee109_28 rfl ?_
  refine xx_j ee109_31 rfl trivial ?_
  refine xx_k ee109_32 0 rfl ?_
  refine xx_pi ee109_33 rfl ?_
  refine xx_j ee109_36 rfl trivial ?_
  refine xx_k ee109_37 0 rfl ?_
  refine xx_pi ee109_38 rfl ?_
  refine xx_j ee109_41 rfl trivial ?_
  refine xx_k ee109_42 0 rfl ?_
  refine xx_t fx_bit_f ?_
  refine xx_pz ee109_43 rfl ?_
  have e : fx_sfi (fx_sfi (fx_sfi (fx_sfi (fx_sfi (fx_sfi (fx_sfi (fx_sfi (fx_sfi s ff_Packet_source a v) ff_Packet_goal a g) ff_Packet_length a (nI l)) ff_Packet_tag a tg) ff_Packet_slot a fx_neg) ff_Packet_attempt a (nI 1)) ff_Packet_entered a (nI 0)) ff_Packet_flitsInNet a (nI 0)) ff_Packet_wasAsked a (fx_bit false) = fx_spf s (fx_up (fx_up (fx_up (fx_up (fx_up (fx_up (fx_up (fx_up (fx_up (fx_fi s) ff_Packet_source a v) ff_Packet_goal a g) ff_Packet_length a (nI l)) ff_Packet_tag a tg) ff_Packet_slot a fx_neg) ff_Packet_attempt a (nI 1)) ff_Packet_entered a (nI 0)) ff_Packet_flitsInNet a (nI 0)) ff_Packet_wasAsked a (fx_bit false)) := by
    have e0 : fx_sfi s ff_Packet_source a v = fx_sfi (fx_spf s (fx_fi s)) ff_Packet_source a v := by rw [spf_id]
    rw [e0, spf_fi (by decide), spf_fi (by decide), spf_fi (by decide), spf_fi (by decide), spf_fi (by decide), spf_fi (by decide), spf_fi (by decide), spf_fi (by decide), spf_fi (by decide)]
  have hF : CF x s (fx_sfi (fx_sfi (fx_sfi (fx_sfi (fx_sfi (fx_sfi (fx_sfi (fx_sfi (fx_sfi s ff_Packet_source a v) ff_Packet_goal a g) ff_Packet_length a (nI l)) ff_Packet_tag a tg) ff_Packet_slot a fx_neg) ff_Packet_attempt a (nI 1)) ff_Packet_entered a (nI 0)) ff_Packet_flitsInNet a (nI 0)) ff_Packet_wasAsked a (fx_bit false)) := (((((((((CF.rf x s).sfi (by decide)).sfi (by decide)).sfi (by decide)).sfi (by decide)).sfi (by decide)).sfi (by decide)).sfi (by decide)).sfi (by decide)).sfi (by decide)
  have hA1 : RA (fx_spf s (fx_up (fx_up (fx_up (fx_up (fx_up (fx_up (fx_up (fx_up (fx_up (fx_fi s) ff_Packet_source a v) ff_Packet_goal a g) ff_Packet_length a (nI l)) ff_Packet_tag a tg) ff_Packet_slot a fx_neg) ff_Packet_attempt a (nI 1)) ff_Packet_entered a (nI 0)) ff_Packet_flitsInNet a (nI 0)) ff_Packet_wasAsked a (fx_bit false))) x B H C Y P m rt K L M := h.spf hn (fun f b hb => by
    rw [fx_up_ne (fun q => hb q.2), fx_up_ne (fun q => hb q.2), fx_up_ne (fun q => hb q.2), fx_up_ne (fun q => hb q.2), fx_up_ne (fun q => hb q.2), fx_up_ne (fun q => hb q.2), fx_up_ne (fun q => hb q.2), fx_up_ne (fun q => hb q.2), fx_up_ne (fun q => hb q.2)])
  rw [← e] at hA1
  clear e
  have n0 : ∀ {f g : Nat}, f ≠ g → ∀ {b : Nat}, ¬ (f = g ∧ b = b) := fun q _ w => q w.1
  have g1 : fx_fi (fx_sfi (fx_sfi (fx_sfi (fx_sfi (fx_sfi (fx_sfi (fx_sfi (fx_sfi (fx_sfi s ff_Packet_source a v) ff_Packet_goal a g) ff_Packet_length a (nI l)) ff_Packet_tag a tg) ff_Packet_slot a fx_neg) ff_Packet_attempt a (nI 1)) ff_Packet_entered a (nI 0)) ff_Packet_flitsInNet a (nI 0)) ff_Packet_wasAsked a (fx_bit false)) ff_Packet_source a = v := by
    rw [fi_ne (n0 (by decide)), fi_ne (n0 (by decide)), fi_ne (n0 (by decide)), fi_ne (n0 (by decide)), fi_ne (n0 (by decide)), fi_ne (n0 (by decide)), fi_ne (n0 (by decide)), fi_ne (n0 (by decide)), fi_same]
  have g2 : fx_fi (fx_sfi (fx_sfi (fx_sfi (fx_sfi (fx_sfi (fx_sfi (fx_sfi (fx_sfi (fx_sfi s ff_Packet_source a v) ff_Packet_goal a g) ff_Packet_length a (nI l)) ff_Packet_tag a tg) ff_Packet_slot a fx_neg) ff_Packet_attempt a (nI 1)) ff_Packet_entered a (nI 0)) ff_Packet_flitsInNet a (nI 0)) ff_Packet_wasAsked a (fx_bit false)) ff_Packet_goal a = g := by
    rw [fi_ne (n0 (by decide)), fi_ne (n0 (by decide)), fi_ne (n0 (by decide)), fi_ne (n0 (by decide)), fi_ne (n0 (by decide)), fi_ne (n0 (by decide)), fi_ne (n0 (by decide)), fi_same]
  have g3 : fx_fi (fx_sfi (fx_sfi (fx_sfi (fx_sfi (fx_sfi (fx_sfi (fx_sfi (fx_sfi (fx_sfi s ff_Packet_source a v) ff_Packet_goal a g) ff_Packet_length a (nI l)) ff_Packet_tag a tg) ff_Packet_slot a fx_neg) ff_Packet_attempt a (nI 1)) ff_Packet_entered a (nI 0)) ff_Packet_flitsInNet a (nI 0)) ff_Packet_wasAsked a (fx_bit false)) ff_Packet_length a = nI l := by
    rw [fi_ne (n0 (by decide)), fi_ne (n0 (by decide)), fi_ne (n0 (by decide)), fi_ne (n0 (by decide)), fi_ne (n0 (by decide)), fi_ne (n0 (by decide)), fi_same]
  have g4 : fx_fi (fx_sfi (fx_sfi (fx_sfi (fx_sfi (fx_sfi (fx_sfi (fx_sfi (fx_sfi (fx_sfi s ff_Packet_source a v) ff_Packet_goal a g) ff_Packet_length a (nI l)) ff_Packet_tag a tg) ff_Packet_slot a fx_neg) ff_Packet_attempt a (nI 1)) ff_Packet_entered a (nI 0)) ff_Packet_flitsInNet a (nI 0)) ff_Packet_wasAsked a (fx_bit false)) ff_Packet_tag a = tg := by
    rw [fi_ne (n0 (by decide)), fi_ne (n0 (by decide)), fi_ne (n0 (by decide)), fi_ne (n0 (by decide)), fi_ne (n0 (by decide)), fi_same]
  have g5 : fx_fi (fx_sfi (fx_sfi (fx_sfi (fx_sfi (fx_sfi (fx_sfi (fx_sfi (fx_sfi (fx_sfi s ff_Packet_source a v) ff_Packet_goal a g) ff_Packet_length a (nI l)) ff_Packet_tag a tg) ff_Packet_slot a fx_neg) ff_Packet_attempt a (nI 1)) ff_Packet_entered a (nI 0)) ff_Packet_flitsInNet a (nI 0)) ff_Packet_wasAsked a (fx_bit false)) ff_Packet_slot a = fx_neg := by
    rw [fi_ne (n0 (by decide)), fi_ne (n0 (by decide)), fi_ne (n0 (by decide)), fi_ne (n0 (by decide)), fi_same]
  have g6 : fx_fi (fx_sfi (fx_sfi (fx_sfi (fx_sfi (fx_sfi (fx_sfi (fx_sfi (fx_sfi (fx_sfi s ff_Packet_source a v) ff_Packet_goal a g) ff_Packet_length a (nI l)) ff_Packet_tag a tg) ff_Packet_slot a fx_neg) ff_Packet_attempt a (nI 1)) ff_Packet_entered a (nI 0)) ff_Packet_flitsInNet a (nI 0)) ff_Packet_wasAsked a (fx_bit false)) ff_Packet_attempt a = nI 1 := by
    rw [fi_ne (n0 (by decide)), fi_ne (n0 (by decide)), fi_ne (n0 (by decide)), fi_same]
  have g7 : fx_fi (fx_sfi (fx_sfi (fx_sfi (fx_sfi (fx_sfi (fx_sfi (fx_sfi (fx_sfi (fx_sfi s ff_Packet_source a v) ff_Packet_goal a g) ff_Packet_length a (nI l)) ff_Packet_tag a tg) ff_Packet_slot a fx_neg) ff_Packet_attempt a (nI 1)) ff_Packet_entered a (nI 0)) ff_Packet_flitsInNet a (nI 0)) ff_Packet_wasAsked a (fx_bit false)) ff_Packet_entered a = nI 0 := by
    rw [fi_ne (n0 (by decide)), fi_ne (n0 (by decide)), fi_same]
  have g8 : fx_fi (fx_sfi (fx_sfi (fx_sfi (fx_sfi (fx_sfi (fx_sfi (fx_sfi (fx_sfi (fx_sfi s ff_Packet_source a v) ff_Packet_goal a g) ff_Packet_length a (nI l)) ff_Packet_tag a tg) ff_Packet_slot a fx_neg) ff_Packet_attempt a (nI 1)) ff_Packet_entered a (nI 0)) ff_Packet_flitsInNet a (nI 0)) ff_Packet_wasAsked a (fx_bit false)) ff_Packet_flitsInNet a = nI 0 := by
    rw [fi_ne (n0 (by decide)), fi_same]
  have g9 : fx_fi (fx_sfi (fx_sfi (fx_sfi (fx_sfi (fx_sfi (fx_sfi (fx_sfi (fx_sfi (fx_sfi s ff_Packet_source a v) ff_Packet_goal a g) ff_Packet_length a (nI l)) ff_Packet_tag a tg) ff_Packet_slot a fx_neg) ff_Packet_attempt a (nI 1)) ff_Packet_entered a (nI 0)) ff_Packet_flitsInNet a (nI 0)) ff_Packet_wasAsked a (fx_bit false)) ff_Packet_wasAsked a = fx_bit false := by
    rw [fi_same]
  have nx : fx_nx (fx_sfi (fx_sfi (fx_sfi (fx_sfi (fx_sfi (fx_sfi (fx_sfi (fx_sfi (fx_sfi s ff_Packet_source a v) ff_Packet_goal a g) ff_Packet_length a (nI l)) ff_Packet_tag a tg) ff_Packet_slot a fx_neg) ff_Packet_attempt a (nI 1)) ff_Packet_entered a (nI 0)) ff_Packet_flitsInNet a (nI 0)) ff_Packet_wasAsked a (fx_bit false)) = fx_nx s := rfl
  have sl : fx_sl (fx_sfi (fx_sfi (fx_sfi (fx_sfi (fx_sfi (fx_sfi (fx_sfi (fx_sfi (fx_sfi s ff_Packet_source a v) ff_Packet_goal a g) ff_Packet_length a (nI l)) ff_Packet_tag a tg) ff_Packet_slot a fx_neg) ff_Packet_attempt a (nI 1)) ff_Packet_entered a (nI 0)) ff_Packet_flitsInNet a (nI 0)) ff_Packet_wasAsked a (fx_bit false)) = fx_sl s := rfl
  generalize fx_sfi (fx_sfi (fx_sfi (fx_sfi (fx_sfi (fx_sfi (fx_sfi (fx_sfi (fx_sfi s ff_Packet_source a v) ff_Packet_goal a g) ff_Packet_length a (nI l)) ff_Packet_tag a tg) ff_Packet_slot a fx_neg) ff_Packet_attempt a (nI 1)) ff_Packet_entered a (nI 0)) ff_Packet_flitsInNet a (nI 0)) ff_Packet_wasAsked a (fx_bit false) = s1 at *
  refine xx_j ee109_46 rfl trivial ?_
  refine xx_c ee109_47 rfl (k_makeFlits hA1 hJ hL hn g3 hl8 (fun t hA hF2 hfi har hx hs => ?_))
  exact xx_rv ee109_50 (k t hA (hF.tr hF2) ((hfi _).trans g1) ((hfi _).trans g5) ((hfi _).trans g2) ((hfi _).trans g3) ((hfi _).trans g4) ((hfi _).trans g6) ((hfi _).trans g7) ((hfi _).trans g9) ((hfi _).trans g8) har (by omega) (by omega))
theorem k_put {v g l tg : Int32} (h : RA s x B H C Y P m rt K L M) (hJ : JV M lv) (hL : ∀ k, k ∈ L → lv k) (k1 : sput M v g l = false → Q (some (vI (fx_bit false))) s) (k2 : sput M v g l = true → ∀ t rt' K', CF x s t → RA t x B H C Y P m rt' K' L (om_put M v.toNatClampNeg g l tg) → fx_nx t ≤ fx_nx s + 10 → fx_sl t ≤ fx_sl s + 60 → Q (some (vI (fx_bit true))) t) : fx_M mm_Torus_put [vR 10 (some x), vI v, vI g, vI l, vI tg] s Q := by
  have h64 := hJ.all64
  have no1 : sput M v g l = false → fx_W 119 27 [some (vR 10 (some x)), some (vI v), some (vI g), some (vI l), some (vI tg), none, none] [] s Q := by
    intro e
    refine xx_k ee119_27 0 rfl ?_
    exact xx_t fx_bit_f (xx_rz ee119_28 (k1 e))
  have no2 : ∀ x5, sput M v g l = false → fx_W 119 63 [some (vR 10 (some x)), some (vI v), some (vI g), some (vI l), some (vI tg), x5, none] [] s Q := by
    intro x5 e
    refine xx_k ee119_63 0 rfl ?_
    exact xx_t fx_bit_f (xx_rz ee119_64 (k1 e))
  refine xx_i ml119 ?_
  refine xx_j ee119_0 rfl trivial ?_
  refine xx_gr ee119_1 h.sk.a.grid rfl rfl ?_
  refine xx_j ee119_4 rfl trivial ?_
  refine xx_c ee119_5 rfl (k_hasNode (by omega) h.g.a.1 ?_)
  refine xx_z ee119_8 (fun hv => no1 (by simp only [sput, hv, Bool.false_and])) (fun hv => ?_)
  refine xx_j ee119_11 rfl trivial ?_
  refine xx_gr ee119_12 h.sk.a.grid rfl rfl ?_
  refine xx_j ee119_15 rfl trivial ?_
  refine xx_c ee119_16 rfl (k_hasNode (by omega) h.g.a.1 ?_)
  refine xx_z ee119_19 (fun hg => no1 (by simp only [sput, hg, Bool.and_false, Bool.false_and])) (fun hg => ?_)
  obtain ⟨b, eb, hb⟩ := fx_isN_nI h64 hv
  obtain ⟨c, ec, hc⟩ := fx_isN_nI h64 hg
  refine xx_j ee119_22 rfl trivial ?_
  refine xx_j ee119_23 rfl trivial ?_
  refine xx_b ee119_24 rfl (fun hne => ?_) (fun he => no1 ?_)
  rotate_left
  · have he' : v = g := Classical.byContradiction he
    have : (v == g) = true := by rw [he']; exact beq_self_eq_true _
    simp only [sput, this, Bool.not_true, Bool.and_false, Bool.false_and]
  have hne' : (v == g) = false := by rw [beq_eq_false_iff_ne]; exact hne
  subst eb
  have hbm : b < m := Nat.lt_of_lt_of_le hb h.nm
  have nd := h.sk.b b hbm
  have hw5 := hJ.ri.wNl (v := b) (by omega)
  refine xx_j ee119_29 rfl trivial ?_
  refine xx_gr ee119_30 h.sk.a.nodes rfl rfl ?_
  refine xx_j ee119_33 rfl trivial ?_
  refine xx_rl ee119_34 h.sk.a.lnod (by omega) (by decide) nd.at rfl ?_
  refine xx_gr ee119_35 nd.snd rfl rfl ?_
  refine xx_gr ee119_38 nd.wait rfl rfl ?_
  refine xx_j ee119_41 rfl trivial ?_
  refine xx_j ee119_43 rfl trivial ?_
  refine xx_k ee119_44 1 rfl ?_
  have one : nI 1 = (1 : Int32) := by decide
  have eight : nI 8 = (8 : Int32) := by decide
  refine xx_b ee119_45 rfl (fun hq => no2 _ ?_) (fun hq1 => ?_)
  · have hq' : l < nI 1 := hq
    rw [one] at hq'
    have : decide ((1 : Int32) ≤ l) = false := by
      rw [decide_eq_false_iff_not]
      exact Int32.not_le.mpr hq'
    simp only [sput, this, Bool.false_and, Bool.and_false]
  have hq1' : (1 : Int32) ≤ l := by
    have : ¬ l < nI 1 := hq1
    rw [one] at this
    exact Int32.not_lt.mp this
  refine xx_j ee119_48 rfl trivial ?_
  refine xx_kb ee119_49 8 rfl ?_
  refine xx_b ee119_51 rfl (fun hq => no2 _ ?_) (fun hq2 => ?_)
  · have hq' : nI 8 < l := hq
    rw [eight] at hq'
    have : decide (l ≤ (8 : Int32)) = false := by
      rw [decide_eq_false_iff_not]
      exact Int32.not_le.mpr hq'
    simp only [sput, this, Bool.false_and, Bool.and_false]
  have hq2' : l ≤ (8 : Int32) := by
    have : ¬ nI 8 < l := hq2
    rw [eight] at this
    exact Int32.not_lt.mp this
  have zs : fx_fi s ff_Row_size (B b + 2) = nI (rn M ff_Mod_waits b) := by
    rw [(h.r.row _ (ISR.w hbm)).len, (h.w b hbm).1]
  have hcb : (nI b).toNatClampNeg = b := nI_clamp (by omega)
  refine xx_j ee119_54 rfl trivial ?_
  refine xx_gi ee119_56 zs rfl rfl ?_
  refine xx_k ee119_59 4 rfl ?_
  refine xx_lt ee119_60 (by omega) (by omega) (fun hlt => ?_) (fun hge => no2 _ ?_)
  rotate_left
  · have : (rn M ff_Mod_waits b == 4) = true := by rw [beq_iff_eq]; omega
    simp only [sput, hcb, this, Bool.not_true, Bool.and_false]
  have hok : sput M (nI b) g l = true := by
    have e1 : decide ((1 : Int32) ≤ l) = true := decide_eq_true hq1'
    have e2 : decide (l ≤ (8 : Int32)) = true := decide_eq_true hq2'
    have e3 : (rn M ff_Mod_waits b == 4) = false := by rw [beq_eq_false_iff_ne]; omega
    simp only [sput, hv, hg, hne', e1, e2, hcb, e3, Bool.not_false, Bool.and_true, Bool.true_and]
  obtain ⟨n, en, hn1, hn2⟩ : ∃ n, l = nI n ∧ 1 ≤ n ∧ n ≤ 8 := by
    have := fx_within_nI (w := l) (a := 1) (b := 8) (by omega) (by omega) (by rw [one, eight, decide_eq_true hq1', decide_eq_true hq2']; rfl)
    exact this
  subst en
  have k2 := k2 hok
  rw [hcb] at k2
  clear no1 no2 k1
  have e9 : (nI n).toNatClampNeg = n := nI_clamp (by omega)
  -- the packet is there
  have go : ∀ (a : Nat) rt1 K1 s1, RA s1 x B H C Y P m rt1 K1 L M → NU x B P m rt1 K1 M a → CF x s s1 → fx_nx s1 ≤ fx_nx s + 2 → fx_sl s1 ≤ fx_sl s + 21 → fx_W 119 88 [some (vR 10 (some x)), some (vI (nI b)), some (vI g), some (vI (nI n)), some (vI tg), some (vR 20 (some (B b + 2))), some (vR 15 (some a))] [] s1 Q := by
    intro a rt1 K1 s1 hA hn hF hx1 hs1
    refine xx_j ee119_88 rfl trivial ?_
    refine xx_j ee119_90 rfl trivial ?_
    refine xx_j ee119_91 rfl trivial ?_
    refine xx_j ee119_92 rfl trivial ?_
    refine xx_j ee119_93 rfl trivial ?_
    refine xx_c ee119_95 rfl (k_fill hA hJ hL hn hn2 (fun t hA2 hF2 f1 f2 f3 f4 f5 f6 f7 f8 f9 har hx hs => ?_))
    refine xx_j ee119_98 rfl trivial ?_
    refine xx_j ee119_100 rfl trivial ?_
    refine xx_c ee119_102 rfl (k_app hA2.r (ISR.w hbm) hn.2.1 (fun nx fi la sz hR => ?_))
    have hpk : fx_fi (fx_srow t nx fi la sz) ff_Torus_packets x = nI (spks M ((rn M ff_Mod_all 0))) := hA2.t.pks
    refine xx_j ee119_105 rfl trivial ?_
    refine xx_j ee119_106 rfl trivial ?_
    refine xx_gi ee119_107 hpk rfl rfl ?_
    refine xx_k ee119_110 1 rfl ?_
    first | refine xx_add ee119_111 ?_ | refine xx_j ee119_111 rfl trivial ?_
    refine xx_pi ee119_112 rfl ?_
    refine xx_k ee119_115 1 rfl ?_
    have hA3 := hA2.wapp (v := b) (g := g) (l := nI n) (t := tg) hJ.ri hb h64 hlt hn.1 f1 f2 f3 f4 f5 f6 f7 f8 f9 (by rw [e9]; exact har) rfl hR
    exact xx_t fx_bit_t (xx_rz ee119_116 (k2 _ _ _ (((hF.tr hF2).srow).sfi (by decide)) hA3 (by show fx_nx t ≤ _; omega) (by show fx_sl t ≤ _; omega)))
  refine xx_j ee119_65 rfl trivial ?_
  refine xx_gr ee119_66 h.sk.a.spare rfl rfl ?_
  refine xx_c ee119_69 rfl (k_rmf h.r ISR.sp (fun hnil => ?_) (fun a l nx fi la sz ht hR hq => ?_))
  · refine xx_j ee119_72 rfl trivial ?_
    refine xx_j ee119_74 rfl trivial ?_
    refine xx_nn ee119_76 (fun b e => by cases e) (fun _ => ?_)
    refine xx_j ee119_79 rfl trivial ?_
    refine xx_j ee119_82 rfl trivial ?_
    refine xx_c ee119_83 rfl (k_packetI ?_)
    refine xx_j ee119_86 rfl trivial ?_
    have g0 : GR s (fx_sfr (fx_newa (fx_new s 15 13) 42 8) ff_Packet_flits (fx_nx s) (some (fx_nx (fx_new s 15 13)))) := (GR.new.tr GR.newa).sfr (Nat.le_refl _)
    have hA1 := h.growJ hJ hL g0
    have hF1 : CF x s (fx_sfr (fx_newa (fx_new s 15 13) 42 8) ff_Packet_flits (fx_nx s) (some (fx_nx (fx_new s 15 13)))) := ((CF.rf x s).new.newa).sfr (by decide)
    have q1 : fx_fr (fx_sfr (fx_newa (fx_new s 15 13) 42 8) ff_Packet_flits (fx_nx s) (some (fx_nx (fx_new s 15 13)))) ff_Packet_flits (fx_nx s) = some (fx_nx s + 1) := fr_same
    have q2 : fx_ln (fx_sfr (fx_newa (fx_new s 15 13) 42 8) ff_Packet_flits (fx_nx s) (some (fx_nx (fx_new s 15 13)))) (fx_nx s + 1) = 8 := by
      show fx_at (fx_ln s) (fx_nx s + 1) 8 (fx_nx s + 1) = 8
      unfold fx_at
      rw [if_pos rfl]
    have q3 : ∀ b, fx_ar (fx_sfr (fx_newa (fx_new s 15 13) 42 8) ff_Packet_flits (fx_nx s) (some (fx_nx (fx_new s 15 13)))) (fx_nx s + 1) b = none := by
      intro b
      show fx_at (fx_ar s) (fx_nx s + 1) (fun _ => none) (fx_nx s + 1) b = none
      unfold fx_at
      rw [if_pos rfl]
    have q4 : fx_nx (fx_sfr (fx_newa (fx_new s 15 13) 42 8) ff_Packet_flits (fx_nx s) (some (fx_nx (fx_new s 15 13)))) = fx_nx s + 2 := rfl
    have q5 : fx_sl (fx_sfr (fx_newa (fx_new s 15 13) 42 8) ff_Packet_flits (fx_nx s) (some (fx_nx (fx_new s 15 13)))) = fx_sl s + 13 + 8 := rfl
    generalize fx_sfr (fx_newa (fx_new s 15 13) 42 8) ff_Packet_flits (fx_nx s) (some (fx_nx (fx_new s 15 13))) = s1 at *
    have hx15 := h.sk.c.x15
    have hA2 := hA1.addK (a := fx_nx s) hx15 (by omega) (fun v hv => Or.inr (h.sk.c.in_ v hv).2) q1 q2 (fun b _ => q3 b) (fun c hc => by have := (h.k.in_ c hc).2.1; omega)
    refine go (fx_nx s) rt _ s1 hA2 ⟨Or.inr rfl, fun q hq hin => ?_, fun p hp lp e => ?_⟩ hF1 (by omega) (by omega)
    · have := (h.k.in_ _ (h.rows hJ hL q hq _ hin)).2.1
      omega
    · have := (h.k.in_ _ (h.o.kp p hp lp)).2.1
      omega
  · obtain ⟨hA1, hn1⟩ := h.spop ht hR hq
    refine xx_j ee119_72 rfl trivial ?_
    refine xx_j ee119_74 rfl trivial ?_
    refine xx_nn ee119_76 (fun _ _ => ?_) (fun e => by cases e)
    exact go a _ K _ hA1 hn1 (CF.rf x s).srow (by show fx_nx s ≤ _; omega) (by show fx_sl s ≤ _; omega)
end
