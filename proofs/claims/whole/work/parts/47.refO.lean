/-! THE REFERENCE: what is asked of it -/
def fx_sel (x : Int32) (l : List Int32) : Int32 := if 0 ≤ x.toInt then l.getD x.toNatClampNeg fx_neg else fx_neg
theorem fx_sel_nI {j : Nat} {l : List Int32} (h : j < 2 ^ 31) : fx_sel (nI j) l = l.getD j fx_neg := by
  unfold fx_sel
  rw [nI_toInt h, if_pos (by omega), nI_clamp h]
theorem fx_sel_out {x : Int32} {l : List Int32} {n : Nat} (hn : l.length = n) (hl : n < 2 ^ 31) (h : ∀ j, j < n → x ≠ nI j) : fx_sel x l = fx_neg := by
  subst hn
  unfold fx_sel
  by_cases hx : 0 ≤ x.toInt
  · rw [if_pos hx]
    by_cases h2 : x.toInt < l.length
    · obtain ⟨j, hj, e⟩ := vp_in_of (x := x) (n := l.length) (vp_in_iff.mpr ⟨hx, h2⟩) (by omega)
      exact absurd e (h j hj)
    · have : l.length ≤ x.toNatClampNeg := by
        have : x.toNatClampNeg = x.toInt.toNat := rfl
        omega
      simp [List.getD_eq_getElem?_getD, this]
  · rw [if_neg hx]
section
variable {mi pc np r1 r2 : Nat} {ls : fx_L} {st : List fx_V} {s : fx_S} {Q : fx_Q} {x : Int32}
theorem xx_sw {d : Int} {hi : Nat} {offs : Array Int} (ht : fx_tab mi pc = some (.tableswitch d 0 (hi : Int) offs, np, r1, r2)) (hh : hi < 1000) (k : ∀ j, j ≤ hi → x = nI j → fx_W mi (fx_sw pc d 0 hi offs (nI j)) ls st s Q) (kd : (∀ j, j < hi + 1 → x ≠ nI j) → fx_W mi ((pc : Int) + d).toNat ls st s Q) : fx_W mi pc ls (.inl x :: st) s Q := by
  refine xx_j ht rfl trivial ?_
  by_cases h : 0 ≤ x.toInt ∧ x.toInt < hi + 1
  · obtain ⟨j, hj, e⟩ := vp_in_of (x := x) (n := hi + 1) (vp_in_iff.mpr ⟨h.1, by simpa using h.2⟩) (by omega)
    have := k j (by omega) e
    rw [← e] at this
    exact this
  · have h1 : x.toInt < 0 ∨ (hi : Int) < x.toInt := by omega
    have := kd (fun j hj e => by
      rw [e, nI_toInt (by omega)] at h1
      omega)
    unfold fx_sw
    rw [if_pos h1]
    exact this
end
section
variable {s : fx_S} {Q : fx_Q} {o : Nat} {A : Nat → Nat} {M : rf_M}
theorem RI.t0 (hI : RI M) : RI (om_t0 M) := hI.raw rfl (by decide) (by decide)
theorem q_thrown (hR : rf_ok s o A M) (k : Q (some (vI (M ff_Mod_thrown 0))) s) : fx_M mm_Mod_thrown [vR 22 (some o)] s Q := by
  refine xx_i ml44 ?_
  refine xx_j ee44_0 rfl trivial ?_
  refine rr_fi hR ee44_1 rfl rfl rfl ?_
  exact xx_ri ee44_4 rt44 k
def sa_count (M : rf_M) (x : Int32) : Int32 := fx_sel x [M ff_Mod_flits 0, M ff_Mod_deflected 0, M ff_Mod_received 0, M ff_Mod_cycle 0, M ff_Mod_lost 0, M ff_Mod_turn 0]
theorem q_count {x : Int32} (hR : rf_ok s o A M) (k : ∀ s', rf_ok s' o A (om_t0 M) → rf_fr o A s s' → Q (some (vI (sa_count M x))) s') : fx_M mm_Mod_count [vR 22 (some o), vI x] s Q := by
  have hF := rf_fr.rf o A s
  refine xx_i ml25 ?_
  refine xx_j ee25_0 rfl trivial ?_
  refine xx_k ee25_1 0 rfl ?_
  refine rr_pf hR hF ee25_2 rfl rfl (fun s hR hF => ?_)
  refine xx_j ee25_5 rfl trivial ?_
  replace hR : rf_ok _ o A (om_t0 M) := hR
  have k := k _ hR hF
  refine xx_sw (hi := 5) ee25_6 (by omega) (fun j hj e => ?_) (fun h => ?_)
  · subst e
    unfold sa_count at k
    rw [fx_sel_nI (by omega)] at k
    obtain rfl | rfl | rfl | rfl | rfl | rfl : j = 0 ∨ j = 1 ∨ j = 2 ∨ j = 3 ∨ j = 4 ∨ j = 5 := by omega
    · show fx_W 25 44 _ _ _ _
      refine xx_j ee25_44 rfl trivial ?_
      refine rr_fi hR ee25_45 rfl rfl rfl ?_
      exact xx_ri ee25_48 rt25 k
    · show fx_W 25 49 _ _ _ _
      refine xx_j ee25_49 rfl trivial ?_
      refine rr_fi hR ee25_50 rfl rfl rfl ?_
      exact xx_ri ee25_53 rt25 k
    · show fx_W 25 54 _ _ _ _
      refine xx_j ee25_54 rfl trivial ?_
      refine rr_fi hR ee25_55 rfl rfl rfl ?_
      exact xx_ri ee25_58 rt25 k
    · show fx_W 25 59 _ _ _ _
      refine xx_j ee25_59 rfl trivial ?_
      refine rr_fi hR ee25_60 rfl rfl rfl ?_
      exact xx_ri ee25_63 rt25 k
    · show fx_W 25 64 _ _ _ _
      refine xx_j ee25_64 rfl trivial ?_
      refine rr_fi hR ee25_65 rfl rfl rfl ?_
      exact xx_ri ee25_68 rt25 k
    · show fx_W 25 69 _ _ _ _
      refine xx_j ee25_69 rfl trivial ?_
      refine rr_fi hR ee25_70 rfl rfl rfl ?_
      exact xx_ri ee25_73 rt25 k
  · show fx_W 25 74 _ _ _ _
    refine xx_km ee25_74 rfl ?_
    refine xx_ri ee25_75 rt25 ?_
    unfold sa_count at k
    rw [fx_sel_out (n := 6) rfl (by omega) h] at k
    exact k
def sa_taken (M : rf_M) (v w : Int32) : Int32 := bif fx_isN (rn M ff_Mod_all 0) v && (decide (nI 0 ≤ w) && decide (w ≤ nI 2)) then M ff_Mod_taken (3 * v.toNatClampNeg + w.toNatClampNeg) else fx_neg
theorem fx_within_nI {w : Int32} {a b : Nat} (hb : b + 1 < 2 ^ 31) (ha : a < 2 ^ 31) (h : (decide (nI a ≤ w) && decide (w ≤ nI b)) = true) : ∃ k, w = nI k ∧ a ≤ k ∧ k ≤ b := by
  simp only [Bool.and_eq_true, decide_eq_true_eq] at h
  have h1 := Int32.le_iff_toInt_le.mp h.1
  have h2 := Int32.le_iff_toInt_le.mp h.2
  rw [nI_toInt ha] at h1
  rw [nI_toInt (by omega)] at h2
  obtain ⟨j, hj, e⟩ := vp_in_of (x := w) (n := b + 1) (vp_in_iff.mpr ⟨by omega, by omega⟩) (by omega)
  refine ⟨j, e, ?_, by omega⟩
  rw [e, nI_toInt (by omega)] at h1
  omega
theorem q_taken {v w : Int32} (hR : rf_ok s o A M) (hI : RI M) (k : ∀ s', rf_ok s' o A (om_t0 M) → rf_fr o A s s' → Q (some (vI (sa_taken M v w))) s') : fx_M mm_Mod_taken [vR 22 (some o), vI v, vI w] s Q := by
  have hF := rf_fr.rf o A s
  have hA := hI.l ff_Mod_all 0 65 (n := 1) rfl (by omega) rfl (by omega)
  refine xx_i ml81 ?_
  refine xx_j ee81_0 rfl trivial ?_
  refine xx_k ee81_1 0 rfl ?_
  refine rr_pf hR hF ee81_2 rfl rfl (fun s hR hF => ?_)
  refine xx_j ee81_5 rfl trivial ?_
  refine xx_j ee81_6 rfl trivial ?_
  replace hR : rf_ok _ o A (om_t0 M) := hR
  have k := k _ hR hF
  unfold sa_taken at k
  refine xx_c ee81_7 rfl (q_isNode hR hI.t0 ?_)
  refine xx_z ee81_10 (fun h => ?_) (fun hv => ?_)
  · refine xx_km ee81_35 rfl ?_
    refine xx_ri ee81_36 rt81 ?_
    have h' : fx_isN (rn M ff_Mod_all 0) v = false := h
    rw [h', Bool.false_and, cond_false] at k
    exact k
  have hv' : fx_isN (rn M ff_Mod_all 0) v = true := hv
  refine xx_j ee81_13 rfl trivial ?_
  refine xx_k ee81_14 0 rfl ?_
  refine xx_k ee81_15 2 rfl ?_
  refine xx_c ee81_16 rfl (c_within w (nI 0) (nI 2) ?_)
  refine xx_z ee81_19 (fun h => ?_) (fun hw => ?_)
  · refine xx_km ee81_35 rfl ?_
    refine xx_ri ee81_36 rt81 ?_
    rw [h, Bool.and_false, cond_false] at k
    exact k
  rw [hv', hw, Bool.and_true, cond_true] at k
  obtain ⟨a, ea, ha⟩ := fx_isN_nI (by omega) hv'
  obtain ⟨b, eb, _, hb⟩ := fx_within_nI (by omega) (by omega) hw
  subst ea
  subst eb
  rw [nI_clamp (by omega), nI_clamp (by omega)] at k
  refine xx_j ee81_22 rfl trivial ?_
  refine rr_fa hR ee81_23 (by decide) rfl rfl ?_
  refine xx_k ee81_26 3 rfl ?_
  refine xx_j ee81_27 rfl trivial ?_
  first | refine xx_mul ee81_28 ?_ | refine xx_j ee81_28 rfl trivial ?_
  refine xx_j ee81_29 rfl trivial ?_
  first | refine xx_add ee81_30 ?_ | refine xx_j ee81_30 rfl trivial ?_
  refine rr_al 192 hR ee81_31 rfl (by omega) ?_
  refine xx_j ee81_32 rfl trivial ?_
  exact xx_ri ee81_36 rt81 k
def sa_dist (M : rf_M) (v w : Int32) : Int32 := bif fx_isN (rn M ff_Mod_all 0) v && fx_isN (rn M ff_Mod_all 0) w then M ff_Mod_away (64 * v.toNatClampNeg + w.toNatClampNeg) else fx_neg
theorem q_distance {v w : Int32} (hR : rf_ok s o A M) (hI : RI M) (k : ∀ s', rf_ok s' o A (om_t0 M) → rf_fr o A s s' → Q (some (vI (sa_dist M v w))) s') : fx_M mm_Mod_distance [vR 22 (some o), vI v, vI w] s Q := by
  have hF := rf_fr.rf o A s
  have hA := hI.l ff_Mod_all 0 65 (n := 1) rfl (by omega) rfl (by omega)
  refine xx_i ml70 ?_
  refine xx_j ee70_0 rfl trivial ?_
  refine xx_k ee70_1 0 rfl ?_
  refine rr_pf hR hF ee70_2 rfl rfl (fun s hR hF => ?_)
  refine xx_j ee70_5 rfl trivial ?_
  refine xx_j ee70_6 rfl trivial ?_
  replace hR : rf_ok _ o A (om_t0 M) := hR
  have k := k _ hR hF
  unfold sa_dist at k
  refine xx_c ee70_7 rfl (q_isNode hR hI.t0 ?_)
  refine xx_z ee70_10 (fun h => ?_) (fun hv => ?_)
  · refine xx_km ee70_35 rfl ?_
    refine xx_ri ee70_36 rt70 ?_
    have h' : fx_isN (rn M ff_Mod_all 0) v = false := h
    rw [h', Bool.false_and, cond_false] at k
    exact k
  have hv' : fx_isN (rn M ff_Mod_all 0) v = true := hv
  refine xx_j ee70_13 rfl trivial ?_
  refine xx_j ee70_14 rfl trivial ?_
  refine xx_c ee70_15 rfl (q_isNode hR hI.t0 ?_)
  refine xx_z ee70_18 (fun h => ?_) (fun hw => ?_)
  · refine xx_km ee70_35 rfl ?_
    refine xx_ri ee70_36 rt70 ?_
    have h' : fx_isN (rn M ff_Mod_all 0) w = false := h
    rw [h', Bool.and_false, cond_false] at k
    exact k
  have hw' : fx_isN (rn M ff_Mod_all 0) w = true := hw
  rw [hv', hw', Bool.and_true, cond_true] at k
  obtain ⟨a, ea, ha⟩ := fx_isN_nI (by omega) hv'
  obtain ⟨b, eb, hb⟩ := fx_isN_nI (by omega) hw'
  subst ea
  subst eb
  rw [nI_clamp (by omega), nI_clamp (by omega)] at k
  refine xx_j ee70_21 rfl trivial ?_
  refine rr_fa hR ee70_22 (by decide) rfl rfl ?_
  refine xx_kb ee70_25 64 rfl ?_
  refine xx_j ee70_27 rfl trivial ?_
  first | refine xx_mul ee70_28 ?_ | refine xx_j ee70_28 rfl trivial ?_
  refine xx_j ee70_29 rfl trivial ?_
  first | refine xx_add ee70_30 ?_ | refine xx_j ee70_30 rfl trivial ?_
  refine rr_al 4096 hR ee70_31 rfl (by omega) ?_
  refine xx_j ee70_32 rfl trivial ?_
  exact xx_ri ee70_36 rt70 k
def sa_gold (M : rf_M) (x : Int32) : Int32 := fx_sel x [nI (sgold M / 64), nI (sgold M / 8 % 8), nI (sgold M % 8)]
theorem q_golden {x : Int32} (hR : rf_ok s o A M) (hI : RI M) (h0 : 0 < rn M ff_Mod_all 0) (k : ∀ s', rf_ok s' o A (om_t0 M) → rf_fr o A s s' → Q (some (vI (sa_gold M x))) s') : fx_M mm_Mod_golden [vR 22 (some o), vI x] s Q := by
  have hF := rf_fr.rf o A s
  have hg := sgold_lt hI h0
  refine xx_i ml73 ?_
  refine xx_j ee73_0 rfl trivial ?_
  refine xx_k ee73_1 0 rfl ?_
  refine rr_pf hR hF ee73_2 rfl rfl (fun s hR hF => ?_)
  refine xx_j ee73_5 rfl trivial ?_
  replace hR : rf_ok _ o A (om_t0 M) := hR
  have k := k _ hR hF
  unfold sa_gold at k
  refine xx_c ee73_6 rfl (q_goldenNow hR hI.t0 h0 ?_)
  have eg : sgold (om_t0 M) = sgold M := rfl
  rw [eg]
  refine xx_j ee73_9 rfl trivial ?_
  refine xx_j ee73_10 rfl trivial ?_
  refine xx_b ee73_11 rfl (fun h => ?_) (fun h => ?_)
  · have n0 : ¬ x = nI 0 := h
    refine xx_j ee73_21 rfl trivial ?_
    refine xx_k ee73_22 1 rfl ?_
    refine xx_b ee73_23 rfl (fun h => ?_) (fun h => ?_)
    · have n1 : ¬ x = nI 1 := h
      refine xx_j ee73_36 rfl trivial ?_
      refine xx_k ee73_37 2 rfl ?_
      refine xx_b ee73_38 rfl (fun h => ?_) (fun h => ?_)
      · have n2 : ¬ x = nI 2 := h
        refine xx_km ee73_48 rfl ?_
        refine xx_ri ee73_49 rt73 ?_
        rw [fx_sel_out (n := 3) rfl (by omega) (fun j hj => by
          obtain rfl | rfl | rfl : j = 0 ∨ j = 1 ∨ j = 2 := by
            have : j < 3 := hj
            omega
          · exact n0
          · exact n1
          · exact n2)] at k
        exact k
      · have e : x = nI 2 := Classical.byContradiction h
        subst e
        refine xx_j ee73_41 rfl trivial ?_
        refine xx_kb ee73_42 8 rfl ?_
        refine xx_rem ee73_44 (by omega) (by omega) (by omega) ?_
        refine xx_j ee73_45 rfl trivial ?_
        refine xx_ri ee73_49 rt73 ?_
        rw [fx_sel_nI (by omega)] at k
        exact k
    · have e : x = nI 1 := Classical.byContradiction h
      subst e
      refine xx_j ee73_26 rfl trivial ?_
      refine xx_kb ee73_27 8 rfl ?_
      refine xx_div ee73_29 (by omega) (by omega) (by omega) ?_
      refine xx_kb ee73_30 8 rfl ?_
      refine xx_rem ee73_32 (by omega) (by omega) (by omega) ?_
      refine xx_j ee73_33 rfl trivial ?_
      refine xx_ri ee73_49 rt73 ?_
      rw [fx_sel_nI (by omega)] at k
      exact k
  · have e : x = nI 0 := (Classical.byContradiction h : x = 0)
    subst e
    refine xx_j ee73_14 rfl trivial ?_
    refine xx_kb ee73_15 64 rfl ?_
    refine xx_div ee73_17 (by omega) (by omega) (by omega) ?_
    refine xx_j ee73_18 rfl trivial ?_
    refine xx_ri ee73_49 rt73 ?_
    rw [fx_sel_nI (by omega)] at k
    exact k
def sa_flit (M : rf_M) (v l x : Int32) : Int32 := bif fx_isN (rn M ff_Mod_all 0) v && (decide (nI 0 ≤ l) && decide (l ≤ nI 3)) then (match sol M v.toNatClampNeg l.toNatClampNeg with
  | none => fx_neg
  | some f => fx_sel x [M ff_Mod_source f, M ff_Mod_slot f, M ff_Mod_number f, nI (sg M f), M ff_Mod_entry f, M ff_Mod_tries f]) else fx_neg
theorem q_flit {v l x : Int32} (hR : rf_ok s o A M) (hI : RI M) (k : ∀ s', rf_ok s' o A (om_t0 M) → rf_fr o A s s' → Q (some (vI (sa_flit M v l x))) s') : fx_M mm_Mod_flit [vR 22 (some o), vI v, vI l, vI x] s Q := by
  have hF := rf_fr.rf o A s
  have hA := hI.l ff_Mod_all 0 65 (n := 1) rfl (by omega) rfl (by omega)
  have hL := hI.l ff_Mod_flits 0 257 (n := 1) rfl (by omega) rfl (by omega)
  refine xx_i ml72 ?_
  refine xx_j ee72_0 rfl trivial ?_
  refine xx_k ee72_1 0 rfl ?_
  refine rr_pf hR hF ee72_2 rfl rfl (fun s hR hF => ?_)
  refine xx_j ee72_5 rfl trivial ?_
  refine xx_j ee72_6 rfl trivial ?_
  replace hR : rf_ok _ o A (om_t0 M) := hR
  have k := k _ hR hF
  unfold sa_flit at k
  have no : ∀ s', fx_W 72 31 [some (vR 22 (some o)), some (vI v), some (vI l), some (vI x), none] [] s' (fun r s2 => r = some (vI fx_neg) ∧ s2 = s') := by
    intro s'
    refine xx_km ee72_31 rfl ?_
    refine xx_j ee72_32 rfl trivial ?_
    refine xx_j ee72_34 rfl trivial ?_
    refine xx_km ee72_36 rfl ?_
    refine xx_one (b := none) ee72_37 (fun k h => by cases h) (fun k h => by cases h) (fun _ => ?_)
    refine xx_km ee72_40 rfl ?_
    exact xx_ri ee72_41 rt72 ⟨rfl, rfl⟩
  refine xx_c ee72_7 rfl (q_isNode hR hI.t0 ?_)
  refine xx_z ee72_10 (fun h => ?_) (fun hv => ?_)
  · refine xx_q (no _) (fun r s2 q => ?_)
    obtain ⟨q1, q2⟩ := q
    subst q1; subst q2
    have h' : fx_isN (rn M ff_Mod_all 0) v = false := h
    rw [h', Bool.false_and, cond_false] at k
    exact k
  have hv' : fx_isN (rn M ff_Mod_all 0) v = true := hv
  refine xx_j ee72_13 rfl trivial ?_
  refine xx_k ee72_14 0 rfl ?_
  refine xx_k ee72_15 3 rfl ?_
  refine xx_c ee72_16 rfl (c_within l (nI 0) (nI 3) ?_)
  refine xx_z ee72_19 (fun h => ?_) (fun hw => ?_)
  · refine xx_q (no _) (fun r s2 q => ?_)
    obtain ⟨q1, q2⟩ := q
    subst q1; subst q2
    rw [h, Bool.and_false, cond_false] at k
    exact k
  rw [hv', hw, Bool.and_true, cond_true] at k
  obtain ⟨a, ea, ha⟩ := fx_isN_nI (by omega) hv'
  obtain ⟨b, eb, _, hb⟩ := fx_within_nI (by omega) (by omega) hw
  subst ea
  subst eb
  rw [nI_clamp (by omega), nI_clamp (by omega)] at k
  refine xx_j ee72_22 rfl trivial ?_
  refine xx_j ee72_23 rfl trivial ?_
  refine xx_j ee72_24 rfl trivial ?_
  refine xx_c ee72_25 rfl (q_onLine hR hI.t0 (by omega) (by omega) ?_)
  have es : sol (om_t0 M) a b = sol M a b := rfl
  rw [es]
  refine xx_j ee72_28 rfl trivial ?_
  refine xx_j ee72_32 rfl trivial ?_
  refine xx_j ee72_34 rfl trivial ?_
  refine xx_km ee72_36 rfl ?_
  refine xx_one ee72_37 (fun f hf => by have := (sp_first_lt hf).2.1; omega) (fun f hf => ?_) (fun hf => ?_)
  · rw [hf] at k ⊢
    have hf2 := (sp_first_lt hf).2.1
    have hf3 : f < 300 := by omega
    simp only at k
    refine xx_j ee72_42 rfl trivial ?_
    refine xx_sw (hi := 5) ee72_43 (by omega) (fun j hj e => ?_) (fun h => ?_)
    · subst e
      rw [fx_sel_nI (by omega)] at k
      obtain rfl | rfl | rfl | rfl | rfl | rfl : j = 0 ∨ j = 1 ∨ j = 2 ∨ j = 3 ∨ j = 4 ∨ j = 5 := by omega
      · show fx_W 72 80 _ _ _ _
        refine xx_j ee72_80 rfl trivial ?_
        refine rr_fa hR ee72_81 (by decide) rfl rfl ?_
        refine xx_j ee72_84 rfl trivial ?_
        refine rr_al 300 hR ee72_86 rfl (by omega) ?_
        exact xx_ri ee72_87 rt72 k
      · show fx_W 72 88 _ _ _ _
        refine xx_j ee72_88 rfl trivial ?_
        refine rr_fa hR ee72_89 (by decide) rfl rfl ?_
        refine xx_j ee72_92 rfl trivial ?_
        refine rr_al 300 hR ee72_94 rfl (by omega) ?_
        exact xx_ri ee72_95 rt72 k
      · show fx_W 72 96 _ _ _ _
        refine xx_j ee72_96 rfl trivial ?_
        refine rr_fa hR ee72_97 (by decide) rfl rfl ?_
        refine xx_j ee72_100 rfl trivial ?_
        refine rr_al 300 hR ee72_102 rfl (by omega) ?_
        exact xx_ri ee72_103 rt72 k
      · show fx_W 72 104 _ _ _ _
        refine xx_j ee72_104 rfl trivial ?_
        refine xx_j ee72_105 rfl trivial ?_
        refine xx_c ee72_107 rfl (q_goalOf hR hI.t0 hf3 ?_)
        exact xx_ri ee72_110 rt72 k
      · show fx_W 72 111 _ _ _ _
        refine xx_j ee72_111 rfl trivial ?_
        refine rr_fa hR ee72_112 (by decide) rfl rfl ?_
        refine xx_j ee72_115 rfl trivial ?_
        refine rr_al 300 hR ee72_117 rfl (by omega) ?_
        exact xx_ri ee72_118 rt72 k
      · show fx_W 72 119 _ _ _ _
        refine xx_j ee72_119 rfl trivial ?_
        refine rr_fa hR ee72_120 (by decide) rfl rfl ?_
        refine xx_j ee72_123 rfl trivial ?_
        refine rr_al 300 hR ee72_125 rfl (by omega) ?_
        exact xx_ri ee72_126 rt72 k
    · show fx_W 72 127 _ _ _ _
      refine xx_km ee72_127 rfl ?_
      refine xx_ri ee72_128 rt72 ?_
      rw [fx_sel_out (n := 6) rfl (by omega) h] at k
      exact k
  · rw [hf] at k
    refine xx_km ee72_40 rfl ?_
    exact xx_ri ee72_41 rt72 k
end
