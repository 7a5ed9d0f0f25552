/-! THE REFERENCE: a node's numbers; what is taken -/
section
variable {s : fx_S} {Q : fx_Q} {o : Nat} {A : Nat → Nat} {M : rf_M}
/-- nothing waits, is in a slot or on its way -/
def sq (M : rf_M) : Nat → Bool
  | 0 => (rn M ff_Mod_notes 0 == 0) && (rn M ff_Mod_flits 0 == 0)
  | v + 1 => sq M v && (rn M ff_Mod_waits v == 0) && (sp_cnt (fun j => decide (0 < rn M ff_Mod_lengths (8 * v + j))) 8 == 0)
theorem q_isQuiet (hR : rf_ok s o A M) (hI : RI M) (k : Q (some (vI (fx_bit (sq M (rn M ff_Mod_all 0))))) s) : fx_M mm_Mod_isQuiet [vR 22 (some o)] s Q := by
  have hA := hI.l ff_Mod_all 0 65 (n := 1) rfl (by omega) rfl (by omega)
  have h1 := hI.l ff_Mod_flits 0 257 (n := 1) rfl (by omega) rfl (by omega)
  have h2 := hI.l ff_Mod_notes 0 1001 (n := 1) rfl (by omega) rfl (by omega)
  have e0 := hI.f ff_Mod_all rfl (by decide)
  have e1 := hI.f ff_Mod_flits rfl (by decide)
  have e2 := hI.f ff_Mod_notes rfl (by decide)
  refine xx_i ml75 ?_
  have key : ∀ d v, v + d = rn M ff_Mod_all 0 → fx_W 75 22 [some (vR 22 (some o)), some (vI (fx_bit (sq M v))), some (vI (nI v))] [] s Q := by
    intro d
    induction d with
    | zero =>
      intro v hv
      refine xx_j ee75_22 rfl trivial ?_
      refine xx_j ee75_23 rfl trivial ?_
      refine rr_fi hR ee75_24 rfl rfl rfl ?_
      refine xx_t e0 ?_
      refine xx_ge ee75_27 (by omega) (by omega) (fun h => ?_) (fun h => by omega)
      refine xx_j ee75_63 rfl trivial ?_
      refine xx_rz ee75_64 ?_
      rw [show v = rn M ff_Mod_all 0 by omega]
      exact k
    | succ d ih =>
      intro v hv
      have ih := ih (v + 1) (by omega)
      have h3 := hI.l ff_Mod_waits v 5 (n := 64) rfl (by omega) rfl (by omega)
      have e3 := hI.e ff_Mod_waits v (n := 64) rfl (by omega) (by decide)
      have h4 := sp_cnt_le (fun j => decide (0 < rn M ff_Mod_lengths (8 * v + j))) 8
      have no : sq M (v + 1) = false → fx_W 75 55 [some (vR 22 (some o)), some (vI (fx_bit (sq M v))), some (vI (nI v))] [] s Q := by
        intro h
        rw [h] at ih
        refine xx_k ee75_55 0 rfl ?_
        refine xx_t fx_bit_f ?_
        refine xx_j ee75_56 rfl trivial ?_
        first | refine xx_inc ee75_57 rfl ?_ | refine xx_j ee75_57 rfl trivial ?_
        refine xx_j ee75_60 rfl trivial ?_
        exact ih
      refine xx_j ee75_22 rfl trivial ?_
      refine xx_j ee75_23 rfl trivial ?_
      refine rr_fi hR ee75_24 rfl rfl rfl ?_
      refine xx_t e0 ?_
      refine xx_ge ee75_27 (by omega) (by omega) (fun h => by omega) (fun h => ?_)
      refine xx_j ee75_30 rfl trivial ?_
      refine xx_z ee75_31 (fun h => no (by simp [sq, h])) (fun q1 => ?_)
      refine xx_j ee75_34 rfl trivial ?_
      refine rr_fa hR ee75_35 (by decide) rfl rfl ?_
      refine xx_j ee75_38 rfl trivial ?_
      refine rr_al 64 hR ee75_39 rfl (by omega) ?_
      refine xx_t e3 ?_
      refine xx_kne ee75_40 (by omega) (fun h => no (by simp [sq, h])) (fun q2 => ?_)
      refine xx_j ee75_43 rfl trivial ?_
      refine xx_j ee75_44 rfl trivial ?_
      refine xx_c ee75_45 rfl (q_usedSlots hR hI (by omega) ?_)
      refine xx_kne ee75_48 (by omega) (fun h => no (by simp only [sq, beq_eq_false_iff_ne.mpr h, Bool.and_false])) (fun q3 => ?_)
      have yes : sq M (v + 1) = true := by simp only [sq, q1, q2, q3]; rfl
      rw [yes] at ih
      refine xx_k ee75_51 1 rfl ?_
      refine xx_t fx_bit_t ?_
      refine xx_j ee75_52 rfl trivial ?_
      refine xx_j ee75_56 rfl trivial ?_
      first | refine xx_inc ee75_57 rfl ?_ | refine xx_j ee75_57 rfl trivial ?_
      refine xx_j ee75_60 rfl trivial ?_
      exact ih
  have k18 : sq M 0 = false → fx_W 75 18 [some (vR 22 (some o)), none, none] [] s Q := by
    intro h
    have key := key (rn M ff_Mod_all 0) 0 (by omega)
    rw [h] at key
    refine xx_k ee75_18 0 rfl ?_
    refine xx_t fx_bit_f ?_
    refine xx_j ee75_19 rfl trivial ?_
    refine xx_k ee75_20 0 rfl ?_
    refine xx_j ee75_21 rfl trivial ?_
    exact key
  refine xx_j ee75_0 rfl trivial ?_
  refine rr_fi hR ee75_1 rfl rfl rfl ?_
  refine xx_t e2 ?_
  refine xx_kne ee75_4 (by omega) (fun h => k18 (by simp [sq, h])) (fun q1 => ?_)
  refine xx_j ee75_7 rfl trivial ?_
  refine rr_fi hR ee75_8 rfl rfl rfl ?_
  refine xx_t e1 ?_
  refine xx_kne ee75_11 (by omega) (fun h => k18 (by simp [sq, h])) (fun q2 => ?_)
  have key := key (rn M ff_Mod_all 0) 0 (by omega)
  have yes : sq M 0 = true := by simp [sq, q1, q2]
  rw [yes] at key
  refine xx_k ee75_14 1 rfl ?_
  refine xx_t fx_bit_t ?_
  refine xx_j ee75_15 rfl trivial ?_
  refine xx_j ee75_19 rfl trivial ?_
  refine xx_k ee75_20 0 rfl ?_
  refine xx_j ee75_21 rfl trivial ?_
  exact key
def sa_node (M : rf_M) (v x : Int32) : Int32 := bif fx_isN (rn M ff_Mod_all 0) v then
  (let a := v.toNatClampNeg
   fx_sel x [M ff_Mod_waits a, nI (sp_cnt (fun j => decide (0 < rn M ff_Mod_lengths (8 * a + j))) 8), M ff_Mod_readySize a, nI (sp_cnt (fun j => !decide (M ff_Mod_whose (4 * a + j) = fx_neg)) 4), M ff_Mod_rowSize a, nI (sp_cnt (fun f => rn M ff_Mod_at f == a) (rn M ff_Mod_flits 0)), M ff_Mod_went a, M ff_Mod_hungry a, M ff_Mod_agains a]) else fx_neg
theorem q_node {v x : Int32} (hR : rf_ok s o A M) (hI : RI M) (k : ∀ s', rf_ok s' o A (om_t0 M) → rf_fr o A s s' → Q (some (vI (sa_node M v x))) s') : fx_M mm_Mod_node [vR 22 (some o), vI v, vI x] s Q := by
  have hF := rf_fr.rf o A s
  have hA := hI.l ff_Mod_all 0 65 (n := 1) rfl (by omega) rfl (by omega)
  refine xx_i ml78 ?_
  refine xx_j ee78_0 rfl trivial ?_
  refine xx_k ee78_1 0 rfl ?_
  refine rr_pf hR hF ee78_2 rfl rfl (fun s hR hF => ?_)
  refine xx_j ee78_5 rfl trivial ?_
  refine xx_j ee78_6 rfl trivial ?_
  replace hR : rf_ok _ o A (om_t0 M) := hR
  have k := k _ hR hF
  unfold sa_node at k
  refine xx_c ee78_7 rfl (q_isNode hR hI.t0 ?_)
  refine xx_nz ee78_10 (fun hv => ?_) (fun h => ?_)
  · have hv' : fx_isN (rn M ff_Mod_all 0) v = true := hv
    rw [hv', cond_true] at k
    obtain ⟨a, ea, ha⟩ := fx_isN_nI (by omega) hv'
    subst ea
    simp only at k
    rw [nI_clamp (by omega)] at k
    have key : ∀ d j, j + d = 4 → fx_W 78 22 [some (vR 22 (some o)), some (vI (nI a)), some (vI x), some (vI (nI (sp_cnt (fun j => !decide (M ff_Mod_whose (4 * a + j) = fx_neg)) j))), some (vI (nI (4 * a + j)))] [] s Q := by
      intro d
      induction d with
      | zero =>
        intro j hj
        refine xx_j ee78_22 rfl trivial ?_
        refine xx_k ee78_24 4 rfl ?_
        refine xx_j ee78_25 rfl trivial ?_
        first | refine xx_mul ee78_26 ?_ | refine xx_j ee78_26 rfl trivial ?_
        refine xx_k ee78_27 4 rfl ?_
        first | refine xx_add ee78_28 ?_ | refine xx_j ee78_28 rfl trivial ?_
        refine xx_ge ee78_29 (by omega) (by omega) (fun h => ?_) (fun h => by omega)
        obtain rfl : j = 4 := by omega
        refine xx_j ee78_57 rfl trivial ?_
        refine xx_sw (hi := 8) ee78_58 (by omega) (fun j hj e => ?_) (fun h => ?_)
        · subst e
          rw [fx_sel_nI (by omega)] at k
          obtain rfl | rfl | rfl | rfl | rfl | rfl | rfl | rfl | rfl : j = 0 ∨ j = 1 ∨ j = 2 ∨ j = 3 ∨ j = 4 ∨ j = 5 ∨ j = 6 ∨ j = 7 ∨ j = 8 := by omega
          · show fx_W 78 108 _ _ _ _
            refine xx_j ee78_108 rfl trivial ?_
            refine rr_fa hR ee78_109 (by decide) rfl rfl ?_
            refine xx_j ee78_112 rfl trivial ?_
            refine rr_al 64 hR ee78_113 rfl (by omega) ?_
            exact xx_ri ee78_114 rt78 k
          · show fx_W 78 115 _ _ _ _
            refine xx_j ee78_115 rfl trivial ?_
            refine xx_j ee78_116 rfl trivial ?_
            refine xx_c ee78_117 rfl (q_usedSlots hR hI.t0 (by omega) ?_)
            exact xx_ri ee78_120 rt78 k
          · show fx_W 78 121 _ _ _ _
            refine xx_j ee78_121 rfl trivial ?_
            refine rr_fa hR ee78_122 (by decide) rfl rfl ?_
            refine xx_j ee78_125 rfl trivial ?_
            refine rr_al 64 hR ee78_126 rfl (by omega) ?_
            exact xx_ri ee78_127 rt78 k
          · show fx_W 78 128 _ _ _ _
            refine xx_j ee78_128 rfl trivial ?_
            exact xx_ri ee78_129 rt78 k
          · show fx_W 78 130 _ _ _ _
            refine xx_j ee78_130 rfl trivial ?_
            refine rr_fa hR ee78_131 (by decide) rfl rfl ?_
            refine xx_j ee78_134 rfl trivial ?_
            refine rr_al 64 hR ee78_135 rfl (by omega) ?_
            exact xx_ri ee78_136 rt78 k
          · show fx_W 78 137 _ _ _ _
            refine xx_j ee78_137 rfl trivial ?_
            refine xx_j ee78_138 rfl trivial ?_
            refine xx_c ee78_139 rfl (q_flitsAt hR hI.t0 (by omega) ?_)
            exact xx_ri ee78_142 rt78 k
          · show fx_W 78 143 _ _ _ _
            refine xx_j ee78_143 rfl trivial ?_
            refine rr_fa hR ee78_144 (by decide) rfl rfl ?_
            refine xx_j ee78_147 rfl trivial ?_
            refine rr_al 64 hR ee78_148 rfl (by omega) ?_
            exact xx_ri ee78_149 rt78 k
          · show fx_W 78 150 _ _ _ _
            refine xx_j ee78_150 rfl trivial ?_
            refine rr_fa hR ee78_151 (by decide) rfl rfl ?_
            refine xx_j ee78_154 rfl trivial ?_
            refine rr_al 64 hR ee78_155 rfl (by omega) ?_
            exact xx_ri ee78_156 rt78 k
          · show fx_W 78 157 _ _ _ _
            refine xx_j ee78_157 rfl trivial ?_
            refine rr_fa hR ee78_158 (by decide) rfl rfl ?_
            refine xx_j ee78_161 rfl trivial ?_
            refine rr_al 64 hR ee78_162 rfl (by omega) ?_
            exact xx_ri ee78_163 rt78 k
        · show fx_W 78 164 _ _ _ _
          refine xx_km ee78_164 rfl ?_
          refine xx_ri ee78_165 rt78 ?_
          rw [fx_sel_out (n := 9) rfl (by omega) h] at k
          exact k
      | succ d ih =>
        intro j hj
        have ih := ih (j + 1) (by omega)
        refine xx_j ee78_22 rfl trivial ?_
        refine xx_k ee78_24 4 rfl ?_
        refine xx_j ee78_25 rfl trivial ?_
        first | refine xx_mul ee78_26 ?_ | refine xx_j ee78_26 rfl trivial ?_
        refine xx_k ee78_27 4 rfl ?_
        first | refine xx_add ee78_28 ?_ | refine xx_j ee78_28 rfl trivial ?_
        refine xx_ge ee78_29 (by omega) (by omega) (fun h => by omega) (fun h => ?_)
        refine xx_j ee78_32 rfl trivial ?_
        refine xx_j ee78_33 rfl trivial ?_
        refine rr_fa hR ee78_34 (by decide) rfl rfl ?_
        refine xx_j ee78_37 rfl trivial ?_
        refine rr_al 256 hR ee78_39 rfl (by omega) ?_
        refine xx_km ee78_40 rfl ?_
        refine xx_b ee78_41 rfl (fun h => ?_) (fun h => ?_)
        · have h' : ¬ M ff_Mod_whose (4 * a + j) = fx_neg := h
          refine xx_k ee78_48 1 rfl ?_
          first | refine xx_add ee78_49 ?_ | refine xx_j ee78_49 rfl trivial ?_
          refine xx_j ee78_50 rfl trivial ?_
          first | refine xx_inc ee78_51 rfl ?_ | refine xx_j ee78_51 rfl trivial ?_
          refine xx_j ee78_54 rfl trivial ?_
          simp only [sp_cnt, h', decide_false, Bool.not_false, cond_true] at ih
          exact ih
        · have h' : M ff_Mod_whose (4 * a + j) = fx_neg := Classical.byContradiction h
          refine xx_k ee78_44 0 rfl ?_
          refine xx_j ee78_45 rfl trivial ?_
          first | refine xx_add ee78_49 ?_ | refine xx_j ee78_49 rfl trivial ?_
          refine xx_j ee78_50 rfl trivial ?_
          first | refine xx_inc ee78_51 rfl ?_ | refine xx_j ee78_51 rfl trivial ?_
          refine xx_j ee78_54 rfl trivial ?_
          simp only [sp_cnt, h', decide_true, Bool.not_true, cond_false] at ih
          exact ih
    refine xx_k ee78_15 0 rfl ?_
    refine xx_j ee78_16 rfl trivial ?_
    refine xx_k ee78_17 4 rfl ?_
    refine xx_j ee78_18 rfl trivial ?_
    first | refine xx_mul ee78_19 ?_ | refine xx_j ee78_19 rfl trivial ?_
    refine xx_j ee78_20 rfl trivial ?_
    exact key 4 0 (by omega)
  · have h' : fx_isN (rn M ff_Mod_all 0) v = false := h
    rw [h', cond_false] at k
    refine xx_km ee78_13 rfl ?_
    exact xx_ri ee78_14 rt78 k
/-- the first ready one is taken -/
def om_take (M : rf_M) (v : Nat) : rf_M :=
  let n := rn M ff_Mod_readySize v - 1
  om_sh (om_sh (om_sh (om_sh (fx_up (fx_up (fx_up (fx_up M ff_Mod_taken (3 * v) (M ff_Mod_readySource (4 * v))) ff_Mod_taken (3 * v + 1) (M ff_Mod_readyLength (4 * v))) ff_Mod_taken (3 * v + 2) (M ff_Mod_readyTry (4 * v))) ff_Mod_readySize v (nI n)) ff_Mod_readyTag (4 * v) n) ff_Mod_readySource (4 * v) n) ff_Mod_readyLength (4 * v) n) ff_Mod_readyTry (4 * v) n
theorem RI.take {v : Nat} (hI : RI M) (hv : v < 64) (h : 0 < rn M ff_Mod_readySize v) : RI (om_take M v) := by
  have h1 := hI.l ff_Mod_readySize v 5 (n := 64) rfl hv rfl (by omega)
  refine RI.sh (l := 256) (RI.sh (l := 256) (RI.sh (l := 256) (RI.sh (l := 256) ?_ rfl (by omega) (by decide) (by decide)) rfl (by omega) (by decide) (by decide)) rfl (by omega) (by decide) (by decide)) rfl (by omega) (by decide) (by decide)
  exact (((hI.raw rfl (by decide) (by decide)).raw rfl (by decide) (by decide)).raw rfl (by decide) (by decide)).up (b := 5) rfl (by omega) (by decide) (by decide)
def st_no (M : rf_M) (v : Int32) : Nat := bif fx_isN (rn M ff_Mod_all 0) v then (bif rn M ff_Mod_readySize v.toNatClampNeg == 0 then 2 else 0) else 1
def om_th (M : rf_M) (t : Nat) : rf_M := fx_up M ff_Mod_thrown 0 (nI t)
theorem om_sh4 (M : rf_M) (a b c d base j : Nat) (hab : a ≠ b) (hac : a ≠ c) (had : a ≠ d) (hbc : b ≠ c) (hbd : b ≠ d) (hcd : c ≠ d) : fx_up (fx_up (fx_up (fx_up (om_sh (om_sh (om_sh (om_sh M a base j) b base j) c base j) d base j) a (base + j) (M a (base + j + 1))) b (base + j) (M b (base + j + 1))) c (base + j) (M c (base + j + 1))) d (base + j) (M d (base + j + 1)) = om_sh (om_sh (om_sh (om_sh M a base (j + 1)) b base (j + 1)) c base (j + 1)) d base (j + 1) := by
  funext g i
  by_cases ed : g = d
  · subst ed
    by_cases ei : i = base + j
    · subst ei
      rw [fx_up_same, om_sh_in (by omega) (by omega), om_sh_ne hcd.symm, om_sh_ne hbd.symm, om_sh_ne had.symm]
    · rw [fx_up_ne (fun q => ei q.2), fx_up_ne (fun q => hcd q.1.symm), fx_up_ne (fun q => hbd q.1.symm), fx_up_ne (fun q => had q.1.symm)]
      by_cases h : base ≤ i ∧ i < base + j
      · rw [om_sh_in h.1 h.2, om_sh_in h.1 (by omega), om_sh_ne hcd.symm, om_sh_ne hbd.symm, om_sh_ne had.symm, om_sh_ne hcd.symm, om_sh_ne hbd.symm, om_sh_ne had.symm]
      · rw [om_sh_out (by omega), om_sh_out (by omega), om_sh_ne hcd.symm, om_sh_ne hbd.symm, om_sh_ne had.symm, om_sh_ne hcd.symm, om_sh_ne hbd.symm, om_sh_ne had.symm]
  rw [fx_up_ne (fun q => ed q.1), om_sh_ne ed]
  by_cases ec : g = c
  · subst ec
    by_cases ei : i = base + j
    · subst ei
      rw [fx_up_same, om_sh_in (by omega) (by omega), om_sh_ne hbc.symm, om_sh_ne hac.symm]
    · rw [fx_up_ne (fun q => ei q.2), fx_up_ne (fun q => hbc q.1.symm), fx_up_ne (fun q => hac q.1.symm), om_sh_ne ed]
      by_cases h : base ≤ i ∧ i < base + j
      · rw [om_sh_in h.1 h.2, om_sh_in h.1 (by omega), om_sh_ne hbc.symm, om_sh_ne hac.symm, om_sh_ne hbc.symm, om_sh_ne hac.symm]
      · rw [om_sh_out (by omega), om_sh_out (by omega), om_sh_ne hbc.symm, om_sh_ne hac.symm, om_sh_ne hbc.symm, om_sh_ne hac.symm]
  rw [fx_up_ne (fun q => ec q.1), om_sh_ne ec]
  by_cases eb : g = b
  · subst eb
    by_cases ei : i = base + j
    · subst ei
      rw [fx_up_same, om_sh_in (by omega) (by omega), om_sh_ne hab.symm]
    · rw [fx_up_ne (fun q => ei q.2), fx_up_ne (fun q => hab q.1.symm), om_sh_ne ed, om_sh_ne ec]
      by_cases h : base ≤ i ∧ i < base + j
      · rw [om_sh_in h.1 h.2, om_sh_in h.1 (by omega), om_sh_ne hab.symm, om_sh_ne hab.symm]
      · rw [om_sh_out (by omega), om_sh_out (by omega), om_sh_ne hab.symm, om_sh_ne hab.symm]
  rw [fx_up_ne (fun q => eb q.1), om_sh_ne eb, ← om_sh_next]
  by_cases ea : g = a ∧ i = base + j
  · obtain ⟨e1, e2⟩ := ea
    subst e1; subst e2
    rw [fx_up_same, fx_up_same]
  · rw [fx_up_ne ea, fx_up_ne ea, om_sh_ne ed, om_sh_ne ec, om_sh_ne eb]
theorem q_take {v : Int32} {s0 : fx_S} (hR : rf_ok s0 o A M) (hI : RI M) (hn : rn M ff_Mod_notes 0 + rn M ff_Mod_rowSize v.toNatClampNeg < 600) (k1 : st_no M v ≠ 0 → ∀ s', rf_ok s' o A (om_th M (st_no M v)) → rf_fr o A s0 s' → Q (some (vI (nI 0))) s') (k2 : ∀ a, v = nI a → a < rn M ff_Mod_all 0 → 0 < rn M ff_Mod_readySize a → ∀ s', rf_ok s' o A (om_settle (om_take (om_t0 M) a) a) → rf_fr o A s0 s' → Q (some (vI (M ff_Mod_readyTag (4 * a)))) s') : fx_M mm_Mod_take [vR 22 (some o), vI v] s0 Q := by
  have hF := rf_fr.rf o A s0
  have hA := hI.l ff_Mod_all 0 65 (n := 1) rfl (by omega) rfl (by omega)
  refine xx_i ml102 ?_
  have bad : ∀ t, t ≠ 0 → st_no M v = t → t < 3 → fx_W 102 27 [some (vR 22 (some o)), some (vI v), none, none] [vI (nI t), vR 22 (some o)] s0 Q := by
    intro t ht h h3
    refine rr_pf hR hF ee102_27 rfl rfl (fun s hR hF => ?_)
    refine xx_j ee102_30 rfl trivial ?_
    refine rr_fi hR ee102_31 rfl rfl rfl ?_
    refine xx_keq ee102_34 (by omega) (fun h => absurd h ht) (fun _ => ?_)
    refine xx_k ee102_37 0 rfl ?_
    refine xx_ri ee102_38 rt102 ?_
    subst h
    exact k1 ht _ hR hF
  refine xx_j ee102_0 rfl trivial ?_
  refine xx_j ee102_1 rfl trivial ?_
  refine xx_j ee102_2 rfl trivial ?_
  refine xx_c ee102_3 rfl (q_isNode hR hI ?_)
  refine xx_nz ee102_6 (fun hv => ?_) (fun h => ?_)
  · obtain ⟨a, ea, ha⟩ := fx_isN_nI (by omega) hv
    subst ea
    have hc : (nI a).toNatClampNeg = a := nI_clamp (by omega)
    rw [hc] at hn
    have e1 := hI.e ff_Mod_readySize a (n := 64) rfl (by omega) (by decide)
    have r1 := hI.l ff_Mod_readySize a 5 (n := 64) rfl (by omega) rfl (by omega)
    refine xx_j ee102_13 rfl trivial ?_
    refine rr_fa hR ee102_14 (by decide) rfl rfl ?_
    refine xx_j ee102_17 rfl trivial ?_
    refine rr_al 64 hR ee102_18 rfl (by omega) ?_
    refine xx_t e1 ?_
    refine xx_kne ee102_19 (by omega) (fun h => ?_) (fun h => ?_)
    · refine xx_k ee102_26 0 rfl ?_
      refine rr_pf hR hF ee102_27 rfl rfl (fun s hR hF => ?_)
      refine xx_j ee102_30 rfl trivial ?_
      refine rr_fi hR ee102_31 rfl rfl rfl ?_
      refine xx_keq ee102_34 (by omega) (fun _ => ?_) (fun h => absurd rfl h)
      replace hR : rf_ok _ o A (om_t0 M) := hR
      have e1 : om_t0 M ff_Mod_readySize a = nI (rn M ff_Mod_readySize a) := e1
      refine xx_j ee102_39 rfl trivial ?_
      refine rr_fa hR ee102_40 (by decide) rfl rfl ?_
      refine xx_k ee102_43 4 rfl ?_
      refine xx_j ee102_44 rfl trivial ?_
      first | refine xx_mul ee102_45 ?_ | refine xx_j ee102_45 rfl trivial ?_
      refine rr_al 256 hR ee102_46 rfl (by omega) ?_
      refine xx_j ee102_47 rfl trivial ?_
      refine xx_j ee102_48 rfl trivial ?_
      refine rr_fa hR ee102_49 (by decide) rfl rfl ?_
      refine xx_k ee102_52 3 rfl ?_
      refine xx_j ee102_53 rfl trivial ?_
      first | refine xx_mul ee102_54 ?_ | refine xx_j ee102_54 rfl trivial ?_
      refine xx_j ee102_55 rfl trivial ?_
      refine rr_fa hR ee102_56 (by decide) rfl rfl ?_
      refine xx_k ee102_59 4 rfl ?_
      refine xx_j ee102_60 rfl trivial ?_
      first | refine xx_mul ee102_61 ?_ | refine xx_j ee102_61 rfl trivial ?_
      refine rr_al 256 hR ee102_62 rfl (by omega) ?_
      refine rr_as 192 hR hF ee102_63 rfl (by omega) (fun s hR hF => ?_)
      refine xx_j ee102_64 rfl trivial ?_
      refine rr_fa hR ee102_65 (by decide) rfl rfl ?_
      refine xx_k ee102_68 3 rfl ?_
      refine xx_j ee102_69 rfl trivial ?_
      first | refine xx_mul ee102_70 ?_ | refine xx_j ee102_70 rfl trivial ?_
      refine xx_k ee102_71 1 rfl ?_
      first | refine xx_add ee102_72 ?_ | refine xx_j ee102_72 rfl trivial ?_
      refine xx_j ee102_73 rfl trivial ?_
      refine rr_fa hR ee102_74 (by decide) rfl rfl ?_
      refine xx_k ee102_77 4 rfl ?_
      refine xx_j ee102_78 rfl trivial ?_
      first | refine xx_mul ee102_79 ?_ | refine xx_j ee102_79 rfl trivial ?_
      refine rr_al 256 hR ee102_80 rfl (by omega) ?_
      refine rr_as 192 hR hF ee102_81 rfl (by omega) (fun s hR hF => ?_)
      refine xx_j ee102_82 rfl trivial ?_
      refine rr_fa hR ee102_83 (by decide) rfl rfl ?_
      refine xx_k ee102_86 3 rfl ?_
      refine xx_j ee102_87 rfl trivial ?_
      first | refine xx_mul ee102_88 ?_ | refine xx_j ee102_88 rfl trivial ?_
      refine xx_k ee102_89 2 rfl ?_
      first | refine xx_add ee102_90 ?_ | refine xx_j ee102_90 rfl trivial ?_
      refine xx_j ee102_91 rfl trivial ?_
      refine rr_fa hR ee102_92 (by decide) rfl rfl ?_
      refine xx_k ee102_95 4 rfl ?_
      refine xx_j ee102_96 rfl trivial ?_
      first | refine xx_mul ee102_97 ?_ | refine xx_j ee102_97 rfl trivial ?_
      refine rr_al 256 hR ee102_98 rfl (by omega) ?_
      refine rr_as 192 hR hF ee102_99 rfl (by omega) (fun s hR hF => ?_)
      refine xx_j ee102_100 rfl trivial ?_
      refine rr_fa hR ee102_101 (by decide) rfl rfl ?_
      refine xx_j ee102_104 rfl trivial ?_
      refine xx_j ee102_105 rfl trivial ?_
      refine rr_al 64 hR ee102_106 rfl (by omega) ?_
      refine xx_t e1 ?_
      refine xx_k ee102_107 1 rfl ?_
      refine xx_sub ee102_108 (by omega) ?_
      refine rr_as 64 hR hF ee102_109 rfl (by omega) (fun s hR hF => ?_)
      refine xx_k ee102_110 4 rfl ?_
      refine xx_j ee102_111 rfl trivial ?_
      first | refine xx_mul ee102_112 ?_ | refine xx_j ee102_112 rfl trivial ?_
      refine xx_j ee102_113 rfl trivial ?_
      generalize hX : fx_up (fx_up (fx_up (fx_up (om_t0 M) ff_Mod_taken (3 * a) (om_t0 M ff_Mod_readySource (4 * a))) ff_Mod_taken (3 * a + 1) (om_t0 M ff_Mod_readyLength (4 * a))) ff_Mod_taken (3 * a + 2) (om_t0 M ff_Mod_readyTry (4 * a))) ff_Mod_readySize a (nI (rn M ff_Mod_readySize a - 1)) = X at *
      replace hR : rf_ok _ o A X := hX ▸ hR
      have eX : X ff_Mod_readySize a = nI (rn M ff_Mod_readySize a - 1) := by rw [← hX]; exact fx_up_same _ _ _ _
      have hT : om_take (om_t0 M) a = om_sh (om_sh (om_sh (om_sh X ff_Mod_readyTag (4 * a) (rn M ff_Mod_readySize a - 1)) ff_Mod_readySource (4 * a) (rn M ff_Mod_readySize a - 1)) ff_Mod_readyLength (4 * a) (rn M ff_Mod_readySize a - 1)) ff_Mod_readyTry (4 * a) (rn M ff_Mod_readySize a - 1) := by rw [← hX]; rfl
      have sh : ∀ d j (s' : fx_S), j + d = rn M ff_Mod_readySize a - 1 → rf_ok s' o A (om_sh (om_sh (om_sh (om_sh X ff_Mod_readyTag (4 * a) j) ff_Mod_readySource (4 * a) j) ff_Mod_readyLength (4 * a) j) ff_Mod_readyTry (4 * a) j) → rf_fr o A s0 s' → fx_W 102 114 [some (vR 22 (some o)), some (vI (nI a)), some (vI (M ff_Mod_readyTag (4 * a))), some (vI (nI (4 * a + j)))] [] s' Q := by
        intro d
        induction d with
        | zero =>
          intro j s' hj hR hF
          refine xx_j ee102_114 rfl trivial ?_
          refine xx_k ee102_115 4 rfl ?_
          refine xx_j ee102_116 rfl trivial ?_
          first | refine xx_mul ee102_117 ?_ | refine xx_j ee102_117 rfl trivial ?_
          refine xx_j ee102_118 rfl trivial ?_
          refine rr_fa hR ee102_119 (by decide) rfl rfl ?_
          refine xx_j ee102_122 rfl trivial ?_
          refine rr_al 64 hR ee102_123 rfl (by omega) ?_
          refine xx_t ((om_sh_ne (by decide)).trans ((om_sh_ne (by decide)).trans ((om_sh_ne (by decide)).trans ((om_sh_ne (by decide)).trans eX)))) ?_
          first | refine xx_add ee102_124 ?_ | refine xx_j ee102_124 rfl trivial ?_
          refine xx_ge ee102_125 (by omega) (by omega) (fun h => ?_) (fun h => by omega)
          refine xx_j ee102_190 rfl trivial ?_
          refine xx_j ee102_191 rfl trivial ?_
          rw [show j = rn M ff_Mod_readySize a - 1 by omega, ← hT] at hR
          have hI2 : RI (om_take (om_t0 M) a) := hI.t0.take (by omega) (by show 0 < rn M ff_Mod_readySize a; omega)
          refine xx_c ee102_192 rfl (q_settle hR hI2 (by omega) ?_ (fun s hR hF2 => ?_))
          · have x1 : rn (om_take (om_t0 M) a) ff_Mod_notes 0 = rn M ff_Mod_notes 0 := rfl
            have x2 : rn (om_take (om_t0 M) a) ff_Mod_rowSize a = rn M ff_Mod_rowSize a := rfl
            omega
          have hF := hF.tr hF2
          refine xx_j ee102_195 rfl trivial ?_
          refine xx_ri ee102_196 rt102 ?_
          exact k2 a rfl ha (by omega) _ hR hF
        | succ d ihd =>
          intro j s' hj hR hF
          refine xx_j ee102_114 rfl trivial ?_
          refine xx_k ee102_115 4 rfl ?_
          refine xx_j ee102_116 rfl trivial ?_
          first | refine xx_mul ee102_117 ?_ | refine xx_j ee102_117 rfl trivial ?_
          refine xx_j ee102_118 rfl trivial ?_
          refine rr_fa hR ee102_119 (by decide) rfl rfl ?_
          refine xx_j ee102_122 rfl trivial ?_
          refine rr_al 64 hR ee102_123 rfl (by omega) ?_
          refine xx_t ((om_sh_ne (by decide)).trans ((om_sh_ne (by decide)).trans ((om_sh_ne (by decide)).trans ((om_sh_ne (by decide)).trans eX)))) ?_
          first | refine xx_add ee102_124 ?_ | refine xx_j ee102_124 rfl trivial ?_
          refine xx_ge ee102_125 (by omega) (by omega) (fun h => by omega) (fun h => ?_)
          refine xx_j ee102_128 rfl trivial ?_
          refine rr_fa hR ee102_129 (by decide) rfl rfl ?_
          refine xx_j ee102_132 rfl trivial ?_
          refine xx_j ee102_133 rfl trivial ?_
          refine rr_fa hR ee102_134 (by decide) rfl rfl ?_
          refine xx_j ee102_137 rfl trivial ?_
          refine xx_k ee102_138 1 rfl ?_
          first | refine xx_add ee102_139 ?_ | refine xx_j ee102_139 rfl trivial ?_
          refine rr_al 256 hR ee102_140 rfl (by omega) ?_
          refine xx_t ((om_sh_ne (by decide)).trans ((om_sh_ne (by decide)).trans ((om_sh_ne (by decide)).trans (om_sh_out (Or.inr (by omega)))))) ?_
          refine rr_as 256 hR hF ee102_141 rfl (by omega) (fun s hR hF => ?_)
          refine xx_j ee102_142 rfl trivial ?_
          refine rr_fa hR ee102_143 (by decide) rfl rfl ?_
          refine xx_j ee102_146 rfl trivial ?_
          refine xx_j ee102_147 rfl trivial ?_
          refine rr_fa hR ee102_148 (by decide) rfl rfl ?_
          refine xx_j ee102_151 rfl trivial ?_
          refine xx_k ee102_152 1 rfl ?_
          first | refine xx_add ee102_153 ?_ | refine xx_j ee102_153 rfl trivial ?_
          refine rr_al 256 hR ee102_154 rfl (by omega) ?_
          refine xx_t ((fx_up_ne (by omega)).trans ((om_sh_ne (by decide)).trans ((om_sh_ne (by decide)).trans ((om_sh_out (Or.inr (by omega))).trans (om_sh_ne (by decide)))))) ?_
          refine rr_as 256 hR hF ee102_155 rfl (by omega) (fun s hR hF => ?_)
          refine xx_j ee102_156 rfl trivial ?_
          refine rr_fa hR ee102_157 (by decide) rfl rfl ?_
          refine xx_j ee102_160 rfl trivial ?_
          refine xx_j ee102_161 rfl trivial ?_
          refine rr_fa hR ee102_162 (by decide) rfl rfl ?_
          refine xx_j ee102_165 rfl trivial ?_
          refine xx_k ee102_166 1 rfl ?_
          first | refine xx_add ee102_167 ?_ | refine xx_j ee102_167 rfl trivial ?_
          refine rr_al 256 hR ee102_168 rfl (by omega) ?_
          refine xx_t ((fx_up_ne (by omega)).trans ((fx_up_ne (by omega)).trans ((om_sh_ne (by decide)).trans ((om_sh_out (Or.inr (by omega))).trans ((om_sh_ne (by decide)).trans (om_sh_ne (by decide))))))) ?_
          refine rr_as 256 hR hF ee102_169 rfl (by omega) (fun s hR hF => ?_)
          refine xx_j ee102_170 rfl trivial ?_
          refine rr_fa hR ee102_171 (by decide) rfl rfl ?_
          refine xx_j ee102_174 rfl trivial ?_
          refine xx_j ee102_175 rfl trivial ?_
          refine rr_fa hR ee102_176 (by decide) rfl rfl ?_
          refine xx_j ee102_179 rfl trivial ?_
          refine xx_k ee102_180 1 rfl ?_
          first | refine xx_add ee102_181 ?_ | refine xx_j ee102_181 rfl trivial ?_
          refine rr_al 256 hR ee102_182 rfl (by omega) ?_
          refine xx_t ((fx_up_ne (by omega)).trans ((fx_up_ne (by omega)).trans ((fx_up_ne (by omega)).trans ((om_sh_out (Or.inr (by omega))).trans ((om_sh_ne (by decide)).trans ((om_sh_ne (by decide)).trans (om_sh_ne (by decide)))))))) ?_
          refine rr_as 256 hR hF ee102_183 rfl (by omega) (fun s hR hF => ?_)
          rw [om_sh4 _ _ _ _ _ _ _ (by decide) (by decide) (by decide) (by decide) (by decide) (by decide)] at hR
          first | refine xx_inc ee102_184 rfl ?_ | refine xx_j ee102_184 rfl trivial ?_
          refine xx_j ee102_187 rfl trivial ?_
          exact ihd (j + 1) _ (by omega) hR hF
      refine sh (rn M ff_Mod_readySize a - 1) 0 _ (by omega) ?_ hF
      rw [om_sh_0, om_sh_0, om_sh_0, om_sh_0]
      exact hR
    · refine xx_k ee102_22 2 rfl ?_
      refine xx_j ee102_23 rfl trivial ?_
      exact bad 2 (by omega) (by simp [st_no, hv, hc, h]) (by omega)
  · refine xx_k ee102_9 1 rfl ?_
    refine xx_j ee102_10 rfl trivial ?_
    exact bad 1 (by omega) (by simp [st_no, h]) (by omega)
end
