/-! THE REFERENCE: readers, by ranges -/
section
variable {s : fx_S} {Q : fx_Q} {o : Nat} {A : Nat → Nat} {M : rf_M}
/-- the goal of a flit -/
def sg (M : rf_M) (f : Nat) : Nat := rn M ff_Mod_goals (8 * rn M ff_Mod_source f + rn M ff_Mod_slot f)
theorem sg_lt {f : Nat} (hI : RI M) (hf : f < 300) : sg M f < 64 := by
  have h1 := hI.l ff_Mod_source f 64 (n := 300) rfl hf rfl (by omega)
  have h2 := hI.l ff_Mod_slot f 8 (n := 300) rfl hf rfl (by omega)
  exact hI.l ff_Mod_goals _ 64 (n := 512) rfl (by omega) rfl (by omega)
theorem q_goalOf {f : Nat} (hR : rf_ok s o A M) (hI : RI M) (hf : f < 300) (k : Q (some (vI (nI (sg M f)))) s) : fx_M mm_Mod_goalOf [vR 22 (some o), vI (nI f)] s Q := by
  have h1 := hI.l ff_Mod_source f 64 (n := 300) rfl hf rfl (by omega)
  have h2 := hI.l ff_Mod_slot f 8 (n := 300) rfl hf rfl (by omega)
  refine r_goalOf hR hf (hI.e ff_Mod_source f (n := 300) rfl hf (by decide)) (hI.e ff_Mod_slot f (n := 300) rfl hf (by decide)) h1 h2 ?_
  rw [hI.e ff_Mod_goals _ (n := 512) rfl (by omega) (by decide)]
  exact k
/-- which one is golden now, as a number -/
def sgold (M : rf_M) : Nat := rn M ff_Mod_cycle 0 / (2 * (rn M ff_Mod_farthest 0 + 8)) % (rn M ff_Mod_all 0 * 64)
theorem q_goldenNow (hR : rf_ok s o A M) (hI : RI M) (h0 : 0 < rn M ff_Mod_all 0) (k : Q (some (vI (nI (sgold M)))) s) : fx_M mm_Mod_goldenNow [vR 22 (some o)] s Q := by
  have h1 := hI.l ff_Mod_cycle 0 1000000 (n := 1) rfl (by omega) rfl (by omega)
  have h2 := hI.l ff_Mod_farthest 0 1001 (n := 1) rfl (by omega) rfl (by omega)
  have h3 := hI.l ff_Mod_all 0 65 (n := 1) rfl (by omega) rfl (by omega)
  exact r_goldenNow hR (hI.f _ rfl (by decide)) (hI.f _ rfl (by decide)) (hI.f _ rfl (by decide)) (by omega) (by omega) h0 (by omega) k
theorem sgold_lt (hI : RI M) (h0 : 0 < rn M ff_Mod_all 0) : sgold M < 4096 := by
  have h3 := hI.l ff_Mod_all 0 65 (n := 1) rfl (by omega) rfl (by omega)
  have : sgold M < rn M ff_Mod_all 0 * 64 := Nat.mod_lt _ (by omega)
  omega
/-- a flit's place in the order of all -/
def skey (M : rf_M) (f : Nat) : Nat := 64 * rn M ff_Mod_source f + 8 * rn M ff_Mod_slot f + rn M ff_Mod_number f
theorem q_isGolden {f : Nat} (hR : rf_ok s o A M) (hI : RI M) (h0 : 0 < rn M ff_Mod_all 0) (hf : f < 300) (k : Q (some (vI (fx_bit (skey M f == sgold M)))) s) : fx_M mm_Mod_isGolden [vR 22 (some o), vI (nI f)] s Q := by
  have h1 := hI.l ff_Mod_source f 64 (n := 300) rfl hf rfl (by omega)
  have h2 := hI.l ff_Mod_slot f 8 (n := 300) rfl hf rfl (by omega)
  have h3 := hI.l ff_Mod_number f 8 (n := 300) rfl hf rfl (by omega)
  have h4 := sgold_lt hI h0
  refine xx_i ml74 ?_
  refine xx_kb ee74_0 64 rfl ?_
  refine xx_j ee74_2 rfl trivial ?_
  refine rr_fa hR ee74_3 (by decide) rfl rfl ?_
  refine xx_j ee74_6 rfl trivial ?_
  refine rr_al 300 hR ee74_7 rfl (by omega) ?_
  refine xx_t (hI.e ff_Mod_source f rfl hf (by decide)) ?_
  first | refine xx_mul ee74_8 ?_ | refine xx_j ee74_8 rfl trivial ?_
  refine xx_kb ee74_9 8 rfl ?_
  refine xx_j ee74_11 rfl trivial ?_
  refine rr_fa hR ee74_12 (by decide) rfl rfl ?_
  refine xx_j ee74_15 rfl trivial ?_
  refine rr_al 300 hR ee74_16 rfl (by omega) ?_
  refine xx_t (hI.e ff_Mod_slot f rfl hf (by decide)) ?_
  first | refine xx_mul ee74_17 ?_ | refine xx_j ee74_17 rfl trivial ?_
  first | refine xx_add ee74_18 ?_ | refine xx_j ee74_18 rfl trivial ?_
  refine xx_j ee74_19 rfl trivial ?_
  refine rr_fa hR ee74_20 (by decide) rfl rfl ?_
  refine xx_j ee74_23 rfl trivial ?_
  refine rr_al 300 hR ee74_24 rfl (by omega) ?_
  refine xx_t (hI.e ff_Mod_number f rfl hf (by decide)) ?_
  first | refine xx_add ee74_25 ?_ | refine xx_j ee74_25 rfl trivial ?_
  refine xx_j ee74_26 rfl trivial ?_
  refine xx_c ee74_27 rfl (q_goldenNow hR hI h0 ?_)
  refine xx_ne ee74_30 (a := skey M f) (by unfold skey; omega) (by omega) (fun h => ?_) (fun h => ?_)
  · have h' : (skey M f == sgold M) = false := by simpa using h
    refine xx_k ee74_37 0 rfl ?_
    refine xx_t fx_bit_f (xx_rz ee74_38 ?_)
    simpa [h'] using k
  · refine xx_k ee74_33 1 rfl ?_
    refine xx_j ee74_34 rfl trivial ?_
    refine xx_t fx_bit_t (xx_rz ee74_38 ?_)
    simpa [h] using k
/-- f is ahead of g -/
def sah (M : rf_M) (f g : Nat) : Bool := bif (skey M f == sgold M) || (skey M g == sgold M) then skey M f == sgold M else bif rn M ff_Mod_entry f == rn M ff_Mod_entry g then decide (skey M f < skey M g) else decide (rn M ff_Mod_entry f < rn M ff_Mod_entry g)
theorem q_isAhead {f g : Nat} (hR : rf_ok s o A M) (hI : RI M) (h0 : 0 < rn M ff_Mod_all 0) (hf : f < 300) (hg : g < 300) (k : Q (some (vI (fx_bit (sah M f g)))) s) : fx_M mm_Mod_isAhead [vR 22 (some o), vI (nI f), vI (nI g)] s Q := by
  have f1 := hI.l ff_Mod_source f 64 (n := 300) rfl hf rfl (by omega)
  have f2 := hI.l ff_Mod_slot f 8 (n := 300) rfl hf rfl (by omega)
  have f3 := hI.l ff_Mod_number f 8 (n := 300) rfl hf rfl (by omega)
  have f4 := hI.l ff_Mod_entry f 1000000 (n := 300) rfl hf rfl (by omega)
  have g1 := hI.l ff_Mod_source g 64 (n := 300) rfl hg rfl (by omega)
  have g2 := hI.l ff_Mod_slot g 8 (n := 300) rfl hg rfl (by omega)
  have g3 := hI.l ff_Mod_number g 8 (n := 300) rfl hg rfl (by omega)
  have g4 := hI.l ff_Mod_entry g 1000000 (n := 300) rfl hg rfl (by omega)
  refine xx_i ml97 ?_
  refine xx_j ee97_0 rfl trivial ?_
  refine xx_j ee97_1 rfl trivial ?_
  refine xx_c ee97_2 rfl (q_isGolden hR hI h0 hf ?_)
  refine xx_nz ee97_5 (fun e1 => ?_) (fun e1 => ?_)
  · refine xx_j ee97_16 rfl trivial ?_
    refine xx_j ee97_17 rfl trivial ?_
    refine xx_c ee97_18 rfl (q_isGolden hR hI h0 hf ?_)
    refine xx_rz ee97_21 ?_
    simpa [sah, e1] using k
  refine xx_j ee97_8 rfl trivial ?_
  refine xx_j ee97_9 rfl trivial ?_
  refine xx_c ee97_10 rfl (q_isGolden hR hI h0 hg ?_)
  refine xx_z ee97_13 (fun e2 => ?_) (fun e2 => ?_)
  · refine xx_j ee97_22 rfl trivial ?_
    refine rr_fa hR ee97_23 (by decide) rfl rfl ?_
    refine xx_j ee97_26 rfl trivial ?_
    refine rr_al 300 hR ee97_27 rfl (by omega) ?_
    refine xx_t (hI.e ff_Mod_entry f rfl hf (by decide)) ?_
    refine xx_j ee97_28 rfl trivial ?_
    refine rr_fa hR ee97_29 (by decide) rfl rfl ?_
    refine xx_j ee97_32 rfl trivial ?_
    refine rr_al 300 hR ee97_33 rfl (by omega) ?_
    refine xx_t (hI.e ff_Mod_entry g rfl hg (by decide)) ?_
    refine xx_eq ee97_34 (by omega) (by omega) (fun e3 => ?_) (fun e3 => ?_)
    · refine xx_kb ee97_58 64 rfl ?_
      refine xx_j ee97_60 rfl trivial ?_
      refine rr_fa hR ee97_61 (by decide) rfl rfl ?_
      refine xx_j ee97_64 rfl trivial ?_
      refine rr_al 300 hR ee97_65 rfl (by omega) ?_
      refine xx_t (hI.e ff_Mod_source f rfl hf (by decide)) ?_
      first | refine xx_mul ee97_66 ?_ | refine xx_j ee97_66 rfl trivial ?_
      refine xx_kb ee97_67 8 rfl ?_
      refine xx_j ee97_69 rfl trivial ?_
      refine rr_fa hR ee97_70 (by decide) rfl rfl ?_
      refine xx_j ee97_73 rfl trivial ?_
      refine rr_al 300 hR ee97_74 rfl (by omega) ?_
      refine xx_t (hI.e ff_Mod_slot f rfl hf (by decide)) ?_
      first | refine xx_mul ee97_75 ?_ | refine xx_j ee97_75 rfl trivial ?_
      first | refine xx_add ee97_76 ?_ | refine xx_j ee97_76 rfl trivial ?_
      refine xx_j ee97_77 rfl trivial ?_
      refine rr_fa hR ee97_78 (by decide) rfl rfl ?_
      refine xx_j ee97_81 rfl trivial ?_
      refine rr_al 300 hR ee97_82 rfl (by omega) ?_
      refine xx_t (hI.e ff_Mod_number f rfl hf (by decide)) ?_
      first | refine xx_add ee97_83 ?_ | refine xx_j ee97_83 rfl trivial ?_
      refine xx_kb ee97_84 64 rfl ?_
      refine xx_j ee97_86 rfl trivial ?_
      refine rr_fa hR ee97_87 (by decide) rfl rfl ?_
      refine xx_j ee97_90 rfl trivial ?_
      refine rr_al 300 hR ee97_91 rfl (by omega) ?_
      refine xx_t (hI.e ff_Mod_source g rfl hg (by decide)) ?_
      first | refine xx_mul ee97_92 ?_ | refine xx_j ee97_92 rfl trivial ?_
      refine xx_kb ee97_93 8 rfl ?_
      refine xx_j ee97_95 rfl trivial ?_
      refine rr_fa hR ee97_96 (by decide) rfl rfl ?_
      refine xx_j ee97_99 rfl trivial ?_
      refine rr_al 300 hR ee97_100 rfl (by omega) ?_
      refine xx_t (hI.e ff_Mod_slot g rfl hg (by decide)) ?_
      first | refine xx_mul ee97_101 ?_ | refine xx_j ee97_101 rfl trivial ?_
      first | refine xx_add ee97_102 ?_ | refine xx_j ee97_102 rfl trivial ?_
      refine xx_j ee97_103 rfl trivial ?_
      refine rr_fa hR ee97_104 (by decide) rfl rfl ?_
      refine xx_j ee97_107 rfl trivial ?_
      refine rr_al 300 hR ee97_108 rfl (by omega) ?_
      refine xx_t (hI.e ff_Mod_number g rfl hg (by decide)) ?_
      first | refine xx_add ee97_109 ?_ | refine xx_j ee97_109 rfl trivial ?_
      refine xx_ge ee97_110 (a := skey M f) (b := skey M g) (by unfold skey; omega) (by unfold skey; omega) (fun e4 => ?_) (fun e4 => ?_)
      · refine xx_k ee97_117 0 rfl ?_
        refine xx_t fx_bit_f (xx_rz ee97_118 ?_)
        have : ¬ skey M f < skey M g := by omega
        simpa [sah, e1, e2, e3, this] using k
      · refine xx_k ee97_113 1 rfl ?_
        refine xx_j ee97_114 rfl trivial ?_
        refine xx_t fx_bit_t (xx_rz ee97_118 ?_)
        simpa [sah, e1, e2, e3, e4] using k
    · refine xx_j ee97_37 rfl trivial ?_
      refine rr_fa hR ee97_38 (by decide) rfl rfl ?_
      refine xx_j ee97_41 rfl trivial ?_
      refine rr_al 300 hR ee97_42 rfl (by omega) ?_
      refine xx_t (hI.e ff_Mod_entry f rfl hf (by decide)) ?_
      refine xx_j ee97_43 rfl trivial ?_
      refine rr_fa hR ee97_44 (by decide) rfl rfl ?_
      refine xx_j ee97_47 rfl trivial ?_
      refine rr_al 300 hR ee97_48 rfl (by omega) ?_
      refine xx_t (hI.e ff_Mod_entry g rfl hg (by decide)) ?_
      have e3' : (rn M ff_Mod_entry f == rn M ff_Mod_entry g) = false := by simpa using e3
      refine xx_ge ee97_49 (by omega) (by omega) (fun e4 => ?_) (fun e4 => ?_)
      · refine xx_k ee97_56 0 rfl ?_
        refine xx_t fx_bit_f (xx_rz ee97_57 ?_)
        have : ¬ rn M ff_Mod_entry f < rn M ff_Mod_entry g := by omega
        simpa [sah, e1, e2, e3', this] using k
      · refine xx_k ee97_52 1 rfl ?_
        refine xx_j ee97_53 rfl trivial ?_
        refine xx_t fx_bit_t (xx_rz ee97_57 ?_)
        simpa [sah, e1, e2, e3', e4] using k
  · refine xx_j ee97_16 rfl trivial ?_
    refine xx_j ee97_17 rfl trivial ?_
    refine xx_c ee97_18 rfl (q_isGolden hR hI h0 hf ?_)
    refine xx_rz ee97_21 ?_
    simpa [sah, e1, e2] using k
end
