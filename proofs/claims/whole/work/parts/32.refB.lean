/-! THE REFERENCE, over gM: readers -/
section
variable {s : fx_S} {Q : fx_Q} {o : Nat} {A : Nat → Nat} {M : rf_M}
theorem r_goalOf {f a b : Nat} (hR : rf_ok s o A M) (hf : f < 300) (ha : M ff_Mod_source f = nI a) (hb : M ff_Mod_slot f = nI b) (ha' : a < 64) (hb' : b < 8) (k : Q (some (vI (M ff_Mod_goals (8 * a + b)))) s) : fx_M mm_Mod_goalOf [vR 22 (some o), vI (nI f)] s Q := by
  refine xx_i ml31 ?_
  refine xx_j ee31_0 rfl trivial ?_
  refine rr_fa hR ee31_1 (by decide) rfl rfl ?_
  refine xx_kb ee31_4 8 rfl ?_
  refine xx_j ee31_6 rfl trivial ?_
  refine rr_fa hR ee31_7 (by decide) rfl rfl ?_
  refine xx_j ee31_10 rfl trivial ?_
  refine rr_al 300 hR ee31_11 rfl (by omega) ?_
  refine xx_t ha ?_
  first | refine xx_mul ee31_12 ?_ | refine xx_j ee31_12 rfl trivial ?_
  refine xx_j ee31_13 rfl trivial ?_
  refine rr_fa hR ee31_14 (by decide) rfl rfl ?_
  refine xx_j ee31_17 rfl trivial ?_
  refine rr_al 300 hR ee31_18 rfl (by omega) ?_
  refine xx_t hb ?_
  first | refine xx_add ee31_19 ?_ | refine xx_j ee31_19 rfl trivial ?_
  refine rr_al 512 hR ee31_20 rfl (by omega) ?_
  exact xx_ri ee31_21 rt31 k
theorem r_goldenNow {c d N : Nat} (hR : rf_ok s o A M) (hc : M ff_Mod_cycle 0 = nI c) (hd : M ff_Mod_farthest 0 = nI d) (hN : M ff_Mod_all 0 = nI N) (hc' : c < 2 ^ 31) (hd' : d < 2000) (h0 : 0 < N) (hN' : N ≤ 64) (k : Q (some (vI (nI (c / (2 * (d + 8)) % (N * 64))))) s) : fx_M mm_Mod_goldenNow [vR 22 (some o)] s Q := by
  refine xx_i ml32 ?_
  refine xx_j ee32_0 rfl trivial ?_
  refine rr_fi hR ee32_1 rfl rfl rfl ?_
  refine xx_t hc ?_
  refine xx_k ee32_4 2 rfl ?_
  refine xx_j ee32_5 rfl trivial ?_
  refine rr_fi hR ee32_6 rfl rfl rfl ?_
  refine xx_t hd ?_
  refine xx_kb ee32_9 8 rfl ?_
  first | refine xx_add ee32_11 ?_ | refine xx_j ee32_11 rfl trivial ?_
  first | refine xx_mul ee32_12 ?_ | refine xx_j ee32_12 rfl trivial ?_
  refine xx_div ee32_13 hc' (by omega) (by omega) ?_
  refine xx_j ee32_14 rfl trivial ?_
  refine rr_fi hR ee32_15 rfl rfl rfl ?_
  refine xx_t hN ?_
  refine xx_kb ee32_18 64 rfl ?_
  first | refine xx_mul ee32_20 ?_ | refine xx_j ee32_20 rfl trivial ?_
  refine xx_rem ee32_21 (Nat.lt_of_le_of_lt (Nat.div_le_self _ _) hc') (by omega) (by omega) ?_
  exact xx_ri ee32_22 rt32 k
end
