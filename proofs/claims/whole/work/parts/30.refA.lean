/-! THE REFERENCE: its small methods -/
abbrev vI (x : Int32) : fx_V := .inl x
abbrev vR (c : Nat) (o : Option Nat) : fx_V := .inr (.inl (c, o))
section
variable {s : fx_S} {Q : fx_Q} {o : Nat}
theorem c_within (v a b : Int32) (k : Q (some (vI (fx_bit (decide (a ≤ v) && decide (v ≤ b))))) s) : fx_M mm_Mod_within [vI v, vI a, vI b] s Q := by
  refine xx_i ml47 ?_
  refine xx_j ee47_0 rfl trivial ?_
  refine xx_j ee47_1 rfl trivial ?_
  refine xx_b ee47_2 rfl (fun h => ?_) (fun h => ?_)
  · have h' : ¬ a ≤ v := Int32.not_le.mpr h
    refine xx_k ee47_14 0 rfl ?_
    refine xx_t fx_bit_f (xx_rz ee47_15 ?_)
    simpa [h'] using k
  refine xx_j ee47_5 rfl trivial ?_
  refine xx_j ee47_6 rfl trivial ?_
  have h1 : a ≤ v := Int32.not_lt.mp h
  refine xx_b ee47_7 rfl (fun h => ?_) (fun h => ?_)
  · have h' : ¬ v ≤ b := Int32.not_le.mpr h
    refine xx_k ee47_14 0 rfl ?_
    refine xx_t fx_bit_f (xx_rz ee47_15 ?_)
    simpa [h'] using k
  have h2 : v ≤ b := Int32.not_lt.mp h
  refine xx_k ee47_10 1 rfl ?_
  refine xx_j ee47_11 rfl trivial ?_
  refine xx_t fx_bit_t (xx_rz ee47_15 ?_)
  simpa [h1, h2] using k
/-- a node's number -/
def fx_isN (N : Nat) (v : Int32) : Bool := decide (0 ≤ v.toInt) && decide (v.toInt < N)
theorem c_isNode (v : Int32) {N : Nat} (hN : N < 2 ^ 31) (ha : fx_fi s ff_Mod_all o = nI N) (k : Q (some (vI (fx_bit (fx_isN N v)))) s) : fx_M mm_Mod_isNode [vR 22 (some o), vI v] s Q := by
  refine xx_i ml34 ?_
  refine xx_j ee34_0 rfl trivial ?_
  refine xx_b ee34_1 rfl (fun h => ?_) (fun h => ?_)
  · have h' : ¬ 0 ≤ v.toInt := by have := Int32.lt_iff_toInt_lt.mp h; simpa using this
    refine xx_k ee34_16 0 rfl ?_
    refine xx_t fx_bit_f (xx_rz ee34_17 ?_)
    simpa [fx_isN, h'] using k
  have h1 : 0 ≤ v.toInt := by
    have : ¬ v.toInt < (0 : Int32).toInt := fun q => h (Int32.lt_iff_toInt_lt.mpr q)
    simpa using this
  refine xx_j ee34_4 rfl trivial ?_
  refine xx_j ee34_5 rfl trivial ?_
  refine xx_gi ee34_6 ha rfl rfl ?_
  refine xx_b ee34_9 rfl (fun h => ?_) (fun h => ?_)
  · have h' : ¬ v.toInt < N := by have := Int32.le_iff_toInt_le.mp h; rw [nI_toInt hN] at this; omega
    refine xx_k ee34_16 0 rfl ?_
    refine xx_t fx_bit_f (xx_rz ee34_17 ?_)
    simpa [fx_isN, h'] using k
  have h2 : v.toInt < N := by
    have : ¬ (nI N).toInt ≤ v.toInt := fun q => h (Int32.le_iff_toInt_le.mpr q)
    rw [nI_toInt hN] at this
    omega
  refine xx_k ee34_12 1 rfl ?_
  refine xx_j ee34_13 rfl trivial ?_
  refine xx_t fx_bit_t (xx_rz ee34_17 ?_)
  simpa [fx_isN, h1, h2] using k
/-- how many of the first j ways of a node are not closed -/
def fx_ow (cl : Nat → Bool) (v : Nat) : Nat → Nat
  | 0 => 0
  | j + 1 => fx_ow cl v j + (bif cl (4 * v + j) then 0 else 1)
theorem c_openWays {cl : Nat → Bool} {ac v : Nat} (hc : fx_fr s ff_Mod_closed o = some ac) (hl : fx_ln s ac = 256) (hcl : ∀ j, j < 256 → fx_ai s ac j = fx_bit (cl j)) (hv : v < 64) (k : Q (some (vI (nI (fx_ow cl v 4)))) s) : fx_M mm_Mod_openWays [vR 22 (some o), vI (nI v)] s Q := by
  refine xx_i ml40 ?_
  refine xx_k ee40_0 0 rfl ?_
  refine xx_j ee40_1 rfl trivial ?_
  refine xx_k ee40_2 0 rfl ?_
  refine xx_j ee40_3 rfl trivial ?_
  have key : ∀ d j, j + d = 4 → fx_W 40 4 [some (vR 22 (some o)), some (vI (nI v)), some (vI (nI (fx_ow cl v j))), some (vI (nI j))] [] s Q := by
    intro d
    induction d with
    | zero =>
      intro j hj
      refine xx_j ee40_4 rfl trivial ?_
      refine xx_k ee40_5 4 rfl ?_
      refine xx_ge ee40_6 (by omega) (by omega) (fun h => ?_) (fun h => by omega)
      refine xx_j ee40_36 rfl trivial ?_
      refine xx_ri ee40_37 rt40 ?_
      rw [show j = 4 by omega]
      exact k
    | succ d ih =>
      intro j hj
      refine xx_j ee40_4 rfl trivial ?_
      refine xx_k ee40_5 4 rfl ?_
      refine xx_ge ee40_6 (by omega) (by omega) (fun h => by omega) (fun h => ?_)
      refine xx_j ee40_9 rfl trivial ?_
      refine xx_j ee40_10 rfl trivial ?_
      refine xx_gr ee40_11 hc rfl rfl ?_
      refine xx_k ee40_14 4 rfl ?_
      refine xx_j ee40_15 rfl trivial ?_
      first | refine xx_mul ee40_16 ?_ | refine xx_j ee40_16 rfl trivial ?_
      refine xx_j ee40_17 rfl trivial ?_
      first | refine xx_add ee40_18 ?_ | refine xx_j ee40_18 rfl trivial ?_
      refine xx_zl ee40_19 hl (by omega) (by omega) (hcl (4 * v + j) (by omega)) ?_
      refine xx_z ee40_20 (fun h => ?_) (fun h => ?_)
      · refine xx_k ee40_27 1 rfl ?_
        first | refine xx_add ee40_28 ?_ | refine xx_j ee40_28 rfl trivial ?_
        refine xx_j ee40_29 rfl trivial ?_
        first | refine xx_inc ee40_30 rfl ?_ | refine xx_j ee40_30 rfl trivial ?_
        refine xx_j ee40_33 rfl trivial ?_
        have := ih (j + 1) (by omega)
        simp only [fx_ow, h, cond_false] at this
        exact this
      · refine xx_k ee40_23 0 rfl ?_
        refine xx_j ee40_24 rfl trivial ?_
        first | refine xx_add ee40_28 ?_ | refine xx_j ee40_28 rfl trivial ?_
        refine xx_j ee40_29 rfl trivial ?_
        first | refine xx_inc ee40_30 rfl ?_ | refine xx_j ee40_30 rfl trivial ?_
        refine xx_j ee40_33 rfl trivial ?_
        have := ih (j + 1) (by omega)
        simp only [fx_ow, h, cond_true] at this
        exact this
  exact key 4 0 (by omega)
end
