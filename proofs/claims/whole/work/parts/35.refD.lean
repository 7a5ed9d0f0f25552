/-! THE REFERENCE: searches -/
/-- the first place from a on, of d places, where P holds -/
def sp_first (P : Nat → Bool) : Nat → Nat → Option Nat
  | _, 0 => none
  | a, d + 1 => bif P a then some a else sp_first P (a + 1) d
/-- how many of the first k -/
def sp_cnt (P : Nat → Bool) : Nat → Nat
  | 0 => 0
  | k + 1 => sp_cnt P k + (bif P k then 1 else 0)
theorem sp_cnt_le (P : Nat → Bool) : ∀ k, sp_cnt P k ≤ k
  | 0 => Nat.le_refl _
  | k + 1 => by
    have := sp_cnt_le P k
    unfold sp_cnt
    cases P k <;> simp <;> omega
theorem sp_first_lt {P : Nat → Bool} : ∀ {d a k : Nat}, sp_first P a d = some k → a ≤ k ∧ k < a + d ∧ P k = true
  | 0, a, k, h => by cases h
  | d + 1, a, k, h => by
    unfold sp_first at h
    cases hp : P a with
    | true =>
      rw [hp] at h
      cases h
      exact ⟨Nat.le_refl _, by omega, hp⟩
    | false =>
      rw [hp] at h
      obtain ⟨h1, h2, h3⟩ := sp_first_lt h
      exact ⟨by omega, by omega, h3⟩
section
variable {mi pc np r1 r2 a : Nat} {off : Int} {ls : fx_L} {st : List fx_V} {s : fx_S} {Q : fx_Q}
theorem xx_kne (ht : fx_tab mi pc = some (.ifCond .ne off, np, r1, r2)) (ha : a < 2 ^ 31) (k1 : a ≠ 0 → fx_W mi r1 ls st s Q) (k2 : a = 0 → fx_W mi np ls st s Q) : fx_W mi pc ls (.inl (nI a) :: st) s Q :=
  xx_b ht rfl (fun h => k1 fun q => h (by rw [q]; rfl)) (fun h => k2 ((nI_eq ha (by omega)).mp (show nI a = nI 0 from Classical.byContradiction fun q => h (fun w => q (w.trans rfl)))))
theorem xx_keq (ht : fx_tab mi pc = some (.ifCond .eq off, np, r1, r2)) (ha : a < 2 ^ 31) (k1 : a = 0 → fx_W mi r1 ls st s Q) (k2 : a ≠ 0 → fx_W mi np ls st s Q) : fx_W mi pc ls (.inl (nI a) :: st) s Q :=
  xx_b ht rfl (fun h => k1 ((nI_eq ha (by omega)).mp (show nI a = nI 0 from h))) (fun h => k2 fun q => h (by rw [q]; rfl))
theorem xx_kle (ht : fx_tab mi pc = some (.ifCond .le off, np, r1, r2)) (ha : a < 2 ^ 31) (k1 : a = 0 → fx_W mi r1 ls st s Q) (k2 : 0 < a → fx_W mi np ls st s Q) : fx_W mi pc ls (.inl (nI a) :: st) s Q :=
  xx_b ht rfl (fun h => k1 (by
    rcases Nat.eq_zero_or_pos a with q | q
    · exact q
    · exact absurd h (nI_nle q ha))) (fun h => k2 (Nat.pos_of_ne_zero fun q => h (by rw [q]; exact (by decide : nI 0 ≤ 0))))
end
section
variable {s : fx_S} {Q : fx_Q} {o : Nat} {A : Nat → Nat} {M : rf_M}
theorem q_flitsAt {v : Nat} (hR : rf_ok s o A M) (hI : RI M) (hv : v < 64) (k : Q (some (vI (nI (sp_cnt (fun f => rn M ff_Mod_at f == v) (rn M ff_Mod_flits 0))))) s) : fx_M mm_Mod_flitsAt [vR 22 (some o), vI (nI v)] s Q := by
  have h1 := hI.l ff_Mod_flits 0 257 (n := 1) rfl (by omega) rfl (by omega)
  have e1 := hI.f ff_Mod_flits rfl (by decide)
  refine xx_i ml28 ?_
  refine xx_k ee28_0 0 rfl ?_
  refine xx_j ee28_1 rfl trivial ?_
  refine xx_k ee28_2 0 rfl ?_
  refine xx_j ee28_3 rfl trivial ?_
  have key : ∀ d j, j + d = rn M ff_Mod_flits 0 → fx_W 28 4 [some (vR 22 (some o)), some (vI (nI v)), some (vI (nI (sp_cnt (fun f => rn M ff_Mod_at f == v) j))), some (vI (nI j))] [] s Q := by
    intro d
    induction d with
    | zero =>
      intro j hj
      refine xx_j ee28_4 rfl trivial ?_
      refine xx_j ee28_5 rfl trivial ?_
      refine rr_fi hR ee28_6 rfl rfl rfl ?_
      refine xx_t e1 ?_
      refine xx_ge ee28_9 (by omega) (by omega) (fun h => ?_) (fun h => by omega)
      refine xx_j ee28_36 rfl trivial ?_
      refine xx_ri ee28_37 rt28 ?_
      rw [show j = rn M ff_Mod_flits 0 by omega]
      exact k
    | succ d ih =>
      intro j hj
      refine xx_j ee28_4 rfl trivial ?_
      refine xx_j ee28_5 rfl trivial ?_
      refine rr_fi hR ee28_6 rfl rfl rfl ?_
      refine xx_t e1 ?_
      refine xx_ge ee28_9 (by omega) (by omega) (fun h => by omega) (fun h => ?_)
      have h2 := hI.l ff_Mod_at j 64 (n := 300) rfl (by omega) rfl (by omega)
      refine xx_j ee28_12 rfl trivial ?_
      refine xx_j ee28_13 rfl trivial ?_
      refine rr_fa hR ee28_14 (by decide) rfl rfl ?_
      refine xx_j ee28_17 rfl trivial ?_
      refine rr_al 300 hR ee28_18 rfl (by omega) ?_
      refine xx_t (hI.e ff_Mod_at j (n := 300) rfl (by omega) (by decide)) ?_
      refine xx_j ee28_19 rfl trivial ?_
      have key2 := ih (j + 1) (by omega)
      refine xx_ne ee28_20 (by omega) (by omega) (fun h => ?_) (fun h => ?_)
      · have h' : (rn M ff_Mod_at j == v) = false := by simpa using h
        refine xx_k ee28_27 0 rfl ?_
        first | refine xx_add ee28_28 ?_ | refine xx_j ee28_28 rfl trivial ?_
        refine xx_j ee28_29 rfl trivial ?_
        first | refine xx_inc ee28_30 rfl ?_ | refine xx_j ee28_30 rfl trivial ?_
        refine xx_j ee28_33 rfl trivial ?_
        simp only [sp_cnt, h', cond_false] at key2
        exact key2
      · have h' : (rn M ff_Mod_at j == v) = true := by simpa using h
        refine xx_k ee28_23 1 rfl ?_
        refine xx_j ee28_24 rfl trivial ?_
        first | refine xx_add ee28_28 ?_ | refine xx_j ee28_28 rfl trivial ?_
        refine xx_j ee28_29 rfl trivial ?_
        first | refine xx_inc ee28_30 rfl ?_ | refine xx_j ee28_30 rfl trivial ?_
        refine xx_j ee28_33 rfl trivial ?_
        simp only [sp_cnt, h', cond_true] at key2
        exact key2
  exact key (rn M ff_Mod_flits 0) 0 (by omega)
/-- the packet of a flit -/
def spk (M : rf_M) (f : Nat) : Nat := 8 * rn M ff_Mod_source f + rn M ff_Mod_slot f
theorem q_isOut {p : Nat} (hR : rf_ok s o A M) (hI : RI M) (hp : p < 512) (k : Q (some (vI (fx_bit (sp_first (fun f => spk M f == p) 0 (rn M ff_Mod_flits 0)).isSome))) s) : fx_M mm_Mod_isOut [vR 22 (some o), vI (nI p)] s Q := by
  have h1 := hI.l ff_Mod_flits 0 257 (n := 1) rfl (by omega) rfl (by omega)
  have e1 := hI.f ff_Mod_flits rfl (by decide)
  refine xx_i ml35 ?_
  refine xx_k ee35_0 0 rfl ?_
  refine xx_j ee35_1 rfl trivial ?_
  have key : ∀ d j, j + d = rn M ff_Mod_flits 0 → Q (some (vI (fx_bit (sp_first (fun f => spk M f == p) j d).isSome))) s → fx_W 35 2 [some (vR 22 (some o)), some (vI (nI p)), some (vI (nI j))] [] s Q := by
    intro d
    induction d with
    | zero =>
      intro j hj k
      refine xx_j ee35_2 rfl trivial ?_
      refine xx_j ee35_3 rfl trivial ?_
      refine rr_fi hR ee35_4 rfl rfl rfl ?_
      refine xx_t e1 ?_
      refine xx_ge ee35_7 (by omega) (by omega) (fun h => ?_) (fun h => by omega)
      refine xx_k ee35_38 0 rfl ?_
      exact xx_t fx_bit_f (xx_rz ee35_39 k)
    | succ d ih =>
      intro j hj k
      refine xx_j ee35_2 rfl trivial ?_
      refine xx_j ee35_3 rfl trivial ?_
      refine rr_fi hR ee35_4 rfl rfl rfl ?_
      refine xx_t e1 ?_
      refine xx_ge ee35_7 (by omega) (by omega) (fun h => by omega) (fun h => ?_)
      have h2 := hI.l ff_Mod_source j 64 (n := 300) rfl (by omega) rfl (by omega)
      have h3 := hI.l ff_Mod_slot j 8 (n := 300) rfl (by omega) rfl (by omega)
      refine xx_kb ee35_10 8 rfl ?_
      refine xx_j ee35_12 rfl trivial ?_
      refine rr_fa hR ee35_13 (by decide) rfl rfl ?_
      refine xx_j ee35_16 rfl trivial ?_
      refine rr_al 300 hR ee35_17 rfl (by omega) ?_
      refine xx_t (hI.e ff_Mod_source j (n := 300) rfl (by omega) (by decide)) ?_
      first | refine xx_mul ee35_18 ?_ | refine xx_j ee35_18 rfl trivial ?_
      refine xx_j ee35_19 rfl trivial ?_
      refine rr_fa hR ee35_20 (by decide) rfl rfl ?_
      refine xx_j ee35_23 rfl trivial ?_
      refine rr_al 300 hR ee35_24 rfl (by omega) ?_
      refine xx_t (hI.e ff_Mod_slot j (n := 300) rfl (by omega) (by decide)) ?_
      first | refine xx_add ee35_25 ?_ | refine xx_j ee35_25 rfl trivial ?_
      refine xx_j ee35_26 rfl trivial ?_
      refine xx_ne ee35_27 (a := spk M j) (by unfold spk; omega) (by omega) (fun h => ?_) (fun h => ?_)
      · have h' : (spk M j == p) = false := by simpa using h
        first | refine xx_inc ee35_32 rfl ?_ | refine xx_j ee35_32 rfl trivial ?_
        refine xx_j ee35_35 rfl trivial ?_
        exact ih (j + 1) (by omega) (by simpa [sp_first, h'] using k)
      · have h' : (spk M j == p) = true := by simpa using h
        refine xx_k ee35_30 1 rfl ?_
        refine xx_t fx_bit_t (xx_rz ee35_31 ?_)
        simpa [sp_first, h'] using k
  exact key _ 0 (by omega) k
theorem q_freeSlot {v : Nat} (hR : rf_ok s o A M) (hI : RI M) (hv : v < 64) (k : Q (some (vI (oI (sp_first (fun p => rn M ff_Mod_lengths p == 0) (8 * v) 8)))) s) : fx_M mm_Mod_freeSlot [vR 22 (some o), vI (nI v)] s Q := by
  refine xx_i ml30 ?_
  refine xx_k ee30_0 0 rfl ?_
  refine xx_j ee30_1 rfl trivial ?_
  have key : ∀ d j, j + d = 8 → Q (some (vI (oI (sp_first (fun p => rn M ff_Mod_lengths p == 0) (8 * v + j) d)))) s → fx_W 30 2 [some (vR 22 (some o)), some (vI (nI v)), some (vI (nI j))] [] s Q := by
    intro d
    induction d with
    | zero =>
      intro j hj k
      refine xx_j ee30_2 rfl trivial ?_
      refine xx_kb ee30_3 8 rfl ?_
      refine xx_ge ee30_5 (by omega) (by omega) (fun h => ?_) (fun h => by omega)
      refine xx_km ee30_35 rfl ?_
      exact xx_ri ee30_36 rt30 k
    | succ d ih =>
      intro j hj k
      refine xx_j ee30_2 rfl trivial ?_
      refine xx_kb ee30_3 8 rfl ?_
      refine xx_ge ee30_5 (by omega) (by omega) (fun h => by omega) (fun h => ?_)
      have h2 := hI.l ff_Mod_lengths (8 * v + j) 9 (n := 512) rfl (by omega) rfl (by omega)
      refine xx_j ee30_8 rfl trivial ?_
      refine rr_fa hR ee30_9 (by decide) rfl rfl ?_
      refine xx_kb ee30_12 8 rfl ?_
      refine xx_j ee30_14 rfl trivial ?_
      first | refine xx_mul ee30_15 ?_ | refine xx_j ee30_15 rfl trivial ?_
      refine xx_j ee30_16 rfl trivial ?_
      first | refine xx_add ee30_17 ?_ | refine xx_j ee30_17 rfl trivial ?_
      refine rr_al 512 hR ee30_18 rfl (by omega) ?_
      refine xx_t (hI.e ff_Mod_lengths (8 * v + j) (n := 512) rfl (by omega) (by decide)) ?_
      refine xx_kne ee30_19 (by omega) (fun h => ?_) (fun h => ?_)
      · have h' : (rn M ff_Mod_lengths (8 * v + j) == 0) = false := by simpa using h
        first | refine xx_inc ee30_29 rfl ?_ | refine xx_j ee30_29 rfl trivial ?_
        refine xx_j ee30_32 rfl trivial ?_
        exact ih (j + 1) (by omega) (by simpa [sp_first, h', Nat.add_assoc] using k)
      · have h' : (rn M ff_Mod_lengths (8 * v + j) == 0) = true := by simpa using h
        refine xx_kb ee30_22 8 rfl ?_
        refine xx_j ee30_24 rfl trivial ?_
        first | refine xx_mul ee30_25 ?_ | refine xx_j ee30_25 rfl trivial ?_
        refine xx_j ee30_26 rfl trivial ?_
        first | refine xx_add ee30_27 ?_ | refine xx_j ee30_27 rfl trivial ?_
        refine xx_ri ee30_28 rt30 ?_
        simpa [sp_first, h', oI] using k
  exact key 8 0 (by omega) k
/-- some of its flits have entered, not all -/
def suw (M : rf_M) (p : Nat) : Bool := decide (0 < rn M ff_Mod_lengths p) && decide (0 < rn M ff_Mod_entered p) && decide (rn M ff_Mod_entered p < rn M ff_Mod_lengths p)
theorem q_underWay {v : Nat} (hR : rf_ok s o A M) (hI : RI M) (hv : v < 64) (k : Q (some (vI (oI (sp_first (suw M) (8 * v) 8)))) s) : fx_M mm_Mod_underWay [vR 22 (some o), vI (nI v)] s Q := by
  refine xx_i ml45 ?_
  refine xx_kb ee45_0 8 rfl ?_
  refine xx_j ee45_2 rfl trivial ?_
  first | refine xx_mul ee45_3 ?_ | refine xx_j ee45_3 rfl trivial ?_
  refine xx_j ee45_4 rfl trivial ?_
  have key : ∀ d j, j + d = 8 * v + 8 → Q (some (vI (oI (sp_first (suw M) j d)))) s → fx_W 45 5 [some (vR 22 (some o)), some (vI (nI v)), some (vI (nI j))] [] s Q := by
    intro d
    induction d with
    | zero =>
      intro j hj k
      refine xx_j ee45_5 rfl trivial ?_
      refine xx_kb ee45_6 8 rfl ?_
      refine xx_j ee45_8 rfl trivial ?_
      first | refine xx_mul ee45_9 ?_ | refine xx_j ee45_9 rfl trivial ?_
      refine xx_kb ee45_10 8 rfl ?_
      first | refine xx_add ee45_12 ?_ | refine xx_j ee45_12 rfl trivial ?_
      refine xx_ge ee45_13 (by omega) (by omega) (fun h => ?_) (fun h => by omega)
      refine xx_km ee45_57 rfl ?_
      exact xx_ri ee45_58 rt45 k
    | succ d ih =>
      intro j hj k
      refine xx_j ee45_5 rfl trivial ?_
      refine xx_kb ee45_6 8 rfl ?_
      refine xx_j ee45_8 rfl trivial ?_
      first | refine xx_mul ee45_9 ?_ | refine xx_j ee45_9 rfl trivial ?_
      refine xx_kb ee45_10 8 rfl ?_
      first | refine xx_add ee45_12 ?_ | refine xx_j ee45_12 rfl trivial ?_
      refine xx_ge ee45_13 (by omega) (by omega) (fun h => by omega) (fun h => ?_)
      have h2 := hI.l ff_Mod_lengths j 9 (n := 512) rfl (by omega) rfl (by omega)
      have h3 := hI.l ff_Mod_entered j 9 (n := 512) rfl (by omega) rfl (by omega)
      have e2 := hI.e ff_Mod_lengths j (n := 512) rfl (by omega) (by decide)
      have e3 := hI.e ff_Mod_entered j (n := 512) rfl (by omega) (by decide)
      have no : suw M j = false → fx_W 45 51 [some (vR 22 (some o)), some (vI (nI v)), some (vI (nI j))] [] s Q := by
        intro h'
        first | refine xx_inc ee45_51 rfl ?_ | refine xx_j ee45_51 rfl trivial ?_
        refine xx_j ee45_54 rfl trivial ?_
        exact ih (j + 1) (by omega) (by simpa [sp_first, h'] using k)
      refine xx_j ee45_16 rfl trivial ?_
      refine rr_fa hR ee45_17 (by decide) rfl rfl ?_
      refine xx_j ee45_20 rfl trivial ?_
      refine rr_al 512 hR ee45_21 rfl (by omega) ?_
      refine xx_t e2 ?_
      refine xx_kle ee45_22 (by omega) (fun h => ?_) (fun h => ?_)
      · exact no (by simp [suw, h])
      refine xx_j ee45_25 rfl trivial ?_
      refine rr_fa hR ee45_26 (by decide) rfl rfl ?_
      refine xx_j ee45_29 rfl trivial ?_
      refine rr_al 512 hR ee45_30 rfl (by omega) ?_
      refine xx_t e3 ?_
      refine xx_kle ee45_31 (by omega) (fun h => ?_) (fun h => ?_)
      · exact no (by simp [suw, h])
      refine xx_j ee45_34 rfl trivial ?_
      refine rr_fa hR ee45_35 (by decide) rfl rfl ?_
      refine xx_j ee45_38 rfl trivial ?_
      refine rr_al 512 hR ee45_39 rfl (by omega) ?_
      refine xx_t e3 ?_
      refine xx_j ee45_40 rfl trivial ?_
      refine rr_fa hR ee45_41 (by decide) rfl rfl ?_
      refine xx_j ee45_44 rfl trivial ?_
      refine rr_al 512 hR ee45_45 rfl (by omega) ?_
      refine xx_t e2 ?_
      refine xx_ge ee45_46 (by omega) (by omega) (fun h => ?_) (fun h => ?_)
      · have : ¬ rn M ff_Mod_entered j < rn M ff_Mod_lengths j := by omega
        exact no (by simp [suw, this])
      · refine xx_j ee45_49 rfl trivial ?_
        refine xx_ri ee45_50 rt45 ?_
        have h' : suw M j = true := by simp [suw, *]
        simpa [sp_first, h', oI] using k
  exact key 8 (8 * v) (by omega) k
theorem q_usedSlots {v : Nat} (hR : rf_ok s o A M) (hI : RI M) (hv : v < 64) (k : Q (some (vI (nI (sp_cnt (fun j => decide (0 < rn M ff_Mod_lengths (8 * v + j))) 8)))) s) : fx_M mm_Mod_usedSlots [vR 22 (some o), vI (nI v)] s Q := by
  refine xx_i ml46 ?_
  refine xx_k ee46_0 0 rfl ?_
  refine xx_j ee46_1 rfl trivial ?_
  refine xx_k ee46_2 0 rfl ?_
  refine xx_j ee46_3 rfl trivial ?_
  have key : ∀ d j, j + d = 8 → fx_W 46 4 [some (vR 22 (some o)), some (vI (nI v)), some (vI (nI (sp_cnt (fun j => decide (0 < rn M ff_Mod_lengths (8 * v + j))) j))), some (vI (nI j))] [] s Q := by
    intro d
    induction d with
    | zero =>
      intro j hj
      refine xx_j ee46_4 rfl trivial ?_
      refine xx_kb ee46_5 8 rfl ?_
      refine xx_ge ee46_7 (by omega) (by omega) (fun h => ?_) (fun h => by omega)
      refine xx_j ee46_38 rfl trivial ?_
      refine xx_ri ee46_39 rt46 ?_
      rw [show j = 8 by omega]
      exact k
    | succ d ih =>
      intro j hj
      refine xx_j ee46_4 rfl trivial ?_
      refine xx_kb ee46_5 8 rfl ?_
      refine xx_ge ee46_7 (by omega) (by omega) (fun h => by omega) (fun h => ?_)
      have h2 := hI.l ff_Mod_lengths (8 * v + j) 9 (n := 512) rfl (by omega) rfl (by omega)
      refine xx_j ee46_10 rfl trivial ?_
      refine xx_j ee46_11 rfl trivial ?_
      refine rr_fa hR ee46_12 (by decide) rfl rfl ?_
      refine xx_kb ee46_15 8 rfl ?_
      refine xx_j ee46_17 rfl trivial ?_
      first | refine xx_mul ee46_18 ?_ | refine xx_j ee46_18 rfl trivial ?_
      refine xx_j ee46_19 rfl trivial ?_
      first | refine xx_add ee46_20 ?_ | refine xx_j ee46_20 rfl trivial ?_
      refine rr_al 512 hR ee46_21 rfl (by omega) ?_
      refine xx_t (hI.e ff_Mod_lengths (8 * v + j) (n := 512) rfl (by omega) (by decide)) ?_
      have key2 := ih (j + 1) (by omega)
      refine xx_kle ee46_22 (by omega) (fun h => ?_) (fun h => ?_)
      · refine xx_k ee46_29 0 rfl ?_
        first | refine xx_add ee46_30 ?_ | refine xx_j ee46_30 rfl trivial ?_
        refine xx_j ee46_31 rfl trivial ?_
        first | refine xx_inc ee46_32 rfl ?_ | refine xx_j ee46_32 rfl trivial ?_
        refine xx_j ee46_35 rfl trivial ?_
        have h' : decide (0 < rn M ff_Mod_lengths (8 * v + j)) = false := by simp [h]
        simp only [sp_cnt, h', cond_false] at key2
        exact key2
      · refine xx_k ee46_25 1 rfl ?_
        refine xx_j ee46_26 rfl trivial ?_
        first | refine xx_add ee46_30 ?_ | refine xx_j ee46_30 rfl trivial ?_
        refine xx_j ee46_31 rfl trivial ?_
        first | refine xx_inc ee46_32 rfl ?_ | refine xx_j ee46_32 rfl trivial ?_
        refine xx_j ee46_35 rfl trivial ?_
        have h' : decide (0 < rn M ff_Mod_lengths (8 * v + j)) = true := by simp [h]
        simp only [sp_cnt, h', cond_true] at key2
        exact key2
  exact key 8 0 (by omega)
end
