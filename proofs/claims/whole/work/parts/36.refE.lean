/-! THE REFERENCE: searches, the second half -/
/-- the best of the first k: the later one wins where R says so -/
def sp_best (P : Nat → Bool) (R : Nat → Nat → Bool) : Nat → Option Nat
  | 0 => none
  | k + 1 => bif P k && (match sp_best P R k with
    | none => true
    | some b => R k b) then some k else sp_best P R k
theorem sp_best_no {P : Nat → Bool} {R : Nat → Nat → Bool} {k : Nat} (h : P k = false) : sp_best P R (k + 1) = sp_best P R k := by
  rw [sp_best, h, Bool.false_and, cond_false]
theorem sp_best_lt {P : Nat → Bool} {R : Nat → Nat → Bool} : ∀ {k b : Nat}, sp_best P R k = some b → b < k ∧ P b = true
  | 0, b, h => by cases h
  | k + 1, b, h => by
    unfold sp_best at h
    cases hq : (P k && (match sp_best P R k with
      | none => true
      | some b => R k b)) with
    | true =>
      rw [hq] at h
      cases h
      simp only [Bool.and_eq_true] at hq
      exact ⟨by omega, hq.1⟩
    | false =>
      rw [hq] at h
      have := sp_best_lt h
      exact ⟨by omega, this.2⟩
section
variable {s : fx_S} {Q : fx_Q} {o : Nat} {A : Nat → Nat} {M : rf_M}
theorem q_placeOf {v : Nat} {p t : Int32} (hR : rf_ok s o A M) (hv : v < 64) (k : Q (some (vI (oI (sp_first (fun k => decide (M ff_Mod_whose k = p) && decide (M ff_Mod_whichTry k = t)) (4 * v) 4)))) s) : fx_M mm_Mod_placeOf [vR 22 (some o), vI (nI v), vI p, vI t] s Q := by
  refine xx_i ml41 ?_
  refine xx_k ee41_0 4 rfl ?_
  refine xx_j ee41_1 rfl trivial ?_
  first | refine xx_mul ee41_2 ?_ | refine xx_j ee41_2 rfl trivial ?_
  refine xx_j ee41_3 rfl trivial ?_
  have key : ∀ d j, j + d = 4 * v + 4 → Q (some (vI (oI (sp_first (fun k => decide (M ff_Mod_whose k = p) && decide (M ff_Mod_whichTry k = t)) j d)))) s → fx_W 41 5 [some (vR 22 (some o)), some (vI (nI v)), some (vI p), some (vI t), some (vI (nI j))] [] s Q := by
    intro d
    induction d with
    | zero =>
      intro j hj k
      refine xx_j ee41_5 rfl trivial ?_
      refine xx_k ee41_7 4 rfl ?_
      refine xx_j ee41_8 rfl trivial ?_
      first | refine xx_mul ee41_9 ?_ | refine xx_j ee41_9 rfl trivial ?_
      refine xx_k ee41_10 4 rfl ?_
      first | refine xx_add ee41_11 ?_ | refine xx_j ee41_11 rfl trivial ?_
      refine xx_ge ee41_12 (by omega) (by omega) (fun h => ?_) (fun h => by omega)
      refine xx_km ee41_46 rfl ?_
      exact xx_ri ee41_47 rt41 k
    | succ d ih =>
      intro j hj k
      refine xx_j ee41_5 rfl trivial ?_
      refine xx_k ee41_7 4 rfl ?_
      refine xx_j ee41_8 rfl trivial ?_
      first | refine xx_mul ee41_9 ?_ | refine xx_j ee41_9 rfl trivial ?_
      refine xx_k ee41_10 4 rfl ?_
      first | refine xx_add ee41_11 ?_ | refine xx_j ee41_11 rfl trivial ?_
      refine xx_ge ee41_12 (by omega) (by omega) (fun h => by omega) (fun h => ?_)
      have no : (decide (M ff_Mod_whose j = p) && decide (M ff_Mod_whichTry j = t)) = false → fx_W 41 40 [some (vR 22 (some o)), some (vI (nI v)), some (vI p), some (vI t), some (vI (nI j))] [] s Q := by
        intro h'
        first | refine xx_inc ee41_40 rfl ?_ | refine xx_j ee41_40 rfl trivial ?_
        refine xx_j ee41_43 rfl trivial ?_
        exact ih (j + 1) (by omega) (by simpa only [sp_first, h', cond_false] using k)
      refine xx_j ee41_15 rfl trivial ?_
      refine rr_fa hR ee41_16 (by decide) rfl rfl ?_
      refine xx_j ee41_19 rfl trivial ?_
      refine rr_al 256 hR ee41_21 rfl (by omega) ?_
      refine xx_j ee41_22 rfl trivial ?_
      refine xx_b ee41_23 rfl (fun h => ?_) (fun h => ?_)
      · exact no (by simp [show ¬ M ff_Mod_whose j = p from h])
      have h1 : M ff_Mod_whose j = p := Classical.byContradiction h
      refine xx_j ee41_26 rfl trivial ?_
      refine rr_fa hR ee41_27 (by decide) rfl rfl ?_
      refine xx_j ee41_30 rfl trivial ?_
      refine rr_al 256 hR ee41_32 rfl (by omega) ?_
      refine xx_j ee41_33 rfl trivial ?_
      refine xx_b ee41_34 rfl (fun h => ?_) (fun h => ?_)
      · exact no (by simp [show ¬ M ff_Mod_whichTry j = t from h])
      have h2 : M ff_Mod_whichTry j = t := Classical.byContradiction h
      refine xx_j ee41_37 rfl trivial ?_
      refine xx_ri ee41_39 rt41 ?_
      simpa [sp_first, h1, h2, oI] using k
  exact key 4 (4 * v) (by omega) k
theorem q_emptyPlace {v : Nat} (hR : rf_ok s o A M) (hv : v < 64) (k : Q (some (vI (oI (sp_first (fun k => decide (M ff_Mod_whose k = fx_neg)) (4 * v) 4)))) s) : fx_M mm_Mod_emptyPlace [vR 22 (some o), vI (nI v)] s Q := by
  refine xx_i ml26 ?_
  refine xx_k ee26_0 4 rfl ?_
  refine xx_j ee26_1 rfl trivial ?_
  first | refine xx_mul ee26_2 ?_ | refine xx_j ee26_2 rfl trivial ?_
  refine xx_j ee26_3 rfl trivial ?_
  have key : ∀ d j, j + d = 4 * v + 4 → Q (some (vI (oI (sp_first (fun k => decide (M ff_Mod_whose k = fx_neg)) j d)))) s → fx_W 26 4 [some (vR 22 (some o)), some (vI (nI v)), some (vI (nI j))] [] s Q := by
    intro d
    induction d with
    | zero =>
      intro j hj k
      refine xx_j ee26_4 rfl trivial ?_
      refine xx_k ee26_5 4 rfl ?_
      refine xx_j ee26_6 rfl trivial ?_
      first | refine xx_mul ee26_7 ?_ | refine xx_j ee26_7 rfl trivial ?_
      refine xx_k ee26_8 4 rfl ?_
      first | refine xx_add ee26_9 ?_ | refine xx_j ee26_9 rfl trivial ?_
      refine xx_ge ee26_10 (by omega) (by omega) (fun h => ?_) (fun h => by omega)
      refine xx_km ee26_31 rfl ?_
      exact xx_ri ee26_32 rt26 k
    | succ d ih =>
      intro j hj k
      refine xx_j ee26_4 rfl trivial ?_
      refine xx_k ee26_5 4 rfl ?_
      refine xx_j ee26_6 rfl trivial ?_
      first | refine xx_mul ee26_7 ?_ | refine xx_j ee26_7 rfl trivial ?_
      refine xx_k ee26_8 4 rfl ?_
      first | refine xx_add ee26_9 ?_ | refine xx_j ee26_9 rfl trivial ?_
      refine xx_ge ee26_10 (by omega) (by omega) (fun h => by omega) (fun h => ?_)
      refine xx_j ee26_13 rfl trivial ?_
      refine rr_fa hR ee26_14 (by decide) rfl rfl ?_
      refine xx_j ee26_17 rfl trivial ?_
      refine rr_al 256 hR ee26_18 rfl (by omega) ?_
      refine xx_km ee26_19 rfl ?_
      refine xx_b ee26_20 rfl (fun h => ?_) (fun h => ?_)
      · have h' : ¬ M ff_Mod_whose j = fx_neg := h
        first | refine xx_inc ee26_25 rfl ?_ | refine xx_j ee26_25 rfl trivial ?_
        refine xx_j ee26_28 rfl trivial ?_
        exact ih (j + 1) (by omega) (by simpa [sp_first, h'] using k)
      · have h' : M ff_Mod_whose j = fx_neg := Classical.byContradiction h
        refine xx_j ee26_23 rfl trivial ?_
        refine xx_ri ee26_24 rt26 ?_
        simpa [sp_first, h', oI] using k
  exact key 4 (4 * v) (by omega) k
theorem q_isGiven {v : Nat} {w : Int32} (hR : rf_ok s o A M) (hI : RI M) (hv : v < 64) (k : Q (some (vI (fx_bit (sp_first (fun f => rn M ff_Mod_at f == v && decide (M ff_Mod_way f = w)) 0 (rn M ff_Mod_flits 0)).isSome))) s) : fx_M mm_Mod_isGiven [vR 22 (some o), vI (nI v), vI w] s Q := by
  have h1 := hI.l ff_Mod_flits 0 257 (n := 1) rfl (by omega) rfl (by omega)
  have e1 := hI.f ff_Mod_flits rfl (by decide)
  refine xx_i ml33 ?_
  refine xx_k ee33_0 0 rfl ?_
  refine xx_j ee33_1 rfl trivial ?_
  have key : ∀ d j, j + d = rn M ff_Mod_flits 0 → Q (some (vI (fx_bit (sp_first (fun f => rn M ff_Mod_at f == v && decide (M ff_Mod_way f = w)) j d).isSome))) s → fx_W 33 2 [some (vR 22 (some o)), some (vI (nI v)), some (vI w), some (vI (nI j))] [] s Q := by
    intro d
    induction d with
    | zero =>
      intro j hj k
      refine xx_j ee33_2 rfl trivial ?_
      refine xx_j ee33_3 rfl trivial ?_
      refine rr_fi hR ee33_4 rfl rfl rfl ?_
      refine xx_t e1 ?_
      refine xx_ge ee33_7 (by omega) (by omega) (fun h => ?_) (fun h => by omega)
      refine xx_k ee33_38 0 rfl ?_
      exact xx_t fx_bit_f (xx_rz ee33_39 k)
    | succ d ih =>
      intro j hj k
      refine xx_j ee33_2 rfl trivial ?_
      refine xx_j ee33_3 rfl trivial ?_
      refine rr_fi hR ee33_4 rfl rfl rfl ?_
      refine xx_t e1 ?_
      refine xx_ge ee33_7 (by omega) (by omega) (fun h => by omega) (fun h => ?_)
      have h2 := hI.l ff_Mod_at j 64 (n := 300) rfl (by omega) rfl (by omega)
      have no : (rn M ff_Mod_at j == v && decide (M ff_Mod_way j = w)) = false → fx_W 33 32 [some (vR 22 (some o)), some (vI (nI v)), some (vI w), some (vI (nI j))] [] s Q := by
        intro h'
        first | refine xx_inc ee33_32 rfl ?_ | refine xx_j ee33_32 rfl trivial ?_
        refine xx_j ee33_35 rfl trivial ?_
        exact ih (j + 1) (by omega) (by simpa only [sp_first, h', cond_false] using k)
      refine xx_j ee33_10 rfl trivial ?_
      refine rr_fa hR ee33_11 (by decide) rfl rfl ?_
      refine xx_j ee33_14 rfl trivial ?_
      refine rr_al 300 hR ee33_15 rfl (by omega) ?_
      refine xx_t (hI.e ff_Mod_at j (n := 300) rfl (by omega) (by decide)) ?_
      refine xx_j ee33_16 rfl trivial ?_
      refine xx_ne ee33_17 (by omega) (by omega) (fun h => no (by simp [h])) (fun h3 => ?_)
      refine xx_j ee33_20 rfl trivial ?_
      refine rr_fa hR ee33_21 (by decide) rfl rfl ?_
      refine xx_j ee33_24 rfl trivial ?_
      refine rr_al 300 hR ee33_25 rfl (by omega) ?_
      refine xx_j ee33_26 rfl trivial ?_
      refine xx_b ee33_27 rfl (fun h => no (by simp [show ¬ M ff_Mod_way j = w from h])) (fun h => ?_)
      have h4 : M ff_Mod_way j = w := Classical.byContradiction h
      refine xx_k ee33_30 1 rfl ?_
      refine xx_t fx_bit_t (xx_rz ee33_31 ?_)
      simpa [sp_first, h3, h4] using k
  exact key (rn M ff_Mod_flits 0) 0 (by omega) k
/-- the flit on a line -/
def sol (M : rf_M) (v l : Nat) : Option Nat := sp_first (fun f => rn M ff_Mod_at f == v && rn M ff_Mod_line f == l) 0 (rn M ff_Mod_flits 0)
theorem q_onLine {v l : Nat} (hR : rf_ok s o A M) (hI : RI M) (hv : v < 64) (hl : l < 4) (k : Q (some (vI (oI (sol M v l)))) s) : fx_M mm_Mod_onLine [vR 22 (some o), vI (nI v), vI (nI l)] s Q := by
  have h1 := hI.l ff_Mod_flits 0 257 (n := 1) rfl (by omega) rfl (by omega)
  have e1 := hI.f ff_Mod_flits rfl (by decide)
  refine xx_i ml39 ?_
  refine xx_k ee39_0 0 rfl ?_
  refine xx_j ee39_1 rfl trivial ?_
  have key : ∀ d j, j + d = rn M ff_Mod_flits 0 → Q (some (vI (oI (sp_first (fun f => rn M ff_Mod_at f == v && rn M ff_Mod_line f == l) j d)))) s → fx_W 39 2 [some (vR 22 (some o)), some (vI (nI v)), some (vI (nI l)), some (vI (nI j))] [] s Q := by
    intro d
    induction d with
    | zero =>
      intro j hj k
      refine xx_j ee39_2 rfl trivial ?_
      refine xx_j ee39_3 rfl trivial ?_
      refine rr_fi hR ee39_4 rfl rfl rfl ?_
      refine xx_t e1 ?_
      refine xx_ge ee39_7 (by omega) (by omega) (fun h => ?_) (fun h => by omega)
      refine xx_km ee39_38 rfl ?_
      exact xx_ri ee39_39 rt39 k
    | succ d ih =>
      intro j hj k
      refine xx_j ee39_2 rfl trivial ?_
      refine xx_j ee39_3 rfl trivial ?_
      refine rr_fi hR ee39_4 rfl rfl rfl ?_
      refine xx_t e1 ?_
      refine xx_ge ee39_7 (by omega) (by omega) (fun h => by omega) (fun h => ?_)
      have h2 := hI.l ff_Mod_at j 64 (n := 300) rfl (by omega) rfl (by omega)
      have h3 := hI.l ff_Mod_line j 4 (n := 300) rfl (by omega) rfl (by omega)
      have no : (rn M ff_Mod_at j == v && rn M ff_Mod_line j == l) = false → fx_W 39 32 [some (vR 22 (some o)), some (vI (nI v)), some (vI (nI l)), some (vI (nI j))] [] s Q := by
        intro h'
        first | refine xx_inc ee39_32 rfl ?_ | refine xx_j ee39_32 rfl trivial ?_
        refine xx_j ee39_35 rfl trivial ?_
        exact ih (j + 1) (by omega) (by simpa only [sp_first, h', cond_false] using k)
      refine xx_j ee39_10 rfl trivial ?_
      refine rr_fa hR ee39_11 (by decide) rfl rfl ?_
      refine xx_j ee39_14 rfl trivial ?_
      refine rr_al 300 hR ee39_15 rfl (by omega) ?_
      refine xx_t (hI.e ff_Mod_at j (n := 300) rfl (by omega) (by decide)) ?_
      refine xx_j ee39_16 rfl trivial ?_
      refine xx_ne ee39_17 (by omega) (by omega) (fun h => no (by simp [h])) (fun h4 => ?_)
      refine xx_j ee39_20 rfl trivial ?_
      refine rr_fa hR ee39_21 (by decide) rfl rfl ?_
      refine xx_j ee39_24 rfl trivial ?_
      refine rr_al 300 hR ee39_25 rfl (by omega) ?_
      refine xx_t (hI.e ff_Mod_line j (n := 300) rfl (by omega) (by decide)) ?_
      refine xx_j ee39_26 rfl trivial ?_
      refine xx_ne ee39_27 (by omega) (by omega) (fun h => no (by simp [h])) (fun h5 => ?_)
      refine xx_j ee39_30 rfl trivial ?_
      refine xx_ri ee39_31 rt39 ?_
      simpa [sp_first, h4, h5, oI] using k
  exact key (rn M ff_Mod_flits 0) 0 (by omega) k
/-- the best flit at home -/
def shome (M : rf_M) (v : Nat) : Option Nat := sp_best (fun f => rn M ff_Mod_at f == v && sg M f == v) (sah M) (rn M ff_Mod_flits 0)
theorem q_home {v : Nat} (hR : rf_ok s o A M) (hI : RI M) (h0 : 0 < rn M ff_Mod_all 0) (hv : v < 64) (k : Q (some (vI (oI (shome M v)))) s) : fx_M mm_Mod_home [vR 22 (some o), vI (nI v)] s Q := by
  have h1 := hI.l ff_Mod_flits 0 257 (n := 1) rfl (by omega) rfl (by omega)
  have e1 := hI.f ff_Mod_flits rfl (by decide)
  refine xx_i ml114 ?_
  refine xx_km ee114_0 rfl ?_
  refine xx_j ee114_1 rfl trivial ?_
  refine xx_k ee114_2 0 rfl ?_
  refine xx_j ee114_3 rfl trivial ?_
  have key : ∀ d j, j + d = rn M ff_Mod_flits 0 → fx_W 114 4 [some (vR 22 (some o)), some (vI (nI v)), some (vI (oI (sp_best (fun f => rn M ff_Mod_at f == v && sg M f == v) (sah M) j))), some (vI (nI j))] [] s Q := by
    intro d
    induction d with
    | zero =>
      intro j hj
      refine xx_j ee114_4 rfl trivial ?_
      refine xx_j ee114_5 rfl trivial ?_
      refine rr_fi hR ee114_6 rfl rfl rfl ?_
      refine xx_t e1 ?_
      refine xx_ge ee114_9 (by omega) (by omega) (fun h => ?_) (fun h => by omega)
      refine xx_j ee114_53 rfl trivial ?_
      refine xx_ri ee114_54 rt114 ?_
      rw [show j = rn M ff_Mod_flits 0 by omega]
      exact k
    | succ d ih =>
      intro j hj
      refine xx_j ee114_4 rfl trivial ?_
      refine xx_j ee114_5 rfl trivial ?_
      refine rr_fi hR ee114_6 rfl rfl rfl ?_
      refine xx_t e1 ?_
      refine xx_ge ee114_9 (by omega) (by omega) (fun h => by omega) (fun h => ?_)
      have h2 := hI.l ff_Mod_at j 64 (n := 300) rfl (by omega) rfl (by omega)
      have h3 := sg_lt (f := j) hI (by omega)
      have key2 := ih (j + 1) (by omega)
      have hbl : ∀ b, sp_best (fun f => rn M ff_Mod_at f == v && sg M f == v) (sah M) j = some b → b < 300 := fun b hb => by have := (sp_best_lt hb).1; omega
      have no : sp_best (fun f => rn M ff_Mod_at f == v && sg M f == v) (sah M) (j + 1) = sp_best (fun f => rn M ff_Mod_at f == v && sg M f == v) (sah M) j → fx_W 114 47 [some (vR 22 (some o)), some (vI (nI v)), some (vI (oI (sp_best (fun f => rn M ff_Mod_at f == v && sg M f == v) (sah M) j))), some (vI (nI j))] [] s Q := by
        intro h'
        first | refine xx_inc ee114_47 rfl ?_ | refine xx_j ee114_47 rfl trivial ?_
        refine xx_j ee114_50 rfl trivial ?_
        rw [h'] at key2
        exact key2
      have yes : sp_best (fun f => rn M ff_Mod_at f == v && sg M f == v) (sah M) (j + 1) = some j → fx_W 114 45 [some (vR 22 (some o)), some (vI (nI v)), some (vI (oI (sp_best (fun f => rn M ff_Mod_at f == v && sg M f == v) (sah M) j))), some (vI (nI j))] [] s Q := by
        intro h'
        refine xx_j ee114_45 rfl trivial ?_
        refine xx_j ee114_46 rfl trivial ?_
        first | refine xx_inc ee114_47 rfl ?_ | refine xx_j ee114_47 rfl trivial ?_
        refine xx_j ee114_50 rfl trivial ?_
        rw [h'] at key2
        exact key2
      refine xx_j ee114_12 rfl trivial ?_
      refine rr_fa hR ee114_13 (by decide) rfl rfl ?_
      refine xx_j ee114_16 rfl trivial ?_
      refine rr_al 300 hR ee114_17 rfl (by omega) ?_
      refine xx_t (hI.e ff_Mod_at j (n := 300) rfl (by omega) (by decide)) ?_
      refine xx_j ee114_18 rfl trivial ?_
      refine xx_ne ee114_19 (by omega) (by omega) (fun h => no (sp_best_no (by simp [h]))) (fun h4 => ?_)
      refine xx_j ee114_22 rfl trivial ?_
      refine xx_j ee114_23 rfl trivial ?_
      refine xx_c ee114_24 rfl (q_goalOf hR hI (by omega) ?_)
      refine xx_j ee114_27 rfl trivial ?_
      refine xx_ne ee114_28 (by omega) (by omega) (fun h => no (sp_best_no (by simp [h]))) (fun h5 => ?_)
      refine xx_j ee114_31 rfl trivial ?_
      refine xx_km ee114_32 rfl ?_
      refine xx_oeq ee114_33 (fun b hb => by have := hbl b hb; omega) (fun h => yes (by simp [sp_best, h4, h5, h])) (fun b hb => ?_)
      have hbb := hbl b hb
      refine xx_j ee114_36 rfl trivial ?_
      refine xx_j ee114_37 rfl trivial ?_
      refine xx_j ee114_38 rfl trivial ?_
      rw [hb]
      refine xx_c ee114_39 rfl (q_isAhead hR hI h0 (by omega) hbb ?_)
      refine xx_z ee114_42 (fun h => ?_) (fun h => ?_)
      · rw [← hb]
        exact no (by simp [sp_best, hb, h])
      · rw [← hb]
        exact yes (by simp [sp_best, h4, h5, hb, h])
  exact key (rn M ff_Mod_flits 0) 0 (by omega)
end
