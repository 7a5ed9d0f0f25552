/-! THE CLASS: the links change -/
section
variable {s : fx_S} {Q : fx_Q} {x n N : Nat} {cl : Nat → Bool}
theorem k_forget (hS : SK1 s x) (hz : fx_fi s ff_Grid_size (x + 3) = nI N) (hN64 : N ≤ 64) (k : ∀ s', GF x s s' → SK1 s' x → fx_fi s' ff_Grid_size (x + 3) = nI N → fx_ai s' (x + 4) = fx_ai s (x + 4) → fx_ai s' (x + 5) = fx_ai s (x + 5) → (∀ cl n, RGb s' x cl n N) → Q none s') : fx_M mm_Grid_forgetSteps [vR 13 (some (x + 3))] s Q := by
  refine xx_i ml4 ?_
  refine xx_k ee4_0 0 rfl ?_
  refine xx_j ee4_1 rfl trivial ?_
  have key : ∀ e t j, j + e = N → GF x s t → SK1 t x → fx_fi t ff_Grid_size (x + 3) = nI N → fx_ai t (x + 4) = fx_ai s (x + 4) → fx_ai t (x + 5) = fx_ai s (x + 5) → (∀ i, i < j → fx_ai t (x + 7) i = fx_bit false) → fx_W 4 2 [some (vR 13 (some (x + 3))), some (vI (nI j))] [] t Q := by
    intro e
    induction e with
    | zero =>
      intro t j hj a1 a2 a3 a4 a5 a6
      refine xx_j ee4_2 rfl trivial ?_
      refine xx_j ee4_3 rfl trivial ?_
      refine xx_gi ee4_4 a3 rfl rfl ?_
      refine xx_ge ee4_7 (by omega) (by omega) (fun _ => ?_) (fun h => by omega)
      refine xx_j ee4_23 rfl trivial ?_
      refine xx_km ee4_24 rfl ?_
      refine xx_pi ee4_25 rfl ?_
      refine xx_rv ee4_28 (k _ (a1.tr (GF.fi (by decide) (by decide))) a2 a3 a4 a5 (fun cl n => ⟨fun g hg => ⟨false, a6 g (by omega), fun q => by cases q⟩, Or.inl fi_same⟩))
    | succ e ih =>
      intro t j hj a1 a2 a3 a4 a5 a6
      refine xx_j ee4_2 rfl trivial ?_
      refine xx_j ee4_3 rfl trivial ?_
      refine xx_gi ee4_4 a3 rfl rfl ?_
      refine xx_ge ee4_7 (by omega) (by omega) (fun h => by omega) (fun _ => ?_)
      refine xx_j ee4_10 rfl trivial ?_
      refine xx_gr ee4_11 a2.counted rfl rfl ?_
      refine xx_j ee4_14 rfl trivial ?_
      refine xx_k ee4_15 0 rfl ?_
      refine xx_t fx_bit_f ?_
      refine xx_zs ee4_16 a2.lcnt (by omega) (by decide) ?_
      first | refine xx_inc ee4_17 rfl ?_ | refine xx_j ee4_17 rfl trivial ?_
      refine xx_j ee4_20 rfl trivial ?_
      refine ih _ (j + 1) (by omega) (a1.tr (GF.ai (by omega) (by omega))) a2 a3 ?_ ?_ (fun i hi => ?_)
      · rw [← a4]; funext i; exact ai_ne (by omega)
      · rw [← a5]; funext i; exact ai_ne (by omega)
      · by_cases c : i = j
        · rw [c, ai_same]
        · rw [ai_ne (by omega)]; exact a6 i (by omega)
  exact key N s 0 (by omega) (GF.rf x s) hS hz rfl rfl (fun i hi => by omega)
theorem k_setOpen {v w : Nat} {p : Bool} (hS : SK1 s x) (hA : RGa s x cl n N) (hn2 : 2 ≤ n) (hN : N = n * n) (hN64 : N ≤ 64) (hv : v < N) (hw : w < 4) (k : ∀ s', GF x s s' → SK1 s' x → RGa s' x (fn_up (fn_up cl (4 * v + w) (!p)) (4 * nb n v w + wb w) (!p)) n N → (∀ cl n, RGb s' x cl n N) → Q none s') : fx_M mm_Grid_setOpen [vR 13 (some (x + 3)), vI (nI v), vI (nI w), vI (fx_bit p)] s Q := by
  have hnb : nb n v w < N := by rw [hN]; exact nb_lt (by omega) (by rw [← hN]; exact hv)
  have hwb := wb_lt hw
  refine xx_i ml56 ?_
  refine xx_j ee56_0 rfl trivial ?_
  refine xx_gr ee56_1 hS.opens rfl rfl ?_
  refine xx_j ee56_4 rfl trivial ?_
  refine xx_k ee56_5 4 rfl ?_
  first | refine xx_mul ee56_6 ?_ | refine xx_j ee56_6 rfl trivial ?_
  refine xx_j ee56_7 rfl trivial ?_
  first | refine xx_add ee56_8 ?_ | refine xx_j ee56_8 rfl trivial ?_
  refine xx_j ee56_9 rfl trivial ?_
  refine xx_zs ee56_10 hS.lopen (j := v * 4 + w) (by omega) (by decide) ?_
  have hS1 : SK1 (fx_sai s (x + 5) (v * 4 + w) (fx_bit p)) x := hS
  have hA1 : RGa (fx_sai s (x + 5) (v * 4 + w) (fx_bit p)) x (fn_up cl (4 * v + w) (!p)) n N := by
    refine ⟨hA.1, fun a b ha hb => ?_, fun a b ha hb => ?_⟩
    · rw [ai_ne (by omega)]; exact hA.2.1 a b ha hb
    · by_cases c : 4 * a + b = 4 * v + w
      · rw [c, fn_same, show 4 * v + w = v * 4 + w by omega, ai_same, Bool.not_not]
      · rw [ai_ne (by omega), fn_ne c]; exact hA.2.2 a b ha hb
  refine xx_j ee56_11 rfl trivial ?_
  refine xx_gr ee56_12 hS1.opens rfl rfl ?_
  refine xx_j ee56_15 rfl trivial ?_
  refine xx_j ee56_16 rfl trivial ?_
  refine xx_j ee56_17 rfl trivial ?_
  refine xx_c ee56_18 rfl (k_beside hS1 hA1 hN64 hv hw ?_)
  refine xx_k ee56_21 4 rfl ?_
  first | refine xx_mul ee56_22 ?_ | refine xx_j ee56_22 rfl trivial ?_
  refine xx_j ee56_23 rfl trivial ?_
  refine xx_c ee56_24 rfl (k_wayBack hw ?_)
  first | refine xx_add ee56_27 ?_ | refine xx_j ee56_27 rfl trivial ?_
  refine xx_j ee56_28 rfl trivial ?_
  refine xx_zs ee56_29 hS1.lopen (j := nb n v w * 4 + wb w) (by omega) (by decide) ?_
  have hA2 : RGa (fx_sai (fx_sai s (x + 5) (v * 4 + w) (fx_bit p)) (x + 5) (nb n v w * 4 + wb w) (fx_bit p)) x (fn_up (fn_up cl (4 * v + w) (!p)) (4 * nb n v w + wb w) (!p)) n N := by
    refine ⟨hA1.1, fun a b ha hb => ?_, fun a b ha hb => ?_⟩
    · rw [ai_ne (by omega)]; exact hA1.2.1 a b ha hb
    · by_cases c : 4 * a + b = 4 * nb n v w + wb w
      · rw [c, fn_same, show 4 * nb n v w + wb w = nb n v w * 4 + wb w by omega, ai_same, Bool.not_not]
      · rw [ai_ne (by omega), fn_ne c]; exact hA1.2.2 a b ha hb
  refine xx_j ee56_30 rfl trivial ?_
  refine xx_c ee56_31 rfl (k_forget (N := N) hS hA2.1 hN64 (fun t a1 a2 a3 a4 a5 a6 => ?_))
  refine xx_rv ee56_34 (k t (((GF.ai (by omega) (by omega)).tr (GF.ai (by omega) (by omega))).tr a1) a2 ⟨a3, fun a b ha hb => ?_, fun a b ha hb => ?_⟩ a6)
  · rw [a4]; exact hA2.2.1 a b ha hb
  · rw [a5]; exact hA2.2.2 a b ha hb
theorem k_close {v w : Nat} (hS : SK1 s x) (hA : RGa s x cl n N) (hB : RGb s x cl n N) (hn2 : 2 ≤ n) (hn9 : n < 9) (hN : N = n * n) (hN64 : N ≤ 64) (hv : v < N) (hw : w < 4)
    (k1 : (fx_ow cl v 4 ≤ 2 ∨ fx_ow cl (nb n v w) 4 ≤ 2) → Q (some (vI (fx_bit false))) s)
    (k2 : 2 < fx_ow cl v 4 → 2 < fx_ow cl (nb n v w) 4 → (∀ k, ¬ WK (fn_up (fn_up cl (4 * v + w) true) (4 * nb n v w + wb w) true) n (nb n v w) k v) → ∀ s', GF x s s' → SK1 s' x → RGa s' x (fn_up (fn_up (fn_up (fn_up cl (4 * v + w) true) (4 * nb n v w + wb w) true) (4 * v + w) false) (4 * nb n v w + wb w) false) n N → (∀ cl n, RGb s' x cl n N) → Q (some (vI (fx_bit false))) s')
    (k3 : 2 < fx_ow cl v 4 → 2 < fx_ow cl (nb n v w) 4 → ∀ d, d < 64 → WK (fn_up (fn_up cl (4 * v + w) true) (4 * nb n v w + wb w) true) n (nb n v w) d v → ∀ s', GF x s s' → SK1 s' x → RGa s' x (fn_up (fn_up cl (4 * v + w) true) (4 * nb n v w + wb w) true) n N → RGb s' x (fn_up (fn_up cl (4 * v + w) true) (4 * nb n v w + wb w) true) n N → Q (some (vI (fx_bit true))) s') : fx_M mm_Grid_close [vR 13 (some (x + 3)), vI (nI v), vI (nI w)] s Q := by
  have hnb : nb n v w < N := by rw [hN]; exact nb_lt (by omega) (by rw [← hN]; exact hv)
  have r1 := fx_ow_le cl v
  have r2 := fx_ow_le cl (nb n v w)
  refine xx_i ml86 ?_
  refine xx_j ee86_0 rfl trivial ?_
  refine xx_j ee86_1 rfl trivial ?_
  refine xx_j ee86_2 rfl trivial ?_
  refine xx_c ee86_3 rfl (k_beside hS hA hN64 hv hw ?_)
  refine xx_j ee86_6 rfl trivial ?_
  refine xx_j ee86_7 rfl trivial ?_
  refine xx_j ee86_8 rfl trivial ?_
  refine xx_c ee86_9 rfl (k_openWays hS hA hN64 hv ?_)
  refine xx_k ee86_12 2 rfl ?_
  refine xx_le ee86_13 (by omega) (by omega) (fun h => ?_) (fun h1 => ?_)
  · refine xx_k ee86_25 0 rfl ?_
    exact xx_t fx_bit_f (xx_rz ee86_26 (k1 (Or.inl h)))
  refine xx_j ee86_16 rfl trivial ?_
  refine xx_j ee86_17 rfl trivial ?_
  refine xx_c ee86_18 rfl (k_openWays hS hA hN64 hnb ?_)
  refine xx_k ee86_21 2 rfl ?_
  refine xx_gt ee86_22 (by omega) (by omega) (fun h2 => ?_) (fun h => ?_)
  · refine xx_j ee86_27 rfl trivial ?_
    refine xx_j ee86_28 rfl trivial ?_
    refine xx_j ee86_29 rfl trivial ?_
    refine xx_k ee86_30 0 rfl ?_
    refine xx_t fx_bit_f ?_
    refine xx_c ee86_31 rfl (k_setOpen hS hA hn2 hN hN64 hv hw (fun t a1 a2 a3 a4 => ?_))
    refine xx_j ee86_34 rfl trivial ?_
    refine xx_j ee86_35 rfl trivial ?_
    refine xx_j ee86_36 rfl trivial ?_
    refine xx_c ee86_37 rfl (k_stepsD a2 a3 (a4 _ _) hn2 hn9 hN hN64 hnb hv (fun t2 c1 c2 c3 c4 c5 c6 => ?_))
    refine xx_km ee86_40 rfl ?_
    rcases c6 with ⟨d, d1, d2, d3⟩ | ⟨d1, d2⟩
    · rw [d2]
      refine xx_one (b := some d) ee86_41 (fun _ h => by cases h; omega) (fun _ _ => ?_) (fun h => by cases h)
      refine xx_k ee86_53 1 rfl ?_
      exact xx_t fx_bit_t (xx_rz ee86_54 (k3 h1 h2 d d1 d3.1 t2 (a1.tr c1) c2 c3 c4))
    · rw [d1]
      refine xx_one (b := none) ee86_41 (fun _ h => by cases h) (fun _ h => by cases h) (fun _ => ?_)
      refine xx_j ee86_44 rfl trivial ?_
      refine xx_j ee86_45 rfl trivial ?_
      refine xx_j ee86_46 rfl trivial ?_
      refine xx_k ee86_47 1 rfl ?_
      refine xx_t fx_bit_t ?_
      refine xx_c ee86_48 rfl (k_setOpen c2 c3 hn2 hN hN64 hv hw (fun t3 e1 e2 e3 e4 => ?_))
      refine xx_k ee86_51 0 rfl ?_
      exact xx_t fx_bit_f (xx_rz ee86_52 (k2 h1 h2 d2 t3 ((a1.tr c1).tr e1) e2 e3 e4))
  · refine xx_k ee86_25 0 rfl ?_
    exact xx_t fx_bit_f (xx_rz ee86_26 (k1 (Or.inr h)))
theorem k_lay (hS : SK1 s x) (hn2 : 2 ≤ n) (hn9 : n < 9) (k : ∀ s', GF x s s' → SK1 s' x → RGa s' x (fun _ => false) n (n * n) → (∀ cl m, RGb s' x cl m (n * n)) → Q none s') : fx_M mm_Grid_lay [vR 13 (some (x + 3)), vI (nI n)] s Q := by
  have hN64 : n * n ≤ 64 := (Nat.mul_le_mul (show n ≤ 8 by omega) (show n ≤ 8 by omega) : _ ≤ 8 * 8)
  refine xx_i ml54 ?_
  refine xx_j ee54_0 rfl trivial ?_
  refine xx_j ee54_1 rfl trivial ?_
  refine xx_j ee54_2 rfl trivial ?_
  first | refine xx_mul ee54_3 ?_ | refine xx_j ee54_3 rfl trivial ?_
  refine xx_pi ee54_4 rfl ?_
  refine xx_k ee54_7 0 rfl ?_
  refine xx_j ee54_8 rfl trivial ?_
  let ST : fx_S → Prop := fun t => GF x s t ∧ SK1 t x ∧ fx_fi t ff_Grid_size (x + 3) = nI (n * n)
  have outer : ∀ e t v x3 x4 x5, v + e = n * n → ST t → (∀ a w, a < v → w < 4 → fx_ai t (x + 4) (4 * a + w) = nI (nb n a w)) → (∀ a w, a < v → w < 4 → fx_ai t (x + 5) (4 * a + w) = fx_bit true) → fx_W 54 9 [some (vR 13 (some (x + 3))), some (vI (nI n)), some (vI (nI v)), x3, x4, x5] [] t Q := by
    intro e
    induction e with
    | zero =>
      intro t v x3 x4 x5 hv hT hb ho
      obtain ⟨a1, a2, a3⟩ := hT
      refine xx_j ee54_9 rfl trivial ?_
      refine xx_j ee54_10 rfl trivial ?_
      refine xx_gi ee54_11 a3 rfl rfl ?_
      refine xx_ge ee54_14 (by omega) (by omega) (fun _ => ?_) (fun h => by omega)
      refine xx_j ee54_141 rfl trivial ?_
      refine xx_c ee54_142 rfl (k_forget (N := n * n) a2 a3 hN64 (fun t2 c1 c2 c3 c4 c5 c6 => ?_))
      refine xx_rv ee54_145 (k t2 (a1.tr c1) c2 ⟨c3, fun a w ha hw => ?_, fun a w ha hw => ?_⟩ c6)
      · rw [c4]; exact hb a w (by omega) hw
      · rw [c5]; exact ho a w (by omega) hw
    | succ e ih =>
      intro t v x3 x4 x5 hv hT hb ho
      obtain ⟨a1, a2, a3⟩ := hT
      have hdv : v / n < n := Nat.div_lt_of_lt_mul (by omega)
      have hmv : v % n < n := Nat.mod_lt v (by omega)
      refine xx_j ee54_9 rfl trivial ?_
      refine xx_j ee54_10 rfl trivial ?_
      refine xx_gi ee54_11 a3 rfl rfl ?_
      refine xx_ge ee54_14 (by omega) (by omega) (fun h => by omega) (fun _ => ?_)
      refine xx_j ee54_17 rfl trivial ?_
      refine xx_j ee54_18 rfl trivial ?_
      refine xx_rem ee54_19 (by omega) (by omega) (by omega) ?_
      refine xx_j ee54_20 rfl trivial ?_
      refine xx_j ee54_21 rfl trivial ?_
      refine xx_j ee54_22 rfl trivial ?_
      refine xx_div ee54_23 (by omega) (by omega) (by omega) ?_
      have mul8 : ∀ y, y < n → y * n < 64 := fun y hy => Nat.lt_of_lt_of_le (Nat.mul_lt_mul_of_pos_right hy (by omega)) hN64
      refine xx_j ee54_24 rfl trivial ?_
      refine xx_j ee54_26 rfl trivial ?_
      refine xx_gr ee54_27 a2.besides rfl rfl ?_
      refine xx_j ee54_30 rfl trivial ?_
      refine xx_k ee54_31 4 rfl ?_
      first | refine xx_mul ee54_32 ?_ | refine xx_j ee54_32 rfl trivial ?_
      refine xx_j ee54_33 rfl trivial ?_
      refine xx_j ee54_35 rfl trivial ?_
      first | refine xx_mul ee54_36 ?_ | refine xx_j ee54_36 rfl trivial ?_
      refine xx_j ee54_37 rfl trivial ?_
      refine xx_k ee54_38 1 rfl ?_
      first | refine xx_add ee54_39 ?_ | refine xx_j ee54_39 rfl trivial ?_
      refine xx_j ee54_40 rfl trivial ?_
      refine xx_rem ee54_41 (by omega) (by omega) (by omega) ?_
      first | refine xx_add ee54_42 ?_ | refine xx_j ee54_42 rfl trivial ?_
      refine xx_as ee54_43 a2.lbes (j := v * 4) (by omega) (by decide) ?_
      refine xx_j ee54_44 rfl trivial ?_
      refine xx_gr ee54_45 a2.besides rfl rfl ?_
      refine xx_j ee54_48 rfl trivial ?_
      refine xx_k ee54_49 4 rfl ?_
      first | refine xx_mul ee54_50 ?_ | refine xx_j ee54_50 rfl trivial ?_
      refine xx_k ee54_51 1 rfl ?_
      first | refine xx_add ee54_52 ?_ | refine xx_j ee54_52 rfl trivial ?_
      refine xx_j ee54_53 rfl trivial ?_
      refine xx_j ee54_55 rfl trivial ?_
      first | refine xx_mul ee54_56 ?_ | refine xx_j ee54_56 rfl trivial ?_
      refine xx_j ee54_57 rfl trivial ?_
      refine xx_j ee54_58 rfl trivial ?_
      first | refine xx_add ee54_59 ?_ | refine xx_j ee54_59 rfl trivial ?_
      refine xx_k ee54_60 1 rfl ?_
      refine xx_sub ee54_61 (by omega) ?_
      refine xx_j ee54_62 rfl trivial ?_
      refine xx_rem ee54_63 (by omega) (by omega) (by omega) ?_
      first | refine xx_add ee54_64 ?_ | refine xx_j ee54_64 rfl trivial ?_
      refine xx_as ee54_65 a2.lbes (j := v * 4 + 1) (by omega) (by decide) ?_
      refine xx_j ee54_66 rfl trivial ?_
      refine xx_gr ee54_67 a2.besides rfl rfl ?_
      refine xx_j ee54_70 rfl trivial ?_
      refine xx_k ee54_71 4 rfl ?_
      first | refine xx_mul ee54_72 ?_ | refine xx_j ee54_72 rfl trivial ?_
      refine xx_k ee54_73 2 rfl ?_
      first | refine xx_add ee54_74 ?_ | refine xx_j ee54_74 rfl trivial ?_
      refine xx_j ee54_75 rfl trivial ?_
      refine xx_k ee54_77 1 rfl ?_
      first | refine xx_add ee54_78 ?_ | refine xx_j ee54_78 rfl trivial ?_
      refine xx_j ee54_79 rfl trivial ?_
      refine xx_rem ee54_80 (by omega) (by omega) (by omega) ?_
      refine xx_j ee54_81 rfl trivial ?_
      first | refine xx_mul ee54_82 ?_ | refine xx_j ee54_82 rfl trivial ?_
      refine xx_j ee54_83 rfl trivial ?_
      first | refine xx_add ee54_84 ?_ | refine xx_j ee54_84 rfl trivial ?_
      refine xx_as ee54_85 a2.lbes (j := v * 4 + 2) (by omega) (by decide) ?_
      refine xx_j ee54_86 rfl trivial ?_
      refine xx_gr ee54_87 a2.besides rfl rfl ?_
      refine xx_j ee54_90 rfl trivial ?_
      refine xx_k ee54_91 4 rfl ?_
      first | refine xx_mul ee54_92 ?_ | refine xx_j ee54_92 rfl trivial ?_
      refine xx_k ee54_93 3 rfl ?_
      first | refine xx_add ee54_94 ?_ | refine xx_j ee54_94 rfl trivial ?_
      refine xx_j ee54_95 rfl trivial ?_
      refine xx_j ee54_97 rfl trivial ?_
      first | refine xx_add ee54_98 ?_ | refine xx_j ee54_98 rfl trivial ?_
      refine xx_k ee54_99 1 rfl ?_
      refine xx_sub ee54_100 (Nat.le_trans (show 1 ≤ n by omega) (Nat.le_add_left _ _)) ?_
      refine xx_j ee54_101 rfl trivial ?_
      refine xx_rem ee54_102 (by generalize v / n = y at *; omega) (by omega) (by omega) ?_
      refine xx_j ee54_103 rfl trivial ?_
      first | refine xx_mul ee54_104 ?_ | refine xx_j ee54_104 rfl trivial ?_
      refine xx_j ee54_105 rfl trivial ?_
      first | refine xx_add ee54_106 ?_ | refine xx_j ee54_106 rfl trivial ?_
      refine xx_as ee54_107 a2.lbes (j := v * 4 + 3) (by omega) (by decide) ?_
      refine xx_k ee54_108 0 rfl ?_
      refine xx_j ee54_109 rfl trivial ?_
      generalize hT : fx_sai (fx_sai (fx_sai (fx_sai t (x + 4) (v * 4) (nI (v / n * n + (v % n + 1) % n))) (x + 4) (v * 4 + 1) (nI (v / n * n + (v % n + n - 1) % n))) (x + 4) (v * 4 + 2) (nI ((v / n + 1) % n * n + v % n))) (x + 4) (v * 4 + 3) (nI ((v / n + n - 1) % n * n + v % n)) = t1
      have c1 : ST t1 := by
        rw [← hT]
        exact ⟨(((a1.tr (GF.ai (by omega) (by omega))).tr (GF.ai (by omega) (by omega))).tr (GF.ai (by omega) (by omega))).tr (GF.ai (by omega) (by omega)), a2, a3⟩
      have c2 : ∀ a w, a < v + 1 → w < 4 → fx_ai t1 (x + 4) (4 * a + w) = nI (nb n a w) := by
        intro a w ha hw
        rw [← hT]
        by_cases ca : a = v
        · subst ca
          rcases (show w = 0 ∨ w = 1 ∨ w = 2 ∨ w = 3 by omega) with ew | ew | ew | ew <;> subst ew
          · rw [ai_ne (by omega), ai_ne (by omega), ai_ne (by omega), show 4 * a + 0 = a * 4 by omega, ai_same]; rfl
          · rw [ai_ne (by omega), ai_ne (by omega), show 4 * a + 1 = a * 4 + 1 by omega, ai_same]; rfl
          · rw [ai_ne (by omega), show 4 * a + 2 = a * 4 + 2 by omega, ai_same]; rfl
          · rw [show 4 * a + 3 = a * 4 + 3 by omega, ai_same]; rfl
        · rw [ai_ne (by omega), ai_ne (by omega), ai_ne (by omega), ai_ne (by omega)]
          exact hb a w (by omega) hw
      have c3 : ∀ a w, a < v → w < 4 → fx_ai t1 (x + 5) (4 * a + w) = fx_bit true := by
        intro a w ha hw
        rw [← hT, ai_ne (by omega), ai_ne (by omega), ai_ne (by omega), ai_ne (by omega)]
        exact ho a w ha hw
      clear hT hb ho a1 a2 a3
      have inner : ∀ c t w, w + c = 4 → ST t → (∀ a w, a < v + 1 → w < 4 → fx_ai t (x + 4) (4 * a + w) = nI (nb n a w)) → (∀ a y, a < v ∨ (a = v ∧ y < w) → y < 4 → fx_ai t (x + 5) (4 * a + y) = fx_bit true) → fx_W 54 111 [some (vR 13 (some (x + 3))), some (vI (nI n)), some (vI (nI v)), some (vI (nI (v % n))), some (vI (nI (v / n))), some (vI (nI w))] [] t Q := by
        intro c
        induction c with
        | zero =>
          intro t w hw hT hb ho
          refine xx_j ee54_111 rfl trivial ?_
          refine xx_k ee54_113 4 rfl ?_
          refine xx_ge ee54_114 (by omega) (by omega) (fun _ => ?_) (fun h => by omega)
          first | refine xx_inc ee54_135 rfl ?_ | refine xx_j ee54_135 rfl trivial ?_
          refine xx_j ee54_138 rfl trivial ?_
          exact ih t (v + 1) _ _ _ (by omega) hT hb (fun a y ha hy => ho a y (by omega) hy)
        | succ c ihc =>
          intro t w hw hT hb ho
          obtain ⟨a1, a2, a3⟩ := hT
          refine xx_j ee54_111 rfl trivial ?_
          refine xx_k ee54_113 4 rfl ?_
          refine xx_ge ee54_114 (by omega) (by omega) (fun h => by omega) (fun _ => ?_)
          refine xx_j ee54_117 rfl trivial ?_
          refine xx_gr ee54_118 a2.opens rfl rfl ?_
          refine xx_j ee54_121 rfl trivial ?_
          refine xx_k ee54_122 4 rfl ?_
          first | refine xx_mul ee54_123 ?_ | refine xx_j ee54_123 rfl trivial ?_
          refine xx_j ee54_124 rfl trivial ?_
          first | refine xx_add ee54_126 ?_ | refine xx_j ee54_126 rfl trivial ?_
          refine xx_k ee54_127 1 rfl ?_
          refine xx_t fx_bit_t ?_
          refine xx_zs ee54_128 a2.lopen (j := v * 4 + w) (by omega) (by decide) ?_
          first | refine xx_inc ee54_129 rfl ?_ | refine xx_j ee54_129 rfl trivial ?_
          refine xx_j ee54_132 rfl trivial ?_
          refine ihc _ (w + 1) (by omega) ⟨a1.tr (GF.ai (by omega) (by omega)), a2, a3⟩ (fun a y ha hy => ?_) (fun a y ha hy => ?_)
          · rw [ai_ne (by omega)]; exact hb a y ha hy
          · by_cases e : 4 * a + y = v * 4 + w
            · rw [e, ai_same]
            · rw [ai_ne (by omega)]; exact ho a y (by omega) hy
      exact inner 4 t1 0 (by omega) c1 c2 (fun a y ha hy => c3 a y (by omega) hy)
  exact outer (n * n) _ 0 _ _ _ (by omega) ⟨GF.fi (by decide) (by decide), hS, fi_same⟩ (fun a w ha => by omega) (fun a w ha => by omega)
end
