/-! THE CLASS: steps, wants, the greatest; links -/
theorem WK_app {cl : Nat → Bool} {n a : Nat} : ∀ {k b j c : Nat}, WK cl n a k b → WK cl n b j c → WK cl n a (k + j) c
  | k, b, 0, c, h, g => by
    rw [show c = b from g]
    exact h
  | k, b, j + 1, c, h, g => by
    obtain ⟨d, w, g1, g2, g3, g4⟩ := g
    exact ⟨d, w, WK_app h g1, g2, g3, g4⟩
theorem WK_sym {cl : Nat → Bool} {n N a : Nat} (hn2 : 2 ≤ n) (hn9 : n < 9) (hN : N = n * n) (hc : CS cl n N) (ha : a < N) : ∀ {k b : Nat}, WK cl n a k b → WK cl n b k a
  | 0, b, h => by
    show a = b
    exact (show b = a from h).symm
  | k + 1, c, h => by
    obtain ⟨b, w, h1, h2, h3, h4⟩ := h
    have hb := WK_lt (by omega) hN ha k b h1
    have hb' : b < n * n := by rw [← hN]; exact hb
    have e : WK cl n c 1 b := ⟨c, wb w, rfl, wb_lt h2, by rw [← h4, ← hc b w hb h2]; exact h3, by rw [← h4]; exact nb_back hn9 hn2 hb' h2⟩
    have := WK_app e (WK_sym hn2 hn9 hN hc ha h1)
    rw [Nat.add_comm] at this
    exact this
theorem LST.eq {cl : Nat → Bool} {n g u d e : Nat} (h : LST cl n g u d) (h2 : LST cl n g u e) : d = e := Nat.le_antisymm (h.2 e h2.1) (h2.2 d h.1)
theorem LST.sym {cl : Nat → Bool} {n N g u d : Nat} (hn2 : 2 ≤ n) (hn9 : n < 9) (hN : N = n * n) (hc : CS cl n N) (hg : g < N) (hu : u < N) (h : LST cl n g u d) : LST cl n u g d :=
  ⟨WK_sym hn2 hn9 hN hc hg h.1, fun k hk => h.2 k (WK_sym hn2 hn9 hN hc hu hk)⟩
/-- all nodes can be reached -/
def CO (cl : Nat → Bool) (n N : Nat) : Prop := ∀ a b, a < N → b < N → ∃ k, WK cl n a k b
section
variable {s : fx_S} {Q : fx_Q} {x n N : Nat} {cl : Nat → Bool}
theorem RGb.count {g : Nat} {t : fx_S} (hB : RGb s x cl n N) (h1 : fx_fi t = fx_fi s) (h2 : ∀ i, i ≠ g → fx_ai t (x + 7) i = fx_ai s (x + 7) i) (h3 : fx_ai t (x + 7) g = fx_bit true) (h4 : ∀ a u, a < N → u < N → a ≠ g → fx_ai t (x + 6) (64 * a + u) = fx_ai s (x + 6) (64 * a + u)) (h5 : ∀ u, u < N → CD t x cl n g u) : RGb t x cl n N := by
  refine ⟨fun a ha => ?_, by rw [h1]; exact hB.2⟩
  by_cases e : a = g
  · subst e
    exact ⟨true, h3, fun _ => h5⟩
  · obtain ⟨b, b1, b2⟩ := hB.1 a ha
    refine ⟨b, by rw [h2 a e]; exact b1, fun q u hu => ?_⟩
    have := b2 q u hu
    unfold CD at this ⊢
    rw [h4 a u ha hu e]
    exact this
theorem k_stepsD {g u : Nat} (hS : SK1 s x) (hA : RGa s x cl n N) (hB : RGb s x cl n N) (hn2 : 2 ≤ n) (hn9 : n < 9) (hN : N = n * n) (hN64 : N ≤ 64) (hg : g < N) (hu : u < N) (k : ∀ s', GF x s s' → SK1 s' x → RGa s' x cl n N → RGb s' x cl n N → fx_fi s' = fx_fi s → CD s' x cl n g u → Q (some (vI (fx_ai s' (x + 6) (64 * g + u)))) s') : fx_M mm_Grid_steps [vR 13 (some (x + 3)), vI (nI u), vI (nI g)] s Q := by
  have fin : ∀ t, GF x s t → SK1 t x → RGa t x cl n N → RGb t x cl n N → fx_fi t = fx_fi s → CD t x cl n g u → fx_W 57 14 [some (vR 13 (some (x + 3))), some (vI (nI u)), some (vI (nI g))] [] t Q := by
    intro t a1 a2 a3 a4 a5 a6
    refine xx_j ee57_14 rfl trivial ?_
    refine xx_gr ee57_15 a2.stepsTo rfl rfl ?_
    refine xx_j ee57_18 rfl trivial ?_
    refine xx_kb ee57_19 64 rfl ?_
    first | refine xx_mul ee57_21 ?_ | refine xx_j ee57_21 rfl trivial ?_
    refine xx_j ee57_22 rfl trivial ?_
    first | refine xx_add ee57_23 ?_ | refine xx_j ee57_23 rfl trivial ?_
    refine xx_al (x := fx_ai t (x + 6) (64 * g + u)) ee57_24 a2.lsteps (j := g * 64 + u) (by omega) (by decide) (by rw [Nat.mul_comm g 64]) rfl ?_
    exact xx_ri ee57_25 rt57 (k t a1 a2 a3 a4 a5 a6)
  obtain ⟨b, b1, b2⟩ := hB.1 g hg
  refine xx_i ml57 ?_
  refine xx_j ee57_0 rfl trivial ?_
  refine xx_gr ee57_1 hS.counted rfl rfl ?_
  refine xx_j ee57_4 rfl trivial ?_
  refine xx_zl ee57_5 hS.lcnt (by omega) (by decide) b1 ?_
  refine xx_nz ee57_6 (fun h => ?_) (fun h => ?_)
  · exact fin s (GF.rf x s) hS hA hB rfl (b2 h u hu)
  · refine xx_j ee57_9 rfl trivial ?_
    refine xx_j ee57_10 rfl trivial ?_
    refine xx_c ee57_11 rfl (k_count hS hA hn2 hn9 hN hN64 hg (fun t a1 a2 a3 a4 a5 a6 a7 a8 => ?_))
    exact fin t a1 a2 a3 (hB.count a4 a5 a6 a7 a8) a4 (a8 u hu)
theorem k_steps {g u : Nat} (hS : SK1 s x) (hA : RGa s x cl n N) (hB : RGb s x cl n N) (hn2 : 2 ≤ n) (hn9 : n < 9) (hN : N = n * n) (hN64 : N ≤ 64) (hC : CO cl n N) (hg : g < N) (hu : u < N) (k : ∀ s' d, GF x s s' → SK1 s' x → RGa s' x cl n N → RGb s' x cl n N → fx_fi s' = fx_fi s → d < 64 → LST cl n g u d → Q (some (vI (nI d))) s') : fx_M mm_Grid_steps [vR 13 (some (x + 3)), vI (nI u), vI (nI g)] s Q := by
  refine k_stepsD hS hA hB hn2 hn9 hN hN64 hg hu (fun t a1 a2 a3 a4 a5 a6 => ?_)
  rcases a6 with ⟨d, d1, d2, d3⟩ | ⟨-, q⟩
  · rw [d2]
    exact k t d a1 a2 a3 a4 a5 d1 d3
  · obtain ⟨j, hj⟩ := hC g u hg hu
    exact absurd hj (q j)
/-- the same where only the counts are known -/
theorem k_stepsX {g u : Nat} (hS : SK1 s x) (hA : RGa s x cl n N) (hB : ∀ g, g < N → ∃ b, fx_ai s (x + 7) g = fx_bit b ∧ (b = true → ∀ u, u < N → CD s x cl n g u)) (hn2 : 2 ≤ n) (hn9 : n < 9) (hN : N = n * n) (hN64 : N ≤ 64) (hC : CO cl n N) (hg : g < N) (hu : u < N) (k : ∀ s' d, GF x s s' → SK1 s' x → RGa s' x cl n N → (∀ g, g < N → ∃ b, fx_ai s' (x + 7) g = fx_bit b ∧ (b = true → ∀ u, u < N → CD s' x cl n g u)) → fx_fi s' = fx_fi s → d < 64 → LST cl n g u d → Q (some (vI (nI d))) s') : fx_M mm_Grid_steps [vR 13 (some (x + 3)), vI (nI u), vI (nI g)] s Q := by
  have fin : ∀ t, GF x s t → SK1 t x → RGa t x cl n N → (∀ g, g < N → ∃ b, fx_ai t (x + 7) g = fx_bit b ∧ (b = true → ∀ u, u < N → CD t x cl n g u)) → fx_fi t = fx_fi s → CD t x cl n g u → fx_W 57 14 [some (vR 13 (some (x + 3))), some (vI (nI u)), some (vI (nI g))] [] t Q := by
    intro t a1 a2 a3 a4 a5 a6
    refine xx_j ee57_14 rfl trivial ?_
    refine xx_gr ee57_15 a2.stepsTo rfl rfl ?_
    refine xx_j ee57_18 rfl trivial ?_
    refine xx_kb ee57_19 64 rfl ?_
    first | refine xx_mul ee57_21 ?_ | refine xx_j ee57_21 rfl trivial ?_
    refine xx_j ee57_22 rfl trivial ?_
    first | refine xx_add ee57_23 ?_ | refine xx_j ee57_23 rfl trivial ?_
    refine xx_al (x := fx_ai t (x + 6) (64 * g + u)) ee57_24 a2.lsteps (j := g * 64 + u) (by omega) (by decide) (by rw [Nat.mul_comm g 64]) rfl ?_
    rcases a6 with ⟨d, d1, d2, d3⟩ | ⟨-, q⟩
    · rw [d2]
      exact xx_ri ee57_25 rt57 (k t d a1 a2 a3 a4 a5 d1 d3)
    · obtain ⟨j, hj⟩ := hC g u hg hu
      exact absurd hj (q j)
  obtain ⟨b, b1, b2⟩ := hB g hg
  refine xx_i ml57 ?_
  refine xx_j ee57_0 rfl trivial ?_
  refine xx_gr ee57_1 hS.counted rfl rfl ?_
  refine xx_j ee57_4 rfl trivial ?_
  refine xx_zl ee57_5 hS.lcnt (by omega) (by decide) b1 ?_
  refine xx_nz ee57_6 (fun h => ?_) (fun h => ?_)
  · exact fin s (GF.rf x s) hS hA hB rfl (b2 h u hu)
  · refine xx_j ee57_9 rfl trivial ?_
    refine xx_j ee57_10 rfl trivial ?_
    refine xx_c ee57_11 rfl (k_count hS hA hn2 hn9 hN hN64 hg (fun t a1 a2 a3 a4 a5 a6 a7 a8 => ?_))
    refine fin t a1 a2 a3 (fun a ha => ?_) a4 (a8 u hu)
    by_cases e : a = g
    · subst e
      exact ⟨true, a6, fun _ => a8⟩
    · obtain ⟨b, b1, b2⟩ := hB a ha
      refine ⟨b, by rw [a5 a e]; exact b1, fun q v hv => ?_⟩
      have := b2 q v hv
      unfold CD at this ⊢
      rw [a7 a v ha hv e]
      exact this
/-- a way is wanted: open and nearer; in the class's own counts -/
theorem k_isWanted {v w g : Nat} (hS : SK1 s x) (hA : RGa s x cl n N) (hB : RGb s x cl n N) (hn2 : 2 ≤ n) (hn9 : n < 9) (hN : N = n * n) (hN64 : N ≤ 64) (hC : CO cl n N) (hg : g < N) (hv : v < N) (hw : w < 4) {b : Bool} (hb : ∀ d e, LST cl n g (nb n v w) d → LST cl n g v e → b = (!cl (4 * v + w) && decide (d < e))) (k : ∀ s', GF x s s' → SK1 s' x → RGa s' x cl n N → RGb s' x cl n N → fx_fi s' = fx_fi s → Q (some (vI (fx_bit b))) s') : fx_M mm_Grid_isWanted [vR 13 (some (x + 3)), vI (nI v), vI (nI w), vI (nI g)] s Q := by
  have hnb : nb n v w < N := by rw [hN]; exact nb_lt (by omega) (by rw [← hN]; exact hv)
  have ex : ∀ u, u < N → ∃ d, LST cl n g u d := by
    intro u hu
    obtain ⟨k0, hk⟩ := hC g u hg hu
    have : ∀ k, WK cl n g k u → ∃ d, LST cl n g u d := by
      intro k
      induction k using Nat.strongRecOn with
      | _ k ih =>
        intro h
        by_cases q : ∃ j, j < k ∧ WK cl n g j u
        · obtain ⟨j, j1, j2⟩ := q
          exact ih j j1 j2
        · exact ⟨k, h, fun j hj => Nat.le_of_not_lt (fun z => q ⟨j, z, hj⟩)⟩
    exact this k0 hk
  refine xx_i ml88 ?_
  refine xx_j ee88_0 rfl trivial ?_
  refine xx_j ee88_1 rfl trivial ?_
  refine xx_j ee88_2 rfl trivial ?_
  refine xx_c ee88_3 rfl (k_isOpen hS hA hN64 hv hw ?_)
  refine xx_z ee88_6 (fun h => ?_) (fun ho => ?_)
  · obtain ⟨d, hd⟩ := ex _ hnb
    obtain ⟨e, he⟩ := ex v hv
    have hb' := hb d e hd he
    rw [h, Bool.false_and] at hb'
    subst hb'
    refine xx_k ee88_33 0 rfl ?_
    exact xx_t fx_bit_f (xx_rz ee88_34 (k s (GF.rf x s) hS hA hB rfl))
  refine xx_j ee88_9 rfl trivial ?_
  refine xx_j ee88_10 rfl trivial ?_
  refine xx_j ee88_11 rfl trivial ?_
  refine xx_j ee88_12 rfl trivial ?_
  refine xx_c ee88_13 rfl (k_beside hS hA hN64 hv hw ?_)
  refine xx_j ee88_16 rfl trivial ?_
  refine xx_c ee88_17 rfl (k_steps hS hA hB hn2 hn9 hN hN64 hC hg hnb (fun t d a1 a2 a3 a4 a5 a6 a7 => ?_))
  refine xx_j ee88_20 rfl trivial ?_
  refine xx_j ee88_21 rfl trivial ?_
  refine xx_j ee88_22 rfl trivial ?_
  refine xx_c ee88_23 rfl (k_steps a2 a3 a4 hn2 hn9 hN hN64 hC hg hv (fun t2 e c1 c2 c3 c4 c5 c6 c7 => ?_))
  have hb' := hb d e a7 c7
  rw [ho, Bool.true_and] at hb'
  refine xx_ge ee88_26 (by omega) (by omega) (fun h => ?_) (fun h => ?_)
  · have : b = false := by rw [hb']; simpa using h
    subst this
    refine xx_k ee88_33 0 rfl ?_
    exact xx_t fx_bit_f (xx_rz ee88_34 (k t2 (a1.tr c1) c2 c3 c4 (c5.trans a5)))
  · have : b = true := by rw [hb']; simpa using h
    subst this
    refine xx_k ee88_29 1 rfl ?_
    refine xx_j ee88_30 rfl trivial ?_
    exact xx_t fx_bit_t (xx_rz ee88_34 (k t2 (a1.tr c1) c2 c3 c4 (c5.trans a5)))
/-- the greatest so far of the rows before g, and of row g before u -/
def GM (cl : Nat → Bool) (n N g u : Nat) (m : Option Nat) : Prop := (∀ a b, a < N → b < N → (a < g ∨ (a = g ∧ b < u)) → ∃ d e, m = some d ∧ e ≤ d ∧ LST cl n a b e) ∧ ∀ d, m = some d → d < 64 ∧ ∃ a b, a < N ∧ b < N ∧ LST cl n a b d
theorem fx_max {a b : Nat} (ha : a < 2 ^ 31) (hb : b < 2 ^ 31) : (if nI a < nI b then nI b else nI a) = nI (max a b) := by
  have e : nI a < nI b ↔ a < b := by
    rw [Int32.lt_iff_toInt_lt, nI_toInt ha, nI_toInt hb]
    omega
  by_cases h : a < b
  · rw [if_pos (e.mpr h), Nat.max_eq_right (by omega)]
  · rw [if_neg (fun q => h (e.mp q)), Nat.max_eq_left (by omega)]
theorem fx_mxn {b : Nat} (hb : b < 2 ^ 31) : (if fx_neg < nI b then nI b else fx_neg) = nI b := by
  have e : fx_neg < nI b := by
    rw [Int32.lt_iff_toInt_lt, nI_toInt hb]
    have : fx_neg.toInt = -1 := by decide
    omega
  rw [if_pos e]
theorem k_greatest (hS : SK1 s x) (hA : RGa s x cl n N) (hB : RGb s x cl n N) (hn2 : 2 ≤ n) (hn9 : n < 9) (hN : N = n * n) (hN64 : N ≤ 64) (hC : CO cl n N) (k : ∀ s' d, GF x s s' → SK1 s' x → RGa s' x cl n N → RGb s' x cl n N → d < 64 → (∀ g u, g < N → u < N → ∃ e, e ≤ d ∧ LST cl n g u e) → (∃ g u, g < N ∧ u < N ∧ LST cl n g u d) → Q (some (vI (nI d))) s') : fx_M mm_Grid_greatestSteps [vR 13 (some (x + 3))] s Q := by
  have h0 : 0 < N := by rw [hN]; exact Nat.mul_pos (by omega) (by omega)
  have fin : ∀ t d x1 x2, GF x s t → SK1 t x → RGa t x cl n N → RGb t x cl n N → fx_fi t ff_Grid_greatest (x + 3) = nI d → d < 64 → (∀ g u, g < N → u < N → ∃ e, e ≤ d ∧ LST cl n g u e) → (∃ g u, g < N ∧ u < N ∧ LST cl n g u d) → fx_W 87 57 [some (vR 13 (some (x + 3))), x1, x2] [] t Q := by
    intro t d x1 x2 a1 a2 a3 a4 a5 a6 a7 a8
    refine xx_j ee87_57 rfl trivial ?_
    refine xx_gi ee87_58 a5 rfl rfl ?_
    exact xx_ri ee87_61 rt87 (k t d a1 a2 a3 a4 a6 a7 a8)
  refine xx_i ml87 ?_
  -- the loops: the counts are kept but for the greatest
  let ST : fx_S → Option Nat → Prop := fun t m => GF x s t ∧ SK1 t x ∧ RGa t x cl n N ∧ (∀ g, g < N → ∃ b, fx_ai t (x + 7) g = fx_bit b ∧ (b = true → ∀ u, u < N → CD t x cl n g u)) ∧ fx_fi t ff_Grid_greatest (x + 3) = oI m
  have outer : ∀ e t g m x2, g + e = N → ST t m → GM cl n N g 0 m → fx_W 87 10 [some (vR 13 (some (x + 3))), some (vI (nI g)), x2] [] t Q := by
    intro e
    induction e with
    | zero =>
      intro t g m x2 hg hT hM
      obtain ⟨a1, a2, a3, a4, a5⟩ := hT
      refine xx_j ee87_10 rfl trivial ?_
      refine xx_j ee87_11 rfl trivial ?_
      refine xx_gi ee87_12 a3.1 rfl rfl ?_
      refine xx_ge ee87_15 (by omega) (by omega) (fun _ => ?_) (fun h => by omega)
      obtain ⟨d, -, hm, -⟩ := hM.1 0 0 h0 h0 (Or.inl (by omega))
      subst hm
      obtain ⟨d64, dx⟩ := hM.2 d rfl
      have all : ∀ g u, g < N → u < N → ∃ e, e ≤ d ∧ LST cl n g u e := by
        intro a b ha hb
        obtain ⟨d', e', q1, q2, q3⟩ := hM.1 a b ha hb (Or.inl (by omega))
        cases q1
        exact ⟨e', q2, q3⟩
      exact fin t d _ _ a1 a2 a3 ⟨a4, Or.inr ⟨d, d64, a5, all, dx⟩⟩ a5 d64 all dx
    | succ e ih =>
      intro t g m x2 hg hT hM
      refine xx_j ee87_10 rfl trivial ?_
      refine xx_j ee87_11 rfl trivial ?_
      refine xx_gi ee87_12 hT.2.2.1.1 rfl rfl ?_
      refine xx_ge ee87_15 (by omega) (by omega) (fun h => by omega) (fun _ => ?_)
      refine xx_k ee87_18 0 rfl ?_
      refine xx_j ee87_19 rfl trivial ?_
      have inner : ∀ c t u m, u + c = N → ST t m → GM cl n N g u m → fx_W 87 20 [some (vR 13 (some (x + 3))), some (vI (nI g)), some (vI (nI u))] [] t Q := by
        intro c
        induction c with
        | zero =>
          intro t u m hu hT hM
          refine xx_j ee87_20 rfl trivial ?_
          refine xx_j ee87_21 rfl trivial ?_
          refine xx_gi ee87_22 hT.2.2.1.1 rfl rfl ?_
          refine xx_ge ee87_25 (by omega) (by omega) (fun _ => ?_) (fun h => by omega)
          first | refine xx_inc ee87_51 rfl ?_ | refine xx_j ee87_51 rfl trivial ?_
          refine xx_j ee87_54 rfl trivial ?_
          refine ih t (g + 1) m _ (by omega) hT ⟨fun a b ha hb hab => hM.1 a b ha hb (by omega), hM.2⟩
        | succ c ihc =>
          intro t u m hu hT hM
          obtain ⟨a1, a2, a3, a4, a5⟩ := hT
          refine xx_j ee87_20 rfl trivial ?_
          refine xx_j ee87_21 rfl trivial ?_
          refine xx_gi ee87_22 a3.1 rfl rfl ?_
          refine xx_ge ee87_25 (by omega) (by omega) (fun h => by omega) (fun _ => ?_)
          refine xx_j ee87_28 rfl trivial ?_
          refine xx_j ee87_29 rfl trivial ?_
          refine xx_gi ee87_30 a5 rfl rfl ?_
          refine xx_j ee87_33 rfl trivial ?_
          refine xx_j ee87_34 rfl trivial ?_
          refine xx_j ee87_35 rfl trivial ?_
          refine xx_c ee87_36 rfl ?_
          refine k_stepsX a2 a3 a4 hn2 hn9 hN hN64 hC (by omega) (by omega) (fun t2 d c1 c2 c3 c4 c5 c6 c7 => ?_)
          have hm64 : ∀ d, m = some d → d < 64 := fun d hd => (hM.2 d hd).1
          have e1 : ∃ d2, (if oI m < nI d then nI d else oI m) = nI d2 ∧ d2 < 64 ∧ d ≤ d2 ∧ (∀ d3, m = some d3 → d3 ≤ d2) ∧ (d2 = d ∨ m = some d2) := by
            cases m with
            | none => exact ⟨d, fx_mxn (by omega), c6, Nat.le_refl _, fun d3 h => (by cases h), Or.inl rfl⟩
            | some d3 =>
              have := hm64 d3 rfl
              refine ⟨max d3 d, fx_max (by omega) (by omega), by omega, by omega, fun d4 h => by cases h; omega, ?_⟩
              by_cases q : d3 ≤ d
              · exact Or.inl (by omega)
              · exact Or.inr (by rw [show max d3 d = d3 by omega])
          obtain ⟨d2, m1, m2, m3, m4, m5⟩ := e1
          refine xx_j ee87_39 rfl trivial ?_
          refine xx_t m1 ?_
          refine xx_pi ee87_42 rfl ?_
          first | refine xx_inc ee87_45 rfl ?_ | refine xx_j ee87_45 rfl trivial ?_
          refine xx_j ee87_48 rfl trivial ?_
          refine ihc _ (u + 1) (some d2) (by omega) ⟨(a1.tr c1).tr (GF.fi (by decide) (by decide)), c2, ⟨c3.1, c3.2.1, c3.2.2⟩, c4, fi_same⟩ ⟨fun a b ha hb hab => ?_, fun d3 h3 => ?_⟩
          · by_cases q : a = g ∧ b = u
            · rw [q.1, q.2]
              exact ⟨d2, d, rfl, m3, c7⟩
            · obtain ⟨d3, e3, q1, q2, q3⟩ := hM.1 a b ha hb (by omega)
              exact ⟨d2, e3, rfl, Nat.le_trans q2 (m4 d3 q1), q3⟩
          · cases h3
            refine ⟨m2, ?_⟩
            rcases m5 with q | q
            · rw [q]; exact ⟨g, u, by omega, by omega, c7⟩
            · exact (hM.2 _ q).2
      exact inner N t 0 m (by omega) hT hM
  rcases hB.2 with q | ⟨d, d1, d2, d3, d4⟩
  · refine xx_j ee87_0 rfl trivial ?_
    refine xx_gi ee87_1 q rfl rfl ?_
    refine xx_km ee87_4 rfl ?_
    refine xx_one (b := none) ee87_5 (fun _ h => by cases h) (fun _ h => by cases h) (fun _ => ?_)
    refine xx_k ee87_8 0 rfl ?_
    refine xx_j ee87_9 rfl trivial ?_
    exact outer N s 0 none _ (by omega) ⟨GF.rf x s, hS, hA, hB.1, q⟩ ⟨fun a b ha hb hab => by omega, fun d h => by cases h⟩
  · refine xx_j ee87_0 rfl trivial ?_
    refine xx_gi ee87_1 d2 rfl rfl ?_
    refine xx_km ee87_4 rfl ?_
    refine xx_one (b := some d) ee87_5 (fun _ h => by cases h; omega) (fun _ _ => ?_) (fun h => by cases h)
    exact fin s d _ _ (GF.rf x s) hS hA hB d2 d1 d3 d4
end
