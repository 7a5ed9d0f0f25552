/-! THE CLASS: the grid -/
/-- only the grid's counts change -/
def GF (x : Nat) (s t : fx_S) : Prop := fx_kd t = fx_kd s ∧ fx_fr t = fx_fr s ∧ fx_ln t = fx_ln s ∧ fx_ar t = fx_ar s ∧ fx_al t = fx_al s ∧ fx_nx t = fx_nx s ∧ fx_sl t = fx_sl s ∧ (∀ f a, (f < 192 ∨ 199 ≤ f ∨ a ≠ x + 3) → fx_fi t f a = fx_fi s f a) ∧ ∀ a, (a < x + 4 ∨ x + 8 < a) → fx_ai t a = fx_ai s a
theorem GF.rf (x : Nat) (s : fx_S) : GF x s s := ⟨rfl, rfl, rfl, rfl, rfl, rfl, rfl, fun _ _ _ => rfl, fun _ _ => rfl⟩
theorem GF.tr {x : Nat} {s t u : fx_S} (h : GF x s t) (g : GF x t u) : GF x s u := by
  obtain ⟨h1, h2, h3, h4, h5, h6, h7, h8, h9⟩ := h
  obtain ⟨g1, g2, g3, g4, g5, g6, g7, g8, g9⟩ := g
  exact ⟨g1.trans h1, g2.trans h2, g3.trans h3, g4.trans h4, g5.trans h5, g6.trans h6, g7.trans h7, fun f a q => (g8 f a q).trans (h8 f a q), fun a q => (g9 a q).trans (h9 a q)⟩
theorem GF.ai {x : Nat} {s : fx_S} {a i : Nat} {v : Int32} (h1 : x + 4 ≤ a) (h2 : a ≤ x + 8) : GF x s (fx_sai s a i v) := ⟨rfl, rfl, rfl, rfl, rfl, rfl, rfl, fun _ _ _ => rfl, fun b hb => fx_up_off _ (by omega)⟩
theorem GF.fi {x : Nat} {s : fx_S} {f : Nat} {v : Int32} (h1 : 192 ≤ f) (h2 : f < 199) : GF x s (fx_sfi s f (x + 3) v) := ⟨rfl, rfl, rfl, rfl, rfl, rfl, rfl, fun g b hb => fi_ne (fun q => by omega), fun _ _ => rfl⟩
theorem GF.sk {x : Nat} {s t : fx_S} (h : GF x s t) (k : SK1 s x) : SK1 t x := by
  obtain ⟨-, h2, h3, -⟩ := h
  unfold SK1 at k ⊢
  rw [h2, h3]
  exact k
section
variable {s : fx_S} {Q : fx_Q} {x n N : Nat} {cl : Nat → Bool}
theorem k_hasNode {v : Int32} {g N : Nat} (hN : N < 2 ^ 31) (ha : fx_fi s ff_Grid_size g = nI N) (k : Q (some (vI (fx_bit (fx_isN N v)))) s) : fx_M mm_Grid_hasNode [vR 13 (some g), vI v] s Q := by
  refine xx_i ml5 ?_
  refine xx_j ee5_0 rfl trivial ?_
  refine xx_b ee5_1 rfl (fun h => ?_) (fun h => ?_)
  · refine xx_k ee5_16 0 rfl ?_
    have h0 : ¬ (0 : Int) ≤ v.toInt := by
      have : v.toInt < (0 : Int32).toInt := Int32.lt_iff_toInt_lt.mp h
      have e : (0 : Int32).toInt = 0 := by decide
      omega
    have e : fx_isN N v = false := by simp [fx_isN, h0]
    rw [e] at k
    exact xx_t fx_bit_f (xx_rz ee5_17 k)
  · have h0 : (0 : Int) ≤ v.toInt := by
      have h' : ¬ v.toInt < (0 : Int32).toInt := fun q => h (Int32.lt_iff_toInt_lt.mpr q)
      have e : (0 : Int32).toInt = 0 := by decide
      omega
    refine xx_j ee5_4 rfl trivial ?_
    refine xx_j ee5_5 rfl trivial ?_
    refine xx_gi ee5_6 ha rfl rfl ?_
    refine xx_b ee5_9 rfl (fun h => ?_) (fun h => ?_)
    · refine xx_k ee5_16 0 rfl ?_
      have h1 : ¬ v.toInt < (N : Int) := by
        have : (nI N).toInt ≤ v.toInt := Int32.le_iff_toInt_le.mp h
        rw [nI_toInt hN] at this
        omega
      have e : fx_isN N v = false := by simp [fx_isN, h1]
      rw [e] at k
      exact xx_t fx_bit_f (xx_rz ee5_17 k)
    · refine xx_k ee5_12 1 rfl ?_
      refine xx_j ee5_13 rfl trivial ?_
      have h1 : v.toInt < (N : Int) := by
        have h' : ¬ (nI N).toInt ≤ v.toInt := fun q => h (Int32.le_iff_toInt_le.mpr q)
        rw [nI_toInt hN] at h'
        omega
      have e : fx_isN N v = true := by simp [fx_isN, h0, h1]
      rw [e] at k
      exact xx_t fx_bit_t (xx_rz ee5_17 k)
theorem k_isOpen {v w : Nat} (hS : SK1 s x) (hA : RGa s x cl n N) (hN : N ≤ 64) (hv : v < N) (hw : w < 4) (k : Q (some (vI (fx_bit (!cl (4 * v + w))))) s) : fx_M mm_Grid_isOpen [vR 13 (some (x + 3)), vI (nI v), vI (nI w)] s Q := by
  refine xx_i ml6 ?_
  refine xx_j ee6_0 rfl trivial ?_
  refine xx_gr ee6_1 hS.opens rfl rfl ?_
  refine xx_j ee6_4 rfl trivial ?_
  refine xx_k ee6_5 4 rfl ?_
  first | refine xx_mul ee6_6 ?_ | refine xx_j ee6_6 rfl trivial ?_
  refine xx_j ee6_7 rfl trivial ?_
  first | refine xx_add ee6_8 ?_ | refine xx_j ee6_8 rfl trivial ?_
  refine xx_zl (x := fx_bit (!cl (4 * v + w))) ee6_9 hS.lopen (j := v * 4 + w) (by omega) (by decide) (by rw [Nat.mul_comm v 4]; exact hA.2.2 v w hv hw) ?_
  exact xx_rz ee6_10 k
theorem k_beside {v w : Nat} (hS : SK1 s x) (hA : RGa s x cl n N) (hN : N ≤ 64) (hv : v < N) (hw : w < 4) (k : Q (some (vI (nI (nb n v w)))) s) : fx_M mm_Grid_beside [vR 13 (some (x + 3)), vI (nI v), vI (nI w)] s Q := by
  refine xx_i ml2 ?_
  refine xx_j ee2_0 rfl trivial ?_
  refine xx_gr ee2_1 hS.besides rfl rfl ?_
  refine xx_j ee2_4 rfl trivial ?_
  refine xx_k ee2_5 4 rfl ?_
  first | refine xx_mul ee2_6 ?_ | refine xx_j ee2_6 rfl trivial ?_
  refine xx_j ee2_7 rfl trivial ?_
  first | refine xx_add ee2_8 ?_ | refine xx_j ee2_8 rfl trivial ?_
  refine xx_al (x := nI (nb n v w)) ee2_9 hS.lbes (j := v * 4 + w) (by omega) (by decide) (by rw [Nat.mul_comm v 4]; exact hA.2.1 v w hv hw) rfl ?_
  exact xx_ri ee2_10 rt2 k
theorem k_openWays {v : Nat} (hS : SK1 s x) (hA : RGa s x cl n N) (hN : N ≤ 64) (hv : v < N) (k : Q (some (vI (nI (fx_ow cl v 4)))) s) : fx_M mm_Grid_openWays [vR 13 (some (x + 3)), vI (nI v)] s Q := by
  refine xx_i ml55 ?_
  refine xx_k ee55_0 0 rfl ?_
  refine xx_j ee55_1 rfl trivial ?_
  refine xx_k ee55_2 0 rfl ?_
  refine xx_j ee55_3 rfl trivial ?_
  have key : ∀ d j, j + d = 4 → fx_W 55 4 [some (vR 13 (some (x + 3))), some (vI (nI v)), some (vI (nI (fx_ow cl v j))), some (vI (nI j))] [] s Q := by
    intro d
    induction d with
    | zero =>
      intro j hj
      refine xx_j ee55_4 rfl trivial ?_
      refine xx_k ee55_5 4 rfl ?_
      refine xx_ge ee55_6 (by omega) (by omega) (fun h => ?_) (fun h => by omega)
      refine xx_j ee55_27 rfl trivial ?_
      refine xx_ri ee55_28 rt55 ?_
      rw [show j = 4 by omega]
      exact k
    | succ d ih =>
      intro j hj
      refine xx_j ee55_4 rfl trivial ?_
      refine xx_k ee55_5 4 rfl ?_
      refine xx_ge ee55_6 (by omega) (by omega) (fun h => by omega) (fun h => ?_)
      refine xx_j ee55_9 rfl trivial ?_
      refine xx_j ee55_10 rfl trivial ?_
      refine xx_j ee55_11 rfl trivial ?_
      refine xx_c ee55_12 rfl (k_isOpen hS hA hN hv (by omega) ?_)
      refine xx_z ee55_15 (fun h => ?_) (fun h => ?_)
      · first | refine xx_inc ee55_21 rfl ?_ | refine xx_j ee55_21 rfl trivial ?_
        refine xx_j ee55_24 rfl trivial ?_
        have := ih (j + 1) (by omega)
        have h' : cl (4 * v + j) = true := by simpa using h
        simp only [fx_ow, h', cond_true] at this
        exact this
      · first | refine xx_inc ee55_18 rfl ?_ | refine xx_j ee55_18 rfl trivial ?_
        first | refine xx_inc ee55_21 rfl ?_ | refine xx_j ee55_21 rfl trivial ?_
        refine xx_j ee55_24 rfl trivial ?_
        have := ih (j + 1) (by omega)
        have h' : cl (4 * v + j) = false := by simpa using h
        simp only [fx_ow, h', cond_false] at this
        exact this
  exact key 4 0 (by omega)
theorem k_wayBack {w : Nat} (hw : w < 4) (k : Q (some (vI (nI (wb w)))) s) : fx_M mm_Grid_wayBack [vI (nI w)] s Q := by
  refine xx_i ml7 ?_
  refine xx_j ee7_0 rfl trivial ?_
  refine xx_k ee7_1 2 rfl ?_
  refine xx_rem ee7_2 (by omega) (by omega) (by omega) ?_
  unfold wb at k
  refine xx_kne ee7_3 (by omega) (fun h => ?_) (fun h => ?_)
  · rw [if_neg h] at k
    refine xx_j ee7_12 rfl trivial ?_
    refine xx_k ee7_13 1 rfl ?_
    refine xx_sub ee7_14 (by omega) ?_
    exact xx_ri ee7_15 rt7 k
  · rw [if_pos h] at k
    refine xx_j ee7_6 rfl trivial ?_
    refine xx_k ee7_7 1 rfl ?_
    first | refine xx_add ee7_8 ?_ | refine xx_j ee7_8 rfl trivial ?_
    refine xx_j ee7_9 rfl trivial ?_
    exact xx_ri ee7_15 rt7 k
/-! the steps to a goal -/
/-- what holds while they are counted: D the steps, q the nodes reached, i of fd are done, and w of the ways of the next one -/
def BI (cl : Nat → Bool) (n N g i w fd : Nat) (D : Nat → Option Nat) (q : Nat → Nat) : Prop :=
  (∀ j, j < fd → q j < N ∧ ∃ d, D (q j) = some d ∧ d ≤ j) ∧ (∀ u, u < N → D u ≠ none → ∃ j, j < fd ∧ q j = u) ∧ (∀ j k, j < fd → k < fd → q j = q k → j = k) ∧
  (∀ j k d e, j ≤ k → k < fd → D (q j) = some d → D (q k) = some e → d ≤ e) ∧ (∀ j d e, j < fd → i < fd → D (q j) = some d → D (q i) = some e → d ≤ e + 1) ∧
  (∀ u d, u < N → D u = some d → WK cl n g d u) ∧ (∀ j y d, j < fd → y < 4 → (j < i ∨ (j = i ∧ y < w)) → cl (4 * q j + y) = false → D (q j) = some d → ∃ e, D (nb n (q j) y) = some e ∧ e ≤ d + 1) ∧ D g = some 0 ∧ i ≤ fd ∧ 0 < fd
/-- how the heap holds it -/
def BH (s : fx_S) (x N g fd : Nat) (D : Nat → Option Nat) (q : Nat → Nat) : Prop := (∀ u, u < N → fx_ai s (x + 6) (64 * g + u) = oI (D u)) ∧ ∀ j, j < fd → fx_ai s (x + 8) j = nI (q j)
theorem BI.fd {g i w fd : Nat} {D : Nat → Option Nat} {q : Nat → Nat} (h : BI cl n N g i w fd D q) : fd ≤ N := pigeon q (fun j hj => (h.1 j hj).1) h.2.2.1
theorem BI.next {g i fd : Nat} {D : Nat → Option Nat} {q : Nat → Nat} (h : BI cl n N g i 4 fd D q) (hi : i < fd) : BI cl n N g (i + 1) 0 fd D q := by
  obtain ⟨h1, h2, h3, h4, h5, h6, h7, h8, h9, h10⟩ := h
  refine ⟨h1, h2, h3, h4, fun j d e hj hi1 hd he => ?_, h6, fun j y d hj hy hjw hc hd => h7 j y d hj hy (by omega) hc hd, h8, by omega, h10⟩
  obtain ⟨-, c, hc, -⟩ := h1 i hi
  have a1 := h5 j d c hj hi hd hc
  have a2 := h4 i (i + 1) c e (by omega) hi1 hc he
  omega
theorem BI.skip {g i w fd : Nat} {D : Nat → Option Nat} {q : Nat → Nat} (h : BI cl n N g i w fd D q) (hi : i < fd) (hs : cl (4 * q i + w) = true ∨ D (nb n (q i) w) ≠ none) (hnb : nb n (q i) w < N) : BI cl n N g i (w + 1) fd D q := by
  obtain ⟨h1, h2, h3, h4, h5, h6, h7, h8, h9, h10⟩ := h
  refine ⟨h1, h2, h3, h4, h5, h6, fun j y d hj hy hjw hc hd => ?_, h8, h9, h10⟩
  by_cases e : j = i ∧ y = w
  · obtain ⟨e1, e2⟩ := e
    subst e1; subst e2
    rcases hs with q1 | q1
    · rw [q1] at hc; cases hc
    · obtain ⟨k, k1, k2⟩ := h2 _ hnb q1
      obtain ⟨-, c, hc', -⟩ := h1 k k1
      rw [k2] at hc'
      exact ⟨c, hc', h5 k c d k1 hi (by rw [k2]; exact hc') hd⟩
  · exact h7 j y d hj hy (by omega) hc hd
def fn_up {α : Type} (f : Nat → α) (a : Nat) (v : α) : Nat → α := fun b => if b = a then v else f b
theorem fn_same {α : Type} {f : Nat → α} {a : Nat} {v : α} : fn_up f a v a = v := if_pos rfl
theorem fn_ne {α : Type} {f : Nat → α} {a b : Nat} {v : α} (h : b ≠ a) : fn_up f a v b = f b := if_neg h
theorem BI.add {g i w fd d : Nat} {D : Nat → Option Nat} {q : Nat → Nat} (h : BI cl n N g i w fd D q) (hi : i < fd) (hw : w < 4) (ho : cl (4 * q i + w) = false) (hD : D (nb n (q i) w) = none) (hd : D (q i) = some d) (hnb : nb n (q i) w < N) : BI cl n N g i (w + 1) (fd + 1) (fn_up D (nb n (q i) w) (some (d + 1))) (fn_up q fd (nb n (q i) w)) := by
  obtain ⟨h1, h2, h3, h4, h5, h6, h7, h8, h9, h10⟩ := h
  generalize hc : nb n (q i) w = c at *
  have qn : ∀ j, j < fd → q j ≠ c := fun j hj e => by
    obtain ⟨-, z, hz, -⟩ := h1 j hj
    rw [e, hD] at hz
    cases hz
  have dq : ∀ j, j < fd → fn_up D c (some (d + 1)) (q j) = D (q j) := fun j hj => fn_ne (qn j hj)
  have qo : ∀ j, j < fd → fn_up q fd c j = q j := fun j hj => fn_ne (by omega)
  have qf : fn_up q fd c fd = c := fn_same
  have df : fn_up D c (some (d + 1)) c = some (d + 1) := fn_same
  obtain ⟨-, d', hd', hdi⟩ := h1 i hi
  have edd : d' = d := by rw [hd] at hd'; cases hd'; rfl
  subst edd
  refine ⟨fun j hj => ?_, fun u hu hun => ?_, fun j k hj hk e => ?_, fun j k a b hjk hk ha hb => ?_, fun j a b hj hi1 ha hb => ?_, fun u a hu ha => ?_, fun j y a hj hy hjw hcl ha => ?_, ?_, by omega, by omega⟩
  · by_cases e : j = fd
    · rw [e, qf, df]; exact ⟨hnb, d' + 1, rfl, by omega⟩
    · rw [qo j (by omega), dq j (by omega)]; exact h1 j (by omega)
  · by_cases e : u = c
    · exact ⟨fd, by omega, by rw [qf, e]⟩
    · rw [fn_ne e] at hun
      obtain ⟨j, j1, j2⟩ := h2 u hu hun
      exact ⟨j, by omega, by rw [qo j j1]; exact j2⟩
  · by_cases e1 : j = fd
    · by_cases e2 : k = fd
      · omega
      · rw [e1, qf, qo k (by omega)] at e
        exact absurd e.symm (qn k (by omega))
    · by_cases e2 : k = fd
      · rw [e2, qf, qo j (by omega)] at e
        exact absurd e (qn j (by omega))
      · rw [qo j (by omega), qo k (by omega)] at e
        exact h3 j k (by omega) (by omega) e
  · by_cases e2 : k = fd
    · rw [e2, qf, df] at hb
      cases hb
      by_cases e1 : j = fd
      · rw [e1, qf, df] at ha; cases ha; omega
      · rw [qo j (by omega), dq j (by omega)] at ha
        have := h5 j a d' (by omega) hi ha hd
        omega
    · rw [qo j (by omega), dq j (by omega)] at ha
      rw [qo k (by omega), dq k (by omega)] at hb
      exact h4 j k a b hjk (by omega) ha hb
  · rw [qo i hi, dq i hi, hd] at hb
    cases hb
    by_cases e1 : j = fd
    · rw [e1, qf, df] at ha; cases ha; omega
    · rw [qo j (by omega), dq j (by omega)] at ha
      exact h5 j a d' (by omega) hi ha hd
  · by_cases e : u = c
    · rw [e, df] at ha
      cases ha
      rw [e]
      exact ⟨q i, w, h6 _ _ (h1 i hi).1 hd, hw, ho, hc⟩
    · rw [fn_ne e] at ha
      exact h6 u a hu ha
  · by_cases e1 : j = fd
    · omega
    · rw [qo j (by omega)] at hcl ⊢
      rw [qo j (by omega), dq j (by omega)] at ha
      by_cases e2 : j = i ∧ y = w
      · obtain ⟨e3, e4⟩ := e2
        subst e3; subst e4
        rw [hc]
        rw [hd] at ha
        cases ha
        exact ⟨d' + 1, df, Nat.le_refl _⟩
      · obtain ⟨e, x1, x2⟩ := h7 j y a (by omega) hy (by omega) hcl ha
        refine ⟨e, ?_, x2⟩
        rw [fn_ne (fun z => by rw [z, hD] at x1; cases x1)]
        exact x1
  · rw [fn_ne (fun z => by rw [z, hD] at h8; cases h8)]
    exact h8
/-- at the end -/
theorem BI.done {g fd w : Nat} {D : Nat → Option Nat} {q : Nat → Nat} (h : BI cl n N g fd w fd D q) (hn : 0 < n) (hN : N = n * n) (hg : g < N) : ∀ u, u < N → (∀ d, D u = some d → d < N ∧ LST cl n g u d) ∧ (D u = none → ∀ k, ¬ WK cl n g k u) := by
  have hfd := h.fd
  obtain ⟨h1, h2, h3, h4, h5, h6, h7, h8, h9, h10⟩ := h
  have key : ∀ k u, WK cl n g k u → ∃ d, D u = some d ∧ d ≤ k := by
    intro k
    induction k with
    | zero => intro u hu; exact ⟨0, by rw [show u = g from hu]; exact h8, Nat.le_refl _⟩
    | succ k ih =>
      intro u hu
      obtain ⟨b, y, w1, w2, w3, w4⟩ := hu
      obtain ⟨d, d1, d2⟩ := ih b w1
      have hb := WK_lt hn hN hg k b w1
      obtain ⟨j, j1, j2⟩ := h2 b hb (by rw [d1]; exact fun z => by cases z)
      subst j2
      obtain ⟨e, e1, e2⟩ := h7 j y d j1 w2 (Or.inl j1) w3 d1
      rw [w4] at e1
      exact ⟨e, e1, by omega⟩
  intro u hu
  refine ⟨fun d hd => ⟨?_, h6 u d hu hd, fun k hk => ?_⟩, fun hn' k hk => ?_⟩
  · obtain ⟨j, j1, j2⟩ := h2 u hu (by rw [hd]; exact fun z => by cases z)
    obtain ⟨-, e, e1, e2⟩ := h1 j j1
    rw [j2, hd] at e1
    cases e1
    omega
  · obtain ⟨e, e1, e2⟩ := key k u hk
    rw [hd] at e1
    cases e1
    exact e2
  · obtain ⟨e, e1, -⟩ := key k u hk
    rw [hn'] at e1
    cases e1
theorem k_count {g : Nat} (hS : SK1 s x) (hA : RGa s x cl n N) (hn2 : 2 ≤ n) (hn9 : n < 9) (hN : N = n * n) (hN64 : N ≤ 64) (hg : g < N) (k : ∀ s', GF x s s' → SK1 s' x → RGa s' x cl n N → fx_fi s' = fx_fi s → (∀ i, i ≠ g → fx_ai s' (x + 7) i = fx_ai s (x + 7) i) → fx_ai s' (x + 7) g = fx_bit true → (∀ a u, a < N → u < N → a ≠ g → fx_ai s' (x + 6) (64 * a + u) = fx_ai s (x + 6) (64 * a + u)) → (∀ u, u < N → CD s' x cl n g u) → Q none s') : fx_M mm_Grid_countStepsTo [vR 13 (some (x + 3)), vI (nI g)] s Q := by
  refine xx_i ml3 ?_
  -- what stays
  let ST : fx_S → Prop := fun t => GF x s t ∧ SK1 t x ∧ RGa t x cl n N ∧ fx_fi t = fx_fi s ∧ fx_ai t (x + 7) = fx_ai s (x + 7) ∧ ∀ a u, a < N → u < N → a ≠ g → fx_ai t (x + 6) (64 * a + u) = fx_ai s (x + 6) (64 * a + u)
  have st6 : ∀ t u v, ST t → u < N → ST (fx_sai t (x + 6) (64 * g + u) v) := by
    intro t u v ⟨a1, a2, a3, a4, a5, a6⟩ hu
    refine ⟨a1.tr (GF.ai (by omega) (by omega)), a2, ⟨a3.1, fun v w hv hw => ?_, fun v w hv hw => ?_⟩, a4, ?_, fun a b ha hb hag => ?_⟩
    · rw [ai_ne (by omega)]; exact a3.2.1 v w hv hw
    · rw [ai_ne (by omega)]; exact a3.2.2 v w hv hw
    · rw [← a5]; funext i; exact ai_ne (by omega)
    · rw [ai_ne (by omega)]; exact a6 a b ha hb hag
  have st8 : ∀ t j v, ST t → ST (fx_sai t (x + 8) j v) := by
    intro t j v ⟨a1, a2, a3, a4, a5, a6⟩
    refine ⟨a1.tr (GF.ai (by omega) (by omega)), a2, ⟨a3.1, fun v w hv hw => ?_, fun v w hv hw => ?_⟩, a4, ?_, fun a b ha hb hag => ?_⟩
    · rw [ai_ne (by omega)]; exact a3.2.1 v w hv hw
    · rw [ai_ne (by omega)]; exact a3.2.2 v w hv hw
    · rw [← a5]; funext i; exact ai_ne (by omega)
    · rw [ai_ne (by omega)]; exact a6 a b ha hb hag
  have st0 : ST s := ⟨GF.rf x s, hS, hA, rfl, rfl, fun _ _ _ _ _ => rfl⟩
  -- the end
  have fin : ∀ t fd w D q x3 x4 x5 x6 x7, ST t → BI cl n N g fd w fd D q → BH t x N g fd D q → fx_W 3 169 [some (vR 13 (some (x + 3))), some (vI (nI g)), some (vI (nI (64 * g))), x3, x4, x5, x6, x7] [] t Q := by
    intro t fd w D q x3 x4 x5 x6 x7 hT hB hH
    obtain ⟨a1, a2, a3, a4, a5, a6⟩ := hT
    refine xx_j ee3_169 rfl trivial ?_
    refine xx_gr ee3_170 a2.counted rfl rfl ?_
    refine xx_j ee3_173 rfl trivial ?_
    refine xx_k ee3_174 1 rfl ?_
    refine xx_t fx_bit_t ?_
    refine xx_zs ee3_175 a2.lcnt (by omega) (by decide) ?_
    refine xx_rv ee3_176 ?_
    have hd := hB.done (by omega) hN hg
    refine k _ (a1.tr (GF.ai (by omega) (by omega))) a2 ⟨a3.1, fun v w hv hw => ?_, fun v w hv hw => ?_⟩ a4 (fun i hi => ?_) ai_same (fun a u ha hu hag => ?_) (fun u hu => ?_)
    · rw [ai_ne (by omega)]; exact a3.2.1 v w hv hw
    · rw [ai_ne (by omega)]; exact a3.2.2 v w hv hw
    · rw [ai_ne (by omega), a5]
    · rw [ai_ne (by omega)]; exact a6 a u ha hu hag
    · have e : fx_ai (fx_sai t (x + 7) g (fx_bit true)) (x + 6) (64 * g + u) = oI (D u) := by rw [ai_ne (by omega)]; exact hH.1 u hu
      unfold CD
      rw [e]
      cases hD : D u with
      | none => exact Or.inr ⟨rfl, (hd u hu).2 hD⟩
      | some d => exact Or.inl ⟨d, by have := ((hd u hu).1 d hD).1; omega, rfl, ((hd u hu).1 d hD).2⟩
  -- the nodes reached, one by one
  have outer : ∀ e t i fd D q x5 x6 x7, i + e = N → ST t → BI cl n N g i 0 fd D q → BH t x N g fd D q → fx_W 3 51 [some (vR 13 (some (x + 3))), some (vI (nI g)), some (vI (nI (64 * g))), some (vI (nI fd)), some (vI (nI i)), x5, x6, x7] [] t Q := by
    intro e
    induction e with
    | zero =>
      intro t i fd D q x5 x6 x7 hie hT hB hH
      have hfd := hB.fd
      have hif : i ≤ fd := hB.2.2.2.2.2.2.2.2.1
      refine xx_j ee3_51 rfl trivial ?_
      refine xx_j ee3_53 rfl trivial ?_
      refine xx_ge ee3_54 (by omega) (by omega) (fun h => ?_) (fun h => by omega)
      obtain rfl : i = fd := by omega
      exact fin t _ 0 D q _ _ _ _ _ hT hB hH
    | succ e ih =>
      intro t i fd D q x5 x6 x7 hie hT hB hH
      have hfd := hB.fd
      have hif : i ≤ fd := hB.2.2.2.2.2.2.2.2.1
      refine xx_j ee3_51 rfl trivial ?_
      refine xx_j ee3_53 rfl trivial ?_
      refine xx_ge ee3_54 (by omega) (by omega) (fun h => ?_) (fun hi => ?_)
      · obtain rfl : i = fd := by omega
        exact fin t _ 0 D q _ _ _ _ _ hT hB hH
      obtain ⟨hqi, d, hd, hdi⟩ := hB.1 i hi
      refine xx_j ee3_57 rfl trivial ?_
      refine xx_j ee3_59 rfl trivial ?_
      refine xx_gi ee3_60 hT.2.2.1.1 rfl rfl ?_
      refine xx_ge ee3_63 (by omega) (by omega) (fun h => by omega) (fun _ => ?_)
      refine xx_j ee3_66 rfl trivial ?_
      refine xx_gr ee3_67 hT.2.1.reached rfl rfl ?_
      refine xx_j ee3_70 rfl trivial ?_
      refine xx_al ee3_72 hT.2.1.lrea (by omega) (by decide) (hH.2 i hi) rfl ?_
      refine xx_j ee3_73 rfl trivial ?_
      refine xx_k ee3_75 0 rfl ?_
      refine xx_j ee3_76 rfl trivial ?_
      -- its ways
      have inner : ∀ c t w fd D x7, w + c = 4 → ∀ q', q' i = q i → D (q i) = some d → i < fd → fd ≤ N → ST t → BI cl n N g i w fd D q' → BH t x N g fd D q' → fx_W 3 78 [some (vR 13 (some (x + 3))), some (vI (nI g)), some (vI (nI (64 * g))), some (vI (nI fd)), some (vI (nI i)), some (vI (nI (q i))), some (vI (nI w)), x7] [] t Q := by
        intro c
        induction c with
        | zero =>
          intro t w fd D x7 hw q' hq' hd hi hfd hT hB hH
          refine xx_j ee3_78 rfl trivial ?_
          refine xx_k ee3_80 4 rfl ?_
          refine xx_ge ee3_81 (by omega) (by omega) (fun _ => ?_) (fun h => by omega)
          first | refine xx_inc ee3_163 rfl ?_ | refine xx_j ee3_163 rfl trivial ?_
          refine xx_j ee3_166 rfl trivial ?_
          have hw4 : w = 4 := by omega
          subst hw4
          exact ih t (i + 1) fd D q' _ _ _ (by omega) hT (hB.next hi) hH
        | succ c ihc =>
          intro t w fd D x7 hw q' hq' hd hi hfd hT hB hH
          have hnb : nb n (q i) w < N := by rw [hN]; exact nb_lt (by omega) (by rw [← hN]; exact hqi)
          have hskip : (cl (4 * q i + w) = true ∨ D (nb n (q i) w) ≠ none) → fx_W 3 157 [some (vR 13 (some (x + 3))), some (vI (nI g)), some (vI (nI (64 * g))), some (vI (nI fd)), some (vI (nI i)), some (vI (nI (q i))), some (vI (nI w)), some (vI (nI (nb n (q i) w)))] [] t Q := by
            intro hsk
            first | refine xx_inc ee3_157 rfl ?_ | refine xx_j ee3_157 rfl trivial ?_
            refine xx_j ee3_160 rfl trivial ?_
            exact ihc t (w + 1) fd D _ (by omega) q' hq' hd hi hfd hT (hB.skip hi (by rw [hq']; exact hsk) (by rw [hq']; exact hnb)) hH
          refine xx_j ee3_78 rfl trivial ?_
          refine xx_k ee3_80 4 rfl ?_
          refine xx_ge ee3_81 (by omega) (by omega) (fun h => by omega) (fun _ => ?_)
          refine xx_j ee3_84 rfl trivial ?_
          refine xx_gr ee3_85 hT.2.1.besides rfl rfl ?_
          refine xx_j ee3_88 rfl trivial ?_
          refine xx_k ee3_90 4 rfl ?_
          first | refine xx_mul ee3_91 ?_ | refine xx_j ee3_91 rfl trivial ?_
          refine xx_j ee3_92 rfl trivial ?_
          first | refine xx_add ee3_94 ?_ | refine xx_j ee3_94 rfl trivial ?_
          refine xx_al (x := nI (nb n (q i) w)) ee3_95 hT.2.1.lbes (j := q i * 4 + w) (by omega) (by decide) (by rw [Nat.mul_comm (q i) 4]; exact hT.2.2.1.2.1 (q i) w hqi (by omega)) rfl ?_
          refine xx_j ee3_96 rfl trivial ?_
          refine xx_j ee3_98 rfl trivial ?_
          refine xx_gr ee3_99 hT.2.1.opens rfl rfl ?_
          refine xx_j ee3_102 rfl trivial ?_
          refine xx_k ee3_104 4 rfl ?_
          first | refine xx_mul ee3_105 ?_ | refine xx_j ee3_105 rfl trivial ?_
          refine xx_j ee3_106 rfl trivial ?_
          first | refine xx_add ee3_108 ?_ | refine xx_j ee3_108 rfl trivial ?_
          refine xx_zl (x := fx_bit (!cl (4 * q i + w))) ee3_109 hT.2.1.lopen (j := q i * 4 + w) (by omega) (by decide) (by rw [Nat.mul_comm (q i) 4]; exact hT.2.2.1.2.2 (q i) w hqi (by omega)) ?_
          refine xx_z ee3_110 (fun h => hskip (Or.inl (by simpa using h))) (fun ho => ?_)
          have ho' : cl (4 * q i + w) = false := by simpa using ho
          refine xx_j ee3_113 rfl trivial ?_
          refine xx_gr ee3_114 hT.2.1.stepsTo rfl rfl ?_
          refine xx_j ee3_117 rfl trivial ?_
          refine xx_j ee3_118 rfl trivial ?_
          first | refine xx_add ee3_120 ?_ | refine xx_j ee3_120 rfl trivial ?_
          refine xx_al ee3_121 hT.2.1.lsteps (by omega) (by decide) (hH.1 _ hnb) rfl ?_
          refine xx_km ee3_122 rfl ?_
          refine xx_one ee3_123 (fun b hb => ?_) (fun b hb => hskip (Or.inr (by rw [hb]; exact fun z => by cases z))) (fun hD => ?_)
          · by_cases hu : D (nb n (q i) w) = none
            · rw [hu] at hb; cases hb
            · obtain ⟨j, j1, j2⟩ := hB.2.1 _ hnb hu
              obtain ⟨-, e', e1, e2⟩ := hB.1 j j1
              rw [j2, hb] at e1
              cases e1
              omega
          have hB' := hB.add hi (by omega) (by rw [hq']; exact ho') (by rw [hq']; exact hD) (by rw [hq']; exact hd) (by rw [hq']; exact hnb)
          rw [hq'] at hB'
          have hfd1 := hB'.fd
          refine xx_j ee3_126 rfl trivial ?_
          refine xx_gr ee3_127 hT.2.1.stepsTo rfl rfl ?_
          refine xx_j ee3_130 rfl trivial ?_
          refine xx_j ee3_131 rfl trivial ?_
          first | refine xx_add ee3_133 ?_ | refine xx_j ee3_133 rfl trivial ?_
          refine xx_j ee3_134 rfl trivial ?_
          refine xx_gr ee3_135 hT.2.1.stepsTo rfl rfl ?_
          refine xx_j ee3_138 rfl trivial ?_
          refine xx_j ee3_139 rfl trivial ?_
          first | refine xx_add ee3_141 ?_ | refine xx_j ee3_141 rfl trivial ?_
          refine xx_al ee3_142 hT.2.1.lsteps (by omega) (by decide) (hH.1 (q i) hqi) rfl ?_
          refine xx_t (show oI (D (q i)) = nI d by rw [hd]; rfl) ?_
          refine xx_k ee3_143 1 rfl ?_
          first | refine xx_add ee3_144 ?_ | refine xx_j ee3_144 rfl trivial ?_
          refine xx_as ee3_145 hT.2.1.lsteps (by omega) (by decide) ?_
          have hT2 := st6 t (nb n (q i) w) (nI (d + 1)) hT hnb
          refine xx_j ee3_146 rfl trivial ?_
          refine xx_gr ee3_147 hT2.2.1.reached rfl rfl ?_
          refine xx_j ee3_150 rfl trivial ?_
          refine xx_j ee3_151 rfl trivial ?_
          refine xx_as ee3_153 hT2.2.1.lrea (by omega) (by decide) ?_
          have hT3 := st8 _ fd (nI (nb n (q i) w)) hT2
          first | refine xx_inc ee3_154 rfl ?_ | refine xx_j ee3_154 rfl trivial ?_
          first | refine xx_inc ee3_157 rfl ?_ | refine xx_j ee3_157 rfl trivial ?_
          refine xx_j ee3_160 rfl trivial ?_
          have hne : q i ≠ nb n (q i) w := fun z => by rw [← z, hd] at hD; cases hD
          refine ihc _ (w + 1) (fd + 1) (fn_up D (nb n (q i) w) (some (d + 1))) _ (by omega) (fn_up q' fd (nb n (q i) w)) (by rw [fn_ne (by omega)]; exact hq') (by rw [fn_ne hne]; exact hd) (by omega) hB'.fd hT3 hB' ⟨fun u hu => ?_, fun j hj => ?_⟩
          · rw [ai_ne (by omega)]
            by_cases hu2 : u = nb n (q i) w
            · rw [hu2, ai_same, fn_same]; rfl
            · rw [ai_ne (by omega), fn_ne hu2]; exact hH.1 u hu
          · by_cases hj2 : j = fd
            · rw [hj2, ai_same, fn_same]
            · rw [ai_ne (by omega), ai_ne (by omega), fn_ne hj2]; exact hH.2 j (by omega)
      exact inner 4 t 0 fd D _ (by omega) q rfl hd hi hfd hT hB hH
  -- the row is emptied
  refine xx_j ee3_0 rfl trivial ?_
  refine xx_kb ee3_1 64 rfl ?_
  first | refine xx_mul ee3_3 ?_ | refine xx_j ee3_3 rfl trivial ?_
  refine xx_j ee3_4 rfl trivial ?_
  refine xx_k ee3_5 0 rfl ?_
  refine xx_j ee3_6 rfl trivial ?_
  have emp : ∀ e t j x4 x5 x6 x7, j + e = N → ST t → (∀ u, u < j → fx_ai t (x + 6) (64 * g + u) = fx_neg) → fx_W 3 7 [some (vR 13 (some (x + 3))), some (vI (nI g)), some (vI (nI (64 * g))), some (vI (nI j)), x4, x5, x6, x7] [] t Q := by
    intro e
    induction e with
    | zero =>
      intro t j x4 x5 x6 x7 hj hT hu0
      refine xx_j ee3_7 rfl trivial ?_
      refine xx_j ee3_8 rfl trivial ?_
      refine xx_gi ee3_9 hT.2.2.1.1 rfl rfl ?_
      refine xx_ge ee3_12 (by omega) (by omega) (fun _ => ?_) (fun h => by omega)
      refine xx_j ee3_30 rfl trivial ?_
      refine xx_gr ee3_31 hT.2.1.stepsTo rfl rfl ?_
      refine xx_j ee3_34 rfl trivial ?_
      refine xx_j ee3_35 rfl trivial ?_
      first | refine xx_add ee3_36 ?_ | refine xx_j ee3_36 rfl trivial ?_
      refine xx_k ee3_37 0 rfl ?_
      refine xx_as ee3_38 hT.2.1.lsteps (by omega) (by decide) ?_
      have hT2 := st6 t g (nI 0) hT hg
      refine xx_j ee3_39 rfl trivial ?_
      refine xx_gr ee3_40 hT2.2.1.reached rfl rfl ?_
      refine xx_k ee3_43 0 rfl ?_
      refine xx_j ee3_44 rfl trivial ?_
      refine xx_as ee3_45 hT2.2.1.lrea (by omega) (by decide) ?_
      have hT3 := st8 _ 0 (nI g) hT2
      refine xx_k ee3_46 1 rfl ?_
      refine xx_j ee3_47 rfl trivial ?_
      refine xx_k ee3_48 0 rfl ?_
      refine xx_j ee3_49 rfl trivial ?_
      refine outer N _ 0 1 (fn_up (fun _ => none) g (some 0)) (fun _ => g) _ _ _ (by omega) hT3 ⟨fun j hj => ⟨hg, 0, fn_same, by omega⟩, fun u hu hun => ⟨0, by omega, ?_⟩, fun j k hj hk _ => by omega, fun j k d e' _ _ h1 h2 => ?_, fun j d e' _ _ h1 h2 => ?_, fun u d hu h1 => ?_, fun j y d hj hy hjw => by omega, fn_same, by omega, by omega⟩ ⟨fun u hu => ?_, fun j hj => ?_⟩
      · by_cases c : u = g
        · exact c.symm
        · rw [fn_ne c] at hun; exact absurd rfl hun
      · rw [fn_same] at h1 h2; cases h1; cases h2; omega
      · rw [fn_same] at h1 h2; cases h1; cases h2; omega
      · by_cases c : u = g
        · rw [c, fn_same] at h1; cases h1; exact c
        · rw [fn_ne c] at h1; cases h1
      · rw [ai_ne (by omega)]
        by_cases c : u = g
        · rw [c, ai_same, fn_same]; rfl
        · rw [ai_ne (by omega), fn_ne c]; exact hu0 u (by omega)
      · rw [show j = 0 by omega, ai_same]
    | succ e ih =>
      intro t j x4 x5 x6 x7 hj hT hu
      refine xx_j ee3_7 rfl trivial ?_
      refine xx_j ee3_8 rfl trivial ?_
      refine xx_gi ee3_9 hT.2.2.1.1 rfl rfl ?_
      refine xx_ge ee3_12 (by omega) (by omega) (fun h => by omega) (fun _ => ?_)
      refine xx_j ee3_15 rfl trivial ?_
      refine xx_gr ee3_16 hT.2.1.stepsTo rfl rfl ?_
      refine xx_j ee3_19 rfl trivial ?_
      refine xx_j ee3_20 rfl trivial ?_
      first | refine xx_add ee3_21 ?_ | refine xx_j ee3_21 rfl trivial ?_
      refine xx_km ee3_22 rfl ?_
      refine xx_as ee3_23 hT.2.1.lsteps (by omega) (by decide) ?_
      first | refine xx_inc ee3_24 rfl ?_ | refine xx_j ee3_24 rfl trivial ?_
      refine xx_j ee3_27 rfl trivial ?_
      refine ih _ (j + 1) _ _ _ _ (by omega) (st6 t j _ hT (by omega)) (fun u hu2 => ?_)
      by_cases c : u = j
      · rw [c, ai_same]
      · rw [ai_ne (by omega)]; exact hu u (by omega)
  rw [Nat.mul_comm g 64]
  exact emp N s 0 _ _ _ _ (by omega) st0 (fun u hu => by omega)
end
