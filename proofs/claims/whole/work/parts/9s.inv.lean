/-! THE INVARIANTS over every call -/
section
variable {M M' N : rf_M} {c : Nat}
theorem JC.to (h : JC M c) (ho : ∀ f i, f = 773 ∨ 814 ≤ f → M' f i = M f i) : JC M' (c + 1) := by
  obtain ⟨h1, h2, h3, h4, h5, h6⟩ := h
  refine ⟨?_, fun v hv => ?_, fun v hv => ?_, ?_, ?_, ?_⟩
  · rw [rn_eq (ho ff_Mod_cycle 0 (by decide))]; omega
  · rw [rn_eq (ho ff_Mod_hungry v (by decide))]; have := h2 v hv; omega
  · rw [rn_eq (ho ff_Mod_went v (by decide))]; have := h3 v hv; omega
  · rw [rn_eq (ho ff_Mod_deflected 0 (by decide))]; omega
  · rw [rn_eq (ho ff_Mod_received 0 (by decide))]; omega
  · rw [rn_eq (ho ff_Mod_lost 0 (by decide))]; omega
theorem JN.to2 (h : JN M) (ho : ∀ f i, f = 769 ∨ f = 770 ∨ f = 775 ∨ f = 776 ∨ f = 777 → M' f i = M f i) : JN M' := h.to (fun i => ho _ i (by decide)) (fun i => ho _ i (by decide)) (fun i => ho _ i (by decide)) (fun i => ho _ i (by decide)) (fun i => ho _ i (by decide))
/-- thrown -/
theorem JI.thr {y : Int32} (h : JI M) (hI : RI (fx_up M ff_Mod_thrown 0 y)) : JI (fx_up M ff_Mod_thrown 0 y) := ⟨⟨hI, h.1.net, h.1.j2, h.1.j3, h.1.j4, h.1.j5, h.1.j6, h.1.j7, h.1.j8, h.1.j8u, h.1.j9, h.1.j9u, h.1.j10, h.1.j10u, h.1.j11, h.1.j11u, h.1.j13, h.1.j14⟩, h.2⟩
theorem JI.th {k : Nat} (h : JI M) : JI (om_th M k) := h.thr (h.1.ri.raw rfl (by decide) (by decide))
theorem JN.th {k : Nat} (h : JN M) : JN (om_th M k) := h.to2 (fun f i hf => by
  unfold om_th
  exact fx_up_ne (fun q => by have : ff_Mod_thrown = 768 := rfl; omega))
theorem JC.th {k : Nat} (h : JC M c) : JC (om_th M k) (c + 1) := h.to (fun f i hf => by
  unfold om_th
  exact fx_up_ne (fun q => by have : ff_Mod_thrown = 768 := rfl; omega))
theorem t0_th : om_t0 M = om_th M 0 := rfl
theorem JI.put {a d e : Nat} {t : Int32} (h : JI M) (ha : a < (rn M ff_Mod_all 0)) (hd : d < (rn M ff_Mod_all 0)) (hne : a ≠ d) (he1 : 1 ≤ e) (he8 : e ≤ 8) (hw : rn M ff_Mod_waits a < 4) : JI (om_put M a (nI d) (nI e) t) := by
  have h64 := h.1.all64
  refine ⟨⟨?_, h.1.net, h.1.j2, h.1.j3, h.1.j4, h.1.j5, h.1.j6, h.1.j7, h.1.j8, h.1.j8u, h.1.j9, h.1.j9u, h.1.j10, h.1.j10u, h.1.j11, h.1.j11u, ?_, h.1.j14⟩, h.2⟩
  · exact (((h.1.ri.up (b := 64) rfl (by omega) (by decide) (by decide)).up (b := 9) rfl (by omega) (by decide) (by decide)).raw rfl (by decide) (by decide)).up (b := 5) rfl (by omega) (by decide) (by decide)
  · intro v i hv hi
    have eA : (rn (om_put M a (nI d) (nI e) t) ff_Mod_all 0) = (rn M ff_Mod_all 0) := by
      unfold om_put
      rw [rn_pe (by decide), rn_pe (by decide), rn_pe (by decide), rn_pe (by decide)]
    have eW : rn (om_put M a (nI d) (nI e) t) ff_Mod_waits v = if v = a then rn M ff_Mod_waits a + 1 else rn M ff_Mod_waits v := by
      unfold om_put
      by_cases q : v = a
      · rw [if_pos q, q, rn_same (by omega)]
      · rw [if_neg q, rn_ne (by omega), rn_pe (by decide), rn_pe (by decide), rn_pe (by decide)]
    have eG : ∀ j, rn (om_put M a (nI d) (nI e) t) ff_Mod_waitGoal j = if j = 4 * a + rn M ff_Mod_waits a then d else rn M ff_Mod_waitGoal j := by
      intro j
      unfold om_put
      rw [rn_pe (by decide), rn_pe (by decide), rn_pe (by decide)]
      by_cases q : j = 4 * a + rn M ff_Mod_waits a
      · rw [if_pos q, q, rn_same (by omega)]
      · rw [if_neg q, rn_ne (fun z => q z.2)]
    have eL : ∀ j, rn (om_put M a (nI d) (nI e) t) ff_Mod_waitLength j = if j = 4 * a + rn M ff_Mod_waits a then e else rn M ff_Mod_waitLength j := by
      intro j
      unfold om_put
      rw [rn_pe (by decide), rn_pe (by decide)]
      by_cases q : j = 4 * a + rn M ff_Mod_waits a
      · rw [if_pos q, q, rn_same (by omega)]
      · rw [if_neg q, rn_ne (fun z => q z.2), rn_pe (by decide)]
    rw [eA] at hv
    rw [eW] at hi
    rw [eA, eG, eL]
    have hw5 : rn M ff_Mod_waits v < 5 := h.1.ri.wNl (by omega)
    by_cases q : 4 * v + i = 4 * a + rn M ff_Mod_waits a
    · have hva : v = a := by
        by_cases z : v = a
        · exact z
        · rw [if_neg z] at hi; omega
      rw [if_pos q, if_pos q]
      exact ⟨hd, by omega, he1⟩
    · rw [if_neg q, if_neg q]
      refine h.1.j13 v i hv ?_
      by_cases z : v = a
      · rw [if_pos z] at hi; rw [z] at q ⊢; omega
      · rw [if_neg z] at hi; exact hi
theorem put_o {a f i : Nat} {d e t : Int32} (h : f < 787 ∨ 790 < f) : om_put M a d e t f i = M f i := by
  have h1 : ff_Mod_waits = 787 := rfl
  have h2 : ff_Mod_waitGoal = 788 := rfl
  have h3 : ff_Mod_waitLength = 789 := rfl
  have h4 : ff_Mod_waitTag = 790 := rfl
  unfold om_put
  rw [fx_up_ne (fun q => by omega), fx_up_ne (fun q => by omega), fx_up_ne (fun q => by omega), fx_up_ne (fun q => by omega)]
/-- put keeps all -/
theorem put_ok {v g l t : Int32} (h : JI M) (hN : JN M) (hC : JC M c) (hs : sput M v g l = true) : JI (om_put M v.toNatClampNeg g l t) ∧ JN (om_put M v.toNatClampNeg g l t) ∧ JC (om_put M v.toNatClampNeg g l t) (c + 1) := by
  have h64 := h.1.all64
  refine ⟨?_, hN.to2 (fun f i hf => put_o (by omega)), hC.to (fun f i hf => put_o (by omega))⟩
  unfold sput at hs
  simp only [Bool.and_eq_true] at hs
  obtain ⟨⟨⟨⟨s1, s2⟩, s3⟩, s4, s5⟩, s6⟩ := hs
  obtain ⟨a, ea, ha⟩ := fx_isN_nI h64 s1
  obtain ⟨d, ed, hd⟩ := fx_isN_nI h64 s2
  have one : nI 1 = (1 : Int32) := by decide
  have eight : nI 8 = (8 : Int32) := by decide
  obtain ⟨e, ee, he1, he8⟩ := fx_within_nI (w := l) (a := 1) (b := 8) (by omega) (by omega) (by rw [one, eight, s4, s5]; rfl)
  subst ea
  subst ed
  subst ee
  have hc : (nI a).toNatClampNeg = a := nI_clamp (by omega)
  rw [hc] at s6 ⊢
  have hw5 : rn M ff_Mod_waits a < 5 := h.1.ri.wNl (by omega)
  have hw4 : rn M ff_Mod_waits a ≠ 4 := by
    intro q
    rw [q] at s6
    exact absurd s6 (by decide)
  refine h.put ha hd (fun q => ?_) he1 he8 (by omega)
  rw [q] at s3
  simp at s3
/-- take keeps all -/
theorem fin_o {v k f i : Nat} (h : f < 799 ∨ 814 ≤ f) : om_fin M v k f i = M f i := by
  unfold om_fin
  by_cases q : 0 < rn M ff_Mod_rowSize v
  · rw [if_pos q, fill_o h, ready_o h]
  · rw [if_neg q, ready_o h]
theorem tak_ok {v : Nat} (h : JI M) (hN : JN M) (hC : JC M c) (hv : v < (rn M ff_Mod_all 0)) (hy : 0 < rn M ff_Mod_readySize v) : JI (om_settle (om_take M v) v) ∧ JN (om_settle (om_take M v) v) ∧ JC (om_settle (om_take M v) v) (c + 1) := by
  obtain ⟨h1, h2⟩ := h.take hv hy
  have o : ∀ f i, (f < 799 ∨ 814 ≤ f) → om_settle (om_take M v) v f i = M f i := by
    intro f i hf
    rw [h2]
    cases sp_first (pfull (om_take M v)) (4 * v) 4 with
    | none => exact take_o (by omega)
    | some k => exact (fin_o hf).trans (take_o (by omega))
  exact ⟨h1, hN.to2 (fun f i hf => o f i (by omega)), hC.to (fun f i hf => o f i (by omega))⟩
/-- an open net is joined -/
def wk0 (n a : Nat) : Nat → Nat
  | 0 => a
  | i + 1 => nb n (wk0 n a i) 0
def wk2 (n a : Nat) : Nat → Nat
  | 0 => a
  | i + 1 => nb n (wk2 n a i) 2
set_option maxRecDepth 100000 in
theorem wk_all : ∀ n, n < 9 → 2 ≤ n → ∀ a, a < n * n → ∀ b, b < n * n → wk2 n (wk0 n a ((b % n + n - a % n) % n)) ((b / n + n - a / n) % n) = b := by decide +kernel
theorem open_co {cl : Nat → Bool} {n : Nat} (hn2 : 2 ≤ n) (hn9 : n < 9) (ho : ∀ i, i < 256 → cl i = false) : CO cl n (n * n) := by
  intro a b ha hb
  have h64 : n * n ≤ 8 * 8 := Nat.mul_le_mul (by omega) (by omega)
  have l0 : ∀ i, wk0 n a i < n * n := by
    intro i
    induction i with
    | zero => exact ha
    | succ i ih => exact nb_lt (by omega) ih
  have w0 : ∀ i, WK cl n a i (wk0 n a i) := by
    intro i
    induction i with
    | zero => exact rfl
    | succ i ih => exact ⟨wk0 n a i, 0, ih, by omega, ho _ (by have := l0 i; omega), rfl⟩
  have l2 : ∀ i j, wk2 n (wk0 n a i) j < n * n := by
    intro i j
    induction j with
    | zero => exact l0 i
    | succ j ih => exact nb_lt (by omega) ih
  have w2 : ∀ i j, WK cl n a (i + j) (wk2 n (wk0 n a i) j) := by
    intro i j
    induction j with
    | zero => exact w0 i
    | succ j ih => exact ⟨wk2 n (wk0 n a i) j, 2, ih, by omega, ho _ (by have := l2 i j; omega), rfl⟩
  refine ⟨(b % n + n - a % n) % n + (b / n + n - a / n) % n, ?_⟩
  have := w2 ((b % n + n - a % n) % n) ((b / n + n - a / n) % n)
  rw [wk_all n hn9 hn2 a ha b hb] at this
  exact this
/-- reset keeps all -/
theorem JI.zero {a b d : Nat} (hI : RI M) (z : ZR M a b d) (ha2 : 2 ≤ a) (ha8 : a ≤ 8) : JI M := by
  obtain ⟨⟨z1, z2, z3, z4, z5⟩, en, eA, _, _, _, _, _, _, _, eno, ecl⟩ := z
  have hA : a * a ≤ 64 := Nat.mul_le_mul ha8 ha8
  have f0 : (rn M ff_Mod_flits 0) = 0 := rn_of z5 (by omega)
  have n0 : (rn M ff_Mod_notes 0) = 0 := rn_of eno (by omega)
  have n1 : rn M ff_Mod_n 0 = a := rn_of en (by omega)
  have A1 : (rn M ff_Mod_all 0) = a * a := rn_of eA (by omega)
  have r0 : ∀ f v, f ∈ rs_six → v < 64 → rn M f v = 0 := fun f v hf hv => rn_of (z1 f v hf hv) (by omega)
  have l0 : ∀ p, p < 512 → rn M ff_Mod_lengths p = 0 := fun p hp => rn_of (z2 p hp) (by omega)
  have w0 : ∀ i, i < 256 → oz (M ff_Mod_whose i) = none := fun i hi => by rw [z3 i hi]; exact oz_neg
  have rN0 : ∀ v, v < (rn M ff_Mod_all 0) → rn M ff_Mod_rowSize v = 0 := fun v hv => r0 _ _ (by decide) (by omega)
  have aN0 : ∀ v, v < (rn M ff_Mod_all 0) → rn M ff_Mod_agains v = 0 := fun v hv => r0 _ _ (by decide) (by omega)
  have wN0 : ∀ v, v < (rn M ff_Mod_all 0) → rn M ff_Mod_waits v = 0 := fun v hv => r0 _ _ (by decide) (by omega)
  refine ⟨⟨hI, ⟨by rw [n1]; exact ha2, by rw [A1, n1], fun f hf => by omega⟩, fun f hf => by omega, fun f g hf => by omega, fun f g hf => by omega, fun v hv => ?_, fun p hp lp => by rw [l0 p hp] at lp; omega, fun p q hp hq _ hs => ?_, fun k p hk hp => (by rw [w0 k hk] at hp; cases hp), fun k k' p hk hk' hp => (by rw [w0 k hk] at hp; cases hp), fun v i hv hi => by rw [rN0 v hv] at hi; omega, fun v i j hv hi => by rw [rN0 v hv] at hi; omega, fun k hk => ?_, fun k k' hk => ?_, fun v i hv hi => by rw [aN0 v hv] at hi; omega, fun v i j hv hi => by rw [aN0 v hv] at hi; omega, fun v i hv hi => by rw [wN0 v hv] at hi; omega, fun _ i hi => ?_⟩, fun v hv => ⟨fun _ k k1 k2 _ => ?_, fun q => by rw [rN0 v hv] at q; omega⟩⟩
  · rw [f0]; exact Nat.zero_le _
  · unfold suw at hs
    rw [l0 p hp] at hs
    exact absurd hs (by simp)
  · dsimp only at hk
    omega
  · dsimp only at hk
    omega
  · unfold rz
    rw [rn_of (x := 0) (ecl i hi) (by omega)]; rfl
  · unfold pfull
    rw [w0 k (by omega)]
theorem JC.zero {a b d : Nat} (z : ZR M a b d) : JC M c := by
  obtain ⟨⟨z1, z2, z3, z4, z5⟩, _, _, _, _, e1, _, e2, e3, e4, _, _⟩ := z
  have r0 : ∀ f v, f ∈ rs_six → v < 64 → rn M f v = 0 := fun f v hf hv => rn_of (z1 f v hf hv) (by omega)
  refine ⟨?_, fun v hv => ?_, fun v hv => ?_, ?_, ?_, ?_⟩
  · rw [rn_of e1 (by omega)]; omega
  · rw [r0 _ _ (by decide) hv]; omega
  · rw [r0 _ _ (by decide) hv]; omega
  · rw [rn_of e2 (by omega)]; omega
  · rw [rn_of e3 (by omega)]; omega
  · rw [rn_of e4 (by omega)]; omega
theorem rst_ok {a b d : Nat} {j : Bool} (h : MS (om_rst M a b d) M' j) (ha2 : 2 ≤ a) (ha8 : a ≤ 8) : ZR M' a b d ∧ JI M' ∧ JN M' ∧ ∀ c, JC M' c := by
  have z := ZR.rst h
  have hA : a * a ≤ 64 := Nat.mul_le_mul ha8 ha8
  have sx := h.1
  have n1 : rn (om_rst M a b d) ff_Mod_n 0 = a := rn_of ((sx ff_Mod_n 0 (by decide) (by decide)).symm.trans z.2.1) (by omega)
  have A1 : (rn (om_rst M a b d) ff_Mod_all 0) = a * a := rn_of ((sx ff_Mod_all 0 (by decide) (by decide)).symm.trans z.2.2.1) (by omega)
  have c1 : ∀ i, i < 256 → rz (om_rst M a b d) ff_Mod_closed i = false := fun i hi => by
    unfold rz
    rw [rn_of (x := 0) ((sx ff_Mod_closed i (by decide) (by decide)).symm.trans (z.2.2.2.2.2.2.2.2.2.2.2 i hi)) (by omega)]; rfl
  have hC : CO (rz (om_rst M a b d) ff_Mod_closed) (rn (om_rst M a b d) ff_Mod_n 0) ((rn (om_rst M a b d) ff_Mod_all 0)) := by
    rw [n1, A1]; exact open_co ha2 (by omega) c1
  have hj := h.joined (by rw [n1]; exact ha2) (by rw [n1]; omega) (by rw [n1, A1]) hC
  refine ⟨z, JI.zero h.2.1 z ha2 ha8, h.jn (fun v w hv hw => ?_) hj, fun c => JC.zero z⟩
  rw [A1] at hv
  rw [n1]
  have h1 : nb a v w < a * a := nb_lt (by omega) hv
  have h2 := wb_lt hw
  rw [c1 _ (by omega), c1 _ (by omega)]
end
