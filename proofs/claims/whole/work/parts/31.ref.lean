/-! THE REFERENCE'S HEAP: its int fields and arrays are one function gM: field, place -> int -/
abbrev rf_M : Type := Nat → Nat → Int32
/-- lengths of the reference's arrays (0: a field of its own) -/
def rf_lenL : List Nat := [0, 0, 0, 0, 0, 0, 0, 256, 4096, 0, 0, 300, 300, 300, 300, 300, 300, 300, 300, 64, 256, 256, 256, 512, 512, 512, 512, 512, 512, 64, 512, 256, 256, 256, 64, 32768, 64, 256, 256, 256, 256, 192, 0, 1100, 1100, 1100, 64, 64, 0, 0, 0]
def rf_len (f : Nat) : Nat := bif Nat.ble 768 f then rf_lenL.getD (f - 768) 0 else 0
def rf_int (f : Nat) : Bool := Nat.ble 768 f && Nat.blt f 819 && (rf_len f == 0)
def rf_ok (s : fx_S) (o : Nat) (A : Nat → Nat) (M : rf_M) : Prop :=
  (∀ f, rf_len f ≠ 0 → fx_fr s f o = some (A f) ∧ fx_ln s (A f) = rf_len f ∧ ∀ i, i < rf_len f → fx_ai s (A f) i = M f i) ∧
  (∀ f, rf_int f = true → fx_fi s f o = M f 0) ∧ (∀ f g, rf_len f ≠ 0 → rf_len g ≠ 0 → A f = A g → f = g)
/-- the rest of the heap is as it was -/
def rf_fr (o : Nat) (A : Nat → Nat) (s t : fx_S) : Prop :=
  fx_kd t = fx_kd s ∧ fx_fr t = fx_fr s ∧ fx_ln t = fx_ln s ∧ fx_ar t = fx_ar s ∧ fx_al t = fx_al s ∧ fx_nx t = fx_nx s ∧ fx_sl t = fx_sl s ∧
  (∀ f a, (f < 768 ∨ a ≠ o) → fx_fi t f a = fx_fi s f a) ∧ ∀ a, (∀ f, rf_len f ≠ 0 → a ≠ A f) → fx_ai t a = fx_ai s a
theorem rf_fr.rf (o : Nat) (A : Nat → Nat) (s : fx_S) : rf_fr o A s s := ⟨rfl, rfl, rfl, rfl, rfl, rfl, rfl, fun _ _ _ => rfl, fun _ _ => rfl⟩
theorem rf_fr.tr {o : Nat} {A : Nat → Nat} {s t u : fx_S} (h : rf_fr o A s t) (g : rf_fr o A t u) : rf_fr o A s u := by
  obtain ⟨h1, h2, h3, h4, h5, h6, h7, h8, h9⟩ := h
  obtain ⟨g1, g2, g3, g4, g5, g6, g7, g8, g9⟩ := g
  exact ⟨g1.trans h1, g2.trans h2, g3.trans h3, g4.trans h4, g5.trans h5, g6.trans h6, g7.trans h7, fun f a q => (g8 f a q).trans (h8 f a q), fun a q => (g9 a q).trans (h9 a q)⟩
theorem rf_len_in {f : Nat} (h : rf_len f ≠ 0) : rf_int f = false := by
  unfold rf_int
  have : (rf_len f == 0) = false := by simpa using h
  rw [this, Bool.and_false]
theorem rf_ok.arr {s : fx_S} {o f j : Nat} {A : Nat → Nat} {M : rf_M} {x : Int32} (h : rf_ok s o A M) (hf : rf_len f ≠ 0) : rf_ok (fx_sai s (A f) j x) o A (fx_up M f j x) ∧ rf_fr o A s (fx_sai s (A f) j x) := by
  obtain ⟨h1, h2, h3⟩ := h
  refine ⟨⟨fun g hg => ⟨(h1 g hg).1, (h1 g hg).2.1, fun i hi => ?_⟩, fun g hg => ?_, h3⟩, rfl, rfl, rfl, rfl, rfl, rfl, rfl, fun _ _ _ => rfl, fun a ha => ?_⟩
  · show fx_up (fx_ai s) (A f) j x (A g) i = fx_up M f j x g i
    by_cases e : g = f ∧ i = j
    · obtain ⟨e1, e2⟩ := e
      subst e1; subst e2
      rw [fx_up_same, fx_up_same]
    · rw [fx_up_ne e, fx_up_ne (fun q => e ⟨h3 g f hg hf q.1, q.2⟩)]
      exact (h1 g hg).2.2 i hi
  · have : fx_up M f j x g 0 = M g 0 := fx_up_ne (fun q => by rw [q.1, rf_len_in hf] at hg; cases hg)
    rw [this]
    exact h2 g hg
  · exact fx_up_off _ (ha f hf)
theorem rf_ok.fld {s : fx_S} {o f : Nat} {A : Nat → Nat} {M : rf_M} {x : Int32} (h : rf_ok s o A M) (hf : rf_int f = true) : rf_ok (fx_sfi s f o x) o A (fx_up M f 0 x) ∧ rf_fr o A s (fx_sfi s f o x) := by
  obtain ⟨h1, h2, h3⟩ := h
  have hne : ∀ g, rf_len g ≠ 0 → g ≠ f := fun g hg q => by rw [← q, rf_len_in hg] at hf; cases hf
  refine ⟨⟨fun g hg => ⟨(h1 g hg).1, (h1 g hg).2.1, fun i hi => ?_⟩, fun g hg => ?_, h3⟩, rfl, rfl, rfl, rfl, rfl, rfl, rfl, fun g a ha => ?_, fun _ _ => rfl⟩
  · rw [fx_up_ne (fun q => hne g hg q.1)]
    exact (h1 g hg).2.2 i hi
  · show fx_up (fx_fi s) f o x g o = _
    by_cases e : g = f
    · subst e
      rw [fx_up_same, fx_up_same]
    · rw [fx_up_ne (fun q => e q.1), fx_up_ne (fun q => e q.1)]
      exact h2 g hg
  · refine fx_up_ne (fun q => ?_)
    have : 768 ≤ f := by
      unfold rf_int at hf
      simp only [Bool.and_eq_true, Nat.ble_eq] at hf
      exact hf.1.1
    rcases ha with h | h
    · omega
    · exact h q.2
section
variable {mi pc np r1 r2 f t idx o j : Nat} {A : Nat → Nat} {M : rf_M} {ls : fx_L} {st : List fx_V} {s : fx_S} {Q : fx_Q} {x : Int32}
theorem rr_fi (hR : rf_ok s o A M) (ht : fx_tab mi pc = some (.getfield idx, np, f, t)) (hf : rf_int f = true) (h2 : Nat.ble t 1 = true) (hc : (22 == 10 + f / 64) = true) (k : fx_W mi np ls (.inl (M f 0) :: st) s Q) : fx_W mi pc ls (.inr (.inl (22, some o)) :: st) s Q := xx_gi ht (hR.2.1 f hf) hc h2 k
theorem rr_fa (hR : rf_ok s o A M) (ht : fx_tab mi pc = some (.getfield idx, np, f, t)) (hf : rf_len f ≠ 0) (h2 : Nat.ble t 1 = false) (hc : (22 == 10 + f / 64) = true) (k : fx_W mi np ls (.inr (.inl (t, some (A f))) :: st) s Q) : fx_W mi pc ls (.inr (.inl (22, some o)) :: st) s Q := xx_gr ht (hR.1 f hf).1 hc h2 k
theorem rf_len_lt (f : Nat) : rf_len f < 2 ^ 31 := by
  unfold rf_len
  cases Nat.ble 768 f
  · rw [cond_false]; omega
  · rw [cond_true]
    have h : ∀ q ∈ rf_lenL, q < 2 ^ 31 := by decide
    rw [List.getD_eq_getElem?_getD]
    cases hq : rf_lenL[f - 768]? with
    | none => simp
    | some v => simpa using h v (List.mem_of_getElem? hq)
theorem rr_al (n : Nat) (hR : rf_ok s o A M) (ht : fx_tab mi pc = some (.iaload, np, r1, r2)) (hn : rf_len f = n) (hj : j < n) (k : fx_W mi np ls (.inl (M f j) :: st) s Q) : fx_W mi pc ls (.inl (nI j) :: .inr (.inl (70, some (A f))) :: st) s Q := by
  subst hn
  obtain ⟨-, h2, h3⟩ := hR.1 f (by omega)
  exact xx_al ht h2 hj (rf_len_lt f) (h3 j hj) rfl k
theorem rr_zl (n : Nat) (hR : rf_ok s o A M) (ht : fx_tab mi pc = some (.baload, np, r1, r2)) (hn : rf_len f = n) (hj : j < n) (k : fx_W mi np ls (.inl (M f j) :: st) s Q) : fx_W mi pc ls (.inl (nI j) :: .inr (.inl (71, some (A f))) :: st) s Q := by
  subst hn
  obtain ⟨-, h2, h3⟩ := hR.1 f (by omega)
  exact xx_zl ht h2 hj (rf_len_lt f) (h3 j hj) k
theorem rr_as {s0 : fx_S} (n : Nat) (hR : rf_ok s o A M) (hF : rf_fr o A s0 s) (ht : fx_tab mi pc = some (.iastore, np, r1, r2)) (hn : rf_len f = n) (hj : j < n) (k : ∀ s', rf_ok s' o A (fx_up M f j x) → rf_fr o A s0 s' → fx_W mi np ls st s' Q) : fx_W mi pc ls (.inl x :: .inl (nI j) :: .inr (.inl (70, some (A f))) :: st) s Q := by
  subst hn
  obtain ⟨-, h2, h3⟩ := hR.1 f (by omega)
  obtain ⟨g1, g2⟩ := hR.arr (f := f) (j := j) (x := x) (by omega)
  exact xx_as ht h2 hj (rf_len_lt f) (k _ g1 (hF.tr g2))
theorem rr_zs {s0 : fx_S} {p : Bool} (n : Nat) (hR : rf_ok s o A M) (hF : rf_fr o A s0 s) (ht : fx_tab mi pc = some (.bastore, np, r1, r2)) (hn : rf_len f = n) (hj : j < n) (k : ∀ s', rf_ok s' o A (fx_up M f j (fx_bit p)) → rf_fr o A s0 s' → fx_W mi np ls st s' Q) : fx_W mi pc ls (.inl (fx_bit p) :: .inl (nI j) :: .inr (.inl (71, some (A f))) :: st) s Q := by
  subst hn
  obtain ⟨-, h2, h3⟩ := hR.1 f (by omega)
  obtain ⟨g1, g2⟩ := hR.arr (f := f) (j := j) (x := fx_bit p) (by omega)
  exact xx_zs ht h2 hj (rf_len_lt f) (k _ g1 (hF.tr g2))
theorem rr_pf {s0 : fx_S} (hR : rf_ok s o A M) (hF : rf_fr o A s0 s) (ht : fx_tab mi pc = some (.putfield idx, np, f, 0)) (hf : rf_int f = true) (hc : (22 == 10 + f / 64) = true) (k : ∀ s', rf_ok s' o A (fx_up M f 0 x) → rf_fr o A s0 s' → fx_W mi np ls st s' Q) : fx_W mi pc ls (.inl x :: .inr (.inl (22, some o)) :: st) s Q := by
  obtain ⟨g1, g2⟩ := hR.fld (f := f) (x := x) hf
  exact xx_j (C := 0 = 1 → x = 0 ∨ x = 1) (s' := fx_sfi s f o x) ht (by simp only [fx_act, hc, Bool.true_and]; rfl) (fun q => absurd q (by decide)) (k _ g1 (hF.tr g2))
/-- a changed view of the same cells -/
theorem rf_ok.to {M' : rf_M} (h : rf_ok s o A M) (h1 : ∀ f i, rf_len f ≠ 0 → i < rf_len f → M f i = M' f i) (h2 : ∀ f, rf_int f = true → M f 0 = M' f 0) : rf_ok s o A M' :=
  ⟨fun f hf => ⟨(h.1 f hf).1, (h.1 f hf).2.1, fun i hi => ((h.1 f hf).2.2 i hi).trans (h1 f i hf hi)⟩, fun f hf => (h.2.1 f hf).trans (h2 f hf), h.2.2⟩
end
