/-! RANGES are kept by in-range stores -/
theorem rb.same {M M' : rf_M} {g i b : Nat} (h : rb M g i b) (e : M' g i = M g i) : rb M' g i b := by
  unfold rb rn at *
  rw [e]
  exact h
theorem RI.st {M : rf_M} {f j : Nat} {x : Int32} (h : RI M) (h1 : ri_b f ≠ 0 → ∃ k, x = nI k ∧ k < ri_b f) (h2 : f = ff_Mod_whose → x = fx_neg ∨ ∃ k, x = nI k ∧ k < 512) (h3 : f = ff_Mod_way → x = fx_neg ∨ ∃ k, x = nI k ∧ k < 4) : RI (fx_up M f j x) := by
  have hb31 : ∀ g, ri_b g ≤ 2 ^ 31 := by
    intro g
    unfold ri_b
    cases Nat.ble 768 g
    · rw [cond_false]; omega
    · rw [cond_true, List.getD_eq_getElem?_getD]
      have hq : ∀ q ∈ ri_L, q ≤ 2 ^ 31 := by decide
      cases hv : ri_L[g - 768]? with
      | none => simp
      | some v => simpa using hq v (List.mem_of_getElem? hv)
  refine ⟨fun g i hg hi => ?_, fun i hi => ?_, fun i hi => ?_⟩
  · by_cases e : g = f ∧ i = j
    · obtain ⟨e1, e2⟩ := e
      subst e1; subst e2
      obtain ⟨k, hk, hk2⟩ := h1 hg
      exact rb_of (by rw [fx_up_same]; exact hk) hk2 (hb31 g)
    · exact (h.1 g i hg hi).same (fx_up_ne e)
  · by_cases e : ff_Mod_whose = f ∧ i = j
    · obtain ⟨e1, e2⟩ := e
      subst e2
      rw [← e1, fx_up_same]
      rcases h2 e1.symm with q | ⟨k, q1, q2⟩
      · exact Or.inl q
      · exact Or.inr (rb_of (by rw [fx_up_same]; exact q1) q2 (by omega))
    · rw [fx_up_ne e]
      rcases h.2.1 i hi with q | q
      · exact Or.inl q
      · exact Or.inr (q.same (fx_up_ne e))
  · by_cases e : ff_Mod_way = f ∧ i = j
    · obtain ⟨e1, e2⟩ := e
      subst e2
      rw [← e1, fx_up_same]
      rcases h3 e1.symm with q | ⟨k, q1, q2⟩
      · exact Or.inl q
      · exact Or.inr (rb_of (by rw [fx_up_same]; exact q1) q2 (by omega))
    · rw [fx_up_ne e]
      rcases h.2.2 i hi with q | q
      · exact Or.inl q
      · exact Or.inr (q.same (fx_up_ne e))
/-- a number within its bound -/
theorem RI.up {M : rf_M} {f j x b : Nat} (h : RI M) (hb : ri_b f = b) (hx : x < b) (h2 : f ≠ ff_Mod_whose) (h3 : f ≠ ff_Mod_way) : RI (fx_up M f j (nI x)) :=
  h.st (fun _ => ⟨x, rfl, by rw [hb]; exact hx⟩) (fun q => absurd q h2) (fun q => absurd q h3)
/-- a field without a bound -/
theorem RI.raw {M : rf_M} {f j : Nat} {x : Int32} (h : RI M) (hb : ri_b f = 0) (h2 : f ≠ ff_Mod_whose) (h3 : f ≠ ff_Mod_way) : RI (fx_up M f j x) :=
  h.st (fun q => absurd hb q) (fun q => absurd q h2) (fun q => absurd q h3)
theorem RI.upz {M : rf_M} {f j : Nat} {p : Bool} (h : RI M) (hb : ri_b f = 2) (h2 : f ≠ ff_Mod_whose) (h3 : f ≠ ff_Mod_way) : RI (fx_up M f j (fx_bit p)) :=
  h.st (fun _ => by cases p; exact ⟨0, by decide, by omega⟩; exact ⟨1, by decide, by omega⟩) (fun q => absurd q h2) (fun q => absurd q h3)
theorem RI.upw {M : rf_M} {j : Nat} {x : Int32} (h : RI M) (hx : x = fx_neg ∨ ∃ k, x = nI k ∧ k < 512) : RI (fx_up M ff_Mod_whose j x) :=
  h.st (fun q => absurd rfl q) (fun _ => hx) (fun q => absurd q (by decide))
theorem RI.upy {M : rf_M} {j : Nat} {x : Int32} (h : RI M) (hx : x = fx_neg ∨ ∃ k, x = nI k ∧ k < 4) : RI (fx_up M ff_Mod_way j x) :=
  h.st (fun q => absurd rfl q) (fun q => absurd q (by decide)) (fun _ => hx)
theorem rn_same {M : rf_M} {f j x : Nat} (hx : x < 2 ^ 31) : rn (fx_up M f j (nI x)) f j = x := by
  unfold rn
  rw [fx_up_same, nI_clamp hx]
theorem rn_ne {M : rf_M} {f j g i : Nat} {x : Int32} (h : ¬ (g = f ∧ i = j)) : rn (fx_up M f j x) g i = rn M g i := by
  unfold rn
  rw [fx_up_ne h]
