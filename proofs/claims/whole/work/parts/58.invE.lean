/-! THE INVARIANTS: received, taken -/
section
variable {M : rf_M}
theorem shome_some {v f : Nat} (h : shome M v = some f) : f < (rn M ff_Mod_flits 0) ∧ rn M ff_Mod_at f = v ∧ sg M f = v := by
  obtain ⟨h1, h2⟩ := sp_best_lt h
  simp only [Bool.and_eq_true, beq_iff_eq] at h2
  exact ⟨h1, h2.1, h2.2⟩
theorem sjk_in {v p t k : Nat} (h : sjk M v p t = some k) : 4 * v ≤ k ∧ k < 4 * v + 4 := by
  unfold sjk at h
  split at h
  · rename_i j hj
    cases h
    exact ⟨(sp_first_some.mp hj).1, (sp_first_some.mp hj).2.1⟩
  · cases hx : (t == 1 && !rz M ff_Mod_asked p) with
    | false => rw [hx] at h; cases h
    | true =>
      rw [hx, cond_true] at h
      exact ⟨(sp_first_some.mp h).1, (sp_first_some.mp h).2.1⟩
theorem join_nN {v p t b : Nat} : (rn (om_join M v p t b) ff_Mod_notes 0) = (rn M ff_Mod_notes 0) := om_join_notes
/-- the state behind the joining -/
abbrev om_j (M : rf_M) (f : Nat) : rf_M := om_join (om_rcv M f) (rn M ff_Mod_at f) (spk M f) (rn M ff_Mod_tries f) (rn M ff_Mod_number f)
theorem JI.receive {f : Nat} (h : JI M) (hf : f < (rn M ff_Mod_flits 0)) (hg : sg M f = rn M ff_Mod_at f) (hc : rn M ff_Mod_received 0 < 9000000) (hl : rn M ff_Mod_lost 0 < 9000000) : JI (om_receive M f) ∧ om_receive M f = (match sjk (om_rcv M f) (rn M ff_Mod_at f) (spk M f) (rn M ff_Mod_tries f) with
    | none => om_j M f
    | some k => bif sfull (om_j M f) (rn M ff_Mod_at f) k then om_fin (om_j M f) (rn M ff_Mod_at f) k else om_j M f) ∧ (rn M ff_Mod_notes 0) + rn M ff_Mod_rowSize (rn M ff_Mod_at f) < 800 ∧ rn M ff_Mod_rowSize (rn M ff_Mod_at f) < 512 ∧ JV (om_j M f) (fun j => j < (rn (om_j M f) ff_Mod_notes 0)) := by
  have hv := h.1.net.2.2 f hf
  have h64 := h.1.all64
  obtain ⟨a1, a2⟩ := h.1.rcv hf hg hc
  obtain ⟨b1, b2, b3⟩ := a1.join a2 (h.2 _ hv) hl
  have b1' : JV (om_j M f) (fun j => j < (rn (om_j M f) ff_Mod_notes 0)) := by
    have e : (rn (om_j M f) ff_Mod_notes 0) = (rn M ff_Mod_notes 0) := join_nN
    rw [e]
    exact b1
  have hall : (rn (om_j M f) ff_Mod_all 0) = (rn M ff_Mod_all 0) := by
    show rn (om_join _ _ _ _ _) ff_Mod_all 0 = _
    unfold om_join
    split
    · rfl
    · split
      · rfl
      · cases rz (om_rcv M f) ff_Mod_asked (spk M f) <;> rfl
  have hnr := h.1.nr512 hv
  have hr5 := h.1.rN512 hv
  obtain ⟨c1, c2⟩ := settle_join b1' (by rw [hall]; exact hv) (fun k hk => sjk_in hk) b2 (fun u hu hne => b3 u (by rw [hall] at hu; omega) hne (h.2 u (by rw [hall] at hu; exact hu)))
  exact ⟨c2, c1, by omega, hr5, b1'⟩
theorem take_yN {v u : Nat} (h : rn M ff_Mod_readySize v < 5) : rn (om_take M v) ff_Mod_readySize u = if u = v then rn M ff_Mod_readySize v - 1 else rn M ff_Mod_readySize u := by
  have e1 : rn (om_take M v) ff_Mod_readySize u = rn (fx_up M ff_Mod_readySize v (nI (rn M ff_Mod_readySize v - 1))) ff_Mod_readySize u := rfl
  rw [e1]
  by_cases e : u = v
  · rw [if_pos e, e, rn_same (by omega)]
  · rw [if_neg e, rn_ne (fun w => e w.2)]
theorem JV.take {v : Nat} (h : JV M (fun j => j < (rn M ff_Mod_notes 0))) (hv : v < (rn M ff_Mod_all 0)) (hy : 0 < rn M ff_Mod_readySize v) : JV (om_take M v) (fun j => j < (rn (om_take M v) ff_Mod_notes 0)) := by
  have h64 := h.all64
  exact ⟨h.ri.take (by omega) hy, h.net, h.j2, h.j3, h.j4, h.j5, h.j6, h.j7, h.j8, h.j8u, h.j9, h.j9u, h.j10, h.j10u, h.j11, h.j11u, h.j13, h.j14⟩
theorem JI.take {v : Nat} (h : JI M) (hv : v < (rn M ff_Mod_all 0)) (hy : 0 < rn M ff_Mod_readySize v) : JI (om_settle (om_take M v) v) ∧ om_settle (om_take M v) v = (match sp_first (pfull (om_take M v)) (4 * v) 4 with
    | none => om_take M v
    | some k => om_fin (om_take M v) v k) := by
  have h64 := h.1.all64
  have hy5 := h.1.ri.yNl (v := v) (by omega)
  have hT := h.1.take hv hy
  have eY : rn (om_take M v) ff_Mod_readySize v = rn M ff_Mod_readySize v - 1 := by rw [take_yN (by omega), if_pos rfl]
  have eF : ∀ k, k < 256 → sfull (om_take M v) v k = pfull (om_take M v) k := by
    intro k hk
    rw [sfull_eq hT.ri hk, eY, show (rn M ff_Mod_readySize v - 1 == 4) = false by rw [beq_eq_false_iff_ne]; omega, Bool.not_false, Bool.and_true]
  have hrow : 0 < rn (om_take M v) ff_Mod_rowSize v → ∀ k, 4 * v ≤ k → k < 4 * v + 4 → oz ((om_take M v) ff_Mod_whose k) ≠ none := (h.2 v hv).2
  have e1 : sp_first (sfull (om_take M v) v) (4 * v) 4 = sp_first (pfull (om_take M v)) (4 * v) 4 := sp_first_congr 4 (4 * v) (fun k h1 h2 => eF k (by omega))
  have hother : ∀ u, u < (rn (om_take M v) ff_Mod_all 0) → u ≠ v → J12 (om_take M v) u (fun _ => False) := by
    intro u hu hne
    obtain ⟨q1, q2⟩ := h.2 u hu
    refine ⟨fun hy2 => ?_, q2⟩
    rw [take_yN (by omega), if_neg hne] at hy2
    exact q1 hy2
  cases ho : sp_first (pfull (om_take M v)) (4 * v) 4 with
  | none =>
    have e := settle_eq (ok := none) hT.ri (by omega) hrow (by rw [e1, ho]) (fun k q => by cases q)
    refine ⟨?_, e⟩
    rw [e]
    refine ⟨hT, fun u hu => ?_⟩
    by_cases c : u = v
    · subst c
      exact ⟨fun _ j h1 h2 _ => sp_first_none.mp ho j h1 h2, hrow⟩
    · exact hother u hu c
  | some k =>
    obtain ⟨k1, k2, k3, k4⟩ := sp_first_some.mp ho
    have hfull : pfull M k = true := k3
    have hy4 : rn M ff_Mod_readySize v = 4 := by
      by_cases c : rn M ff_Mod_readySize v < 4
      · rw [(h.2 v hv).1 c k k1 k2 (fun q => q)] at hfull
        cases hfull
      · omega
    have hs : sfull (om_take M v) v k = true := by rw [eF k (by omega)]; exact k3
    have e := settle_eq (ok := some k) hT.ri (by omega) hrow (by rw [e1, ho]) (fun k' q i h1 h2 => by
      cases q
      have hy' : rn (om_ready (om_take M v) v k (rn (om_take M v) ff_Mod_whose k)) ff_Mod_readySize v = 4 := by
        rw [ready_yN (by omega), if_pos rfl]
        omega
      unfold sfull
      rw [hy']
      simp)
    refine ⟨?_, e⟩
    rw [e]
    exact JI.fin hT hv k1 k2 hs (fun hy2 => by omega) hrow hother
end
