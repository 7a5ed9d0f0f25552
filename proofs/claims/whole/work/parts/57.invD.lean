/-! THE INVARIANTS: settling -/
section
variable {M : rf_M}
/-! what the steps leave alone -/
theorem note_o {v p g i : Nat} {d : Bool} (h : g < 799 ∨ 814 ≤ g) : om_note M v p d g i = M g i := by
  have key : ∀ f, 799 ≤ f → f < 814 → g ≠ f := by omega
  unfold om_note
  rw [fx_up_ne (fun q => key _ (by decide) (by decide) q.1), fx_up_ne (fun q => key _ (by decide) (by decide) q.1), fx_up_ne (fun q => key _ (by decide) (by decide) q.1), fx_up_ne (fun q => key _ (by decide) (by decide) q.1)]
theorem ready_o {v k p g i : Nat} (h : g < 799 ∨ 814 ≤ g) : om_ready M v k p g i = M g i := by
  have key : ∀ f, 799 ≤ f → f < 814 → g ≠ f := by omega
  unfold om_ready
  try dsimp only
  rw [fx_up_ne (fun q => key _ (by decide) (by decide) q.1), note_o h, fx_up_ne (fun q => key _ (by decide) (by decide) q.1), fx_up_ne (fun q => key _ (by decide) (by decide) q.1), fx_up_ne (fun q => key _ (by decide) (by decide) q.1), fx_up_ne (fun q => key _ (by decide) (by decide) q.1), fx_up_ne (fun q => key _ (by decide) (by decide) q.1)]
theorem fill_o {v k g i : Nat} (h : g < 799 ∨ 814 ≤ g) : om_fill M v k g i = M g i := by
  have key : ∀ f, 799 ≤ f → f < 814 → g ≠ f := by omega
  unfold om_fill
  try dsimp only
  rw [om_sh_ne (key _ (by decide) (by decide)), fx_up_ne (fun q => key _ (by decide) (by decide) q.1), note_o h, fx_up_ne (fun q => key _ (by decide) (by decide) q.1), fx_up_ne (fun q => key _ (by decide) (by decide) q.1), fx_up_ne (fun q => key _ (by decide) (by decide) q.1)]
theorem ready_rn {v k p f i : Nat} (h : f < 799 ∨ 814 ≤ f) : rn (om_ready M v k p) f i = rn M f i := by
  unfold rn
  rw [ready_o h]
theorem fill_rn {v k f i : Nat} (h : f < 799 ∨ 814 ≤ f) : rn (om_fill M v k) f i = rn M f i := by
  unfold rn
  rw [fill_o h]
theorem ready_rN {v k p u : Nat} : rn (om_ready M v k p) ff_Mod_rowSize u = rn M ff_Mod_rowSize u := by
  unfold om_ready om_note
  dsimp only
  rw [rn_pe (by decide), rn_pe (by decide), rn_pe (by decide), rn_pe (by decide), rn_pe (by decide), rn_pe (by decide), rn_pe (by decide), rn_pe (by decide), rn_pe (by decide), rn_pe (by decide)]
theorem ready_rR {v k p u : Nat} : rn (om_ready M v k p) ff_Mod_row u = rn M ff_Mod_row u := by
  unfold om_ready om_note
  dsimp only
  rw [rn_pe (by decide), rn_pe (by decide), rn_pe (by decide), rn_pe (by decide), rn_pe (by decide), rn_pe (by decide), rn_pe (by decide), rn_pe (by decide), rn_pe (by decide), rn_pe (by decide)]
theorem ready_pH {v k p u : Nat} : rn (om_ready M v k p) ff_Mod_has u = rn M ff_Mod_has u := by
  unfold om_ready om_note
  dsimp only
  rw [rn_pe (by decide), rn_pe (by decide), rn_pe (by decide), rn_pe (by decide), rn_pe (by decide), rn_pe (by decide), rn_pe (by decide), rn_pe (by decide), rn_pe (by decide), rn_pe (by decide)]
theorem fill_yN {v k u : Nat} : rn (om_fill M v k) ff_Mod_readySize u = rn M ff_Mod_readySize u := by
  unfold om_fill om_note rn
  dsimp only
  rw [om_sh_ne (by decide), fx_up_ne (fun q => absurd q.1 (by decide)), fx_up_ne (fun q => absurd q.1 (by decide)), fx_up_ne (fun q => absurd q.1 (by decide)), fx_up_ne (fun q => absurd q.1 (by decide)), fx_up_ne (fun q => absurd q.1 (by decide)), fx_up_ne (fun q => absurd q.1 (by decide)), fx_up_ne (fun q => absurd q.1 (by decide)), fx_up_ne (fun q => absurd q.1 (by decide))]
def om_fin (M : rf_M) (v k : Nat) : rf_M := if 0 < rn M ff_Mod_rowSize v then om_fill (om_ready M v k (rn M ff_Mod_whose k)) v k else om_ready M v k (rn M ff_Mod_whose k)
theorem setA_none {v : Nat} : ∀ (d j : Nat), (∀ i, j ≤ i → i < j + d → sfull M v i = false) → om_setA v d j M = M
  | 0, j, _ => rfl
  | d + 1, j, h => by
    unfold om_setA
    rw [h j (by omega) (by omega), cond_false]
    exact setA_none d (j + 1) (fun i h1 h2 => h i (by omega) (by omega))
theorem setA_some {v k : Nat} : ∀ (d j : Nat), sp_first (sfull M v) j d = some k → (∀ i, k < i → i < j + d → sfull (om_ready M v k (rn M ff_Mod_whose k)) v i = false) → om_setA v d j M = om_ready M v k (rn M ff_Mod_whose k)
  | 0, j, h, _ => by cases h
  | d + 1, j, h, h2 => by
    unfold sp_first at h
    unfold om_setA
    cases hs : sfull M v j with
    | true =>
      rw [hs, cond_true] at h
      cases h
      rw [cond_true]
      exact setA_none d _ (fun i q1 q2 => h2 i (by omega) (by omega))
    | false =>
      rw [hs, cond_false] at h
      rw [cond_false]
      exact setA_some d (j + 1) h (fun i q1 q2 => h2 i q1 (by omega))
theorem setB_none {v : Nat} (h : semp M v = none) : ∀ n, om_setB v n M = M
  | 0 => rfl
  | n + 1 => by
    unfold om_setB
    rw [h]
theorem semp_none {v : Nat} : semp M v = none ↔ ∀ k, 4 * v ≤ k → k < 4 * v + 4 → oz (M ff_Mod_whose k) ≠ none := by
  unfold semp
  rw [sp_first_none]
  constructor
  · intro h k h1 h2 q
    have := h k h1 h2
    rw [oz_none] at q
    simp [q] at this
  · intro h k h1 h2
    have := h k h1 h2
    rw [Ne, oz_none] at this
    simpa using this
theorem sfull_eq {v k : Nat} (hI : RI M) (hk : k < 256) : sfull M v k = (pfull M k && !(rn M ff_Mod_readySize v == 4)) := by
  unfold sfull pfull
  rcases hI.2.1 k hk with q | q
  · rw [q, oz_neg]
    simp
  · have e : oz (M ff_Mod_whose k) = some (rn M ff_Mod_whose k) := by rw [q.1, oz_nI (by have := q.2; omega)]
    have ne : ¬ M ff_Mod_whose k = fx_neg := by rw [q.1]; exact oI_ne (by have := q.2; omega)
    rw [e]
    simp only [ne, decide_false, Bool.not_false, Bool.true_and]
    exact Bool.and_comm _ _
theorem ready_pW {v k p j : Nat} : oz ((om_ready M v k p) ff_Mod_whose j) = if j = k then none else oz (M ff_Mod_whose j) := by
  have e1 : oz ((om_ready M v k p) ff_Mod_whose j) = oz (fx_up M ff_Mod_whose k fx_neg ff_Mod_whose j) := rfl
  rw [e1, pW_up, oz_neg]
theorem fill_pW {v k j : Nat} (hp : rn M ff_Mod_row (512 * v) < 512) : oz ((om_fill M v k) ff_Mod_whose j) = if j = k then some (rn M ff_Mod_row (512 * v)) else oz (M ff_Mod_whose j) := by
  have e1 : oz ((om_fill M v k) ff_Mod_whose j) = oz (fx_up M ff_Mod_whose k (nI (rn M ff_Mod_row (512 * v))) ff_Mod_whose j) := rfl
  rw [e1, pW_up, oz_nI (by omega)]
theorem settle_eq {v : Nat} {ok : Option Nat} (hI : RI M) (hv : v < 64) (hrow : 0 < rn M ff_Mod_rowSize v → ∀ k, 4 * v ≤ k → k < 4 * v + 4 → oz (M ff_Mod_whose k) ≠ none) (hok : sp_first (sfull M v) (4 * v) 4 = ok) (hoth : ∀ k, ok = some k → ∀ i, k < i → i < 4 * v + 4 → sfull (om_ready M v k (rn M ff_Mod_whose k)) v i = false) : om_settle M v = match (generalizing := false) ok with
    | none => M
    | some k => om_fin M v k := by
  unfold om_settle
  dsimp only
  cases hk : ok with
  | none =>
    rw [hk] at hok
    have e : om_setA v 4 (4 * v) M = M := setA_none 4 (4 * v) (fun i h1 h2 => sp_first_none.mp hok i h1 h2)
    rw [e]
    cases hr : rn M ff_Mod_rowSize v with
    | zero => rfl
    | succ n => exact setB_none (semp_none.mpr (hrow (by omega))) _
  | some k =>
    rw [hk] at hok
    have e : om_setA v 4 (4 * v) M = om_ready M v k (rn M ff_Mod_whose k) := setA_some 4 (4 * v) hok (hoth k hk)
    obtain ⟨k1, k2, k3, -⟩ := sp_first_some.mp hok
    rw [e]
    have er : rn (om_ready M v k (rn M ff_Mod_whose k)) ff_Mod_rowSize v = rn M ff_Mod_rowSize v := rfl
    rw [er]
    unfold om_fin
    dsimp only
    cases hr : rn M ff_Mod_rowSize v with
    | zero => rw [if_neg (by omega)]; rfl
    | succ n =>
      rw [if_pos (by omega)]
      have hr5 : rn M ff_Mod_row (512 * v) < 512 := hI.l ff_Mod_row (512 * v) 512 (n := 32768) rfl (by omega) rfl (by omega)
      have e1 : semp (om_ready M v k (rn M ff_Mod_whose k)) v = some k := by
        unfold semp
        rw [sp_first_some]
        refine ⟨k1, k2, ?_, fun j h1 h2 => ?_⟩
        · have : oz ((om_ready M v k (rn M ff_Mod_whose k)) ff_Mod_whose k) = none := by rw [ready_pW, if_pos rfl]
          rw [oz_none] at this
          simpa using this
        · have : oz ((om_ready M v k (rn M ff_Mod_whose k)) ff_Mod_whose j) ≠ none := by
            rw [ready_pW, if_neg (by omega)]
            exact hrow (by omega) j h1 (by omega)
          rw [Ne, oz_none] at this
          simpa using this
      unfold om_setB
      rw [e1]
      dsimp only
      refine setB_none (semp_none.mpr (fun j h1 h2 => ?_)) n
      rw [fill_pW (by rw [ready_rR]; exact hr5)]
      by_cases c : j = k
      · rw [if_pos c]; exact fun q => by cases q
      · rw [if_neg c, ready_pW, if_neg c]
        exact hrow (by omega) j h1 h2
theorem ready_yN {v k p u : Nat} (h : rn M ff_Mod_readySize v < 5) : rn (om_ready M v k p) ff_Mod_readySize u = if u = v then rn M ff_Mod_readySize v + 1 else rn M ff_Mod_readySize u := by
  have e1 : rn (om_ready M v k p) ff_Mod_readySize u = rn (fx_up M ff_Mod_readySize v (nI (rn M ff_Mod_readySize v + 1))) ff_Mod_readySize u := rfl
  rw [e1]
  by_cases e : u = v
  · rw [if_pos e, e, rn_same (by omega)]
  · rw [if_neg e, rn_ne (fun w => e w.2)]
theorem fill_rN {v k u : Nat} (h : rn M ff_Mod_rowSize v < 513) : rn (om_fill M v k) ff_Mod_rowSize u = if u = v then rn M ff_Mod_rowSize v - 1 else rn M ff_Mod_rowSize u := by
  have e1 : rn (om_fill M v k) ff_Mod_rowSize u = rn (fx_up M ff_Mod_rowSize v (nI (rn M ff_Mod_rowSize v - 1))) ff_Mod_rowSize u := rfl
  rw [e1]
  by_cases e : u = v
  · rw [if_pos e, e, rn_same (by omega)]
  · rw [if_neg e, rn_ne (fun w => e w.2)]
theorem fill_pH {v k j : Nat} : rn (om_fill M v k) ff_Mod_has j = if j = k then 0 else rn M ff_Mod_has j := by
  have e1 : rn (om_fill M v k) ff_Mod_has j = rn (fx_up M ff_Mod_has k (nI 0)) ff_Mod_has j := rfl
  rw [e1]
  by_cases e : j = k
  · rw [if_pos e, e, rn_same (by omega)]
  · rw [if_neg e, rn_ne (fun w => e w.2)]
/-- the place k is emptied, and kept for the next one: all is settled -/
theorem JI.fin {v k : Nat} (h : JV M (fun j => j < (rn M ff_Mod_notes 0))) (hv : v < (rn M ff_Mod_all 0)) (k1 : 4 * v ≤ k) (k2 : k < 4 * v + 4) (hs : sfull M v k = true) (ho : rn M ff_Mod_readySize v + 1 < 4 → ∀ j, 4 * v ≤ j → j < 4 * v + 4 → j ≠ k → pfull M j = false) (hrow : 0 < rn M ff_Mod_rowSize v → ∀ j, 4 * v ≤ j → j < 4 * v + 4 → oz (M ff_Mod_whose j) ≠ none) (hu : ∀ u, u < (rn M ff_Mod_all 0) → u ≠ v → J12 M u (fun _ => False)) : JI (om_fin M v k) := by
  have h64 := h.all64
  have hk : k < 256 := by omega
  rw [sfull_eq h.ri hk, Bool.and_eq_true] at hs
  obtain ⟨s1, s2⟩ := hs
  have hy : rn M ff_Mod_readySize v < 4 := by
    have := h.ri.yNl (v := v) (by omega)
    simp at s2
    omega
  obtain ⟨p, hp, hf⟩ : ∃ p, oz (M ff_Mod_whose k) = some p ∧ rn M ff_Mod_has k = 2 ^ rn M ff_Mod_lengths p - 1 := by
    unfold pfull at s1
    cases hp : oz (M ff_Mod_whose k) with
    | none => rw [hp] at s1; cases s1
    | some p =>
      rw [hp] at s1
      exact ⟨p, rfl, by simpa using s1⟩
  have hw := (pW_some h.ri hk hp).2.1
  have hR := h.ready hv hk hp hf hy
  have fR : ∀ j, j ≠ k → pfull (om_ready M v k p) j = pfull M j := by
    intro j hj
    unfold pfull
    rw [ready_pW, if_neg hj, ready_pH]
    cases oz (M ff_Mod_whose j) with
    | none => rfl
    | some q =>
      dsimp only
      rw [ready_rn (by decide)]
  have eA : (rn (om_ready M v k p) ff_Mod_all 0) = (rn M ff_Mod_all 0) := ready_rn (by decide)
  unfold om_fin
  rw [hw]
  by_cases hr : 0 < rn M ff_Mod_rowSize v
  · rw [if_pos hr]
    have hr' : 0 < rn (om_ready M v k p) ff_Mod_rowSize v := by rw [ready_rN]; exact hr
    have hp5 := h.rRl hv hr
    rw [Nat.add_zero] at hp5
    have hp5' : rn (om_ready M v k p) ff_Mod_row (512 * v) < 512 := by rw [ready_rR]; exact hp5
    have hrl := h.ri.rNl (v := v) (by omega)
    have hrl' : rn (om_ready M v k p) ff_Mod_rowSize v < 513 := by rw [ready_rN]; exact hrl
    have gl : 0 < rn (om_ready M v k p) ff_Mod_lengths (rn (om_ready M v k p) ff_Mod_row (512 * v)) := by
      have := (h.j9 v 0 hv hr).1
      rw [Nat.add_zero] at this
      rw [ready_rn (by decide), ready_rR]
      exact this
    have fF : ∀ j, j ≠ k → pfull (om_fill (om_ready M v k p) v k) j = pfull M j := by
      intro j hj
      rw [← fR j hj]
      unfold pfull
      rw [fill_pW hp5', if_neg hj, fill_pH, if_neg hj]
      cases oz ((om_ready M v k p) ff_Mod_whose j) with
      | none => rfl
      | some q =>
        dsimp only
        rw [fill_rn (by decide)]
    refine ⟨hR.fill (by rw [eA]; exact hv) hk (by omega) (by rw [ready_pW, if_pos rfl]) hr', fun u hu' => ?_⟩
    have hu' : u < (rn M ff_Mod_all 0) := by rw [fill_rn (by decide), eA] at hu'; exact hu'
    by_cases e : u = v
    · subst e
      refine ⟨fun hy' j h1 h2 _ => ?_, fun _ j h1 h2 => ?_⟩
      · have hy2 : rn (om_ready M u k p) ff_Mod_readySize u < 4 := by rw [fill_yN] at hy'; exact hy'
        rw [ready_yN (by omega), if_pos rfl] at hy2
        by_cases c : j = k
        · unfold pfull
          rw [fill_pW hp5', if_pos c, fill_pH, if_pos c]
          dsimp only
          have : (0 == 2 ^ rn (om_fill (om_ready M u k p) u k) ff_Mod_lengths (rn (om_ready M u k p) ff_Mod_row (512 * u)) - 1) = false := by
            rw [fill_rn (by decide)]
            have : 2 ^ 1 ≤ 2 ^ rn (om_ready M u k p) ff_Mod_lengths (rn (om_ready M u k p) ff_Mod_row (512 * u)) := Nat.pow_le_pow_right (by omega) gl
            simp
            omega
          exact this
        · rw [fF j c]
          exact ho hy2 j h1 h2 c
      · rw [fill_pW hp5']
        by_cases c : j = k
        · rw [if_pos c]; exact fun q => by cases q
        · rw [if_neg c, ready_pW, if_neg c]
          exact hrow hr j h1 h2
    · obtain ⟨q1, q2⟩ := hu u hu' e
      refine ⟨fun hy' j h1 h2 h3 => ?_, fun hr2 j h1 h2 => ?_⟩
      · have hy2 : rn (om_ready M v k p) ff_Mod_readySize u < 4 := by rw [fill_yN] at hy'; exact hy'
        rw [ready_yN (by omega), if_neg e] at hy2
        rw [fF j (by omega)]
        exact q1 hy2 j h1 h2 h3
      · rw [fill_rN hrl', if_neg e, ready_rN] at hr2
        rw [fill_pW hp5', if_neg (by omega), ready_pW, if_neg (by omega)]
        exact q2 hr2 j h1 h2
  · rw [if_neg hr]
    refine ⟨hR, fun u hu' => ?_⟩
    have hu' : u < (rn M ff_Mod_all 0) := by rw [eA] at hu'; exact hu'
    by_cases e : u = v
    · subst e
      refine ⟨fun hy2 j h1 h2 _ => ?_, fun hr2 => absurd (by rw [ready_rN] at hr2; exact hr2) hr⟩
      rw [ready_yN (by omega), if_pos rfl] at hy2
      by_cases c : j = k
      · unfold pfull
        rw [ready_pW, if_pos c]
      · rw [fR j c]
        exact ho hy2 j h1 h2 c
    · obtain ⟨q1, q2⟩ := hu u hu' e
      refine ⟨fun hy2 j h1 h2 h3 => ?_, fun hr2 j h1 h2 => ?_⟩
      · rw [ready_yN (by omega), if_neg e] at hy2
        rw [fR j (by omega)]
        exact q1 hy2 j h1 h2 h3
      · rw [ready_rN] at hr2
        rw [ready_pW, if_neg (by omega)]
        exact q2 hr2 j h1 h2
/-- behind a join -/
theorem settle_join {v : Nat} {ok : Option Nat} (h : JV M (fun j => j < (rn M ff_Mod_notes 0))) (hv : v < (rn M ff_Mod_all 0)) (hok : ∀ k, ok = some k → 4 * v ≤ k ∧ k < 4 * v + 4) (h12 : J12 M v (fun j => ok = some j)) (hu : ∀ u, u < (rn M ff_Mod_all 0) → u ≠ v → J12 M u (fun _ => False)) : (om_settle M v = match (generalizing := false) ok with
    | none => M
    | some k => bif sfull M v k then om_fin M v k else M) ∧ JI (om_settle M v) := by
  have h64 := h.all64
  have hne : ∀ i, 4 * v ≤ i → i < 4 * v + 4 → ok ≠ some i → sfull M v i = false := by
    intro i h1 h2 h3
    rw [sfull_eq h.ri (by omega)]
    by_cases hy : rn M ff_Mod_readySize v < 4
    · rw [h12.1 hy i h1 h2 h3, Bool.false_and]
    · have := h.ri.yNl (v := v) (by omega)
      have e : rn M ff_Mod_readySize v = 4 := by omega
      simp [e]
  have case0 : (∀ i, 4 * v ≤ i → i < 4 * v + 4 → sfull M v i = false) → om_settle M v = M ∧ JI M := by
    intro hall
    have e := settle_eq (ok := none) h.ri (by omega) h12.2 (sp_first_none.mpr hall) (fun k q => by cases q)
    refine ⟨e, h, fun u hu' => ?_⟩
    by_cases c : u = v
    · subst c
      refine ⟨fun hy j h1 h2 _ => ?_, h12.2⟩
      have := hall j h1 h2
      rw [sfull_eq h.ri (by omega)] at this
      have e4 : (rn M ff_Mod_readySize u == 4) = false := by
        rw [beq_eq_false_iff_ne]; omega
      rw [e4] at this
      simpa using this
    · exact hu u hu' c
  cases hk : ok with
  | none =>
    obtain ⟨q1, q2⟩ := case0 (fun i h1 h2 => hne i h1 h2 (by rw [hk]; exact fun q => by cases q))
    exact ⟨q1, by rw [q1]; exact q2⟩
  | some k =>
    obtain ⟨k1, k2⟩ := hok k hk
    cases hs : sfull M v k with
    | false =>
      obtain ⟨q1, q2⟩ := case0 (fun i h1 h2 => by
        by_cases c : i = k
        · rw [c]; exact hs
        · exact hne i h1 h2 (by rw [hk]; exact fun q => c (Option.some.inj q).symm))
      refine ⟨?_, by rw [q1]; exact q2⟩
      show om_settle M v = bif sfull M v k then om_fin M v k else M
      rw [hs]
      exact q1
    | true =>
      have hs' := hs
      rw [sfull_eq h.ri (by omega), Bool.and_eq_true] at hs'
      have hy : rn M ff_Mod_readySize v < 4 := by
        have := h.ri.yNl (v := v) (by omega)
        have := hs'.2
        simp at this
        omega
      have e : om_settle M v = om_fin M v k := by
        refine settle_eq (ok := some k) h.ri (by omega) h12.2 (sp_first_some.mpr ⟨k1, k2, hs, fun j h1 h2 => hne j h1 (by omega) (by rw [hk]; exact fun q => by have := Option.some.inj q; omega)⟩) (fun k' q i h1 h2 => ?_)
        cases q
        have hRI : RI (om_ready M v k (rn M ff_Mod_whose k)) := by
          unfold pfull at hs'
          cases hp : oz (M ff_Mod_whose k) with
          | none => rw [hp] at hs'; cases hs'.1
          | some p =>
            rw [hp] at hs'
            have hw := (pW_some h.ri (by omega) hp).2.1
            rw [hw]
            exact (h.ready hv (by omega) hp (by simpa using hs'.1) hy).ri
        rw [sfull_eq hRI (by omega)]
        have : pfull (om_ready M v k (rn M ff_Mod_whose k)) i = pfull M i := by
          unfold pfull
          rw [ready_pW, if_neg (by omega)]
          rfl
        rw [this, h12.1 hy i (by omega) h2 (by rw [hk]; exact fun q => by have := Option.some.inj q; omega), Bool.false_and]
      rw [e]
      refine ⟨?_, JI.fin h hv k1 k2 hs (fun _ j h1 h2 c => h12.1 hy j h1 h2 (by rw [hk]; exact fun q => c (Option.some.inj q).symm)) h12.2 hu⟩
      show om_fin M v k = bif sfull M v k then om_fin M v k else M
      rw [hs]
      rfl
end
