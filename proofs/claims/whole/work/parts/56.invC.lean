/-! THE INVARIANTS: a place is emptied, and kept -/
section
variable {M : rf_M}
theorem JV.n512 (h : JV M (fun k => k < (rn M ff_Mod_notes 0))) : (rn M ff_Mod_notes 0) ≤ 512 := by
  refine pigeon (fun i => rn M ff_Mod_noteSlot i) (fun i hi => h.nSl hi) (fun i j hi hj e => h.j10u i j hi hj e)
theorem JV.nr512 {v : Nat} (h : JV M (fun k => k < (rn M ff_Mod_notes 0))) (hv : v < (rn M ff_Mod_all 0)) : (rn M ff_Mod_notes 0) + rn M ff_Mod_rowSize v ≤ 512 := by
  have aux : ∀ i j, i < (rn M ff_Mod_notes 0) → j < rn M ff_Mod_rowSize v → rn M ff_Mod_noteSlot i ≠ rn M ff_Mod_row (512 * v + j) := by
    intro i j hi hj e
    obtain ⟨-, -, q3, q4⟩ := h.j10 i hi
    obtain ⟨-, -, r3, r4, -⟩ := h.j9 v j hv hj
    rw [← e] at r3 r4
    cases hd : rz M ff_Mod_noteDone i with
    | true =>
      rcases (q3 hd).2.2.2 with w | w
      · rw [r3] at w; cases w
      · omega
    | false => exact (q4 hd).2.2 v j hv hj e.symm
  refine pigeon (fun i => if i < (rn M ff_Mod_notes 0) then rn M ff_Mod_noteSlot i else rn M ff_Mod_row (512 * v + (i - (rn M ff_Mod_notes 0)))) (fun i hi => ?_) (fun i j hi hj e => ?_)
  · split
    · rename_i q; exact h.nSl q
    · exact h.rRl hv (by omega)
  · by_cases q1 : i < (rn M ff_Mod_notes 0)
    · by_cases q2 : j < (rn M ff_Mod_notes 0)
      · rw [if_pos q1, if_pos q2] at e
        exact h.j10u i j q1 q2 e
      · rw [if_pos q1, if_neg q2] at e
        exact absurd e (aux i _ q1 (by omega))
    · by_cases q2 : j < (rn M ff_Mod_notes 0)
      · rw [if_neg q1, if_pos q2] at e
        exact absurd e.symm (aux j _ q2 (by omega))
      · rw [if_neg q1, if_neg q2] at e
        have := h.j9u v _ _ hv (by omega) (by omega) e
        omega
theorem two_full {n b : Nat} (h : b < n) : (2 ^ n - 1).testBit b = true := by
  rw [Nat.testBit_two_pow_sub_one]
  simpa using h
/-- what a full place says of its packet -/
theorem JV.full {k p : Nat} {lv : Nat → Prop} (h : JV M lv) (hk : k < 256) (hp : oz (M ff_Mod_whose k) = some p) (hf : rn M ff_Mod_has k = 2 ^ rn M ff_Mod_lengths p - 1) : rn M ff_Mod_whichTry k = rn M ff_Mod_slotTry p ∧ rn M ff_Mod_entered p = rn M ff_Mod_lengths p ∧ (∀ f, f < (rn M ff_Mod_flits 0) → spk M f ≠ p) ∧ (∀ j, lv j → rn M ff_Mod_noteSlot j ≠ p) ∧ (rz M ff_Mod_asked p = false ∨ rn M ff_Mod_slotTry p = 2) := by
  obtain ⟨q1, q2, q3, q4, q5, q6⟩ := h.j8 k p hk hp
  have hp5 := (pW_some h.ri hk hp).2.2
  obtain ⟨c1, c2, c3, c4, c5⟩ := h.j6 p hp5 q1
  have bits : ∀ b, b < rn M ff_Mod_lengths p → rn M ff_Mod_whichTry k = rn M ff_Mod_slotTry p ∧ b < rn M ff_Mod_entered p := fun b hb => q5 b (by rw [hf]; exact two_full hb)
  have hT := (bits 0 q1).1
  have hE : rn M ff_Mod_entered p = rn M ff_Mod_lengths p := by have := (bits (rn M ff_Mod_lengths p - 1) (by omega)).2; omega
  refine ⟨hT, hE, fun f hfl e => ?_, fun j hj e => ?_, ?_⟩
  · obtain ⟨f1, f2, f3, f4, f5, f6, f7⟩ := h.j2 f hfl
    rw [e] at f1 f2 f5 f6 f7
    by_cases w : rn M ff_Mod_tries f = rn M ff_Mod_slotTry p
    · have := q6 f hfl e (by rw [hT]; exact w)
      rw [hf, two_full f2] at this
      cases this
    · have := f7 (by omega)
      omega
  · obtain ⟨-, -, r3, r4⟩ := h.j10 j hj
    rw [e] at r3 r4
    cases hd : rz M ff_Mod_noteDone j with
    | true => exact (r3 hd).2.2.1 k hk hp
    | false =>
      obtain ⟨w1, w2, -⟩ := r4 hd
      rcases q3 with y | y
      · rw [y.2] at w2; cases w2
      · omega
  · rcases q3 with y | y
    · exact Or.inl y.2
    · exact Or.inr (by omega)
theorem JV.ready {v k p : Nat} (h : JV M (fun j => j < (rn M ff_Mod_notes 0))) (hv : v < (rn M ff_Mod_all 0)) (hk : k < 256) (hp : oz (M ff_Mod_whose k) = some p) (hf : rn M ff_Mod_has k = 2 ^ rn M ff_Mod_lengths p - 1) (hy : rn M ff_Mod_readySize v < 4) : JV (om_ready M v k p) (fun j => j < (rn (om_ready M v k p) ff_Mod_notes 0)) := by
  have h64 := h.all64
  have hp5 := (pW_some h.ri hk hp).2.2
  have hn := h.n512
  obtain ⟨t1, t2, t3, t4, t5⟩ := h.full hk hp hf
  have eN : (rn (om_ready M v k p) ff_Mod_notes 0) = (rn M ff_Mod_notes 0) + 1 := rn_ready_n (by omega)
  have eS : ∀ j, rn (om_ready M v k p) ff_Mod_noteSlot j = if j = (rn M ff_Mod_notes 0) then p else rn M ff_Mod_noteSlot j := by
    intro j
    have e1 : rn (om_ready M v k p) ff_Mod_noteSlot j = rn (fx_up M ff_Mod_noteSlot ((rn M ff_Mod_notes 0)) (nI p)) ff_Mod_noteSlot j := rfl
    rw [e1]
    by_cases e : j = (rn M ff_Mod_notes 0)
    · rw [if_pos e, e, rn_same (by omega)]
    · rw [if_neg e, rn_ne (fun w => e w.2)]
  have eD : ∀ j, rz (om_ready M v k p) ff_Mod_noteDone j = if j = (rn M ff_Mod_notes 0) then true else rz M ff_Mod_noteDone j := by
    intro j
    have e1 : rz (om_ready M v k p) ff_Mod_noteDone j = rz (fx_up M ff_Mod_noteDone ((rn M ff_Mod_notes 0)) (fx_bit true)) ff_Mod_noteDone j := rfl
    rw [e1]
    by_cases e : j = (rn M ff_Mod_notes 0)
    · rw [if_pos e, e, rz_same]
    · rw [if_neg e, rz_ne (fun w => e w.2)]
  have eW : ∀ j, oz ((om_ready M v k p) ff_Mod_whose j) = if j = k then none else oz (M ff_Mod_whose j) := by
    intro j
    have e1 : oz ((om_ready M v k p) ff_Mod_whose j) = oz (fx_up M ff_Mod_whose k fx_neg ff_Mod_whose j) := rfl
    rw [e1, pW_up, oz_neg]
  have sub : ∀ j q, oz ((om_ready M v k p) ff_Mod_whose j) = some q → j ≠ k ∧ oz (M ff_Mod_whose j) = some q := by
    intro j q hj
    rw [eW] at hj
    by_cases e : j = k
    · rw [if_pos e] at hj; cases hj
    · rw [if_neg e] at hj; exact ⟨e, hj⟩
  have non : ∀ j q, oz (M ff_Mod_whose j) ≠ some q → oz ((om_ready M v k p) ff_Mod_whose j) ≠ some q := fun j q hj w => hj (sub j q w).2
  refine ⟨h.ri.ready (by omega) hk hp5 hy (by omega), h.net, h.j2, h.j3, h.j4, h.j5, h.j6, h.j7, fun j q hj hq => h.j8 j q hj (sub j q hq).2, fun i j q hi hj h1 h2 => h.j8u i j q hi hj (sub i q h1).2 (sub j q h2).2, fun u i hu hi => ?_, h.j9u, fun j hj => ?_, fun i j hi hj e => ?_, h.j11, h.j11u, h.j13, h.j14⟩
  · obtain ⟨q1, q2, q3, q4, q5⟩ := h.j9 u i hu hi
    exact ⟨q1, q2, q3, q4, fun j hj => non j _ (q5 j hj)⟩
  · rw [eN] at hj
    by_cases e : j = (rn M ff_Mod_notes 0)
    · rw [eS, eD, if_pos e, if_pos e]
      refine ⟨by omega, (h.j8 k p hk hp).1, fun _ => ⟨t2, t3, fun i hi w => ?_, t5⟩, fun w => by cases w⟩
      obtain ⟨w1, w2⟩ := sub i p w
      exact w1 (h.j8u i k p hi hk w2 hp)
    · rw [eS, eD, if_neg e, if_neg e]
      obtain ⟨q1, q2, q3, q4⟩ := h.j10 j (by omega)
      refine ⟨q1, q2, fun hd => ?_, q4⟩
      obtain ⟨r1, r2, r3, r4⟩ := q3 hd
      exact ⟨r1, r2, fun i hi => non i _ (r3 i hi), r4⟩
  · rw [eN] at hi hj
    rw [eS, eS] at e
    by_cases c1 : i = (rn M ff_Mod_notes 0)
    · by_cases c2 : j = (rn M ff_Mod_notes 0)
      · omega
      · rw [if_pos c1, if_neg c2] at e
        exact absurd e.symm (t4 j (by omega))
    · by_cases c2 : j = (rn M ff_Mod_notes 0)
      · rw [if_neg c1, if_pos c2] at e
        exact absurd e (t4 i (by omega))
      · rw [if_neg c1, if_neg c2] at e
        exact h.j10u i j (by omega) (by omega) e
theorem JV.fill {v k : Nat} (h : JV M (fun j => j < (rn M ff_Mod_notes 0))) (hv : v < (rn M ff_Mod_all 0)) (hk : k < 256) (hkv : k / 4 = v) (hke : oz (M ff_Mod_whose k) = none) (hr : 0 < rn M ff_Mod_rowSize v) : JV (om_fill M v k) (fun j => j < (rn (om_fill M v k) ff_Mod_notes 0)) := by
  have h64 := h.all64
  have hn := h.n512
  have hr5 := h.rN512 hv
  obtain ⟨a1, a2, a3, a4, a5⟩ := h.j9 v 0 hv hr
  have hp5 := h.rRl hv hr
  rw [Nat.add_zero] at a1 a2 a3 a4 a5 hp5
  obtain ⟨p, hpe⟩ : ∃ p, p = rn M ff_Mod_row (512 * v) := ⟨_, rfl⟩
  rw [← hpe] at a1 a2 a3 a4 a5 hp5
  have eN : (rn (om_fill M v k) ff_Mod_notes 0) = (rn M ff_Mod_notes 0) + 1 := rn_fill_n (by omega)
  have eS : ∀ j, rn (om_fill M v k) ff_Mod_noteSlot j = if j = (rn M ff_Mod_notes 0) then p else rn M ff_Mod_noteSlot j := by
    intro j
    have e1 : rn (om_fill M v k) ff_Mod_noteSlot j = rn (fx_up M ff_Mod_noteSlot ((rn M ff_Mod_notes 0)) (nI (rn M ff_Mod_row (512 * v)))) ff_Mod_noteSlot j := rfl
    rw [e1, ← hpe]
    by_cases e : j = (rn M ff_Mod_notes 0)
    · rw [if_pos e, e, rn_same (by omega)]
    · rw [if_neg e, rn_ne (fun w => e w.2)]
  have eD : ∀ j, rz (om_fill M v k) ff_Mod_noteDone j = if j = (rn M ff_Mod_notes 0) then false else rz M ff_Mod_noteDone j := by
    intro j
    have e1 : rz (om_fill M v k) ff_Mod_noteDone j = rz (fx_up M ff_Mod_noteDone ((rn M ff_Mod_notes 0)) (fx_bit false)) ff_Mod_noteDone j := rfl
    rw [e1]
    by_cases e : j = (rn M ff_Mod_notes 0)
    · rw [if_pos e, e, rz_same]
    · rw [if_neg e, rz_ne (fun w => e w.2)]
  have eW : ∀ j, oz ((om_fill M v k) ff_Mod_whose j) = if j = k then some p else oz (M ff_Mod_whose j) := by
    intro j
    have e1 : oz ((om_fill M v k) ff_Mod_whose j) = oz (fx_up M ff_Mod_whose k (nI (rn M ff_Mod_row (512 * v))) ff_Mod_whose j) := rfl
    rw [e1, ← hpe, pW_up, oz_nI (by omega)]
  have eT : ∀ j, rn (om_fill M v k) ff_Mod_whichTry j = if j = k then 2 else rn M ff_Mod_whichTry j := by
    intro j
    have e1 : rn (om_fill M v k) ff_Mod_whichTry j = rn (fx_up M ff_Mod_whichTry k (nI 2)) ff_Mod_whichTry j := rfl
    rw [e1]
    by_cases e : j = k
    · rw [if_pos e, e, rn_same (by omega)]
    · rw [if_neg e, rn_ne (fun w => e w.2)]
  have eH : ∀ j, rn (om_fill M v k) ff_Mod_has j = if j = k then 0 else rn M ff_Mod_has j := by
    intro j
    have e1 : rn (om_fill M v k) ff_Mod_has j = rn (fx_up M ff_Mod_has k (nI 0)) ff_Mod_has j := rfl
    rw [e1]
    by_cases e : j = k
    · rw [if_pos e, e, rn_same (by omega)]
    · rw [if_neg e, rn_ne (fun w => e w.2)]
  have eRN : ∀ u, rn (om_fill M v k) ff_Mod_rowSize u = if u = v then rn M ff_Mod_rowSize v - 1 else rn M ff_Mod_rowSize u := by
    intro u
    have e1 : rn (om_fill M v k) ff_Mod_rowSize u = rn (fx_up M ff_Mod_rowSize v (nI (rn M ff_Mod_rowSize v - 1))) ff_Mod_rowSize u := rfl
    rw [e1]
    by_cases e : u = v
    · rw [if_pos e, e, rn_same (by omega)]
    · rw [if_neg e, rn_ne (fun w => e w.2)]
  have eRR : ∀ i, rn (om_fill M v k) ff_Mod_row i = if 512 * v ≤ i ∧ i < 512 * v + (rn M ff_Mod_rowSize v - 1) then rn M ff_Mod_row (i + 1) else rn M ff_Mod_row i := by
    intro i
    by_cases c : 512 * v ≤ i ∧ i < 512 * v + (rn M ff_Mod_rowSize v - 1)
    · rw [if_pos c]
      unfold rn
      unfold om_fill
      rw [om_sh_in c.1 c.2]
      rfl
    · rw [if_neg c]
      unfold rn
      unfold om_fill
      rw [om_sh_out (by omega)]
      rfl
  have nne : ∀ j, j < (rn M ff_Mod_notes 0) → rn M ff_Mod_noteSlot j ≠ p := by
    intro j hj e
    obtain ⟨-, -, q3, q4⟩ := h.j10 j hj
    rw [e] at q3 q4
    cases hd : rz M ff_Mod_noteDone j with
    | true =>
      rcases (q3 hd).2.2.2 with w | w
      · rw [a3] at w; cases w
      · omega
    | false => exact (q4 hd).2.2 v 0 hv hr (by rw [Nat.add_zero]; exact hpe.symm)
  -- the row that is left
  have rows : ∀ u i, u < (rn M ff_Mod_all 0) → i < rn (om_fill M v k) ff_Mod_rowSize u → ∃ i', i' < rn M ff_Mod_rowSize u ∧ rn (om_fill M v k) ff_Mod_row (512 * u + i) = rn M ff_Mod_row (512 * u + i') ∧ rn (om_fill M v k) ff_Mod_row (512 * u + i) ≠ p ∧ (i' = if u = v then i + 1 else i) := by
    intro u i hu hi
    rw [eRN] at hi
    by_cases e : u = v
    · rw [if_pos e] at hi
      subst e
      refine ⟨i + 1, by omega, by rw [eRR, if_pos (by omega), Nat.add_assoc], ?_, by rw [if_pos rfl]⟩
      rw [eRR, if_pos (by omega), Nat.add_assoc, hpe]
      intro q
      have := h.j9u u (i + 1) 0 hu (by omega) hr (by rw [Nat.add_zero]; exact q)
      omega
    · rw [if_neg e] at hi
      have := h.ri.rNl (v := u) (by omega)
      refine ⟨i, hi, by rw [eRR, if_neg (by omega)], ?_, by rw [if_neg e]⟩
      rw [eRR, if_neg (by omega)]
      intro q
      have := (h.j9 u i hu hi).2.1
      rw [q, a2] at this
      exact e this.symm
  refine ⟨h.ri.fill (by omega) hr (by omega), h.net, h.j2, h.j3, h.j4, h.j5, h.j6, h.j7, fun j q hj hq => ?_, fun i j q hi hj h1 h2 => ?_, fun u i hu hi => ?_, fun u i j hu hi hj e => ?_, fun j hj => ?_, fun i j hi hj e => ?_, h.j11, h.j11u, h.j13, h.j14⟩
  · rw [eW] at hq
    by_cases e : j = k
    · rw [if_pos e] at hq
      have hqp : p = q := Option.some.inj hq
      subst hqp
      rw [eT, eH, if_pos e, if_pos e]
      exact ⟨a1, by rw [e, hkv]; exact a2, Or.inr ⟨rfl, a3⟩, Nat.two_pow_pos _, fun b hb => (by rw [Nat.zero_testBit] at hb; cases hb), fun f hf _ _ => Nat.zero_testBit _⟩
    · rw [if_neg e] at hq
      rw [eT, eH, if_neg e, if_neg e]
      exact h.j8 j q hj hq
  · rw [eW] at h1 h2
    by_cases c1 : i = k
    · by_cases c2 : j = k
      · omega
      · rw [if_pos c1] at h1
        rw [if_neg c2] at h2
        cases h1
        exact absurd h2 (a5 j hj)
    · by_cases c2 : j = k
      · rw [if_neg c1] at h1
        rw [if_pos c2] at h2
        cases h2
        exact absurd h1 (a5 i hi)
      · rw [if_neg c1] at h1
        rw [if_neg c2] at h2
        exact h.j8u i j q hi hj h1 h2
  · obtain ⟨i', w1, w2, w3, -⟩ := rows u i hu hi
    obtain ⟨q1, q2, q3, q4, q5⟩ := h.j9 u i' hu w1
    rw [w2] at w3 ⊢
    refine ⟨q1, q2, q3, q4, fun j hj => ?_⟩
    rw [eW]
    by_cases e : j = k
    · rw [if_pos e]; exact fun q => w3 (Option.some.inj q).symm
    · rw [if_neg e]; exact q5 j hj
  · obtain ⟨i', w1, w2, -, w4⟩ := rows u i hu hi
    obtain ⟨j', y1, y2, -, y4⟩ := rows u j hu hj
    rw [w2, y2] at e
    have := h.j9u u i' j' hu w1 y1 e
    by_cases c : u = v
    · rw [if_pos c] at w4 y4; omega
    · rw [if_neg c] at w4 y4; omega
  · rw [eN] at hj
    by_cases e : j = (rn M ff_Mod_notes 0)
    · rw [eS, eD, if_pos e, if_pos e]
      refine ⟨by omega, a1, fun w => (by cases w), fun _ => ⟨a4, a3, fun u i hu hi => ?_⟩⟩
      obtain ⟨-, -, -, w3, -⟩ := rows u i hu hi
      exact w3
    · rw [eS, eD, if_neg e, if_neg e]
      obtain ⟨q1, q2, q3, q4⟩ := h.j10 j (by omega)
      refine ⟨q1, q2, fun hd => ?_, fun hd => ?_⟩
      · obtain ⟨r1, r2, r3, r4⟩ := q3 hd
        refine ⟨r1, r2, fun i hi => ?_, r4⟩
        rw [eW]
        by_cases c : i = k
        · rw [if_pos c]; exact fun q => nne j (by omega) (Option.some.inj q).symm
        · rw [if_neg c]; exact r3 i hi
      · obtain ⟨r1, r2, r3⟩ := q4 hd
        refine ⟨r1, r2, fun u i hu hi => ?_⟩
        obtain ⟨i', w1, w2, -, -⟩ := rows u i hu hi
        rw [w2]
        exact r3 u i' hu w1
  · rw [eN] at hi hj
    rw [eS, eS] at e
    by_cases c1 : i = (rn M ff_Mod_notes 0)
    · by_cases c2 : j = (rn M ff_Mod_notes 0)
      · omega
      · rw [if_pos c1, if_neg c2] at e
        exact absurd e.symm (nne j (by omega))
    · by_cases c2 : j = (rn M ff_Mod_notes 0)
      · rw [if_neg c1, if_pos c2] at e
        exact absurd e (nne i (by omega))
      · rw [if_neg c1, if_neg c2] at e
        exact h.j10u i j (by omega) (by omega) e
end
