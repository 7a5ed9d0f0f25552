/-! THE INVARIANTS: a flit enters -/
section
variable {M : rf_M} {lv : Nat → Prop}
theorem sp_any_iff {P : Nat → Bool} : ∀ {N : Nat}, sp_any P N = true ↔ ∃ i, i < N ∧ P i = true
  | 0 => ⟨fun h => (by cases h), fun ⟨i, h, _⟩ => (by omega)⟩
  | N + 1 => by
    unfold sp_any
    rw [Bool.or_eq_true, sp_any_iff (N := N)]
    constructor
    · rintro (⟨i, h1, h2⟩ | h)
      · exact ⟨i, by omega, h2⟩
      · exact ⟨N, by omega, h⟩
    · rintro ⟨i, h1, h2⟩
      by_cases e : i = N
      · subst e; exact Or.inr h2
      · exact Or.inl ⟨i, by omega, h2⟩
theorem sfl_some {v l : Nat} (h : sfl M v = some l) : l < 4 ∧ (∀ f, f < (rn M ff_Mod_flits 0) → rn M ff_Mod_at f = v → rn M ff_Mod_line f ≠ l) ∧ ∀ w, w < l → ∃ f, f < (rn M ff_Mod_flits 0) ∧ rn M ff_Mod_at f = v ∧ rn M ff_Mod_line f = w := by
  obtain ⟨h1, h2, h3, h4⟩ := sp_first_some.mp h
  refine ⟨by omega, fun f hf e1 e2 => ?_, fun w hw => ?_⟩
  · have : sp_any (fun f => rn M ff_Mod_at f == v && rn M ff_Mod_line f == l) ((rn M ff_Mod_flits 0)) = true := sp_any_iff.mpr ⟨f, hf, by simp [e1, e2]⟩
    rw [this] at h3
    cases h3
  · have := h4 w (by omega) hw
    have : sp_any (fun f => rn M ff_Mod_at f == v && rn M ff_Mod_line f == w) ((rn M ff_Mod_flits 0)) = true := by simpa using this
    obtain ⟨f, f1, f2⟩ := sp_any_iff.mp this
    simp only [Bool.and_eq_true, beq_iff_eq] at f2
    exact ⟨f, f1, f2.1, f2.2⟩
theorem sfl_ex {v : Nat} (h : sfa M v < 4) : ∃ l, sfl M v = some l := by
  cases hs : sfl M v with
  | some l => exact ⟨l, rfl⟩
  | none =>
    exfalso
    have h1 : ∀ w, w < 4 → ∃ f, f < (rn M ff_Mod_flits 0) ∧ rn M ff_Mod_at f = v ∧ rn M ff_Mod_line f = w := by
      intro w hw
      have := sp_first_none.mp hs w (by omega) (by omega)
      have : sp_any (fun f => rn M ff_Mod_at f == v && rn M ff_Mod_line f == w) ((rn M ff_Mod_flits 0)) = true := by simpa using this
      obtain ⟨f, f1, f2⟩ := sp_any_iff.mp this
      simp only [Bool.and_eq_true, beq_iff_eq] at f2
      exact ⟨f, f1, f2.1, f2.2⟩
    have h2 := cnt_inj (P := fun _ => true) (φ := fun w => if hw : w < 4 then (h1 w hw).choose else 0) 4 (fun f => rn M ff_Mod_at f == v) (K := (rn M ff_Mod_flits 0)) (fun i hi _ => by
      try dsimp only
      rw [dif_pos hi]
      have := (h1 i hi).choose_spec
      exact ⟨this.1, by simpa using this.2.1⟩) (fun i j hi hj _ _ e => by
      try dsimp only at e
      rw [dif_pos hi, dif_pos hj] at e
      have a := (h1 i hi).choose_spec.2.2
      have b := (h1 j hj).choose_spec.2.2
      rw [e] at a
      omega)
    rw [sp_cnt_true] at h2
    have : sp_cnt (fun f => rn M ff_Mod_at f == v) ((rn M ff_Mod_flits 0)) = sfa M v := rfl
    omega
theorem JV.room {v l : Nat} (h : JV M lv) (hv : v < (rn M ff_Mod_all 0)) (hl : l < 4) (hfree : ∀ f, f < (rn M ff_Mod_flits 0) → rn M ff_Mod_at f = v → rn M ff_Mod_line f ≠ l) : (rn M ff_Mod_flits 0) < 256 := by
  have h64 := h.all64
  have h257 := h.ri.fNl
  have := pigeon (N := (rn M ff_Mod_flits 0) + 1) (K := 256) (fun i => if i < (rn M ff_Mod_flits 0) then 4 * rn M ff_Mod_at i + rn M ff_Mod_line i else 4 * v + l) (fun i _ => by
    split
    · have := h.ri.mAl (f := i) (by omega)
      have := h.ri.mLl (f := i) (by omega)
      omega
    · omega) (fun i j hi hj e => by
    have b : ∀ i, i < (rn M ff_Mod_flits 0) → rn M ff_Mod_line i < 4 := fun i hi => h.ri.mLl (f := i) (by omega)
    by_cases q1 : i < (rn M ff_Mod_flits 0)
    · by_cases q2 : j < (rn M ff_Mod_flits 0)
      · rw [if_pos q1, if_pos q2] at e
        have := b i q1
        have := b j q2
        exact h.j4 i j q1 q2 (by omega) (by omega)
      · rw [if_pos q1, if_neg q2] at e
        have := b i q1
        exact absurd (show rn M ff_Mod_line i = l by omega) (hfree i q1 (by omega))
    · by_cases q2 : j < (rn M ff_Mod_flits 0)
      · rw [if_neg q1, if_pos q2] at e
        have := b j q2
        exact absurd (show rn M ff_Mod_line j = l by omega) (hfree j q2 (by omega))
      · omega)
  omega
/-! the views of a flit entered -/
theorem flit_view {v p l f i : Nat} (hf : f ≠ ff_Mod_at) (h2 : f ≠ ff_Mod_line) (h3 : f ≠ ff_Mod_source) (h4 : f ≠ ff_Mod_slot) (h5 : f ≠ ff_Mod_number) (h6 : f ≠ ff_Mod_entry) (h7 : f ≠ ff_Mod_tries) (h8 : f ≠ ff_Mod_flits) (h9 : f ≠ ff_Mod_entered) : om_flit M v p l f i = M f i := by
  unfold om_flit
  try dsimp only
  rw [fx_up_ne (fun q => h9 q.1), fx_up_ne (fun q => h8 q.1), fx_up_ne (fun q => h7 q.1), fx_up_ne (fun q => h6 q.1), fx_up_ne (fun q => h5 q.1), fx_up_ne (fun q => h4 q.1), fx_up_ne (fun q => h3 q.1), fx_up_ne (fun q => h2 q.1), fx_up_ne (fun q => hf q.1)]
theorem flit_f1 {v p l i : Nat} (hv : v < 64) : rn (om_flit M v p l) ff_Mod_at i = if i = (rn M ff_Mod_flits 0) then v else rn M ff_Mod_at i := by
  have e : rn (om_flit M v p l) ff_Mod_at i = rn (fx_up M ff_Mod_at ((rn M ff_Mod_flits 0)) (nI v)) ff_Mod_at i := rfl
  rw [e]
  by_cases c : i = (rn M ff_Mod_flits 0)
  · rw [if_pos c, c, rn_same (by omega)]
  · rw [if_neg c, rn_ne (fun q => c q.2)]
theorem flit_f2 {v p l i : Nat} (hl : l < 4) : rn (om_flit M v p l) ff_Mod_line i = if i = (rn M ff_Mod_flits 0) then l else rn M ff_Mod_line i := by
  have e : rn (om_flit M v p l) ff_Mod_line i = rn (fx_up M ff_Mod_line ((rn M ff_Mod_flits 0)) (nI l)) ff_Mod_line i := rfl
  rw [e]
  by_cases c : i = (rn M ff_Mod_flits 0)
  · rw [if_pos c, c, rn_same (by omega)]
  · rw [if_neg c, rn_ne (fun q => c q.2)]
theorem flit_f3 {v p l i : Nat} (hv : v < 64) : rn (om_flit M v p l) ff_Mod_source i = if i = (rn M ff_Mod_flits 0) then v else rn M ff_Mod_source i := by
  have e : rn (om_flit M v p l) ff_Mod_source i = rn (fx_up M ff_Mod_source ((rn M ff_Mod_flits 0)) (nI v)) ff_Mod_source i := rfl
  rw [e]
  by_cases c : i = (rn M ff_Mod_flits 0)
  · rw [if_pos c, c, rn_same (by omega)]
  · rw [if_neg c, rn_ne (fun q => c q.2)]
theorem flit_f4 {v p l i : Nat} : rn (om_flit M v p l) ff_Mod_slot i = if i = (rn M ff_Mod_flits 0) then p % 8 else rn M ff_Mod_slot i := by
  have e : rn (om_flit M v p l) ff_Mod_slot i = rn (fx_up M ff_Mod_slot ((rn M ff_Mod_flits 0)) (nI (p % 8))) ff_Mod_slot i := rfl
  rw [e]
  by_cases c : i = (rn M ff_Mod_flits 0)
  · rw [if_pos c, c, rn_same (by omega)]
  · rw [if_neg c, rn_ne (fun q => c q.2)]
theorem flit_f5 {v p l i : Nat} (h : rn M ff_Mod_entered p < 9) : rn (om_flit M v p l) ff_Mod_number i = if i = (rn M ff_Mod_flits 0) then rn M ff_Mod_entered p else rn M ff_Mod_number i := by
  have e : rn (om_flit M v p l) ff_Mod_number i = rn (fx_up M ff_Mod_number ((rn M ff_Mod_flits 0)) (nI (rn M ff_Mod_entered p))) ff_Mod_number i := rfl
  rw [e]
  by_cases c : i = (rn M ff_Mod_flits 0)
  · rw [if_pos c, c, rn_same (by omega)]
  · rw [if_neg c, rn_ne (fun q => c q.2)]
theorem flit_f6 {v p l i : Nat} (h : rn M ff_Mod_cycle 0 < 1000000) : rn (om_flit M v p l) ff_Mod_entry i = if i = (rn M ff_Mod_flits 0) then rn M ff_Mod_cycle 0 else rn M ff_Mod_entry i := by
  have e : rn (om_flit M v p l) ff_Mod_entry i = rn (fx_up M ff_Mod_entry ((rn M ff_Mod_flits 0)) (nI (rn M ff_Mod_cycle 0))) ff_Mod_entry i := rfl
  rw [e]
  by_cases c : i = (rn M ff_Mod_flits 0)
  · rw [if_pos c, c, rn_same (by omega)]
  · rw [if_neg c, rn_ne (fun q => c q.2)]
theorem flit_f7 {v p l i : Nat} (h : rn M ff_Mod_slotTry p < 1000) : rn (om_flit M v p l) ff_Mod_tries i = if i = (rn M ff_Mod_flits 0) then rn M ff_Mod_slotTry p else rn M ff_Mod_tries i := by
  have e : rn (om_flit M v p l) ff_Mod_tries i = rn (fx_up M ff_Mod_tries ((rn M ff_Mod_flits 0)) (nI (rn M ff_Mod_slotTry p))) ff_Mod_tries i := rfl
  rw [e]
  by_cases c : i = (rn M ff_Mod_flits 0)
  · rw [if_pos c, c, rn_same (by omega)]
  · rw [if_neg c, rn_ne (fun q => c q.2)]
theorem flit_f8 {v p l : Nat} (h : (rn M ff_Mod_flits 0) < 257) : (rn (om_flit M v p l) ff_Mod_flits 0) = (rn M ff_Mod_flits 0) + 1 := by
  unfold om_flit
  try dsimp only
  rw [rn_pe (by decide), rn_same (by omega)]
theorem flit_f9 {v p l q : Nat} (h : rn M ff_Mod_entered p < 9) : rn (om_flit M v p l) ff_Mod_entered q = if q = p then rn M ff_Mod_entered p + 1 else rn M ff_Mod_entered q := by
  have e : rn (om_flit M v p l) ff_Mod_entered q = rn (fx_up M ff_Mod_entered p (nI (rn M ff_Mod_entered p + 1))) ff_Mod_entered q := rfl
  rw [e]
  by_cases c : q = p
  · rw [if_pos c, c, rn_same (by omega)]
  · rw [if_neg c, rn_ne (fun w => c w.2)]
theorem flit_spk {v p l i : Nat} (hv : v < 64) (hpv : p / 8 = v) : spk (om_flit M v p l) i = if i = (rn M ff_Mod_flits 0) then p else spk M i := by
  unfold spk
  rw [flit_f3 hv, flit_f4]
  by_cases c : i = (rn M ff_Mod_flits 0)
  · rw [if_pos c, if_pos c, if_pos c]; omega
  · rw [if_neg c, if_neg c, if_neg c]
/-- what must be known of a packet whose flit enters -/
def JP (M : rf_M) (v p : Nat) : Prop := p < 512 ∧ p / 8 = v ∧ 0 < rn M ff_Mod_lengths p ∧ rn M ff_Mod_entered p < rn M ff_Mod_lengths p ∧ (∀ f, f < (rn M ff_Mod_flits 0) → spk M f = p → rn M ff_Mod_tries f = rn M ff_Mod_slotTry p) ∧ (∀ q, q < 512 → q / 8 = v → suw M q = true → q = p) ∧ ∀ i, i < rn M ff_Mod_agains v → rn M ff_Mod_again (8 * v + i) ≠ p
theorem JV.flit {v p l : Nat} (h : JV M lv) (hv : v < (rn M ff_Mod_all 0)) (hp : JP M v p) (hl : l < 4) (hfree : ∀ f, f < (rn M ff_Mod_flits 0) → rn M ff_Mod_at f = v → rn M ff_Mod_line f ≠ l) (hcnt : sfa M v < fx_ow (rz M ff_Mod_closed) v 4) : JV (om_flit M v p l) lv := by
  obtain ⟨p1, p2, p3, p4, p5, p6, p7⟩ := hp
  have h64 := h.all64
  have hv64 : v < 64 := by omega
  have hN := h.room hv hl hfree
  have hE9 : rn M ff_Mod_entered p < 9 := h.ri.gEl p1
  have hL9 := h.ri.gLl p1
  obtain ⟨c1, c2, c3, c4, c5⟩ := h.j6 p p1 p3
  have hT1 : rn M ff_Mod_slotTry p < 1000 := by rcases c1 with q | q <;> omega
  have f1 := fun i => flit_f1 (M := M) (v := v) (p := p) (l := l) (i := i) hv64
  have f2 := fun i => flit_f2 (M := M) (v := v) (p := p) (l := l) (i := i) hl
  have f5 := fun i => flit_f5 (M := M) (v := v) (p := p) (l := l) (i := i) hE9
  have f7 := fun i => flit_f7 (M := M) (v := v) (p := p) (l := l) (i := i) hT1
  have f8 := flit_f8 (M := M) (v := v) (p := p) (l := l) (by omega)
  have f9 := fun q => flit_f9 (M := M) (v := v) (p := p) (l := l) (q := q) hE9
  have fs := fun i => flit_spk (M := M) (v := v) (p := p) (l := l) (i := i) hv64 p2
  have gEm : ∀ q, rn M ff_Mod_entered q ≤ rn (om_flit M v p l) ff_Mod_entered q := by
    intro q
    rw [f9]
    split
    · rename_i e; rw [e]; omega
    · omega
  have old : ∀ f, f < (rn M ff_Mod_flits 0) → spk M f = p → rn M ff_Mod_number f < rn M ff_Mod_entered p := fun f hf e => by
    have := h.j2 f hf
    rw [e] at this
    exact this.2.2.2.2.2.1 (p5 f hf e)
  refine ⟨h.ri.flit hv64 p1 hl (by omega) hN, ⟨h.net.1, h.net.2.1, fun i hi => ?_⟩, fun i hi => ?_, fun i j hi hj e1 e2 => ?_, fun i j hi hj e1 e2 => ?_, fun u hu => ?_, fun q hq hq0 => ?_, fun q r hq hr e s1 s2 => ?_, fun k q hk hq => ?_, h.j8u, h.j9, h.j9u, fun k hk => ?_, h.j10u, fun u i hu hi => ?_, h.j11u, h.j13, h.j14⟩
  · rw [f8] at hi
    rw [f1]
    by_cases c : i = (rn M ff_Mod_flits 0)
    · rw [if_pos c]; exact hv
    · rw [if_neg c]; exact h.net.2.2 i (by omega)
  · rw [f8] at hi
    rw [fs, f5, f7]
    by_cases c : i = (rn M ff_Mod_flits 0)
    · rw [if_pos c, if_pos c, if_pos c, f9, if_pos rfl]
      exact ⟨p3, p4, p1, by rcases c1 with q | q <;> omega, Nat.le_refl _, fun _ => by omega, fun w => absurd w (Nat.lt_irrefl _)⟩
    · rw [if_neg c, if_neg c, if_neg c]
      obtain ⟨q1, q2, q3, q4, q5, q6, q7⟩ := h.j2 i (by omega)
      refine ⟨q1, q2, q3, q4, q5, fun w => ?_, fun w => ?_⟩
      · have := gEm (spk M i)
        have := q6 w
        omega
      · rw [f9]
        by_cases d : spk M i = p
        · exfalso
          have w' : rn M ff_Mod_tries i < rn M ff_Mod_slotTry (spk M i) := w
          rw [p5 i (by omega) d, d] at w'
          omega
        · rw [if_neg d]; exact q7 w
  · rw [f8] at hi hj
    rw [fs, fs] at e1
    rw [f5, f5] at e2
    by_cases c1 : i = (rn M ff_Mod_flits 0)
    · by_cases c2 : j = (rn M ff_Mod_flits 0)
      · omega
      · rw [if_pos c1, if_neg c2] at e1 e2
        have := old j (by omega) e1.symm
        omega
    · by_cases c2 : j = (rn M ff_Mod_flits 0)
      · rw [if_neg c1, if_pos c2] at e1 e2
        have := old i (by omega) e1
        omega
      · rw [if_neg c1, if_neg c2] at e1 e2
        exact h.j3 i j (by omega) (by omega) e1 e2
  · rw [f8] at hi hj
    rw [f1, f1] at e1
    rw [f2, f2] at e2
    by_cases c1 : i = (rn M ff_Mod_flits 0)
    · by_cases c2 : j = (rn M ff_Mod_flits 0)
      · omega
      · rw [if_pos c1, if_neg c2] at e1 e2
        exact absurd e2.symm (hfree j (by omega) e1.symm)
    · by_cases c2 : j = (rn M ff_Mod_flits 0)
      · rw [if_neg c1, if_pos c2] at e1 e2
        exact absurd e2 (hfree i (by omega) e1)
      · rw [if_neg c1, if_neg c2] at e1 e2
        exact h.j4 i j (by omega) (by omega) e1 e2
  · rw [f8]
    show sp_cnt _ ((rn M ff_Mod_flits 0) + 1) ≤ fx_ow (rz M ff_Mod_closed) u 4
    have ec : sp_cnt (fun f => rn (om_flit M v p l) ff_Mod_at f == u) ((rn M ff_Mod_flits 0)) = sp_cnt (fun f => rn M ff_Mod_at f == u) ((rn M ff_Mod_flits 0)) := sp_cnt_congr _ (fun i hi => by rw [f1, if_neg (by omega)])
    unfold sp_cnt
    rw [ec, f1, if_pos rfl]
    by_cases c : v = u
    · subst c
      have : sp_cnt (fun f => rn M ff_Mod_at f == v) ((rn M ff_Mod_flits 0)) = sfa M v := rfl
      rw [show (v == v) = true by simp, cond_true]
      omega
    · have e : (v == u) = false := by simpa using c
      rw [e, cond_false]
      exact h.j5 u hu
  · obtain ⟨q1, q2, q3⟩ := h.j6 q hq hq0
    refine ⟨q1, ?_, q3⟩
    rw [f9]
    by_cases c : q = p
    · rw [if_pos c, c]; exact p4
    · rw [if_neg c]; exact q2
  · have u : ∀ q, q < 512 → q / 8 = v → suw (om_flit M v p l) q = true → q = p := by
      intro q hq hqv sq
      by_cases c : q = p
      · exact c
      · refine p6 q hq hqv ?_
        unfold suw at sq ⊢
        rw [f9, if_neg c] at sq
        exact sq
    by_cases c : q / 8 = v
    · rw [u q hq c s1, u r hr (by omega) s2]
    · have uu : ∀ q, q / 8 ≠ v → suw (om_flit M v p l) q = true → suw M q = true := by
        intro q hqv sq
        unfold suw at sq ⊢
        rw [f9, if_neg (by intro w; rw [w] at hqv; omega)] at sq
        exact sq
      exact h.j7 q r hq hr e (uu q c s1) (uu r (by omega) s2)
  · obtain ⟨q1, q2, q3, q4, q5, q6⟩ := h.j8 k q hk hq
    refine ⟨q1, q2, q3, q4, fun b hb => ?_, fun i hi e1 e2 => ?_⟩
    · exact ⟨(q5 b hb).1, Nat.lt_of_lt_of_le (q5 b hb).2 (gEm q)⟩
    · rw [f8] at hi
      rw [fs] at e1
      rw [f7] at e2
      rw [f5]
      by_cases c : i = (rn M ff_Mod_flits 0)
      · rw [if_pos c] at e1 e2 ⊢
        cases hb : (rn M ff_Mod_has k).testBit (rn M ff_Mod_entered p) with
        | false => exact hb
        | true =>
          have := (q5 _ hb).2
          rw [← e1] at this
          omega
      · rw [if_neg c] at e1 e2 ⊢
        exact q6 i (by omega) e1 e2
  · obtain ⟨q1, q2, q3, q4⟩ := h.j10 k hk
    refine ⟨q1, q2, fun hd => ?_, q4⟩
    obtain ⟨r1, r2, r3⟩ := q3 hd
    have hne : rn M ff_Mod_noteSlot k ≠ p := fun q => by rw [q] at r1; omega
    refine ⟨?_, fun i hi => ?_, r3⟩
    · show rn (om_flit M v p l) ff_Mod_entered (rn M ff_Mod_noteSlot k) = rn M ff_Mod_lengths (rn M ff_Mod_noteSlot k)
      rw [f9, if_neg hne]
      exact r1
    · show spk (om_flit M v p l) i ≠ rn M ff_Mod_noteSlot k
      rw [f8] at hi
      rw [fs]
      by_cases c : i = (rn M ff_Mod_flits 0)
      · rw [if_pos c]; exact hne.symm
      · rw [if_neg c]; exact r2 i (by omega)
  · obtain ⟨q1, q2, q3, q4⟩ := h.j11 u i hu hi
    refine ⟨q1, q2, q3, ?_⟩
    show rn (om_flit M v p l) ff_Mod_entered (rn M ff_Mod_again (8 * u + i)) = 0
    rw [f9, if_neg]
    · exact q4
    · intro w
      by_cases c : u = v
      · subst c; exact p7 i hi w
      · rw [w] at q1; omega
/-! the row AGAIN loses its first one -/
theorem unag_N {v u : Nat} (h : rn M ff_Mod_agains v < 9) : rn (om_unag M v) ff_Mod_agains u = if u = v then rn M ff_Mod_agains v - 1 else rn M ff_Mod_agains u := by
  have e1 : rn (om_unag M v) ff_Mod_agains u = rn (fx_up M ff_Mod_agains v (nI (rn M ff_Mod_agains v - 1))) ff_Mod_agains u := rfl
  rw [e1]
  by_cases e : u = v
  · rw [if_pos e, e, rn_same (by omega)]
  · rw [if_neg e, rn_ne (fun w => e w.2)]
theorem unag_R {v u i : Nat} (hi : i < if u = v then rn M ff_Mod_agains v - 1 else rn M ff_Mod_agains u) (h9 : rn M ff_Mod_agains v < 9) (hu9 : rn M ff_Mod_agains u < 9) : rn (om_unag M v) ff_Mod_again (8 * u + i) = if u = v then rn M ff_Mod_again (8 * v + (i + 1)) else rn M ff_Mod_again (8 * u + i) := by
  unfold om_unag rn
  by_cases e : u = v
  · rw [if_pos e] at hi ⊢
    subst e
    rw [om_sh_in (by omega) (by have e : (M ff_Mod_agains u).toNatClampNeg = rn M ff_Mod_agains u := rfl; omega), fx_up_ne (fun q => absurd q.1 (by decide))]
    rfl
  · rw [if_neg e] at hi ⊢
    rw [om_sh_out (by have e : (M ff_Mod_agains v).toNatClampNeg = rn M ff_Mod_agains v := rfl; omega), fx_up_ne (fun q => absurd q.1 (by decide))]
theorem JV.unag {v : Nat} (h : JV M lv) (hv : v < (rn M ff_Mod_all 0)) (ha : 0 < rn M ff_Mod_agains v) : JV (om_unag M v) lv ∧ ∀ i, i < rn (om_unag M v) ff_Mod_agains v → rn (om_unag M v) ff_Mod_again (8 * v + i) ≠ rn M ff_Mod_again (8 * v) := by
  have h64 := h.all64
  have h9 := h.ri.aNl (v := v) (by omega)
  have eN := fun u => unag_N (M := M) (v := v) (u := u) h9
  have rows : ∀ u i, u < (rn M ff_Mod_all 0) → i < rn (om_unag M v) ff_Mod_agains u → ∃ i', i' < rn M ff_Mod_agains u ∧ rn (om_unag M v) ff_Mod_again (8 * u + i) = rn M ff_Mod_again (8 * u + i') ∧ i' = (if u = v then i + 1 else i) := by
    intro u i hu hi
    rw [eN] at hi
    have hu9 := h.ri.aNl (v := u) (by omega)
    have e := unag_R hi h9 hu9
    by_cases c : u = v
    · rw [if_pos c] at hi e
      refine ⟨i + 1, by rw [c]; omega, ?_, by rw [if_pos c]⟩
      rw [e, c]
    · rw [if_neg c] at hi e
      exact ⟨i, hi, e, by rw [if_neg c]⟩
  refine ⟨⟨h.ri.unag (by omega) ha, h.net, h.j2, h.j3, h.j4, h.j5, h.j6, h.j7, h.j8, h.j8u, h.j9, h.j9u, h.j10, h.j10u, fun u i hu hi => ?_, fun u i j hu hi hj e => ?_, h.j13, h.j14⟩, fun i hi q => ?_⟩
  · obtain ⟨i', w1, w2, -⟩ := rows u i hu hi
    rw [w2]
    exact h.j11 u i' hu w1
  · obtain ⟨i', w1, w2, w3⟩ := rows u i hu hi
    obtain ⟨j', y1, y2, y3⟩ := rows u j hu hj
    rw [w2, y2] at e
    have := h.j11u u i' j' hu w1 y1 e
    by_cases c : u = v
    · rw [if_pos c] at w3 y3; omega
    · rw [if_neg c] at w3 y3; omega
  · obtain ⟨i', w1, w2, w3⟩ := rows v i hv hi
    rw [w2] at q
    rw [if_pos rfl] at w3
    have := h.j11u v i' 0 hv w1 ha q
    omega
/-! the first one that waits takes a slot -/
theorem unwt_v {v p f i : Nat} (h1 : f ≠ ff_Mod_goals) (h2 : f ≠ ff_Mod_lengths) (h3 : f ≠ ff_Mod_tags) (h4 : f ≠ ff_Mod_slotTry) (h5 : f ≠ ff_Mod_entered) (h6 : f ≠ ff_Mod_asked) (h7 : f ≠ ff_Mod_waits) (h8 : f ≠ ff_Mod_waitGoal) (h9 : f ≠ ff_Mod_waitLength) (h10 : f ≠ ff_Mod_waitTag) : om_unwt M v p f i = M f i := by
  unfold om_unwt om_slot
  try dsimp only
  rw [om_sh_ne h10, om_sh_ne h9, om_sh_ne h8, fx_up_ne (fun q => h7 q.1), fx_up_ne (fun q => h6 q.1), fx_up_ne (fun q => h5 q.1), fx_up_ne (fun q => h4 q.1), fx_up_ne (fun q => h3 q.1), fx_up_ne (fun q => h2 q.1), fx_up_ne (fun q => h1 q.1)]
theorem unwt_G {v p q : Nat} (h : rn M ff_Mod_waitGoal (4 * v) < 64) : rn (om_unwt M v p) ff_Mod_goals q = if q = p then rn M ff_Mod_waitGoal (4 * v) else rn M ff_Mod_goals q := by
  have e1 : rn (om_unwt M v p) ff_Mod_goals q = rn (fx_up M ff_Mod_goals p (nI (rn M ff_Mod_waitGoal (4 * v)))) ff_Mod_goals q := rfl
  rw [e1]
  by_cases e : q = p
  · rw [if_pos e, e, rn_same (by omega)]
  · rw [if_neg e, rn_ne (fun w => e w.2)]
theorem unwt_L {v p q : Nat} (h : rn M ff_Mod_waitLength (4 * v) < 9) : rn (om_unwt M v p) ff_Mod_lengths q = if q = p then rn M ff_Mod_waitLength (4 * v) else rn M ff_Mod_lengths q := by
  have e1 : rn (om_unwt M v p) ff_Mod_lengths q = rn (fx_up M ff_Mod_lengths p (nI (rn M ff_Mod_waitLength (4 * v)))) ff_Mod_lengths q := rfl
  rw [e1]
  by_cases e : q = p
  · rw [if_pos e, e, rn_same (by omega)]
  · rw [if_neg e, rn_ne (fun w => e w.2)]
theorem unwt_T {v p q : Nat} : rn (om_unwt M v p) ff_Mod_slotTry q = if q = p then 1 else rn M ff_Mod_slotTry q := by
  have e1 : rn (om_unwt M v p) ff_Mod_slotTry q = rn (fx_up M ff_Mod_slotTry p (nI 1)) ff_Mod_slotTry q := rfl
  rw [e1]
  by_cases e : q = p
  · rw [if_pos e, e, rn_same (by omega)]
  · rw [if_neg e, rn_ne (fun w => e w.2)]
theorem unwt_E {v p q : Nat} : rn (om_unwt M v p) ff_Mod_entered q = if q = p then 0 else rn M ff_Mod_entered q := by
  have e1 : rn (om_unwt M v p) ff_Mod_entered q = rn (fx_up M ff_Mod_entered p (nI 0)) ff_Mod_entered q := rfl
  rw [e1]
  by_cases e : q = p
  · rw [if_pos e, e, rn_same (by omega)]
  · rw [if_neg e, rn_ne (fun w => e w.2)]
theorem unwt_A {v p q : Nat} : rz (om_unwt M v p) ff_Mod_asked q = if q = p then false else rz M ff_Mod_asked q := by
  have e1 : rz (om_unwt M v p) ff_Mod_asked q = rz (fx_up M ff_Mod_asked p (fx_bit false)) ff_Mod_asked q := rfl
  rw [e1]
  by_cases e : q = p
  · rw [if_pos e, e, rz_same]
  · rw [if_neg e, rz_ne (fun w => e w.2)]
theorem unwt_N {v p u : Nat} (h : rn M ff_Mod_waits v < 5) : rn (om_unwt M v p) ff_Mod_waits u = if u = v then rn M ff_Mod_waits v - 1 else rn M ff_Mod_waits u := by
  have e1 : rn (om_unwt M v p) ff_Mod_waits u = rn (fx_up M ff_Mod_waits v (nI (rn M ff_Mod_waits v - 1))) ff_Mod_waits u := rfl
  rw [e1]
  by_cases e : u = v
  · rw [if_pos e, e, rn_same (by omega)]
  · rw [if_neg e, rn_ne (fun w => e w.2)]
theorem unwt_wG {v p u i : Nat} (hi : i < if u = v then rn M ff_Mod_waits v - 1 else rn M ff_Mod_waits u) (h9 : rn M ff_Mod_waits v < 5) (hu9 : rn M ff_Mod_waits u < 5) : om_unwt M v p ff_Mod_waitGoal (4 * u + i) = if u = v then M ff_Mod_waitGoal (4 * v + (i + 1)) else M ff_Mod_waitGoal (4 * u + i) := by
  have e1 : om_unwt M v p ff_Mod_waitGoal (4 * u + i) = om_sh M ff_Mod_waitGoal (4 * v) (rn M ff_Mod_waits v - 1) ff_Mod_waitGoal (4 * u + i) := by
    unfold om_unwt
    try dsimp only
    rw [om_sh_ne (by decide), om_sh_ne (by decide)]
    rfl
  rw [e1]
  by_cases e : u = v
  · rw [if_pos e] at hi ⊢
    subst e
    rw [om_sh_in (by omega) (by omega)]
    rfl
  · rw [if_neg e] at hi ⊢
    rw [om_sh_out (by omega)]
theorem unwt_wL {v p u i : Nat} (hi : i < if u = v then rn M ff_Mod_waits v - 1 else rn M ff_Mod_waits u) (h9 : rn M ff_Mod_waits v < 5) (hu9 : rn M ff_Mod_waits u < 5) : om_unwt M v p ff_Mod_waitLength (4 * u + i) = if u = v then M ff_Mod_waitLength (4 * v + (i + 1)) else M ff_Mod_waitLength (4 * u + i) := by
  have e1 : om_unwt M v p ff_Mod_waitLength (4 * u + i) = om_sh M ff_Mod_waitLength (4 * v) (rn M ff_Mod_waits v - 1) ff_Mod_waitLength (4 * u + i) := by
    unfold om_unwt
    try dsimp only
    rw [om_sh_ne (by decide)]
    rfl
  rw [e1]
  by_cases e : u = v
  · rw [if_pos e] at hi ⊢
    subst e
    rw [om_sh_in (by omega) (by omega)]
    rfl
  · rw [if_neg e] at hi ⊢
    rw [om_sh_out (by omega)]
theorem unwt_wT {v p u i : Nat} (hi : i < if u = v then rn M ff_Mod_waits v - 1 else rn M ff_Mod_waits u) (h9 : rn M ff_Mod_waits v < 5) (hu9 : rn M ff_Mod_waits u < 5) : om_unwt M v p ff_Mod_waitTag (4 * u + i) = if u = v then M ff_Mod_waitTag (4 * v + (i + 1)) else M ff_Mod_waitTag (4 * u + i) := by
  have e1 : om_unwt M v p ff_Mod_waitTag (4 * u + i) = om_sh M ff_Mod_waitTag (4 * v) (rn M ff_Mod_waits v - 1) ff_Mod_waitTag (4 * u + i) := rfl
  rw [e1]
  by_cases e : u = v
  · rw [if_pos e] at hi ⊢
    subst e
    rw [om_sh_in (by omega) (by omega)]
    rfl
  · rw [if_neg e] at hi ⊢
    rw [om_sh_out (by omega)]
/-- nothing speaks of an empty slot -/
theorem JV.idle {p : Nat} (h : JV M lv) (hp : rn M ff_Mod_lengths p = 0) : (∀ f, f < (rn M ff_Mod_flits 0) → spk M f ≠ p) ∧ (∀ k, k < 256 → oz (M ff_Mod_whose k) ≠ some p) ∧ (∀ v i, v < (rn M ff_Mod_all 0) → i < rn M ff_Mod_rowSize v → rn M ff_Mod_row (512 * v + i) ≠ p) ∧ (∀ k, lv k → rn M ff_Mod_noteSlot k ≠ p) ∧ ∀ v i, v < (rn M ff_Mod_all 0) → i < rn M ff_Mod_agains v → rn M ff_Mod_again (8 * v + i) ≠ p := by
  refine ⟨fun f hf q => ?_, fun k hk q => ?_, fun v i hv hi q => ?_, fun k hk q => ?_, fun v i hv hi q => ?_⟩
  · have := (h.j2 f hf).1
    rw [q] at this
    omega
  · have := (h.j8 k p hk q).1
    omega
  · have := (h.j9 v i hv hi).1
    rw [q] at this
    omega
  · have := (h.j10 k hk).2.1
    rw [q] at this
    omega
  · have := (h.j11 v i hv hi).2.1
    rw [q] at this
    omega
theorem JV.unwt {v p : Nat} (h : JV M lv) (hv : v < (rn M ff_Mod_all 0)) (hp : p < 512) (hpv : p / 8 = v) (hl0 : rn M ff_Mod_lengths p = 0) (hw : 0 < rn M ff_Mod_waits v) : JV (om_unwt M v p) lv ∧ ∀ u ex, u < 64 → J12 M u ex → J12 (om_unwt M v p) u ex := by
  have h64 := h.all64
  obtain ⟨i1, i2, i3, i4, i5⟩ := h.idle hl0
  have hw5 := h.ri.wNl (v := v) (by omega)
  obtain ⟨w1, w2, w3⟩ := h.j13 v 0 hv hw
  rw [Nat.add_zero] at w1 w2 w3
  have wL9 : rn M ff_Mod_waitLength (4 * v) < 9 := h.ri.l ff_Mod_waitLength (4 * v) 9 (n := 256) rfl (by omega) rfl (by omega)
  have eG := fun q => unwt_G (M := M) (v := v) (p := p) (q := q) (by omega)
  have eL := fun q => unwt_L (M := M) (v := v) (p := p) (q := q) wL9
  have eT := fun q => unwt_T (M := M) (v := v) (p := p) (q := q)
  have eE := fun q => unwt_E (M := M) (v := v) (p := p) (q := q)
  have eA := fun q => unwt_A (M := M) (v := v) (p := p) (q := q)
  have eN := fun u => unwt_N (M := M) (v := v) (p := p) (u := u) hw5
  refine ⟨⟨h.ri.unwt (by omega) hw, h.net, fun f hf => ?_, h.j3, h.j4, h.j5, fun q hq hq0 => ?_, fun q r hq hr e s1 s2 => ?_, fun k q hk hq => ?_, h.j8u, fun u i hu hi => ?_, h.j9u, fun k hk => ?_, h.j10u, fun u i hu hi => ?_, h.j11u, fun u i hu hi => ?_, h.j14⟩, fun u ex hu q => ⟨fun hy j h1 h2 h3 => ?_, q.2⟩⟩
  · have q := h.j2 f hf
    show 0 < rn (om_unwt M v p) ff_Mod_lengths (spk M f) ∧ rn M ff_Mod_number f < rn (om_unwt M v p) ff_Mod_lengths (spk M f) ∧ spk M f < 512 ∧ 1 ≤ rn M ff_Mod_tries f ∧ rn M ff_Mod_tries f ≤ rn (om_unwt M v p) ff_Mod_slotTry (spk M f) ∧ (rn M ff_Mod_tries f = rn (om_unwt M v p) ff_Mod_slotTry (spk M f) → rn M ff_Mod_number f < rn (om_unwt M v p) ff_Mod_entered (spk M f)) ∧ (rn M ff_Mod_tries f < rn (om_unwt M v p) ff_Mod_slotTry (spk M f) → rn (om_unwt M v p) ff_Mod_entered (spk M f) = 0)
    rw [eL, eT, eE, if_neg (i1 f hf), if_neg (i1 f hf), if_neg (i1 f hf)]
    exact q
  · rw [eT, eA, eE, eL, eG]
    by_cases c : q = p
    · subst c
      simp only [if_true]
      exact ⟨Or.inl trivial, Nat.zero_le _, w1, by rw [hpv]; exact w2, by rw [hpv]; exact hv⟩
    · rw [eL, if_neg c] at hq0
      rw [if_neg c, if_neg c, if_neg c, if_neg c, if_neg c]
      exact h.j6 q hq hq0
  · have u : ∀ q, suw (om_unwt M v p) q = true → suw M q = true := by
      intro q sq
      by_cases c : q = p
      · simp only [suw, Bool.and_eq_true, decide_eq_true_eq] at sq
        have := sq.1.2
        have e := eE q
        rw [if_pos c] at e
        omega
      · unfold suw at sq ⊢
        rw [eL, eE, if_neg c, if_neg c] at sq
        exact sq
    exact h.j7 q r hq hr e (u q s1) (u r s2)
  · have c : q ≠ p := fun w => i2 k hk (by rw [← w]; exact hq)
    have := h.j8 k q hk hq
    rw [eL, eG, eA, eT, eE, if_neg c, if_neg c, if_neg c, if_neg c, if_neg c]
    exact this
  · have c := i3 u i hu hi
    have := h.j9 u i hu hi
    show 0 < rn (om_unwt M v p) ff_Mod_lengths (rn M ff_Mod_row (512 * u + i)) ∧ rn (om_unwt M v p) ff_Mod_goals (rn M ff_Mod_row (512 * u + i)) = u ∧ rz (om_unwt M v p) ff_Mod_asked (rn M ff_Mod_row (512 * u + i)) = true ∧ rn (om_unwt M v p) ff_Mod_slotTry (rn M ff_Mod_row (512 * u + i)) = 1 ∧ _
    rw [eL, eG, eA, eT, if_neg c, if_neg c, if_neg c, if_neg c]
    exact this
  · have c := i4 k hk
    have := h.j10 k hk
    show k < 1000 ∧ 0 < rn (om_unwt M v p) ff_Mod_lengths (rn M ff_Mod_noteSlot k) ∧ (rz M ff_Mod_noteDone k = true → rn (om_unwt M v p) ff_Mod_entered (rn M ff_Mod_noteSlot k) = rn (om_unwt M v p) ff_Mod_lengths (rn M ff_Mod_noteSlot k) ∧ _ ∧ _ ∧ (rz (om_unwt M v p) ff_Mod_asked (rn M ff_Mod_noteSlot k) = false ∨ rn (om_unwt M v p) ff_Mod_slotTry (rn M ff_Mod_noteSlot k) = 2)) ∧ (rz M ff_Mod_noteDone k = false → rn (om_unwt M v p) ff_Mod_slotTry (rn M ff_Mod_noteSlot k) = 1 ∧ rz (om_unwt M v p) ff_Mod_asked (rn M ff_Mod_noteSlot k) = true ∧ _)
    rw [eL, eE, eA, eT, if_neg c, if_neg c, if_neg c, if_neg c]
    exact this
  · have c := i5 u i hu hi
    have := h.j11 u i hu hi
    show rn M ff_Mod_again (8 * u + i) / 8 = u ∧ 0 < rn (om_unwt M v p) ff_Mod_lengths (rn M ff_Mod_again (8 * u + i)) ∧ rn (om_unwt M v p) ff_Mod_slotTry (rn M ff_Mod_again (8 * u + i)) = 2 ∧ rn (om_unwt M v p) ff_Mod_entered (rn M ff_Mod_again (8 * u + i)) = 0
    rw [eL, eT, eE, if_neg c, if_neg c, if_neg c]
    exact this
  · rw [eN] at hi
    have hu : u < (rn M ff_Mod_all 0) := hu
    have hu5 := h.ri.wNl (v := u) (by omega)
    have a1 := unwt_wG (p := p) hi hw5 hu5
    have a2 := unwt_wL (p := p) hi hw5 hu5
    show rn (om_unwt M v p) ff_Mod_waitGoal (4 * u + i) < (rn M ff_Mod_all 0) ∧ rn (om_unwt M v p) ff_Mod_waitGoal (4 * u + i) ≠ u ∧ 1 ≤ rn (om_unwt M v p) ff_Mod_waitLength (4 * u + i)
    unfold rn
    rw [a1, a2]
    by_cases c : u = v
    · rw [if_pos c, if_pos c]
      rw [if_pos c] at hi
      rw [c]
      exact h.j13 v (i + 1) hv (by omega)
    · rw [if_neg c, if_neg c]
      rw [if_neg c] at hi
      exact h.j13 u i hu hi
  · have w := q.1 hy j h1 h2 h3
    unfold pfull at w ⊢
    have e : oz ((om_unwt M v p) ff_Mod_whose j) = oz (M ff_Mod_whose j) := rfl
    rw [e]
    cases hp : oz (M ff_Mod_whose j) with
    | none => rfl
    | some r =>
      rw [hp] at w
      try dsimp only at w ⊢
      rw [eL, if_neg (fun c => i2 j (by omega) (by rw [← c]; exact hp))]
      exact w
end
