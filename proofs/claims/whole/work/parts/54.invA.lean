/-! THE INVARIANTS: notes are told -/
section
variable {M : rf_M} {lv : Nat → Prop}
theorem JV.ri (h : JV M lv) : RI M := h.1
theorem JV.net (h : JV M lv) : RN M := h.2.1
theorem JV.j2 (h : JV M lv) : J2 M := h.2.2.1
theorem JV.j3 (h : JV M lv) : J3 M := h.2.2.2.1
theorem JV.j4 (h : JV M lv) : J4 M := h.2.2.2.2.1
theorem JV.j5 (h : JV M lv) : J5 M := h.2.2.2.2.2.1
theorem JV.j6 (h : JV M lv) : J6 M := h.2.2.2.2.2.2.1
theorem JV.j7 (h : JV M lv) : J7 M := h.2.2.2.2.2.2.2.1
theorem JV.j8 (h : JV M lv) : J8 M := h.2.2.2.2.2.2.2.2.1
theorem JV.j8u (h : JV M lv) : J8u M := h.2.2.2.2.2.2.2.2.2.1
theorem JV.j9 (h : JV M lv) : J9 M := h.2.2.2.2.2.2.2.2.2.2.1
theorem JV.j9u (h : JV M lv) : J9u M := h.2.2.2.2.2.2.2.2.2.2.2.1
theorem JV.j10 (h : JV M lv) : J10 M lv := h.2.2.2.2.2.2.2.2.2.2.2.2.1
theorem JV.j10u (h : JV M lv) : J10u M lv := h.2.2.2.2.2.2.2.2.2.2.2.2.2.1
theorem JV.j11 (h : JV M lv) : J11 M := h.2.2.2.2.2.2.2.2.2.2.2.2.2.2.1
theorem JV.j11u (h : JV M lv) : J11u M := h.2.2.2.2.2.2.2.2.2.2.2.2.2.2.2.1
theorem JV.j13 (h : JV M lv) : J13 M := h.2.2.2.2.2.2.2.2.2.2.2.2.2.2.2.2.1
theorem JV.j14 (h : JV M lv) : J14 M := h.2.2.2.2.2.2.2.2.2.2.2.2.2.2.2.2.2
theorem JV.all64 (h : JV M lv) : (rn M ff_Mod_all 0) ≤ 64 := Nat.le_of_lt_succ (h.ri.l ff_Mod_all 0 65 (n := 1) rfl (by omega) rfl (by omega))
theorem JV.all0 (h : JV M lv) : 0 < (rn M ff_Mod_all 0) := by
  have h1 := h.net.1
  have h2 := h.net.2.1
  have : 0 < rn M ff_Mod_n 0 * rn M ff_Mod_n 0 := Nat.mul_pos (by omega) (by omega)
  show 0 < rn M ff_Mod_all 0
  omega
theorem RI.rNl (h : RI M) {v : Nat} (hv : v < 64) : rn M ff_Mod_rowSize v < 513 := h.l ff_Mod_rowSize v 513 (n := 64) rfl hv rfl (by omega)
theorem RI.gLl (h : RI M) {p : Nat} (hp : p < 512) : rn M ff_Mod_lengths p < 9 := h.l ff_Mod_lengths p 9 (n := 512) rfl hp rfl (by omega)
theorem RI.gEl (h : RI M) {p : Nat} (hp : p < 512) : rn M ff_Mod_entered p < 9 := h.l ff_Mod_entered p 9 (n := 512) rfl hp rfl (by omega)
theorem RI.aNl (h : RI M) {v : Nat} (hv : v < 64) : rn M ff_Mod_agains v < 9 := h.l ff_Mod_agains v 9 (n := 64) rfl hv rfl (by omega)
theorem RI.aRl (h : RI M) {i : Nat} (hi : i < 512) : rn M ff_Mod_again i < 512 := h.l ff_Mod_again i 512 (n := 512) rfl hi rfl (by omega)
theorem RI.yNl (h : RI M) {v : Nat} (hv : v < 64) : rn M ff_Mod_readySize v < 5 := h.l ff_Mod_readySize v 5 (n := 64) rfl hv rfl (by omega)
theorem RI.wNl (h : RI M) {v : Nat} (hv : v < 64) : rn M ff_Mod_waits v < 5 := h.l ff_Mod_waits v 5 (n := 64) rfl hv rfl (by omega)
theorem RI.fNl (h : RI M) : (rn M ff_Mod_flits 0) < 257 := h.l ff_Mod_flits 0 257 (n := 1) rfl (by omega) rfl (by omega)
theorem RI.nNl (h : RI M) : (rn M ff_Mod_notes 0) < 1001 := h.l ff_Mod_notes 0 1001 (n := 1) rfl (by omega) rfl (by omega)
theorem RI.mAl (h : RI M) {f : Nat} (hf : f < 300) : rn M ff_Mod_at f < 64 := h.l ff_Mod_at f 64 (n := 300) rfl hf rfl (by omega)
theorem RI.mLl (h : RI M) {f : Nat} (hf : f < 300) : rn M ff_Mod_line f < 4 := h.l ff_Mod_line f 4 (n := 300) rfl hf rfl (by omega)
theorem RI.mBl (h : RI M) {f : Nat} (hf : f < 300) : rn M ff_Mod_number f < 8 := h.l ff_Mod_number f 8 (n := 300) rfl hf rfl (by omega)
theorem RI.pHl (h : RI M) {k : Nat} (hk : k < 256) : rn M ff_Mod_has k < 256 := h.l ff_Mod_has k 256 (n := 256) rfl hk rfl (by omega)
theorem JV.nSl (h : JV M lv) {k : Nat} (hk : lv k) : rn M ff_Mod_noteSlot k < 512 := by
  have := (h.j10 k hk).1
  exact h.ri.l ff_Mod_noteSlot k 512 (n := 1100) rfl (by omega) rfl (by omega)
theorem JV.rRl (h : JV M lv) {v i : Nat} (hv : v < (rn M ff_Mod_all 0)) (hi : i < rn M ff_Mod_rowSize v) : rn M ff_Mod_row (512 * v + i) < 512 := by
  have h1 := h.all64
  have h2 := h.ri.rNl (v := v) (by omega)
  have h3 : i < 512 := by omega
  exact h.ri.l ff_Mod_row (512 * v + i) 512 (n := 32768) rfl (by omega) rfl (by omega)
theorem JV.t0 (h : JV M lv) : JV (om_t0 M) lv := ⟨h.ri.t0, h.net, h.j2, h.j3, h.j4, h.j5, h.j6, h.j7, h.j8, h.j8u, h.j9, h.j9u, h.j10, h.j10u, h.j11, h.j11u, h.j13, h.j14⟩
theorem JI.t0 (h : JI M) : JI (om_t0 M) := ⟨h.1.t0, h.2⟩
/-- the notes that are still there: the first l, and those from k on -/
def lvn (l k N : Nat) : Nat → Prop := fun i => i < l ∨ (k ≤ i ∧ i < N)
theorem gL_up {p x q : Nat} (hx : x < 2 ^ 31) : rn (fx_up M ff_Mod_lengths p (nI x)) ff_Mod_lengths q = if q = p then x else rn M ff_Mod_lengths q := by
  by_cases e : q = p
  · rw [if_pos e, e]; exact rn_same hx
  · rw [if_neg e]; exact rn_ne (fun w => e w.2)
/-- a note DONE is told -/
theorem JV.told {l k N : Nat} (h : JV M (lvn l k N)) (hk : k < N) (hl : l ≤ k) (hd : rz M ff_Mod_noteDone k = true) : JV (fx_up M ff_Mod_lengths (rn M ff_Mod_noteSlot k) (nI 0)) (lvn l (k + 1) N) ∧ ∀ v ex, v < 64 → J12 M v ex → J12 (fx_up M ff_Mod_lengths (rn M ff_Mod_noteSlot k) (nI 0)) v ex := by
  have lk : lvn l k N k := Or.inr ⟨Nat.le_refl _, hk⟩
  obtain ⟨-, d1, d2, -⟩ := h.j10 k lk
  obtain ⟨d3, d4, d5, d6⟩ := d2 hd
  have live : ∀ i, lvn l (k + 1) N i → lvn l k N i ∧ rn M ff_Mod_noteSlot i ≠ rn M ff_Mod_noteSlot k := by
    intro i hi
    have h1 : lvn l k N i := by
      rcases hi with q | q
      · exact Or.inl q
      · exact Or.inr ⟨by omega, q.2⟩
    refine ⟨h1, fun q => ?_⟩
    have := h.j10u i k h1 lk q
    rcases hi with w | w <;> omega
  have ne : ∀ q, q ≠ rn M ff_Mod_noteSlot k → rn (fx_up M ff_Mod_lengths (rn M ff_Mod_noteSlot k) (nI 0)) ff_Mod_lengths q = rn M ff_Mod_lengths q := fun q hq => by rw [gL_up (by omega), if_neg hq]
  have pos : ∀ q, 0 < rn (fx_up M ff_Mod_lengths (rn M ff_Mod_noteSlot k) (nI 0)) ff_Mod_lengths q → q ≠ rn M ff_Mod_noteSlot k := fun q hq e => by rw [gL_up (by omega), if_pos e] at hq; omega
  have rowne : ∀ v i, v < (rn M ff_Mod_all 0) → i < rn M ff_Mod_rowSize v → rn M ff_Mod_row (512 * v + i) ≠ rn M ff_Mod_noteSlot k := by
    intro v i hv hi q
    obtain ⟨-, -, r3, r4, -⟩ := h.j9 v i hv hi
    rw [q] at r3 r4
    rcases d6 with w | w
    · rw [w] at r3; cases r3
    · omega
  have agne : ∀ v i, v < (rn M ff_Mod_all 0) → i < rn M ff_Mod_agains v → rn M ff_Mod_again (8 * v + i) ≠ rn M ff_Mod_noteSlot k := by
    intro v i hv hi q
    obtain ⟨-, -, -, r4⟩ := h.j11 v i hv hi
    rw [q] at r4
    omega
  refine ⟨⟨h.ri.up (b := 9) rfl (by omega) (by decide) (by decide), h.net, fun f hf => ?_, h.j3, h.j4, h.j5, fun p hp hp0 => ?_, fun p q hp hq e s1 s2 => ?_, fun j p hj hp => ?_, h.j8u, fun v i hv hi => ?_, h.j9u, fun i hi => ?_, fun i j hi hj => h.j10u i j (live i hi).1 (live j hj).1, fun v i hv hi => ?_, h.j11u, h.j13, h.j14⟩, fun v ex hv q => ⟨fun hy j h1 h2 h3 => ?_, q.2⟩⟩
  · have q := h.j2 f hf
    rw [← ne (spk M f) (d4 f hf)] at q
    exact q
  · have q := h.j6 p hp
    rw [← ne p (pos p hp0)] at q
    exact q hp0
  · have u : ∀ p, suw (fx_up M ff_Mod_lengths (rn M ff_Mod_noteSlot k) (nI 0)) p = true → suw M p = true := by
      intro p sp
      have hp0 : p ≠ rn M ff_Mod_noteSlot k := pos p (by simp only [suw, Bool.and_eq_true, decide_eq_true_eq] at sp; exact sp.1.1)
      have e1 := ne p hp0
      unfold suw at sp ⊢
      rw [← e1]
      exact sp
    exact h.j7 p q hp hq e (u p s1) (u q s2)
  · have q := h.j8 j p hj hp
    rw [← ne p (fun e => d5 j hj (by rw [← e]; exact hp))] at q
    exact q
  · have q := h.j9 v i hv hi
    rw [← ne _ (rowne v i hv hi)] at q
    exact q
  · obtain ⟨l1, l2⟩ := live i hi
    have q := h.j10 i l1
    rw [← ne _ l2] at q
    exact q
  · have q := h.j11 v i hv hi
    rw [← ne _ (agne v i hv hi)] at q
    exact q
  · have w := q.1 hy j h1 h2 h3
    unfold pfull at w ⊢
    have e : oz ((fx_up M ff_Mod_lengths (rn M ff_Mod_noteSlot k) (nI 0)) ff_Mod_whose j) = oz (M ff_Mod_whose j) := rfl
    rw [e]
    cases hp : oz (M ff_Mod_whose j) with
    | none => rfl
    | some p =>
      rw [hp] at w
      dsimp only at w ⊢
      rw [ne p (fun e => d5 j (by omega) (by rw [← e]; exact hp))]
      exact w
/-- a note is kept -/
theorem JV.kept {l k N : Nat} (h : JV M (lvn l k N)) (hk : k < N) (hl : l ≤ k) : JV (om_keep M k l) (lvn (l + 1) (k + 1) N) := by
  have lk : lvn l k N k := Or.inr ⟨Nat.le_refl _, hk⟩
  have h1000 := (h.j10 k lk).1
  have hs := h.nSl lk
  have e1 : ∀ i, rn (om_keep M k l) ff_Mod_noteSlot i = rn M ff_Mod_noteSlot (if i = l then k else i) := by
    intro i
    by_cases e : i = l
    · rw [if_pos e, e]; unfold om_keep; rw [rn_pe (by decide), rn_pe (by decide), rn_same (by omega)]
    · rw [if_neg e]; unfold om_keep; rw [rn_pe (by decide), rn_pe (by decide), rn_ne (fun q => e q.2)]
  have e2 : ∀ i, rz (om_keep M k l) ff_Mod_noteDone i = rz M ff_Mod_noteDone (if i = l then k else i) := by
    intro i
    by_cases e : i = l
    · rw [if_pos e, e]; unfold om_keep; rw [rz_pe (by decide), rz_same]
    · rw [if_neg e]; unfold om_keep; rw [rz_pe (by decide), rz_ne (fun q => e q.2), rz_pe (by decide)]
  have live : ∀ i, lvn (l + 1) (k + 1) N i → lvn l k N (if i = l then k else i) := by
    intro i hi
    by_cases e : i = l
    · rw [if_pos e]; exact lk
    · rw [if_neg e]
      rcases hi with q | q
      · exact Or.inl (by omega)
      · exact Or.inr ⟨by omega, q.2⟩
  refine ⟨h.ri.keep (by omega), h.net, h.j2, h.j3, h.j4, h.j5, h.j6, h.j7, h.j8, h.j8u, h.j9, h.j9u, fun i hi => ?_, fun i j hi hj e => ?_, h.j11, h.j11u, h.j13, h.j14⟩
  · have q := h.j10 _ (live i hi)
    rw [← e1, ← e2] at q
    refine ⟨?_, q.2⟩
    have q1 := q.1
    rcases hi with w | w
    · omega
    · by_cases e : i = l
      · omega
      · rw [if_neg e] at q1; exact q1
  · rw [e1, e1] at e
    have q := h.j10u _ _ (live i hi) (live j hj) e
    by_cases c1 : i = l
    · by_cases c2 : j = l
      · omega
      · rw [if_pos c1, if_neg c2] at q
        rcases hj with w | w <;> omega
    · by_cases c2 : j = l
      · rw [if_neg c1, if_pos c2] at q
        rcases hi with w | w <;> omega
      · rw [if_neg c1, if_neg c2] at q
        exact q
/-- a note GO is told -/
theorem JV.goes {l k N : Nat} (h : JV M (lvn l k N)) (hk : k < N) (hl : l ≤ k) (hd : rz M ff_Mod_noteDone k = false) : rn M ff_Mod_agains (rn M ff_Mod_noteSlot k / 8) < 8 ∧ rn M ff_Mod_slotTry (rn M ff_Mod_noteSlot k) < 900 ∧ JV (om_again M (rn M ff_Mod_noteSlot k)) (lvn l (k + 1) N) := by
  have lk : lvn l k N k := Or.inr ⟨Nat.le_refl _, hk⟩
  have hp := h.nSl lk
  obtain ⟨-, d1, -, d2⟩ := h.j10 k lk
  obtain ⟨d3, d4, d5⟩ := d2 hd
  obtain ⟨c1, c2, c3, c4, c5⟩ := h.j6 _ hp d1
  have live : ∀ i, lvn l (k + 1) N i → lvn l k N i ∧ rn M ff_Mod_noteSlot i ≠ rn M ff_Mod_noteSlot k := by
    intro i hi
    have h1 : lvn l k N i := by
      rcases hi with q | q
      · exact Or.inl q
      · exact Or.inr ⟨by omega, q.2⟩
    refine ⟨h1, fun q => ?_⟩
    have := h.j10u i k h1 lk q
    rcases hi with w | w <;> omega
  have h64 := h.all64
  have agne : ∀ v i, v < (rn M ff_Mod_all 0) → i < rn M ff_Mod_agains v → rn M ff_Mod_again (8 * v + i) ≠ rn M ff_Mod_noteSlot k := by
    intro v i hv hi q
    obtain ⟨-, -, r3, -⟩ := h.j11 v i hv hi
    rw [q] at r3
    omega
  generalize hpe : rn M ff_Mod_noteSlot k = p at *
  have hag : rn M ff_Mod_agains (p / 8) < 8 := by
    have := pigeon (N := rn M ff_Mod_agains (p / 8) + 1) (K := 8) (fun i => if i < rn M ff_Mod_agains (p / 8) then rn M ff_Mod_again (8 * (p / 8) + i) % 8 else p % 8) (fun i _ => by split <;> omega) (fun i j hi hj e => by
      by_cases q1 : i < rn M ff_Mod_agains (p / 8)
      · by_cases q2 : j < rn M ff_Mod_agains (p / 8)
        · rw [if_pos q1, if_pos q2] at e
          refine h.j11u (p / 8) i j c5 q1 q2 ?_
          have r1 := (h.j11 _ i c5 q1).1
          have r2 := (h.j11 _ j c5 q2).1
          omega
        · rw [if_pos q1, if_neg q2] at e
          have r1 := (h.j11 _ i c5 q1).1
          exact absurd (show rn M ff_Mod_again (8 * (p / 8) + i) = p by omega) (agne _ i c5 q1)
      · by_cases q2 : j < rn M ff_Mod_agains (p / 8)
        · rw [if_neg q1, if_pos q2] at e
          have r1 := (h.j11 _ j c5 q2).1
          exact absurd (show rn M ff_Mod_again (8 * (p / 8) + j) = p by omega) (agne _ j c5 q2)
        · omega)
    omega
  refine ⟨hag, by omega, ?_⟩
  have eT : ∀ q, rn (om_again M p) ff_Mod_slotTry q = if q = p then 2 else rn M ff_Mod_slotTry q := by
    intro q
    unfold om_again
    rw [rn_pe (by decide), rn_pe (by decide), rn_pe (by decide)]
    by_cases e : q = p
    · rw [if_pos e, e, rn_same (by omega), d3]
    · rw [if_neg e, rn_ne (fun w => e w.2)]
  have eE : ∀ q, rn (om_again M p) ff_Mod_entered q = if q = p then 0 else rn M ff_Mod_entered q := by
    intro q
    unfold om_again
    rw [rn_pe (by decide), rn_pe (by decide)]
    by_cases e : q = p
    · rw [if_pos e, e, rn_same (by omega)]
    · rw [if_neg e, rn_ne (fun w => e w.2), rn_pe (by decide)]
  have eN : ∀ v, rn (om_again M p) ff_Mod_agains v = if v = p / 8 then rn M ff_Mod_agains (p / 8) + 1 else rn M ff_Mod_agains v := by
    intro v
    unfold om_again
    by_cases e : v = p / 8
    · rw [if_pos e, e, rn_same (by omega)]
    · rw [if_neg e, rn_ne (fun w => e w.2), rn_pe (by decide), rn_pe (by decide), rn_pe (by decide)]
  have eR : ∀ i, rn (om_again M p) ff_Mod_again i = if i = 8 * (p / 8) + rn M ff_Mod_agains (p / 8) then p else rn M ff_Mod_again i := by
    intro i
    unfold om_again
    rw [rn_pe (by decide)]
    by_cases e : i = 8 * (p / 8) + rn M ff_Mod_agains (p / 8)
    · rw [if_pos e, e, rn_same (by omega)]
    · rw [if_neg e, rn_ne (fun w => e w.2), rn_pe (by decide), rn_pe (by decide)]
  refine ⟨h.ri.again hp hag (show rn M ff_Mod_slotTry p < 900 by omega), h.net, fun f hf => ?_, h.j3, h.j4, h.j5, fun q hq hq0 => ?_, fun q r hq hr e s1 s2 => ?_, fun j q hj hq => ?_, h.j8u, fun v i hv hi => ?_, h.j9u, fun i hi => ?_, fun i j hi hj => h.j10u i j (live i hi).1 (live j hj).1, fun v i hv hi => ?_, fun v i j hv hi hj e => ?_, h.j13, h.j14⟩
  · obtain ⟨q1, q2, q3, q4, q5, q6, q7⟩ := h.j2 f hf
    refine ⟨q1, q2, q3, q4, ?_⟩
    rw [show spk (om_again M p) f = spk M f from rfl, show rn (om_again M p) ff_Mod_tries f = rn M ff_Mod_tries f from rfl, show rn (om_again M p) ff_Mod_number f = rn M ff_Mod_number f from rfl, eT, eE]
    by_cases e : spk M f = p
    · rw [e, d3] at q5
      rw [if_pos e, if_pos e]
      exact ⟨by omega, fun w => by omega, fun _ => rfl⟩
    · rw [if_neg e, if_neg e]
      exact ⟨q5, q6, q7⟩
  · obtain ⟨q1, q2, q3⟩ := h.j6 q hq hq0
    rw [eT, eE]
    by_cases e : q = p
    · rw [if_pos e, if_pos e]
      exact ⟨Or.inr ⟨rfl, by rw [e]; exact d4⟩, Nat.zero_le _, q3⟩
    · rw [if_neg e, if_neg e]
      exact ⟨q1, q2, q3⟩
  · have u : ∀ q, suw (om_again M p) q = true → suw M q = true := by
      intro q sp
      have h0 := eE q
      by_cases e : q = p
      · rw [if_pos e] at h0
        simp only [suw, Bool.and_eq_true, decide_eq_true_eq] at sp
        have := sp.1.2
        omega
      · rw [if_neg e] at h0
        unfold suw at sp ⊢
        rw [← h0]
        exact sp
    exact h.j7 q r hq hr e (u q s1) (u r s2)
  · obtain ⟨q1, q2, q3, q4, q5, q6⟩ := h.j8 j q hj hq
    refine ⟨q1, q2, q3, q4, fun b hb => ?_, q6⟩
    have w := q5 b hb
    rw [eT, eE]
    by_cases e : q = p
    · exfalso
      rw [e] at w q3
      rcases q3 with x | x
      · rw [x.2] at d4; cases d4
      · omega
    · rw [if_neg e, if_neg e]
      exact w
  · have q := h.j9 v i hv hi
    have e := eT (rn M ff_Mod_row (512 * v + i))
    rw [if_neg (d5 v i hv hi)] at e
    rw [← e] at q
    exact q
  · obtain ⟨l1, l2⟩ := live i hi
    have q := h.j10 i l1
    have e := eT (rn M ff_Mod_noteSlot i)
    have e2 := eE (rn M ff_Mod_noteSlot i)
    rw [if_neg l2] at e e2
    rw [← e, ← e2] at q
    exact q
  · replace hv : v < (rn M ff_Mod_all 0) := hv
    rw [eN] at hi
    rw [eR, eT, eE]
    by_cases e : 8 * v + i = 8 * (p / 8) + rn M ff_Mod_agains (p / 8)
    · rw [if_pos e]
      have ev : v = p / 8 := by
        by_cases e2 : v = p / 8
        · exact e2
        · rw [if_neg e2] at hi
          have := h.ri.aNl (v := v) (by omega)
          omega
      rw [if_pos rfl, if_pos rfl]
      exact ⟨by omega, d1, rfl, rfl⟩
    · rw [if_neg e]
      have hi2 : i < rn M ff_Mod_agains v := by
        by_cases e2 : v = p / 8
        · rw [if_pos e2] at hi
          rw [e2] at e ⊢
          omega
        · rw [if_neg e2] at hi; exact hi
      rw [if_neg (agne v i hv hi2), if_neg (agne v i hv hi2)]
      exact h.j11 v i hv hi2
  · replace hv : v < (rn M ff_Mod_all 0) := hv
    rw [eN] at hi hj
    rw [eR, eR] at e
    by_cases e2 : v = p / 8
    · rw [if_pos e2] at hi hj
      subst e2
      by_cases w1 : i = rn M ff_Mod_agains (p / 8)
      · by_cases w2 : j = rn M ff_Mod_agains (p / 8)
        · omega
        · rw [if_pos (by omega), if_neg (by omega)] at e
          exact absurd e.symm (agne _ j hv (by omega))
      · by_cases w2 : j = rn M ff_Mod_agains (p / 8)
        · rw [if_neg (by omega), if_pos (by omega)] at e
          exact absurd e (agne _ i hv (by omega))
        · rw [if_neg (by omega), if_neg (by omega)] at e
          exact h.j11u _ i j hv (by omega) (by omega) e
    · rw [if_neg e2] at hi hj
      have := h.ri.aNl (v := v) (by omega)
      rw [if_neg (by omega), if_neg (by omega)] at e
      exact h.j11u v i j hv hi hj e
theorem JI.tell_aux : ∀ (d k l : Nat) (M : rf_M), JV M (lvn l k (k + d)) → (∀ v, v < (rn M ff_Mod_all 0) → J12 M v (fun _ => False)) → l ≤ k → k + d ≤ 1000 → pk_tell d k l M ∧ JI (om_tell d k l M)
  | 0, k, l, M, h, h12, hl, hN => by
    have e : (rn (fx_up M ff_Mod_notes 0 (nI l)) ff_Mod_notes 0) = l := rn_same (by omega)
    refine ⟨trivial, ⟨h.ri.up (b := 1001) rfl (by omega) (by decide) (by decide), h.net, h.j2, h.j3, h.j4, h.j5, h.j6, h.j7, h.j8, h.j8u, h.j9, h.j9u, fun i hi => ?_, fun i j hi hj => ?_, h.j11, h.j11u, h.j13, h.j14⟩, h12⟩
    · have hi' : i < (rn (fx_up M ff_Mod_notes 0 (nI l)) ff_Mod_notes 0) := hi
      rw [e] at hi'
      exact h.j10 i (Or.inl hi')
    · have hi' : i < (rn (fx_up M ff_Mod_notes 0 (nI l)) ff_Mod_notes 0) := hi
      have hj' : j < (rn (fx_up M ff_Mod_notes 0 (nI l)) ff_Mod_notes 0) := hj
      rw [e] at hi' hj'
      exact h.j10u i j (Or.inl hi') (Or.inl hj')
  | d + 1, k, l, M, h, h12, hl, hN => by
    have hd : k < k + (d + 1) := by omega
    have e3 : k + (d + 1) = (k + 1) + d := by omega
    rw [e3] at h
    unfold pk_tell om_tell
    cases decide (rn M ff_Mod_cycle 0 < rn M ff_Mod_noteDue k) with
    | true =>
      rw [cond_true, cond_true]
      exact JI.tell_aux d (k + 1) (l + 1) _ (h.kept (by omega) hl) h12 (by omega) (by omega)
    | false =>
      rw [cond_false, cond_false]
      cases hn : rz M ff_Mod_noteDone k with
      | true =>
        rw [cond_true, cond_true]
        obtain ⟨q1, q2⟩ := h.told (by omega) hl hn
        have h64 := h.all64
        exact JI.tell_aux d (k + 1) l _ q1 (fun v hv => q2 v _ (Nat.lt_of_lt_of_le hv h64) (h12 v hv)) (by omega) (by omega)
      | false =>
        rw [cond_false, cond_false]
        obtain ⟨q1, q2, q3⟩ := h.goes (by omega) hl hn
        obtain ⟨r1, r2⟩ := JI.tell_aux d (k + 1) l _ q3 h12 (by omega) (by omega)
        exact ⟨⟨q1, q2, r1⟩, r2⟩
theorem JI.tell (h : JI M) : pk_tell ((rn M ff_Mod_notes 0)) 0 0 M ∧ JI (om_tell ((rn M ff_Mod_notes 0)) 0 0 M) := by
  have := h.1.ri.nNl
  refine JI.tell_aux ((rn M ff_Mod_notes 0)) 0 0 M ⟨h.1.ri, h.1.net, h.1.j2, h.1.j3, h.1.j4, h.1.j5, h.1.j6, h.1.j7, h.1.j8, h.1.j8u, h.1.j9, h.1.j9u, fun i hi => h.1.j10 i ?_, fun i j hi hj => h.1.j10u i j ?_ ?_, h.1.j11, h.1.j11u, h.1.j13, h.1.j14⟩ h.2 (by omega) (by omega)
  · rcases hi with q | q <;> omega
  · rcases hi with q | q <;> omega
  · rcases hj with q | q <;> omega
end
