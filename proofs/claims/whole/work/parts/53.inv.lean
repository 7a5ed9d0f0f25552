/-! WHAT HOLDS of the reference's numbers between the steps -/
/-- counting: an injection from the ones of P into the ones of R -/
theorem sp_cnt_pos {P : Nat → Bool} : ∀ {K c : Nat}, c < K → P c = true → sp_cnt P K = sp_cnt (fun i => P i && !(i == c)) K + 1
  | 0, c, h, _ => by omega
  | K + 1, c, h, hp => by
    unfold sp_cnt
    by_cases e : c = K
    · subst e
      have : ∀ j, j ≤ c → sp_cnt P j = sp_cnt (fun i => P i && !(i == c)) j := by
        intro j
        induction j with
        | zero => intro _; rfl
        | succ j ih =>
          intro hj
          have hjc : (j == c) = false := by simpa using (show j ≠ c by omega)
          simp only [sp_cnt, ih (by omega), hjc, Bool.not_false, Bool.and_true]
      rw [this c (Nat.le_refl _)]
      simp [hp]
    · have hjc : (K == c) = false := by simpa using (show K ≠ c by omega)
      have ih := sp_cnt_pos (P := P) (K := K) (c := c) (by omega) hp
      simp only [hjc, Bool.not_false, Bool.and_true]
      omega
theorem cnt_inj {P : Nat → Bool} {φ : Nat → Nat} : ∀ (N : Nat) (R : Nat → Bool) {K : Nat}, (∀ i, i < N → P i = true → φ i < K ∧ R (φ i) = true) → (∀ i j, i < N → j < N → P i = true → P j = true → φ i = φ j → i = j) → sp_cnt P N ≤ sp_cnt R K
  | 0, R, K, _, _ => Nat.zero_le _
  | N + 1, R, K, h1, h2 => by
    rw [show sp_cnt P (N + 1) = sp_cnt P N + (bif P N then 1 else 0) from rfl]
    cases hp : P N with
    | false =>
      have := cnt_inj N R (K := K) (fun i hi => h1 i (by omega)) (fun i j hi hj => h2 i j (by omega) (by omega))
      simpa using this
    | true =>
      obtain ⟨q1, q2⟩ := h1 N (by omega) hp
      have := cnt_inj N (fun i => R i && !(i == φ N)) (K := K) (fun i hi hpi => by
        refine ⟨(h1 i (by omega) hpi).1, ?_⟩
        have hne : φ i ≠ φ N := fun q => by
          have := h2 i N (by omega) (by omega) hpi hp q
          omega
        simp [(h1 i (by omega) hpi).2, hne]) (fun i j hi hj => h2 i j (by omega) (by omega))
      rw [sp_cnt_pos q1 q2]
      simp
      exact this
theorem sp_cnt_true : ∀ N, sp_cnt (fun _ => true) N = N
  | 0 => rfl
  | N + 1 => by
    unfold sp_cnt
    rw [sp_cnt_true N]
    rfl
/-- pigeons -/
theorem pigeon {N K : Nat} (φ : Nat → Nat) (h1 : ∀ i, i < N → φ i < K) (h2 : ∀ i j, i < N → j < N → φ i = φ j → i = j) : N ≤ K := by
  have := cnt_inj (P := fun _ => true) (φ := φ) N (fun _ => true) (K := K) (fun i hi _ => ⟨h1 i hi, rfl⟩) (fun i j hi hj _ _ => h2 i j hi hj)
  rw [sp_cnt_true, sp_cnt_true] at this
  exact this
theorem sp_cnt_congr {P R : Nat → Bool} : ∀ N, (∀ i, i < N → P i = R i) → sp_cnt P N = sp_cnt R N
  | 0, _ => rfl
  | N + 1, h => by
    unfold sp_cnt
    rw [sp_cnt_congr N (fun i hi => h i (by omega)), h N (by omega)]
theorem sp_cnt_zero {P : Nat → Bool} : ∀ N, sp_cnt P N = 0 ↔ ∀ i, i < N → P i = false
  | 0 => ⟨fun _ i h => by omega, fun _ => rfl⟩
  | N + 1 => by
    unfold sp_cnt
    constructor
    · intro h i hi
      by_cases e : i = N
      · subst e
        cases hp : P i with
        | false => rfl
        | true => rw [hp] at h; simp at h
      · exact (sp_cnt_zero N).mp (by omega) i (by omega)
    · intro h
      rw [(sp_cnt_zero N).mpr (fun i hi => h i (by omega)), h N (by omega)]
      rfl
theorem sp_first_none {P : Nat → Bool} : ∀ {d a : Nat}, sp_first P a d = none ↔ ∀ k, a ≤ k → k < a + d → P k = false
  | 0, a => ⟨fun _ k h1 h2 => by omega, fun _ => rfl⟩
  | d + 1, a => by
    unfold sp_first
    cases hp : P a with
    | true =>
      rw [cond_true]
      exact ⟨fun h => (by cases h), fun h => by rw [h a (by omega) (by omega)] at hp; cases hp⟩
    | false =>
      rw [cond_false, sp_first_none]
      constructor
      · intro h k h1 h2
        by_cases e : k = a
        · subst e; exact hp
        · exact h k (by omega) (by omega)
      · intro h k h1 h2
        exact h k (by omega) (by omega)
theorem sp_first_some {P : Nat → Bool} : ∀ {d a k : Nat}, sp_first P a d = some k ↔ a ≤ k ∧ k < a + d ∧ P k = true ∧ ∀ j, a ≤ j → j < k → P j = false
  | 0, a, k => ⟨fun h => (by cases h), fun h => by omega⟩
  | d + 1, a, k => by
    unfold sp_first
    cases hp : P a with
    | true =>
      rw [cond_true]
      constructor
      · intro h
        cases h
        exact ⟨by omega, by omega, hp, fun j h1 h2 => by omega⟩
      · intro h
        by_cases e : k = a
        · rw [e]
        · rw [h.2.2.2 a (by omega) (by omega)] at hp
          cases hp
    | false =>
      rw [cond_false, sp_first_some]
      constructor
      · intro h
        refine ⟨by omega, by omega, h.2.2.1, fun j h1 h2 => ?_⟩
        by_cases e : j = a
        · subst e; exact hp
        · exact h.2.2.2 j (by omega) h2
      · intro h
        have : k ≠ a := fun e => by rw [e, hp] at h; cases h.2.2.1
        exact ⟨by omega, by omega, h.2.2.1, fun j h1 h2 => h.2.2.2 j (by omega) h2⟩
theorem sp_first_congr {P R : Nat → Bool} : ∀ d a, (∀ k, a ≤ k → k < a + d → P k = R k) → sp_first P a d = sp_first R a d
  | 0, _, _ => rfl
  | d + 1, a, h => by
    unfold sp_first
    rw [h a (by omega) (by omega), sp_first_congr d (a + 1) (fun k h1 h2 => h k (by omega) (by omega))]
/-! the names of what it holds -/
def oz (x : Int32) : Option Nat := if x = fx_neg then none else some x.toNatClampNeg
theorem oz_neg : oz fx_neg = none := if_pos rfl
theorem oz_nI {p : Nat} (h : p < 2 ^ 31) : oz (nI p) = some p := by
  unfold oz
  rw [if_neg (oI_ne h), nI_clamp h]
theorem oz_none {x : Int32} : oz x = none ↔ x = fx_neg := by
  unfold oz
  by_cases h : x = fx_neg
  · rw [if_pos h]; exact ⟨fun _ => h, fun _ => rfl⟩
  · rw [if_neg h]; exact ⟨fun q => (by cases q), fun q => absurd q h⟩
theorem pW_some {M : rf_M} {k p : Nat} (hI : RI M) (hk : k < 256) (h : oz (M ff_Mod_whose k) = some p) : M ff_Mod_whose k = nI p ∧ rn M ff_Mod_whose k = p ∧ p < 512 := by
  rcases hI.2.1 k hk with q | q
  · rw [q, oz_neg] at h
    cases h
  · have e : oz (M ff_Mod_whose k) = some (rn M ff_Mod_whose k) := by
      rw [q.1, oz_nI (by have := q.2; omega)]
    rw [e] at h
    cases h
    exact ⟨q.1, rfl, q.2⟩
/-- a place has all flits -/
def pfull (M : rf_M) (k : Nat) : Bool := match oz (M ff_Mod_whose k) with
  | none => false
  | some p => rn M ff_Mod_has k == 2 ^ rn M ff_Mod_lengths p - 1
/-! THE INVARIANTS -/
/-- flits belong to packets in slots -/
def J2 (M : rf_M) : Prop := ∀ f, f < (rn M ff_Mod_flits 0) → 0 < rn M ff_Mod_lengths (spk M f) ∧ rn M ff_Mod_number f < rn M ff_Mod_lengths (spk M f) ∧ spk M f < 512 ∧ 1 ≤ rn M ff_Mod_tries f ∧ rn M ff_Mod_tries f ≤ rn M ff_Mod_slotTry (spk M f) ∧ (rn M ff_Mod_tries f = rn M ff_Mod_slotTry (spk M f) → rn M ff_Mod_number f < rn M ff_Mod_entered (spk M f)) ∧ (rn M ff_Mod_tries f < rn M ff_Mod_slotTry (spk M f) → rn M ff_Mod_entered (spk M f) = 0)
def J3 (M : rf_M) : Prop := ∀ f g, f < (rn M ff_Mod_flits 0) → g < (rn M ff_Mod_flits 0) → spk M f = spk M g → rn M ff_Mod_number f = rn M ff_Mod_number g → f = g
def J4 (M : rf_M) : Prop := ∀ f g, f < (rn M ff_Mod_flits 0) → g < (rn M ff_Mod_flits 0) → rn M ff_Mod_at f = rn M ff_Mod_at g → rn M ff_Mod_line f = rn M ff_Mod_line g → f = g
def J5 (M : rf_M) : Prop := ∀ v, v < (rn M ff_Mod_all 0) → sp_cnt (fun f => rn M ff_Mod_at f == v) ((rn M ff_Mod_flits 0)) ≤ fx_ow (rz M ff_Mod_closed) v 4
def J6 (M : rf_M) : Prop := ∀ p, p < 512 → 0 < rn M ff_Mod_lengths p → (rn M ff_Mod_slotTry p = 1 ∨ rn M ff_Mod_slotTry p = 2 ∧ rz M ff_Mod_asked p = true) ∧ rn M ff_Mod_entered p ≤ rn M ff_Mod_lengths p ∧ rn M ff_Mod_goals p < (rn M ff_Mod_all 0) ∧ rn M ff_Mod_goals p ≠ p / 8 ∧ p / 8 < (rn M ff_Mod_all 0)
def J7 (M : rf_M) : Prop := ∀ p q, p < 512 → q < 512 → p / 8 = q / 8 → suw M p = true → suw M q = true → p = q
def J8 (M : rf_M) : Prop := ∀ k p, k < 256 → oz (M ff_Mod_whose k) = some p → 0 < rn M ff_Mod_lengths p ∧ rn M ff_Mod_goals p = k / 4 ∧ (rn M ff_Mod_whichTry k = 1 ∧ rz M ff_Mod_asked p = false ∨ rn M ff_Mod_whichTry k = 2 ∧ rz M ff_Mod_asked p = true) ∧ rn M ff_Mod_has k < 2 ^ rn M ff_Mod_lengths p ∧ (∀ b, (rn M ff_Mod_has k).testBit b = true → rn M ff_Mod_whichTry k = rn M ff_Mod_slotTry p ∧ b < rn M ff_Mod_entered p) ∧ ∀ f, f < (rn M ff_Mod_flits 0) → spk M f = p → rn M ff_Mod_tries f = rn M ff_Mod_whichTry k → (rn M ff_Mod_has k).testBit (rn M ff_Mod_number f) = false
def J8u (M : rf_M) : Prop := ∀ k k' p, k < 256 → k' < 256 → oz (M ff_Mod_whose k) = some p → oz (M ff_Mod_whose k') = some p → k = k'
def J9 (M : rf_M) : Prop := ∀ v i, v < (rn M ff_Mod_all 0) → i < rn M ff_Mod_rowSize v → 0 < rn M ff_Mod_lengths (rn M ff_Mod_row (512 * v + i)) ∧ rn M ff_Mod_goals (rn M ff_Mod_row (512 * v + i)) = v ∧ rz M ff_Mod_asked (rn M ff_Mod_row (512 * v + i)) = true ∧ rn M ff_Mod_slotTry (rn M ff_Mod_row (512 * v + i)) = 1 ∧ ∀ k, k < 256 → oz (M ff_Mod_whose k) ≠ some (rn M ff_Mod_row (512 * v + i))
def J9u (M : rf_M) : Prop := ∀ v i j, v < (rn M ff_Mod_all 0) → i < rn M ff_Mod_rowSize v → j < rn M ff_Mod_rowSize v → rn M ff_Mod_row (512 * v + i) = rn M ff_Mod_row (512 * v + j) → i = j
def J10 (M : rf_M) (lv : Nat → Prop) : Prop := ∀ k, lv k → k < 1000 ∧ 0 < rn M ff_Mod_lengths (rn M ff_Mod_noteSlot k) ∧ (rz M ff_Mod_noteDone k = true → rn M ff_Mod_entered (rn M ff_Mod_noteSlot k) = rn M ff_Mod_lengths (rn M ff_Mod_noteSlot k) ∧ (∀ f, f < (rn M ff_Mod_flits 0) → spk M f ≠ rn M ff_Mod_noteSlot k) ∧ (∀ j, j < 256 → oz (M ff_Mod_whose j) ≠ some (rn M ff_Mod_noteSlot k)) ∧ (rz M ff_Mod_asked (rn M ff_Mod_noteSlot k) = false ∨ rn M ff_Mod_slotTry (rn M ff_Mod_noteSlot k) = 2)) ∧ (rz M ff_Mod_noteDone k = false → rn M ff_Mod_slotTry (rn M ff_Mod_noteSlot k) = 1 ∧ rz M ff_Mod_asked (rn M ff_Mod_noteSlot k) = true ∧ ∀ v i, v < (rn M ff_Mod_all 0) → i < rn M ff_Mod_rowSize v → rn M ff_Mod_row (512 * v + i) ≠ rn M ff_Mod_noteSlot k)
def J10u (M : rf_M) (lv : Nat → Prop) : Prop := ∀ k k', lv k → lv k' → rn M ff_Mod_noteSlot k = rn M ff_Mod_noteSlot k' → k = k'
def J11 (M : rf_M) : Prop := ∀ v i, v < (rn M ff_Mod_all 0) → i < rn M ff_Mod_agains v → rn M ff_Mod_again (8 * v + i) / 8 = v ∧ 0 < rn M ff_Mod_lengths (rn M ff_Mod_again (8 * v + i)) ∧ rn M ff_Mod_slotTry (rn M ff_Mod_again (8 * v + i)) = 2 ∧ rn M ff_Mod_entered (rn M ff_Mod_again (8 * v + i)) = 0
def J11u (M : rf_M) : Prop := ∀ v i j, v < (rn M ff_Mod_all 0) → i < rn M ff_Mod_agains v → j < rn M ff_Mod_agains v → rn M ff_Mod_again (8 * v + i) = rn M ff_Mod_again (8 * v + j) → i = j
/-- node v is settled, but for place k -/
def J12 (M : rf_M) (v : Nat) (ex : Nat → Prop) : Prop := (rn M ff_Mod_readySize v < 4 → ∀ k, 4 * v ≤ k → k < 4 * v + 4 → ¬ ex k → pfull M k = false) ∧ (0 < rn M ff_Mod_rowSize v → ∀ k, 4 * v ≤ k → k < 4 * v + 4 → oz (M ff_Mod_whose k) ≠ none)
def J13 (M : rf_M) : Prop := ∀ v i, v < (rn M ff_Mod_all 0) → i < rn M ff_Mod_waits v → rn M ff_Mod_waitGoal (4 * v + i) < (rn M ff_Mod_all 0) ∧ rn M ff_Mod_waitGoal (4 * v + i) ≠ v ∧ 1 ≤ rn M ff_Mod_waitLength (4 * v + i)
def J14 (M : rf_M) : Prop := rn M ff_Mod_mode 0 = 1 → ∀ i, i < 256 → rz M ff_Mod_closed i = false
/-- all but the settling -/
def JV (M : rf_M) (lv : Nat → Prop) : Prop := RI M ∧ RN M ∧ J2 M ∧ J3 M ∧ J4 M ∧ J5 M ∧ J6 M ∧ J7 M ∧ J8 M ∧ J8u M ∧ J9 M ∧ J9u M ∧ J10 M lv ∧ J10u M lv ∧ J11 M ∧ J11u M ∧ J13 M ∧ J14 M
/-- the invariant between the calls -/
def JI (M : rf_M) : Prop := JV M (fun k => k < (rn M ff_Mod_notes 0)) ∧ ∀ v, v < (rn M ff_Mod_all 0) → J12 M v (fun _ => False)
theorem rn_pe {M : rf_M} {f j g i : Nat} {x : Int32} (h : g ≠ f) : rn (fx_up M f j x) g i = rn M g i := rn_ne (fun q => h q.1)
theorem rz_pe {M : rf_M} {f j g i : Nat} {x : Int32} (h : g ≠ f) : rz (fx_up M f j x) g i = rz M g i := by
  unfold rz
  rw [rn_pe h]
theorem rz_ne {M : rf_M} {f j g i : Nat} {x : Int32} (h : ¬ (g = f ∧ i = j)) : rz (fx_up M f j x) g i = rz M g i := by
  unfold rz
  rw [rn_ne h]
theorem rz_same {M : rf_M} {f j : Nat} {p : Bool} : rz (fx_up M f j (fx_bit p)) f j = p := by
  unfold rz rn
  rw [fx_up_same]
  cases p <;> decide
