/-! THE INVARIANTS: a flit leaves; it is joined, or lost -/
section
variable {M : rf_M} {lv : Nat → Prop}
theorem rn_cp {f j : Nat} {x : Int32} : rn (fx_up M f j x) f j = x.toNatClampNeg := by
  unfold rn
  rw [fx_up_same]
def rp (f L i : Nat) : Nat := if i = f then L else i
theorem rem_at (M : rf_M) (f i : Nat) : rn (om_rem M f) ff_Mod_at i = rn M ff_Mod_at (rp f (rn M ff_Mod_flits 0 - 1) i) := by
  unfold om_rem rp
  dsimp only
  rw [rn_pe (by decide), rn_pe (by decide), rn_pe (by decide), rn_pe (by decide), rn_pe (by decide), rn_pe (by decide), rn_pe (by decide)]
  by_cases e : i = f
  · rw [if_pos e, e, rn_cp]; rfl
  · rw [if_neg e, rn_ne (fun q => e q.2), rn_pe (by decide)]
theorem rem_line (M : rf_M) (f i : Nat) : rn (om_rem M f) ff_Mod_line i = rn M ff_Mod_line (rp f (rn M ff_Mod_flits 0 - 1) i) := by
  unfold om_rem rp
  dsimp only
  rw [rn_pe (by decide), rn_pe (by decide), rn_pe (by decide), rn_pe (by decide), rn_pe (by decide), rn_pe (by decide)]
  by_cases e : i = f
  · rw [if_pos e, e, rn_cp]; rfl
  · rw [if_neg e, rn_ne (fun q => e q.2), rn_pe (by decide), rn_pe (by decide)]
theorem rem_source (M : rf_M) (f i : Nat) : rn (om_rem M f) ff_Mod_source i = rn M ff_Mod_source (rp f (rn M ff_Mod_flits 0 - 1) i) := by
  unfold om_rem rp
  dsimp only
  rw [rn_pe (by decide), rn_pe (by decide), rn_pe (by decide), rn_pe (by decide), rn_pe (by decide)]
  by_cases e : i = f
  · rw [if_pos e, e, rn_cp]; rfl
  · rw [if_neg e, rn_ne (fun q => e q.2), rn_pe (by decide), rn_pe (by decide), rn_pe (by decide)]
theorem rem_slot (M : rf_M) (f i : Nat) : rn (om_rem M f) ff_Mod_slot i = rn M ff_Mod_slot (rp f (rn M ff_Mod_flits 0 - 1) i) := by
  unfold om_rem rp
  dsimp only
  rw [rn_pe (by decide), rn_pe (by decide), rn_pe (by decide), rn_pe (by decide)]
  by_cases e : i = f
  · rw [if_pos e, e, rn_cp]; rfl
  · rw [if_neg e, rn_ne (fun q => e q.2), rn_pe (by decide), rn_pe (by decide), rn_pe (by decide), rn_pe (by decide)]
theorem rem_number (M : rf_M) (f i : Nat) : rn (om_rem M f) ff_Mod_number i = rn M ff_Mod_number (rp f (rn M ff_Mod_flits 0 - 1) i) := by
  unfold om_rem rp
  dsimp only
  rw [rn_pe (by decide), rn_pe (by decide), rn_pe (by decide)]
  by_cases e : i = f
  · rw [if_pos e, e, rn_cp]; rfl
  · rw [if_neg e, rn_ne (fun q => e q.2), rn_pe (by decide), rn_pe (by decide), rn_pe (by decide), rn_pe (by decide), rn_pe (by decide)]
theorem rem_entry (M : rf_M) (f i : Nat) : rn (om_rem M f) ff_Mod_entry i = rn M ff_Mod_entry (rp f (rn M ff_Mod_flits 0 - 1) i) := by
  unfold om_rem rp
  dsimp only
  rw [rn_pe (by decide), rn_pe (by decide)]
  by_cases e : i = f
  · rw [if_pos e, e, rn_cp]; rfl
  · rw [if_neg e, rn_ne (fun q => e q.2), rn_pe (by decide), rn_pe (by decide), rn_pe (by decide), rn_pe (by decide), rn_pe (by decide), rn_pe (by decide)]
theorem rem_tries (M : rf_M) (f i : Nat) : rn (om_rem M f) ff_Mod_tries i = rn M ff_Mod_tries (rp f (rn M ff_Mod_flits 0 - 1) i) := by
  unfold om_rem rp
  dsimp only
  rw [rn_pe (by decide)]
  by_cases e : i = f
  · rw [if_pos e, e, rn_cp]; rfl
  · rw [if_neg e, rn_ne (fun q => e q.2), rn_pe (by decide), rn_pe (by decide), rn_pe (by decide), rn_pe (by decide), rn_pe (by decide), rn_pe (by decide), rn_pe (by decide)]
theorem rem_fN (hI : RI M) (f : Nat) : (rn (om_rem M f) ff_Mod_flits 0) = (rn M ff_Mod_flits 0) - 1 := by
  have := hI.fNl
  unfold om_rem
  dsimp only
  rw [rn_pe (by decide), rn_pe (by decide), rn_pe (by decide), rn_pe (by decide), rn_pe (by decide), rn_pe (by decide), rn_pe (by decide), rn_pe (by decide), rn_same (by omega)]
theorem rem_spk (M : rf_M) (f i : Nat) : spk (om_rem M f) i = spk M (rp f ((rn M ff_Mod_flits 0) - 1) i) := by
  unfold spk
  rw [rem_source, rem_slot]
theorem rp_lt {f N i : Nat} (hf : f < N) (hi : i < N - 1) : rp f (N - 1) i < N ∧ rp f (N - 1) i ≠ f := by
  unfold rp
  split <;> omega
theorem rp_inj {f N i j : Nat} (hi : i < N - 1) (hj : j < N - 1) (h : rp f (N - 1) i = rp f (N - 1) j) : i = j := by
  unfold rp at h
  split at h <;> split at h <;> omega
theorem JV.rem {f : Nat} (h : JV M lv) (hf : f < (rn M ff_Mod_flits 0)) : JV (om_rem M f) lv := by
  have eN := rem_fN h.ri f
  have lt : ∀ i, i < (rn (om_rem M f) ff_Mod_flits 0) → rp f ((rn M ff_Mod_flits 0) - 1) i < (rn M ff_Mod_flits 0) ∧ rp f ((rn M ff_Mod_flits 0) - 1) i ≠ f := fun i hi => rp_lt hf (by rw [eN] at hi; exact hi)
  refine ⟨h.ri.rem (by omega), ⟨h.net.1, h.net.2.1, fun i hi => ?_⟩, fun i hi => ?_, fun i j hi hj e1 e2 => ?_, fun i j hi hj e1 e2 => ?_, fun v hv => ?_, h.j6, h.j7, fun k p hk hp => ?_, h.j8u, h.j9, h.j9u, fun k hk => ?_, h.j10u, h.j11, h.j11u, h.j13, h.j14⟩
  · rw [rem_at]
    exact h.net.2.2 _ (lt i hi).1
  · have q := h.j2 _ (lt i hi).1
    rw [← rem_spk, ← rem_number, ← rem_tries] at q
    exact q
  · rw [rem_spk, rem_spk] at e1
    rw [rem_number, rem_number] at e2
    have q := h.j3 _ _ (lt i hi).1 (lt j hj).1 e1 e2
    rw [eN] at hi hj
    exact rp_inj hi hj q
  · rw [rem_at, rem_at] at e1
    rw [rem_line, rem_line] at e2
    have q := h.j4 _ _ (lt i hi).1 (lt j hj).1 e1 e2
    rw [eN] at hi hj
    exact rp_inj hi hj q
  · refine Nat.le_trans ?_ (h.j5 v hv)
    refine cnt_inj (φ := rp f ((rn M ff_Mod_flits 0) - 1)) _ _ (fun i hi hp => ⟨(lt i hi).1, ?_⟩) (fun i j hi hj _ _ e => ?_)
    · rw [← rem_at]; exact hp
    · rw [eN] at hi hj
      exact rp_inj hi hj e
  · obtain ⟨q1, q2, q3, q4, q5, q6⟩ := h.j8 k p hk hp
    refine ⟨q1, q2, q3, q4, q5, fun i hi e1 e2 => ?_⟩
    rw [rem_spk] at e1
    rw [rem_tries] at e2
    rw [rem_number]
    exact q6 _ (lt i hi).1 e1 e2
  · obtain ⟨q1, q2, q3, q4⟩ := h.j10 k hk
    refine ⟨q1, q2, fun hd => ?_, q4⟩
    obtain ⟨r1, r2, r3⟩ := q3 hd
    refine ⟨r1, fun i hi => ?_, r3⟩
    rw [rem_spk]
    exact r2 _ (lt i hi).1
/-- what is known of the flit that left -/
def JF (M : rf_M) (lv : Nat → Prop) (v p t b : Nat) : Prop := v < (rn M ff_Mod_all 0) ∧ p < 512 ∧ 0 < rn M ff_Mod_lengths p ∧ b < rn M ff_Mod_lengths p ∧ rn M ff_Mod_goals p = v ∧ 1 ≤ t ∧ t ≤ rn M ff_Mod_slotTry p ∧ (t = rn M ff_Mod_slotTry p → b < rn M ff_Mod_entered p) ∧ (∀ i, i < (rn M ff_Mod_flits 0) → spk M i = p → rn M ff_Mod_number i ≠ b) ∧ (∀ k, k < 256 → oz (M ff_Mod_whose k) = some p → rn M ff_Mod_whichTry k = t → (rn M ff_Mod_has k).testBit b = false) ∧ ∀ k, lv k → rn M ff_Mod_noteSlot k = p → rz M ff_Mod_noteDone k = false
theorem JV.rcv {f : Nat} (h : JV M lv) (hf : f < (rn M ff_Mod_flits 0)) (hg : sg M f = rn M ff_Mod_at f) (hc : rn M ff_Mod_received 0 < 9000000) : JV (om_rcv M f) lv ∧ JF (om_rcv M f) lv (rn M ff_Mod_at f) (spk M f) (rn M ff_Mod_tries f) (rn M ff_Mod_number f) := by
  have h1 := h.rem hf
  refine ⟨⟨h1.ri.up (b := 10000000) rfl (by omega) (by decide) (by decide), h1.net, h1.j2, h1.j3, h1.j4, h1.j5, h1.j6, h1.j7, h1.j8, h1.j8u, h1.j9, h1.j9u, h1.j10, h1.j10u, h1.j11, h1.j11u, h1.j13, h1.j14⟩, ?_⟩
  obtain ⟨q1, q2, q3, q4, q5, q6, q7⟩ := h.j2 f hf
  have eN := rem_fN h.ri f
  refine ⟨h.net.2.2 f hf, q3, q1, q2, hg, q4, q5, q6, fun i hi e1 e2 => ?_, fun k hk hp ht => (h.j8 k _ hk hp).2.2.2.2.2 f hf rfl ht.symm, fun k hk e => ?_⟩
  · have hi' : i < (rn (om_rem M f) ff_Mod_flits 0) := hi
    have e1' : spk (om_rem M f) i = spk M f := e1
    have e2' : rn (om_rem M f) ff_Mod_number i = rn M ff_Mod_number f := e2
    rw [rem_spk] at e1'
    rw [rem_number] at e2'
    rw [eN] at hi'
    have w := rp_lt hf hi'
    exact w.2 (h.j3 _ _ w.1 hf e1' e2')
  · cases hd : rz (om_rcv M f) ff_Mod_noteDone k with
    | false => rfl
    | true =>
      have hd' : rz M ff_Mod_noteDone k = true := hd
      have e' : rn M ff_Mod_noteSlot k = spk M f := e
      exact absurd e'.symm (((h.j10 k hk).2.2.1 hd').2.1 f hf)
/-- the place where the flit is joined -/
def sjk (M : rf_M) (v p t : Nat) : Option Nat := match sp_first (fun k => decide (M ff_Mod_whose k = nI p) && decide (M ff_Mod_whichTry k = nI t)) (4 * v) 4 with
  | some k => some k
  | none => bif t == 1 && !rz M ff_Mod_asked p then semp M v else none
theorem JV.rN512 {v : Nat} (h : JV M lv) (hv : v < (rn M ff_Mod_all 0)) : rn M ff_Mod_rowSize v < 512 := by
  have h64 := h.all64
  have := pigeon (N := rn M ff_Mod_rowSize v + 1) (K := 512) (fun i => if i < rn M ff_Mod_rowSize v then rn M ff_Mod_row (512 * v + i) else 8 * v) (fun i _ => by
      split
      · rename_i q
        exact h.rRl hv q
      · omega) (fun i j hi hj e => by
      have aux : ∀ i, i < rn M ff_Mod_rowSize v → rn M ff_Mod_row (512 * v + i) ≠ 8 * v := by
        intro i hi q
        obtain ⟨r1, r2, -⟩ := h.j9 v i hv hi
        obtain ⟨-, -, -, r4, -⟩ := h.j6 _ (h.rRl hv hi) r1
        rw [r2, q] at r4
        omega
      by_cases q1 : i < rn M ff_Mod_rowSize v
      · by_cases q2 : j < rn M ff_Mod_rowSize v
        · rw [if_pos q1, if_pos q2] at e
          exact h.j9u v i j hv q1 q2 e
        · rw [if_pos q1, if_neg q2] at e
          exact absurd e (aux i q1)
      · by_cases q2 : j < rn M ff_Mod_rowSize v
        · rw [if_neg q1, if_pos q2] at e
          exact absurd e.symm (aux j q2)
        · omega)
  omega
/-- a search by number and by what is known -/
theorem place_iff (hI : RI M) {p t k : Nat} (hp : p < 512) (ht : t < 1000) (hk : k < 256) : (decide (M ff_Mod_whose k = nI p) && decide (M ff_Mod_whichTry k = nI t)) = true ↔ oz (M ff_Mod_whose k) = some p ∧ rn M ff_Mod_whichTry k = t := by
  simp only [Bool.and_eq_true, decide_eq_true_eq]
  have e := hI.e ff_Mod_whichTry k (n := 256) rfl hk (by decide)
  have l := hI.l ff_Mod_whichTry k 1000 (n := 256) rfl hk rfl (by omega)
  constructor
  · rintro ⟨h1, h2⟩
    refine ⟨by rw [h1, oz_nI (by omega)], ?_⟩
    rw [e] at h2
    exact (nI_eq (by omega) (by omega)).mp h2
  · rintro ⟨h1, h2⟩
    refine ⟨(pW_some hI hk h1).1, ?_⟩
    rw [e, h2]
def om_jn (M : rf_M) (k p b : Nat) : rf_M := fx_up (fx_up (fx_up (fx_up M ff_Mod_whose k (nI p)) ff_Mod_whichTry k (nI 1)) ff_Mod_has k (nI 0)) ff_Mod_has k (nI (0 ||| 2 ^ b))
def om_jl (M : rf_M) (v p : Nat) : rf_M := fx_up (fx_up (fx_up (fx_up M ff_Mod_asked p (fx_bit true)) ff_Mod_row (512 * v + rn M ff_Mod_rowSize v) (nI p)) ff_Mod_rowSize v (nI (rn M ff_Mod_rowSize v + 1))) ff_Mod_lost 0 (nI (rn M ff_Mod_lost 0 + 1))
theorem pW_up {k j : Nat} {x : Int32} : oz (fx_up M ff_Mod_whose k x ff_Mod_whose j) = if j = k then oz x else oz (M ff_Mod_whose j) := by
  by_cases e : j = k
  · rw [if_pos e, e, fx_up_same]
  · rw [if_neg e, fx_up_ne (fun q => e q.2)]
/-- it takes a place -/
theorem JV.jn {v p t b k : Nat} (h : JV M lv) (hf : JF M lv v p t b) (t1 : t = 1) (t2 : rz M ff_Mod_asked p = false) (hgt : rn M ff_Mod_slotTry p = 1) (hk : k < 256) (hkv : k / 4 = v) (hke : oz (M ff_Mod_whose k) = none) (no2 : ∀ j, j < 256 → oz (M ff_Mod_whose j) ≠ some p) (hri : RI (om_jn M k p b)) : JV (om_jn M k p b) lv ∧ ∀ u, u < 64 → J12 M u (fun _ => False) → J12 (om_jn M k p b) u (fun j => some k = some j) := by
  obtain ⟨f1, f2, f3, f4, f5, f6, f7, f8, f9, f10, f11⟩ := hf
  have hb8 : b < 8 := by have := h.ri.gLl f2; omega
  have hb2 : 2 ^ b < 256 := (Nat.pow_lt_pow_right (by omega) hb8 : 2 ^ b < 2 ^ 8)
  have eW : ∀ j, oz ((om_jn M k p b) ff_Mod_whose j) = if j = k then some p else oz (M ff_Mod_whose j) := by
    intro j
    have e1 : oz ((om_jn M k p b) ff_Mod_whose j) = oz (fx_up M ff_Mod_whose k (nI p) ff_Mod_whose j) := rfl
    rw [e1, pW_up, oz_nI (by omega)]
  have eT : ∀ j, rn (om_jn M k p b) ff_Mod_whichTry j = if j = k then 1 else rn M ff_Mod_whichTry j := by
    intro j
    unfold om_jn
    rw [rn_pe (by decide), rn_pe (by decide)]
    by_cases e : j = k
    · rw [if_pos e, e, rn_same (by omega)]
    · rw [if_neg e, rn_ne (fun q => e q.2), rn_pe (by decide)]
  have eH : ∀ j, rn (om_jn M k p b) ff_Mod_has j = if j = k then 2 ^ b else rn M ff_Mod_has j := by
    intro j
    unfold om_jn
    by_cases e : j = k
    · rw [if_pos e, e, Nat.zero_or, rn_same (by omega)]
    · rw [if_neg e, rn_ne (fun q => e q.2), rn_ne (fun q => e q.2), rn_pe (by decide), rn_pe (by decide)]
  have eF : ∀ j, j ≠ k → pfull (om_jn M k p b) j = pfull M j := by
    intro j hj
    unfold pfull
    rw [eW j, eH j, if_neg hj, if_neg hj]
    rfl
  refine ⟨⟨hri, h.net, h.j2, h.j3, h.j4, h.j5, h.j6, h.j7, fun j q hj hq => ?_, fun i j q hi hj h1 h2 => ?_, fun u i hu hi => ?_, h.j9u, fun i hi => ?_, h.j10u, h.j11, h.j11u, h.j13, h.j14⟩, fun u hu hu2 => ⟨fun hy j h1 h2 h3 => ?_, fun hr j h1 h2 => ?_⟩⟩
  · rw [eW] at hq
    by_cases e : j = k
    · rw [if_pos e] at hq
      have hqp : p = q := by cases hq; rfl
      subst hqp
      rw [eT, eH, if_pos e, if_pos e]
      refine ⟨f3, by rw [e, hkv]; exact f5, Or.inl ⟨rfl, t2⟩, Nat.pow_lt_pow_right (by omega) f4, fun b' hb' => ?_, fun i hi e1 e2 => ?_⟩
      · rw [Nat.testBit_two_pow, decide_eq_true_eq] at hb'
        rw [← hb']
        exact ⟨hgt.symm, f8 (by omega)⟩
      · rw [Nat.testBit_two_pow, decide_eq_false_iff_not]
        exact fun q => f9 i hi e1 q.symm
    · rw [if_neg e] at hq
      have q := h.j8 j q hj hq
      rw [eT, eH, if_neg e, if_neg e]
      exact q
  · rw [eW] at h1 h2
    by_cases c1 : i = k
    · by_cases c2 : j = k
      · omega
      · rw [if_pos c1] at h1
        rw [if_neg c2] at h2
        cases h1
        exact absurd h2 (no2 j hj)
    · by_cases c2 : j = k
      · rw [if_neg c1] at h1
        rw [if_pos c2] at h2
        cases h2
        exact absurd h1 (no2 i hi)
      · rw [if_neg c1] at h1
        rw [if_neg c2] at h2
        exact h.j8u i j q hi hj h1 h2
  · obtain ⟨q1, q2, q3, q4, q5⟩ := h.j9 u i hu hi
    refine ⟨q1, q2, q3, q4, fun j hj => ?_⟩
    rw [eW]
    by_cases c1 : j = k
    · rw [if_pos c1]
      intro q
      have e : p = rn M ff_Mod_row (512 * u + i) := Option.some.inj q
      rw [← e, t2] at q3
      cases q3
    · rw [if_neg c1]
      exact q5 j hj
  · obtain ⟨q1, q2, q3, q4⟩ := h.j10 i hi
    refine ⟨q1, q2, fun hd => ?_, q4⟩
    obtain ⟨r1, r2, r3, r4⟩ := q3 hd
    refine ⟨r1, r2, fun j hj => ?_, r4⟩
    rw [eW]
    by_cases c1 : j = k
    · rw [if_pos c1]
      intro q
      have e : p = rn M ff_Mod_noteSlot i := Option.some.inj q
      have := f11 i hi e.symm
      have hd' : rz M ff_Mod_noteDone i = true := hd
      rw [this] at hd'
      cases hd'
    · rw [if_neg c1]
      exact r3 j hj
  · rw [eF j (fun q => h3 (by rw [q]))]
    exact hu2.1 hy j h1 h2 (fun q => q)
  · rw [eW]
    by_cases c1 : j = k
    · rw [if_pos c1]; intro q; cases q
    · rw [if_neg c1]
      exact hu2.2 hr j h1 h2
/-- it is lost, and its packet asked for -/
theorem JV.jl {v p : Nat} (h : JV M lv) (f1 : v < (rn M ff_Mod_all 0)) (f2 : p < 512) (f3 : 0 < rn M ff_Mod_lengths p) (f5 : rn M ff_Mod_goals p = v) (ha : rz M ff_Mod_asked p = false) (hgt : rn M ff_Mod_slotTry p = 1) (f11 : ∀ k, lv k → rn M ff_Mod_noteSlot k = p → rz M ff_Mod_noteDone k = false) (no2 : ∀ j, j < 256 → oz (M ff_Mod_whose j) ≠ some p) (hri : RI (om_jl M v p)) : JV (om_jl M v p) lv ∧ ∀ u, u ≠ v → rn (om_jl M v p) ff_Mod_rowSize u = rn M ff_Mod_rowSize u := by
  have h64 := h.all64
  have hr := h.rN512 f1
  have eA : ∀ q, rz (om_jl M v p) ff_Mod_asked q = if q = p then true else rz M ff_Mod_asked q := by
    intro q
    unfold om_jl
    rw [rz_pe (by decide), rz_pe (by decide), rz_pe (by decide)]
    by_cases e : q = p
    · rw [if_pos e, e, rz_same]
    · rw [if_neg e, rz_ne (fun w => e w.2)]
  have eN : ∀ u, rn (om_jl M v p) ff_Mod_rowSize u = if u = v then rn M ff_Mod_rowSize v + 1 else rn M ff_Mod_rowSize u := by
    intro u
    unfold om_jl
    rw [rn_pe (by decide)]
    by_cases e : u = v
    · rw [if_pos e, e, rn_same (by omega)]
    · rw [if_neg e, rn_ne (fun w => e w.2), rn_pe (by decide), rn_pe (by decide)]
  have eR : ∀ i, rn (om_jl M v p) ff_Mod_row i = if i = 512 * v + rn M ff_Mod_rowSize v then p else rn M ff_Mod_row i := by
    intro i
    unfold om_jl
    rw [rn_pe (by decide), rn_pe (by decide)]
    by_cases e : i = 512 * v + rn M ff_Mod_rowSize v
    · rw [if_pos e, e, rn_same (by omega)]
    · rw [if_neg e, rn_ne (fun w => e w.2), rn_pe (by decide)]
  have rne : ∀ u i, u < (rn M ff_Mod_all 0) → i < rn M ff_Mod_rowSize u → rn M ff_Mod_row (512 * u + i) ≠ p := by
    intro u i hu hi q
    have := (h.j9 u i hu hi).2.2.1
    rw [q, ha] at this
    cases this
  have nne : ∀ k, lv k → rn M ff_Mod_noteSlot k ≠ p := by
    intro k hk q
    have w := ((h.j10 k hk).2.2.2 (f11 k hk q)).2.1
    rw [q, ha] at w
    cases w
  have rcase : ∀ u i, u < (rn M ff_Mod_all 0) → i < rn (om_jl M v p) ff_Mod_rowSize u → (u = v ∧ i = rn M ff_Mod_rowSize v ∧ rn (om_jl M v p) ff_Mod_row (512 * u + i) = p) ∨ (i < rn M ff_Mod_rowSize u ∧ rn (om_jl M v p) ff_Mod_row (512 * u + i) = rn M ff_Mod_row (512 * u + i)) := by
    intro u i hu hi
    rw [eN] at hi
    by_cases e : u = v
    · rw [if_pos e] at hi
      by_cases e2 : i = rn M ff_Mod_rowSize v
      · exact Or.inl ⟨e, e2, by rw [eR, if_pos (by rw [e, e2])]⟩
      · exact Or.inr ⟨by rw [e]; omega, by rw [eR, if_neg (by rw [e]; omega)]⟩
    · rw [if_neg e] at hi
      have := h.ri.rNl (v := u) (by omega)
      exact Or.inr ⟨hi, by rw [eR, if_neg (by omega)]⟩
  refine ⟨⟨hri, h.net, h.j2, h.j3, h.j4, h.j5, fun q hq hq0 => ?_, h.j7, fun j q hj hq => ?_, h.j8u, fun u i hu hi => ?_, fun u i j hu hi hj e => ?_, fun i hi => ?_, h.j10u, h.j11, h.j11u, h.j13, h.j14⟩, fun u hu => by rw [eN, if_neg hu]⟩
  · obtain ⟨q1, q2⟩ := h.j6 q hq hq0
    refine ⟨?_, q2⟩
    rw [eA]
    by_cases e : q = p
    · rw [if_pos e]; exact Or.inl (by rw [e]; exact hgt)
    · rw [if_neg e]; exact q1
  · have hqp : q ≠ p := fun e => no2 j hj (by rw [← e]; exact hq)
    have w := h.j8 j q hj hq
    have e := eA q
    rw [if_neg hqp] at e
    rw [← e] at w
    exact w
  · rcases rcase u i hu hi with ⟨w1, w2, w3⟩ | ⟨w1, w2⟩
    · rw [w3, eA, if_pos rfl]
      exact ⟨f3, by rw [w1]; exact f5, rfl, hgt, no2⟩
    · rw [w2, eA, if_neg (rne u i hu w1)]
      exact h.j9 u i hu w1
  · rcases rcase u i hu hi with ⟨w1, w2, w3⟩ | ⟨w1, w2⟩
    · rcases rcase u j hu hj with ⟨y1, y2, y3⟩ | ⟨y1, y2⟩
      · omega
      · rw [w3, y2] at e
        exact absurd e.symm (rne u j hu y1)
    · rcases rcase u j hu hj with ⟨y1, y2, y3⟩ | ⟨y1, y2⟩
      · rw [w2, y3] at e
        exact absurd e (rne u i hu w1)
      · rw [w2, y2] at e
        exact h.j9u u i j hu w1 y1 e
  · obtain ⟨q1, q2, q3, q4⟩ := h.j10 i hi
    refine ⟨q1, q2, fun hd => ?_, fun hd => ?_⟩
    · obtain ⟨r1, r2, r3, r4⟩ := q3 hd
      refine ⟨r1, r2, r3, ?_⟩
      have e := eA (rn M ff_Mod_noteSlot i)
      rw [if_neg (nne i hi)] at e
      rw [← e] at r4
      exact r4
    · obtain ⟨r1, r2, r3⟩ := q4 hd
      refine ⟨r1, ?_, fun u j hu hj => ?_⟩
      · have e := eA (rn M ff_Mod_noteSlot i)
        rw [if_neg (nne i hi)] at e
        rw [← e] at r2
        exact r2
      · rcases rcase u j hu hj with ⟨y1, y2, y3⟩ | ⟨y1, y2⟩
        · rw [y3]; exact fun q => nne i hi q.symm
        · rw [y2]; exact r3 u j hu y1
/-- it is joined, or lost -/
theorem JV.join {v p t b : Nat} (h : JV M lv) (hf : JF M lv v p t b) (h12 : J12 M v (fun _ => False)) (hlo : rn M ff_Mod_lost 0 < 9000000) : JV (om_join M v p t b) lv ∧ J12 (om_join M v p t b) v (fun j => sjk M v p t = some j) ∧ (∀ u, u < 64 → u ≠ v → J12 M u (fun _ => False) → J12 (om_join M v p t b) u (fun _ => False)) := by
  obtain ⟨f1, f2, f3, f4, f5, f6, f7, f8, f9, f10, f11⟩ := hf
  have h64 := h.all64
  have hb8 : b < 8 := by have := h.ri.gLl f2; omega
  obtain ⟨c1, c2, c3, c4, c5⟩ := h.j6 p f2 f3
  have hri := h.ri.join (v := v) (p := p) (t := t) (b := b) (by omega) f2 hb8 (h.rN512 f1) hlo
  unfold om_join sjk at *
  cases hs : sp_first (fun k => decide (M ff_Mod_whose k = nI p) && decide (M ff_Mod_whichTry k = nI t)) (4 * v) 4 with
  | some k =>
    rw [hs] at hri
    dsimp only at hri ⊢
    obtain ⟨k1, k2, k3, -⟩ := sp_first_some.mp hs
    have hk : k < 256 := by omega
    obtain ⟨w1, w2⟩ := (place_iff h.ri f2 (by omega) hk).mp k3
    obtain ⟨p1, p2, p3, p4, p5, p6⟩ := h.j8 k p hk w1
    have hH : ∀ j, rn (fx_up M ff_Mod_has k (nI (rn M ff_Mod_has k ||| 2 ^ b))) ff_Mod_has j = if j = k then rn M ff_Mod_has k ||| 2 ^ b else rn M ff_Mod_has j := by
      intro j
      have := fx_or_lt (h.ri.pHl hk) hb8
      by_cases e : j = k
      · rw [if_pos e, e, rn_same (by omega)]
      · rw [if_neg e, rn_ne (fun q => e q.2)]
    have htg : t = rn M ff_Mod_slotTry p := by
      rcases p3 with ⟨x1, x2⟩ | ⟨x1, x2⟩
      · rcases c1 with y | y
        · omega
        · rw [x2] at y; cases y.2
      · rcases c1 with y | y <;> omega
    have hpf : ∀ j, j ≠ k → pfull (fx_up M ff_Mod_has k (nI (rn M ff_Mod_has k ||| 2 ^ b))) j = pfull M j := by
      intro j hj
      unfold pfull
      rw [hH j, if_neg hj]
      rfl
    refine ⟨⟨hri, h.net, h.j2, h.j3, h.j4, h.j5, h.j6, h.j7, fun j q hj hq => ?_, h.j8u, h.j9, h.j9u, h.j10, h.j10u, h.j11, h.j11u, h.j13, h.j14⟩, ⟨fun hy j h1 h2 h3 => ?_, h12.2⟩, fun u hu64 hu hu2 => ⟨fun hy j h1 h2 h3 => ?_, hu2.2⟩⟩
    · have e := hH j
      by_cases ej : j = k
      · rw [if_pos ej] at e
        subst ej
        have eq : q = p := by
          have : oz (M ff_Mod_whose j) = some q := hq
          rw [w1] at this
          cases this
          rfl
        subst eq
        refine ⟨p1, p2, p3, ?_, fun b' hb' => ?_, fun i hi e1 e2 => ?_⟩
        · rw [e]
          exact Nat.or_lt_two_pow p4 (Nat.pow_lt_pow_right (by omega) f4)
        · rw [e, Nat.testBit_or, Nat.testBit_two_pow] at hb'
          simp only [Bool.or_eq_true, decide_eq_true_eq] at hb'
          rcases hb' with x | x
          · exact p5 b' x
          · rw [← x]
            exact ⟨(show rn M ff_Mod_whichTry j = rn M ff_Mod_slotTry q by rw [← htg]; exact w2), f8 htg⟩
        · rw [e, Nat.testBit_or, Nat.testBit_two_pow, Bool.or_eq_false_iff]
          exact ⟨p6 i hi e1 e2, by simpa using fun q => f9 i hi e1 q.symm⟩
      · rw [if_neg ej] at e
        have q := h.j8 j q hj hq
        rw [← e] at q
        exact q
    · rw [hpf j (fun q => h3 (by rw [q]))]
      exact h12.1 hy j h1 h2 (fun q => q)
    · rw [hpf j (by omega)]
      exact hu2.1 hy j h1 h2 (fun q => q)
  | none =>
    rw [hs] at hri
    have nopl : ∀ k, k < 256 → oz (M ff_Mod_whose k) = some p → rn M ff_Mod_whichTry k ≠ t := by
      intro k hk hw ht
      have := sp_first_none.mp hs k
      have hg := (h.j8 k p hk hw).2.1
      have h1 := this (by omega) (by omega)
      have h2 := (place_iff h.ri f2 (t := t) (by omega) hk).mpr ⟨hw, ht⟩
      rw [h1] at h2
      cases h2
    dsimp only at hri ⊢
    cases he : (bif t == 1 && !rz M ff_Mod_asked p then semp M v else none) with
    | some k =>
      rw [he] at hri
      dsimp only at hri ⊢
      have ht1 : t = 1 ∧ rz M ff_Mod_asked p = false ∧ semp M v = some k := by
        cases hx : (t == 1 && !rz M ff_Mod_asked p) with
        | false => rw [hx] at he; cases he
        | true =>
          rw [hx, cond_true] at he
          simp only [Bool.and_eq_true, beq_iff_eq, Bool.not_eq_true'] at hx
          exact ⟨hx.1, hx.2, he⟩
      obtain ⟨t1, t2, t3⟩ := ht1
      obtain ⟨k1, k2, k3, -⟩ := sp_first_some.mp t3
      have hk : k < 256 := by omega
      have hke : oz (M ff_Mod_whose k) = none := by rw [oz_none]; simpa using k3
      have hgt : rn M ff_Mod_slotTry p = 1 := by
        rcases c1 with y | y
        · exact y
        · rw [t2] at y; cases y.2
      have no2 : ∀ j, j < 256 → oz (M ff_Mod_whose j) ≠ some p := by
        intro j hj hw
        rcases (h.j8 j p hj hw).2.2.1 with y | y
        · exact nopl j hj hw (by omega)
        · rw [t2] at y; cases y.2
      obtain ⟨x1, x2⟩ := h.jn (k := k) (p := p) (b := b) ⟨f1, f2, f3, f4, f5, f6, f7, f8, f9, f10, f11⟩ t1 t2 hgt hk (by omega) hke no2 hri
      exact ⟨x1, x2 v (by omega) h12, fun u hu64 hu hu2 => ⟨fun hy j h1 h2 h3 => ((x2 u hu64 hu2).1 hy j h1 h2 (fun q => by cases q; omega)), (x2 u hu64 hu2).2⟩⟩
    | none =>
      rw [he] at hri
      dsimp only at hri ⊢
      cases ha : rz M ff_Mod_asked p with
      | true =>
        rw [cond_true]
        exact ⟨h, ⟨fun hy j h1 h2 h3 => h12.1 hy j h1 h2 (fun q => q), h12.2⟩, fun u _ _ hu2 => hu2⟩
      | false =>
        rw [ha] at hri
        rw [cond_false] at hri ⊢
        have hgt : rn M ff_Mod_slotTry p = 1 := by
          rcases c1 with y | y
          · exact y
          · rw [ha] at y; cases y.2
        have t1 : t = 1 := by omega
        rw [t1, ha] at he
        have he' : semp M v = none := he
        have no2 : ∀ j, j < 256 → oz (M ff_Mod_whose j) ≠ some p := by
          intro j hj hw
          rcases (h.j8 j p hj hw).2.2.1 with y | y
          · exact nopl j hj hw (by omega)
          · rw [ha] at y; cases y.2
        obtain ⟨x1, x2⟩ := h.jl (v := v) (p := p) f1 f2 f3 f5 ha hgt f11 no2 hri
        refine ⟨x1, ⟨fun hy j h1 h2 h3 => h12.1 hy j h1 h2 (fun q => q), fun hr j h1 h2 q => ?_⟩, fun u hu64 hu hu2 => ⟨hu2.1, fun hr j h1 h2 => hu2.2 (by rw [← x2 u hu]; exact hr) j h1 h2⟩⟩
        have q' : oz (M ff_Mod_whose j) = none := q
        have := sp_first_none.mp he' j h1 h2
        rw [oz_none] at q'
        simp [q'] at this
end
