/-! THE INVARIANTS: the third step of a cycle -/
section
variable {M : rf_M}
/-- who enters, in full -/
theorem scand_full {v w : Nat} (h : scand M v = some w) : (sp_first (suw M) (8 * v) 8 = some w) ∨ (sp_first (suw M) (8 * v) 8 = none ∧ 0 < rn M ff_Mod_agains v ∧ (∀ f, f < (rn M ff_Mod_flits 0) → spk M f ≠ rn M ff_Mod_again (8 * v)) ∧ w = 1000 + rn M ff_Mod_again (8 * v)) ∨ (sp_first (suw M) (8 * v) 8 = none ∧ ¬ (0 < rn M ff_Mod_agains v ∧ ∀ f, f < (rn M ff_Mod_flits 0) → spk M f ≠ rn M ff_Mod_again (8 * v)) ∧ 0 < rn M ff_Mod_waits v ∧ w = 2000 ∧ ∃ p, sp_first (fun p => rn M ff_Mod_lengths p == 0) (8 * v) 8 = some p) := by
  have iso : (sp_first (fun f => spk M f == rn M ff_Mod_again (8 * v)) 0 ((rn M ff_Mod_flits 0))).isSome = false ↔ ∀ f, f < (rn M ff_Mod_flits 0) → spk M f ≠ rn M ff_Mod_again (8 * v) := by
    rw [Option.isSome_eq_false_iff, Option.isNone_iff_eq_none, sp_first_none]
    constructor
    · intro q f hf e
      have := q f (by omega) (by omega)
      simp [e] at this
    · intro q f _ hf
      have := q f (by omega)
      simpa using this
  unfold scand at h
  cases hs : sp_first (suw M) (8 * v) 8 with
  | some p =>
    rw [hs] at h
    exact Or.inl h
  | none =>
    rw [hs] at h
    try dsimp only at h
    cases q : (decide (0 < rn M ff_Mod_agains v) && !(sp_first (fun f => spk M f == rn M ff_Mod_again (8 * v)) 0 ((rn M ff_Mod_flits 0))).isSome)
    · rw [q, cond_false] at h
      cases q2 : (decide (0 < rn M ff_Mod_waits v) && (sp_first (fun p => rn M ff_Mod_lengths p == 0) (8 * v) 8).isSome)
      · rw [q2, cond_false] at h
        cases h
      · rw [q2, cond_true] at h
        cases h
        simp only [Bool.and_eq_true, decide_eq_true_eq] at q2
        refine Or.inr (Or.inr ⟨rfl, fun w => ?_, q2.1, rfl, Option.isSome_iff_exists.mp q2.2⟩)
        rw [iso.mpr w.2] at q
        simp [w.1] at q
    · rw [q, cond_true] at h
      cases h
      simp only [Bool.and_eq_true, decide_eq_true_eq, Bool.not_eq_true'] at q
      exact Or.inr (Or.inl ⟨rfl, q.1, iso.mp q.2, rfl⟩)
theorem JI.flit {v p l : Nat} (h : JI M) (hv : v < (rn M ff_Mod_all 0)) (hp : JP M v p) (hl : l < 4) (hfree : ∀ f, f < (rn M ff_Mod_flits 0) → rn M ff_Mod_at f = v → rn M ff_Mod_line f ≠ l) (hcnt : sfa M v < fx_ow (rz M ff_Mod_closed) v 4) : JI (om_flit M v p l) := ⟨h.1.flit hv hp hl hfree hcnt, h.2⟩
theorem no_suw {v : Nat} (h : sp_first (suw M) (8 * v) 8 = none) : ∀ q, q / 8 = v → suw M q = false := fun q hq => sp_first_none.mp h q (by omega) (by omega)
theorem JI.unag {v : Nat} (h : JI M) (hv : v < (rn M ff_Mod_all 0)) (hs : sp_first (suw M) (8 * v) 8 = none) (ha : 0 < rn M ff_Mod_agains v) (hno : ∀ f, f < (rn M ff_Mod_flits 0) → spk M f ≠ rn M ff_Mod_again (8 * v)) : JI (om_unag M v) ∧ JP (om_unag M v) v (rn M ff_Mod_again (8 * v)) := by
  have h64 := h.1.all64
  obtain ⟨u1, u2⟩ := h.1.unag hv ha
  obtain ⟨a1, a2, a3, a4⟩ := h.1.j11 v 0 hv ha
  rw [Nat.add_zero] at a1 a2 a3 a4
  refine ⟨⟨u1, h.2⟩, h.1.ri.aRl (by omega), a1, a2, ?_, fun f hf e => absurd e (hno f hf), fun q hq hqv s => ?_, u2⟩
  · show rn M ff_Mod_entered (rn M ff_Mod_again (8 * v)) < rn M ff_Mod_lengths (rn M ff_Mod_again (8 * v))
    omega
  · have s' : suw M q = true := s
    rw [no_suw hs q hqv] at s'
    cases s'
theorem JI.unwt {v p : Nat} (h : JI M) (hv : v < (rn M ff_Mod_all 0)) (hs : sp_first (suw M) (8 * v) 8 = none) (hw : 0 < rn M ff_Mod_waits v) (hp : sp_first (fun p => rn M ff_Mod_lengths p == 0) (8 * v) 8 = some p) : JI (om_unwt M v p) ∧ JP (om_unwt M v p) v p := by
  have h64 := h.1.all64
  obtain ⟨p1, p2, p3, -⟩ := sp_first_some.mp hp
  have p3' : rn M ff_Mod_lengths p = 0 := by simpa using p3
  obtain ⟨u1, u2⟩ := h.1.unwt hv (by omega) (by omega) p3' hw
  obtain ⟨i1, -, -, -, i5⟩ := h.1.idle p3'
  obtain ⟨w1, w2, w3⟩ := h.1.j13 v 0 hv hw
  rw [Nat.add_zero] at w1 w2 w3
  have wL9 : rn M ff_Mod_waitLength (4 * v) < 9 := h.1.ri.l ff_Mod_waitLength (4 * v) 9 (n := 256) rfl (by omega) rfl (by omega)
  have eL : rn (om_unwt M v p) ff_Mod_lengths p = rn M ff_Mod_waitLength (4 * v) := by rw [unwt_L wL9, if_pos rfl]
  have eE : rn (om_unwt M v p) ff_Mod_entered p = 0 := by rw [unwt_E, if_pos rfl]
  refine ⟨⟨u1, fun u hu => ?_⟩, by omega, by omega, by omega, by omega, fun f hf e => absurd e (i1 f hf), fun q hq hqv s => ?_, fun i hi => i5 v i hv hi⟩
  · have hu : u < (rn M ff_Mod_all 0) := hu
    exact u2 u _ (by omega) (h.2 u hu)
  · by_cases c : q = p
    · exact c
    · have s' : suw M q = true := by
        unfold suw at s ⊢
        rw [unwt_L wL9, unwt_E, if_neg c, if_neg c] at s
        exact s
      rw [no_suw hs q hqv] at s'
      cases s'
/-- the packet that enters -/
def sep (M : rf_M) (v w : Nat) : Nat := if w < 1000 then w else if w < 2000 then w - 1000 else (sp_first (fun p => rn M ff_Mod_lengths p == 0) (8 * v) 8).getD 0
/-- the state before its flit -/
def om_pre (M : rf_M) (v w : Nat) : rf_M := if w < 1000 then M else if w < 2000 then om_unag M v else om_unwt M v (sep M v w)
theorem om_enter_eq {v w l : Nat} : om_enter M v w l = om_flit (om_pre M v w) v (sep M v w) l := by
  unfold om_enter om_pre sep
  by_cases c : w < 1000
  · rw [if_pos c, if_pos c, if_pos c]
  · rw [if_neg c, if_neg c, if_neg c]
    by_cases d : w < 2000
    · rw [if_pos d, if_pos d, if_pos d]
    · rw [if_neg d, if_neg d, if_neg d]
theorem JI.pre {v w : Nat} (h : JI M) (hv : v < (rn M ff_Mod_all 0)) (hw : scand M v = some w) : JI (om_pre M v w) ∧ JP (om_pre M v w) v (sep M v w) ∧ (0 < rn M ff_Mod_agains v → rn M ff_Mod_entered (rn M ff_Mod_again (8 * v)) < 8) ∧ (∀ f, f = ff_Mod_at ∨ f = ff_Mod_line ∨ f = ff_Mod_flits ∨ f = ff_Mod_closed ∨ f = ff_Mod_all ∨ f = ff_Mod_n → ∀ i, om_pre M v w f i = M f i) := by
  have h64 := h.1.all64
  have hag : 0 < rn M ff_Mod_agains v → rn M ff_Mod_entered (rn M ff_Mod_again (8 * v)) < 8 := by
    intro ha
    have := (h.1.j11 v 0 hv ha).2.2.2
    rw [Nat.add_zero] at this
    omega
  rcases scand_full hw with h1 | ⟨h1, h2, h3, h4⟩ | ⟨h1, h2, h3, h4, p, h5⟩
  · obtain ⟨p1, p2, p3, -⟩ := sp_first_some.mp h1
    have e1 : sep M v w = w := by unfold sep; rw [if_pos (by omega)]
    have e2 : om_pre M v w = M := by unfold om_pre; rw [if_pos (by omega)]
    rw [e1, e2]
    simp only [suw, Bool.and_eq_true, decide_eq_true_eq] at p3
    refine ⟨h, ⟨by omega, by omega, p3.1.1, p3.2, fun f hf e => ?_, fun q hq hqv s => ?_, fun i hi q => ?_⟩, hag, fun f _ i => rfl⟩
    · obtain ⟨-, -, -, -, q5, -, q7⟩ := h.1.j2 f hf
      rw [e] at q5 q7
      by_cases c : rn M ff_Mod_tries f < rn M ff_Mod_slotTry w
      · have := q7 c
        omega
      · omega
    · have hs : suw M w = true := by simp only [suw, Bool.and_eq_true, decide_eq_true_eq]; exact p3
      exact h.1.j7 q w hq (by omega) (by omega) s hs
    · have := (h.1.j11 v i hv hi).2.2.2
      rw [q] at this
      omega
  · have ha5 := h.1.ri.aRl (i := 8 * v) (by omega)
    subst h4
    have e1 : sep M v (1000 + rn M ff_Mod_again (8 * v)) = rn M ff_Mod_again (8 * v) := by
      unfold sep
      rw [if_neg (by omega), if_pos (by omega)]
      omega
    have e2 : om_pre M v (1000 + rn M ff_Mod_again (8 * v)) = om_unag M v := by
      unfold om_pre
      rw [if_neg (by omega), if_pos (by omega)]
    rw [e1, e2]
    obtain ⟨u1, u2⟩ := h.unag hv h1 h2 h3
    exact ⟨u1, u2, hag, fun f hf i => by rcases hf with e | e | e | e | e | e <;> subst e <;> rfl⟩
  · subst h4
    have e1 : sep M v 2000 = p := by
      unfold sep
      rw [if_neg (by omega), if_neg (by omega), h5]
      rfl
    have e2 : om_pre M v 2000 = om_unwt M v p := by
      unfold om_pre
      rw [if_neg (by omega), if_neg (by omega), e1]
    rw [e1, e2]
    obtain ⟨u1, u2⟩ := h.unwt hv h1 h3 h5
    exact ⟨u1, u2, hag, fun f hf i => by rcases hf with e | e | e | e | e | e <;> subst e <;> rfl⟩
theorem JI.enter {v w l : Nat} (h : JI M) (hv : v < (rn M ff_Mod_all 0)) (hw : scand M v = some w) (hl : sfl M v = some l) (hcnt : sfa M v < fx_ow (rz M ff_Mod_closed) v 4) : JI (om_enter M v w l) := by
  obtain ⟨a1, a2, -, a4⟩ := h.pre hv hw
  obtain ⟨l1, l2, -⟩ := sfl_some hl
  have e1 : ∀ i, rn (om_pre M v w) ff_Mod_at i = rn M ff_Mod_at i := fun i => by unfold rn; rw [a4 _ (by simp)]
  have e2 : ∀ i, rn (om_pre M v w) ff_Mod_line i = rn M ff_Mod_line i := fun i => by unfold rn; rw [a4 _ (by simp)]
  have e3 : (rn (om_pre M v w) ff_Mod_flits 0) = (rn M ff_Mod_flits 0) := by unfold rn; rw [a4 _ (by simp)]
  have e4 : (rn (om_pre M v w) ff_Mod_all 0) = (rn M ff_Mod_all 0) := by unfold rn; rw [a4 _ (by simp)]
  have e5 : rz (om_pre M v w) ff_Mod_closed = rz M ff_Mod_closed := by funext i; unfold rz rn; rw [a4 _ (by simp)]
  rw [om_enter_eq]
  refine a1.flit (by omega) a2 l1 (fun f hf e => ?_) ?_
  · rw [e3] at hf
    rw [e1] at e
    rw [e2]
    exact l2 f hf e
  · have : sfa (om_pre M v w) v = sfa M v := by
      unfold sfa
      rw [e3]
      exact sp_cnt_congr _ (fun i _ => by rw [e1])
    rw [this, e5]
    exact hcnt
theorem JI.hun {only : Option Nat} {v : Nat} (h : JI M) (hh : rn M ff_Mod_hungry v < 900000) : JI (om_hun M only v) := ⟨⟨h.1.ri.hun hh, h.1.net, h.1.j2, h.1.j3, h.1.j4, h.1.j5, h.1.j6, h.1.j7, h.1.j8, h.1.j8u, h.1.j9, h.1.j9u, h.1.j10, h.1.j10u, h.1.j11, h.1.j11u, h.1.j13, h.1.j14⟩, h.2⟩
theorem JI.turn {x : Nat} (h : JI M) (hx : x < 64) : JI (fx_up M ff_Mod_turn 0 (nI x)) := ⟨⟨h.1.ri.up (b := 64) rfl hx (by decide) (by decide), h.1.net, h.1.j2, h.1.j3, h.1.j4, h.1.j5, h.1.j6, h.1.j7, h.1.j8, h.1.j8u, h.1.j9, h.1.j9u, h.1.j10, h.1.j10u, h.1.j11, h.1.j11u, h.1.j13, h.1.j14⟩, h.2⟩
theorem hun_scand {only : Option Nat} {u v : Nat} : scand (om_hun M only u) v = scand M v := rfl
theorem JI.le1 {only : Option Nat} {v : Nat} (h : JI M) (hv : v < (rn M ff_Mod_all 0)) (hh : rn M ff_Mod_hungry v < 900000) : pk_let1 M only v ∧ JI (om_le1 M only v) := by
  have h64 := h.1.all64
  have h0 := h.1.all0
  unfold pk_let1 om_le1
  cases q : ((scand M v).isSome && smay M only v) with
  | false =>
    rw [cond_false]
    exact ⟨⟨hh, fun a b => by rw [a, b] at q; cases q⟩, h.hun hh⟩
  | true =>
    rw [cond_true]
    rw [Bool.and_eq_true] at q
    obtain ⟨w, hw⟩ := Option.isSome_iff_exists.mp q.1
    have hm := q.2
    unfold smay at hm
    rw [Bool.and_eq_true, decide_eq_true_eq] at hm
    have h4 := fx_ow4 (rz M ff_Mod_closed) v
    obtain ⟨l, hl⟩ := sfl_ex (M := M) (v := v) (by omega)
    obtain ⟨l1, l2, -⟩ := sfl_some hl
    have hH := h.hun (only := only) hh
    have hE : JI (om_enter (om_hun M only v) v w l) := hH.enter (v := v) (w := w) (l := l) hv hw hl hm.1
    refine ⟨⟨hh, fun _ _ => ⟨by rw [hl]; rfl, h.1.room hv l1 l2, (h.pre hv hw).2.2.1⟩⟩, ?_⟩
    rw [hw, hl]
    show JI (if only = some v then _ else _)
    split
    · exact hE.turn (by have := Nat.mod_lt (v + 1) h0; omega)
    · exact hE
theorem le1_hG {only : Option Nat} {v u : Nat} (h : u ≠ v) : rn (om_le1 M only v) ff_Mod_hungry u = rn M ff_Mod_hungry u := by
  have e0 : rn (om_hun M only v) ff_Mod_hungry u = rn M ff_Mod_hungry u := rn_ne (fun q => h q.2)
  have e1 : ∀ w l, rn (om_enter (om_hun M only v) v w l) ff_Mod_hungry u = rn (om_hun M only v) ff_Mod_hungry u := by
    intro w l
    unfold om_enter
    split
    · rfl
    · split <;> rfl
  unfold om_le1
  cases (scand M v).isSome && smay M only v with
  | false => exact e0
  | true =>
    rw [cond_true]
    split
    · exact (e1 _ _).trans e0
    · exact (e1 _ _).trans e0
theorem JI.le {only : Option Nat} : ∀ (d v : Nat) (M : rf_M), JI M → v + d = (rn M ff_Mod_all 0) → (∀ u, v ≤ u → u < (rn M ff_Mod_all 0) → rn M ff_Mod_hungry u < 900000) → pk_let only d v M ∧ JI (om_le only d v M)
  | 0, v, M, h, _, _ => ⟨trivial, h⟩
  | d + 1, v, M, h, hd, hh => by
    obtain ⟨a1, a2⟩ := h.le1 (only := only) (v := v) (by omega) (hh v (by omega) (by omega))
    have e : (rn (om_le1 M only v) ff_Mod_all 0) = (rn M ff_Mod_all 0) := om_le1_all
    obtain ⟨b1, b2⟩ := JI.le (only := only) d (v + 1) (om_le1 M only v) a2 (by omega) (fun u h1 h2 => by rw [le1_hG (by omega)]; exact hh u (by omega) (by omega))
    exact ⟨⟨a1, b1⟩, b2⟩
end
