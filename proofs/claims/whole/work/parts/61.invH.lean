/-! THE INVARIANTS: ways are given -/
theorem fx_ow_cnt (cl : Nat → Bool) (v : Nat) : ∀ j, fx_ow cl v j = sp_cnt (fun w => !cl (4 * v + w)) j
  | 0 => rfl
  | j + 1 => by
    unfold fx_ow sp_cnt
    rw [fx_ow_cnt cl v j]
    cases cl (4 * v + j) <;> rfl
theorem sp_best_none {P : Nat → Bool} {R : Nat → Nat → Bool} : ∀ {k : Nat}, sp_best P R k = none ↔ ∀ i, i < k → P i = false
  | 0 => ⟨fun _ i h => by omega, fun _ => rfl⟩
  | k + 1 => by
    unfold sp_best
    cases hp : P k with
    | false =>
      rw [Bool.false_and, cond_false, sp_best_none (k := k)]
      constructor
      · intro h i hi
        by_cases e : i = k
        · rw [e]; exact hp
        · exact h i (by omega)
      · intro h i hi
        exact h i (by omega)
    | true =>
      rw [Bool.true_and]
      constructor
      · intro h
        cases hb : sp_best P R k with
        | none => rw [hb] at h; cases h
        | some b =>
          rw [hb] at h
          try dsimp only at h
          cases hr : R k b with
          | true => rw [hr] at h; cases h
          | false => rw [hr] at h; cases h
      · intro h
        have := h k (by omega)
        rw [hp] at this
        cases this
theorem sp_cnt_le_of {P R : Nat → Bool} {N : Nat} (h : ∀ i, i < N → P i = true → R i = true) : sp_cnt P N ≤ sp_cnt R N :=
  cnt_inj (φ := fun i => i) N R (fun i hi hp => ⟨hi, h i hi hp⟩) (fun i j _ _ _ _ e => e)
section
variable {M : rf_M}
/-- all flits at v have ways of their own -/
def WG (M : rf_M) (v : Nat) : Prop := (∀ f, f < (rn M ff_Mod_flits 0) → rn M ff_Mod_at f = v → ∃ w, w < 4 ∧ M ff_Mod_way f = nI w ∧ rz M ff_Mod_closed (4 * v + w) = false) ∧ ∀ f g, f < (rn M ff_Mod_flits 0) → g < (rn M ff_Mod_flits 0) → rn M ff_Mod_at f = v → rn M ff_Mod_at g = v → M ff_Mod_way f = M ff_Mod_way g → f = g
/-- those that have ways have ways of their own -/
def WP (M : rf_M) (v : Nat) : Prop := (∀ f, f < (rn M ff_Mod_flits 0) → rn M ff_Mod_at f = v → M ff_Mod_way f = fx_neg ∨ ∃ w, w < 4 ∧ M ff_Mod_way f = nI w ∧ rz M ff_Mod_closed (4 * v + w) = false) ∧ ∀ f g w, f < (rn M ff_Mod_flits 0) → g < (rn M ff_Mod_flits 0) → rn M ff_Mod_at f = v → rn M ff_Mod_at g = v → w < 4 → M ff_Mod_way f = nI w → M ff_Mod_way g = nI w → f = g
def WX (v : Nat) (M M' : rf_M) : Prop := ∀ g i, ¬ (g = ff_Mod_way ∧ i < (rn M ff_Mod_flits 0) ∧ rn M ff_Mod_at i = v) → M' g i = M g i
theorem JI.way {f : Nat} {x : Int32} (h : JI M) (hx : x = fx_neg ∨ ∃ k, x = nI k ∧ k < 4) : JI (fx_up M ff_Mod_way f x) := ⟨⟨h.1.ri.upy hx, h.1.net, h.1.j2, h.1.j3, h.1.j4, h.1.j5, h.1.j6, h.1.j7, h.1.j8, h.1.j8u, h.1.j9, h.1.j9u, h.1.j10, h.1.j10u, h.1.j11, h.1.j11u, h.1.j13, h.1.j14⟩, h.2⟩
theorem sgiv_iff {v w : Nat} : sgiv M v w = true ↔ ∃ f, f < (rn M ff_Mod_flits 0) ∧ rn M ff_Mod_at f = v ∧ M ff_Mod_way f = nI w := by
  unfold sgiv
  constructor
  · intro h
    obtain ⟨f, hf⟩ := Option.isSome_iff_exists.mp h
    obtain ⟨-, h2, h3, -⟩ := sp_first_some.mp hf
    simp only [Bool.and_eq_true, beq_iff_eq, decide_eq_true_eq] at h3
    exact ⟨f, by omega, h3.1, h3.2⟩
  · rintro ⟨f, h1, h2, h3⟩
    rw [Option.isSome_iff_ne_none]
    intro q
    have := sp_first_none.mp q f (by omega) (by omega)
    simp [h2, h3] at this
/-- there is a way for each -/
theorem sgv_ex {v f : Nat} (h5 : sp_cnt (fun f => rn M ff_Mod_at f == v) ((rn M ff_Mod_flits 0)) ≤ fx_ow (rz M ff_Mod_closed) v 4) (hf : f < (rn M ff_Mod_flits 0)) (hv : rn M ff_Mod_at f = v) (hw : M ff_Mod_way f = fx_neg) : ∃ w, sgv M v f = some w ∧ w < 4 ∧ sfree M v w = true := by
  unfold sgv
  cases h1 : sp_first (fun w => sfree M v w && swant M (rn M ff_Mod_at f) w (sg M f)) 0 4 with
  | some w =>
    obtain ⟨-, a2, a3, -⟩ := sp_first_some.mp h1
    rw [Bool.and_eq_true] at a3
    exact ⟨w, rfl, by omega, a3.1⟩
  | none =>
    try dsimp only
    cases h2 : sp_first (sfree M v) 0 4 with
    | some w =>
      obtain ⟨-, a2, a3, -⟩ := sp_first_some.mp h2
      exact ⟨w, rfl, by omega, a3⟩
    | none =>
      exfalso
      have a1 : ∀ w, w < 4 → rz M ff_Mod_closed (4 * v + w) = false → ∃ g, g < (rn M ff_Mod_flits 0) ∧ rn M ff_Mod_at g = v ∧ M ff_Mod_way g = nI w := by
        intro w hw4 ho
        have := sp_first_none.mp h2 w (by omega) (by omega)
        unfold sfree at this
        rw [ho] at this
        exact sgiv_iff.mp (by simpa using this)
      have c1 : fx_ow (rz M ff_Mod_closed) v 4 ≤ sp_cnt (fun g => rn M ff_Mod_at g == v && !(g == f)) ((rn M ff_Mod_flits 0)) := by
        rw [fx_ow_cnt]
        refine cnt_inj (φ := fun w => if h : w < 4 ∧ rz M ff_Mod_closed (4 * v + w) = false then (a1 w h.1 h.2).choose else 0) 4 _ (fun i hi hp => ?_) (fun i j hi hj hp hq e => ?_)
        · have hp' : rz M ff_Mod_closed (4 * v + i) = false := by simpa using hp
          try dsimp only
          rw [dif_pos ⟨hi, hp'⟩]
          obtain ⟨s1, s2, s3⟩ := (a1 i hi hp').choose_spec
          refine ⟨s1, ?_⟩
          have : (a1 i hi hp').choose ≠ f := by
            intro e
            rw [e, hw] at s3
            exact oI_ne (by omega) s3.symm
          simp [s2, this]
        · have hp' : rz M ff_Mod_closed (4 * v + i) = false := by simpa using hp
          have hq' : rz M ff_Mod_closed (4 * v + j) = false := by simpa using hq
          try dsimp only at e
          rw [dif_pos ⟨hi, hp'⟩, dif_pos ⟨hj, hq'⟩] at e
          have s3 := (a1 i hi hp').choose_spec.2.2
          have t3 := (a1 j hj hq').choose_spec.2.2
          rw [e, t3] at s3
          exact ((nI_eq (by omega) (by omega)).mp s3).symm
      have c2 := sp_cnt_pos (P := fun g => rn M ff_Mod_at g == v) (K := (rn M ff_Mod_flits 0)) (c := f) hf (by simp [hv])
      omega
theorem giv_ok {v : Nat} (hv : v < (rn M ff_Mod_all 0)) : ∀ (n : Nat) (M' : rf_M), JI M' → (rn M' ff_Mod_all 0) = (rn M ff_Mod_all 0) → v < (rn M' ff_Mod_all 0) → WP M' v → sp_cnt (fun f => rn M' ff_Mod_at f == v && decide (M' ff_Mod_way f = fx_neg)) ((rn M' ff_Mod_flits 0)) ≤ n → pk_gr v n M' ∧ JI (om_gr v n M') ∧ WG (om_gr v n M') v ∧ WX v M' (om_gr v n M')
  | 0, M', h, hA, hv', hP, hn => by
    have hz := (sp_cnt_zero _).mp (Nat.le_zero.mp hn)
    refine ⟨sp_best_none.mpr hz, h, ⟨fun f hf e => ?_, fun f g hf hg e1 e2 e3 => ?_⟩, fun _ _ _ => rfl⟩
    · replace e : rn M' ff_Mod_at f = v := e
      rcases hP.1 f hf e with q | q
      · have := hz f hf
        simp [e, q] at this
      · exact q
    · replace e1 : rn M' ff_Mod_at f = v := e1
      rcases hP.1 f hf e1 with q | ⟨w, w1, w2, -⟩
      · have := hz f hf
        simp [e1, q] at this
      · exact hP.2 f g w hf hg e1 e2 w1 w2 (e3.symm.trans w2)
  | n + 1, M', h, hA, hv', hP, hn => by
    unfold pk_gr om_gr
    cases hs : snext M' v with
    | none =>
      have hz := sp_best_none.mp hs
      try dsimp only
      refine ⟨trivial, h, ⟨fun f hf e => ?_, fun f g hf hg e1 e2 e3 => ?_⟩, fun _ _ _ => rfl⟩
      · rcases hP.1 f hf e with q | q
        · have := hz f hf
          simp [e, q] at this
        · exact q
      · rcases hP.1 f hf e1 with q | ⟨w, w1, w2, -⟩
        · have := hz f hf
          simp [e1, q] at this
        · exact hP.2 f g w hf hg e1 e2 w1 w2 (e3.symm.trans w2)
    | some f =>
      obtain ⟨f1, f2⟩ := sp_best_lt hs
      simp only [Bool.and_eq_true, beq_iff_eq, decide_eq_true_eq] at f2
      obtain ⟨w, w1, w2, w3⟩ := sgv_ex (h.1.j5 v hv') f1 f2.1 f2.2
      try dsimp only
      rw [w1]
      have hop : rz M' ff_Mod_closed (4 * v + w) = false := by
        unfold sfree at w3
        rw [Bool.and_eq_true, Bool.not_eq_true'] at w3
        exact w3.1
      have hng : ∀ g, g < (rn M' ff_Mod_flits 0) → rn M' ff_Mod_at g = v → M' ff_Mod_way g ≠ nI w := by
        intro g hg e q
        unfold sfree at w3
        rw [Bool.and_eq_true, Bool.not_eq_true', Bool.not_eq_true'] at w3
        have := sgiv_iff.mpr ⟨g, hg, e, q⟩
        rw [w3.2] at this
        cases this
      have eW : ∀ g, fx_up M' ff_Mod_way f (oI (some w)) ff_Mod_way g = if g = f then nI w else M' ff_Mod_way g := by
        intro g
        by_cases e : g = f
        · rw [if_pos e, e, fx_up_same]; rfl
        · rw [if_neg e, fx_up_ne (fun q => e q.2)]
      have ih := giv_ok hv n (fx_up M' ff_Mod_way f (oI (some w))) (h.way (Or.inr ⟨w, rfl, w2⟩)) hA hv' ⟨fun g hg e => ?_, fun g k u hg hk e1 e2 hu e3 e4 => ?_⟩ ?_
      · obtain ⟨i1, i2, i3, i4⟩ := ih
        refine ⟨⟨rfl, i1⟩, i2, i3, fun g i hgi => ?_⟩
        rw [i4 g i hgi]
        refine fx_up_ne (fun q => hgi ⟨q.1, ?_, ?_⟩)
        · rw [q.2]; exact f1
        · rw [q.2]; exact f2.1
      · rw [eW]
        by_cases c : g = f
        · rw [if_pos c]; exact Or.inr ⟨w, w2, rfl, hop⟩
        · rw [if_neg c]; exact hP.1 g hg e
      · rw [eW] at e3 e4
        by_cases c1 : g = f
        · by_cases c2 : k = f
          · omega
          · rw [if_pos c1] at e3
            rw [if_neg c2] at e4
            exact absurd (e4.trans e3.symm) (hng k hk e2)
        · by_cases c2 : k = f
          · rw [if_neg c1] at e3
            rw [if_pos c2] at e4
            exact absurd (e3.trans e4.symm) (hng g hg e1)
          · rw [if_neg c1] at e3
            rw [if_neg c2] at e4
            exact hP.2 g k u hg hk e1 e2 hu e3 e4
      · have c1 := sp_cnt_pos (P := fun g => rn M' ff_Mod_at g == v && decide (M' ff_Mod_way g = fx_neg)) (K := (rn M' ff_Mod_flits 0)) (c := f) f1 (by simp [f2.1, f2.2])
        have c2 : sp_cnt (fun g => rn (fx_up M' ff_Mod_way f (oI (some w))) ff_Mod_at g == v && decide (fx_up M' ff_Mod_way f (oI (some w)) ff_Mod_way g = fx_neg)) ((rn (fx_up M' ff_Mod_way f (oI (some w))) ff_Mod_flits 0)) ≤ sp_cnt (fun i => (rn M' ff_Mod_at i == v && decide (M' ff_Mod_way i = fx_neg)) && !(i == f)) ((rn M' ff_Mod_flits 0)) := by
          refine sp_cnt_le_of (fun i hi hp => ?_)
          simp only [Bool.and_eq_true, decide_eq_true_eq] at hp
          rw [eW] at hp
          by_cases c : i = f
          · rw [if_pos c] at hp
            exact absurd hp.2 (oI_ne (by omega))
          · rw [if_neg c] at hp
            have e1 : (rn M' ff_Mod_at i == v) = true := hp.1
            simp [c, e1, hp.2]
        omega
/-! by cells -/
def cn (x : Option Nat) (f : Nat) : Nat := if x = some f then 1 else 0
theorem supper_or {f g : Option Nat} {kd : Nat} : supper M f g kd = f ∨ supper M f g kd = g := by
  cases hu : supper M f g kd with
  | some x => rcases supper_in hu with q | q
              · exact Or.inl q.symm
              · exact Or.inr q.symm
  | none =>
    revert hu
    unfold supper
    cases f with
    | none =>
      cases g with
      | none => intro _; exact Or.inl rfl
      | some b => intro _; exact Or.inl rfl
    | some a =>
      cases g with
      | none => intro _; exact Or.inr rfl
      | some b =>
        simp only
        rcases (Bool.eq_false_or_eq_true (sah M b a)).symm with hsa | hsa
        · simp only [hsa, cond_false]
          generalize (bif kd == 0 then _ else _ : Bool) = u
          intro h
          cases u
          · simp at h
          · cases h
        · simp only [hsa, cond_true]
          generalize (bif kd == 0 then _ else _ : Bool) = u
          intro h
          cases u
          · by_cases e : b = a
            · simp [e] at h
            · simp [e] at h
          · cases h
theorem cn_pair {f g : Option Nat} {kd x : Nat} : cn (supper M f g kd) x + cn (slow f g (supper M f g kd)) x = cn f x + cn g x := by
  rcases supper_or (M := M) (f := f) (g := g) (kd := kd) with q | q
  · rw [q]
    unfold slow
    rw [if_pos rfl]
  · unfold slow
    by_cases e : supper M f g kd = f
    · rw [if_pos e, e]
    · rw [if_neg e, q]
      omega
theorem cn_sum {v x : Nat} : cn (sd1 M v) x + cn (sd2 M v) x + cn (sd3 M v) x + cn (sd4 M v) x = cn (sol M v 0) x + cn (sol M v 1) x + cn (sol M v 2) x + cn (sol M v 3) x := by
  have h1 := cn_pair (M := M) (f := sol M v 0) (g := sol M v 1) (kd := 0) (x := x)
  have h2 := cn_pair (M := M) (f := sol M v 2) (g := sol M v 3) (kd := 0) (x := x)
  have h3 := cn_pair (M := M) (f := sc1 M v) (g := sc2 M v) (kd := 1) (x := x)
  have h4 := cn_pair (M := M) (f := sc3 M v) (g := sc4 M v) (kd := 3) (x := x)
  have e1 : cn (sc1 M v) x + cn (sc3 M v) x = cn (sol M v 0) x + cn (sol M v 1) x := h1
  have e2 : cn (sc2 M v) x + cn (sc4 M v) x = cn (sol M v 2) x + cn (sol M v 3) x := h2
  have e3 : cn (sd1 M v) x + cn (sd2 M v) x = cn (sc1 M v) x + cn (sc2 M v) x := h3
  have e4 : cn (sd3 M v) x + cn (sd4 M v) x = cn (sc3 M v) x + cn (sc4 M v) x := h4
  omega
theorem sol_some {v l f : Nat} (h : sol M v l = some f) : f < (rn M ff_Mod_flits 0) ∧ rn M ff_Mod_at f = v ∧ rn M ff_Mod_line f = l := by
  obtain ⟨-, h2, h3, -⟩ := sp_first_some.mp h
  simp only [Bool.and_eq_true, beq_iff_eq] at h3
  exact ⟨by omega, h3.1, h3.2⟩
theorem sol_of {f : Nat} (h4 : J4 M) (hf : f < (rn M ff_Mod_flits 0)) : sol M (rn M ff_Mod_at f) (rn M ff_Mod_line f) = some f := by
  cases hs : sol M (rn M ff_Mod_at f) (rn M ff_Mod_line f) with
  | none =>
    have := sp_first_none.mp hs f (by omega) (by omega)
    simp at this
  | some g =>
    obtain ⟨g1, g2, g3⟩ := sol_some hs
    rw [h4 g f g1 hf g2 g3]
theorem cn_sol {v l f : Nat} (h4 : J4 M) (hf : f < (rn M ff_Mod_flits 0)) : cn (sol M v l) f = if rn M ff_Mod_at f = v ∧ rn M ff_Mod_line f = l then 1 else 0 := by
  unfold cn
  by_cases c : rn M ff_Mod_at f = v ∧ rn M ff_Mod_line f = l
  · rw [if_pos c, ← c.1, ← c.2, sol_of h4 hf, if_pos rfl]
  · rw [if_neg c, if_neg (fun q => c ⟨(sol_some q).2.1, (sol_some q).2.2⟩)]
theorem cn_at {v f : Nat} (h4 : J4 M) (hf : f < (rn M ff_Mod_flits 0)) (hl : rn M ff_Mod_line f < 4) (hv : rn M ff_Mod_at f = v) : cn (sd1 M v) f + cn (sd2 M v) f + cn (sd3 M v) f + cn (sd4 M v) f = 1 := by
  rw [cn_sum, cn_sol h4 hf, cn_sol h4 hf, cn_sol h4 hf, cn_sol h4 hf]
  rcases (show rn M ff_Mod_line f = 0 ∨ rn M ff_Mod_line f = 1 ∨ rn M ff_Mod_line f = 2 ∨ rn M ff_Mod_line f = 3 by omega) with e | e | e | e <;> simp [e, hv]
theorem cn_off {v f : Nat} (hv : ¬ (f < (rn M ff_Mod_flits 0) ∧ rn M ff_Mod_at f = v)) : cn (sd1 M v) f + cn (sd2 M v) f + cn (sd3 M v) f + cn (sd4 M v) f = 0 := by
  have z : ∀ l, cn (sol M v l) f = 0 := by
    intro l
    unfold cn
    rw [if_neg (fun q => hv ⟨(sol_some q).1, (sol_some q).2.1⟩)]
  rw [cn_sum, z, z, z, z]
theorem om_way_w {x : Option Nat} {w f : Nat} : om_way M x w ff_Mod_way f = if x = some f then nI w else M ff_Mod_way f := by
  unfold om_way
  cases x with
  | none => rw [if_neg (by intro q; cases q)]
  | some y =>
    try dsimp only
    by_cases e : f = y
    · rw [e, fx_up_same, if_pos rfl]
    · rw [fx_up_ne (fun q => e q.2), if_neg (fun q => e (Option.some.inj q).symm)]
theorem om_way_o {x : Option Nat} {w g i : Nat} (h : g ≠ ff_Mod_way) : om_way M x w g i = M g i := by
  unfold om_way
  cases x with
  | none => rfl
  | some y => exact fx_up_ne (fun q => h q.1)
theorem JI.omway {x : Option Nat} {w : Nat} (h : JI M) (hw : w < 4) : JI (om_way M x w) := by
  unfold om_way
  cases x with
  | none => exact h
  | some y => exact h.way (Or.inr ⟨w, rfl, hw⟩)
theorem gc_way {v f : Nat} : om_gc M v ff_Mod_way f = if sd4 M v = some f then nI 3 else if sd3 M v = some f then nI 2 else if sd2 M v = some f then nI 1 else if sd1 M v = some f then nI 0 else M ff_Mod_way f := by
  unfold om_gc
  rw [om_way_w, om_way_w, om_way_w, om_way_w]
theorem gc_o {v g i : Nat} (h : g ≠ ff_Mod_way) : om_gc M v g i = M g i := by
  unfold om_gc
  rw [om_way_o h, om_way_o h, om_way_o h, om_way_o h]
theorem cn_1 {x : Option Nat} {f : Nat} (h : x = some f) : cn x f = 1 := if_pos h
theorem cn_0 {x : Option Nat} {f : Nat} (h : x ≠ some f) : cn x f = 0 := if_neg h
/-- the way by cells -/
def scw (M : rf_M) (v w : Nat) : Option Nat := if w = 0 then sd1 M v else if w = 1 then sd2 M v else if w = 2 then sd3 M v else sd4 M v
theorem gc_iff {v f w : Nat} (h4 : J4 M) (hf : f < (rn M ff_Mod_flits 0)) (hl : rn M ff_Mod_line f < 4) (hv : rn M ff_Mod_at f = v) (hw : w < 4) : om_gc M v ff_Mod_way f = nI w ↔ scw M v w = some f := by
  have hs := cn_at h4 hf hl hv
  rw [gc_way]
  have n4 : ∀ a b, a < 4 → b < 4 → (nI a = nI b ↔ a = b) := fun a b ha hb => nI_eq (by omega) (by omega)
  unfold scw
  by_cases c4 : sd4 M v = some f
  · have a1 := cn_1 c4
    have b3 : sd3 M v ≠ some f := fun q => by have := cn_1 q; omega
    have b2 : sd2 M v ≠ some f := fun q => by have := cn_1 q; omega
    have b1 : sd1 M v ≠ some f := fun q => by have := cn_1 q; omega
    rw [if_pos c4, n4 _ _ (by omega) hw]
    rcases (show w = 0 ∨ w = 1 ∨ w = 2 ∨ w = 3 by omega) with e | e | e | e <;> subst e <;> simp [b1, b2, b3, c4]
  · rw [if_neg c4]
    by_cases c3 : sd3 M v = some f
    · have a1 := cn_1 c3
      have b2 : sd2 M v ≠ some f := fun q => by have := cn_1 q; omega
      have b1 : sd1 M v ≠ some f := fun q => by have := cn_1 q; omega
      rw [if_pos c3, n4 _ _ (by omega) hw]
      rcases (show w = 0 ∨ w = 1 ∨ w = 2 ∨ w = 3 by omega) with e | e | e | e <;> subst e <;> simp [b1, b2, c3, c4]
    · rw [if_neg c3]
      by_cases c2 : sd2 M v = some f
      · have a1 := cn_1 c2
        have b1 : sd1 M v ≠ some f := fun q => by have := cn_1 q; omega
        rw [if_pos c2, n4 _ _ (by omega) hw]
        rcases (show w = 0 ∨ w = 1 ∨ w = 2 ∨ w = 3 by omega) with e | e | e | e <;> subst e <;> simp [b1, c2, c3, c4]
      · rw [if_neg c2]
        by_cases c1 : sd1 M v = some f
        · rw [if_pos c1, n4 _ _ (by omega) hw]
          rcases (show w = 0 ∨ w = 1 ∨ w = 2 ∨ w = 3 by omega) with e | e | e | e <;> subst e <;> simp [c1, c2, c3, c4]
        · have d1 := cn_0 c1
          have d2 := cn_0 c2
          have d3 := cn_0 c3
          have d4 := cn_0 c4
          omega
theorem gc_ok {v : Nat} (h : JI M) (hv : v < (rn M ff_Mod_all 0)) (ho : ∀ i, i < 256 → rz M ff_Mod_closed i = false) : JI (om_gc M v) ∧ WG (om_gc M v) v ∧ WX v M (om_gc M v) := by
  have h64 := h.1.all64
  have h257 := h.1.ri.fNl
  have hl : ∀ f, f < (rn M ff_Mod_flits 0) → rn M ff_Mod_line f < 4 := fun f hf => h.1.ri.mLl (f := f) (by omega)
  have fNe : (rn (om_gc M v) ff_Mod_flits 0) = (rn M ff_Mod_flits 0) := by unfold rn; rw [gc_o (by decide)]
  have mAe : ∀ f, rn (om_gc M v) ff_Mod_at f = rn M ff_Mod_at f := fun f => by unfold rn; rw [gc_o (by decide)]
  have cle : ∀ i, rz (om_gc M v) ff_Mod_closed i = rz M ff_Mod_closed i := fun i => by unfold rz rn; rw [gc_o (by decide)]
  have ex : ∀ f, f < (rn M ff_Mod_flits 0) → rn M ff_Mod_at f = v → ∃ w, w < 4 ∧ om_gc M v ff_Mod_way f = nI w := by
    intro f hf e
    have hs := cn_at h.1.j4 hf (hl f hf) e
    rw [gc_way]
    by_cases c4 : sd4 M v = some f
    · exact ⟨3, by omega, by rw [if_pos c4]⟩
    · by_cases c3 : sd3 M v = some f
      · exact ⟨2, by omega, by rw [if_neg c4, if_pos c3]⟩
      · by_cases c2 : sd2 M v = some f
        · exact ⟨1, by omega, by rw [if_neg c4, if_neg c3, if_pos c2]⟩
        · by_cases c1 : sd1 M v = some f
          · exact ⟨0, by omega, by rw [if_neg c4, if_neg c3, if_neg c2, if_pos c1]⟩
          · have d1 := cn_0 c1
            have d2 := cn_0 c2
            have d3 := cn_0 c3
            have d4 := cn_0 c4
            omega
  refine ⟨(((h.omway (by omega)).omway (by omega)).omway (by omega)).omway (by omega), ⟨fun f hf e => ?_, fun f g hf hg e1 e2 e3 => ?_⟩, fun g i hgi => ?_⟩
  · rw [fNe] at hf
    rw [mAe] at e
    obtain ⟨w, w1, w2⟩ := ex f hf e
    exact ⟨w, w1, w2, by rw [cle]; exact ho _ (by omega)⟩
  · rw [fNe] at hf hg
    rw [mAe] at e1 e2
    obtain ⟨w, w1, w2⟩ := ex f hf e1
    have a := (gc_iff h.1.j4 hf (hl f hf) e1 w1).mp w2
    have b := (gc_iff h.1.j4 hg (hl g hg) e2 w1).mp (e3.symm.trans w2)
    rw [a] at b
    exact Option.some.inj b
  · by_cases c : g = ff_Mod_way
    · subst c
      have hz := cn_off (M := M) (v := v) (f := i) (fun q => hgi ⟨rfl, q.1, q.2⟩)
      have z : ∀ x, cn x i = 0 → x ≠ some i := fun x hx q => by rw [cn_1 q] at hx; omega
      rw [gc_way, if_neg (z _ (by omega)), if_neg (z _ (by omega)), if_neg (z _ (by omega)), if_neg (z _ (by omega))]
    · exact gc_o c
/-! both -/
def om_gv (M : rf_M) (v : Nat) : rf_M := if rn M ff_Mod_mode 0 = 0 then om_gr v 4 M else om_gc M v
theorem gv_ok {v : Nat} (h : JI M) (hv : v < (rn M ff_Mod_all 0)) (h0 : ∀ f, f < (rn M ff_Mod_flits 0) → rn M ff_Mod_at f = v → M ff_Mod_way f = fx_neg) : (rn M ff_Mod_mode 0 = 0 → pk_gr v 4 M) ∧ JI (om_gv M v) ∧ WG (om_gv M v) v ∧ WX v M (om_gv M v) := by
  unfold om_gv
  by_cases hm : rn M ff_Mod_mode 0 = 0
  · rw [if_pos hm]
    have a := giv_ok hv 4 M h rfl hv ⟨fun f hf e => Or.inl (h0 f hf e), fun f g w hf hg e1 e2 hw e3 e4 => by
      rw [h0 f hf e1] at e3
      exact absurd e3.symm (oI_ne (by omega))⟩ (by
      have c1 := h.1.j5 v hv
      have c2 := fx_ow_le (rz M ff_Mod_closed) v
      have c3 : sp_cnt (fun f => rn M ff_Mod_at f == v && decide (M ff_Mod_way f = fx_neg)) ((rn M ff_Mod_flits 0)) ≤ sp_cnt (fun f => rn M ff_Mod_at f == v) ((rn M ff_Mod_flits 0)) := sp_cnt_le_of (fun i _ hp => by rw [Bool.and_eq_true] at hp; exact hp.1)
      omega)
    exact ⟨fun _ => a.1, a.2⟩
  · rw [if_neg hm]
    have hm1 : rn M ff_Mod_mode 0 = 1 := by
      have := h.1.ri.l ff_Mod_mode 0 2 (n := 1) rfl (by omega) rfl (by omega)
      omega
    exact ⟨fun q => absurd q hm, gc_ok h hv (h.1.j14 hm1)⟩
theorem WX.en {v f i : Nat} {M' : rf_M} (h : WX v M M') (hf : f ≠ ff_Mod_way) : rn M' f i = rn M f i := by
  unfold rn
  rw [h f i (fun q => hf q.1)]
theorem WX.ez {v f i : Nat} {M' : rf_M} (h : WX v M M') (hf : f ≠ ff_Mod_way) : rz M' f i = rz M f i := by
  unfold rz
  rw [h.en hf]
theorem WX.keep {u v : Nat} {M' : rf_M} (h : WX v M M') (hu : u ≠ v) (hg : WG M u) : WG M' u := by
  have e1 : (rn M' ff_Mod_flits 0) = (rn M ff_Mod_flits 0) := h.en (by decide)
  have e2 : ∀ f, rn M' ff_Mod_at f = rn M ff_Mod_at f := fun f => h.en (by decide)
  have e3 : ∀ f, rn M ff_Mod_at f = u → M' ff_Mod_way f = M ff_Mod_way f := fun f hf => h _ f (fun q => hu (hf.symm.trans q.2.2))
  refine ⟨fun f hf e => ?_, fun f g hf hg' a b c => ?_⟩
  · rw [e1] at hf
    rw [e2] at e
    rw [e3 f e]
    obtain ⟨w, w1, w2, w3⟩ := hg.1 f hf e
    exact ⟨w, w1, w2, by rw [h.ez (by decide)]; exact w3⟩
  · rw [e1] at hf hg'
    rw [e2] at a b
    rw [e3 f a, e3 g b] at c
    exact hg.2 f g hf hg' a b c
def om_gvs : Nat → Nat → rf_M → rf_M
  | 0, _, M => M
  | d + 1, v, M => om_gvs d (v + 1) (om_gv M v)
def pk_gvs : Nat → Nat → rf_M → Prop
  | 0, _, _ => True
  | d + 1, v, M => (rn M ff_Mod_mode 0 = 0 → pk_gr v 4 M) ∧ pk_gvs d (v + 1) (om_gv M v)
/-- only ways change -/
def WY (M M' : rf_M) : Prop := ∀ g i, g ≠ ff_Mod_way → M' g i = M g i
theorem gvs_ok : ∀ (d v : Nat) (M : rf_M), JI M → v + d = (rn M ff_Mod_all 0) → (∀ f, f < (rn M ff_Mod_flits 0) → v ≤ rn M ff_Mod_at f → M ff_Mod_way f = fx_neg) → (∀ u, u < v → WG M u) → pk_gvs d v M ∧ JI (om_gvs d v M) ∧ (∀ u, u < (rn M ff_Mod_all 0) → WG (om_gvs d v M) u) ∧ WY M (om_gvs d v M)
  | 0, v, M, h, hd, _, hg => ⟨trivial, h, fun u hu => hg u (by omega), fun _ _ _ => rfl⟩
  | d + 1, v, M, h, hd, h0, hg => by
    obtain ⟨a1, a2, a3, a4⟩ := gv_ok (v := v) h (by omega) (fun f hf e => h0 f hf (by omega))
    have e1 : (rn (om_gv M v) ff_Mod_all 0) = (rn M ff_Mod_all 0) := a4.en (by decide)
    have e2 : (rn (om_gv M v) ff_Mod_flits 0) = (rn M ff_Mod_flits 0) := a4.en (by decide)
    have e3 : ∀ f, rn (om_gv M v) ff_Mod_at f = rn M ff_Mod_at f := fun f => a4.en (by decide)
    obtain ⟨b1, b2, b3, b4⟩ := gvs_ok d (v + 1) (om_gv M v) a2 (by omega) (fun f hf e => by
      rw [e2] at hf
      rw [e3] at e
      rw [a4 _ f (fun q => by omega)]
      exact h0 f hf (by omega)) (fun u hu => by
      by_cases c : u = v
      · rw [c]; exact a3
      · exact a4.keep c (hg u (by omega)))
    refine ⟨⟨a1, b1⟩, b2, fun u hu => b3 u (by omega), fun g i hgi => ?_⟩
    show om_gvs d (v + 1) (om_gv M v) g i = M g i
    rw [b4 g i hgi, a4 g i (fun q => hgi q.1)]
end
