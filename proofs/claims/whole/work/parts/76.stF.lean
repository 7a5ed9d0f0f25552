/-! THE CLASS AND THE REFERENCE: a flit leaves -/
theorem rem_cnt {Pd : Nat → Bool} {f N : Nat} (hf : f < N) : sp_cnt (fun i => Pd (rp f (N - 1) i)) (N - 1) + (bif Pd f then 1 else 0) = sp_cnt Pd N := by
  have e1 : sp_cnt (fun i => Pd (rp f (N - 1) i)) (N - 1) = sp_cnt (fun i => Pd i && !(i == f)) N := by
    refine Nat.le_antisymm ?_ ?_
    · refine cnt_inj (φ := rp f (N - 1)) (N - 1) _ (fun i hi hp => ?_) (fun i j hi hj _ _ e => rp_inj hi hj e)
      obtain ⟨a, b⟩ := rp_lt hf hi
      refine ⟨a, ?_⟩
      rw [hp]
      simpa using b
    · refine cnt_inj (φ := fun i => if i = N - 1 then f else i) N _ (fun i hi hp => ?_) (fun i j hi hj hp hq e => ?_)
      · rw [Bool.and_eq_true] at hp
        have hne : i ≠ f := by simpa using hp.2
        by_cases c : i = N - 1
        · rw [if_pos c]
          refine ⟨by omega, ?_⟩
          show Pd (rp f (N - 1) f) = true
          unfold rp
          rw [if_pos rfl, ← c]
          exact hp.1
        · rw [if_neg c]
          refine ⟨by omega, ?_⟩
          show Pd (rp f (N - 1) i) = true
          unfold rp
          rw [if_neg hne]
          exact hp.1
      · rw [Bool.and_eq_true] at hp hq
        have h1 : i ≠ f := by simpa using hp.2
        have h2 : j ≠ f := by simpa using hq.2
        by_cases c1 : i = N - 1
        · by_cases c2 : j = N - 1
          · omega
          · rw [if_pos c1, if_neg c2] at e; exact absurd e.symm h2
        · by_cases c2 : j = N - 1
          · rw [if_neg c1, if_pos c2] at e; exact absurd e h1
          · rw [if_neg c1, if_neg c2] at e; exact e
  rw [e1]
  cases hp : Pd f with
  | true => rw [sp_cnt_pos hf hp]; rfl
  | false =>
    rw [cond_false, Nat.add_zero]
    refine sp_cnt_congr _ (fun i _ => ?_)
    by_cases c : i = f
    · rw [c, hp]; rfl
    · simp [c]
section
variable {s : fx_S} {Q : fx_Q} {x m : Nat} {B H P : Nat → Nat} {C : Nat → Nat → Option Nat} {Y : Nat → Nat → Nat} {rt : Nat → List Nat} {K : Nat → Prop} {L : List Nat} {M : rf_M} {lv : Nat → Prop}
theorem rcv_spk (M : rf_M) (f i : Nat) : spk (om_rcv M f) i = spk M (rp f ((rn M ff_Mod_flits 0) - 1) i) := rem_spk M f i
theorem rcv_mB (M : rf_M) (f i : Nat) : rn (om_rcv M f) ff_Mod_number i = rn M ff_Mod_number (rp f ((rn M ff_Mod_flits 0) - 1) i) := rem_number M f i
theorem rcv_fN (hI : RI M) (f : Nat) : (rn (om_rcv M f) ff_Mod_flits 0) = (rn M ff_Mod_flits 0) - 1 := rem_fN hI f
theorem rcv_ent (M : rf_M) (f i : Nat) : om_rcv M f ff_Mod_entry i = M ff_Mod_entry (rp f ((rn M ff_Mod_flits 0) - 1) i) := by
  have e : om_rcv M f ff_Mod_entry i = om_rem M f ff_Mod_entry i := rfl
  rw [e]
  unfold om_rem rp
  try dsimp only
  rw [fx_up_ne (fun q => absurd q.1 (by decide)), fx_up_ne (fun q => absurd q.1 (by decide))]
  by_cases c : i = f
  · rw [if_pos c, c, fx_up_same]
  · rw [if_neg c, fx_up_ne (fun q => c q.2), fx_up_ne (fun q => absurd q.1 (by decide)), fx_up_ne (fun q => absurd q.1 (by decide)), fx_up_ne (fun q => absurd q.1 (by decide)), fx_up_ne (fun q => absurd q.1 (by decide)), fx_up_ne (fun q => absurd q.1 (by decide)), fx_up_ne (fun q => absurd q.1 (by decide))]
theorem rcv_try (M : rf_M) (f i : Nat) : om_rcv M f ff_Mod_tries i = M ff_Mod_tries (rp f ((rn M ff_Mod_flits 0) - 1) i) := by
  have e : om_rcv M f ff_Mod_tries i = om_rem M f ff_Mod_tries i := rfl
  rw [e]
  unfold om_rem rp
  try dsimp only
  rw [fx_up_ne (fun q => absurd q.1 (by decide))]
  by_cases c : i = f
  · rw [if_pos c, c, fx_up_same]
  · rw [if_neg c, fx_up_ne (fun q => c q.2), fx_up_ne (fun q => absurd q.1 (by decide)), fx_up_ne (fun q => absurd q.1 (by decide)), fx_up_ne (fun q => absurd q.1 (by decide)), fx_up_ne (fun q => absurd q.1 (by decide)), fx_up_ne (fun q => absurd q.1 (by decide)), fx_up_ne (fun q => absurd q.1 (by decide)), fx_up_ne (fun q => absurd q.1 (by decide))]
/-- the lines behind it -/
theorem rcv_sol (hJ : JV M lv) {f u l : Nat} (hf : f < (rn M ff_Mod_flits 0)) (hJ' : JV (om_rcv M f) lv) : (sol (om_rcv M f) u l = none ∧ (sol M u l = none ∨ (u = rn M ff_Mod_at f ∧ l = rn M ff_Mod_line f))) ∨ ∃ g, sol (om_rcv M f) u l = some g ∧ g < (rn M ff_Mod_flits 0) - 1 ∧ sol M u l = some (rp f ((rn M ff_Mod_flits 0) - 1) g) ∧ ¬ (u = rn M ff_Mod_at f ∧ l = rn M ff_Mod_line f) := by
  have eN := rcv_fN hJ.ri f
  cases hs : sol (om_rcv M f) u l with
  | some g =>
    obtain ⟨g1, g2, g3⟩ := sol_some hs
    have g2' : rn M ff_Mod_at (rp f ((rn M ff_Mod_flits 0) - 1) g) = u := (rem_at M f g).symm.trans g2
    have g3' : rn M ff_Mod_line (rp f ((rn M ff_Mod_flits 0) - 1) g) = l := (rem_line M f g).symm.trans g3
    rw [eN] at g1
    obtain ⟨r1, r2⟩ := rp_lt hf g1
    have so := sol_of hJ.j4 r1
    rw [g2', g3'] at so
    refine Or.inr ⟨g, rfl, g1, so, fun q => ?_⟩
    exact r2 (hJ.j4 _ _ r1 hf (g2'.trans q.1) (g3'.trans q.2))
  | none =>
    refine Or.inl ⟨rfl, ?_⟩
    cases hm : sol M u l with
    | none => exact Or.inl rfl
    | some g =>
      obtain ⟨g1, g2, g3⟩ := sol_some hm
      by_cases e : g = f
      · exact Or.inr ⟨by rw [← g2, e], by rw [← g3, e]⟩
      · exfalso
        -- it is there, under its own number or f's
        have ex : ∃ g', g' < (rn M ff_Mod_flits 0) - 1 ∧ rp f ((rn M ff_Mod_flits 0) - 1) g' = g := by
          by_cases c : g = (rn M ff_Mod_flits 0) - 1
          · exact ⟨f, by omega, by unfold rp; rw [if_pos rfl, c]⟩
          · exact ⟨g, by omega, by unfold rp; rw [if_neg e]⟩
        obtain ⟨g', w1, w2⟩ := ex
        have so := sol_of hJ'.j4 (f := g') (by rw [eN]; exact w1)
        have a1 : rn (om_rcv M f) ff_Mod_at g' = u := by
          have : rn (om_rcv M f) ff_Mod_at g' = rn M ff_Mod_at (rp f ((rn M ff_Mod_flits 0) - 1) g') := rem_at M f g'
          rw [this, w2]; exact g2
        have a2 : rn (om_rcv M f) ff_Mod_line g' = l := by
          have : rn (om_rcv M f) ff_Mod_line g' = rn M ff_Mod_line (rp f ((rn M ff_Mod_flits 0) - 1) g') := rem_line M f g'
          rw [this, w2]; exact g3
        rw [a1, a2, hs] at so
        cases so
theorem rcv_fin {f p : Nat} (hI : RI M) (hf : f < (rn M ff_Mod_flits 0)) : sp_cnt (fun i => spk (om_rcv M f) i == p) ((rn (om_rcv M f) ff_Mod_flits 0)) + (bif spk M f == p then 1 else 0) = sp_cnt (fun i => spk M i == p) ((rn M ff_Mod_flits 0)) := by
  have e1 : sp_cnt (fun i => spk (om_rcv M f) i == p) ((rn (om_rcv M f) ff_Mod_flits 0)) = sp_cnt (fun i => (fun j => spk M j == p) (rp f ((rn M ff_Mod_flits 0) - 1) i)) ((rn M ff_Mod_flits 0) - 1) := by
    rw [rcv_fN hI]
    exact sp_cnt_congr _ (fun i _ => by rw [rcv_spk])
  rw [e1]
  exact rem_cnt (Pd := fun j => spk M j == p) hf
theorem ob_none {f : Nat → Option Nat} : (none : Option Nat).bind f = none := rfl
theorem ob_some {f : Nat → Option Nat} {a : Nat} : (some a).bind f = f a := rfl
/-- other flits -/
def om_mfl (M N : rf_M) : rf_M := fun g i => if (Nat.ble 778 g && Nat.blt g 787) || Nat.beq g 817 then N g i else M g i
theorem rcv_mfl (M : rf_M) (f : Nat) : om_rcv M f = om_mfl M (om_rcv M f) := by
  funext g i
  unfold om_mfl
  by_cases c : ((Nat.ble 778 g && Nat.blt g 787) || Nat.beq g 817) = true
  · rw [if_pos c]
  · rw [if_neg c]
    simp only [Bool.or_eq_true, Bool.and_eq_true, Nat.ble_eq, Nat.blt_eq, Nat.beq_eq] at c
    exact rcv_o (by omega) (by omega)
/-- the flit f is taken from its line -/
theorem RA.rcv {f : Nat} (h : RA s x B H C Y P m rt K L M) (hJ : JV M lv) (hJ' : JV (om_rcv M f) lv) (hf : f < (rn M ff_Mod_flits 0)) {y1 y2 y3 : Int32} (hy1 : y1 = nI (sp_cnt (fun i => spk M i == spk M f) ((rn M ff_Mod_flits 0)) - 1)) (hy2 : y2 = nI ((rn M ff_Mod_flits 0) - 1)) (hy3 : y3 = nI (rn M ff_Mod_received 0 + 1)) :
    RA (fx_sfi (fx_sfi (fx_sfi (fx_sar s (B (rn M ff_Mod_at f) + H (rn M ff_Mod_at f)) (rn M ff_Mod_line f) none) ff_Packet_flitsInNet (P (spk M f)) y1) ff_Torus_flitsInNet x y2) ff_Torus_flitsReceived x y3) x B H C Y P m rt K L (om_rcv M f) := by
  have h257 := hJ.ri.fNl
  have hv : rn M ff_Mod_at f < m := Nat.lt_of_lt_of_le (hJ.net.2.2 f hf) h.nm
  obtain ⟨q1, q2, q3, -⟩ := hJ.j2 f hf
  have hl := hJ.ri.mLl (f := f) (by omega)
  have hH := h.f.h1 _ hv
  have zK : ∀ a, K a → B (rn M ff_Mod_at f) + H (rn M ff_Mod_at f) ≠ a + 1 := fun a ha => by
    have := (h.k.in_ a ha).2.2 _ hv
    omega
  have hin := h.sk.c.in_ _ hv
  have fS := fun u l => rcv_sol hJ (u := u) (l := l) hf hJ'
  have fP := rcv_spk M f
  have fB := rcv_mB M f
  have fE := rcv_ent M f
  have fT := rcv_try M f
  have eN := rcv_fN hJ.ri f
  have fC := fun p => rcv_fin (p := p) hJ.ri hf
  have fF : om_rcv M f ff_Mod_flits 0 = nI ((rn M ff_Mod_flits 0) - 1) := by
    unfold om_rcv
    rw [fx_up_ne (fun q => absurd q.1 (by decide))]
    unfold om_rem
    try dsimp only
    rw [fx_up_ne (fun q => absurd q.1 (by decide)), fx_up_ne (fun q => absurd q.1 (by decide)), fx_up_ne (fun q => absurd q.1 (by decide)), fx_up_ne (fun q => absurd q.1 (by decide)), fx_up_ne (fun q => absurd q.1 (by decide)), fx_up_ne (fun q => absurd q.1 (by decide)), fx_up_ne (fun q => absurd q.1 (by decide)), fx_up_ne (fun q => absurd q.1 (by decide)), fx_up_same]
  have fR : om_rcv M f ff_Mod_received 0 = nI (rn M ff_Mod_received 0 + 1) := by
    unfold om_rcv
    rw [fx_up_same]
  clear hJ'
  obtain ⟨N, hN⟩ : ∃ N, om_rcv M f = om_mfl M N := ⟨_, rcv_mfl M f⟩
  simp only [hN] at fS fP fB fE fT fC
  rw [hN] at fF fR eN ⊢
  refine ⟨?_, ⟨h.t.mode, h.t.pat, h.t.now, h.t.turn, ?_, h.t.dfl, ?_, h.t.ask, h.t.pks⟩, h.g, h.s.sar (fun v hv' q => by have := h.sk.ap hv hv' (by omega) (by omega) q; omega), fun p hp lp => ?_, fun v hv' => ?_, h.r, h.x, h.m, h.o, h.k.sar zK h.o.kp h.o.kw, ?_, h.v.sar (fun v hv' q => by have := h.sk.ap hv hv' (by omega) (by omega) q; omega), h.nm⟩
  · exact h.sk.sar (by omega) (fun v hv' q => by have := h.sk.ap hv hv' (by omega) (by omega) q; omega)
  · rw [fF, fi_ne (fun q => absurd q.1 (by decide)), fi_same, hy2]
  · rw [fi_same, fR, hy3]
  · have lp' : 0 < rn M ff_Mod_lengths p := lp
    obtain ⟨r1, r2, r3, r4, r5, r6, r7, r8, r9⟩ := h.p p hp lp'
    refine ⟨r1, r2, r3, r4, r5, r6, r7, r8, ?_⟩
    have cn := fC p
    show fx_fi (fx_sfi (fx_sar s (B (rn M ff_Mod_at f) + H (rn M ff_Mod_at f)) (rn M ff_Mod_line f) none) ff_Packet_flitsInNet (P (spk M f)) y1) ff_Packet_flitsInNet (P p) = _
    by_cases c : p = spk M f
    · rw [c, fi_same, hy1]
      rw [c] at cn
      rw [show (spk M f == spk M f) = true by simp, cond_true] at cn
      rw [show sp_cnt (fun i => spk M i == spk M f) ((rn M ff_Mod_flits 0)) - 1 = sp_cnt (fun i => spk (om_mfl M N) i == spk M f) ((rn (om_mfl M N) ff_Mod_flits 0)) by omega]
    · have c' : (spk M f == p) = false := by simpa using fun q => c q.symm
      rw [c', cond_false, Nat.add_zero] at cn
      rw [fi_ne (fun q => c (h.p.inj hp q3 lp' q1 q.2)), cn]
      exact r9
  · refine ⟨(h.w v hv').1, fun i a ha => ?_⟩
    obtain ⟨r1, r2, r3, r4, r5, r6, r7, r8, r9⟩ := (h.w v hv').2 i a ha
    refine ⟨r1, r2, r3, r4, r5, r6, r7, r8, ?_⟩
    have na : a ≠ P (spk M f) := fun q => h.w.nP h.p q3 q1 hv' (by rw [← q]; exact List.mem_of_getElem? ha)
    show fx_fi (fx_sfi (fx_sar s (B (rn M ff_Mod_at f) + H (rn M ff_Mod_at f)) (rn M ff_Mod_line f) none) ff_Packet_flitsInNet (P (spk M f)) y1) ff_Packet_flitsInNet a = _
    rw [fi_ne (fun q => na q.2)]
    exact r9
  · have arP : ∀ g, g < (rn M ff_Mod_flits 0) → ∀ b, fx_ar (fx_sar s (B (rn M ff_Mod_at f) + H (rn M ff_Mod_at f)) (rn M ff_Mod_line f) none) (P (spk M g) + 1) b = fx_ar s (P (spk M g) + 1) b := fun g hg b => ar_ne (fun q => zK _ (h.o.kp _ (hJ.j2 g hg).2.2.1 (hJ.j2 g hg).1) q.1.symm)
    refine ⟨h.f.h1, h.f.here, h.f.com, fun u l hu hl' => ?_, fun g F hg hF => ?_, fun g F hg hF => ?_, fun u l hu hl' => ?_⟩
    · show fx_ar (fx_sar s (B (rn M ff_Mod_at f) + H (rn M ff_Mod_at f)) (rn M ff_Mod_line f) none) (B u + H u) l = (sol (om_mfl M N) u l).bind (fun g => fx_ar (fx_sar s (B (rn M ff_Mod_at f) + H (rn M ff_Mod_at f)) (rn M ff_Mod_line f) none) (P (spk (om_mfl M N) g) + 1) (rn (om_mfl M N) ff_Mod_number g))
      have hHu := h.f.h1 u hu
      rcases fS u l with ⟨z1, z2⟩ | ⟨g, z1, z2, z3, z4⟩
      · rw [z1]
        by_cases c : u = rn M ff_Mod_at f ∧ l = rn M ff_Mod_line f
        · rw [c.1, c.2, ar_same, ob_none]
        · rcases z2 with z2 | z2
          · rw [ar_ne (fun q => c ⟨(h.sk.ap hu hv (by omega) (by omega) q.1).1, q.2⟩), h.f.fl u l hu hl', z2, ob_none, ob_none]
          · exact absurd z2 c
      · rw [z1, ar_ne (fun q => z4 ⟨(h.sk.ap hu hv (by omega) (by omega) q.1).1, q.2⟩), h.f.fl u l hu hl', z3, ob_some, ob_some, fP, fB, arP _ (rp_lt hf z2).1]
    · rw [eN] at hg
      have w := rp_lt hf hg
      have hF' : fx_ar (fx_sar s (B (rn M ff_Mod_at f) + H (rn M ff_Mod_at f)) (rn M ff_Mod_line f) none) (P (spk (om_mfl M N) g) + 1) (rn (om_mfl M N) ff_Mod_number g) = some F := hF
      rw [fP, fB, arP _ w.1] at hF'
      rw [fE]
      exact h.f.ent _ F w.1 hF'
    · rw [eN] at hg
      have w := rp_lt hf hg
      have hF' : fx_ar (fx_sar s (B (rn M ff_Mod_at f) + H (rn M ff_Mod_at f)) (rn M ff_Mod_line f) none) (P (spk (om_mfl M N) g) + 1) (rn (om_mfl M N) ff_Mod_number g) = some F := hF
      rw [fP, fB, arP _ w.1] at hF'
      rw [fT]
      exact h.f.att _ F w.1 hF'
    · show fx_ar (fx_sar s (B (rn M ff_Mod_at f) + H (rn M ff_Mod_at f)) (rn M ff_Mod_line f) none) (B u + (37 - H u)) l = _
      rw [ar_ne]
      · exact h.f.cm u l hu hl'
      · intro q
        have hHu := h.f.h1 u hu
        obtain ⟨e1, e2⟩ := h.sk.ap hu hv (by omega) (by omega) q.1
        subst e1
        omega
/-! places -/
theorem RV1.fr {s' : fx_S} {b v : Nat} {Y1 : Nat → Nat} {M' : rf_M} (h : RV1 s b Y1 P v M) (hfi : ∀ f a, b ≤ a → a < b + 20 → (f = ff_Receiver_readyCount ∨ f = ff_Receiver_hasHandedOver ∨ f = ff_Place_attempt ∨ f = ff_Place_joined ∨ (64 ≤ f ∧ f < 68)) → fx_fi s' f a = fx_fi s f a) (hfr : ∀ f a, b ≤ a → a < b + 20 → (f = ff_Place_packet ∨ f = ff_Receiver_last) → fx_fr s' f a = fx_fr s f a) (har : ∀ i, i < 4 → fx_ar s' (b + 9) i = fx_ar s (b + 9) i)
    (hy : M' ff_Mod_readySize v = M ff_Mod_readySize v) (hm : ∀ g i, i < 4 → (g = ff_Mod_whose ∨ g = ff_Mod_whichTry ∨ g = ff_Mod_has ∨ g = ff_Mod_readySource ∨ g = ff_Mod_readyLength ∨ g = ff_Mod_readyTry ∨ g = ff_Mod_readyTag) → M' g (4 * v + i) = M g (4 * v + i)) (ht : ∀ i, i < 3 → M' ff_Mod_taken (3 * v + i) = M ff_Mod_taken (3 * v + i)) (hy5 : rn M ff_Mod_readySize v < 5) : RV1 s' b Y1 P v M' := by
  obtain ⟨a1, a2, a3, a4, a5, a6, a7, a8, a9, a10, a11, a12, hh, b1, b2, b3⟩ := h
  have ey : rn M' ff_Mod_readySize v = rn M ff_Mod_readySize v := rn_eq hy
  refine ⟨?_, fun i hi => ?_, fun i hi hne => ?_, fun i hi hne => ?_, fun i hi => ?_, ?_, a7, a8, fun i hi => ?_, fun i hi => ?_, fun i hi => ?_, fun i hi => ?_, hh, ?_, fun q j hj => ?_, fun q => ?_⟩
  · rw [hfi _ _ (by omega) (by omega) (by simp), hy]; exact a1
  · rw [hfr _ _ (by omega) (by omega) (by simp), hm _ i hi (by simp)]; exact a2 i hi
  · rw [hm _ i hi (by simp)] at hne
    rw [hfi _ _ (by omega) (by omega) (by simp), hm _ i hi (by simp)]; exact a3 i hi hne
  · rw [hm _ i hi (by simp)] at hne
    rw [hfi _ _ (by omega) (by omega) (by simp), a4 i hi hne, rn_eq (hm _ i hi (by simp))]
  · rw [har i hi]; exact a5 i hi
  · rw [hfr _ _ (by omega) (by omega) (by simp)]; exact a6
  · rw [ey] at hi
    have := a8 i (by omega)
    rw [hfi _ _ this.1 this.2 (by decide), hm _ i (by omega) (by simp)]; exact a9 i hi
  · rw [ey] at hi
    have := a8 i (by omega)
    rw [hfi _ _ this.1 this.2 (by decide), hm _ i (by omega) (by simp)]; exact a10 i hi
  · rw [ey] at hi
    have := a8 i (by omega)
    rw [hfi _ _ this.1 this.2 (by decide), hm _ i (by omega) (by simp)]; exact a11 i hi
  · rw [ey] at hi
    have := a8 i (by omega)
    rw [hfi _ _ this.1 this.2 (by decide), hm _ i (by omega) (by simp)]; exact a12 i hi
  · rw [hfi _ _ (by omega) (by omega) (by simp)]; exact b1
  · rw [ht j hj]; exact b2 q j hj
  · obtain ⟨c1, c2, c3⟩ := b3 q
    have := a8 4 (by omega)
    rw [hfi _ _ this.1 this.2 (by decide), hfi _ _ this.1 this.2 (by decide), hfi _ _ this.1 this.2 (by decide), ht 1 (by omega), ht 2 (by omega)]
    have h0 := ht 0 (by omega)
    rw [Nat.add_zero] at h0
    rw [h0]
    exact ⟨c1, c2, c3⟩
end
