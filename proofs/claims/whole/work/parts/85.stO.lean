/-! THE CLASS AND THE REFERENCE: a flit enters -/
def om_mft (M N : rf_M) : rf_M := fun g i => if (Nat.ble 778 g && Nat.blt g 786) || (Nat.ble 795 g && Nat.blt g 796) then N g i else M g i
theorem mft_o {M N : rf_M} {g i : Nat} (h : ((Nat.ble 778 g && Nat.blt g 786) || (Nat.ble 795 g && Nat.blt g 796)) = false) : om_mft M N g i = M g i := by
  unfold om_mft
  rw [h]
  rfl
theorem mft_eq {M N : rf_M} (h : ∀ g i, ¬ (778 ≤ g ∧ g < 786) → g ≠ 795 → N g i = M g i) : N = om_mft M N := by
  funext g i
  unfold om_mft
  by_cases c : ((Nat.ble 778 g && Nat.blt g 786) || (Nat.ble 795 g && Nat.blt g 796)) = true
  · rw [if_pos c]
  · rw [if_neg c]
    simp only [Bool.or_eq_true, Bool.and_eq_true, Nat.ble_eq, Nat.blt_eq] at c
    exact h g i (by omega) (by omega)
section
variable {s : fx_S} {Q : fx_Q} {x m : Nat} {B H P : Nat → Nat} {C : Nat → Nat → Option Nat} {Y : Nat → Nat → Nat} {rt : Nat → List Nat} {K : Nat → Prop} {L : List Nat} {M : rf_M} {lv : Nat → Prop}
theorem RA.flit {v p l F : Nat} {o : Option Nat} {y1 y2 y3 y4 y5 : Int32} (h : RA s x B H C Y P m rt K L M) (hJ : JV M lv) (hJ' : JV (om_flit M v p l) lv) (hv : v < (rn M ff_Mod_all 0)) (hp : JP M v p) (hl : l < 4) (hfree : ∀ f, f < (rn M ff_Mod_flits 0) → rn M ff_Mod_at f = v → rn M ff_Mod_line f ≠ l) (hN256 : (rn M ff_Mod_flits 0) < 256) (hF : fx_ar s (P p + 1) (rn M ff_Mod_entered p) = some F)
    (e1 : y1 = nI (rn M ff_Mod_cycle 0)) (e2 : y2 = nI (rn M ff_Mod_slotTry p)) (e3 : y3 = nI (rn M ff_Mod_entered p + 1)) (e4 : y4 = nI (sp_cnt (fun f => spk M f == p) ((rn M ff_Mod_flits 0)) + 1)) (e5 : y5 = nI ((rn M ff_Mod_flits 0) + 1)) (eo : o = if rn M ff_Mod_entered p + 1 < rn M ff_Mod_lengths p then some (P p) else none) :
    RA (fx_sfi (fx_sar (fx_sfr (fx_sfi (fx_sfi (fx_sfi (fx_sfi s ff_Flit_entry F y1) ff_Flit_attempt F y2) ff_Packet_entered (P p) y3) ff_Packet_flitsInNet (P p) y4) ff_Sender_underWay (B v + 1) o) (B v + H v) l (some F)) ff_Torus_flitsInNet x y5) x B H C Y P m rt K L (om_flit M v p l) := by
  obtain ⟨p1, p2, p3, p4, p5, p6, p7⟩ := hp
  have h64 := h.sk.c.m64
  have hA64 := hJ.all64
  have hvm : v < m := Nat.lt_of_lt_of_le hv h.nm
  have hv64 : v < 64 := by omega
  have hin := h.sk.c.in_
  have hE9 : rn M ff_Mod_entered p < 9 := hJ.ri.gEl p1
  have hT1 : rn M ff_Mod_slotTry p < 1000 := by rcases (hJ.j6 p p1 p3).1 with q | q <;> omega
  have hcy := hJ.ri.l ff_Mod_cycle 0 1000000 (n := 1) rfl (by omega) rfl (by omega)
  have hH := h.f.h1 v hvm
  have KP := h.o.kp p p1 p3
  have zK : ∀ c, K c → B v + H v ≠ c + 1 := fun c hc => by
    have := (h.k.in_ c hc).2.2 v hvm
    omega
  have ftF := h.k.ft _ _ F KP (by have := hJ.ri.gLl p1; omega) hF
  -- the numbers
  have f1 := fun i => flit_f1 (M := M) (v := v) (p := p) (l := l) (i := i) hv64
  have f2 := fun i => flit_f2 (M := M) (v := v) (p := p) (l := l) (i := i) hl
  have f5 := fun i => flit_f5 (M := M) (v := v) (p := p) (l := l) (i := i) hE9
  have f8 := flit_f8 (M := M) (v := v) (p := p) (l := l) (by omega)
  have f9 := fun q => flit_f9 (M := M) (v := v) (p := p) (l := l) (q := q) hE9
  have fs := fun i => flit_spk (M := M) (v := v) (p := p) (l := l) (i := i) hv64 p2
  have rF : om_flit M v p l ff_Mod_flits 0 = y5 := by
    unfold om_flit
    try dsimp only
    rw [fx_up_ne (fun q => absurd q.1 (by decide)), fx_up_same, e5]
  have rE : ∀ q, om_flit M v p l ff_Mod_entered q = if q = p then y3 else M ff_Mod_entered q := by
    intro q
    unfold om_flit
    try dsimp only
    by_cases c : q = p
    · rw [if_pos c, c, fx_up_same, e3]
    · rw [if_neg c, fx_up_ne (fun w => c w.2), fx_up_ne (fun w => absurd w.1 (by decide)), fx_up_ne (fun w => absurd w.1 (by decide)), fx_up_ne (fun w => absurd w.1 (by decide)), fx_up_ne (fun w => absurd w.1 (by decide)), fx_up_ne (fun w => absurd w.1 (by decide)), fx_up_ne (fun w => absurd w.1 (by decide)), fx_up_ne (fun w => absurd w.1 (by decide)), fx_up_ne (fun w => absurd w.1 (by decide))]
  have rEy : ∀ i, om_flit M v p l ff_Mod_entry i = if i = (rn M ff_Mod_flits 0) then y1 else M ff_Mod_entry i := by
    intro i
    unfold om_flit
    try dsimp only
    rw [fx_up_ne (fun w => absurd w.1 (by decide)), fx_up_ne (fun w => absurd w.1 (by decide)), fx_up_ne (fun w => absurd w.1 (by decide))]
    by_cases c : i = (rn M ff_Mod_flits 0)
    · rw [if_pos c, c, fx_up_same, e1]
    · rw [if_neg c, fx_up_ne (fun w => c w.2), fx_up_ne (fun w => absurd w.1 (by decide)), fx_up_ne (fun w => absurd w.1 (by decide)), fx_up_ne (fun w => absurd w.1 (by decide)), fx_up_ne (fun w => absurd w.1 (by decide)), fx_up_ne (fun w => absurd w.1 (by decide))]
  have rT : ∀ i, om_flit M v p l ff_Mod_tries i = if i = (rn M ff_Mod_flits 0) then y2 else M ff_Mod_tries i := by
    intro i
    unfold om_flit
    try dsimp only
    rw [fx_up_ne (fun w => absurd w.1 (by decide)), fx_up_ne (fun w => absurd w.1 (by decide))]
    by_cases c : i = (rn M ff_Mod_flits 0)
    · rw [if_pos c, c, fx_up_same, e2]
    · rw [if_neg c, fx_up_ne (fun w => c w.2), fx_up_ne (fun w => absurd w.1 (by decide)), fx_up_ne (fun w => absurd w.1 (by decide)), fx_up_ne (fun w => absurd w.1 (by decide)), fx_up_ne (fun w => absurd w.1 (by decide)), fx_up_ne (fun w => absurd w.1 (by decide)), fx_up_ne (fun w => absurd w.1 (by decide))]
  have sv : sol (om_flit M v p l) v l = some ((rn M ff_Mod_flits 0)) := by
    have := sol_of hJ'.j4 (f := (rn M ff_Mod_flits 0)) (by rw [f8]; omega)
    rw [f1, f2, if_pos rfl, if_pos rfl] at this
    exact this
  have so : ∀ u k, ¬ (u = v ∧ k = l) → sol (om_flit M v p l) u k = sol M u k := by
    intro u k hne
    have hP : ∀ f, f < (rn M ff_Mod_flits 0) → (rn (om_flit M v p l) ff_Mod_at f == u && rn (om_flit M v p l) ff_Mod_line f == k) = (rn M ff_Mod_at f == u && rn M ff_Mod_line f == k) := fun f hf => by rw [f1, f2, if_neg (by omega), if_neg (by omega)]
    cases hs : sol M u k with
    | some f =>
      obtain ⟨z1, z2, z3, z4⟩ := sp_first_some.mp hs
      exact sp_first_some.mpr ⟨z1, by rw [f8]; omega, by rw [hP f (by omega)]; exact z3, fun j h1 h2 => by rw [hP j (by omega)]; exact z4 j h1 h2⟩
    | none =>
      refine sp_first_none.mpr (fun j h1 h2 => ?_)
      rw [f8] at h2
      by_cases c : j = (rn M ff_Mod_flits 0)
      · rw [f1, f2, if_pos c, if_pos c]
        cases hq : (v == u && l == k) with
        | false => rfl
        | true =>
          simp only [Bool.and_eq_true, beq_iff_eq] at hq
          exact absurd ⟨hq.1.symm, hq.2.symm⟩ hne
      · rw [hP j (by omega)]
        exact sp_first_none.mp hs j h1 (by omega)
  have cn : ∀ q, sp_cnt (fun f => spk (om_flit M v p l) f == q) ((rn (om_flit M v p l) ff_Mod_flits 0)) = sp_cnt (fun f => spk M f == q) ((rn M ff_Mod_flits 0)) + (if q = p then 1 else 0) := by
    intro q
    rw [f8, sp_cnt_s (b := (p == q)) (by rw [fs, if_pos rfl])]
    congr 1
    · exact sp_cnt_congr _ (fun f hf => by rw [fs, if_neg (by omega)])
    · by_cases c : q = p
      · rw [if_pos c, c]; simp
      · rw [if_neg c, show (p == q) = false by simpa using fun w => c w.symm]; rfl
  have sw : ∀ q, q ≠ p → suw (om_flit M v p l) q = suw M q := by
    intro q c
    unfold suw
    rw [f9, if_neg c]
    have e : rn (om_flit M v p l) ff_Mod_lengths q = rn M ff_Mod_lengths q := rn_eq (flit_o (by decide))
    rw [e]
  have swp : suw (om_flit M v p l) p = decide (rn M ff_Mod_entered p + 1 < rn M ff_Mod_lengths p) := by
    unfold suw
    have e : rn (om_flit M v p l) ff_Mod_lengths p = rn M ff_Mod_lengths p := rn_eq (flit_o (by decide))
    rw [f9, if_pos rfl, e]
    have : decide (0 < rn M ff_Mod_lengths p) = true := by simpa using p3
    simp [this]
  have eM : om_flit M v p l = om_mft M (om_flit M v p l) := mft_eq (fun g i h1 h2 => flit_o (by omega))
  obtain ⟨N, hN⟩ : ∃ N, om_flit M v p l = om_mft M N := ⟨_, eM⟩
  clear eM hJ'
  simp only [hN] at f1 f2 f5 f9 fs rE rEy rT so cn sw
  rw [hN] at f8 rF sv swp ⊢
  have old : ∀ f, f < (rn M ff_Mod_flits 0) → spk M f = p → rn M ff_Mod_number f < rn M ff_Mod_entered p := fun f hf e => by
    have := hJ.j2 f hf
    rw [e] at this
    exact this.2.2.2.2.2.1 (p5 f hf e)
  have oG : ∀ q, rn (om_mft M N) ff_Mod_lengths q = rn M ff_Mod_lengths q := fun q => rn_eq (mft_o (by decide))
  have arK : ∀ c b, K c → fx_ar (fx_sar s (B v + H v) l (some F)) (c + 1) b = fx_ar s (c + 1) b := fun c b hc => ar_ne (fun q => zK c hc q.1.symm)
  refine ⟨?_, ⟨h.t.mode, h.t.pat, h.t.now, h.t.turn, ?_, h.t.dfl, h.t.rec, h.t.ask, h.t.pks⟩, h.g, ⟨h.s.used, h.s.hun, fun u hu => ?_, fun u k hu hk => ?_, h.s.went⟩, fun q hq hq0 => ?_, fun u hu => ?_, h.r, h.x, h.m, h.o, h.k.sar zK h.o.kp h.o.kw, ?_, h.v.sar (fun u hu q => by have := h.sk.ap hvm hu (by omega) (by omega) q; omega), h.nm⟩
  · exact h.sk.sar (by have := hin _ hvm; omega) (fun u hu q => by have := h.sk.ap hvm hu (by omega) (by omega) q; omega)
  · rw [fi_same, rF]
  · show fx_fr (fx_sfr (fx_sfi (fx_sfi (fx_sfi (fx_sfi s ff_Flit_entry F y1) ff_Flit_attempt F y2) ff_Packet_entered (P p) y3) ff_Packet_flitsInNet (P p) y4) ff_Sender_underWay (B v + 1) o) ff_Sender_underWay (B u + 1) = _
    by_cases c : u = v
    · rw [c, fr_same, eo]
      by_cases d : rn M ff_Mod_entered p + 1 < rn M ff_Mod_lengths p
      · have e : sp_first (suw (om_mft M N)) (8 * v) 8 = some p := by
          refine sp_first_some.mpr ⟨by omega, by omega, by rw [swp]; simpa using d, fun q h1 h2 => ?_⟩
          rw [sw q (by omega)]
          cases hq : suw M q with
          | false => rfl
          | true => have := p6 q (by omega) (by omega) hq; omega
        rw [if_pos d, e]; rfl
      · have e : sp_first (suw (om_mft M N)) (8 * v) 8 = none := by
          refine sp_first_none.mpr (fun q h1 h2 => ?_)
          by_cases c2 : q = p
          · rw [c2, swp]; simpa using d
          · rw [sw q c2]
            cases hq : suw M q with
            | false => rfl
            | true => exact absurd (p6 q (by omega) (by omega) hq) c2
        rw [if_neg d, e]; rfl
    · rw [fr_ne (fun q => c (h.sk.ap hu hvm (by omega) (by omega) q.2).1)]
      show fx_fr s ff_Sender_underWay (B u + 1) = _
      rw [h.s.uw u hu, sp_first_congr (P := suw M) (R := suw (om_mft M N)) 8 (8 * u) (fun k _ _ => (sw k (by omega)).symm)]
  · show fx_ar (fx_sar s (B v + H v) l (some F)) (B u + 4) k = _
    rw [ar_ne (fun q => by have := h.sk.ap hu hvm (by omega) (by omega) q.1; omega), oG]
    exact h.s.sl u k hu hk
  · rw [oG] at hq0
    obtain ⟨r1, r2, r3, r4, r5, r6, r7, r8, r9⟩ := h.p q hq hq0
    have neq : q ≠ p → P q ≠ P p := fun c w => c (h.p.inj hq p1 hq0 p3 w)
    refine ⟨r1, r2, by rw [mft_o (by decide)]; exact r3, by rw [mft_o (by decide)]; exact r4, by rw [mft_o (by decide)]; exact r5, by rw [mft_o (by decide)]; exact r6, ?_, by rw [mft_o (by decide)]; exact r8, ?_⟩
    · show fx_fi (fx_sfi (fx_sfi (fx_sfi s ff_Flit_entry F y1) ff_Flit_attempt F y2) ff_Packet_entered (P p) y3) ff_Packet_entered (P q) = _
      rw [rE]
      by_cases c : q = p
      · rw [c, fi_same, if_pos rfl]
      · rw [fi_ne (fun w => neq c w.2), if_neg c]; exact r7
    · show fx_fi (fx_sfi (fx_sfi (fx_sfi (fx_sfi s ff_Flit_entry F y1) ff_Flit_attempt F y2) ff_Packet_entered (P p) y3) ff_Packet_flitsInNet (P p) y4) ff_Packet_flitsInNet (P q) = _
      rw [cn]
      by_cases c : q = p
      · rw [c, fi_same, if_pos rfl, e4]
      · rw [fi_ne (fun w => neq c w.2), if_neg c, Nat.add_zero]; exact r9
  · refine ⟨by rw [rn_eq (M := M) (M' := om_mft M N) (mft_o (by decide))]; exact (h.w u hu).1, fun i b hb => ?_⟩
    obtain ⟨r1, r2, r3, r4, r5, r6, r7, r8, r9⟩ := (h.w u hu).2 i b hb
    have nb : b ≠ P p := fun q => h.w.nP h.p p1 p3 hu (by rw [← q]; exact List.mem_of_getElem? hb)
    refine ⟨r1, r2, by rw [mft_o (by decide)]; exact r3, by rw [mft_o (by decide)]; exact r4, by rw [mft_o (by decide)]; exact r5, r6, ?_, r8, ?_⟩
    · show fx_fi (fx_sfi (fx_sfi (fx_sfi s ff_Flit_entry F y1) ff_Flit_attempt F y2) ff_Packet_entered (P p) y3) ff_Packet_entered b = _
      rw [fi_ne (fun w => nb w.2)]; exact r7
    · show fx_fi (fx_sfi (fx_sfi (fx_sfi (fx_sfi s ff_Flit_entry F y1) ff_Flit_attempt F y2) ff_Packet_entered (P p) y3) ff_Packet_flitsInNet (P p) y4) ff_Packet_flitsInNet b = _
      rw [fi_ne (fun w => nb w.2)]; exact r9
  · have Kf : ∀ f, f < (rn M ff_Mod_flits 0) → K (P (spk M f)) := fun f hf => h.o.kp _ (hJ.j2 f hf).2.2.1 (hJ.j2 f hf).1
    have oth : ∀ f F', f < (rn M ff_Mod_flits 0) → fx_ar s (P (spk M f) + 1) (rn M ff_Mod_number f) = some F' → F' ≠ F := by
      intro f F' hf hF' e
      have q := h.k.ft _ _ F' (Kf f hf) (hJ.ri.mBl (f := f) (by omega)) hF'
      rw [e] at q
      have a1 : P (spk M f) = P p := Option.some.inj (q.1.symm.trans ftF.1)
      have a2 := h.p.inj (hJ.j2 f hf).2.2.1 p1 (hJ.j2 f hf).1 p3 a1
      have lb := hJ.ri.mBl (f := f) (by omega)
      have a3 := (nI_eq (by omega) (by omega)).mp (q.2.1.symm.trans ftF.2.1)
      have := old f hf a2
      omega
    refine ⟨h.f.h1, h.f.here, h.f.com, fun u k hu hk => ?_, fun f F' hf hF' => ?_, fun f F' hf hF' => ?_, fun u k hu hk => ?_⟩
    · show fx_ar (fx_sar s (B v + H v) l (some F)) (B u + H u) k = (sol (om_mft M N) u k).bind (fun f => fx_ar (fx_sar s (B v + H v) l (some F)) (P (spk (om_mft M N) f) + 1) (rn (om_mft M N) ff_Mod_number f))
      have hHu := h.f.h1 u hu
      by_cases c : u = v ∧ k = l
      · rw [c.1, c.2, ar_same, sv, ob_some, fs, f5, if_pos rfl, if_pos rfl, arK _ _ KP, hF]
      · rw [ar_ne (fun q => c ⟨(h.sk.ap hu hvm (by omega) (by omega) q.1).1, q.2⟩), so u k c, h.f.fl u k hu hk]
        cases hs : sol M u k with
        | none => rw [ob_none, ob_none]
        | some f =>
          have hf := (sol_some hs).1
          rw [ob_some, ob_some, fs, f5, if_neg (by omega), if_neg (by omega), arK _ _ (Kf f hf)]
    · rw [f8] at hf
      have hF2 : fx_ar (fx_sar s (B v + H v) l (some F)) (P (spk (om_mft M N) f) + 1) (rn (om_mft M N) ff_Mod_number f) = some F' := hF'
      show fx_fi (fx_sfi s ff_Flit_entry F y1) ff_Flit_entry F' = _
      rw [rEy]
      rw [fs, f5] at hF2
      by_cases c : f = (rn M ff_Mod_flits 0)
      · rw [if_pos c, if_pos c, arK _ _ KP, hF] at hF2
        cases hF2
        rw [fi_same, if_pos c]
      · rw [if_neg c, if_neg c, arK _ _ (Kf f (by omega))] at hF2
        rw [fi_ne (fun w => oth f F' (by omega) hF2 w.2), if_neg c]
        exact h.f.ent f F' (by omega) hF2
    · rw [f8] at hf
      have hF2 : fx_ar (fx_sar s (B v + H v) l (some F)) (P (spk (om_mft M N) f) + 1) (rn (om_mft M N) ff_Mod_number f) = some F' := hF'
      show fx_fi (fx_sfi (fx_sfi s ff_Flit_entry F y1) ff_Flit_attempt F y2) ff_Flit_attempt F' = _
      rw [rT]
      rw [fs, f5] at hF2
      by_cases c : f = (rn M ff_Mod_flits 0)
      · rw [if_pos c, if_pos c, arK _ _ KP, hF] at hF2
        cases hF2
        rw [fi_same, if_pos c]
      · rw [if_neg c, if_neg c, arK _ _ (Kf f (by omega))] at hF2
        rw [fi_ne (fun w => oth f F' (by omega) hF2 w.2), fi_ne (fun w => oth f F' (by omega) hF2 w.2), if_neg c]
        exact h.f.att f F' (by omega) hF2
    · show fx_ar (fx_sar s (B v + H v) l (some F)) (B u + (37 - H u)) k = _
      rw [ar_ne]
      · exact h.f.cm u k hu hk
      · intro q
        have hHu := h.f.h1 u hu
        obtain ⟨e1, e2⟩ := h.sk.ap hu hvm (by omega) (by omega) q.1
        subst e1
        omega
end
