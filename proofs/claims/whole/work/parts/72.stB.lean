/-! THE CLASS AND THE REFERENCE: a note is told -/
section
variable {s : fx_S} {Q : fx_Q} {x m : Nat} {B H P : Nat → Nat} {C : Nat → Nat → Option Nat} {Y : Nat → Nat → Nat} {rt : Nat → List Nat} {K : Nat → Prop} {L : List Nat} {M : rf_M} {lv : Nat → Prop}
/-- a packet's node -/
theorem RA.pv (h : RA s x B H C Y P m rt K L M) (hJ : JV M lv) {p : Nat} (hp : p < 512) (lp : 0 < rn M ff_Mod_lengths p) : p / 8 < m := Nat.lt_of_lt_of_le (hJ.j6 p hp lp).2.2.2.2 h.nm
/-- the note DONE: the slot is free, the packet is spare -/
theorem RA.done {p : Nat} {t : List Nat} {nx fi la : Nat → Option Nat} {sz : Nat → Int32} (h : RA s x B H C Y P m rt K L M) (hJ : JV M lv) (hp : p < 512) (lp : 0 < rn M ff_Mod_lengths p) (nf : ∀ f, f < (rn M ff_Mod_flits 0) → spk M f ≠ p) (npl : ∀ k, k < 256 → oz (M ff_Mod_whose k) ≠ some p) (hns : suw M p = false)
    (hR : RR (fx_srow (fx_sfi (fx_sar s (B (p / 8) + 4) (p % 8) none) ff_Sender_slotsUsed (B (p / 8) + 1) (nI (suse M (p / 8) - 1))) nx fi la sz) x B m (fn_up rt (x + 14) (rt (x + 14) ++ [P p]))) :
    RA (fx_sfi (fx_srow (fx_sfi (fx_sar s (B (p / 8) + 4) (p % 8) none) ff_Sender_slotsUsed (B (p / 8) + 1) (nI (suse M (p / 8) - 1))) nx fi la sz) ff_Torus_packets x (nI (spks M ((rn M ff_Mod_all 0)) - 1))) x B H C Y P m (fn_up rt (x + 14) (rt (x + 14) ++ [P p])) K L (fx_up M ff_Mod_lengths p (nI 0)) ∧ 0 < suse M (p / 8) ∧ 0 < spks M ((rn M ff_Mod_all 0)) := by
  have hin := h.sk.c.in_
  have hv := h.pv hJ hp lp
  have hvA : p / 8 < (rn M ff_Mod_all 0) := (hJ.j6 p hp lp).2.2.2.2
  have e2 : ∀ v, v < m → fn_up rt (x + 14) (rt (x + 14) ++ [P p]) (B v + 2) = rt (B v + 2) := fun v hv => fn_ne (by have := hin v hv; omega)
  have e3 : ∀ v, v < m → fn_up rt (x + 14) (rt (x + 14) ++ [P p]) (B v + 3) = rt (B v + 3) := fun v hv => fn_ne (by have := hin v hv; omega)
  have e6 : ∀ v, v < m → fn_up rt (x + 14) (rt (x + 14) ++ [P p]) (B v + 6) = rt (B v + 6) := fun v hv => fn_ne (by have := hin v hv; omega)
  have em : fn_up rt (x + 14) (rt (x + 14) ++ [P p]) (x + 13) = rt (x + 13) := fn_ne (by omega)
  have es : fn_up rt (x + 14) (rt (x + 14) ++ [P p]) (x + 14) = rt (x + 14) ++ [P p] := fn_same
  have eL := fun q => gL_up (M := M) (p := p) (x := 0) (q := q) (by omega)
  have eL' : ∀ q, 0 < rn (fx_up M ff_Mod_lengths p (nI 0)) ff_Mod_lengths q → q ≠ p ∧ 0 < rn M ff_Mod_lengths q := fun q hq => by
    rw [eL] at hq
    by_cases c : q = p
    · rw [if_pos c] at hq; omega
    · rw [if_neg c] at hq; exact ⟨c, hq⟩
  have su := fun u => suse_up (M := M) (p := p) (u := u) (y := 0) (by omega) hp
  have su0 := su (p / 8)
  rw [if_pos ⟨rfl, lp⟩, if_neg (by omega)] at su0
  have sun : ∀ u, u ≠ p / 8 → suse (fx_up M ff_Mod_lengths p (nI 0)) u = suse M u := fun u hu => by
    have := su u
    rw [if_neg (fun q => hu q.1), if_neg (fun q => hu q.1)] at this
    omega
  have hsum := sp_sum_one (d := fun v => rn M ff_Mod_waits v + suse M v) (e := fun v => rn (fx_up M ff_Mod_lengths p (nI 0)) ff_Mod_waits v + suse (fx_up M ff_Mod_lengths p (nI 0)) v) (c := p / 8) ((rn M ff_Mod_all 0)) hvA (fun i _ hi => by
    show rn M ff_Mod_waits i + suse (fx_up M ff_Mod_lengths p (nI 0)) i = _
    rw [sun i hi])
  have hsum' : spks (fx_up M ff_Mod_lengths p (nI 0)) ((rn M ff_Mod_all 0)) + (rn M ff_Mod_waits (p / 8) + suse M (p / 8)) = spks M ((rn M ff_Mod_all 0)) + (rn M ff_Mod_waits (p / 8) + suse (fx_up M ff_Mod_lengths p (nI 0)) (p / 8)) := hsum
  have zK : ∀ a, K a → B (p / 8) + 4 ≠ a + 1 := fun a ha => by
    have := (h.k.in_ a ha).2.2 (p / 8) hv
    omega
  have sw : ∀ q, suw (fx_up M ff_Mod_lengths p (nI 0)) q = suw M q := by
    intro q
    by_cases c : q = p
    · have : suw (fx_up M ff_Mod_lengths p (nI 0)) q = false := by
        unfold suw
        rw [eL, if_pos c]
        simp
      rw [this, c, hns]
    · unfold suw
      rw [eL, if_neg c]
      rfl
  refine ⟨⟨?_, ?_, h.g, ⟨fun u hu => ?_, h.s.hun, fun u hu => ?_, fun u k hu hk => ?_, h.s.went⟩, fun q hq hq0 => ?_, h.w.rts e2, ?_, h.x.rts e3 e6, ⟨by rw [em]; exact h.m.row, h.m.dn, h.m.du⟩, ⟨fun q hq hq0 => ?_, fun q hq hq0 => h.o.kp q hq (eL' q hq0).2, fun v a hv ha => h.o.kw v a hv (by rw [e2 v hv] at ha; exact ha), fun a ha => ?_⟩, ?_, ?_, ?_, h.nm⟩, by omega, by omega⟩
  · exact h.sk.sar (by have := hin _ hv; omega) (fun v hv' q => by have := h.sk.ap hv hv' (by omega) (by omega) q; omega)
  · refine ⟨h.t.mode, h.t.pat, h.t.now, h.t.turn, h.t.fin, h.t.dfl, h.t.rec, h.t.ask, ?_⟩
    rw [fi_same]
    show nI _ = nI (spks (fx_up M ff_Mod_lengths p (nI 0)) ((rn M ff_Mod_all 0)))
    have : spks M ((rn M ff_Mod_all 0)) - 1 = spks (fx_up M ff_Mod_lengths p (nI 0)) ((rn M ff_Mod_all 0)) := by omega
    rw [this]
  · show fx_fi (fx_sfi (fx_sar s (B (p / 8) + 4) (p % 8) none) ff_Sender_slotsUsed (B (p / 8) + 1) (nI (suse M (p / 8) - 1))) ff_Sender_slotsUsed (B u + 1) = _
    by_cases c : u = p / 8
    · rw [c, fi_same, show suse M (p / 8) - 1 = suse (fx_up M ff_Mod_lengths p (nI 0)) (p / 8) by omega]
    · rw [fi_ne (fun q => c (h.sk.ap hu hv (by omega) (by omega) q.2).1), sun u c]
      exact h.s.used u hu
  · show fx_fr s ff_Sender_underWay (B u + 1) = _
    rw [h.s.uw u hu, sp_first_congr 8 (8 * u) (fun k _ _ => (sw k).symm)]
  · show fx_ar (fx_sar s (B (p / 8) + 4) (p % 8) none) (B u + 4) k = _
    rw [eL]
    by_cases c : u = p / 8 ∧ k = p % 8
    · rw [c.1, c.2, ar_same]
      simp [show 8 * (p / 8) + p % 8 = p by omega]
    · have ne : ¬ 8 * u + k = p := by omega
      rw [ar_ne (fun q => c ⟨(h.sk.ap hu hv (by omega) (by omega) q.1).1, q.2⟩)]
      simp only [if_neg ne]
      exact h.s.sl u k hu hk
  · obtain ⟨c, hq1⟩ := eL' q hq0
    obtain ⟨r1, r2, r3, r4, r5, r6, r7, r8, r9⟩ := h.p q hq hq1
    refine ⟨r1, r2, r3, ?_, r5, r6, r7, r8, r9⟩
    show fx_fi s ff_Packet_length (P q) = _
    rw [fx_up_ne (fun w => c w.2)]
    exact r4
  · exact hR
  · obtain ⟨c, hq1⟩ := eL' q hq0
    rw [es]
    intro hin2
    rcases List.mem_append.mp hin2 with z | z
    · exact h.o.sp q hq hq1 z
    · exact c (h.p.inj hq hp hq1 lp (by simpa using z))
  · rw [es] at ha
    rcases List.mem_append.mp ha with z | z
    · exact h.o.ks a z
    · have : a = P p := by simpa using z
      rw [this]
      exact h.o.kp p hp lp
  · have hk := (h.k.sar (i := p % 8) (o := none) zK h.o.kp h.o.kw).rts e2
    refine ⟨hk.in_, hk.fl, hk.ln, hk.ft, fun q b hq hb => ?_, hk.fw, hk.sep⟩
    have hq0 : 0 < rn (fx_up M ff_Mod_lengths p (nI 0)) ff_Mod_lengths q := by omega
    rw [eL, if_neg (eL' q hq0).1] at hb
    exact hk.fp q b hq hb
  · exact h.f.sar (fun v hv' q => by have := h.f.h1 v hv'; have := h.sk.ap hv hv' (by omega) (by omega) q; omega) (fun f hf q => zK _ (h.o.kp _ (hJ.j2 f hf).2.2.1 (hJ.j2 f hf).1) q) (fun v hv' q => by have := h.f.h1 v hv'; have := h.sk.ap hv hv' (by omega) (by omega) q; omega)
  · exact h.v.sar (fun v hv' q => by have := h.sk.ap hv hv' (by omega) (by omega) q; omega)
theorem sfr_id {s : fx_S} {f a : Nat} {o : Option Nat} (h : fx_fr s f a = o) : fx_sfr s f a o = s := by
  obtain ⟨s1, s2, s3, s4⟩ := s
  have e : fx_up s3 f a o = s3 := by
    funext g b
    by_cases c : g = f ∧ b = a
    · obtain ⟨c1, c2⟩ := c
      subst c1; subst c2
      rw [fx_up_same]
      exact h.symm
    · exact fx_up_ne c
  show (s1, s2, fx_up s3 f a o, s4) = (s1, s2, s3, s4)
  rw [e]
theorem again_T {p q : Nat} (h : rn M ff_Mod_slotTry p < 900) : rn (om_again M p) ff_Mod_slotTry q = if q = p then rn M ff_Mod_slotTry p + 1 else rn M ff_Mod_slotTry q := by
  unfold om_again
  rw [rn_pe (by decide), rn_pe (by decide), rn_pe (by decide)]
  by_cases e : q = p
  · rw [if_pos e, e, rn_same (by omega)]
  · rw [if_neg e, rn_ne (fun w => e w.2)]
theorem again_E {p q : Nat} : rn (om_again M p) ff_Mod_entered q = if q = p then 0 else rn M ff_Mod_entered q := by
  unfold om_again
  rw [rn_pe (by decide), rn_pe (by decide)]
  by_cases e : q = p
  · rw [if_pos e, e, rn_same (by omega)]
  · rw [if_neg e, rn_ne (fun w => e w.2), rn_pe (by decide)]
theorem again_N {p v : Nat} (h : rn M ff_Mod_agains (p / 8) < 9) : rn (om_again M p) ff_Mod_agains v = if v = p / 8 then rn M ff_Mod_agains (p / 8) + 1 else rn M ff_Mod_agains v := by
  unfold om_again
  by_cases e : v = p / 8
  · rw [if_pos e, e, rn_same (by omega)]
  · rw [if_neg e, rn_ne (fun w => e w.2), rn_pe (by decide), rn_pe (by decide), rn_pe (by decide)]
theorem again_R {p i : Nat} (hp : p < 512) : rn (om_again M p) ff_Mod_again i = if i = 8 * (p / 8) + rn M ff_Mod_agains (p / 8) then p else rn M ff_Mod_again i := by
  unfold om_again
  rw [rn_pe (by decide)]
  by_cases e : i = 8 * (p / 8) + rn M ff_Mod_agains (p / 8)
  · rw [if_pos e, e, rn_same (by omega)]
  · rw [if_neg e, rn_ne (fun w => e w.2), rn_pe (by decide), rn_pe (by decide)]
theorem again_suw {p q : Nat} : suw (om_again M p) q = if q = p then false else suw M q := by
  unfold suw
  rw [again_E]
  by_cases c : q = p
  · rw [if_pos c, if_pos c]; simp
  · rw [if_neg c, if_neg c]; rfl
/-- the note GO: the packet is to go again -/
def om_ag2 (M : rf_M) (p v : Nat) : rf_M :=
  fx_up (fx_up (fx_up (fx_up M ff_Mod_slotTry p (nI (rn M ff_Mod_slotTry p + 1))) ff_Mod_entered p (nI 0)) ff_Mod_again (8 * v + rn M ff_Mod_agains v) (nI p)) ff_Mod_agains v (nI (rn M ff_Mod_agains v + 1))
theorem RA.goes {p v : Nat} {nx fi la : Nat → Option Nat} {sz : Nat → Int32} (hv8 : p / 8 = v) (h : RA s x B H C Y P m rt K L M) (hJ : JV M lv) (hp : p < 512) (lp : 0 < rn M ff_Mod_lengths p) (hT : rn M ff_Mod_slotTry p < 900) (hag : rn M ff_Mod_agains (v) < 8)
    (hR : RR (fx_srow (fx_sfi (fx_sfi s ff_Packet_attempt (P p) (nI (rn M ff_Mod_slotTry p + 1))) ff_Packet_entered (P p) (nI 0)) nx fi la sz) x B m (fn_up rt (B (v) + 3) (rt (B (v) + 3) ++ [P p]))) :
    RA (fx_sfr (fx_srow (fx_sfi (fx_sfi s ff_Packet_attempt (P p) (nI (rn M ff_Mod_slotTry p + 1))) ff_Packet_entered (P p) (nI 0)) nx fi la sz) ff_Sender_underWay (B (v) + 1) ((sp_first (suw (om_ag2 M p v)) (8 * (v)) 8).map P)) x B H C Y P m (fn_up rt (B (v) + 3) (rt (B (v) + 3) ++ [P p])) K L (om_ag2 M p v) := by
  have hin := h.sk.c.in_
  have eM : om_ag2 M p v = om_again M p := by rw [← hv8]; rfl
  have hv : v < m := by rw [← hv8]; exact h.pv hJ hp lp
  have h64 := h.sk.c.m64
  have e2 : ∀ u, u < m → fn_up rt (B v + 3) (rt (B v + 3) ++ [P p]) (B u + 2) = rt (B u + 2) := fun u hu => fn_ne (fun q => by have := h.sk.ap hu hv (by omega) (by omega) q; omega)
  have e6 : ∀ u, u < m → fn_up rt (B v + 3) (rt (B v + 3) ++ [P p]) (B u + 6) = rt (B u + 6) := fun u hu => fn_ne (fun q => by have := h.sk.ap hu hv (by omega) (by omega) q; omega)
  have em : fn_up rt (B (v) + 3) (rt (B (v) + 3) ++ [P p]) (x + 13) = rt (x + 13) := fn_ne (by have := hin _ hv; omega)
  have es : fn_up rt (B (v) + 3) (rt (B (v) + 3) ++ [P p]) (x + 14) = rt (x + 14) := fn_ne (by have := hin _ hv; omega)
  refine ⟨h.sk, ⟨h.t.mode, h.t.pat, h.t.now, h.t.turn, h.t.fin, h.t.dfl, h.t.rec, h.t.ask, h.t.pks⟩, h.g, ⟨h.s.used, h.s.hun, fun u hu => ?_, h.s.sl, h.s.went⟩, fun q hq hq0 => ?_, fun u hu => ?_, hR, ⟨fun u hu huA => ?_, fun u hu huA => by rw [e6 u hu]; exact h.x.ak u hu huA, fun u hu huA => ?_⟩, ⟨by rw [em]; exact h.m.row, h.m.dn, h.m.du⟩, ⟨fun q hq hq0 => by rw [es]; exact h.o.sp q hq hq0, h.o.kp, fun u a hu ha => h.o.kw u a hu (by rw [e2 u hu] at ha; exact ha), fun a ha => h.o.ks a (by rw [es] at ha; exact ha)⟩, h.k.rts e2, h.f, h.v, h.nm⟩
  · by_cases c : u = v
    · rw [c, fr_same]
    · rw [fr_ne (fun q => c (h.sk.ap hu hv (by omega) (by omega) q.2).1)]
      show fx_fr s ff_Sender_underWay (B u + 1) = _
      rw [h.s.uw u hu, sp_first_congr (P := suw M) (R := suw (om_ag2 M p v)) 8 (8 * u) (fun k h1 h2 => by rw [eM, again_suw, if_neg (by omega)])]
  · have hq0' : 0 < rn M ff_Mod_lengths q := hq0
    obtain ⟨r1, r2, r3, r4, r5, r6, r7, r8, r9⟩ := h.p q hq hq0'
    have neq : q ≠ p → P q ≠ P p := fun c w => c (h.p.inj hq hp hq0' lp w)
    refine ⟨r1, r2, r3, r4, r5, ?_, ?_, r8, r9⟩
    · show fx_fi (fx_sfi s ff_Packet_attempt (P p) (nI (rn M ff_Mod_slotTry p + 1))) ff_Packet_attempt (P q) = om_ag2 M p v ff_Mod_slotTry q
      have e : om_ag2 M p v ff_Mod_slotTry q = fx_up M ff_Mod_slotTry p (nI (rn M ff_Mod_slotTry p + 1)) ff_Mod_slotTry q := by
        unfold om_ag2
        rw [fx_up_ne (fun q => absurd q.1 (by decide)), fx_up_ne (fun q => absurd q.1 (by decide)), fx_up_ne (fun q => absurd q.1 (by decide))]
      rw [e]
      by_cases c : q = p
      · rw [c, fi_same, fx_up_same]
      · rw [fi_ne (fun w => neq c w.2), fx_up_ne (fun w => c w.2)]; exact r6
    · show fx_fi (fx_sfi (fx_sfi s ff_Packet_attempt (P p) (nI (rn M ff_Mod_slotTry p + 1))) ff_Packet_entered (P p) (nI 0)) ff_Packet_entered (P q) = om_ag2 M p v ff_Mod_entered q
      have e : om_ag2 M p v ff_Mod_entered q = fx_up M ff_Mod_entered p (nI 0) ff_Mod_entered q := by
        unfold om_ag2
        rw [fx_up_ne (fun q => absurd q.1 (by decide)), fx_up_ne (fun q => absurd q.1 (by decide))]
        by_cases c : q = p
        · rw [c, fx_up_same, fx_up_same]
        · rw [fx_up_ne (fun w => c w.2), fx_up_ne (fun w => c w.2), fx_up_ne (fun w => c w.2)]
      rw [e]
      by_cases c : q = p
      · rw [c, fi_same, fx_up_same]
      · rw [fi_ne (fun w => neq c w.2), fx_up_ne (fun w => c w.2)]; exact r7
  · rw [e2 u hu]
    refine ⟨(h.w u hu).1, fun i a ha => ?_⟩
    obtain ⟨r1, r2, r3, r4, r5, r6, r7, r8, r9⟩ := (h.w u hu).2 i a ha
    have na : a ≠ P p := fun q => h.w.nP h.p hp lp hu (by rw [← q]; exact List.mem_of_getElem? ha)
    refine ⟨r1, r2, r3, r4, r5, ?_, ?_, r8, r9⟩
    · show fx_fi (fx_sfi s ff_Packet_attempt (P p) (nI (rn M ff_Mod_slotTry p + 1))) ff_Packet_attempt a = _
      rw [fi_ne (fun w => na w.2)]; exact r6
    · show fx_fi (fx_sfi (fx_sfi s ff_Packet_attempt (P p) (nI (rn M ff_Mod_slotTry p + 1))) ff_Packet_entered (P p) (nI 0)) ff_Packet_entered a = _
      rw [fi_ne (fun w => na w.2)]; exact r7
  · rw [eM, again_N (by rw [hv8]; omega)]
    rw [hv8]
    by_cases c : u = v
    · rw [c, fn_same, if_pos rfl, h.x.ag _ hv (by rw [← hv8]; exact (hJ.j6 p hp lp).2.2.2.2), List.range_succ, List.map_append]
      congr 1
      · refine List.map_congr_left (fun i hi => ?_)
        rw [again_R hp, hv8, if_neg (by have := List.mem_range.mp hi; omega)]
      · simp [again_R hp, hv8]
    · rw [fn_ne (fun q => c (h.sk.ap hu hv (by omega) (by omega) q).1), if_neg c, h.x.ag u hu huA]
      refine List.map_congr_left (fun i hi => ?_)
      have h9 := hJ.ri.aNl (v := u) (by omega)
      rw [again_R hp, hv8, if_neg (by have := List.mem_range.mp hi; omega)]
  · have huA' : (rn M ff_Mod_all 0) ≤ u := huA
    have hne : u ≠ v := fun q => by have := (hJ.j6 p hp lp).2.2.2.2; omega
    rw [fn_ne (fun q => hne (h.sk.ap hu hv (by omega) (by omega) q).1), e6 u hu]
    exact h.x.z u hu huA'
theorem keep_S {k l i : Nat} (h : rn M ff_Mod_noteSlot k < 512) : rn (om_keep M k l) ff_Mod_noteSlot i = if i = l then rn M ff_Mod_noteSlot k else rn M ff_Mod_noteSlot i := by
  unfold om_keep
  rw [rn_pe (by decide), rn_pe (by decide)]
  by_cases e : i = l
  · rw [if_pos e, e, rn_same (by omega)]
  · rw [if_neg e, rn_ne (fun q => e q.2)]
/-- a note is kept: its packet is put behind again -/
theorem RA.kept {k l : Nat} {t : List Nat} {nx fi la : Nat → Option Nat} {sz : Nat → Int32} (h : RA s x B H C Y P m rt K L M) (hI : RI M) (hk : k < 1100) (hL : ∀ i, i ∈ L → i ≠ l) (hdn : fx_fi s ff_Packet_noteIsDone (P (rn M ff_Mod_noteSlot k)) = M ff_Mod_noteDone k) (hdu : fx_fi s ff_Packet_noteDue (P (rn M ff_Mod_noteSlot k)) = M ff_Mod_noteDue k)
    (hR : RR (fx_srow s nx fi la sz) x B m (fn_up rt (x + 13) (rt (x + 13) ++ [P (rn M ff_Mod_noteSlot k)]))) :
    RA (fx_srow s nx fi la sz) x B H C Y P m (fn_up rt (x + 13) (rt (x + 13) ++ [P (rn M ff_Mod_noteSlot k)])) K (L ++ [l]) (om_keep M k l) := by
  have hin := h.sk.c.in_
  have hs : rn M ff_Mod_noteSlot k < 512 := hI.l ff_Mod_noteSlot k 512 (n := 1100) rfl hk rfl (by omega)
  have e2 : ∀ v, v < m → fn_up rt (x + 13) (rt (x + 13) ++ [P (rn M ff_Mod_noteSlot k)]) (B v + 2) = rt (B v + 2) := fun v hv => fn_ne (by have := hin v hv; omega)
  have e3 : ∀ v, v < m → fn_up rt (x + 13) (rt (x + 13) ++ [P (rn M ff_Mod_noteSlot k)]) (B v + 3) = rt (B v + 3) := fun v hv => fn_ne (by have := hin v hv; omega)
  have e6 : ∀ v, v < m → fn_up rt (x + 13) (rt (x + 13) ++ [P (rn M ff_Mod_noteSlot k)]) (B v + 6) = rt (B v + 6) := fun v hv => fn_ne (by have := hin v hv; omega)
  have es : fn_up rt (x + 13) (rt (x + 13) ++ [P (rn M ff_Mod_noteSlot k)]) (x + 14) = rt (x + 14) := fn_ne (by omega)
  have eD : ∀ i, om_keep M k l ff_Mod_noteDone i = if i = l then M ff_Mod_noteDone k else M ff_Mod_noteDone i := by
    intro i
    have e : om_keep M k l ff_Mod_noteDone i = fx_up M ff_Mod_noteDone l (fx_bit (rz M ff_Mod_noteDone k)) ff_Mod_noteDone i := rfl
    rw [e]
    by_cases c : i = l
    · rw [if_pos c, c, fx_up_same]; exact (hI.z ff_Mod_noteDone k (n := 1100) rfl hk rfl).symm
    · rw [if_neg c, fx_up_ne (fun q => c q.2)]
  have eU : ∀ i, om_keep M k l ff_Mod_noteDue i = if i = l then M ff_Mod_noteDue k else M ff_Mod_noteDue i := by
    intro i
    have e : om_keep M k l ff_Mod_noteDue i = fx_up M ff_Mod_noteDue l (nI (rn M ff_Mod_noteDue k)) ff_Mod_noteDue i := rfl
    rw [e]
    by_cases c : i = l
    · rw [if_pos c, c, fx_up_same]; exact (hI.e ff_Mod_noteDue k (n := 1100) rfl hk (by decide)).symm
    · rw [if_neg c, fx_up_ne (fun q => c q.2)]
  have mem : ∀ i, i ∈ L ++ [l] → (i ∈ L ∧ i ≠ l) ∨ i = l := by
    intro i hi
    rcases List.mem_append.mp hi with q | q
    · exact Or.inl ⟨q, hL i q⟩
    · exact Or.inr (by simpa using q)
  refine ⟨h.sk, ⟨h.t.mode, h.t.pat, h.t.now, h.t.turn, h.t.fin, h.t.dfl, h.t.rec, h.t.ask, h.t.pks⟩, h.g, h.s, h.p, h.w.rts e2, hR, h.x.rts e3 e6, ⟨?_, fun i hi => ?_, fun i hi => ?_⟩, ⟨fun q hq hq0 => by rw [es]; exact h.o.sp q hq hq0, h.o.kp, fun v a hv ha => h.o.kw v a hv (by rw [e2 v hv] at ha; exact ha), fun a ha => h.o.ks a (by rw [es] at ha; exact ha)⟩, h.k.rts e2, h.f, h.v, h.nm⟩
  · rw [fn_same, h.m.row, List.map_append]
    congr 1
    · refine List.map_congr_left (fun i hi => ?_)
      rw [keep_S hs, if_neg (hL i hi)]
    · simp [keep_S hs]
  · show fx_fi s ff_Packet_noteIsDone (P (rn (om_keep M k l) ff_Mod_noteSlot i)) = _
    rw [keep_S hs, eD]
    rcases mem i hi with q | q
    · rw [if_neg q.2, if_neg q.2]; exact h.m.dn i q.1
    · rw [if_pos q, if_pos q]; exact hdn
  · show fx_fi s ff_Packet_noteDue (P (rn (om_keep M k l) ff_Mod_noteSlot i)) = _
    rw [keep_S hs, eU]
    rcases mem i hi with q | q
    · rw [if_neg q.2, if_neg q.2]; exact h.m.du i q.1
    · rw [if_pos q, if_pos q]; exact hdu
end
