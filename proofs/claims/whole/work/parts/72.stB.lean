/-! THE CLASS AND THE REFERENCE: a note is told -/
section
variable {s : fx_S} {Q : fx_Q} {x m : Nat} {B H P : Nat → Nat} {Y : Nat → Nat → Nat} {rt : Nat → List Nat} {K : Nat → Prop} {L : List Nat} {M : rf_M} {lv : Nat → Prop}
/-- a packet's node -/
theorem RA.pv (h : RA s x B H Y P m rt K L M) (hJ : JV M lv) {p : Nat} (hp : p < 512) (lp : 0 < rn M ff_Mod_lengths p) : p / 8 < m := Nat.lt_of_lt_of_le (hJ.j6 p hp lp).2.2.2.2 h.nm
/-- the note DONE: the slot is free, the packet is spare -/
theorem RA.done {p : Nat} {t : List Nat} {nx fi la : Nat → Option Nat} {sz : Nat → Int32} (h : RA s x B H Y P m rt K L M) (hJ : JV M lv) (hp : p < 512) (lp : 0 < rn M ff_Mod_lengths p) (nf : ∀ f, f < (rn M ff_Mod_flits 0) → spk M f ≠ p) (npl : ∀ k, k < 256 → oz (M ff_Mod_whose k) ≠ some p) (hns : suw M p = false)
    (hR : RR (fx_srow (fx_sfi (fx_sar s (B (p / 8) + 4) (p % 8) none) ff_Sender_slotsUsed (B (p / 8) + 1) (nI (suse M (p / 8) - 1))) nx fi la sz) x B m (fn_up rt (x + 14) (rt (x + 14) ++ [P p]))) :
    RA (fx_sfi (fx_srow (fx_sfi (fx_sar s (B (p / 8) + 4) (p % 8) none) ff_Sender_slotsUsed (B (p / 8) + 1) (nI (suse M (p / 8) - 1))) nx fi la sz) ff_Torus_packets x (nI (spks M ((rn M ff_Mod_all 0)) - 1))) x B H Y P m (fn_up rt (x + 14) (rt (x + 14) ++ [P p])) K L (fx_up M ff_Mod_lengths p (nI 0)) ∧ 0 < suse M (p / 8) ∧ 0 < spks M ((rn M ff_Mod_all 0)) := by
  have hin := h.sk.c.in_
  have hv := h.pv hJ hp lp
  have hvA : p / 8 < (rn M ff_Mod_all 0) := (hJ.j6 p hp lp).2.2.2.2
  have e2 : ∀ v, v < m → fn_up rt (x + 14) (rt (x + 14) ++ [P p]) (B v + 2) = rt (B v + 2) := fun v hv => fn_ne (by have := hin v hv; omega)
  have e3 : ∀ v, v < m → fn_up rt (x + 14) (rt (x + 14) ++ [P p]) (B v + 3) = rt (B v + 3) := fun v hv => fn_ne (by have := hin v hv; omega)
  have e6 : ∀ v, v < m → fn_up rt (x + 14) (rt (x + 14) ++ [P p]) (B v + 6) = rt (B v + 6) := fun v hv => fn_ne (by have := hin v hv; omega)
  have em : fn_up rt (x + 14) (rt (x + 14) ++ [P p]) (x + 13) = rt (x + 13) := fn_ne (by omega)
  have es : fn_up rt (x + 14) (rt (x + 14) ++ [P p]) (x + 14) = rt (x + 14) ++ [P p] := fn_same
  have eL := fun q => gL_up (M := M) (p := p) (x := 0) (q := q) (by omega)
  have eL' : ∀ q, 0 < rn (fx_up M ff_Mod_lengths p (nI 0)) ff_Mod_lengths q → q ≠ p ∧ 0 < rn M ff_Mod_lengths q := fun q hq => by
    rw [eL] at hq
    by_cases c : q = p
    · rw [if_pos c] at hq; omega
    · rw [if_neg c] at hq; exact ⟨c, hq⟩
  have su := fun u => suse_up (M := M) (p := p) (u := u) (y := 0) (by omega) hp
  have su0 := su (p / 8)
  rw [if_pos ⟨rfl, lp⟩, if_neg (by omega)] at su0
  have sun : ∀ u, u ≠ p / 8 → suse (fx_up M ff_Mod_lengths p (nI 0)) u = suse M u := fun u hu => by
    have := su u
    rw [if_neg (fun q => hu q.1), if_neg (fun q => hu q.1)] at this
    omega
  have hsum := sp_sum_one (d := fun v => rn M ff_Mod_waits v + suse M v) (e := fun v => rn (fx_up M ff_Mod_lengths p (nI 0)) ff_Mod_waits v + suse (fx_up M ff_Mod_lengths p (nI 0)) v) (c := p / 8) ((rn M ff_Mod_all 0)) hvA (fun i _ hi => by
    show rn M ff_Mod_waits i + suse (fx_up M ff_Mod_lengths p (nI 0)) i = _
    rw [sun i hi])
  have hsum' : spks (fx_up M ff_Mod_lengths p (nI 0)) ((rn M ff_Mod_all 0)) + (rn M ff_Mod_waits (p / 8) + suse M (p / 8)) = spks M ((rn M ff_Mod_all 0)) + (rn M ff_Mod_waits (p / 8) + suse (fx_up M ff_Mod_lengths p (nI 0)) (p / 8)) := hsum
  have zK : ∀ a, K a → B (p / 8) + 4 ≠ a + 1 := fun a ha => by
    have := (h.k.in_ a ha).2.2 (p / 8) hv
    omega
  have sw : ∀ q, suw (fx_up M ff_Mod_lengths p (nI 0)) q = suw M q := by
    intro q
    by_cases c : q = p
    · have : suw (fx_up M ff_Mod_lengths p (nI 0)) q = false := by
        unfold suw
        rw [eL, if_pos c]
        simp
      rw [this, c, hns]
    · unfold suw
      rw [eL, if_neg c]
      rfl
  refine ⟨⟨?_, ?_, h.g, ⟨fun u hu => ?_, h.s.hun, fun u hu => ?_, fun u k hu hk => ?_, h.s.went⟩, fun q hq hq0 => ?_, h.w.rts e2, ?_, h.x.rts e3 e6, ⟨by rw [em]; exact h.m.row, h.m.dn, h.m.du⟩, ⟨fun q hq hq0 => ?_, fun q hq hq0 => h.o.kp q hq (eL' q hq0).2, fun v a hv ha => h.o.kw v a hv (by rw [e2 v hv] at ha; exact ha), fun a ha => ?_⟩, ?_, ?_, ?_, h.nm⟩, by omega, by omega⟩
  · exact h.sk.sar (by have := hin _ hv; omega) (fun v hv' q => by have := h.sk.ap hv hv' (by omega) (by omega) q; omega)
  · refine ⟨h.t.mode, h.t.pat, h.t.now, h.t.turn, h.t.fin, h.t.dfl, h.t.rec, h.t.ask, ?_⟩
    rw [fi_same]
    show nI _ = nI (spks (fx_up M ff_Mod_lengths p (nI 0)) ((rn M ff_Mod_all 0)))
    have : spks M ((rn M ff_Mod_all 0)) - 1 = spks (fx_up M ff_Mod_lengths p (nI 0)) ((rn M ff_Mod_all 0)) := by omega
    rw [this]
  · show fx_fi (fx_sfi (fx_sar s (B (p / 8) + 4) (p % 8) none) ff_Sender_slotsUsed (B (p / 8) + 1) (nI (suse M (p / 8) - 1))) ff_Sender_slotsUsed (B u + 1) = _
    by_cases c : u = p / 8
    · rw [c, fi_same, show suse M (p / 8) - 1 = suse (fx_up M ff_Mod_lengths p (nI 0)) (p / 8) by omega]
    · rw [fi_ne (fun q => c (h.sk.ap hu hv (by omega) (by omega) q.2).1), sun u c]
      exact h.s.used u hu
  · show fx_fr s ff_Sender_underWay (B u + 1) = _
    rw [h.s.uw u hu, sp_first_congr 8 (8 * u) (fun k _ _ => (sw k).symm)]
  · show fx_ar (fx_sar s (B (p / 8) + 4) (p % 8) none) (B u + 4) k = _
    rw [eL]
    by_cases c : u = p / 8 ∧ k = p % 8
    · rw [c.1, c.2, ar_same]
      simp [show 8 * (p / 8) + p % 8 = p by omega]
    · have ne : ¬ 8 * u + k = p := by omega
      rw [ar_ne (fun q => c ⟨(h.sk.ap hu hv (by omega) (by omega) q.1).1, q.2⟩)]
      simp only [if_neg ne]
      exact h.s.sl u k hu hk
  · obtain ⟨c, hq1⟩ := eL' q hq0
    obtain ⟨r1, r2, r3, r4, r5, r6, r7, r8, r9⟩ := h.p q hq hq1
    refine ⟨r1, r2, r3, ?_, r5, r6, r7, r8, r9⟩
    show fx_fi s ff_Packet_length (P q) = _
    rw [fx_up_ne (fun w => c w.2)]
    exact r4
  · exact hR
  · obtain ⟨c, hq1⟩ := eL' q hq0
    rw [es]
    intro hin2
    rcases List.mem_append.mp hin2 with z | z
    · exact h.o.sp q hq hq1 z
    · exact c (h.p.inj hq hp hq1 lp (by simpa using z))
  · rw [es] at ha
    rcases List.mem_append.mp ha with z | z
    · exact h.o.ks a z
    · have : a = P p := by simpa using z
      rw [this]
      exact h.o.kp p hp lp
  · have hk := (h.k.sar (i := p % 8) (o := none) zK h.o.kp h.o.kw).rts e2
    refine ⟨hk.in_, hk.fl, hk.ln, hk.ft, fun q b hq hb => ?_, hk.fw, hk.sep⟩
    have hq0 : 0 < rn (fx_up M ff_Mod_lengths p (nI 0)) ff_Mod_lengths q := by omega
    rw [eL, if_neg (eL' q hq0).1] at hb
    exact hk.fp q b hq hb
  · exact h.f.sar (fun v hv' q => by have := h.f.h1 v hv'; have := h.sk.ap hv hv' (by omega) (by omega) q; omega) (fun f hf q => zK _ (h.o.kp _ (hJ.j2 f hf).2.2.1 (hJ.j2 f hf).1) q)
  · exact h.v.sar (fun v hv' q => by have := h.sk.ap hv hv' (by omega) (by omega) q; omega)
end
