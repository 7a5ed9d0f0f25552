/-! THE CLASS AND THE REFERENCE: the first one that waits takes a slot -/
def om_mwt (M N : rf_M) : rf_M := fun g i => if Nat.ble 787 g && Nat.blt g 797 then N g i else M g i
theorem mwt_y {M N : rf_M} {g i : Nat} (h : (Nat.ble 787 g && Nat.blt g 797) = true) : om_mwt M N g i = N g i := by
  unfold om_mwt
  exact if_pos h
theorem mwt_o {M N : rf_M} {g i : Nat} (h : (Nat.ble 787 g && Nat.blt g 797) = false) : om_mwt M N g i = M g i := by
  unfold om_mwt
  rw [h]
  rfl
theorem mwt_eq {M N : rf_M} (h : ∀ g i, ¬ (787 ≤ g ∧ g < 797) → N g i = M g i) : N = om_mwt M N := by
  funext g i
  unfold om_mwt
  by_cases c : (Nat.ble 787 g && Nat.blt g 797) = true
  · rw [if_pos c]
  · rw [if_neg c]
    simp only [Bool.and_eq_true, Nat.ble_eq, Nat.blt_eq] at c
    exact h g i (by omega)
section
variable {s : fx_S} {Q : fx_Q} {x m : Nat} {B H P : Nat → Nat} {C : Nat → Nat → Option Nat} {Y : Nat → Nat → Nat} {rt : Nat → List Nat} {K : Nat → Prop} {L : List Nat} {M : rf_M} {lv : Nat → Prop}
theorem unwt_raw {v p q : Nat} : (om_unwt M v p ff_Mod_goals q = if q = p then nI (rn M ff_Mod_waitGoal (4 * v)) else M ff_Mod_goals q) ∧ (om_unwt M v p ff_Mod_lengths q = if q = p then nI (rn M ff_Mod_waitLength (4 * v)) else M ff_Mod_lengths q) ∧ (om_unwt M v p ff_Mod_tags q = if q = p then M ff_Mod_waitTag (4 * v) else M ff_Mod_tags q) ∧ (om_unwt M v p ff_Mod_slotTry q = if q = p then nI 1 else M ff_Mod_slotTry q) ∧ (om_unwt M v p ff_Mod_entered q = if q = p then nI 0 else M ff_Mod_entered q) ∧ (om_unwt M v p ff_Mod_asked q = if q = p then fx_bit false else M ff_Mod_asked q) := by
  unfold om_unwt om_slot
  try dsimp only
  refine ⟨?_, ?_, ?_, ?_, ?_, ?_⟩
  · rw [om_sh_ne (by decide), om_sh_ne (by decide), om_sh_ne (by decide), fx_up_ne (fun w => absurd w.1 (by decide)), fx_up_ne (fun w => absurd w.1 (by decide)), fx_up_ne (fun w => absurd w.1 (by decide)), fx_up_ne (fun w => absurd w.1 (by decide)), fx_up_ne (fun w => absurd w.1 (by decide)), fx_up_ne (fun w => absurd w.1 (by decide))]
    by_cases c : q = p
    · rw [if_pos c, c, fx_up_same]
    · rw [if_neg c, fx_up_ne (fun w => c w.2)]
  · rw [om_sh_ne (by decide), om_sh_ne (by decide), om_sh_ne (by decide), fx_up_ne (fun w => absurd w.1 (by decide)), fx_up_ne (fun w => absurd w.1 (by decide)), fx_up_ne (fun w => absurd w.1 (by decide)), fx_up_ne (fun w => absurd w.1 (by decide)), fx_up_ne (fun w => absurd w.1 (by decide))]
    by_cases c : q = p
    · rw [if_pos c, c, fx_up_same]
    · rw [if_neg c, fx_up_ne (fun w => c w.2), fx_up_ne (fun w => c w.2)]
  · rw [om_sh_ne (by decide), om_sh_ne (by decide), om_sh_ne (by decide), fx_up_ne (fun w => absurd w.1 (by decide)), fx_up_ne (fun w => absurd w.1 (by decide)), fx_up_ne (fun w => absurd w.1 (by decide)), fx_up_ne (fun w => absurd w.1 (by decide))]
    by_cases c : q = p
    · rw [if_pos c, c, fx_up_same]
    · rw [if_neg c, fx_up_ne (fun w => c w.2), fx_up_ne (fun w => c w.2), fx_up_ne (fun w => c w.2)]
  · rw [om_sh_ne (by decide), om_sh_ne (by decide), om_sh_ne (by decide), fx_up_ne (fun w => absurd w.1 (by decide)), fx_up_ne (fun w => absurd w.1 (by decide)), fx_up_ne (fun w => absurd w.1 (by decide))]
    by_cases c : q = p
    · rw [if_pos c, c, fx_up_same]
    · rw [if_neg c, fx_up_ne (fun w => c w.2), fx_up_ne (fun w => c w.2), fx_up_ne (fun w => c w.2), fx_up_ne (fun w => c w.2)]
  · rw [om_sh_ne (by decide), om_sh_ne (by decide), om_sh_ne (by decide), fx_up_ne (fun w => absurd w.1 (by decide)), fx_up_ne (fun w => absurd w.1 (by decide))]
    by_cases c : q = p
    · rw [if_pos c, c, fx_up_same]
    · rw [if_neg c, fx_up_ne (fun w => c w.2), fx_up_ne (fun w => c w.2), fx_up_ne (fun w => c w.2), fx_up_ne (fun w => c w.2), fx_up_ne (fun w => c w.2)]
  · rw [om_sh_ne (by decide), om_sh_ne (by decide), om_sh_ne (by decide), fx_up_ne (fun w => absurd w.1 (by decide))]
    by_cases c : q = p
    · rw [if_pos c, c, fx_up_same]
    · rw [if_neg c, fx_up_ne (fun w => c w.2), fx_up_ne (fun w => c w.2), fx_up_ne (fun w => c w.2), fx_up_ne (fun w => c w.2), fx_up_ne (fun w => c w.2), fx_up_ne (fun w => c w.2)]
theorem RA.unwt {v p a : Nat} {t : List Nat} {nx fi la : Nat → Option Nat} {sz : Nat → Int32} {y1 y2 : Int32} (h : RA s x B H C Y P m rt K L M) (hJ : JV M lv) (hL : ∀ k, k ∈ L → lv k) (hv : v < (rn M ff_Mod_all 0)) (hp : p < 512) (hpv : p / 8 = v) (hl0 : rn M ff_Mod_lengths p = 0) (ht : rt (B v + 2) = a :: t) (hy1 : y1 = nI (p % 8)) (hy2 : y2 = nI (suse M v + 1)) (hR : RR (fx_srow s nx fi la sz) x B m (fn_up rt (B v + 2) t)) :
    RA (fx_sfi (fx_sfi (fx_sar (fx_srow s nx fi la sz) (B v + 4) (p % 8) (some a)) ff_Packet_slot a y1) ff_Sender_slotsUsed (B v + 1) y2) x B H C Y (fn_up P p a) m (fn_up rt (B v + 2) t) K L (om_unwt M v p) := by
  have h64 := h.sk.c.m64
  have hA64 := hJ.all64
  have hvm : v < m := Nat.lt_of_lt_of_le hv h.nm
  have hin := h.sk.c.in_
  have hw := h.w v hvm
  rw [ht] at hw
  have hwN : 0 < rn M ff_Mod_waits v := by rw [← hw.1]; simp
  have hw5 := hJ.ri.wNl (v := v) (by omega)
  have ra := hw.2 0 a rfl
  obtain ⟨w1, w2, w3⟩ := hJ.j13 v 0 hv hwN
  rw [Nat.add_zero] at w1 w2 w3
  have wL9 : rn M ff_Mod_waitLength (4 * v) < 9 := hJ.ri.l ff_Mod_waitLength (4 * v) 9 (n := 256) rfl (by omega) rfl (by omega)
  obtain ⟨i1, i2, i3, i4, i5⟩ := hJ.idle hl0
  have ha_in : a ∈ rt (B v + 2) := by rw [ht]; simp
  have Ka : K a := h.o.kw v a hvm ha_in
  have live : ∀ q, 0 < rn M ff_Mod_lengths q → q ≠ p := fun q hq e => by rw [e] at hq; omega
  have Pl : ∀ q, 0 < rn M ff_Mod_lengths q → fn_up P p a q = P q := fun q hq => fn_ne (live q hq)
  have Pa : ∀ q, q < 512 → 0 < rn M ff_Mod_lengths q → P q ≠ a := fun q hq hq0 e => h.w.nP h.p hq hq0 hvm (by rw [e]; exact ha_in)
  have e3 : ∀ u, u < m → fn_up rt (B v + 2) t (B u + 3) = rt (B u + 3) := fun u hu => fn_ne (fun q => by have := h.sk.ap hu hvm (by omega) (by omega) q; omega)
  have e6 : ∀ u, u < m → fn_up rt (B v + 2) t (B u + 6) = rt (B u + 6) := fun u hu => fn_ne (fun q => by have := h.sk.ap hu hvm (by omega) (by omega) q; omega)
  have em : fn_up rt (B v + 2) t (x + 13) = rt (x + 13) := fn_ne (by have := hin _ hvm; omega)
  have es : fn_up rt (B v + 2) t (x + 14) = rt (x + 14) := fn_ne (by have := hin _ hvm; omega)
  have e2 : ∀ u, u < m → u ≠ v → fn_up rt (B v + 2) t (B u + 2) = rt (B u + 2) := fun u hu hne => fn_ne (fun q => hne (h.sk.ap hu hvm (by omega) (by omega) q).1)
  have e2v : fn_up rt (B v + 2) t (B v + 2) = t := fn_same
  have hnd := h.r.nd _ (ISR.w (x := x) (B := B) hvm)
  rw [ht] at hnd
  have hnd' := List.nodup_cons.mp hnd
  have aw : ∀ u b, u < m → b ∈ fn_up rt (B v + 2) t (B u + 2) → b ≠ a := by
    intro u b hu hb e
    by_cases c : u = v
    · rw [c, e2v] at hb; exact hnd'.1 (e ▸ hb)
    · rw [e2 u hu c] at hb
      have := h.r.dj _ _ a (ISR.w hu) (ISR.w hvm) (e ▸ hb) ha_in
      exact c (h.sk.ap hu hvm (by omega) (by omega) this).1
  have zK : ∀ c, K c → B v + 4 ≠ c + 1 := fun c hc => by
    have := (h.k.in_ c hc).2.2 v hvm
    omega
  -- the numbers
  have eL := fun q => unwt_L (M := M) (v := v) (p := p) (q := q) wL9
  have eE := fun q => unwt_E (M := M) (v := v) (p := p) (q := q)
  have eN := fun u => unwt_N (M := M) (v := v) (p := p) (u := u) hw5
  have rw_ := fun q => unwt_raw (M := M) (v := v) (p := p) (q := q)
  have sG : ∀ u i, u < 64 → i < (if u = v then rn M ff_Mod_waits v - 1 else rn M ff_Mod_waits u) → om_unwt M v p ff_Mod_waitGoal (4 * u + i) = (if u = v then M ff_Mod_waitGoal (4 * v + (i + 1)) else M ff_Mod_waitGoal (4 * u + i)) := fun u i hu hi => unwt_wG hi hw5 (hJ.ri.wNl hu)
  have sL : ∀ u i, u < 64 → i < (if u = v then rn M ff_Mod_waits v - 1 else rn M ff_Mod_waits u) → om_unwt M v p ff_Mod_waitLength (4 * u + i) = (if u = v then M ff_Mod_waitLength (4 * v + (i + 1)) else M ff_Mod_waitLength (4 * u + i)) := fun u i hu hi => unwt_wL hi hw5 (hJ.ri.wNl hu)
  have sT : ∀ u i, u < 64 → i < (if u = v then rn M ff_Mod_waits v - 1 else rn M ff_Mod_waits u) → om_unwt M v p ff_Mod_waitTag (4 * u + i) = (if u = v then M ff_Mod_waitTag (4 * v + (i + 1)) else M ff_Mod_waitTag (4 * u + i)) := fun u i hu hi => unwt_wT hi hw5 (hJ.ri.wNl hu)
  have su : ∀ u, suse (om_unwt M v p) u = suse M u + (if u = v then 1 else 0) := by
    intro u
    have a1 : suse (om_unwt M v p) u = suse (fx_up M ff_Mod_lengths p (nI (rn M ff_Mod_waitLength (4 * v)))) u := by
      unfold suse
      exact sp_cnt_congr _ (fun k _ => by rw [eL, gL_up (by omega)])
    have a2 := suse_up (M := M) (p := p) (u := u) (y := rn M ff_Mod_waitLength (4 * v)) (by omega) hp
    rw [if_neg (by omega)] at a2
    rw [a1]
    by_cases c : u = v
    · rw [if_pos ⟨by omega, by omega⟩] at a2
      rw [if_pos c]; omega
    · rw [if_neg (by omega)] at a2
      rw [if_neg c]; omega
  have sw : ∀ q, suw (om_unwt M v p) q = suw M q := by
    intro q
    unfold suw
    rw [eL, eE]
    by_cases c : q = p
    · rw [if_pos c, if_pos c, c, hl0]; simp
    · rw [if_neg c, if_neg c]
  have sum : spks (om_unwt M v p) ((rn M ff_Mod_all 0)) = spks M ((rn M ff_Mod_all 0)) := by
    unfold spks
    refine sp_sum_eq _ (fun u hu => ?_)
    rw [eN, su]
    by_cases c : u = v
    · rw [if_pos c, if_pos c, c]; omega
    · rw [if_neg c, if_neg c]; omega
  have eM : om_unwt M v p = om_mwt M (om_unwt M v p) := mwt_eq (fun g i hg => by
    have key : ∀ f, 787 ≤ f → f < 797 → g ≠ f := by omega
    exact unwt_v (key _ (by decide) (by decide)) (key _ (by decide) (by decide)) (key _ (by decide) (by decide)) (key _ (by decide) (by decide)) (key _ (by decide) (by decide)) (key _ (by decide) (by decide)) (key _ (by decide) (by decide)) (key _ (by decide) (by decide)) (key _ (by decide) (by decide)) (key _ (by decide) (by decide)))
  obtain ⟨N, hN⟩ : ∃ N, om_unwt M v p = om_mwt M N := ⟨_, eM⟩
  clear eM
  simp only [hN] at eL eE eN rw_ sG sL sT su sw
  rw [hN] at sum ⊢
  have oA : (rn (om_mwt M N) ff_Mod_all 0) = (rn M ff_Mod_all 0) := rn_eq (mwt_o (by decide))
  have eL' : ∀ q, 0 < rn (om_mwt M N) ff_Mod_lengths q → q ≠ p → 0 < rn M ff_Mod_lengths q := fun q hq c => by rw [eL, if_neg c] at hq; exact hq
  refine ⟨?_, ⟨h.t.mode, h.t.pat, h.t.now, h.t.turn, h.t.fin, h.t.dfl, h.t.rec, h.t.ask, ?_⟩, h.g, ⟨fun u hu => ?_, h.s.hun, fun u hu => ?_, fun u k hu hk => ?_, h.s.went⟩, fun q hq hq0 => ?_, fun u hu => ?_, hR, ⟨fun u hu huA => ?_, fun u hu huA => ?_, fun u hu huA => ?_⟩, ⟨?_, fun k hk => ?_, fun k hk => ?_⟩, ⟨fun q hq hq0 => ?_, fun q hq hq0 => ?_, fun u b hu hb => ?_, fun b hb => ?_⟩, ?_, ?_, fun u hu => ?_, ?_⟩
  · exact h.sk.sar (by have := hin _ hvm; omega) (fun u hu q => by have := h.sk.ap hvm hu (by omega) (by omega) q; omega)
  · rw [oA, sum]; exact h.t.pks
  · by_cases c : u = v
    · rw [c, fi_same, su, if_pos rfl, hy2]
    · rw [fi_ne (fun q => c (h.sk.ap hu hvm (by omega) (by omega) q.2).1), su, if_neg c, Nat.add_zero]
      exact h.s.used u hu
  · show fx_fr s ff_Sender_underWay (B u + 1) = _
    rw [h.s.uw u hu, sp_first_congr (P := suw M) (R := suw (om_mwt M N)) 8 (8 * u) (fun k _ _ => (sw k).symm)]
    cases hs : sp_first (suw (om_mwt M N)) (8 * u) 8 with
    | none => rfl
    | some q =>
      obtain ⟨-, -, q3, -⟩ := sp_first_some.mp hs
      rw [sw] at q3
      simp only [suw, Bool.and_eq_true, decide_eq_true_eq] at q3
      show some (P q) = some (fn_up P p a q)
      rw [Pl q q3.1.1]
  · show fx_ar (fx_sar s (B v + 4) (p % 8) (some a)) (B u + 4) k = _
    rw [eL]
    by_cases c : u = v ∧ k = p % 8
    · have e8 : 8 * u + k = p := by omega
      rw [c.1, c.2, ar_same]
      rw [c.1, c.2] at e8
      rw [e8, if_pos rfl, if_pos (by omega), fn_same]
    · have ne : ¬ 8 * u + k = p := by omega
      rw [ar_ne (fun q => c ⟨(h.sk.ap hu hvm (by omega) (by omega) q.1).1, q.2⟩), if_neg ne, fn_ne ne]
      exact h.s.sl u k hu hk
  · obtain ⟨g1, g2, g3, g4, g5, g6⟩ := rw_ q
    by_cases c : q = p
    · subst c
      rw [if_pos rfl] at g1 g2 g3 g4 g5 g6
      obtain ⟨r1, r2, r3, r4, r5, r6, r7, r8, r9⟩ := ra
      rw [Nat.add_zero] at r3 r4 r5
      rw [fn_same]
      refine ⟨?_, ?_, ?_, ?_, ?_, ?_, ?_, ?_, ?_⟩
      · show fx_fi s ff_Packet_source a = _
        rw [r1, hpv]
      · show fx_fi (fx_sfi (fx_srow s nx fi la sz) ff_Packet_slot a y1) ff_Packet_slot a = _
        rw [fi_same, hy1]
      · show fx_fi s ff_Packet_goal a = _
        rw [g1, r3]; exact hJ.ri.e ff_Mod_waitGoal (4 * v) (n := 256) rfl (by omega) (by decide)
      · show fx_fi s ff_Packet_length a = _
        rw [g2, r4]; exact hJ.ri.e ff_Mod_waitLength (4 * v) (n := 256) rfl (by omega) (by decide)
      · show fx_fi s ff_Packet_tag a = _
        rw [g3, r5]
      · show fx_fi s ff_Packet_attempt a = _
        rw [g4, r6]
      · show fx_fi s ff_Packet_entered a = _
        rw [g5, r7]
      · show fx_fi s ff_Packet_wasAsked a = _
        rw [g6, r8]
      · show fx_fi s ff_Packet_flitsInNet a = _
        have z : sp_cnt (fun f => spk (om_mwt M N) f == q) ((rn (om_mwt M N) ff_Mod_flits 0)) = 0 := by
          rw [rn_eq (M := M) (M' := om_mwt M N) (mwt_o (by decide)), sp_cnt_zero]
          intro f hf
          have e : spk (om_mwt M N) f = spk M f := by unfold spk; rw [rn_eq (mwt_o (by decide)), rn_eq (mwt_o (by decide))]
          rw [e]
          simpa using i1 f hf
        rw [z]; exact r9
    · have hq1 := eL' q hq0 c
      rw [if_neg c] at g1 g2 g3 g4 g5 g6
      obtain ⟨r1, r2, r3, r4, r5, r6, r7, r8, r9⟩ := h.p q hq hq1
      rw [fn_ne c]
      refine ⟨r1, ?_, by rw [g1]; exact r3, by rw [g2]; exact r4, by rw [g3]; exact r5, by rw [g4]; exact r6, by rw [g5]; exact r7, by rw [g6]; exact r8, ?_⟩
      · show fx_fi (fx_sfi (fx_srow s nx fi la sz) ff_Packet_slot a y1) ff_Packet_slot (P q) = _
        rw [fi_ne (fun w => Pa q hq hq1 w.2)]; exact r2
      · show fx_fi s ff_Packet_flitsInNet (P q) = _
        have z : sp_cnt (fun f => spk (om_mwt M N) f == q) ((rn (om_mwt M N) ff_Mod_flits 0)) = sp_cnt (fun f => spk M f == q) ((rn M ff_Mod_flits 0)) := by
          rw [rn_eq (M := M) (M' := om_mwt M N) (mwt_o (by decide))]
          refine sp_cnt_congr _ (fun f _ => ?_)
          have e : spk (om_mwt M N) f = spk M f := by unfold spk; rw [rn_eq (mwt_o (by decide)), rn_eq (mwt_o (by decide))]
          rw [e]
        rw [z]; exact r9
  · have hu64 : u < 64 := by omega
    refine ⟨?_, fun i b hb => ?_⟩
    · rw [eN]
      by_cases c : u = v
      · rw [c, e2v, if_pos rfl, ← hw.1]; simp
      · rw [e2 u hu c, if_neg c]; exact (h.w u hu).1
    · have hba := aw u b hu (List.mem_of_getElem? hb)
      by_cases c : u = v
      · subst c
        rw [e2v] at hb
        have hi : i < rn M ff_Mod_waits u - 1 := by
          have := (List.getElem?_eq_some_iff.mp hb).1
          rw [← hw.1]
          simp
          exact this
        obtain ⟨r1, r2, r3, r4, r5, r6, r7, r8, r9⟩ := hw.2 (i + 1) b hb
        refine ⟨r1, ?_, ?_, ?_, ?_, r6, r7, r8, r9⟩
        · show fx_fi (fx_sfi (fx_srow s nx fi la sz) ff_Packet_slot a y1) ff_Packet_slot b = _
          rw [fi_ne (fun w => hba w.2)]; exact r2
        · rw [sG u i hu64 (by rw [if_pos rfl]; exact hi), if_pos rfl]; exact r3
        · rw [sL u i hu64 (by rw [if_pos rfl]; exact hi), if_pos rfl]; exact r4
        · rw [sT u i hu64 (by rw [if_pos rfl]; exact hi), if_pos rfl]; exact r5
      · rw [e2 u hu c] at hb
        have hi : i < rn M ff_Mod_waits u := by
          have := (List.getElem?_eq_some_iff.mp hb).1
          rw [← (h.w u hu).1]
          exact this
        obtain ⟨r1, r2, r3, r4, r5, r6, r7, r8, r9⟩ := (h.w u hu).2 i b hb
        refine ⟨r1, ?_, ?_, ?_, ?_, r6, r7, r8, r9⟩
        · show fx_fi (fx_sfi (fx_srow s nx fi la sz) ff_Packet_slot a y1) ff_Packet_slot b = _
          rw [fi_ne (fun w => hba w.2)]; exact r2
        · rw [sG u i hu64 (by rw [if_neg c]; exact hi), if_neg c]; exact r3
        · rw [sL u i hu64 (by rw [if_neg c]; exact hi), if_neg c]; exact r4
        · rw [sT u i hu64 (by rw [if_neg c]; exact hi), if_neg c]; exact r5
  · rw [oA] at huA
    rw [e3 u hu, h.x.ag u hu huA, rn_eq (M := M) (M' := om_mwt M N) (mwt_o (by decide))]
    refine List.map_congr_left (fun i hi => ?_)
    rw [rn_eq (M := M) (M' := om_mwt M N) (mwt_o (by decide)), fn_ne (i5 u i huA (List.mem_range.mp hi))]
  · rw [oA] at huA
    rw [e6 u hu, h.x.ak u hu huA, rn_eq (M := M) (M' := om_mwt M N) (mwt_o (by decide))]
    refine List.map_congr_left (fun i hi => ?_)
    rw [rn_eq (M := M) (M' := om_mwt M N) (mwt_o (by decide)), fn_ne (i3 u i huA (List.mem_range.mp hi))]
  · rw [oA] at huA
    rw [e3 u hu, e6 u hu]
    exact h.x.z u hu huA
  · rw [em, h.m.row]
    refine List.map_congr_left (fun k hk => ?_)
    rw [rn_eq (M := M) (M' := om_mwt M N) (mwt_o (by decide)), fn_ne (i4 k (hL k hk))]
  · rw [rn_eq (M := M) (M' := om_mwt M N) (mwt_o (by decide)), fn_ne (i4 k (hL k hk)), mwt_o (by decide)]
    exact h.m.dn k hk
  · rw [rn_eq (M := M) (M' := om_mwt M N) (mwt_o (by decide)), fn_ne (i4 k (hL k hk)), mwt_o (by decide)]
    exact h.m.du k hk
  · rw [es]
    by_cases c : q = p
    · rw [c, fn_same]
      intro z
      have := h.r.dj _ _ a ISR.sp (ISR.w hvm) z ha_in
      have := hin _ hvm
      omega
    · rw [fn_ne c]; exact h.o.sp q hq (eL' q hq0 c)
  · by_cases c : q = p
    · rw [c, fn_same]; exact Ka
    · rw [fn_ne c]; exact h.o.kp q hq (eL' q hq0 c)
  · by_cases c : u = v
    · rw [c, e2v] at hb
      exact h.o.kw v b hvm (by rw [ht]; exact List.mem_cons_of_mem _ hb)
    · rw [e2 u hu c] at hb; exact h.o.kw u b hu hb
  · rw [es] at hb; exact h.o.ks b hb
  · have hk := h.k.sar (i := p % 8) (o := some a) zK h.o.kp h.o.kw
    refine ⟨hk.in_, hk.fl, hk.ln, hk.ft, fun q b hq hb => ?_, fun u i c b hu hi hb => ?_, hk.sep⟩
    · rw [eL] at hb
      by_cases c : q = p
      · rw [if_pos c] at hb
        rw [c, fn_same]
        exact hk.fw v 0 a b hvm (by rw [ht]; rfl) hb
      · rw [if_neg c] at hb
        rw [fn_ne c]
        exact hk.fp q b hq hb
    · have hu64 : u < 64 := by omega
      by_cases d : u = v
      · subst d
        rw [e2v] at hi
        have hi' : i < rn M ff_Mod_waits u - 1 := by
          have := (List.getElem?_eq_some_iff.mp hi).1
          rw [← hw.1]
          simp
          exact this
        have hb' : b < rn M ff_Mod_waitLength (4 * u + (i + 1)) := by
          have e : rn (om_mwt M N) ff_Mod_waitLength (4 * u + i) = rn M ff_Mod_waitLength (4 * u + (i + 1)) := by
            unfold rn
            rw [sL u i hu64 (by rw [if_pos rfl]; exact hi'), if_pos rfl]
          rw [e] at hb; exact hb
        exact hk.fw u (i + 1) c b hu (by rw [ht]; exact hi) hb'
      · rw [e2 u hu d] at hi
        have hi' : i < rn M ff_Mod_waits u := by
          have := (List.getElem?_eq_some_iff.mp hi).1
          rw [← (h.w u hu).1]
          exact this
        have hb' : b < rn M ff_Mod_waitLength (4 * u + i) := by
          have e : rn (om_mwt M N) ff_Mod_waitLength (4 * u + i) = rn M ff_Mod_waitLength (4 * u + i) := by
            unfold rn
            rw [sL u i hu64 (by rw [if_neg d]; exact hi'), if_neg d]
          rw [e] at hb; exact hb
        exact hk.fw u i c b hu hi hb'
  · have hf := h.f.sar (i := p % 8) (o := some a) (z := B v + 4) (fun u hu q => by have := h.f.h1 u hu; have := h.sk.ap hvm hu (by omega) (by omega) q; omega) (fun f hf q => zK _ (h.o.kp _ (hJ.j2 f hf).2.2.1 (hJ.j2 f hf).1) q) (fun u hu q => by have := h.f.h1 u hu; have := h.sk.ap hvm hu (by omega) (by omega) q; omega)
    have oF : (rn (om_mwt M N) ff_Mod_flits 0) = (rn M ff_Mod_flits 0) := rn_eq (mwt_o (by decide))
    have oS : ∀ f, spk (om_mwt M N) f = spk M f := fun f => by unfold spk; rw [rn_eq (mwt_o (by decide)), rn_eq (mwt_o (by decide))]
    have oB : ∀ f, rn (om_mwt M N) ff_Mod_number f = rn M ff_Mod_number f := fun f => rn_eq (mwt_o (by decide))
    have oP : ∀ f, f < (rn M ff_Mod_flits 0) → fn_up P p a (spk M f) = P (spk M f) := fun f hf => fn_ne (i1 f hf)
    have oSol : ∀ u l, sol (om_mwt M N) u l = sol M u l := fun u l => by
      unfold sol
      rw [oF]
      exact sp_first_congr _ _ (fun f _ _ => by rw [rn_eq (M := M) (M' := om_mwt M N) (mwt_o (by decide)), rn_eq (M := M) (M' := om_mwt M N) (mwt_o (by decide))])
    refine ⟨hf.h1, hf.here, hf.com, fun u l hu hl => ?_, fun f F hf1 hF => ?_, fun f F hf1 hF => ?_, hf.cm⟩
    · have e := hf.fl u l hu hl
      show fx_ar (fx_sar s (B v + 4) (p % 8) (some a)) (B u + H u) l = (sol (om_mwt M N) u l).bind (fun f => fx_ar (fx_sar s (B v + 4) (p % 8) (some a)) (fn_up P p a (spk (om_mwt M N) f) + 1) (rn (om_mwt M N) ff_Mod_number f))
      rw [oSol, e]
      cases hs : sol M u l with
      | none => rw [ob_none, ob_none]
      | some f => rw [ob_some, ob_some, oS, oB, oP f (sol_some hs).1]
    · rw [oF] at hf1
      rw [oS, oB, oP f hf1] at hF
      rw [mwt_o (by decide)]
      exact hf.ent f F hf1 hF
    · rw [oF] at hf1
      rw [oS, oB, oP f hf1] at hF
      rw [mwt_o (by decide)]
      exact hf.att f F hf1 hF
  · have rv := (h.v.sar (i := p % 8) (o := some a) (z := B v + 4) (fun u hu q => by have := h.sk.ap hvm hu (by omega) (by omega) q; omega)) u hu
    obtain ⟨c1, c2, c3⟩ := rv
    refine ⟨c1, fun i hi => ?_, c3⟩
    have e := c2 i hi
    show fx_fr s ff_Place_packet (B u + 10 + i) = (oz ((om_mwt M N) ff_Mod_whose (4 * u + i))).map (fn_up P p a)
    rw [mwt_o (by decide)]
    have e' : fx_fr s ff_Place_packet (B u + 10 + i) = (oz (M ff_Mod_whose (4 * u + i))).map P := e
    rw [e']
    cases hw2 : oz (M ff_Mod_whose (4 * u + i)) with
    | none => rfl
    | some q =>
      show some (P q) = some (fn_up P p a q)
      rw [fn_ne (fun w => i2 (4 * u + i) (by omega) (by rw [← w]; exact hw2))]
  · rw [oA]; exact h.nm
end
