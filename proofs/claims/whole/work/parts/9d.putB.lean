/-! THE CLASS: put -/
def om_mpw (M N : rf_M) : rf_M := fun g i => if Nat.ble 787 g && Nat.blt g 791 then N g i else M g i
theorem mpw_y {M N : rf_M} {g i : Nat} (h : (Nat.ble 787 g && Nat.blt g 791) = true) : om_mpw M N g i = N g i := by
  unfold om_mpw
  exact if_pos h
theorem mpw_o {M N : rf_M} {g i : Nat} (h : (Nat.ble 787 g && Nat.blt g 791) = false) : om_mpw M N g i = M g i := by
  unfold om_mpw
  rw [h]
  rfl
theorem mpw_eq {M N : rf_M} (h : ∀ g i, ¬ (787 ≤ g ∧ g < 791) → N g i = M g i) : N = om_mpw M N := by
  funext g i
  unfold om_mpw
  by_cases c : (Nat.ble 787 g && Nat.blt g 791) = true
  · rw [if_pos c]
  · rw [if_neg c]
    simp only [Bool.and_eq_true, Nat.ble_eq, Nat.blt_eq] at c
    exact h g i (by omega)
section
variable {s t : fx_S} {Q : fx_Q} {x m a : Nat} {B H P : Nat → Nat} {C : Nat → Nat → Option Nat} {Y : Nat → Nat → Nat} {rt : Nat → List Nat} {K : Nat → Prop} {L : List Nat} {M N M6 : rf_M} {lv : Nat → Prop}
theorem RA.spop {l : List Nat} {nx fi la : Nat → Option Nat} {sz : Nat → Int32} (h : RA s x B H C Y P m rt K L M) (ht : rt (x + 14) = a :: l) (hR : RR (fx_srow s nx fi la sz) x B m (fn_up rt (x + 14) l)) (hq : ∀ q, ISR x B m q → a ∉ fn_up rt (x + 14) l q) : RA (fx_srow s nx fi la sz) x B H C Y P m (fn_up rt (x + 14) l) K L M ∧ NU x B P m (fn_up rt (x + 14) l) K M a := by
  have hin := h.sk.c.in_
  have e2 : ∀ v, v < m → fn_up rt (x + 14) l (B v + 2) = rt (B v + 2) := fun v hv => fn_ne (by have := hin v hv; omega)
  have e3 : ∀ v, v < m → fn_up rt (x + 14) l (B v + 3) = rt (B v + 3) := fun v hv => fn_ne (by have := hin v hv; omega)
  have e6 : ∀ v, v < m → fn_up rt (x + 14) l (B v + 6) = rt (B v + 6) := fun v hv => fn_ne (by have := hin v hv; omega)
  have em : fn_up rt (x + 14) l (x + 13) = rt (x + 13) := fn_ne (by omega)
  refine ⟨⟨h.sk, h.t, h.g, h.s, h.p, h.w.rts e2, hR, h.x.rts e3 e6, ⟨by rw [em]; exact h.m.row, h.m.dn, h.m.du⟩, ⟨fun p hp lp => ?_, h.o.kp, fun v a hv ha => h.o.kw v a hv (by rw [e2 v hv] at ha; exact ha), fun a ha => h.o.ks a ?_⟩, h.k.rts e2, h.f, h.v, h.nm⟩, h.o.ks a (by rw [ht]; simp), hq, fun p hp lp q => h.o.sp p hp lp (by rw [q, ht]; simp)⟩
  · rw [fn_same]
    exact fun q => h.o.sp p hp lp (by rw [ht]; exact List.mem_cons_of_mem _ q)
  · rw [fn_same] at ha
    rw [ht]; exact List.mem_cons_of_mem _ ha
/-- one more is known -/
theorem RA.addK (h : RA s x B H C Y P m rt K L M) (i1 : x + 15 ≤ a) (i2 : a + 1 < fx_nx s) (i3 : ∀ v, v < m → a + 1 < B v ∨ B v + 20 ≤ a) (h1 : fx_fr s ff_Packet_flits a = some (a + 1)) (h2 : fx_ln s (a + 1) = 8) (h3 : ∀ b, b < 8 → fx_ar s (a + 1) b = none) (h4 : ∀ c, K c → a ≠ c + 1 ∧ c ≠ a + 1) : RA s x B H C Y P m rt (fun c => K c ∨ c = a) L M := by
  refine ⟨h.sk, h.t, h.g, h.s, h.p, h.w, h.r, h.x, h.m, ⟨h.o.sp, fun p hp lp => Or.inl (h.o.kp p hp lp), fun v c hv hc => Or.inl (h.o.kw v c hv hc), fun c hc => Or.inl (h.o.ks c hc)⟩, ⟨fun c hc => ?_, fun c hc => ?_, fun c hc => ?_, fun c b F hc hb hF => ?_, h.k.fp, h.k.fw, fun c d hc hd => ?_⟩, h.f, h.v, h.nm⟩
  · rcases hc with q | q
    · exact h.k.in_ c q
    · subst q; exact ⟨i1, i2, i3⟩
  · rcases hc with q | q
    · exact h.k.fl c q
    · subst q; exact h1
  · rcases hc with q | q
    · exact h.k.ln c q
    · subst q; exact h2
  · rcases hc with q | q
    · exact h.k.ft c b F q hb hF
    · subst q; rw [h3 b hb] at hF; cases hF
  · rcases hc with q | q
    · rcases hd with r | r
      · exact h.k.sep c d q r
      · subst r; exact (h4 c q).2
    · rcases hd with r | r
      · subst q; exact (h4 d r).1
      · omega
/-- one more waits -/
theorem RA.wapp {v : Nat} {g l t y : Int32} {nx fi la : Nat → Option Nat} {sz : Nat → Int32} (h : RA s x B H C Y P m rt K L M) (hI : RI M) (hv : v < (rn M ff_Mod_all 0)) (h64 : (rn M ff_Mod_all 0) ≤ 64) (hw : rn M ff_Mod_waits v < 4) (Ka : K a) (f1 : fx_fi s ff_Packet_source a = nI v) (f2 : fx_fi s ff_Packet_slot a = fx_neg) (f3 : fx_fi s ff_Packet_goal a = g) (f4 : fx_fi s ff_Packet_length a = l) (f5 : fx_fi s ff_Packet_tag a = t) (f6 : fx_fi s ff_Packet_attempt a = nI 1) (f7 : fx_fi s ff_Packet_entered a = nI 0) (f8 : fx_fi s ff_Packet_wasAsked a = fx_bit false) (f9 : fx_fi s ff_Packet_flitsInNet a = nI 0) (hfl : ∀ b, b < l.toNatClampNeg → fx_ar s (a + 1) b ≠ none) (hy : y = nI (spks M ((rn M ff_Mod_all 0)) + 1)) (hR : RR (fx_srow s nx fi la sz) x B m (fn_up rt (B v + 2) (rt (B v + 2) ++ [a]))) :
    RA (fx_sfi (fx_srow s nx fi la sz) ff_Torus_packets x y) x B H C Y P m (fn_up rt (B v + 2) (rt (B v + 2) ++ [a])) K L (om_put M v g l t) := by
  have hvm : v < m := Nat.lt_of_lt_of_le hv h.nm
  have hin := h.sk.c.in_
  have hm64 := h.sk.c.m64
  have e3 : ∀ u, u < m → fn_up rt (B v + 2) (rt (B v + 2) ++ [a]) (B u + 3) = rt (B u + 3) := fun u hu => fn_ne (fun q => by have := h.sk.ap hu hvm (by omega) (by omega) q; omega)
  have e6 : ∀ u, u < m → fn_up rt (B v + 2) (rt (B v + 2) ++ [a]) (B u + 6) = rt (B u + 6) := fun u hu => fn_ne (fun q => by have := h.sk.ap hu hvm (by omega) (by omega) q; omega)
  have em : fn_up rt (B v + 2) (rt (B v + 2) ++ [a]) (x + 13) = rt (x + 13) := fn_ne (by have := hin _ hvm; omega)
  have es : fn_up rt (B v + 2) (rt (B v + 2) ++ [a]) (x + 14) = rt (x + 14) := fn_ne (by have := hin _ hvm; omega)
  have e2 : ∀ u, u < m → u ≠ v → fn_up rt (B v + 2) (rt (B v + 2) ++ [a]) (B u + 2) = rt (B u + 2) := fun u hu hne => fn_ne (fun q => hne (h.sk.ap hu hvm (by omega) (by omega) q).1)
  have e2v : fn_up rt (B v + 2) (rt (B v + 2) ++ [a]) (B v + 2) = rt (B v + 2) ++ [a] := fn_same
  -- the numbers
  have nW : ∀ u, rn (om_put M v g l t) ff_Mod_waits u = if u = v then rn M ff_Mod_waits v + 1 else rn M ff_Mod_waits u := by
    intro u
    unfold om_put
    by_cases c : u = v
    · rw [if_pos c, c, rn_same (by omega)]
    · rw [if_neg c, rn_ne (fun q => c q.2), rn_pe (by decide), rn_pe (by decide), rn_pe (by decide)]
  have nG : ∀ i, om_put M v g l t ff_Mod_waitGoal i = if i = 4 * v + rn M ff_Mod_waits v then g else M ff_Mod_waitGoal i := by
    intro i
    unfold om_put
    rw [fx_up_ne (fun q => absurd q.1 (by decide)), fx_up_ne (fun q => absurd q.1 (by decide)), fx_up_ne (fun q => absurd q.1 (by decide))]
    by_cases c : i = 4 * v + rn M ff_Mod_waits v
    · rw [if_pos c, c, fx_up_same]
    · rw [if_neg c, fx_up_ne (fun q => c q.2)]
  have nL : ∀ i, om_put M v g l t ff_Mod_waitLength i = if i = 4 * v + rn M ff_Mod_waits v then l else M ff_Mod_waitLength i := by
    intro i
    unfold om_put
    rw [fx_up_ne (fun q => absurd q.1 (by decide)), fx_up_ne (fun q => absurd q.1 (by decide))]
    by_cases c : i = 4 * v + rn M ff_Mod_waits v
    · rw [if_pos c, c, fx_up_same]
    · rw [if_neg c, fx_up_ne (fun q => c q.2), fx_up_ne (fun q => absurd q.1 (by decide))]
  have nT : ∀ i, om_put M v g l t ff_Mod_waitTag i = if i = 4 * v + rn M ff_Mod_waits v then t else M ff_Mod_waitTag i := by
    intro i
    unfold om_put
    rw [fx_up_ne (fun q => absurd q.1 (by decide))]
    by_cases c : i = 4 * v + rn M ff_Mod_waits v
    · rw [if_pos c, c, fx_up_same]
    · rw [if_neg c, fx_up_ne (fun q => c q.2), fx_up_ne (fun q => absurd q.1 (by decide)), fx_up_ne (fun q => absurd q.1 (by decide))]
  have eM : om_put M v g l t = om_mpw M (om_put M v g l t) := mpw_eq (fun g i hg => by
    have key : ∀ f, 787 ≤ f → f < 791 → g ≠ f := by omega
    unfold om_put
    rw [fx_up_ne (fun q => key _ (by decide) (by decide) q.1), fx_up_ne (fun q => key _ (by decide) (by decide) q.1), fx_up_ne (fun q => key _ (by decide) (by decide) q.1), fx_up_ne (fun q => key _ (by decide) (by decide) q.1)])
  have sum : spks (om_put M v g l t) ((rn M ff_Mod_all 0)) = spks M ((rn M ff_Mod_all 0)) + 1 := by
    unfold spks
    have su : ∀ u, suse (om_put M v g l t) u = suse M u := fun u => by
      unfold suse
      refine sp_cnt_congr _ (fun k _ => ?_)
      rw [eM, rn_eq (M := M) (mpw_o (by decide))]
    have := sp_sum_one (d := fun u => rn M ff_Mod_waits u + suse M u) (e := fun u => rn (om_put M v g l t) ff_Mod_waits u + suse (om_put M v g l t) u) (c := v) ((rn M ff_Mod_all 0)) hv (fun u hu hne => by rw [nW, if_neg hne, su])
    simp only [nW, su, if_true] at this ⊢
    omega
  obtain ⟨N, hN⟩ : ∃ N, om_put M v g l t = om_mpw M N := ⟨_, eM⟩
  clear eM
  simp only [hN] at nW nG nL nT
  rw [hN] at sum ⊢
  have oA : (rn (om_mpw M N) ff_Mod_all 0) = (rn M ff_Mod_all 0) := rn_eq (mpw_o (by decide))
  have ix : ∀ u i, u < m → i < rn M ff_Mod_waits u → i < 5 := fun u i hu hi => by have := hI.wNl (v := u) (by omega); omega
  have ne4 : ∀ u i, u < m → i < rn M ff_Mod_waits u → 4 * u + i ≠ 4 * v + rn M ff_Mod_waits v := fun u i hu hi q => by
    have := hI.wNl (v := u) (by omega)
    have e : u = v := by omega
    subst e
    omega
  refine ⟨h.sk, ⟨h.t.mode, h.t.pat, h.t.now, h.t.turn, h.t.fin, h.t.dfl, h.t.rec, h.t.ask, ?_⟩, h.g, h.s, h.p, fun u hu => ?_, hR, ⟨fun u hu huA => ?_, fun u hu huA => ?_, fun u hu huA => ?_⟩, ⟨by rw [em]; exact h.m.row, h.m.dn, h.m.du⟩, ⟨fun q hq hq0 => by rw [es]; exact h.o.sp q hq hq0, h.o.kp, fun u b hu hb => ?_, fun b hb => h.o.ks b (by rw [es] at hb; exact hb)⟩, ⟨h.k.in_, h.k.fl, h.k.ln, h.k.ft, h.k.fp, fun u i b c hu hi hb => ?_, h.k.sep⟩, h.f, h.v, h.nm⟩
  · rw [fi_same, oA, sum, hy]
  · by_cases c : u = v
    · subst c
      rw [e2v, nW, if_pos rfl]
      refine ⟨by rw [List.length_append, (h.w u hu).1]; rfl, fun i b hi => ?_⟩
      have hlen := (h.w u hu).1
      by_cases d : i < rn M ff_Mod_waits u
      · rw [List.getElem?_append_left (by omega)] at hi
        obtain ⟨r1, r2, r3, r4, r5, r6, r7, r8, r9⟩ := (h.w u hu).2 i b hi
        have n4 := ne4 u i hu d
        exact ⟨r1, r2, by rw [nG, if_neg n4]; exact r3, by rw [nL, if_neg n4]; exact r4, by rw [nT, if_neg n4]; exact r5, r6, r7, r8, r9⟩
      · rw [List.getElem?_append_right (by omega)] at hi
        have ei : i = rn M ff_Mod_waits u := by
          have := (List.getElem?_eq_some_iff.mp hi).1
          simp at this
          omega
        rw [ei, hlen, Nat.sub_self] at hi
        have eb : b = a := by simpa using hi.symm
        subst eb; subst ei
        exact ⟨f1, f2, by rw [nG, if_pos rfl]; exact f3, by rw [nL, if_pos rfl]; exact f4, by rw [nT, if_pos rfl]; exact f5, f6, f7, f8, f9⟩
    · rw [e2 u hu c, nW, if_neg c]
      refine ⟨(h.w u hu).1, fun i b hi => ?_⟩
      obtain ⟨r1, r2, r3, r4, r5, r6, r7, r8, r9⟩ := (h.w u hu).2 i b hi
      have hi' : i < rn M ff_Mod_waits u := by rw [← (h.w u hu).1]; exact (List.getElem?_eq_some_iff.mp hi).1
      have n4 := ne4 u i hu hi'
      exact ⟨r1, r2, by rw [nG, if_neg n4]; exact r3, by rw [nL, if_neg n4]; exact r4, by rw [nT, if_neg n4]; exact r5, r6, r7, r8, r9⟩
  · rw [e3 u hu]; exact h.x.ag u hu huA
  · rw [e6 u hu]; exact h.x.ak u hu huA
  · rw [e3 u hu, e6 u hu]; exact h.x.z u hu huA
  · by_cases c : u = v
    · rw [c, e2v, List.mem_append] at hb
      rcases hb with q | q
      · exact h.o.kw v b hvm q
      · have : b = a := by simpa using q
        rw [this]; exact Ka
    · rw [e2 u hu c] at hb
      exact h.o.kw u b hu hb
  · by_cases e : u = v
    · subst e
      rw [e2v] at hi
      have hlen := (h.w u hu).1
      by_cases d : i < rn M ff_Mod_waits u
      · rw [List.getElem?_append_left (by omega)] at hi
        rw [rn_eq (M' := om_mpw M N) (M := M) (by rw [nL, if_neg (ne4 u i hu d)])] at hb
        exact h.k.fw u i b c hu hi hb
      · rw [List.getElem?_append_right (by omega)] at hi
        have ei : i = rn M ff_Mod_waits u := by
          have := (List.getElem?_eq_some_iff.mp hi).1
          simp at this
          omega
        rw [ei, hlen, Nat.sub_self] at hi
        have eb : b = a := by simpa using hi.symm
        subst eb; subst ei
        have : rn (om_mpw M N) ff_Mod_waitLength (4 * u + rn M ff_Mod_waits u) = l.toNatClampNeg := by
          unfold rn
          have := nL (4 * u + rn M ff_Mod_waits u)
          rw [if_pos rfl] at this
          exact congrArg Int32.toNatClampNeg this
        rw [this] at hb
        exact hfl c hb
    · rw [e2 u hu e] at hi
      have hi' : i < rn M ff_Mod_waits u := by rw [← (h.w u hu).1]; exact (List.getElem?_eq_some_iff.mp hi).1
      rw [rn_eq (M' := om_mpw M N) (M := M) (by rw [nL, if_neg (ne4 u i hu hi')])] at hb
      exact h.k.fw u i b c hu hi hb
end
