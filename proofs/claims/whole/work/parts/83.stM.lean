/-! THE CLASS AND THE REFERENCE: who enters -/
def om_mag (M N : rf_M) : rf_M := fun g i => if Nat.ble 797 g && Nat.blt g 799 then N g i else M g i
theorem mag_y {M N : rf_M} {g i : Nat} (h : (Nat.ble 797 g && Nat.blt g 799) = true) : om_mag M N g i = N g i := by
  unfold om_mag
  exact if_pos h
theorem mag_eq {M N : rf_M} (h : ∀ g i, ¬ (797 ≤ g ∧ g < 799) → N g i = M g i) : N = om_mag M N := by
  funext g i
  unfold om_mag
  by_cases c : (Nat.ble 797 g && Nat.blt g 799) = true
  · rw [if_pos c]
  · rw [if_neg c]
    simp only [Bool.and_eq_true, Nat.ble_eq, Nat.blt_eq] at c
    exact h g i (by omega)
section
variable {s : fx_S} {Q : fx_Q} {x m : Nat} {B H P : Nat → Nat} {C : Nat → Nat → Option Nat} {Y : Nat → Nat → Nat} {rt : Nat → List Nat} {K : Nat → Prop} {L : List Nat} {M : rf_M} {lv : Nat → Prop}
theorem RA.hun {v : Nat} {y : Int32} (h : RA s x B H C Y P m rt K L M) (hv : v < m) : RA (fx_sfi s ff_Sender_hungryCycles (B v + 1) y) x B H C Y P m rt K L (fx_up M ff_Mod_hungry v y) := by
  refine ⟨h.sk, ⟨h.t.mode, h.t.pat, h.t.now, h.t.turn, h.t.fin, h.t.dfl, h.t.rec, h.t.ask, h.t.pks⟩, h.g, ⟨h.s.used, fun u hu => ?_, h.s.uw, h.s.sl, h.s.went⟩, h.p, h.w, h.r, h.x, h.m, h.o, h.k, h.f, h.v, h.nm⟩
  by_cases c : u = v
  · rw [c, fi_same, fx_up_same]
  · rw [fi_ne (fun q => c (h.sk.ap hu hv (by omega) (by omega) q.2).1), fx_up_ne (fun q => c q.2)]
    exact h.s.hun u hu
theorem RA.turn {y : Int32} (h : RA s x B H C Y P m rt K L M) : RA (fx_sfi s ff_Torus_turn x y) x B H C Y P m rt K L (fx_up M ff_Mod_turn 0 y) := by
  refine ⟨h.sk, ⟨h.t.mode, h.t.pat, h.t.now, ?_, h.t.fin, h.t.dfl, h.t.rec, h.t.ask, h.t.pks⟩, h.g, h.s, h.p, h.w, h.r, h.x, h.m, h.o, h.k, h.f, h.v, h.nm⟩
  rw [fi_same, fx_up_same]
theorem RA.unag {v : Nat} {t : List Nat} {nx fi la : Nat → Option Nat} {sz : Nat → Int32} (h : RA s x B H C Y P m rt K L M) (hI : RI M) (hv : v < (rn M ff_Mod_all 0)) (hr : 0 < rn M ff_Mod_agains v) (ht : rt (B v + 3) = P (rn M ff_Mod_again (8 * v)) :: t) (hR : RR (fx_srow s nx fi la sz) x B m (fn_up rt (B v + 3) t)) : RA (fx_srow s nx fi la sz) x B H C Y P m (fn_up rt (B v + 3) t) K L (om_unag M v) := by
  have h64 := h.sk.c.m64
  have hvm : v < m := Nat.lt_of_lt_of_le hv h.nm
  have hin := h.sk.c.in_
  have h9 := hI.aNl (v := v) (by omega)
  have e2 : ∀ u, u < m → fn_up rt (B v + 3) t (B u + 2) = rt (B u + 2) := fun u hu => fn_ne (fun q => by have := h.sk.ap hu hvm (by omega) (by omega) q; omega)
  have e6 : ∀ u, u < m → fn_up rt (B v + 3) t (B u + 6) = rt (B u + 6) := fun u hu => fn_ne (fun q => by have := h.sk.ap hu hvm (by omega) (by omega) q; omega)
  have em : fn_up rt (B v + 3) t (x + 13) = rt (x + 13) := fn_ne (by have := hin _ hvm; omega)
  have es : fn_up rt (B v + 3) t (x + 14) = rt (x + 14) := fn_ne (by have := hin _ hvm; omega)
  have eN := fun u => unag_N (M := M) (v := v) (u := u) h9
  have eR := fun u i hi hu => unag_R (M := M) (v := v) (u := u) (i := i) hi h9 hu
  have eM : om_unag M v = om_mag M (om_unag M v) := mag_eq (fun g i hg => by
    unfold om_unag
    rw [om_sh_ne (fun q => hg (by rw [q]; decide)), fx_up_ne (fun q => hg (by rw [q.1]; decide))])
  generalize om_unag M v = N at *
  rw [eM]
  have eN' : ∀ u, rn (om_mag M N) ff_Mod_agains u = rn N ff_Mod_agains u := fun u => rn_eq (mag_y (by decide))
  have eR' : ∀ u, rn (om_mag M N) ff_Mod_again u = rn N ff_Mod_again u := fun u => rn_eq (mag_y (by decide))
  have hag := h.x.ag v hvm hv
  refine ⟨h.sk, h.t, h.g, h.s, h.p, h.w.rts e2, hR, ⟨fun u hu huA => ?_, fun u hu huA => by rw [e6 u hu]; exact h.x.ak u hu huA, fun u hu huA => ?_⟩, ⟨by rw [em]; exact h.m.row, h.m.dn, h.m.du⟩, ⟨fun q hq hq0 => by rw [es]; exact h.o.sp q hq hq0, h.o.kp, fun u a hu ha => h.o.kw u a hu (by rw [e2 u hu] at ha; exact ha), fun a ha => h.o.ks a (by rw [es] at ha; exact ha)⟩, h.k.rts e2, h.f, h.v, h.nm⟩
  · have huA' : u < (rn M ff_Mod_all 0) := huA
    have hu9 := hI.aNl (v := u) (by omega)
    rw [eN', eN]
    by_cases e : u = v
    · rw [e, fn_same, if_pos rfl]
      rw [ht] at hag
      have hr1 : rn M ff_Mod_agains v = (rn M ff_Mod_agains v - 1) + 1 := by omega
      rw [hr1, List.range_succ_eq_map, List.map_cons, List.map_map] at hag
      rw [(List.cons.inj hag).2]
      refine List.map_congr_left (fun i hi => ?_)
      have hi' := List.mem_range.mp hi
      show P (rn M ff_Mod_again (8 * v + (i + 1))) = _
      rw [eR', eR v i (by rw [if_pos rfl]; exact hi') h9, if_pos rfl]
    · rw [fn_ne (fun q => e (h.sk.ap hu hvm (by omega) (by omega) q).1), if_neg e, h.x.ag u hu huA']
      refine List.map_congr_left (fun i hi => ?_)
      have hi' := List.mem_range.mp hi
      rw [eR', eR u i (by rw [if_neg e]; exact hi') hu9, if_neg e]
  · have huA' : (rn M ff_Mod_all 0) ≤ u := huA
    rw [e6 u hu, fn_ne (fun q => by have := (h.sk.ap hu hvm (by omega) (by omega) q).1; omega)]
    exact h.x.z u hu huA'
theorem suse_free {v : Nat} : suse M v < 8 ↔ ∃ p, sp_first (fun p => rn M ff_Mod_lengths p == 0) (8 * v) 8 = some p := by
  unfold suse
  constructor
  · intro h
    cases hs : sp_first (fun p => rn M ff_Mod_lengths p == 0) (8 * v) 8 with
    | some p => exact ⟨p, rfl⟩
    | none =>
      have : sp_cnt (fun k => decide (0 < rn M ff_Mod_lengths (8 * v + k))) 8 = sp_cnt (fun _ => true) 8 := sp_cnt_congr _ (fun k hk => by
        have := sp_first_none.mp hs (8 * v + k) (by omega) (by omega)
        have : rn M ff_Mod_lengths (8 * v + k) ≠ 0 := by simpa using this
        simpa using (show 0 < rn M ff_Mod_lengths (8 * v + k) by omega))
      rw [sp_cnt_true] at this
      omega
  · rintro ⟨p, hp⟩
    obtain ⟨p1, p2, p3, -⟩ := sp_first_some.mp hp
    have p3' : rn M ff_Mod_lengths p = 0 := by simpa using p3
    have c1 := sp_cnt_pos (P := fun _ => true) (K := 8) (c := p - 8 * v) (by omega) rfl
    rw [sp_cnt_true] at c1
    have c2 : sp_cnt (fun k => decide (0 < rn M ff_Mod_lengths (8 * v + k))) 8 ≤ sp_cnt (fun i => true && !(i == p - 8 * v)) 8 := sp_cnt_le_of (fun i hi hp => by
      have : i ≠ p - 8 * v := fun q => by
        rw [q, show 8 * v + (p - 8 * v) = p by omega, p3'] at hp
        simp at hp
      simpa using this)
    omega
theorem k_next {v : Nat} (h : RA s x B H C Y P m rt K L M) (hJ : JV M lv) (hv : v < (rn M ff_Mod_all 0))
    (kA : ∀ p, sp_first (suw M) (8 * v) 8 = some p → Q (some (vR 15 (some (P p)))) s)
    (kB : sp_first (suw M) (8 * v) 8 = none → 0 < rn M ff_Mod_agains v → (∀ f, f < (rn M ff_Mod_flits 0) → spk M f ≠ rn M ff_Mod_again (8 * v)) → Q (some (vR 15 (some (P (rn M ff_Mod_again (8 * v)))))) s)
    (kC : ∀ a t p, sp_first (suw M) (8 * v) 8 = none → ¬ (0 < rn M ff_Mod_agains v ∧ ∀ f, f < (rn M ff_Mod_flits 0) → spk M f ≠ rn M ff_Mod_again (8 * v)) → sp_first (fun p => rn M ff_Mod_lengths p == 0) (8 * v) 8 = some p → rt (B v + 2) = a :: t → Q (some (vR 15 (some a))) s)
    (kN : ∀ c, scand M v = none → Q (some (vR c none)) s) : fx_M mm_Sender_nextToEnter [vR 21 (some (B v + 1))] s Q := by
  have h64 := hJ.all64
  have hvm : v < m := Nat.lt_of_lt_of_le hv h.nm
  have nd := h.sk.b v hvm
  have huw := h.s.uw v hvm
  have hag := h.x.ag v hvm hv
  have hrow := h.r.row _ (ISR.g (x := x) (B := B) hvm)
  have hwr := h.r.row _ (ISR.w (x := x) (B := B) hvm)
  have hwl := (h.w v hvm).1
  have hus : suse M v ≤ 8 := sp_cnt_le _ _
  refine xx_i ml23 ?_
  -- what waits
  have wt : sp_first (suw M) (8 * v) 8 = none → ¬ (0 < rn M ff_Mod_agains v ∧ ∀ f, f < (rn M ff_Mod_flits 0) → spk M f ≠ rn M ff_Mod_again (8 * v)) → fx_W 23 43 [some (vR 21 (some (B v + 1)))] [] s Q := by
    intro hs hno
    have hsc : scand M v = bif decide (0 < rn M ff_Mod_waits v) && (sp_first (fun p => rn M ff_Mod_lengths p == 0) (8 * v) 8).isSome then some 2000 else none := by
      unfold scand
      rw [hs]
      have : (decide (0 < rn M ff_Mod_agains v) && !(sp_first (fun f => spk M f == rn M ff_Mod_again (8 * v)) 0 ((rn M ff_Mod_flits 0))).isSome) = false := by
        cases hc : (decide (0 < rn M ff_Mod_agains v) && !(sp_first (fun f => spk M f == rn M ff_Mod_again (8 * v)) 0 ((rn M ff_Mod_flits 0))).isSome) with
        | false => rfl
        | true =>
          simp only [Bool.and_eq_true, decide_eq_true_eq, Bool.not_eq_true', Option.isSome_eq_false_iff, Option.isNone_iff_eq_none] at hc
          refine absurd ⟨hc.1, fun f hf q => ?_⟩ hno
          have := sp_first_none.mp hc.2 f (by omega) (by omega)
          simp [q] at this
      show (bif _ then _ else _) = _
      rw [this, cond_false]
    refine xx_j ee23_43 rfl trivial ?_
    refine xx_gi ee23_44 (h.s.used v hvm) rfl rfl ?_
    refine xx_kb ee23_47 8 rfl ?_
    refine xx_ge ee23_49 (by omega) (by omega) (fun hge => ?_) (fun hlt => ?_)
    · refine xx_j ee23_62 rfl trivial ?_
      refine xx_ra ee23_63 (kN _ ?_)
      rw [hsc]
      have : (sp_first (fun p => rn M ff_Mod_lengths p == 0) (8 * v) 8).isSome = false := by
        cases hf : sp_first (fun p => rn M ff_Mod_lengths p == 0) (8 * v) 8 with
        | none => rfl
        | some p => have := suse_free.mpr ⟨p, hf⟩; omega
      rw [this, Bool.and_false]
      rfl
    · obtain ⟨p, hp⟩ := suse_free.mp hlt
      refine xx_j ee23_52 rfl trivial ?_
      refine xx_gr ee23_53 nd.wait rfl rfl ?_
      refine xx_gr ee23_56 hwr.1 rfl rfl ?_
      refine xx_j ee23_59 rfl trivial ?_
      cases hw : rt (B v + 2) with
      | nil =>
        refine xx_ra ee23_63 (kN _ ?_)
        rw [hsc]
        rw [hw] at hwl
        rw [show decide (0 < rn M ff_Mod_waits v) = false by simpa using hwl.symm]
        rfl
      | cons a t => exact xx_ra ee23_63 (kC a t p hs hno hp hw)
  refine xx_j ee23_0 rfl trivial ?_
  refine xx_gr ee23_1 huw rfl rfl ?_
  cases hs : sp_first (suw M) (8 * v) 8 with
  | some p =>
    rw [hs] at huw
    refine xx_nu ee23_4 (fun hb => by cases hb) (fun _ _ => ?_)
    refine xx_j ee23_7 rfl trivial ?_
    refine xx_gr ee23_8 huw rfl rfl ?_
    exact xx_ra ee23_11 (kA p hs)
  | none =>
    refine xx_nu ee23_4 (fun _ => ?_) (fun b hb => by cases hb)
    refine xx_j ee23_12 rfl trivial ?_
    refine xx_gr ee23_13 nd.again rfl rfl ?_
    refine xx_gr ee23_16 hrow.1 rfl rfl ?_
    cases hN : rn M ff_Mod_agains v with
    | zero =>
      rw [hN] at hag
      rw [hag]
      refine xx_nu ee23_19 (fun _ => wt hs (fun q => by omega)) (fun b hb => by cases hb)
    | succ n =>
      rw [hN, List.range_succ_eq_map, List.map_cons] at hag
      have hag0 : rt (B v + 3) = P (rn M ff_Mod_again (8 * v)) :: (List.map (fun i => P (rn M ff_Mod_again (8 * v + i))) (List.map Nat.succ (List.range n))) := hag
      have hq5 := hJ.ri.aRl (i := 8 * v) (by omega)
      have j11 := hJ.j11 v 0 hv (by omega)
      rw [Nat.add_zero] at j11
      have rq := h.p _ hq5 j11.2.1
      have hc257 : sp_cnt (fun f => spk M f == rn M ff_Mod_again (8 * v)) ((rn M ff_Mod_flits 0)) ≤ (rn M ff_Mod_flits 0) := sp_cnt_le _ _
      have h257 := hJ.ri.fNl
      rw [hag0]
      refine xx_nu ee23_19 (fun hb => by cases hb) (fun _ _ => ?_)
      have hfst : fx_fr s ff_Row_first (B v + 3) = some (P (rn M ff_Mod_again (8 * v))) := by rw [hrow.1, hag0]; rfl
      refine xx_j ee23_22 rfl trivial ?_
      refine xx_gr ee23_23 nd.again rfl rfl ?_
      refine xx_gr ee23_26 hfst rfl rfl ?_
      refine xx_gi ee23_29 rq.fin rfl rfl ?_
      refine xx_kne ee23_32 (by omega) (fun hne => ?_) (fun he => ?_)
      · refine wt hs (fun q => hne ?_)
        rw [sp_cnt_zero]
        intro f hf
        simpa using q.2 f hf
      · refine xx_j ee23_35 rfl trivial ?_
        refine xx_gr ee23_36 nd.again rfl rfl ?_
        refine xx_gr ee23_39 hfst rfl rfl ?_
        refine xx_ra ee23_42 (kB hs (by omega) (fun f hf => ?_))
        have := (sp_cnt_zero _).mp he f hf
        simpa using this
end
