/-! THE REFERENCE: a flit enters -/
section
variable {s : fx_S} {Q : fx_Q} {o : Nat} {A : Nat → Nat} {M : rf_M}
/-- the first one of the row AGAIN leaves it -/
def om_unag (M : rf_M) (v : Nat) : rf_M := om_sh (fx_up M ff_Mod_agains v (nI (rn M ff_Mod_agains v - 1))) ff_Mod_again (8 * v) (rn M ff_Mod_agains v - 1)
/-- the first one that waits takes slot p -/
def om_slot (M : rf_M) (v p : Nat) : rf_M :=
  fx_up (fx_up (fx_up (fx_up (fx_up (fx_up (fx_up M ff_Mod_goals p (nI (rn M ff_Mod_waitGoal (4 * v)))) ff_Mod_lengths p (nI (rn M ff_Mod_waitLength (4 * v)))) ff_Mod_tags p (M ff_Mod_waitTag (4 * v))) ff_Mod_slotTry p (nI 1)) ff_Mod_entered p (nI 0)) ff_Mod_asked p (fx_bit false)) ff_Mod_waits v (nI (rn M ff_Mod_waits v - 1))
def om_unwt (M : rf_M) (v p : Nat) : rf_M :=
  let n := rn M ff_Mod_waits v - 1
  om_sh (om_sh (om_sh (om_slot M v p) ff_Mod_waitGoal (4 * v) n) ff_Mod_waitLength (4 * v) n) ff_Mod_waitTag (4 * v) n
/-- a flit of packet p on line l at v -/
def om_flit (M : rf_M) (v p l : Nat) : rf_M :=
  let L := rn M ff_Mod_flits 0
  fx_up (fx_up (fx_up (fx_up (fx_up (fx_up (fx_up (fx_up (fx_up M ff_Mod_at L (nI v)) ff_Mod_line L (nI l)) ff_Mod_source L (nI v)) ff_Mod_slot L (nI (p % 8))) ff_Mod_number L (nI (rn M ff_Mod_entered p))) ff_Mod_entry L (nI (rn M ff_Mod_cycle 0))) ff_Mod_tries L (nI (rn M ff_Mod_slotTry p))) ff_Mod_flits 0 (nI (L + 1))) ff_Mod_entered p (nI (rn M ff_Mod_entered p + 1))
theorem RI.flit {v p l : Nat} (hI : RI M) (hv : v < 64) (hp : p < 512) (hl : l < 4) (hn : rn M ff_Mod_entered p < 8) (hL : rn M ff_Mod_flits 0 < 256) : RI (om_flit M v p l) := by
  have h1 := hI.l ff_Mod_cycle 0 1000000 (n := 1) rfl (by omega) rfl (by omega)
  have h2 := hI.l ff_Mod_slotTry p 1000 (n := 512) rfl hp rfl (by omega)
  exact ((((((((hI.up (b := 64) rfl hv (by decide) (by decide)).up (b := 4) rfl hl (by decide) (by decide)).up (b := 64) rfl hv (by decide) (by decide)).up (b := 8) rfl (by omega) (by decide) (by decide)).up (b := 8) rfl hn (by decide) (by decide)).up (b := 1000000) rfl h1 (by decide) (by decide)).up (b := 1000) rfl h2 (by decide) (by decide)).up (b := 257) rfl (by omega) (by decide) (by decide)).up (b := 9) rfl (by omega) (by decide) (by decide)
theorem RI.unag {v : Nat} (hI : RI M) (hv : v < 64) (h : 0 < rn M ff_Mod_agains v) : RI (om_unag M v) := by
  have h1 := hI.l ff_Mod_agains v 9 (n := 64) rfl hv rfl (by omega)
  exact (hI.up (b := 9) rfl (by omega) (by decide) (by decide)).sh (l := 512) rfl (by omega) (by decide) (by decide)
theorem RI.slot {v p : Nat} (hI : RI M) (hv : v < 64) : RI (om_slot M v p) := by
  have h1 := hI.l ff_Mod_waits v 5 (n := 64) rfl hv rfl (by omega)
  have h2 := hI.l ff_Mod_waitGoal (4 * v) 64 (n := 256) rfl (by omega) rfl (by omega)
  have h3 := hI.l ff_Mod_waitLength (4 * v) 9 (n := 256) rfl (by omega) rfl (by omega)
  exact ((((((hI.up (b := 64) rfl h2 (by decide) (by decide)).up (b := 9) rfl h3 (by decide) (by decide)).raw rfl (by decide) (by decide)).up (b := 1000) rfl (by omega) (by decide) (by decide)).up (b := 9) rfl (by omega) (by decide) (by decide)).upz rfl (by decide) (by decide)).up (b := 5) rfl (by omega) (by decide) (by decide)
theorem RI.unwt {v p : Nat} (hI : RI M) (hv : v < 64) (h : 0 < rn M ff_Mod_waits v) : RI (om_unwt M v p) := by
  have h1 := hI.l ff_Mod_waits v 5 (n := 64) rfl hv rfl (by omega)
  exact (((hI.slot (p := p) hv).sh (l := 256) rfl (by omega) (by decide) (by decide)).sh (l := 256) rfl (by omega) (by decide) (by decide)).sh (l := 256) rfl (by omega) (by decide) (by decide)
/-- from pc 256 on -/
theorem q_enterC {s0 : fx_S} {v p l : Nat} {x2 x4 : Option fx_V} (hR : rf_ok s o A M) (hF : rf_fr o A s0 s) (hI : RI M) (hv : v < 64) (hp : p < 512) (hl : sfl M v = some l) (hn : rn M ff_Mod_entered p < 8) (hL : rn M ff_Mod_flits 0 < 256) (k : ∀ s', rf_ok s' o A (om_flit M v p l) → rf_fr o A s0 s' → Q none s') : fx_W mm_Mod_enter 256 [some (vR 22 (some o)), some (vI (nI v)), x2, some (vI (nI p)), x4] [] s Q := by
  have e1 := hI.f ff_Mod_flits rfl (by decide)
  have e2 := hI.f ff_Mod_cycle rfl (by decide)
  have e3 := hI.e ff_Mod_entered p (n := 512) rfl hp (by decide)
  have e4 := hI.e ff_Mod_slotTry p (n := 512) rfl hp (by decide)
  have hl4 := (sp_first_lt hl).2.1
  refine xx_j ee71_256 rfl trivial ?_
  refine xx_j ee71_257 rfl trivial ?_
  refine xx_c ee71_258 rfl (q_freeLine hR hI hv ?_)
  rw [hl]
  refine xx_j ee71_261 rfl trivial ?_
  refine xx_j ee71_263 rfl trivial ?_
  refine rr_fa hR ee71_264 (by decide) rfl rfl ?_
  refine xx_j ee71_267 rfl trivial ?_
  refine rr_fi hR ee71_268 rfl rfl rfl ?_
  refine xx_t e1 ?_
  refine xx_j ee71_271 rfl trivial ?_
  refine rr_as 300 hR hF ee71_272 rfl (by omega) (fun s hR hF => ?_)
  refine xx_j ee71_273 rfl trivial ?_
  refine rr_fa hR ee71_274 (by decide) rfl rfl ?_
  refine xx_j ee71_277 rfl trivial ?_
  refine rr_fi hR ee71_278 rfl rfl rfl ?_
  refine xx_t e1 ?_
  refine xx_j ee71_281 rfl trivial ?_
  refine rr_as 300 hR hF ee71_283 rfl (by omega) (fun s hR hF => ?_)
  refine xx_j ee71_284 rfl trivial ?_
  refine rr_fa hR ee71_285 (by decide) rfl rfl ?_
  refine xx_j ee71_288 rfl trivial ?_
  refine rr_fi hR ee71_289 rfl rfl rfl ?_
  refine xx_t e1 ?_
  refine xx_j ee71_292 rfl trivial ?_
  refine rr_as 300 hR hF ee71_293 rfl (by omega) (fun s hR hF => ?_)
  refine xx_j ee71_294 rfl trivial ?_
  refine rr_fa hR ee71_295 (by decide) rfl rfl ?_
  refine xx_j ee71_298 rfl trivial ?_
  refine rr_fi hR ee71_299 rfl rfl rfl ?_
  refine xx_t e1 ?_
  refine xx_j ee71_302 rfl trivial ?_
  refine xx_kb ee71_303 8 rfl ?_
  refine xx_rem ee71_305 (by omega) (by omega) (by omega) ?_
  refine rr_as 300 hR hF ee71_306 rfl (by omega) (fun s hR hF => ?_)
  refine xx_j ee71_307 rfl trivial ?_
  refine rr_fa hR ee71_308 (by decide) rfl rfl ?_
  refine xx_j ee71_311 rfl trivial ?_
  refine rr_fi hR ee71_312 rfl rfl rfl ?_
  refine xx_t e1 ?_
  refine xx_j ee71_315 rfl trivial ?_
  refine rr_fa hR ee71_316 (by decide) rfl rfl ?_
  refine xx_j ee71_319 rfl trivial ?_
  refine rr_al 512 hR ee71_320 rfl (by omega) ?_
  refine xx_t e3 ?_
  refine rr_as 300 hR hF ee71_321 rfl (by omega) (fun s hR hF => ?_)
  refine xx_j ee71_322 rfl trivial ?_
  refine rr_fa hR ee71_323 (by decide) rfl rfl ?_
  refine xx_j ee71_326 rfl trivial ?_
  refine rr_fi hR ee71_327 rfl rfl rfl ?_
  refine xx_t e1 ?_
  refine xx_j ee71_330 rfl trivial ?_
  refine rr_fi hR ee71_331 rfl rfl rfl ?_
  refine xx_t e2 ?_
  refine rr_as 300 hR hF ee71_334 rfl (by omega) (fun s hR hF => ?_)
  refine xx_j ee71_335 rfl trivial ?_
  refine rr_fa hR ee71_336 (by decide) rfl rfl ?_
  refine xx_j ee71_339 rfl trivial ?_
  refine rr_fi hR ee71_340 rfl rfl rfl ?_
  refine xx_t e1 ?_
  refine xx_j ee71_343 rfl trivial ?_
  refine rr_fa hR ee71_344 (by decide) rfl rfl ?_
  refine xx_j ee71_347 rfl trivial ?_
  refine rr_al 512 hR ee71_348 rfl (by omega) ?_
  refine xx_t e4 ?_
  refine rr_as 300 hR hF ee71_349 rfl (by omega) (fun s hR hF => ?_)
  refine xx_j ee71_350 rfl trivial ?_
  refine xx_j ee71_351 rfl trivial ?_
  refine rr_fi hR ee71_352 rfl rfl rfl ?_
  refine xx_t e1 ?_
  refine xx_k ee71_355 1 rfl ?_
  first | refine xx_add ee71_356 ?_ | refine xx_j ee71_356 rfl trivial ?_
  refine rr_pf hR hF ee71_357 rfl rfl (fun s hR hF => ?_)
  refine xx_j ee71_360 rfl trivial ?_
  refine rr_fa hR ee71_361 (by decide) rfl rfl ?_
  refine xx_j ee71_364 rfl trivial ?_
  refine xx_j ee71_365 rfl trivial ?_
  refine rr_al 512 hR ee71_366 rfl (by omega) ?_
  refine xx_t e3 ?_
  refine xx_k ee71_367 1 rfl ?_
  first | refine xx_add ee71_368 ?_ | refine xx_j ee71_368 rfl trivial ?_
  refine rr_as 512 hR hF ee71_369 rfl (by omega) (fun s hR hF => ?_)
  exact xx_r ee71_370 rfl trivial (k _ hR hF)
/-- enter(v, who), who as candidate says: behind the choice -/
def om_enter (M : rf_M) (v who l : Nat) : rf_M :=
  if who < 1000 then om_flit M v who l else if who < 2000 then om_flit (om_unag M v) v (who - 1000) l else
    let p := (sp_first (fun p => rn M ff_Mod_lengths p == 0) (8 * v) 8).getD 0
    om_flit (om_unwt M v p) v p l
theorem q_enterA {s0 : fx_S} {v p l : Nat} (hR : rf_ok s0 o A M) (hI : RI M) (hv : v < 64) (hp : p < 512) (hl : sfl M v = some l) (hn : rn M ff_Mod_entered p < 8) (hL : rn M ff_Mod_flits 0 < 256) (k : ∀ s', rf_ok s' o A (om_flit M v p l) → rf_fr o A s0 s' → Q none s') : fx_M mm_Mod_enter [vR 22 (some o), vI (nI v), vI (nI p)] s0 Q := by
  refine xx_i ml71 ?_
  refine xx_j ee71_0 rfl trivial ?_
  refine xx_ks ee71_1 1000 rfl ?_
  refine xx_ge ee71_4 (by omega) (by omega) (fun h => by omega) (fun h => ?_)
  refine xx_j ee71_7 rfl trivial ?_
  refine xx_j ee71_8 rfl trivial ?_
  refine xx_j ee71_31 rfl trivial ?_
  refine xx_j ee71_32 rfl trivial ?_
  refine xx_ks ee71_33 1000 rfl ?_
  refine xx_lt ee71_36 (by omega) (by omega) (fun h => ?_) (fun h => by omega)
  refine xx_j ee71_102 rfl trivial ?_
  refine xx_ks ee71_103 2000 rfl ?_
  refine xx_ne ee71_106 (by omega) (by omega) (fun h => ?_) (fun h => by omega)
  exact q_enterC hR (rf_fr.rf o A s0) hI hv hp hl hn hL k
theorem q_enterB {s0 : fx_S} {v p l : Nat} (hR : rf_ok s0 o A M) (hI : RI M) (hv : v < 64) (hp : p < 512) (ha : 0 < rn M ff_Mod_agains v) (hl : sfl M v = some l) (hn : rn M ff_Mod_entered p < 8) (hL : rn M ff_Mod_flits 0 < 256) (k : ∀ s', rf_ok s' o A (om_flit (om_unag M v) v p l) → rf_fr o A s0 s' → Q none s') : fx_M mm_Mod_enter [vR 22 (some o), vI (nI v), vI (nI (1000 + p))] s0 Q := by
  have hF := rf_fr.rf o A s0
  have e1 := hI.e ff_Mod_agains v (n := 64) rfl hv (by decide)
  have r1 := hI.l ff_Mod_agains v 9 (n := 64) rfl hv rfl (by omega)
  refine xx_i ml71 ?_
  refine xx_j ee71_0 rfl trivial ?_
  refine xx_ks ee71_1 1000 rfl ?_
  refine xx_ge ee71_4 (by omega) (by omega) (fun h => ?_) (fun h => by omega)
  refine xx_j ee71_11 rfl trivial ?_
  refine xx_ks ee71_12 2000 rfl ?_
  refine xx_ge ee71_15 (by omega) (by omega) (fun h => by omega) (fun h => ?_)
  refine xx_j ee71_18 rfl trivial ?_
  refine xx_ks ee71_19 1000 rfl ?_
  refine xx_sub ee71_22 (by omega) ?_
  rw [show 1000 + p - 1000 = p by omega]
  refine xx_j ee71_23 rfl trivial ?_
  refine xx_j ee71_31 rfl trivial ?_
  refine xx_j ee71_32 rfl trivial ?_
  refine xx_ks ee71_33 1000 rfl ?_
  refine xx_lt ee71_36 (by omega) (by omega) (fun h => by omega) (fun h => ?_)
  refine xx_j ee71_39 rfl trivial ?_
  refine xx_ks ee71_40 2000 rfl ?_
  refine xx_ge ee71_43 (by omega) (by omega) (fun h => by omega) (fun h => ?_)
  refine xx_j ee71_46 rfl trivial ?_
  refine rr_fa hR ee71_47 (by decide) rfl rfl ?_
  refine xx_j ee71_50 rfl trivial ?_
  refine xx_j ee71_51 rfl trivial ?_
  refine rr_al 64 hR ee71_52 rfl (by omega) ?_
  refine xx_t e1 ?_
  refine xx_k ee71_53 1 rfl ?_
  refine xx_sub ee71_54 (by omega) ?_
  refine rr_as 64 hR hF ee71_55 rfl (by omega) (fun s hR hF => ?_)
  refine xx_k ee71_56 0 rfl ?_
  refine xx_j ee71_57 rfl trivial ?_
  generalize hX : fx_up M ff_Mod_agains v (nI (rn M ff_Mod_agains v - 1)) = X at hR
  have hXf : om_unag M v = om_sh X ff_Mod_again (8 * v) (rn M ff_Mod_agains v - 1) := by rw [← hX]; rfl
  have eX : X ff_Mod_agains v = nI (rn M ff_Mod_agains v - 1) := by rw [← hX]; exact fx_up_same _ _ _ _
  have sh : ∀ d j (s' : fx_S), j + d = rn M ff_Mod_agains v - 1 → rf_ok s' o A (om_sh X ff_Mod_again (8 * v) j) → rf_fr o A s0 s' → fx_W 71 59 [some (vR 22 (some o)), some (vI (nI v)), some (vI (nI (1000 + p))), some (vI (nI p)), some (vI (nI j))] [] s' Q := by
    intro d
    induction d with
    | zero =>
      intro j s' hj hR hF
      refine xx_j ee71_59 rfl trivial ?_
      refine xx_j ee71_61 rfl trivial ?_
      refine rr_fa hR ee71_62 (by decide) rfl rfl ?_
      refine xx_j ee71_65 rfl trivial ?_
      refine rr_al 64 hR ee71_66 rfl (by omega) ?_
      refine xx_t ((om_sh_ne (by decide)).trans eX) ?_
      refine xx_ge ee71_67 (by omega) (by omega) (fun h => ?_) (fun h => by omega)
      rw [show j = rn M ff_Mod_agains v - 1 by omega, ← hXf] at hR
      refine xx_j ee71_102 rfl trivial ?_
      refine xx_ks ee71_103 2000 rfl ?_
      refine xx_ne ee71_106 (by omega) (by omega) (fun h => ?_) (fun h => by omega)
      exact q_enterC hR hF (hI.unag hv ha) hv hp (by rw [← hl, hXf, ← hX]; rfl) (by rw [hXf, ← hX]; exact hn) (by rw [hXf, ← hX]; exact hL) k
    | succ d ihd =>
      intro j s' hj hR hF
      refine xx_j ee71_59 rfl trivial ?_
      refine xx_j ee71_61 rfl trivial ?_
      refine rr_fa hR ee71_62 (by decide) rfl rfl ?_
      refine xx_j ee71_65 rfl trivial ?_
      refine rr_al 64 hR ee71_66 rfl (by omega) ?_
      refine xx_t ((om_sh_ne (by decide)).trans eX) ?_
      refine xx_ge ee71_67 (by omega) (by omega) (fun h => by omega) (fun h => ?_)
      refine xx_j ee71_70 rfl trivial ?_
      refine rr_fa hR ee71_71 (by decide) rfl rfl ?_
      refine xx_kb ee71_74 8 rfl ?_
      refine xx_j ee71_76 rfl trivial ?_
      first | refine xx_mul ee71_77 ?_ | refine xx_j ee71_77 rfl trivial ?_
      refine xx_j ee71_78 rfl trivial ?_
      first | refine xx_add ee71_80 ?_ | refine xx_j ee71_80 rfl trivial ?_
      refine xx_j ee71_81 rfl trivial ?_
      refine rr_fa hR ee71_82 (by decide) rfl rfl ?_
      refine xx_kb ee71_85 8 rfl ?_
      refine xx_j ee71_87 rfl trivial ?_
      first | refine xx_mul ee71_88 ?_ | refine xx_j ee71_88 rfl trivial ?_
      refine xx_j ee71_89 rfl trivial ?_
      first | refine xx_add ee71_91 ?_ | refine xx_j ee71_91 rfl trivial ?_
      refine xx_k ee71_92 1 rfl ?_
      first | refine xx_add ee71_93 ?_ | refine xx_j ee71_93 rfl trivial ?_
      refine rr_al 512 hR ee71_94 rfl (by omega) ?_
      refine xx_t (om_sh_out (Or.inr (by omega))) ?_
      refine rr_as 512 hR hF ee71_95 rfl (by omega) (fun s hR hF => ?_)
      rw [om_sh_next] at hR
      first | refine xx_inc ee71_96 rfl ?_ | refine xx_j ee71_96 rfl trivial ?_
      refine xx_j ee71_99 rfl trivial ?_
      exact ihd (j + 1) _ (by omega) hR hF
  rw [← om_sh_0 X ff_Mod_again (8 * v)] at hR
  exact sh (rn M ff_Mod_agains v - 1) 0 _ (by omega) hR hF
theorem om_sh3_next (X : rf_M) (f g h base j : Nat) (h1 : f ≠ g) (h2 : f ≠ h) (h3 : g ≠ h) : fx_up (fx_up (fx_up (om_sh (om_sh (om_sh X f base j) g base j) h base j) f (base + j) (X f (base + j + 1))) g (base + j) (X g (base + j + 1))) h (base + j) (X h (base + j + 1)) = om_sh (om_sh (om_sh X f base (j + 1)) g base (j + 1)) h base (j + 1) := by
  funext y i
  by_cases e1 : y = h
  · subst e1
    by_cases e2 : i = base + j
    · subst e2
      rw [fx_up_same, om_sh_in (by omega) (by omega), om_sh_ne h3.symm, om_sh_ne h2.symm]
    · rw [fx_up_ne (fun q => e2 q.2), fx_up_ne (fun q => h3 q.1.symm), fx_up_ne (fun q => h2 q.1.symm)]
      by_cases e3 : base ≤ i ∧ i < base + j
      · rw [om_sh_in e3.1 e3.2, om_sh_in e3.1 (by omega), om_sh_ne h3.symm, om_sh_ne h2.symm, om_sh_ne h3.symm, om_sh_ne h2.symm]
      · rw [om_sh_out (by omega), om_sh_out (by omega), om_sh_ne h3.symm, om_sh_ne h2.symm, om_sh_ne h3.symm, om_sh_ne h2.symm]
  · rw [fx_up_ne (fun q => e1 q.1), om_sh_ne e1]
    by_cases e4 : y = g
    · subst e4
      by_cases e2 : i = base + j
      · subst e2
        rw [fx_up_same, om_sh_in (by omega) (by omega), om_sh_ne h1.symm]
      · rw [fx_up_ne (fun q => e2 q.2), fx_up_ne (fun q => h1 q.1.symm), om_sh_ne e1]
        by_cases e3 : base ≤ i ∧ i < base + j
        · rw [om_sh_in e3.1 e3.2, om_sh_in e3.1 (by omega), om_sh_ne h1.symm, om_sh_ne h1.symm]
        · rw [om_sh_out (by omega), om_sh_out (by omega), om_sh_ne h1.symm, om_sh_ne h1.symm]
    · rw [fx_up_ne (fun q => e4 q.1), om_sh_ne e4]
      by_cases e5 : y = f
      · subst e5
        by_cases e2 : i = base + j
        · subst e2
          rw [fx_up_same, om_sh_in (by omega) (by omega)]
        · rw [fx_up_ne (fun q => e2 q.2), om_sh_ne e1, om_sh_ne e4]
          by_cases e3 : base ≤ i ∧ i < base + j
          · rw [om_sh_in e3.1 e3.2, om_sh_in e3.1 (by omega)]
          · rw [om_sh_out (by omega), om_sh_out (by omega)]
      · rw [fx_up_ne (fun q => e5 q.1), om_sh_ne e1, om_sh_ne e4, om_sh_ne e5, om_sh_ne e5]
theorem q_enterW {s0 : fx_S} {v p l : Nat} (hR : rf_ok s0 o A M) (hI : RI M) (hv : v < 64) (hp : sp_first (fun p => rn M ff_Mod_lengths p == 0) (8 * v) 8 = some p) (ha : 0 < rn M ff_Mod_waits v) (hl : sfl M v = some l) (hL : rn M ff_Mod_flits 0 < 256) (k : ∀ s', rf_ok s' o A (om_flit (om_unwt M v p) v p l) → rf_fr o A s0 s' → Q none s') : fx_M mm_Mod_enter [vR 22 (some o), vI (nI v), vI (nI 2000)] s0 Q := by
  have hF := rf_fr.rf o A s0
  have hp2 := (sp_first_lt hp).2.1
  have e1 := hI.e ff_Mod_waits v (n := 64) rfl hv (by decide)
  have r1 := hI.l ff_Mod_waits v 5 (n := 64) rfl hv rfl (by omega)
  have e2 := hI.e ff_Mod_waitGoal (4 * v) (n := 256) rfl (by omega) (by decide)
  have e3 := hI.e ff_Mod_waitLength (4 * v) (n := 256) rfl (by omega) (by decide)
  refine xx_i ml71 ?_
  refine xx_j ee71_0 rfl trivial ?_
  refine xx_ks ee71_1 1000 rfl ?_
  refine xx_ge ee71_4 (by omega) (by omega) (fun h => ?_) (fun h => by omega)
  refine xx_j ee71_11 rfl trivial ?_
  refine xx_ks ee71_12 2000 rfl ?_
  refine xx_ge ee71_15 (by omega) (by omega) (fun h => ?_) (fun h => by omega)
  refine xx_j ee71_26 rfl trivial ?_
  refine xx_j ee71_27 rfl trivial ?_
  refine xx_c ee71_28 rfl (q_freeSlot hR hI hv ?_)
  rw [hp]
  refine xx_j ee71_31 rfl trivial ?_
  refine xx_j ee71_32 rfl trivial ?_
  refine xx_ks ee71_33 1000 rfl ?_
  refine xx_lt ee71_36 (by omega) (by omega) (fun h => by omega) (fun h => ?_)
  refine xx_j ee71_39 rfl trivial ?_
  refine xx_ks ee71_40 2000 rfl ?_
  refine xx_ge ee71_43 (by omega) (by omega) (fun h => ?_) (fun h => by omega)
  refine xx_j ee71_102 rfl trivial ?_
  refine xx_ks ee71_103 2000 rfl ?_
  refine xx_ne ee71_106 (by omega) (by omega) (fun h => by omega) (fun h => ?_)
  refine xx_j ee71_109 rfl trivial ?_
  refine rr_fa hR ee71_110 (by decide) rfl rfl ?_
  refine xx_j ee71_113 rfl trivial ?_
  refine xx_j ee71_114 rfl trivial ?_
  refine rr_fa hR ee71_115 (by decide) rfl rfl ?_
  refine xx_k ee71_118 4 rfl ?_
  refine xx_j ee71_119 rfl trivial ?_
  first | refine xx_mul ee71_120 ?_ | refine xx_j ee71_120 rfl trivial ?_
  refine rr_al 256 hR ee71_121 rfl (by omega) ?_
  refine xx_t e2 ?_
  refine rr_as 512 hR hF ee71_122 rfl (by omega) (fun s hR hF => ?_)
  refine xx_j ee71_123 rfl trivial ?_
  refine rr_fa hR ee71_124 (by decide) rfl rfl ?_
  refine xx_j ee71_127 rfl trivial ?_
  refine xx_j ee71_128 rfl trivial ?_
  refine rr_fa hR ee71_129 (by decide) rfl rfl ?_
  refine xx_k ee71_132 4 rfl ?_
  refine xx_j ee71_133 rfl trivial ?_
  first | refine xx_mul ee71_134 ?_ | refine xx_j ee71_134 rfl trivial ?_
  refine rr_al 256 hR ee71_135 rfl (by omega) ?_
  refine xx_t e3 ?_
  refine rr_as 512 hR hF ee71_136 rfl (by omega) (fun s hR hF => ?_)
  refine xx_j ee71_137 rfl trivial ?_
  refine rr_fa hR ee71_138 (by decide) rfl rfl ?_
  refine xx_j ee71_141 rfl trivial ?_
  refine xx_j ee71_142 rfl trivial ?_
  refine rr_fa hR ee71_143 (by decide) rfl rfl ?_
  refine xx_k ee71_146 4 rfl ?_
  refine xx_j ee71_147 rfl trivial ?_
  first | refine xx_mul ee71_148 ?_ | refine xx_j ee71_148 rfl trivial ?_
  refine rr_al 256 hR ee71_149 rfl (by omega) ?_
  refine rr_as 512 hR hF ee71_150 rfl (by omega) (fun s hR hF => ?_)
  refine xx_j ee71_151 rfl trivial ?_
  refine rr_fa hR ee71_152 (by decide) rfl rfl ?_
  refine xx_j ee71_155 rfl trivial ?_
  refine xx_k ee71_156 1 rfl ?_
  refine rr_as 512 hR hF ee71_157 rfl (by omega) (fun s hR hF => ?_)
  refine xx_j ee71_158 rfl trivial ?_
  refine rr_fa hR ee71_159 (by decide) rfl rfl ?_
  refine xx_j ee71_162 rfl trivial ?_
  refine xx_k ee71_163 0 rfl ?_
  refine rr_as 512 hR hF ee71_164 rfl (by omega) (fun s hR hF => ?_)
  refine xx_j ee71_165 rfl trivial ?_
  refine rr_fa hR ee71_166 (by decide) rfl rfl ?_
  refine xx_j ee71_169 rfl trivial ?_
  refine xx_k ee71_170 0 rfl ?_
  refine xx_t fx_bit_f ?_
  refine rr_zs 512 hR hF ee71_171 rfl (by omega) (fun s hR hF => ?_)
  refine xx_j ee71_172 rfl trivial ?_
  refine rr_fa hR ee71_173 (by decide) rfl rfl ?_
  refine xx_j ee71_176 rfl trivial ?_
  refine xx_j ee71_177 rfl trivial ?_
  refine rr_al 64 hR ee71_178 rfl (by omega) ?_
  refine xx_t e1 ?_
  refine xx_k ee71_179 1 rfl ?_
  refine xx_sub ee71_180 (by omega) ?_
  refine rr_as 64 hR hF ee71_181 rfl (by omega) (fun s hR hF => ?_)
  refine xx_k ee71_182 4 rfl ?_
  refine xx_j ee71_183 rfl trivial ?_
  first | refine xx_mul ee71_184 ?_ | refine xx_j ee71_184 rfl trivial ?_
  refine xx_j ee71_185 rfl trivial ?_
  generalize hX : om_slot M v p = X
  have hR : rf_ok s o A X := by rw [← hX]; exact hR
  have hXf : om_unwt M v p = om_sh (om_sh (om_sh X ff_Mod_waitGoal (4 * v) (rn M ff_Mod_waits v - 1)) ff_Mod_waitLength (4 * v) (rn M ff_Mod_waits v - 1)) ff_Mod_waitTag (4 * v) (rn M ff_Mod_waits v - 1) := by rw [← hX]; rfl
  have eX : X ff_Mod_waits v = nI (rn M ff_Mod_waits v - 1) := by rw [← hX]; exact fx_up_same _ _ _ _
  have eE : rn X ff_Mod_entered p = 0 := by
    rw [← hX]
    exact rn_of ((fx_up_ne (fun q => absurd q.1 (by decide))).trans ((fx_up_ne (fun q => absurd q.1 (by decide))).trans (fx_up_same _ _ _ _))) (by omega)
  have sh : ∀ d j (s' : fx_S), j + d = rn M ff_Mod_waits v - 1 → rf_ok s' o A (om_sh (om_sh (om_sh X ff_Mod_waitGoal (4 * v) j) ff_Mod_waitLength (4 * v) j) ff_Mod_waitTag (4 * v) j) → rf_fr o A s0 s' → fx_W 71 187 [some (vR 22 (some o)), some (vI (nI v)), some (vI (nI 2000)), some (vI (nI p)), some (vI (nI (4 * v + j)))] [] s' Q := by
    intro d
    induction d with
    | zero =>
      intro j s' hj hR hF
      refine xx_j ee71_187 rfl trivial ?_
      refine xx_k ee71_189 4 rfl ?_
      refine xx_j ee71_190 rfl trivial ?_
      first | refine xx_mul ee71_191 ?_ | refine xx_j ee71_191 rfl trivial ?_
      refine xx_j ee71_192 rfl trivial ?_
      refine rr_fa hR ee71_193 (by decide) rfl rfl ?_
      refine xx_j ee71_196 rfl trivial ?_
      refine rr_al 64 hR ee71_197 rfl (by omega) ?_
      refine xx_t ((om_sh_ne (by decide)).trans ((om_sh_ne (by decide)).trans ((om_sh_ne (by decide)).trans eX))) ?_
      first | refine xx_add ee71_198 ?_ | refine xx_j ee71_198 rfl trivial ?_
      refine xx_ge ee71_199 (by omega) (by omega) (fun h => ?_) (fun h => by omega)
      rw [show j = rn M ff_Mod_waits v - 1 by omega, ← hXf] at hR
      refine q_enterC hR hF (hI.unwt hv ha) hv (by omega) (by rw [← hl, hXf, ← hX]; rfl) ?_ (by rw [hXf, ← hX]; exact hL) k
      have : rn (om_unwt M v p) ff_Mod_entered p = 0 := by
        rw [← eE, hXf]
        unfold rn
        rw [om_sh_ne (by decide), om_sh_ne (by decide), om_sh_ne (by decide)]
      omega
    | succ d ihd =>
      intro j s' hj hR hF
      refine xx_j ee71_187 rfl trivial ?_
      refine xx_k ee71_189 4 rfl ?_
      refine xx_j ee71_190 rfl trivial ?_
      first | refine xx_mul ee71_191 ?_ | refine xx_j ee71_191 rfl trivial ?_
      refine xx_j ee71_192 rfl trivial ?_
      refine rr_fa hR ee71_193 (by decide) rfl rfl ?_
      refine xx_j ee71_196 rfl trivial ?_
      refine rr_al 64 hR ee71_197 rfl (by omega) ?_
      refine xx_t ((om_sh_ne (by decide)).trans ((om_sh_ne (by decide)).trans ((om_sh_ne (by decide)).trans eX))) ?_
      first | refine xx_add ee71_198 ?_ | refine xx_j ee71_198 rfl trivial ?_
      refine xx_ge ee71_199 (by omega) (by omega) (fun h => by omega) (fun h => ?_)
      refine xx_j ee71_202 rfl trivial ?_
      refine rr_fa hR ee71_203 (by decide) rfl rfl ?_
      refine xx_j ee71_206 rfl trivial ?_
      refine xx_j ee71_208 rfl trivial ?_
      refine rr_fa hR ee71_209 (by decide) rfl rfl ?_
      refine xx_j ee71_212 rfl trivial ?_
      refine xx_k ee71_214 1 rfl ?_
      first | refine xx_add ee71_215 ?_ | refine xx_j ee71_215 rfl trivial ?_
      refine rr_al 256 hR ee71_216 rfl (by omega) ?_
      refine xx_t ((om_sh_ne (by decide)).trans ((om_sh_ne (by decide)).trans (om_sh_out (Or.inr (by omega))))) ?_
      refine rr_as 256 hR hF ee71_217 rfl (by omega) (fun s hR hF => ?_)
      refine xx_j ee71_218 rfl trivial ?_
      refine rr_fa hR ee71_219 (by decide) rfl rfl ?_
      refine xx_j ee71_222 rfl trivial ?_
      refine xx_j ee71_224 rfl trivial ?_
      refine rr_fa hR ee71_225 (by decide) rfl rfl ?_
      refine xx_j ee71_228 rfl trivial ?_
      refine xx_k ee71_230 1 rfl ?_
      first | refine xx_add ee71_231 ?_ | refine xx_j ee71_231 rfl trivial ?_
      refine rr_al 256 hR ee71_232 rfl (by omega) ?_
      refine xx_t ((fx_up_ne (fun q => absurd q.1 (by decide))).trans ((om_sh_ne (by decide)).trans ((om_sh_out (Or.inr (by omega))).trans (om_sh_ne (by decide))))) ?_
      refine rr_as 256 hR hF ee71_233 rfl (by omega) (fun s hR hF => ?_)
      refine xx_j ee71_234 rfl trivial ?_
      refine rr_fa hR ee71_235 (by decide) rfl rfl ?_
      refine xx_j ee71_238 rfl trivial ?_
      refine xx_j ee71_240 rfl trivial ?_
      refine rr_fa hR ee71_241 (by decide) rfl rfl ?_
      refine xx_j ee71_244 rfl trivial ?_
      refine xx_k ee71_246 1 rfl ?_
      first | refine xx_add ee71_247 ?_ | refine xx_j ee71_247 rfl trivial ?_
      refine rr_al 256 hR ee71_248 rfl (by omega) ?_
      refine xx_t ((fx_up_ne (fun q => absurd q.1 (by decide))).trans ((fx_up_ne (fun q => absurd q.1 (by decide))).trans ((om_sh_out (Or.inr (by omega))).trans ((om_sh_ne (by decide)).trans (om_sh_ne (by decide)))))) ?_
      refine rr_as 256 hR hF ee71_249 rfl (by omega) (fun s hR hF => ?_)
      rw [om_sh3_next X _ _ _ _ _ (by decide) (by decide) (by decide)] at hR
      first | refine xx_inc ee71_250 rfl ?_ | refine xx_j ee71_250 rfl trivial ?_
      refine xx_j ee71_253 rfl trivial ?_
      exact ihd (j + 1) _ (by omega) hR hF
  have hR : rf_ok s o A (om_sh (om_sh (om_sh X ff_Mod_waitGoal (4 * v) 0) ff_Mod_waitLength (4 * v) 0) ff_Mod_waitTag (4 * v) 0) := by
    rw [om_sh_0, om_sh_0, om_sh_0]
    exact hR
  exact sh (rn M ff_Mod_waits v - 1) 0 _ (by omega) hR hF
end
