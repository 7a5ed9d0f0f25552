/-! THE CLASS: cycle -/
section
variable {s : fx_S} {Q : fx_Q} {x m : Nat} {B H P : Nat → Nat} {C : Nat → Nat → Option Nat} {Y : Nat → Nat → Nat} {rt : Nat → List Nat} {K : Nat → Prop} {L : List Nat} {M N M6 : rf_M} {lv : Nat → Prop}
/-- the golden one is no part of the relation -/
theorem RA.rk (h : RA s x B H C Y P m rt K L M) {a b c : Int32} : RA (fx_sfi (fx_sfi (fx_sfi s ff_Rank_goldenNumber (x + 9) a) ff_Rank_goldenSlot (x + 9) b) ff_Rank_goldenSource (x + 9) c) x B H C Y P m rt K L M := ⟨h.sk, h.t, h.g, h.s, h.p, h.w, h.r, h.x, h.m, h.o, h.k, h.f, h.v, h.nm⟩
theorem k_cycle {c : Nat} (h : RA s x B H (fun _ _ => none) Y P m rt K (List.range ((rn M ff_Mod_notes 0))) M) (hJ : JI M) (hN : JN M) (hC : JC M c) (hc : c < 2000) (k : ∀ t H' P' rt', CF x s t → RA t x B H' (fun _ _ => none) Y P' m rt' K (List.range ((rn (om_cy M) ff_Mod_notes 0))) (om_cy M) → Q (some (vI (nI ((rn (om_cy M) ff_Mod_flits 0))))) t) : fx_M mm_Torus_cycle [vR 10 (some x)] s Q := by
  have h64 := hJ.1.all64
  have h0 := hJ.1.all0
  obtain ⟨p1, i1, i2, p3, i3, i3w, p4, i4, g4, y4, i5, i6, i7, hN7, hC7⟩ := cyc_ok hJ hN hC hc
  obtain ⟨C1, C2, C3, C4, C5, C6⟩ := hC
  have all1 : (rn (om_c1 M) ff_Mod_all 0) = (rn M ff_Mod_all 0) := rn_eq (c1_o (by decide) (by decide))
  have all2 : (rn (om_c2 M) ff_Mod_all 0) = (rn M ff_Mod_all 0) := rn_eq (c2_o (by decide) (by decide))
  have all3 : (rn (om_c3 M) ff_Mod_all 0) = (rn M ff_Mod_all 0) := rn_eq (c3_o (by decide) (by decide))
  have rec1 : rn (om_c1 M) ff_Mod_received 0 = rn M ff_Mod_received 0 := rn_eq (c1_o (by decide) (by decide))
  have los1 : rn (om_c1 M) ff_Mod_lost 0 = rn M ff_Mod_lost 0 := rn_eq (c1_o (by decide) (by decide))
  have hN1 : JN (om_c1 M) := hN.to (fun i => c1_o (by decide) (by decide)) (fun i => c1_o (by decide) (by decide)) (fun i => c1_o (by decide) (by decide)) (fun i => c1_o (by decide) (by decide)) (fun i => c1_o (by decide) (by decide))
  have hN3 : JN (om_c3 M) := hN.to (fun i => c3_o (by decide) (by decide)) (fun i => c3_o (by decide) (by decide)) (fun i => c3_o (by decide) (by decide)) (fun i => c3_o (by decide) (by decide)) (fun i => c3_o (by decide) (by decide))
  have gd1 : sgold (om_c1 M) = sgold M := sgold_eq (rn_eq (c1_o (by decide) (by decide))) (rn_eq (c1_o (by decide) (by decide))) (rn_eq (c1_o (by decide) (by decide)))
  have gd3 : sgold (om_c3 M) = sgold M := sgold_eq (rn_eq (c3_o (by decide) (by decide))) (rn_eq (c3_o (by decide) (by decide))) (rn_eq (c3_o (by decide) (by decide)))
  have sg20 : sgold M < 2 ^ 20 := by
    have : sgold M < (rn M ff_Mod_all 0) * 64 := Nat.mod_lt _ (by omega)
    omega
  refine xx_i ml131 ?_
  refine xx_j ee131_0 rfl trivial ?_
  refine xx_c ee131_1 rfl (k_tellNotes (M := om_t0 M) h.t0 hJ.t0 (fun s1 rt1 hF1 hA1 => ?_))
  replace hA1 : RA s1 x B H (fun _ _ => none) Y P m rt1 K (List.range ((rn (om_c1 M) ff_Mod_notes 0))) (om_c1 M) := hA1
  refine xx_j ee131_4 rfl trivial ?_
  refine xx_gr ee131_5 hA1.sk.a.rank rfl rfl ?_
  refine xx_j ee131_8 rfl trivial ?_
  refine xx_c ee131_9 rfl (k_goldenIndex hA1 i1.1 hN1 (fun s2 hG2 hA2 => ?_))
  rw [gd1]
  refine xx_c ee131_12 rfl (k_makeGolden sg20 ?_)
  have hA3 := hA2.rk (a := nI (sgold M % 8)) (b := nI (sgold M / 8 % 8)) (c := nI (sgold M / 8 / 8))
  have hgo : RGo (fx_sfi (fx_sfi (fx_sfi s2 ff_Rank_goldenNumber (x + 9) (nI (sgold M % 8))) ff_Rank_goldenSlot (x + 9) (nI (sgold M / 8 % 8))) ff_Rank_goldenSource (x + 9) (nI (sgold M / 8 / 8))) x (sgold M) := by
    refine ⟨?_, ?_, ?_⟩
    · rw [fi_ne (fun q => absurd q.1 (by decide)), fi_ne (fun q => absurd q.1 (by decide)), fi_same]
    · rw [fi_ne (fun q => absurd q.1 (by decide)), fi_same]
    · rw [fi_same, Nat.div_div_eq_div_mul]
  have hF3 : CF x s (fx_sfi (fx_sfi (fx_sfi s2 ff_Rank_goldenNumber (x + 9) (nI (sgold M % 8))) ff_Rank_goldenSlot (x + 9) (nI (sgold M / 8 % 8))) ff_Rank_goldenSource (x + 9) (nI (sgold M / 8 / 8))) := (((hF1.gf hG2).sfi (by decide)).sfi (by decide)).sfi (by decide)
  generalize fx_sfi (fx_sfi (fx_sfi s2 ff_Rank_goldenNumber (x + 9) (nI (sgold M % 8))) ff_Rank_goldenSlot (x + 9) (nI (sgold M / 8 % 8))) ff_Rank_goldenSource (x + 9) (nI (sgold M / 8 / 8)) = s3 at *
  clear hA2 hA1 hG2
  -- all have arrived
  have fin : ∀ (M4 N4 : rf_M) s4 C4 P4 rt4 x1 x3, M4 = om_c4 M → RA s4 x B H C4 Y P4 m rt4 K (List.range ((rn (om_cy M) ff_Mod_notes 0))) (om_mdw M4 N4) → CM s4 B H P4 m M4 ((rn M4 ff_Mod_all 0)) 0 → NV M4 N4 ((rn M4 ff_Mod_all 0)) → CF x s s4 → fx_W 131 113 [some (vR 10 (some x)), x1, some (vI (nI ((rn M4 ff_Mod_flits 0)))), x3] [] s4 Q := by
    intro M4 N4 s4 C4 P4 rt4 x1 x3 e4 hA hcm hnv hF
    have a4 : (rn M4 ff_Mod_all 0) = (rn M ff_Mod_all 0) := by rw [e4]; exact (rn_eq (y4 _ _ (by decide))).trans ((rn_eq (w0_o (by decide))).trans all3)
    have j4 : JI M4 := by rw [e4]; exact i4
    have w4 : ∀ u, u < (rn M4 ff_Mod_all 0) → WG M4 u := fun u hu => by rw [e4]; exact g4 u (by omega)
    have o4 : ∀ g i, g ≠ ff_Mod_way → g ≠ 768 → ((g < 778 ∧ g ≠ 774) ∨ (815 ≤ g ∧ g < 817)) → M4 g i = M g i := fun g i a b q => by rw [e4, y4 _ _ a, w0_o a, c3_o b q]
    have n4 : JN M4 := hN.to (fun i => o4 _ i (by decide) (by decide) (by decide)) (fun i => o4 _ i (by decide) (by decide) (by decide)) (fun i => o4 _ i (by decide) (by decide) (by decide)) (fun i => o4 _ i (by decide) (by decide) (by decide)) (fun i => o4 _ i (by decide) (by decide) (by decide))
    obtain ⟨q1, q2⟩ := cy_eq j4 n4 w4 (fun v hv => by rw [rn_eq (o4 _ _ (by decide) (by decide) (by decide))]; have := C3 v hv; omega) (by rw [rn_eq (o4 _ _ (by decide) (by decide) (by decide))]; omega) hnv
    have hnm4 : (rn M4 ff_Mod_all 0) ≤ m := by rw [a4]; exact h.nm
    have e6 : om_mv ((rn M4 ff_Mod_flits 0)) 0 (fx_up M4 ff_Mod_deflected 0 (nI (rn M4 ff_Mod_deflected 0 + sdf M4 ((rn M4 ff_Mod_flits 0))))) = om_c6 M := by rw [e4]; rfl
    have ecy : rn M4 ff_Mod_cycle 0 = rn M ff_Mod_cycle 0 := rn_eq (o4 _ _ (by decide) (by decide) (by decide))
    have ecv : M4 ff_Mod_cycle 0 = nI (rn M ff_Mod_cycle 0) := by rw [← ecy]; exact j4.1.ri.f ff_Mod_cycle rfl (by decide)
    have efn : (rn M4 ff_Mod_flits 0) = (rn (om_cy M) ff_Mod_flits 0) := by
      have a : (rn (om_cy M) ff_Mod_flits 0) = (rn (om_c6 M) ff_Mod_flits 0) := rn_pe (by decide)
      have b : (rn (om_c6 M) ff_Mod_flits 0) = (rn (om_c5 M) ff_Mod_flits 0) := rn_eq (mv_o (by decide) (by decide) (by decide) _ _ _)
      have d : (rn (om_c5 M) ff_Mod_flits 0) = (rn (om_c4 M) ff_Mod_flits 0) := rn_pe (by decide)
      rw [a, b, d, e4]
    have loop : ∀ d j t, j + d = (rn M4 ff_Mod_all 0) → ARV s4 t B H m j → CF x s t → fx_W 131 115 [some (vR 10 (some x)), x1, some (vI (nI ((rn M4 ff_Mod_flits 0)))), some (vI (nI j))] [] t Q := by
      intro d
      induction d with
      | zero =>
        intro j t hj ha hFt
        obtain rfl : j = (rn M4 ff_Mod_all 0) := by omega
        have hA6 := hA.fin6 hcm j4 w4 q1 ha
        rw [q2, e6] at hA6
        have hgz : fx_fi t ff_Grid_size (x + 3) = nI ((rn M4 ff_Mod_all 0)) := by
          rw [hA6.g.a.1, ← e6, rn_eq (mv_o (by decide) (by decide) (by decide) _ _ _), rn_pe (by decide)]
        refine xx_j ee131_115 rfl trivial ?_
        refine xx_j ee131_116 rfl trivial ?_
        refine xx_gr ee131_117 hA6.sk.a.grid rfl rfl ?_
        refine xx_gi ee131_120 hgz rfl rfl ?_
        refine xx_ge ee131_123 (by omega) (by omega) (fun _ => ?_) (fun h => by omega)
        have enw : fx_fi t ff_Torus_now x = nI (rn M ff_Mod_cycle 0) := by
          rw [hA6.t.now, ← e6, mv_o (by decide) (by decide) (by decide), fx_up_ne (fun q => absurd q.1 (by decide))]
          exact ecv
        refine xx_j ee131_141 rfl trivial ?_
        refine xx_j ee131_142 rfl trivial ?_
        refine xx_gi ee131_143 enw rfl rfl ?_
        refine xx_k ee131_146 1 rfl ?_
        first | refine xx_add ee131_147 ?_ | refine xx_j ee131_147 rfl trivial ?_
        refine xx_pi ee131_148 rfl ?_
        refine xx_j ee131_151 rfl trivial ?_
        rw [efn]
        have hA7 := hA6.now (y := nI (rn M ff_Mod_cycle 0 + 1))
        exact xx_ri ee131_152 rt131 (k _ _ _ _ (hFt.sfi (by decide)) hA7)
      | succ d ih =>
        intro j t hj ha hFt
        have hjm : j < m := by omega
        obtain ⟨F, A, et, f1, f2, f3⟩ := id ha
        have h1 : fx_fr t ff_Torus_grid x = some (x + 3) := by rw [et]; exact hA.sk.a.grid
        have h2 : fx_fi t ff_Grid_size (x + 3) = nI ((rn M4 ff_Mod_all 0)) := by rw [et]; exact hA.g.a.1.trans (by rw [mdw_rn (by decide)])
        have h3 : fx_fr t ff_Torus_nodes x = some (x + 12) := by rw [et]; exact hA.sk.a.nodes
        have h4 : fx_ln t (x + 12) = 64 := by rw [et]; exact hA.sk.a.lnod
        have h5 : fx_ar t (x + 12) j = some (B j) := by
          rw [et]
          show A (x + 12) j = _
          rw [f3 _ (fun v _ hv q => by have := hA.sk.c.in_ v hv; omega)]
          exact (hA.sk.b j hjm).at
        refine xx_j ee131_115 rfl trivial ?_
        refine xx_j ee131_116 rfl trivial ?_
        refine xx_gr ee131_117 h1 rfl rfl ?_
        refine xx_gi ee131_120 h2 rfl rfl ?_
        refine xx_ge ee131_123 (by omega) (by omega) (fun h => by omega) (fun _ => ?_)
        refine xx_j ee131_126 rfl trivial ?_
        refine xx_gr ee131_127 h3 rfl rfl ?_
        refine xx_j ee131_130 rfl trivial ?_
        refine xx_rl ee131_131 h4 (by omega) (by decide) h5 rfl ?_
        refine xx_c ee131_132 rfl (k_arrive hA hjm ha (fun t' ha' hK => ?_))
        first | refine xx_inc ee131_135 rfl ?_ | refine xx_j ee131_135 rfl trivial ?_
        refine xx_j ee131_138 rfl trivial ?_
        exact ih (j + 1) t' (by omega) ha' (hFt.tr hK.1)
    refine xx_k ee131_113 0 rfl ?_
    refine xx_j ee131_114 rfl trivial ?_
    exact loop ((rn M4 ff_Mod_all 0)) 0 s4 (by omega) ⟨fx_fr s4, fx_ar s4, sarr_id.symm, fun v hv => ⟨by rw [if_neg (by omega)]; exact hA.f.here v hv, by rw [if_neg (by omega)]; exact hA.f.com v hv⟩, fun v i hv => by omega, fun _ _ => rfl⟩ hF
  -- they move
  have mov : ∀ d v (M' N' : rf_M) s' C' P' rt' x1, v + d = (rn M ff_Mod_all 0) → (rn M' ff_Mod_all 0) = (rn M ff_Mod_all 0) → JI M' → JN M' → sgold M' = sgold M → (∀ f, f < (rn M' ff_Mod_flits 0) → v ≤ rn M' ff_Mod_at f → M' ff_Mod_way f = fx_neg) → (∀ i, i < 64 → rn M' ff_Mod_went i + 300 < 10000000) → rn M' ff_Mod_deflected 0 + 300 < 10000000 → om_gvs d v M' = om_c4 M → RA s' x B H C' Y P' m rt' K (List.range ((rn (om_cy M) ff_Mod_notes 0))) (om_mdw M' N') → CM s' B H P' m M' v 0 → NV M' N' v → RGo s' x (sgold M) → CF x s s' → fx_W 131 83 [some (vR 10 (some x)), x1, some (vI (nI (sml M' v))), some (vI (nI v))] [] s' Q := by
    intro d
    induction d with
    | zero =>
      intro v M' N' s' C' P' rt' x1 hd hA' hJ' hN' hgd h00 hww hdd hm hA hcm hnv hg hF
      have hm' : M' = om_c4 M := hm
      obtain rfl : v = (rn M' ff_Mod_all 0) := by omega
      refine xx_j ee131_83 rfl trivial ?_
      refine xx_j ee131_84 rfl trivial ?_
      refine xx_gr ee131_85 hA.sk.a.grid rfl rfl ?_
      refine xx_gi ee131_88 (hA.g.a.1.trans (by rw [mdw_rn (by decide)])) rfl rfl ?_
      refine xx_ge ee131_91 (by omega) (by omega) (fun _ => ?_) (fun h => by omega)
      rw [sml_all hJ'.1.net.2.2]
      exact fin M' N' s' C' P' rt' x1 _ hm' hA hcm hnv hF
    | succ d ih =>
      intro v M' N' s' C' P' rt' x1 hd hA' hJ' hN' hgd h00 hww hdd hm hA hcm hnv hg hF
      obtain ⟨q1, q2, q3, q4⟩ := gv_ok (v := v) hJ' (by omega) (fun f hf e => h00 f hf (by omega))
      have hvm : v < m := by have := h.nm; omega
      have nd := hA.sk.b v hvm
      have hs4 : sfa M' v ≤ (rn M' ff_Mod_flits 0) := sp_cnt_le _ _
      have hsl : sml M' v ≤ (rn M' ff_Mod_flits 0) := sp_cnt_le _ _
      have hsd : sdl M' v ≤ (rn M' ff_Mod_flits 0) := sp_cnt_le _ _
      have h257 := hJ'.1.ri.fNl
      have edf : rn (om_mdw M' N') ff_Mod_deflected 0 = rn M' ff_Mod_deflected 0 + sdl M' v := rn_of (by rw [mdw_y (by decide)]; exact hnv.2.1) (by omega)
      have ewt : rn (om_mdw M' N') ff_Mod_went v = rn M' ff_Mod_went v := rn_eq (by rw [mdw_y (by decide), hnv.1 v, if_neg (by omega)])
      refine xx_j ee131_83 rfl trivial ?_
      refine xx_j ee131_84 rfl trivial ?_
      refine xx_gr ee131_85 hA.sk.a.grid rfl rfl ?_
      refine xx_gi ee131_88 (hA.g.a.1.trans (by rw [mdw_rn (by decide)])) rfl rfl ?_
      refine xx_ge ee131_91 (by omega) (by omega) (fun h => by omega) (fun _ => ?_)
      refine xx_j ee131_94 rfl trivial ?_
      refine xx_j ee131_95 rfl trivial ?_
      refine xx_j ee131_96 rfl trivial ?_
      refine xx_gr ee131_97 hA.sk.a.nodes rfl rfl ?_
      refine xx_j ee131_100 rfl trivial ?_
      refine xx_rl ee131_101 hA.sk.a.lnod (by omega) (by decide) nd.at rfl ?_
      refine xx_c ee131_102 rfl (k_moveFrom hA hcm.mdw (hJ'.nv hnv (by omega) hww hdd) hN'.mdw (by rw [mdw_gold, hgd]; exact hg) (by rw [mdw_rn (by decide)]; omega) (fun f hf e => ?_) (by rw [edf]; omega) (fun t C2 hK hA2 hcm2 => ?_))
      · rw [mdw_rn (by decide)] at hf e
        rw [mdw_o (by decide)]
        exact h00 f hf (by omega)
      · rw [mdw_gv] at hA2 hcm2
        rw [edf, ewt, mdw_sfa, mdw_sdv, mdw_upy (by decide), mdw_upy (by decide)] at hA2
        rw [mdw_sfa]
        first | refine xx_add ee131_105 ?_ | refine xx_j ee131_105 rfl trivial ?_
        refine xx_j ee131_106 rfl trivial ?_
        first | refine xx_inc ee131_107 rfl ?_ | refine xx_j ee131_107 rfl trivial ?_
        refine xx_j ee131_110 rfl trivial ?_
        have e1 : (rn (om_gv M' v) ff_Mod_all 0) = (rn M' ff_Mod_all 0) := q4.en (by decide)
        have e2 : (rn (om_gv M' v) ff_Mod_flits 0) = (rn M' ff_Mod_flits 0) := q4.en (by decide)
        have e3 : ∀ f, rn (om_gv M' v) ff_Mod_at f = rn M' ff_Mod_at f := fun f => q4.en (by decide)
        have := ih (v + 1) (om_gv M' v) _ t C2 P' rt' x1 (by omega) (by omega) q2 (hN'.to (fun i => q4 _ i (fun q => absurd q.1 (by decide))) (fun i => q4 _ i (fun q => absurd q.1 (by decide))) (fun i => q4 _ i (fun q => absurd q.1 (by decide))) (fun i => q4 _ i (fun q => absurd q.1 (by decide))) (fun i => q4 _ i (fun q => absurd q.1 (by decide)))) ((sgold_eq (q4.en (by decide)) (q4.en (by decide)) (q4.en (by decide))).trans hgd) (fun f hf e => by
          rw [e2] at hf
          rw [e3] at e
          rw [q4 _ f (fun q => by omega)]
          exact h00 f hf (by omega)) (fun i hi => by rw [q4.en (by decide)]; exact hww i hi) (by rw [q4.en (by decide)]; exact hdd) hm hA2 hcm2.unmdw (hnv.step q4) (hK.go hg) (hF.tr hK.1)
        rw [sml_wx q4, sml_s] at this
        exact this
  -- they enter
  have ent : ∀ d v (M' : rf_M) s' P' rt' x3, v + d = (rn M ff_Mod_all 0) → (rn M' ff_Mod_all 0) = (rn M ff_Mod_all 0) → JI M' → (∀ u, v ≤ u → u < 64 → rn M' ff_Mod_hungry u < 900000) → om_le (sfav (om_c2 M)) d v M' = om_c3 M → RA s' x B H (fun _ _ => none) Y P' m rt' K (List.range ((rn M' ff_Mod_notes 0))) M' → RGo s' x (sgold M) → CF x s s' → fx_W 131 51 [some (vR 10 (some x)), some (vI (oI (sfav (om_c2 M)))), some (vI (nI v)), x3] [] s' Q := by
    intro d
    induction d with
    | zero =>
      intro v M' s' P' rt' x3 hd hA' hJ' hh hm hA hg hF
      refine xx_j ee131_51 rfl trivial ?_
      refine xx_j ee131_52 rfl trivial ?_
      refine xx_gr ee131_53 hA.sk.a.grid rfl rfl ?_
      refine xx_gi ee131_56 hA.g.a.1 rfl rfl ?_
      refine xx_ge ee131_59 (by omega) (by omega) (fun _ => ?_) (fun h => by omega)
      have hm' : M' = om_c3 M := hm
      rw [hm'] at hA
      refine xx_k ee131_79 0 rfl ?_
      refine xx_j ee131_80 rfl trivial ?_
      refine xx_k ee131_81 0 rfl ?_
      refine xx_j ee131_82 rfl trivial ?_
      have hn3 : (rn (om_c3 M) ff_Mod_notes 0) = (rn (om_cy M) ff_Mod_notes 0) := by
        have a : (rn (om_cy M) ff_Mod_notes 0) = (rn (om_c6 M) ff_Mod_notes 0) := rn_pe (by decide)
        have b : (rn (om_c6 M) ff_Mod_notes 0) = (rn (om_c5 M) ff_Mod_notes 0) := rn_eq (mv_o (by decide) (by decide) (by decide) _ _ _)
        have e : (rn (om_c5 M) ff_Mod_notes 0) = (rn (om_c4 M) ff_Mod_notes 0) := rn_pe (by decide)
        rw [a, b, e, rn_eq (y4 _ _ (by decide)), rn_eq (w0_o (by decide))]
      have n3w : (rn (om_w0 (om_c3 M)) ff_Mod_all 0) = (rn M ff_Mod_all 0) := (rn_eq (w0_o (by decide))).trans all3
      have f3w : (rn (om_w0 (om_c3 M)) ff_Mod_flits 0) = (rn (om_c3 M) ff_Mod_flits 0) := rn_eq (w0_o (by decide))
      have hA2 := hA.w0
      rw [hn3] at hA2
      have eid : om_mdw (om_w0 (om_c3 M)) (om_w0 (om_c3 M)) = om_w0 (om_c3 M) := by
        funext g i
        unfold om_mdw
        split <;> rfl
      rw [← eid] at hA2
      have hN3w : JN (om_w0 (om_c3 M)) := hN3.to (fun i => w0_o (by decide)) (fun i => w0_o (by decide)) (fun i => w0_o (by decide)) (fun i => w0_o (by decide)) (fun i => w0_o (by decide))
      have := mov ((rn M ff_Mod_all 0)) 0 (om_w0 (om_c3 M)) (om_w0 (om_c3 M)) s' _ P' rt' (some (vI (oI (sfav (om_c2 M))))) (by omega) n3w i3w hN3w ((sgold_eq (rn_eq (w0_o (by decide))) (rn_eq (w0_o (by decide))) (rn_eq (w0_o (by decide)))).trans gd3) (fun f hf _ => w0_way (by rw [f3w] at hf; exact hf)) (fun i hi => by
          rw [rn_eq (M := om_c3 M) (w0_o (by decide)), rn_eq (M := M) (c3_o (by decide) (by decide))]
          have := C3 i hi
          omega) (by
          rw [rn_eq (M := om_c3 M) (w0_o (by decide)), rn_eq (M := M) (c3_o (by decide) (by decide))]
          omega) rfl hA2 (fun u w hu hw => by rw [swc_0]; exact hA2.f.cm u w hu hw) (NV.zero i3w.1) hg hF
      rw [sml_0] at this
      exact this
    | succ d ih =>
      intro v M' s' P' rt' x3 hd hA' hJ' hh hm hA hg hF
      have hvm : v < m := by have := h.nm; omega
      have nd := hA.sk.b v hvm
      obtain ⟨-, l1⟩ := JI.le1 (only := sfav (om_c2 M)) (v := v) hJ' (by omega) (hh v (by omega) (by omega))
      refine xx_j ee131_51 rfl trivial ?_
      refine xx_j ee131_52 rfl trivial ?_
      refine xx_gr ee131_53 hA.sk.a.grid rfl rfl ?_
      refine xx_gi ee131_56 hA.g.a.1 rfl rfl ?_
      refine xx_ge ee131_59 (by omega) (by omega) (fun h => by omega) (fun _ => ?_)
      refine xx_j ee131_62 rfl trivial ?_
      refine xx_j ee131_63 rfl trivial ?_
      refine xx_gr ee131_64 hA.sk.a.nodes rfl rfl ?_
      refine xx_j ee131_67 rfl trivial ?_
      refine xx_rl ee131_68 hA.sk.a.lnod (by omega) (by decide) nd.at rfl ?_
      refine xx_j ee131_69 rfl trivial ?_
      refine xx_c ee131_70 rfl (k_enterAt hA hJ' (by omega) (hh v (by omega) (by omega)) (fun b hb => ?_) (fun t rt2 P2 hK hA2 => ?_))
      · unfold sfav at hb
        cases hq : sp_first (fun k => decide (rn (om_c2 M) ff_Mod_patience 0 ≤ rn (om_c2 M) ff_Mod_hungry ((rn (om_c2 M) ff_Mod_turn 0 + k) % rn (om_c2 M) ff_Mod_all 0))) 0 (rn (om_c2 M) ff_Mod_all 0) with
        | none => rw [hq] at hb; cases hb
        | some z =>
          rw [hq] at hb
          cases hb
          exact Nat.lt_of_lt_of_le (Nat.mod_lt (rn (om_c2 M) ff_Mod_turn 0 + z) (show 0 < (rn (om_c2 M) ff_Mod_all 0) by omega)) (by omega)
      · first | refine xx_inc ee131_73 rfl ?_ | refine xx_j ee131_73 rfl trivial ?_
        refine xx_j ee131_76 rfl trivial ?_
        exact ih (v + 1) (om_le1 M' (sfav (om_c2 M)) v) t P2 rt2 _ (by omega) ((rn_eq (le1_o (by decide))).trans hA') l1 (fun u hu hu2 => by rw [le1_hG (by omega)]; exact hh u (by omega) hu2) hm hA2 (hK.go hg) (hF.tr hK.1)
  -- they are received
  have rcv : ∀ d v (M' : rf_M) s' rt' x2 x3, v + d = (rn M ff_Mod_all 0) → (rn M' ff_Mod_all 0) = (rn M ff_Mod_all 0) → JI M' → JN M' → sgold M' = sgold M → rn M' ff_Mod_received 0 + 2 * d < 9000000 → rn M' ff_Mod_lost 0 + 2 * d < 9000000 → om_rcs d v M' = om_c2 M → RA s' x B H (fun _ _ => none) Y P m rt' K (List.range ((rn M' ff_Mod_notes 0))) M' → RGo s' x (sgold M) → CF x s s' → fx_W 131 17 [some (vR 10 (some x)), some (vI (nI v)), x2, x3] [] s' Q := by
    intro d
    induction d with
    | zero =>
      intro v M' s' rt' x2 x3 hd hA' hJ' hN' hgd hr hl hm hA hg hF
      refine xx_j ee131_17 rfl trivial ?_
      refine xx_j ee131_18 rfl trivial ?_
      refine xx_gr ee131_19 hA.sk.a.grid rfl rfl ?_
      refine xx_gi ee131_22 hA.g.a.1 rfl rfl ?_
      refine xx_ge ee131_25 (by omega) (by omega) (fun _ => ?_) (fun h => by omega)
      have hm' : M' = om_c2 M := hm
      rw [hm'] at hA
      refine xx_j ee131_44 rfl trivial ?_
      refine xx_c ee131_45 rfl (k_starved hA i2.1.ri (by omega) (by omega) ?_)
      refine xx_j ee131_48 rfl trivial ?_
      refine xx_k ee131_49 0 rfl ?_
      refine xx_j ee131_50 rfl trivial ?_
      exact ent ((rn M ff_Mod_all 0)) 0 (om_c2 M) s' P rt' x3 (by omega) all2 i2 (fun u _ hu => by
        rw [rn_eq (M := M) (c2_o (by decide) (by decide))]
        have := C2 u hu
        omega) rfl hA hg hF
    | succ d ih =>
      intro v M' s' rt' x2 x3 hd hA' hJ' hN' hgd hr hl hm hA hg hF
      have hvm : v < m := by have := h.nm; omega
      have nd := hA.sk.b v hvm
      obtain ⟨a1, a2, a3⟩ := hJ'.rc1 (v := v) (by omega) (by omega)
      obtain ⟨b1, b2, b3⟩ := a1.rc1 (v := v) (by omega) (by omega)
      refine xx_j ee131_17 rfl trivial ?_
      refine xx_j ee131_18 rfl trivial ?_
      refine xx_gr ee131_19 hA.sk.a.grid rfl rfl ?_
      refine xx_gi ee131_22 hA.g.a.1 rfl rfl ?_
      refine xx_ge ee131_25 (by omega) (by omega) (fun h => by omega) (fun _ => ?_)
      refine xx_j ee131_28 rfl trivial ?_
      refine xx_j ee131_29 rfl trivial ?_
      refine xx_gr ee131_30 hA.sk.a.nodes rfl rfl ?_
      refine xx_j ee131_33 rfl trivial ?_
      refine xx_rl ee131_34 hA.sk.a.lnod (by omega) (by decide) nd.at rfl ?_
      refine xx_c ee131_35 rfl (k_receiveAt hA hJ' hN' (by rw [hgd]; exact hg) (by omega) (by omega) (by omega) (fun t rt2 hK hA2 => ?_))
      first | refine xx_inc ee131_38 rfl ?_ | refine xx_j ee131_38 rfl trivial ?_
      refine xx_j ee131_41 rfl trivial ?_
      exact ih (v + 1) (om_rc1 (om_rc1 M' v) v) t rt2 _ _ (by omega) (by rw [rc1_rn (by decide), rc1_rn (by decide)]; exact hA') b1 hN'.rc1.rc1 (by rw [rc1_gold, rc1_gold]; exact hgd) (by omega) (by omega) hm hA2 (hK.go hg) (hF.tr hK.1)
  refine xx_k ee131_15 0 rfl ?_
  refine xx_j ee131_16 rfl trivial ?_
  exact rcv ((rn M ff_Mod_all 0)) 0 (om_c1 M) s3 rt1 _ _ (by omega) all1 i1 hN1 gd1 (by omega) (by omega) rfl hA3 hgo hF3
end
