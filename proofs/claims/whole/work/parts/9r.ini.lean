section
variable {s s0 t u : fx_S} {Q : fx_Q} {x m a b c : Nat}
/-- a grid -/
def cm_grd (s : fx_S) (a : Nat) : fx_S := fx_sfr (nwa (fx_sfr (nwa (fx_sfr (nwa (fx_sfr (nwa (fx_sfr (nwa s (a + 1) 70 256) ff_Grid_besides a (some (a + 1))) (a + 2) 71 256) ff_Grid_opens a (some (a + 2))) (a + 3) 70 4096) ff_Grid_stepsTo a (some (a + 3))) (a + 4) 71 64) ff_Grid_isCounted a (some (a + 4))) (a + 5) 70 64) ff_Grid_reached a (some (a + 5))
theorem k_gridI (hn : fx_nx s = a + 1) (k : Q none (cm_grd s a)) : fx_M mm_Grid_init [vR 13 (some a)] s Q := by
  refine xx_i ml53 ?_
  refine xx_j ee53_0 rfl trivial ?_
  refine xx_j ee53_1 rfl trivial ?_
  refine xx_j ee53_4 rfl trivial ?_
  refine xx_ks ee53_5 256 rfl ?_
  refine xx_nwi ee53_8 rfl (by omega) hn ?_
  first | refine xx_pr ee53_10 rfl rfl (Or.inl rfl) ?_ | refine xx_pr ee53_10 rfl rfl (Or.inr rfl) ?_
  refine xx_j ee53_13 rfl trivial ?_
  refine xx_ks ee53_14 256 rfl ?_
  refine xx_nwi ee53_17 rfl (by omega) (a := a + 2) rfl ?_
  first | refine xx_pr ee53_19 rfl rfl (Or.inl rfl) ?_ | refine xx_pr ee53_19 rfl rfl (Or.inr rfl) ?_
  refine xx_j ee53_22 rfl trivial ?_
  refine xx_ks ee53_23 4096 rfl ?_
  refine xx_nwi ee53_26 rfl (by omega) (a := a + 3) rfl ?_
  first | refine xx_pr ee53_28 rfl rfl (Or.inl rfl) ?_ | refine xx_pr ee53_28 rfl rfl (Or.inr rfl) ?_
  refine xx_j ee53_31 rfl trivial ?_
  refine xx_kb ee53_32 64 rfl ?_
  refine xx_nwi ee53_34 rfl (by omega) (a := a + 4) rfl ?_
  first | refine xx_pr ee53_36 rfl rfl (Or.inl rfl) ?_ | refine xx_pr ee53_36 rfl rfl (Or.inr rfl) ?_
  refine xx_j ee53_39 rfl trivial ?_
  refine xx_kb ee53_40 64 rfl ?_
  refine xx_nwi ee53_42 rfl (by omega) (a := a + 5) rfl ?_
  first | refine xx_pr ee53_44 rfl rfl (Or.inl rfl) ?_ | refine xx_pr ee53_44 rfl rfl (Or.inr rfl) ?_
  exact xx_rv ee53_47 k
theorem k_rankI (k : Q none s) : fx_M mm_Rank_init [vR 17 (some a)] s Q := by
  refine xx_i ml60 ?_
  refine xx_j ee60_0 rfl trivial ?_
  refine xx_j ee60_1 rfl trivial ?_
  exact xx_rv ee60_4 k
/-- a router -/
def cm_rou (s : fx_S) (a : Nat) : fx_S := fx_sfr (nwa (fx_sfr (nwa (fx_sfr (nwo (fx_sfr (cm_grd (nwo (fx_sfr (nwa s (a + 1) 42 4) ff_Router_out a (some (a + 1))) (a + 2) 13 7) (a + 2)) ff_Router_grid a (some (a + 2))) (a + 8) 17 3) ff_Router_rank a (some (a + 8))) (a + 9) 42 4) ff_Router_ranked a (some (a + 9))) (a + 10) 42 4) ff_Router_middle a (some (a + 10))
theorem k_routerI (hn : fx_nx s = a + 1) (k : Q none (cm_rou s a)) : fx_M mm_Router_init [vR 19 (some a)] s Q := by
  refine xx_i ml94 ?_
  refine xx_j ee94_0 rfl trivial ?_
  refine xx_j ee94_1 rfl trivial ?_
  refine xx_j ee94_4 rfl trivial ?_
  refine xx_k ee94_5 4 rfl ?_
  refine xx_nwa ee94_6 rfl (by omega) hn ?_
  first | refine xx_pr ee94_9 rfl rfl (Or.inl rfl) ?_ | refine xx_pr ee94_9 rfl rfl (Or.inr rfl) ?_
  refine xx_j ee94_12 rfl trivial ?_
  refine xx_nw ee94_13 rfl rfl (a := a + 2) rfl ?_
  refine xx_j ee94_16 rfl trivial ?_
  refine xx_c ee94_17 rfl (k_gridI (a := a + 2) rfl ?_)
  first | refine xx_pr ee94_20 rfl rfl (Or.inl rfl) ?_ | refine xx_pr ee94_20 rfl rfl (Or.inr rfl) ?_
  refine xx_j ee94_23 rfl trivial ?_
  refine xx_nw ee94_24 rfl rfl (a := a + 8) rfl ?_
  refine xx_j ee94_27 rfl trivial ?_
  refine xx_c ee94_28 rfl (k_rankI ?_)
  first | refine xx_pr ee94_31 rfl rfl (Or.inl rfl) ?_ | refine xx_pr ee94_31 rfl rfl (Or.inr rfl) ?_
  refine xx_j ee94_34 rfl trivial ?_
  refine xx_k ee94_35 4 rfl ?_
  refine xx_nwa ee94_36 rfl (by omega) (a := a + 9) rfl ?_
  first | refine xx_pr ee94_39 rfl rfl (Or.inl rfl) ?_ | refine xx_pr ee94_39 rfl rfl (Or.inr rfl) ?_
  refine xx_j ee94_42 rfl trivial ?_
  refine xx_k ee94_43 4 rfl ?_
  refine xx_nwa ee94_44 rfl (by omega) (a := a + 10) rfl ?_
  first | refine xx_pr ee94_47 rfl rfl (Or.inl rfl) ?_ | refine xx_pr ee94_47 rfl rfl (Or.inr rfl) ?_
  exact xx_rv ee94_50 k
/-- the torus without nodes -/
def cm_tor (s : fx_S) (x : Nat) : fx_S := fx_sfr (nwo (fx_sfr (nwo (fx_sfr (nwa (fx_sfr (fx_sfr (fx_sfr (cm_rou (nwo s (x + 1) 19 5) (x + 1)) ff_Torus_router x (some (x + 1))) ff_Torus_grid x (some (x + 3))) ff_Torus_rank x (some (x + 9))) (x + 12) 44 64) ff_Torus_nodes x (some (x + 12))) (x + 13) 20 3) ff_Torus_mail x (some (x + 13))) (x + 14) 20 3) ff_Torus_sparePackets x (some (x + 14))
theorem tor_sk : SK1 (cm_tor (nwo s x 10 16) x) x := by
  unfold SK1 cm_tor cm_rou cm_grd
  exact ⟨(by (repeat (first | rw [fr_same] | rw [fi_same] | rw [ar_same] | rw [n_r1] | rw [n_i1] | rw [n_al1] | rw [n_aa1] | rw [n_r2] | rw [n_i2] | rw [n_l2] | rw [n_a2] | rw [w_fr] | rw [w_fi] | rw [w_l1] | rw [w_l2] | rw [w_a1] | rw [w_a2] | rw [w_i1] | rw [w_i2] | rw [w_i3] | rw [n_r3 (by omega)] | rw [n_i3 (by omega)] | rw [n_l3 (by omega)] | rw [n_a3 (by omega)] | rw [fr_ne (fun q => absurd q.1 (by decide))] | rw [fr_ne (fun q => absurd q.2 (by omega))] | rw [fi_ne (fun q => absurd q.1 (by decide))] | rw [fi_ne (fun q => absurd q.2 (by omega))] | rw [ar_ne (fun q => absurd q.1 (by omega))] | rw [ar_ne (fun q => absurd q.2 (by omega))])); (try first | rfl | assumption)), (by (repeat (first | rw [fr_same] | rw [fi_same] | rw [ar_same] | rw [n_r1] | rw [n_i1] | rw [n_al1] | rw [n_aa1] | rw [n_r2] | rw [n_i2] | rw [n_l2] | rw [n_a2] | rw [w_fr] | rw [w_fi] | rw [w_l1] | rw [w_l2] | rw [w_a1] | rw [w_a2] | rw [w_i1] | rw [w_i2] | rw [w_i3] | rw [n_r3 (by omega)] | rw [n_i3 (by omega)] | rw [n_l3 (by omega)] | rw [n_a3 (by omega)] | rw [fr_ne (fun q => absurd q.1 (by decide))] | rw [fr_ne (fun q => absurd q.2 (by omega))] | rw [fi_ne (fun q => absurd q.1 (by decide))] | rw [fi_ne (fun q => absurd q.2 (by omega))] | rw [ar_ne (fun q => absurd q.1 (by omega))] | rw [ar_ne (fun q => absurd q.2 (by omega))])); (try first | rfl | assumption)), (by (repeat (first | rw [fr_same] | rw [fi_same] | rw [ar_same] | rw [n_r1] | rw [n_i1] | rw [n_al1] | rw [n_aa1] | rw [n_r2] | rw [n_i2] | rw [n_l2] | rw [n_a2] | rw [w_fr] | rw [w_fi] | rw [w_l1] | rw [w_l2] | rw [w_a1] | rw [w_a2] | rw [w_i1] | rw [w_i2] | rw [w_i3] | rw [n_r3 (by omega)] | rw [n_i3 (by omega)] | rw [n_l3 (by omega)] | rw [n_a3 (by omega)] | rw [fr_ne (fun q => absurd q.1 (by decide))] | rw [fr_ne (fun q => absurd q.2 (by omega))] | rw [fi_ne (fun q => absurd q.1 (by decide))] | rw [fi_ne (fun q => absurd q.2 (by omega))] | rw [ar_ne (fun q => absurd q.1 (by omega))] | rw [ar_ne (fun q => absurd q.2 (by omega))])); (try first | rfl | assumption)), (by (repeat (first | rw [fr_same] | rw [fi_same] | rw [ar_same] | rw [n_r1] | rw [n_i1] | rw [n_al1] | rw [n_aa1] | rw [n_r2] | rw [n_i2] | rw [n_l2] | rw [n_a2] | rw [w_fr] | rw [w_fi] | rw [w_l1] | rw [w_l2] | rw [w_a1] | rw [w_a2] | rw [w_i1] | rw [w_i2] | rw [w_i3] | rw [n_r3 (by omega)] | rw [n_i3 (by omega)] | rw [n_l3 (by omega)] | rw [n_a3 (by omega)] | rw [fr_ne (fun q => absurd q.1 (by decide))] | rw [fr_ne (fun q => absurd q.2 (by omega))] | rw [fi_ne (fun q => absurd q.1 (by decide))] | rw [fi_ne (fun q => absurd q.2 (by omega))] | rw [ar_ne (fun q => absurd q.1 (by omega))] | rw [ar_ne (fun q => absurd q.2 (by omega))])); (try first | rfl | assumption)), (by (repeat (first | rw [fr_same] | rw [fi_same] | rw [ar_same] | rw [n_r1] | rw [n_i1] | rw [n_al1] | rw [n_aa1] | rw [n_r2] | rw [n_i2] | rw [n_l2] | rw [n_a2] | rw [w_fr] | rw [w_fi] | rw [w_l1] | rw [w_l2] | rw [w_a1] | rw [w_a2] | rw [w_i1] | rw [w_i2] | rw [w_i3] | rw [n_r3 (by omega)] | rw [n_i3 (by omega)] | rw [n_l3 (by omega)] | rw [n_a3 (by omega)] | rw [fr_ne (fun q => absurd q.1 (by decide))] | rw [fr_ne (fun q => absurd q.2 (by omega))] | rw [fi_ne (fun q => absurd q.1 (by decide))] | rw [fi_ne (fun q => absurd q.2 (by omega))] | rw [ar_ne (fun q => absurd q.1 (by omega))] | rw [ar_ne (fun q => absurd q.2 (by omega))])); (try first | rfl | assumption)), (by (repeat (first | rw [fr_same] | rw [fi_same] | rw [ar_same] | rw [n_r1] | rw [n_i1] | rw [n_al1] | rw [n_aa1] | rw [n_r2] | rw [n_i2] | rw [n_l2] | rw [n_a2] | rw [w_fr] | rw [w_fi] | rw [w_l1] | rw [w_l2] | rw [w_a1] | rw [w_a2] | rw [w_i1] | rw [w_i2] | rw [w_i3] | rw [n_r3 (by omega)] | rw [n_i3 (by omega)] | rw [n_l3 (by omega)] | rw [n_a3 (by omega)] | rw [fr_ne (fun q => absurd q.1 (by decide))] | rw [fr_ne (fun q => absurd q.2 (by omega))] | rw [fi_ne (fun q => absurd q.1 (by decide))] | rw [fi_ne (fun q => absurd q.2 (by omega))] | rw [ar_ne (fun q => absurd q.1 (by omega))] | rw [ar_ne (fun q => absurd q.2 (by omega))])); (try first | rfl | assumption)), (by (repeat (first | rw [fr_same] | rw [fi_same] | rw [ar_same] | rw [n_r1] | rw [n_i1] | rw [n_al1] | rw [n_aa1] | rw [n_r2] | rw [n_i2] | rw [n_l2] | rw [n_a2] | rw [w_fr] | rw [w_fi] | rw [w_l1] | rw [w_l2] | rw [w_a1] | rw [w_a2] | rw [w_i1] | rw [w_i2] | rw [w_i3] | rw [n_r3 (by omega)] | rw [n_i3 (by omega)] | rw [n_l3 (by omega)] | rw [n_a3 (by omega)] | rw [fr_ne (fun q => absurd q.1 (by decide))] | rw [fr_ne (fun q => absurd q.2 (by omega))] | rw [fi_ne (fun q => absurd q.1 (by decide))] | rw [fi_ne (fun q => absurd q.2 (by omega))] | rw [ar_ne (fun q => absurd q.1 (by omega))] | rw [ar_ne (fun q => absurd q.2 (by omega))])); (try first | rfl | assumption)), (by (repeat (first | rw [fr_same] | rw [fi_same] | rw [ar_same] | rw [n_r1] | rw [n_i1] | rw [n_al1] | rw [n_aa1] | rw [n_r2] | rw [n_i2] | rw [n_l2] | rw [n_a2] | rw [w_fr] | rw [w_fi] | rw [w_l1] | rw [w_l2] | rw [w_a1] | rw [w_a2] | rw [w_i1] | rw [w_i2] | rw [w_i3] | rw [n_r3 (by omega)] | rw [n_i3 (by omega)] | rw [n_l3 (by omega)] | rw [n_a3 (by omega)] | rw [fr_ne (fun q => absurd q.1 (by decide))] | rw [fr_ne (fun q => absurd q.2 (by omega))] | rw [fi_ne (fun q => absurd q.1 (by decide))] | rw [fi_ne (fun q => absurd q.2 (by omega))] | rw [ar_ne (fun q => absurd q.1 (by omega))] | rw [ar_ne (fun q => absurd q.2 (by omega))])); (try first | rfl | assumption)), (by (repeat (first | rw [fr_same] | rw [fi_same] | rw [ar_same] | rw [n_r1] | rw [n_i1] | rw [n_al1] | rw [n_aa1] | rw [n_r2] | rw [n_i2] | rw [n_l2] | rw [n_a2] | rw [w_fr] | rw [w_fi] | rw [w_l1] | rw [w_l2] | rw [w_a1] | rw [w_a2] | rw [w_i1] | rw [w_i2] | rw [w_i3] | rw [n_r3 (by omega)] | rw [n_i3 (by omega)] | rw [n_l3 (by omega)] | rw [n_a3 (by omega)] | rw [fr_ne (fun q => absurd q.1 (by decide))] | rw [fr_ne (fun q => absurd q.2 (by omega))] | rw [fi_ne (fun q => absurd q.1 (by decide))] | rw [fi_ne (fun q => absurd q.2 (by omega))] | rw [ar_ne (fun q => absurd q.1 (by omega))] | rw [ar_ne (fun q => absurd q.2 (by omega))])); (try first | rfl | assumption)), (by (repeat (first | rw [fr_same] | rw [fi_same] | rw [ar_same] | rw [n_r1] | rw [n_i1] | rw [n_al1] | rw [n_aa1] | rw [n_r2] | rw [n_i2] | rw [n_l2] | rw [n_a2] | rw [w_fr] | rw [w_fi] | rw [w_l1] | rw [w_l2] | rw [w_a1] | rw [w_a2] | rw [w_i1] | rw [w_i2] | rw [w_i3] | rw [n_r3 (by omega)] | rw [n_i3 (by omega)] | rw [n_l3 (by omega)] | rw [n_a3 (by omega)] | rw [fr_ne (fun q => absurd q.1 (by decide))] | rw [fr_ne (fun q => absurd q.2 (by omega))] | rw [fi_ne (fun q => absurd q.1 (by decide))] | rw [fi_ne (fun q => absurd q.2 (by omega))] | rw [ar_ne (fun q => absurd q.1 (by omega))] | rw [ar_ne (fun q => absurd q.2 (by omega))])); (try first | rfl | assumption)), (by (repeat (first | rw [fr_same] | rw [fi_same] | rw [ar_same] | rw [n_r1] | rw [n_i1] | rw [n_al1] | rw [n_aa1] | rw [n_r2] | rw [n_i2] | rw [n_l2] | rw [n_a2] | rw [w_fr] | rw [w_fi] | rw [w_l1] | rw [w_l2] | rw [w_a1] | rw [w_a2] | rw [w_i1] | rw [w_i2] | rw [w_i3] | rw [n_r3 (by omega)] | rw [n_i3 (by omega)] | rw [n_l3 (by omega)] | rw [n_a3 (by omega)] | rw [fr_ne (fun q => absurd q.1 (by decide))] | rw [fr_ne (fun q => absurd q.2 (by omega))] | rw [fi_ne (fun q => absurd q.1 (by decide))] | rw [fi_ne (fun q => absurd q.2 (by omega))] | rw [ar_ne (fun q => absurd q.1 (by omega))] | rw [ar_ne (fun q => absurd q.2 (by omega))])); (try first | rfl | assumption)), (by (repeat (first | rw [fr_same] | rw [fi_same] | rw [ar_same] | rw [n_r1] | rw [n_i1] | rw [n_al1] | rw [n_aa1] | rw [n_r2] | rw [n_i2] | rw [n_l2] | rw [n_a2] | rw [w_fr] | rw [w_fi] | rw [w_l1] | rw [w_l2] | rw [w_a1] | rw [w_a2] | rw [w_i1] | rw [w_i2] | rw [w_i3] | rw [n_r3 (by omega)] | rw [n_i3 (by omega)] | rw [n_l3 (by omega)] | rw [n_a3 (by omega)] | rw [fr_ne (fun q => absurd q.1 (by decide))] | rw [fr_ne (fun q => absurd q.2 (by omega))] | rw [fi_ne (fun q => absurd q.1 (by decide))] | rw [fi_ne (fun q => absurd q.2 (by omega))] | rw [ar_ne (fun q => absurd q.1 (by omega))] | rw [ar_ne (fun q => absurd q.2 (by omega))])); (try first | rfl | assumption)), (by (repeat (first | rw [fr_same] | rw [fi_same] | rw [ar_same] | rw [n_r1] | rw [n_i1] | rw [n_al1] | rw [n_aa1] | rw [n_r2] | rw [n_i2] | rw [n_l2] | rw [n_a2] | rw [w_fr] | rw [w_fi] | rw [w_l1] | rw [w_l2] | rw [w_a1] | rw [w_a2] | rw [w_i1] | rw [w_i2] | rw [w_i3] | rw [n_r3 (by omega)] | rw [n_i3 (by omega)] | rw [n_l3 (by omega)] | rw [n_a3 (by omega)] | rw [fr_ne (fun q => absurd q.1 (by decide))] | rw [fr_ne (fun q => absurd q.2 (by omega))] | rw [fi_ne (fun q => absurd q.1 (by decide))] | rw [fi_ne (fun q => absurd q.2 (by omega))] | rw [ar_ne (fun q => absurd q.1 (by omega))] | rw [ar_ne (fun q => absurd q.2 (by omega))])); (try first | rfl | assumption)), (by (repeat (first | rw [fr_same] | rw [fi_same] | rw [ar_same] | rw [n_r1] | rw [n_i1] | rw [n_al1] | rw [n_aa1] | rw [n_r2] | rw [n_i2] | rw [n_l2] | rw [n_a2] | rw [w_fr] | rw [w_fi] | rw [w_l1] | rw [w_l2] | rw [w_a1] | rw [w_a2] | rw [w_i1] | rw [w_i2] | rw [w_i3] | rw [n_r3 (by omega)] | rw [n_i3 (by omega)] | rw [n_l3 (by omega)] | rw [n_a3 (by omega)] | rw [fr_ne (fun q => absurd q.1 (by decide))] | rw [fr_ne (fun q => absurd q.2 (by omega))] | rw [fi_ne (fun q => absurd q.1 (by decide))] | rw [fi_ne (fun q => absurd q.2 (by omega))] | rw [ar_ne (fun q => absurd q.1 (by omega))] | rw [ar_ne (fun q => absurd q.2 (by omega))])); (try first | rfl | assumption)), (by (repeat (first | rw [fr_same] | rw [fi_same] | rw [ar_same] | rw [n_r1] | rw [n_i1] | rw [n_al1] | rw [n_aa1] | rw [n_r2] | rw [n_i2] | rw [n_l2] | rw [n_a2] | rw [w_fr] | rw [w_fi] | rw [w_l1] | rw [w_l2] | rw [w_a1] | rw [w_a2] | rw [w_i1] | rw [w_i2] | rw [w_i3] | rw [n_r3 (by omega)] | rw [n_i3 (by omega)] | rw [n_l3 (by omega)] | rw [n_a3 (by omega)] | rw [fr_ne (fun q => absurd q.1 (by decide))] | rw [fr_ne (fun q => absurd q.2 (by omega))] | rw [fi_ne (fun q => absurd q.1 (by decide))] | rw [fi_ne (fun q => absurd q.2 (by omega))] | rw [ar_ne (fun q => absurd q.1 (by omega))] | rw [ar_ne (fun q => absurd q.2 (by omega))])); (try first | rfl | assumption)), (by (repeat (first | rw [fr_same] | rw [fi_same] | rw [ar_same] | rw [n_r1] | rw [n_i1] | rw [n_al1] | rw [n_aa1] | rw [n_r2] | rw [n_i2] | rw [n_l2] | rw [n_a2] | rw [w_fr] | rw [w_fi] | rw [w_l1] | rw [w_l2] | rw [w_a1] | rw [w_a2] | rw [w_i1] | rw [w_i2] | rw [w_i3] | rw [n_r3 (by omega)] | rw [n_i3 (by omega)] | rw [n_l3 (by omega)] | rw [n_a3 (by omega)] | rw [fr_ne (fun q => absurd q.1 (by decide))] | rw [fr_ne (fun q => absurd q.2 (by omega))] | rw [fi_ne (fun q => absurd q.1 (by decide))] | rw [fi_ne (fun q => absurd q.2 (by omega))] | rw [ar_ne (fun q => absurd q.1 (by omega))] | rw [ar_ne (fun q => absurd q.2 (by omega))])); (try first | rfl | assumption)), (by (repeat (first | rw [fr_same] | rw [fi_same] | rw [ar_same] | rw [n_r1] | rw [n_i1] | rw [n_al1] | rw [n_aa1] | rw [n_r2] | rw [n_i2] | rw [n_l2] | rw [n_a2] | rw [w_fr] | rw [w_fi] | rw [w_l1] | rw [w_l2] | rw [w_a1] | rw [w_a2] | rw [w_i1] | rw [w_i2] | rw [w_i3] | rw [n_r3 (by omega)] | rw [n_i3 (by omega)] | rw [n_l3 (by omega)] | rw [n_a3 (by omega)] | rw [fr_ne (fun q => absurd q.1 (by decide))] | rw [fr_ne (fun q => absurd q.2 (by omega))] | rw [fi_ne (fun q => absurd q.1 (by decide))] | rw [fi_ne (fun q => absurd q.2 (by omega))] | rw [ar_ne (fun q => absurd q.1 (by omega))] | rw [ar_ne (fun q => absurd q.2 (by omega))])); (try first | rfl | assumption)), (by (repeat (first | rw [fr_same] | rw [fi_same] | rw [ar_same] | rw [n_r1] | rw [n_i1] | rw [n_al1] | rw [n_aa1] | rw [n_r2] | rw [n_i2] | rw [n_l2] | rw [n_a2] | rw [w_fr] | rw [w_fi] | rw [w_l1] | rw [w_l2] | rw [w_a1] | rw [w_a2] | rw [w_i1] | rw [w_i2] | rw [w_i3] | rw [n_r3 (by omega)] | rw [n_i3 (by omega)] | rw [n_l3 (by omega)] | rw [n_a3 (by omega)] | rw [fr_ne (fun q => absurd q.1 (by decide))] | rw [fr_ne (fun q => absurd q.2 (by omega))] | rw [fi_ne (fun q => absurd q.1 (by decide))] | rw [fi_ne (fun q => absurd q.2 (by omega))] | rw [ar_ne (fun q => absurd q.1 (by omega))] | rw [ar_ne (fun q => absurd q.2 (by omega))])); (try first | rfl | assumption)), (by (repeat (first | rw [fr_same] | rw [fi_same] | rw [ar_same] | rw [n_r1] | rw [n_i1] | rw [n_al1] | rw [n_aa1] | rw [n_r2] | rw [n_i2] | rw [n_l2] | rw [n_a2] | rw [w_fr] | rw [w_fi] | rw [w_l1] | rw [w_l2] | rw [w_a1] | rw [w_a2] | rw [w_i1] | rw [w_i2] | rw [w_i3] | rw [n_r3 (by omega)] | rw [n_i3 (by omega)] | rw [n_l3 (by omega)] | rw [n_a3 (by omega)] | rw [fr_ne (fun q => absurd q.1 (by decide))] | rw [fr_ne (fun q => absurd q.2 (by omega))] | rw [fi_ne (fun q => absurd q.1 (by decide))] | rw [fi_ne (fun q => absurd q.2 (by omega))] | rw [ar_ne (fun q => absurd q.1 (by omega))] | rw [ar_ne (fun q => absurd q.2 (by omega))])); (try first | rfl | assumption)), (by (repeat (first | rw [fr_same] | rw [fi_same] | rw [ar_same] | rw [n_r1] | rw [n_i1] | rw [n_al1] | rw [n_aa1] | rw [n_r2] | rw [n_i2] | rw [n_l2] | rw [n_a2] | rw [w_fr] | rw [w_fi] | rw [w_l1] | rw [w_l2] | rw [w_a1] | rw [w_a2] | rw [w_i1] | rw [w_i2] | rw [w_i3] | rw [n_r3 (by omega)] | rw [n_i3 (by omega)] | rw [n_l3 (by omega)] | rw [n_a3 (by omega)] | rw [fr_ne (fun q => absurd q.1 (by decide))] | rw [fr_ne (fun q => absurd q.2 (by omega))] | rw [fi_ne (fun q => absurd q.1 (by decide))] | rw [fi_ne (fun q => absurd q.2 (by omega))] | rw [ar_ne (fun q => absurd q.1 (by omega))] | rw [ar_ne (fun q => absurd q.2 (by omega))])); (try first | rfl | assumption)), (by (repeat (first | rw [fr_same] | rw [fi_same] | rw [ar_same] | rw [n_r1] | rw [n_i1] | rw [n_al1] | rw [n_aa1] | rw [n_r2] | rw [n_i2] | rw [n_l2] | rw [n_a2] | rw [w_fr] | rw [w_fi] | rw [w_l1] | rw [w_l2] | rw [w_a1] | rw [w_a2] | rw [w_i1] | rw [w_i2] | rw [w_i3] | rw [n_r3 (by omega)] | rw [n_i3 (by omega)] | rw [n_l3 (by omega)] | rw [n_a3 (by omega)] | rw [fr_ne (fun q => absurd q.1 (by decide))] | rw [fr_ne (fun q => absurd q.2 (by omega))] | rw [fi_ne (fun q => absurd q.1 (by decide))] | rw [fi_ne (fun q => absurd q.2 (by omega))] | rw [ar_ne (fun q => absurd q.1 (by omega))] | rw [ar_ne (fun q => absurd q.2 (by omega))])); (try first | rfl | assumption)), (by (repeat (first | rw [fr_same] | rw [fi_same] | rw [ar_same] | rw [n_r1] | rw [n_i1] | rw [n_al1] | rw [n_aa1] | rw [n_r2] | rw [n_i2] | rw [n_l2] | rw [n_a2] | rw [w_fr] | rw [w_fi] | rw [w_l1] | rw [w_l2] | rw [w_a1] | rw [w_a2] | rw [w_i1] | rw [w_i2] | rw [w_i3] | rw [n_r3 (by omega)] | rw [n_i3 (by omega)] | rw [n_l3 (by omega)] | rw [n_a3 (by omega)] | rw [fr_ne (fun q => absurd q.1 (by decide))] | rw [fr_ne (fun q => absurd q.2 (by omega))] | rw [fi_ne (fun q => absurd q.1 (by decide))] | rw [fi_ne (fun q => absurd q.2 (by omega))] | rw [ar_ne (fun q => absurd q.1 (by omega))] | rw [ar_ne (fun q => absurd q.2 (by omega))])); (try first | rfl | assumption)), (by (repeat (first | rw [fr_same] | rw [fi_same] | rw [ar_same] | rw [n_r1] | rw [n_i1] | rw [n_al1] | rw [n_aa1] | rw [n_r2] | rw [n_i2] | rw [n_l2] | rw [n_a2] | rw [w_fr] | rw [w_fi] | rw [w_l1] | rw [w_l2] | rw [w_a1] | rw [w_a2] | rw [w_i1] | rw [w_i2] | rw [w_i3] | rw [n_r3 (by omega)] | rw [n_i3 (by omega)] | rw [n_l3 (by omega)] | rw [n_a3 (by omega)] | rw [fr_ne (fun q => absurd q.1 (by decide))] | rw [fr_ne (fun q => absurd q.2 (by omega))] | rw [fi_ne (fun q => absurd q.1 (by decide))] | rw [fi_ne (fun q => absurd q.2 (by omega))] | rw [ar_ne (fun q => absurd q.1 (by omega))] | rw [ar_ne (fun q => absurd q.2 (by omega))])); (try first | rfl | assumption)), (by (repeat (first | rw [fr_same] | rw [fi_same] | rw [ar_same] | rw [n_r1] | rw [n_i1] | rw [n_al1] | rw [n_aa1] | rw [n_r2] | rw [n_i2] | rw [n_l2] | rw [n_a2] | rw [w_fr] | rw [w_fi] | rw [w_l1] | rw [w_l2] | rw [w_a1] | rw [w_a2] | rw [w_i1] | rw [w_i2] | rw [w_i3] | rw [n_r3 (by omega)] | rw [n_i3 (by omega)] | rw [n_l3 (by omega)] | rw [n_a3 (by omega)] | rw [fr_ne (fun q => absurd q.1 (by decide))] | rw [fr_ne (fun q => absurd q.2 (by omega))] | rw [fi_ne (fun q => absurd q.1 (by decide))] | rw [fi_ne (fun q => absurd q.2 (by omega))] | rw [ar_ne (fun q => absurd q.1 (by omega))] | rw [ar_ne (fun q => absurd q.2 (by omega))])); (try first | rfl | assumption)), (by (repeat (first | rw [fr_same] | rw [fi_same] | rw [ar_same] | rw [n_r1] | rw [n_i1] | rw [n_al1] | rw [n_aa1] | rw [n_r2] | rw [n_i2] | rw [n_l2] | rw [n_a2] | rw [w_fr] | rw [w_fi] | rw [w_l1] | rw [w_l2] | rw [w_a1] | rw [w_a2] | rw [w_i1] | rw [w_i2] | rw [w_i3] | rw [n_r3 (by omega)] | rw [n_i3 (by omega)] | rw [n_l3 (by omega)] | rw [n_a3 (by omega)] | rw [fr_ne (fun q => absurd q.1 (by decide))] | rw [fr_ne (fun q => absurd q.2 (by omega))] | rw [fi_ne (fun q => absurd q.1 (by decide))] | rw [fi_ne (fun q => absurd q.2 (by omega))] | rw [ar_ne (fun q => absurd q.1 (by omega))] | rw [ar_ne (fun q => absurd q.2 (by omega))])); (try first | rfl | assumption))⟩
theorem tor_b : fx_fi (cm_tor (nwo s x 10 16) x) ff_Torus_nodesMade x = nI 0 ∧ fx_fr (cm_tor (nwo s x 10 16) x) ff_Row_first (x + 14) = none ∧ fx_fr (cm_tor (nwo s x 10 16) x) ff_Row_last (x + 14) = none ∧ fx_fi (cm_tor (nwo s x 10 16) x) ff_Row_size (x + 14) = nI 0 := by
  unfold cm_tor cm_rou cm_grd
  exact ⟨(by (repeat (first | rw [fr_same] | rw [fi_same] | rw [ar_same] | rw [n_r1] | rw [n_i1] | rw [n_al1] | rw [n_aa1] | rw [n_r2] | rw [n_i2] | rw [n_l2] | rw [n_a2] | rw [w_fr] | rw [w_fi] | rw [w_l1] | rw [w_l2] | rw [w_a1] | rw [w_a2] | rw [w_i1] | rw [w_i2] | rw [w_i3] | rw [n_r3 (by omega)] | rw [n_i3 (by omega)] | rw [n_l3 (by omega)] | rw [n_a3 (by omega)] | rw [fr_ne (fun q => absurd q.1 (by decide))] | rw [fr_ne (fun q => absurd q.2 (by omega))] | rw [fi_ne (fun q => absurd q.1 (by decide))] | rw [fi_ne (fun q => absurd q.2 (by omega))] | rw [ar_ne (fun q => absurd q.1 (by omega))] | rw [ar_ne (fun q => absurd q.2 (by omega))])); (try first | rfl | assumption)), (by (repeat (first | rw [fr_same] | rw [fi_same] | rw [ar_same] | rw [n_r1] | rw [n_i1] | rw [n_al1] | rw [n_aa1] | rw [n_r2] | rw [n_i2] | rw [n_l2] | rw [n_a2] | rw [w_fr] | rw [w_fi] | rw [w_l1] | rw [w_l2] | rw [w_a1] | rw [w_a2] | rw [w_i1] | rw [w_i2] | rw [w_i3] | rw [n_r3 (by omega)] | rw [n_i3 (by omega)] | rw [n_l3 (by omega)] | rw [n_a3 (by omega)] | rw [fr_ne (fun q => absurd q.1 (by decide))] | rw [fr_ne (fun q => absurd q.2 (by omega))] | rw [fi_ne (fun q => absurd q.1 (by decide))] | rw [fi_ne (fun q => absurd q.2 (by omega))] | rw [ar_ne (fun q => absurd q.1 (by omega))] | rw [ar_ne (fun q => absurd q.2 (by omega))])); (try first | rfl | assumption)), (by (repeat (first | rw [fr_same] | rw [fi_same] | rw [ar_same] | rw [n_r1] | rw [n_i1] | rw [n_al1] | rw [n_aa1] | rw [n_r2] | rw [n_i2] | rw [n_l2] | rw [n_a2] | rw [w_fr] | rw [w_fi] | rw [w_l1] | rw [w_l2] | rw [w_a1] | rw [w_a2] | rw [w_i1] | rw [w_i2] | rw [w_i3] | rw [n_r3 (by omega)] | rw [n_i3 (by omega)] | rw [n_l3 (by omega)] | rw [n_a3 (by omega)] | rw [fr_ne (fun q => absurd q.1 (by decide))] | rw [fr_ne (fun q => absurd q.2 (by omega))] | rw [fi_ne (fun q => absurd q.1 (by decide))] | rw [fi_ne (fun q => absurd q.2 (by omega))] | rw [ar_ne (fun q => absurd q.1 (by omega))] | rw [ar_ne (fun q => absurd q.2 (by omega))])); (try first | rfl | assumption)), (by (repeat (first | rw [fr_same] | rw [fi_same] | rw [ar_same] | rw [n_r1] | rw [n_i1] | rw [n_al1] | rw [n_aa1] | rw [n_r2] | rw [n_i2] | rw [n_l2] | rw [n_a2] | rw [w_fr] | rw [w_fi] | rw [w_l1] | rw [w_l2] | rw [w_a1] | rw [w_a2] | rw [w_i1] | rw [w_i2] | rw [w_i3] | rw [n_r3 (by omega)] | rw [n_i3 (by omega)] | rw [n_l3 (by omega)] | rw [n_a3 (by omega)] | rw [fr_ne (fun q => absurd q.1 (by decide))] | rw [fr_ne (fun q => absurd q.2 (by omega))] | rw [fi_ne (fun q => absurd q.1 (by decide))] | rw [fi_ne (fun q => absurd q.2 (by omega))] | rw [ar_ne (fun q => absurd q.1 (by omega))] | rw [ar_ne (fun q => absurd q.2 (by omega))])); (try first | rfl | assumption))⟩
theorem tor_c (hn : fx_nx s = x) : CF x s (cm_tor (nwo s x 10 16) x) := by
  unfold cm_tor cm_rou cm_grd
  repeat (first | exact CF.rf x s | refine CF.sfr ?_ (by decide) | refine CF.nwo ?_ (by omega) | refine CF.nwa ?_ (by omega))
theorem tor_n : fx_nx (cm_tor (nwo s x 10 16) x) = x + 15 ∧ fx_sl (cm_tor (nwo s x 10 16) x) = fx_sl s + 4849 := ⟨rfl, rfl⟩
theorem tor_ep : EP (cm_tor (nwo s x 10 16) x) x (fun _ => 0) (fun _ => 18) (fun _ _ => 0) 0 (fun _ => []) (fun _ => False) := by
  obtain ⟨b1, b2, b3, b4⟩ := tor_b (s := s) (x := x)
  have n1 := (tor_n (s := s) (x := x)).1
  have h1 := tor_sk (s := s) (x := x)
  generalize cm_tor (nwo s x 10 16) x = t at *
  refine ⟨⟨h1, fun v hv => by omega, by omega, b1, fun v hv => by omega, fun v w _ hw => by omega, by omega⟩, ⟨fun r hr => ?_, fun r hr => List.nodup_nil, fun r q z _ _ hz => (by cases hz)⟩, fun v _ _ hv => by omega, fun v _ _ _ _ hv => by omega, fun z hz => (by cases hz), fun v _ hv => (by omega), ⟨fun z hz => hz.elim, fun z hz => hz.elim, fun z hz => hz.elim, fun z _ _ hz => hz.elim, fun z _ hz => hz.elim⟩, fun v hv => by omega, fun v hv => by omega⟩
  rcases hr with e | ⟨v, hv, _⟩
  · rw [e]; exact ⟨b2, b3, b4, trivial⟩
  · omega
theorem k_torusI (hn : fx_nx s = x) (k : ∀ t B H Y m rt, EM t x B H Y m rt (fun _ => False) → 2 * 2 ≤ m → RZ t x 2 0 1 → CF x s t → fx_nx t = fx_nx s + 15 + 20 * m → fx_sl t = fx_sl s + 4849 + 83 * m → Q none t) : fx_M mm_Torus_init [vR 10 (some x)] (nwo s x 10 16) Q := by
  refine xx_i ml130 ?_
  refine xx_j ee130_0 rfl trivial ?_
  refine xx_j ee130_1 rfl trivial ?_
  refine xx_j ee130_4 rfl trivial ?_
  refine xx_nw ee130_5 rfl rfl (a := x + 1) rfl ?_
  refine xx_j ee130_8 rfl trivial ?_
  refine xx_c ee130_9 rfl (k_routerI (a := x + 1) rfl ?_)
  have r1 : fx_fr (cm_rou (nwo (nwo s x 10 16) (x + 1) 19 5) (x + 1)) ff_Router_grid (x + 1) = some (x + 3) := by
    unfold cm_rou cm_grd
    exact (by (repeat (first | rw [fr_same] | rw [fi_same] | rw [ar_same] | rw [n_r1] | rw [n_i1] | rw [n_al1] | rw [n_aa1] | rw [n_r2] | rw [n_i2] | rw [n_l2] | rw [n_a2] | rw [w_fr] | rw [w_fi] | rw [w_l1] | rw [w_l2] | rw [w_a1] | rw [w_a2] | rw [w_i1] | rw [w_i2] | rw [w_i3] | rw [n_r3 (by omega)] | rw [n_i3 (by omega)] | rw [n_l3 (by omega)] | rw [n_a3 (by omega)] | rw [fr_ne (fun q => absurd q.1 (by decide))] | rw [fr_ne (fun q => absurd q.2 (by omega))] | rw [fi_ne (fun q => absurd q.1 (by decide))] | rw [fi_ne (fun q => absurd q.2 (by omega))] | rw [ar_ne (fun q => absurd q.1 (by omega))] | rw [ar_ne (fun q => absurd q.2 (by omega))])); (try first | rfl | assumption))
  have r2 : fx_fr (cm_rou (nwo (nwo s x 10 16) (x + 1) 19 5) (x + 1)) ff_Router_rank (x + 1) = some (x + 9) := by
    unfold cm_rou cm_grd
    exact (by (repeat (first | rw [fr_same] | rw [fi_same] | rw [ar_same] | rw [n_r1] | rw [n_i1] | rw [n_al1] | rw [n_aa1] | rw [n_r2] | rw [n_i2] | rw [n_l2] | rw [n_a2] | rw [w_fr] | rw [w_fi] | rw [w_l1] | rw [w_l2] | rw [w_a1] | rw [w_a2] | rw [w_i1] | rw [w_i2] | rw [w_i3] | rw [n_r3 (by omega)] | rw [n_i3 (by omega)] | rw [n_l3 (by omega)] | rw [n_a3 (by omega)] | rw [fr_ne (fun q => absurd q.1 (by decide))] | rw [fr_ne (fun q => absurd q.2 (by omega))] | rw [fi_ne (fun q => absurd q.1 (by decide))] | rw [fi_ne (fun q => absurd q.2 (by omega))] | rw [ar_ne (fun q => absurd q.1 (by omega))] | rw [ar_ne (fun q => absurd q.2 (by omega))])); (try first | rfl | assumption))
  have r3 : fx_nx (cm_rou (nwo (nwo s x 10 16) (x + 1) 19 5) (x + 1)) = x + 12 := rfl
  have fin : ∀ t4, t4 = cm_tor (nwo s x 10 16) x → fx_W 130 68 [some (vR 10 (some x))] [] t4 Q := by
    intro t4 e4
    rw [e4]
    have ep := tor_ep (s := s) (x := x)
    have hc := tor_c (s := s) hn
    obtain ⟨n1, n2⟩ := tor_n (s := s) (x := x)
    generalize cm_tor (nwo s x 10 16) x = t5 at *
    refine xx_j ee130_68 rfl trivial ?_
    refine xx_k ee130_69 2 rfl ?_
    refine xx_k ee130_70 0 rfl ?_
    refine xx_k ee130_71 1 rfl ?_
    refine xx_c ee130_72 rfl (k_reset ep (fun q => absurd q (by decide)) (fun a b c ea eb ec ha1 ha2 hb hc1 hc2 ok t B' H' Y' m' rt' hE hm _ hz hF hnx hsl => ?_))
    have inj : ∀ {p q : Nat}, p < 2 ^ 31 → q < 2 ^ 31 → nI p = nI q → q = p := fun hp hq e => by
      have := congrArg Int32.toNatClampNeg e
      rw [nI_clamp hp, nI_clamp hq] at this
      exact this.symm
    have e1 : a = 2 := inj (by omega) (by omega) ea
    have e2 : b = 0 := inj (by omega) (by omega) eb
    have e3 : c = 1 := inj (by omega) (by omega) ec
    subst e1
    subst e2
    subst e3
    refine xx_j ee130_75 rfl trivial ?_
    exact xx_rv ee130_76 (k t B' H' Y' m' rt' hE hm hz (hc.tr hF) (by omega) (by omega))
  unfold cm_tor at fin
  generalize cm_rou (nwo (nwo s x 10 16) (x + 1) 19 5) (x + 1) = t at *
  first | refine xx_pr ee130_12 rfl rfl (Or.inl rfl) ?_ | refine xx_pr ee130_12 rfl rfl (Or.inr rfl) ?_
  have q1 : fx_fr (fx_sfr t ff_Torus_router x (some (x + 1))) ff_Router_grid (x + 1) = some (x + 3) := by
    rw [fr_ne (fun q => absurd q.1 (by decide))]; exact r1
  refine xx_j ee130_15 rfl trivial ?_
  refine xx_j ee130_16 rfl trivial ?_
  refine xx_gr ee130_17 fr_same rfl rfl ?_
  refine xx_gr ee130_20 q1 rfl rfl ?_
  first | refine xx_pr ee130_23 rfl rfl (Or.inl rfl) ?_ | refine xx_pr ee130_23 rfl rfl (Or.inr rfl) ?_
  have q2 : fx_fr (fx_sfr (fx_sfr t ff_Torus_router x (some (x + 1))) ff_Torus_grid x (some (x + 3))) ff_Router_rank (x + 1) = some (x + 9) := by
    rw [fr_ne (fun q => absurd q.1 (by decide)), fr_ne (fun q => absurd q.1 (by decide))]; exact r2
  have q3 : fx_fr (fx_sfr (fx_sfr t ff_Torus_router x (some (x + 1))) ff_Torus_grid x (some (x + 3))) ff_Torus_router x = some (x + 1) := by
    rw [fr_ne (fun q => absurd q.1 (by decide)), fr_same]
  refine xx_j ee130_26 rfl trivial ?_
  refine xx_j ee130_27 rfl trivial ?_
  refine xx_gr ee130_28 q3 rfl rfl ?_
  refine xx_gr ee130_31 q2 rfl rfl ?_
  first | refine xx_pr ee130_34 rfl rfl (Or.inl rfl) ?_ | refine xx_pr ee130_34 rfl rfl (Or.inr rfl) ?_
  refine xx_j ee130_37 rfl trivial ?_
  refine xx_kb ee130_38 64 rfl ?_
  refine xx_nwa ee130_40 rfl (by omega) r3 ?_
  first | refine xx_pr ee130_43 rfl rfl (Or.inl rfl) ?_ | refine xx_pr ee130_43 rfl rfl (Or.inr rfl) ?_
  refine xx_j ee130_46 rfl trivial ?_
  refine xx_nw ee130_47 rfl rfl (a := x + 13) rfl ?_
  refine xx_j ee130_50 rfl trivial ?_
  refine xx_c ee130_51 rfl (k_rowI ?_)
  first | refine xx_pr ee130_54 rfl rfl (Or.inl rfl) ?_ | refine xx_pr ee130_54 rfl rfl (Or.inr rfl) ?_
  refine xx_j ee130_57 rfl trivial ?_
  refine xx_nw ee130_58 rfl rfl (a := x + 14) rfl ?_
  refine xx_j ee130_61 rfl trivial ?_
  refine xx_c ee130_62 rfl (k_rowI ?_)
  first | refine xx_pr ee130_65 rfl rfl (Or.inl rfl) ?_ | refine xx_pr ee130_65 rfl rfl (Or.inr rfl) ?_
  exact fin _ rfl
end
