/-! THE CLASS: receiving at a node; starved; handing over -/
section
variable {s : fx_S} {Q : fx_Q} {x m : Nat} {B H P : Nat → Nat} {C : Nat → Nat → Option Nat} {Y : Nat → Nat → Nat} {rt : Nat → List Nat} {K : Nat → Prop} {L : List Nat} {M : rf_M} {lv : Nat → Prop}
theorem sgold_eq {M' : rf_M} (h1 : rn M' ff_Mod_cycle 0 = rn M ff_Mod_cycle 0) (h2 : rn M' ff_Mod_farthest 0 = rn M ff_Mod_farthest 0) (h3 : (rn M' ff_Mod_all 0) = (rn M ff_Mod_all 0)) : sgold M' = sgold M := by
  unfold sgold
  rw [h1, h2, h3]
theorem rc1_gold {v : Nat} : sgold (om_rc1 M v) = sgold M := sgold_eq (rc1_rn (by decide)) (rc1_rn (by decide)) (rc1_rn (by decide))
theorem JN.rc1 (h : JN M) {v : Nat} : JN (om_rc1 M v) := h.to (fun i => rc1_o (by decide)) (fun i => rc1_o (by decide)) (fun i => rc1_o (by decide)) (fun i => rc1_o (by decide)) (fun i => rc1_o (by decide))
theorem k_receiveAt {v : Nat} (h : RA s x B H C Y P m rt K (List.range ((rn M ff_Mod_notes 0))) M) (hJ : JI M) (hN : JN M) (hgo : RGo s x (sgold M)) (hv : v < (rn M ff_Mod_all 0)) (hc : rn M ff_Mod_received 0 + 2 < 9000000) (hl : rn M ff_Mod_lost 0 + 2 < 9000000) (k : ∀ s' rt', CK x s s' → RA s' x B H C Y P m rt' K (List.range ((rn (om_rc1 (om_rc1 M v) v) ff_Mod_notes 0))) (om_rc1 (om_rc1 M v) v) → Q none s') : fx_M mm_Torus_receiveAt [vR 10 (some x), vR 14 (some (B v))] s Q := by
  have h64 := hJ.1.all64
  have hvm0 : v < m := Nat.lt_of_lt_of_le hv h.nm
  refine xx_i ml127 ?_
  have one : ∀ (j : Nat) (M1 : rf_M) s1 rt1 x3 x4, j < 2 → RA s1 x B H C Y P m rt1 K (List.range ((rn M1 ff_Mod_notes 0))) M1 → JI M1 → JN M1 → RGo s1 x (sgold M1) → v < (rn M1 ff_Mod_all 0) → rn M1 ff_Mod_received 0 < 9000000 → rn M1 ff_Mod_lost 0 < 9000000 → (shome M1 v = none → Q none s1) → (∀ s2 rt2 x3 x4, CK x s1 s2 → RA s2 x B H C Y P m rt2 K (List.range ((rn (om_rc1 M1 v) ff_Mod_notes 0))) (om_rc1 M1 v) → fx_W 127 2 [some (vR 10 (some x)), some (vR 14 (some (B v))), some (vI (nI (j + 1))), x3, x4] [] s2 Q) → fx_W 127 2 [some (vR 10 (some x)), some (vR 14 (some (B v))), some (vI (nI j)), x3, x4] [] s1 Q := by
    intro j M1 s1 rt1 x3 x4 hj h1 hJ1 hN1 hg1 hv1 hc1 hl1 kn kk
    have hvm : v < m := Nat.lt_of_lt_of_le hv1 h1.nm
    have nd := h1.sk.b v hvm
    have h257 := hJ1.1.ri.fNl
    refine xx_j ee127_2 rfl trivial ?_
    refine xx_k ee127_3 2 rfl ?_
    refine xx_ge ee127_4 (by omega) (by omega) (fun h => by omega) (fun _ => ?_)
    refine xx_j ee127_7 rfl trivial ?_
    refine xx_gr ee127_8 h1.sk.a.rank rfl rfl ?_
    refine xx_j ee127_11 rfl trivial ?_
    refine xx_gr ee127_12 (h1.f.here v hvm) rfl rfl ?_
    refine xx_j ee127_15 rfl trivial ?_
    refine xx_gi ee127_16 nd.num rfl rfl ?_
    refine xx_c ee127_19 rfl (k_highest h1 hJ1.1 hg1 hvm ?_)
    refine xx_j ee127_22 rfl trivial ?_
    refine xx_j ee127_23 rfl trivial ?_
    refine xx_km ee127_24 rfl ?_
    have hlb : ∀ b, slb M1 v = some b → b < 4 := by
      intro b hb
      unfold slb at hb
      obtain ⟨f, f1, f2⟩ := Option.map_eq_some_iff.mp hb
      rw [← f2]
      exact hJ1.1.ri.mLl (f := f) (by have := (shome_some f1).1; omega)
    refine xx_one ee127_25 (fun b hb => by have := hlb b hb; omega) (fun l hl' => ?_) (fun hn => ?_)
    · have hl4 := hlb l hl'
      unfold slb at hl'
      obtain ⟨f, f1, f2⟩ := Option.map_eq_some_iff.mp hl'
      obtain ⟨g1, g2, g3⟩ := shome_some f1
      have so := sol_of hJ1.1.j4 g1
      rw [g2, f2] at so
      rcases h1.line hJ1.1 hvm (l := l) hl4 with ⟨z1, -⟩ | ⟨f', F, z1, z2, z3⟩
      · rw [so] at z1; cases z1
      rw [so] at z1
      cases z1
      obtain ⟨a1, a2, a3, a4, a5, a6, a7, a8, a9, a10, a11, a12, a13⟩ := h1.fo hJ1.1 z3
      obtain ⟨c1, c2⟩ := hJ1.1.rcv g1 (by rw [g2, g3]) hc1
      have hcp : 0 < sp_cnt (fun i => spk M1 i == spk M1 f) ((rn M1 ff_Mod_flits 0)) := by
        have := sp_cnt_pos (P := fun i => spk M1 i == spk M1 f) (K := (rn M1 ff_Mod_flits 0)) (c := f) g1 (by simp)
        omega
      have hcl : sp_cnt (fun i => spk M1 i == spk M1 f) ((rn M1 ff_Mod_flits 0)) ≤ (rn M1 ff_Mod_flits 0) := sp_cnt_le _ _
      have hsl : slb M1 v = some l := by unfold slb; rw [f1, ← f2]; rfl
      rw [hsl]
      refine xx_j ee127_29 rfl trivial ?_
      refine xx_gr ee127_30 (h1.f.here v hvm) rfl rfl ?_
      refine xx_j ee127_33 rfl trivial ?_
      refine xx_rl ee127_34 (h1.lnh hvm) (by omega) (by decide) z2 rfl ?_
      refine xx_j ee127_35 rfl trivial ?_
      refine xx_j ee127_37 rfl trivial ?_
      refine xx_gr ee127_38 (h1.f.here v hvm) rfl rfl ?_
      refine xx_j ee127_41 rfl trivial ?_
      refine xx_j ee127_42 rfl trivial ?_
      first | refine xx_rs ee127_43 (h1.lnh hvm) (by omega) (by decide) rfl (Or.inl rfl) ?_ | refine xx_rs ee127_43 (h1.lnh hvm) (by omega) (by decide) rfl (Or.inr rfl) ?_
      refine xx_j ee127_44 rfl trivial ?_
      refine xx_gr ee127_46 a1 rfl rfl ?_
      refine xx_j ee127_49 rfl trivial ?_
      refine xx_gi ee127_50 a5.fin rfl rfl ?_
      refine xx_k ee127_53 1 rfl ?_
      refine xx_sub ee127_54 (by omega) ?_
      refine xx_pi ee127_55 rfl ?_
      refine xx_j ee127_58 rfl trivial ?_
      refine xx_j ee127_59 rfl trivial ?_
      refine xx_gi ee127_60 (h1.t.fin.trans (hJ1.1.ri.f ff_Mod_flits rfl (by decide))) rfl rfl ?_
      refine xx_k ee127_63 1 rfl ?_
      refine xx_sub ee127_64 (by omega) ?_
      refine xx_pi ee127_65 rfl ?_
      refine xx_j ee127_68 rfl trivial ?_
      refine xx_j ee127_69 rfl trivial ?_
      refine xx_gi ee127_70 (h1.t.rec.trans (hJ1.1.ri.f ff_Mod_received rfl (by decide))) rfl rfl ?_
      refine xx_k ee127_73 1 rfl ?_
      first | refine xx_add ee127_74 ?_ | refine xx_j ee127_74 rfl trivial ?_
      refine xx_pi ee127_75 rfl ?_
      have hA2 := h1.rcv hJ1.1 c1 g1 (y1 := nI (sp_cnt (fun i => spk M1 i == spk M1 f) ((rn M1 ff_Mod_flits 0)) - 1)) (y2 := nI ((rn M1 ff_Mod_flits 0) - 1)) (y3 := nI (rn M1 ff_Mod_received 0 + 1)) rfl rfl rfl
      rw [g2, f2] at hA2
      have enN : (rn (om_rcv M1 f) ff_Mod_notes 0) = (rn M1 ff_Mod_notes 0) := rn_eq (rcv_o (by decide) (by decide))
      rw [← enN] at hA2
      have hN2 : JN (om_rcv M1 f) := hN1.to (fun i => rcv_o (by decide) (by decide)) (fun i => rcv_o (by decide) (by decide)) (fun i => rcv_o (by decide) (by decide)) (fun i => rcv_o (by decide) (by decide)) (fun i => rcv_o (by decide) (by decide))
      rw [← enN] at c1 c2
      rw [g2] at c2
      have h12 : J12 (om_rcv M1 f) v (fun _ => False) := hJ1.2 v hv1
      have hlo : rn (om_rcv M1 f) ff_Mod_lost 0 < 9000000 := by rw [rn_eq (rcv_o (by decide) (by decide))]; exact hl1
      refine xx_j ee127_78 rfl trivial ?_
      refine xx_j ee127_79 rfl trivial ?_
      refine xx_gr ee127_80 nd.rcv rfl rfl ?_
      refine xx_j ee127_83 rfl trivial ?_
      refine xx_c ee127_85 rfl (k_receive hA2 c1 hN2 c2 h12 hlo a1 a4 (fun s3 rt3 hC3 hA3 => ?_))
      first | refine xx_inc ee127_88 rfl ?_ | refine xx_j ee127_88 rfl trivial ?_
      refine xx_j ee127_91 rfl trivial ?_
      have e : om_rc1 M1 v = om_rj (om_rcv M1 f) v (spk M1 f) (rn M1 ff_Mod_tries f) (rn M1 ff_Mod_number f) := by
        unfold om_rc1
        rw [f1]
        show om_receive M1 f = _
        rw [(hJ1.receive g1 (by rw [g2, g3]) hc1 hl1).2.1, g2]
        unfold om_rj om_j
        rw [g2]
        cases sjk (om_rcv M1 f) v (spk M1 f) (rn M1 ff_Mod_tries f) <;> rfl
      refine kk s3 rt3 _ _ ((((((CK.rf x s1).sar).sfi (by decide)).sfi (by decide)).sfi (by decide)).tr hC3) ?_
      rw [e]
      exact hA3
    · unfold slb at hn
      exact xx_rv ee127_28 (kn (Option.map_eq_none_iff.mp hn))
  obtain ⟨q1, q2, q3⟩ := hJ.rc1 (v := v) (by omega) (by omega)
  have hv1 : v < (rn (om_rc1 M v) ff_Mod_all 0) := by rw [rc1_rn (by decide)]; exact hv
  have non : ∀ M1 : rf_M, shome M1 v = none → om_rc1 M1 v = M1 := fun M1 e => by unfold om_rc1; rw [e]
  refine xx_k ee127_0 0 rfl ?_
  refine xx_j ee127_1 rfl trivial ?_
  refine one 0 M s rt _ _ (by omega) h hJ hN hgo hv (by omega) (by omega) (fun e => ?_) (fun s2 rt2 x3 x4 hC2 hA2 => ?_)
  · rw [non M e, non M e] at k
    exact k s rt (CK.rf x s) h
  · refine one 1 (om_rc1 M v) s2 rt2 _ _ (by omega) hA2 q1 hN.rc1 (by rw [rc1_gold]; exact hC2.go hgo) hv1 (by omega) (by omega) (fun e => ?_) (fun s3 rt3 x3 x4 hC3 hA3 => ?_)
    · rw [non _ e] at k
      exact k s2 rt2 hC2 hA2
    · refine xx_j ee127_2 rfl trivial ?_
      refine xx_k ee127_3 2 rfl ?_
      refine xx_ge ee127_4 (by omega) (by omega) (fun _ => ?_) (fun h => by omega)
      exact xx_rv ee127_94 (k s3 rt3 (hC2.tr hC3) hA3)
theorem k_starved (h : RA s x B H C Y P m rt K L M) (hI : RI M) (h0 : 0 < (rn M ff_Mod_all 0)) (h64 : (rn M ff_Mod_all 0) ≤ 64) (k : Q (some (vI (oI (sfav M)))) s) : fx_M mm_Torus_firstStarved [vR 10 (some x)] s Q := by
  have et := hI.f ff_Mod_turn rfl (by decide)
  have lt := hI.l ff_Mod_turn 0 64 (n := 1) rfl (by omega) rfl (by omega)
  have ep := hI.f ff_Mod_patience rfl (by decide)
  have lp := hI.l ff_Mod_patience 0 1001 (n := 1) rfl (by omega) rfl (by omega)
  refine xx_i ml1 ?_
  refine xx_k ee1_0 0 rfl ?_
  refine xx_j ee1_1 rfl trivial ?_
  have key : ∀ d j x2, j + d = (rn M ff_Mod_all 0) → (sp_first (fun k => decide (rn M ff_Mod_patience 0 ≤ rn M ff_Mod_hungry ((rn M ff_Mod_turn 0 + k) % (rn M ff_Mod_all 0)))) j d).map (fun k => (rn M ff_Mod_turn 0 + k) % (rn M ff_Mod_all 0)) = sfav M → fx_W 1 2 [some (vR 10 (some x)), some (vI (nI j)), x2] [] s Q := by
    intro d
    induction d with
    | zero =>
      intro j x2 hj hs
      refine xx_j ee1_2 rfl trivial ?_
      refine xx_j ee1_3 rfl trivial ?_
      refine xx_gr ee1_4 h.sk.a.grid rfl rfl ?_
      refine xx_gi ee1_7 h.g.a.1 rfl rfl ?_
      refine xx_ge ee1_10 (by omega) (by omega) (fun _ => ?_) (fun h => by omega)
      refine xx_km ee1_55 rfl ?_
      refine xx_ri ee1_56 rt1 ?_
      rw [← hs] at k
      exact k
    | succ d ih =>
      intro j x2 hj hs
      have hmod := Nat.mod_lt (rn M ff_Mod_turn 0 + j) h0
      have hvm : (rn M ff_Mod_turn 0 + j) % (rn M ff_Mod_all 0) < m := Nat.lt_of_lt_of_le hmod h.nm
      have nd := h.sk.b _ hvm
      have eh := hI.e ff_Mod_hungry ((rn M ff_Mod_turn 0 + j) % (rn M ff_Mod_all 0)) (n := 64) rfl (by omega) (by decide)
      have lh := hI.l ff_Mod_hungry ((rn M ff_Mod_turn 0 + j) % (rn M ff_Mod_all 0)) 1000000 (n := 64) rfl (by omega) rfl (by omega)
      refine xx_j ee1_2 rfl trivial ?_
      refine xx_j ee1_3 rfl trivial ?_
      refine xx_gr ee1_4 h.sk.a.grid rfl rfl ?_
      refine xx_gi ee1_7 h.g.a.1 rfl rfl ?_
      refine xx_ge ee1_10 (by omega) (by omega) (fun h => by omega) (fun _ => ?_)
      refine xx_j ee1_13 rfl trivial ?_
      refine xx_gi ee1_14 (h.t.turn.trans et) rfl rfl ?_
      refine xx_j ee1_17 rfl trivial ?_
      first | refine xx_add ee1_18 ?_ | refine xx_j ee1_18 rfl trivial ?_
      refine xx_j ee1_19 rfl trivial ?_
      refine xx_gr ee1_20 h.sk.a.grid rfl rfl ?_
      refine xx_gi ee1_23 h.g.a.1 rfl rfl ?_
      refine xx_rem ee1_26 (by omega) h0 (by omega) ?_
      refine xx_j ee1_27 rfl trivial ?_
      refine xx_j ee1_28 rfl trivial ?_
      refine xx_gr ee1_29 h.sk.a.nodes rfl rfl ?_
      refine xx_j ee1_32 rfl trivial ?_
      refine xx_rl ee1_33 h.sk.a.lnod (by omega) (by decide) nd.at rfl ?_
      refine xx_gr ee1_34 nd.snd rfl rfl ?_
      refine xx_gi ee1_37 ((h.s.hun _ hvm).trans eh) rfl rfl ?_
      refine xx_j ee1_40 rfl trivial ?_
      refine xx_gi ee1_41 (h.t.pat.trans ep) rfl rfl ?_
      refine xx_lt ee1_44 (by omega) (by omega) (fun hlt => ?_) (fun hge => ?_)
      · first | refine xx_inc ee1_49 rfl ?_ | refine xx_j ee1_49 rfl trivial ?_
        refine xx_j ee1_52 rfl trivial ?_
        refine ih (j + 1) _ (by omega) ?_
        rw [← hs]
        conv => rhs; unfold sp_first
        rw [show decide (rn M ff_Mod_patience 0 ≤ rn M ff_Mod_hungry ((rn M ff_Mod_turn 0 + j) % (rn M ff_Mod_all 0))) = false by simpa using hlt, cond_false]
      · refine xx_j ee1_47 rfl trivial ?_
        refine xx_ri ee1_48 rt1 ?_
        rw [← hs] at k
        unfold sp_first at k
        rw [show decide (rn M ff_Mod_patience 0 ≤ rn M ff_Mod_hungry ((rn M ff_Mod_turn 0 + j) % (rn M ff_Mod_all 0))) = true by simpa using hge, cond_true] at k
        exact k
  exact key ((rn M ff_Mod_all 0)) 0 _ (by omega) rfl
end
