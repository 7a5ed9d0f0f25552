/-! THE CLASS: flits leave a node -/
section
variable {s : fx_S} {Q : fx_Q} {x m : Nat} {B H P : Nat → Nat} {C : Nat → Nat → Option Nat} {Y : Nat → Nat → Nat} {rt : Nat → List Nat} {K : Nat → Prop} {L : List Nat} {M N : rf_M} {lv : Nat → Prop}
theorem fx_up_id {f i : Nat} {y : Int32} (h : M f i = y) : fx_up M f i y = M := by
  funext g j
  by_cases c : g = f ∧ j = i
  · rw [c.1, c.2, fx_up_same, h]
  · rw [fx_up_ne c]
/-- the flits at v by their ways -/
theorem sgo_of {v f w : Nat} (hg : WG M v) (hf : f < (rn M ff_Mod_flits 0)) (hv : rn M ff_Mod_at f = v) (hw : M ff_Mod_way f = nI w) : sgo M v w = some f := by
  cases hs : sgo M v w with
  | none =>
    have := sp_first_none.mp hs f (by omega) (by omega)
    simp [hv, hw] at this
  | some g =>
    obtain ⟨g1, g2, g3⟩ := sgo_some hs
    rw [hg.2 g f g1 hf g2 hv (g3.trans hw.symm)]
def sgp (M : rf_M) (v : Nat) (Pd : Nat → Nat → Bool) (w : Nat) : Bool := match sgo M v w with
  | none => false
  | some f => Pd w f
theorem sgp_n {v w : Nat} {Pd : Nat → Nat → Bool} (h : sgo M v w = none) : sgp M v Pd w = false := by
  unfold sgp
  rw [h]
theorem sgp_s {v w f : Nat} {Pd : Nat → Nat → Bool} (h : sgo M v w = some f) : sgp M v Pd w = Pd w f := by
  unfold sgp
  rw [h]
theorem ways_cnt {v : Nat} {Pd : Nat → Nat → Bool} (hg : WG M v) : sp_cnt (sgp M v Pd) 4 = sp_cnt (fun f => rn M ff_Mod_at f == v && Pd (rn M ff_Mod_way f) f) ((rn M ff_Mod_flits 0)) := by
  refine Nat.le_antisymm ?_ ?_
  · refine cnt_inj (φ := fun w => (sgo M v w).getD 0) 4 _ (fun w hw hp => ?_) (fun i j hi hj hp hq e => ?_)
    · cases hs : sgo M v w with
      | none => rw [sgp_n hs] at hp; cases hp
      | some f =>
        rw [sgp_s hs] at hp
        obtain ⟨g1, g2, g3⟩ := sgo_some hs
        refine ⟨g1, ?_⟩
        show (rn M ff_Mod_at f == v && Pd (rn M ff_Mod_way f) f) = true
        rw [rn_of g3 (by omega), hp, g2]
        simp
    · cases hs : sgo M v i with
      | none => rw [sgp_n hs] at hp; cases hp
      | some f =>
        cases hs2 : sgo M v j with
        | none => rw [sgp_n hs2] at hq; cases hq
        | some g =>
          have e' : f = g := by
            have : (sgo M v i).getD 0 = (sgo M v j).getD 0 := e
            rw [hs, hs2] at this
            exact this
          have a := (sgo_some hs).2.2
          have b := (sgo_some hs2).2.2
          rw [e', b] at a
          exact ((nI_eq (by omega) (by omega)).mp a).symm
  · refine cnt_inj (φ := fun f => rn M ff_Mod_way f) ((rn M ff_Mod_flits 0)) _ (fun f hf hp => ?_) (fun i j hi hj hp hq e => ?_)
    · simp only [Bool.and_eq_true, beq_iff_eq] at hp
      obtain ⟨w, w1, w2, -⟩ := hg.1 f hf hp.1
      have w3 := rn_of w2 (by omega)
      refine ⟨by show rn M ff_Mod_way f < 4; omega, ?_⟩
      show sgp M v Pd (rn M ff_Mod_way f) = true
      rw [w3] at hp ⊢
      rw [sgp_s (sgo_of hg hf hp.1 w2)]
      exact hp.2
    · simp only [Bool.and_eq_true, beq_iff_eq] at hp hq
      obtain ⟨w, w1, w2, -⟩ := hg.1 i hi hp.1
      obtain ⟨u, u1, u2, -⟩ := hg.1 j hj hq.1
      have e' : rn M ff_Mod_way i = rn M ff_Mod_way j := e
      rw [rn_of w2 (by omega), rn_of u2 (by omega)] at e'
      exact hg.2 i j hi hj hp.1 hq.1 (by rw [w2, u2, e'])
theorem JI.dfl {y : Nat} (h : JI M) (hy : y < 10000000) : JI (fx_up M ff_Mod_deflected 0 (nI y)) := ⟨⟨h.1.ri.up (b := 10000000) rfl hy (by decide) (by decide), h.1.net, h.1.j2, h.1.j3, h.1.j4, h.1.j5, h.1.j6, h.1.j7, h.1.j8, h.1.j8u, h.1.j9, h.1.j9u, h.1.j10, h.1.j10u, h.1.j11, h.1.j11u, h.1.j13, h.1.j14⟩, h.2⟩
theorem dfl_sg {y : Int32} {f : Nat} : sg (fx_up M ff_Mod_deflected 0 y) f = sg M f := by
  unfold sg
  rw [rn_pe (by decide), rn_pe (by decide), rn_pe (by decide)]
theorem dfl_want {y : Int32} {v w g : Nat} : swant (fx_up M ff_Mod_deflected 0 y) v w g = swant M v w g := by
  unfold swant
  rw [rz_pe (by decide), rn_pe (by decide), rn_pe (by decide), rn_pe (by decide)]
theorem dfl_spk {y : Int32} {f : Nat} : spk (fx_up M ff_Mod_deflected 0 y) f = spk M f := by
  unfold spk
  rw [rn_pe (by decide), rn_pe (by decide)]
theorem dfl_fob {y : Int32} {g : Option Nat} : fob s P (fx_up M ff_Mod_deflected 0 y) g = fob s P M g := by
  cases g with
  | none =>
    unfold fob
    rw [ob_none, ob_none]
  | some g =>
    show fx_ar s (P (spk (fx_up M ff_Mod_deflected 0 y) g) + 1) (rn (fx_up M ff_Mod_deflected 0 y) ff_Mod_number g) = fx_ar s (P (spk M g) + 1) (rn M ff_Mod_number g)
    rw [dfl_spk, rn_pe (by decide)]
theorem JN.dfl {y : Int32} (h : JN M) : JN (fx_up M ff_Mod_deflected 0 y) := h.to (fun i => fx_up_ne (fun q => absurd q.1 (by decide))) (fun i => fx_up_ne (fun q => absurd q.1 (by decide))) (fun i => fx_up_ne (fun q => absurd q.1 (by decide))) (fun i => fx_up_ne (fun q => absurd q.1 (by decide))) (fun i => fx_up_ne (fun q => absurd q.1 (by decide)))
/-- the next way of node v -/
theorem swc_step {v j u w : Nat} (hg : WG M v) (hj : j < 4) (hw : w < 4) (hn9 : rn M ff_Mod_n 0 < 9) (hn2 : 2 ≤ rn M ff_Mod_n 0) (hNN : (rn M ff_Mod_all 0) = rn M ff_Mod_n 0 * rn M ff_Mod_n 0) (hat : ∀ f, f < (rn M ff_Mod_flits 0) → rn M ff_Mod_at f < (rn M ff_Mod_all 0)) (hv : v < (rn M ff_Mod_all 0)) : swc M v (j + 1) u w = if w = j ∧ nb (rn M ff_Mod_n 0) v j = u ∧ (sgo M v j).isSome = true then sgo M v j else swc M v j u w := by
  by_cases c : w = j ∧ nb (rn M ff_Mod_n 0) v j = u ∧ (sgo M v j).isSome = true
  · rw [if_pos c]
    obtain ⟨c1, c2, c3⟩ := c
    subst c1
    obtain ⟨f, hf⟩ := Option.isSome_iff_exists.mp c3
    rw [hf]
    obtain ⟨f1, f2, f3⟩ := sgo_some hf
    refine sp_first_some.mpr ⟨by omega, by omega, ?_, fun g _ hgf => ?_⟩
    · rw [f2, f3, c2]
      simp
    · cases hc : ((decide (rn M ff_Mod_at g < v) || (rn M ff_Mod_at g == v && decide (w < w + 1))) && (nb (rn M ff_Mod_n 0) (rn M ff_Mod_at g) w == u) && decide (M ff_Mod_way g = nI w)) with
      | false => rfl
      | true =>
        exfalso
        simp only [Bool.and_eq_true, beq_iff_eq, decide_eq_true_eq] at hc
        have e := nb_inj hn9 hn2 (by rw [← hNN]; exact hat g (by omega)) (by rw [← hNN]; exact hv) hw (hc.1.2.trans c2.symm)
        have := hg.2 g f (by omega) f1 e f2 (hc.2.trans f3.symm)
        omega
  · rw [if_neg c]
    unfold swc
    refine sp_first_congr _ _ (fun f _ hf => ?_)
    by_cases d : w = j
    · subst d
      by_cases e : rn M ff_Mod_at f = v ∧ nb (rn M ff_Mod_n 0) (rn M ff_Mod_at f) w = u ∧ M ff_Mod_way f = nI w
      · exfalso
        obtain ⟨e1, e2, e3⟩ := e
        refine c ⟨rfl, by rw [← e1]; exact e2, ?_⟩
        rw [sgo_of hg (by omega) e1 e3]; rfl
      · rw [show decide (w < w + 1) = true by simp, show decide (w < w) = false by simp]
        by_cases e1 : rn M ff_Mod_at f = v
        · by_cases e2 : nb (rn M ff_Mod_n 0) (rn M ff_Mod_at f) w = u
          · have e3 : ¬ M ff_Mod_way f = nI w := fun q => e ⟨e1, e2, q⟩
            simp [e3]
          · rw [beq_eq_false_iff_ne.mpr e2]; simp
        · rw [beq_eq_false_iff_ne.mpr e1]; simp
    · rw [show decide (w < j + 1) = decide (w < j) by rw [decide_eq_decide]; omega]
theorem swc_4 {v u w : Nat} (hw : w < 4) : swc M v 4 u w = swc M (v + 1) 0 u w := by
  unfold swc
  refine sp_first_congr _ _ (fun f _ _ => ?_)
  rw [show decide (w < 4) = true by simpa using hw, show decide (w < 0) = false by simp]
  by_cases c : rn M ff_Mod_at f < v
  · simp [c, Nat.lt_succ_of_lt c]
  · by_cases d : rn M ff_Mod_at f = v
    · simp [d]
    · have e1 : ¬ rn M ff_Mod_at f < v + 1 := by omega
      simp [c, d, e1]
theorem swc_off {v u w : Nat} (h : ∀ f, f < (rn M ff_Mod_flits 0) → rn M ff_Mod_at f ≠ v) : swc M (v + 1) 0 u w = swc M v 0 u w := by
  unfold swc
  refine sp_first_congr _ _ (fun f _ hf => ?_)
  have := h f (by omega)
  rw [show decide (w < 0) = false by simp]
  by_cases c : rn M ff_Mod_at f < v
  · simp [c, Nat.lt_succ_of_lt c]
  · have e1 : ¬ rn M ff_Mod_at f < v + 1 := by omega
    simp [c, e1]
theorem swc_wx {v u w : Nat} {M' : rf_M} (h : WX v M M') : swc M' v 0 u w = swc M v 0 u w := by
  unfold swc
  rw [h.en (by decide), h.en (by decide)]
  refine sp_first_congr _ _ (fun f _ hf => ?_)
  rw [h.en (by decide), show decide (w < 0) = false by simp]
  by_cases c : rn M ff_Mod_at f = v
  · simp [c]
  · rw [h ff_Mod_way f (fun q => c q.2.2)]
theorem wx_fob {v : Nat} {M' : rf_M} {g : Option Nat} (h : WX v M M') : fob s P M' g = fob s P M g := by
  cases g with
  | none =>
    unfold fob
    rw [ob_none, ob_none]
  | some g =>
    show fx_ar s (P (spk M' g) + 1) (rn M' ff_Mod_number g) = fx_ar s (P (spk M g) + 1) (rn M ff_Mod_number g)
    have e : spk M' g = spk M g := by unfold spk; rw [h.en (by decide), h.en (by decide)]
    rw [e, h.en (by decide)]
/-- how many of v's flits were deflected -/
def sdv (M : rf_M) (v : Nat) : Nat := sp_cnt (fun f => rn M ff_Mod_at f == v && !swant M v (rn M ff_Mod_way f) (sg M f)) ((rn M ff_Mod_flits 0))
theorem k_moveFrom {v : Nat} (h : RA s x B H C Y P m rt K L M) (hcm : CM s B H P m M v 0) (hJ : JI M) (hN : JN M) (hgo : RGo s x (sgold M)) (hv : v < (rn M ff_Mod_all 0)) (hnone : ∀ f, f < (rn M ff_Mod_flits 0) → rn M ff_Mod_at f = v → M ff_Mod_way f = fx_neg) (hb : rn M ff_Mod_deflected 0 + 4 < 10000000) (k : ∀ t C', CK x s t → RA t x B H C' Y P m rt K L (fx_up (fx_up (om_gv M v) ff_Mod_deflected 0 (nI (rn M ff_Mod_deflected 0 + sdv (om_gv M v) v))) ff_Mod_went v (nI (rn M ff_Mod_went v + sfa M v))) → CM t B H P m (om_gv M v) (v + 1) 0 → Q (some (vI (nI (sfa M v)))) t) : fx_M mm_Torus_moveFrom [vR 10 (some x), vR 14 (some (B v))] s Q := by
  have h64 := hJ.1.all64
  have hvm : v < m := Nat.lt_of_lt_of_le hv h.nm
  have nd := h.sk.b v hvm
  have h257 := hJ.1.ri.fNl
  have hs4 : sfa M v ≤ 4 := Nat.le_trans (hJ.1.j5 v hv) (fx_ow_le _ _)
  obtain ⟨g1, g2, g3, g4⟩ := gv_ok hJ hv hnone
  have ed := hJ.1.ri.f ff_Mod_deflected rfl (by decide)
  have ew := hJ.1.ri.e ff_Mod_went v (n := 64) rfl (by omega) (by decide)
  refine xx_i ml126 ?_
  refine xx_j ee126_0 rfl trivial ?_
  refine xx_c ee126_1 rfl (k_flitsHere h hJ.1 hvm ?_)
  refine xx_kne ee126_4 (by omega) (fun hne => ?_) (fun hz => ?_)
  · -- the ways are known
    obtain ⟨n2, n9, nn⟩ := g2.1.n2
    have hv2 : v < (rn (om_gv M v) ff_Mod_all 0) := by rw [g4.en (by decide)]; exact hv
    have goldE : sgold (om_gv M v) = sgold M := sgold_eq (g4.en (by decide)) (g4.en (by decide)) (g4.en (by decide))
    have hN2 : JN (om_gv M v) := hN.to (fun i => g4 _ i (fun q => absurd q.1 (by decide))) (fun i => g4 _ i (fun q => absurd q.1 (by decide))) (fun i => g4 _ i (fun q => absurd q.1 (by decide))) (fun i => g4 _ i (fun q => absurd q.1 (by decide))) (fun i => g4 _ i (fun q => absurd q.1 (by decide)))
    have eD2 : rn (om_gv M v) ff_Mod_deflected 0 = rn M ff_Mod_deflected 0 := g4.en (by decide)
    have sfaE : sfa (om_gv M v) v = sfa M v := by
      unfold sfa
      rw [g4.en (by decide)]
      exact sp_cnt_congr _ (fun f _ => by rw [g4.en (by decide)])
    have rest : ∀ t1, AK x s t1 → RA t1 x B H C Y P m rt K L (om_gv M v) → OUT t1 x P (om_gv M v) v → fx_W 126 49 [some (vR 10 (some x)), some (vR 14 (some (B v))), none, none, none] [] t1 Q := by
      intro t1 hK1 hA1 hO1
      have hcm1 : CM t1 B H P m (om_gv M v) v 0 := by
        intro u w hu hw
        have hin := h.sk.c.in_ u hu
        have hHu := h.f.h1 u hu
        rw [hK1.2 _ (by omega) (by omega) (by omega), hcm u w hu hw, swc_wx g4, wx_fob g4]
        exact (hK1.fob h hJ.1 (fun a ha => (swc_some ha).1)).symm
      generalize hM2 : om_gv M v = M2 at *
      have h257' : (rn M2 ff_Mod_flits 0) ≤ 256 := by have := g2.1.ri.fNl; omega
      -- way by way
      have loop : ∀ d j t C' x4, j + d = 4 → CK x s t → RA t x B H C' Y P m rt K L (fx_up M2 ff_Mod_deflected 0 (nI (rn M ff_Mod_deflected 0 + sp_cnt (sgp M2 v (fun w f => !swant M2 v w (sg M2 f))) j))) → (∀ w, w < 4 → fx_ar t (x + 2) w = fob t P M2 (sgo M2 v w)) → CM t B H P m M2 v j → fx_W 126 53 [some (vR 10 (some x)), some (vR 14 (some (B v))), some (vI (nI (sp_cnt (sgp M2 v (fun _ _ => true)) j))), some (vI (nI j)), x4] [] t Q := by
        intro d
        induction d with
        | zero =>
          intro j t C' x4 hj hK hA hO hC
          obtain rfl : j = 4 := by omega
          have e1 : sp_cnt (sgp M2 v (fun _ _ => true)) 4 = sfa M v := by
            rw [ways_cnt g3, ← sfaE]
            unfold sfa
            exact sp_cnt_congr _ (fun f _ => by simp)
          have e2 : sp_cnt (sgp M2 v (fun w f => !swant M2 v w (sg M2 f))) 4 = sdv M2 v := ways_cnt g3
          have ewt : fx_fi t ff_Node_wentOut (B v) = nI (rn M ff_Mod_went v) := (hA.s.went v hvm).trans (by rw [fx_up_ne (fun q => absurd q.1 (by decide)), g4 _ _ (fun q => absurd q.1 (by decide))]; exact ew)
          refine xx_j ee126_53 rfl trivial ?_
          refine xx_k ee126_54 4 rfl ?_
          refine xx_ge ee126_55 (by omega) (by omega) (fun _ => ?_) (fun h => by omega)
          rw [e1]
          rw [e2] at hA
          refine xx_j ee126_140 rfl trivial ?_
          refine xx_j ee126_141 rfl trivial ?_
          refine xx_gi ee126_142 ewt rfl rfl ?_
          refine xx_j ee126_145 rfl trivial ?_
          first | refine xx_add ee126_146 ?_ | refine xx_j ee126_146 rfl trivial ?_
          refine xx_pi ee126_147 rfl ?_
          refine xx_j ee126_150 rfl trivial ?_
          refine xx_ri ee126_151 rt126 (k _ _ (hK.sfi (by decide)) (hA.went hvm) (fun u w hu hw => ?_))
          rw [← swc_4 hw]
          exact hC u w hu hw
        | succ d ih =>
          intro j t C' x4 hj hK hA hO hC
          have nd' := hA.sk.b v hvm
          have dj : sp_cnt (sgp M2 v (fun w f => !swant M2 v w (sg M2 f))) j ≤ j := sp_cnt_le _ _
          have cj : sp_cnt (sgp M2 v (fun _ _ => true)) j ≤ j := sp_cnt_le _ _
          have hJd : JI (fx_up M2 ff_Mod_deflected 0 (nI (rn M ff_Mod_deflected 0 + sp_cnt (sgp M2 v (fun w f => !swant M2 v w (sg M2 f))) j))) := g2.dfl (by omega)
          refine xx_j ee126_53 rfl trivial ?_
          refine xx_k ee126_54 4 rfl ?_
          refine xx_ge ee126_55 (by omega) (by omega) (fun h => by omega) (fun _ => ?_)
          refine xx_j ee126_58 rfl trivial ?_
          refine xx_gr ee126_59 hA.sk.a.router rfl rfl ?_
          refine xx_gr ee126_62 hA.sk.a.out rfl rfl ?_
          refine xx_j ee126_65 rfl trivial ?_
          refine xx_rl ee126_66 hA.sk.a.lout (by omega) (by decide) (hO j (by omega)) rfl ?_
          refine xx_j ee126_67 rfl trivial ?_
          cases hs : sgo M2 v j with
          | none =>
            have e0 : fob t P M2 none = none := rfl
            rw [e0]
            refine xx_j ee126_69 rfl trivial ?_
            refine xx_nu ee126_71 (fun _ => ?_) (fun b hb => by cases hb)
            first | refine xx_inc ee126_134 rfl ?_ | refine xx_j ee126_134 rfl trivial ?_
            refine xx_j ee126_137 rfl trivial ?_
            have := ih (j + 1) t C' (some (vR 12 none)) (by omega) hK (by rw [sp_cnt_s (b := false) (sgp_n hs)]; exact hA) hO (fun u w hu hw => by
              rw [swc_step g3 (by omega) hw n9 n2 nn g2.1.net.2.2 hv2, if_neg (fun q => by rw [hs] at q; cases q.2.2)]
              exact hC u w hu hw)
            rw [sp_cnt_s (b := false) (sgp_n hs)] at this
            exact this
          | some f =>
            obtain ⟨f1, f2, f3⟩ := sgo_some hs
            obtain ⟨F, e1, e2⟩ := hA.fob1 hJd.1 (f := f) (by rw [rn_pe (by decide)]; exact f1)
            have e1' : fob t P M2 (some f) = some F := by rw [← e1, dfl_fob]
            have ftr := hA.fo hJd.1 e2
            have hgl := hA.gl hJd.1 e2
            rw [dfl_spk] at ftr
            rw [dfl_spk, dfl_sg] at hgl
            have hnb : nb (rn M2 ff_Mod_n 0) v j < (rn M2 ff_Mod_all 0) := by rw [nn]; exact nb_lt (by omega) (by rw [← nn]; exact hv2)
            have hum : nb (rn M2 ff_Mod_n 0) v j < m := Nat.lt_of_lt_of_le hnb (by have := hA.nm; rw [rn_pe (by decide)] at this; exact this)
            have ndu := hA.sk.b _ hum
            have hcl : fx_ln t (B (nb (rn M2 ff_Mod_n 0) v j) + (37 - H (nb (rn M2 ff_Mod_n 0) v j))) = 4 := by
              rcases hA.f.h1 _ hum with q | q
              · rw [q]; exact ndu.lc
              · rw [q]; exact ndu.lh
            have hGa : RGa t x (rz M2 ff_Mod_closed) (rn M2 ff_Mod_n 0) ((rn M2 ff_Mod_all 0)) := hA.g.a
            have hA64 : (rn M2 ff_Mod_all 0) ≤ 64 := g2.1.all64
            rw [e1']
            refine xx_j ee126_69 rfl trivial ?_
            refine xx_nu ee126_71 (fun hb => by cases hb) (fun _ _ => ?_)
            first | refine xx_inc ee126_74 rfl ?_ | refine xx_j ee126_74 rfl trivial ?_
            refine xx_j ee126_77 rfl trivial ?_
            refine xx_gr ee126_78 hA.sk.a.nodes rfl rfl ?_
            refine xx_j ee126_81 rfl trivial ?_
            refine xx_gr ee126_82 hA.sk.a.grid rfl rfl ?_
            refine xx_j ee126_85 rfl trivial ?_
            refine xx_gi ee126_86 nd'.num rfl rfl ?_
            refine xx_j ee126_89 rfl trivial ?_
            refine xx_c ee126_90 rfl (k_beside hA.sk.a hGa hA64 hv2 (by omega) ?_)
            refine xx_rl ee126_93 hA.sk.a.lnod (by omega) (by decide) ndu.at rfl ?_
            refine xx_gr ee126_94 (hA.f.com _ hum) rfl rfl ?_
            refine xx_j ee126_97 rfl trivial ?_
            refine xx_j ee126_98 rfl trivial ?_
            first | refine xx_rs ee126_100 hcl (by omega) (by decide) rfl (Or.inl rfl) ?_ | refine xx_rs ee126_100 hcl (by omega) (by decide) rfl (Or.inr rfl) ?_
            have hA2 := hA.csar (u := nb (rn M2 ff_Mod_n 0) v j) (i := j) (o := some F) hJd.1 hum
            generalize hT : fx_sar t (B (nb (rn M2 ff_Mod_n 0) v j) + (37 - H (nb (rn M2 ff_Mod_n 0) v j))) j (some F) = T at *
            have hKT : CK x s T := by rw [← hT]; exact hK.sar
            have ndT := hA2.sk.b v hvm
            have fbT : ∀ g, (∀ a, g = some a → a < (rn M2 ff_Mod_flits 0)) → fob T P M2 g = fob t P M2 g := by
              intro g hg
              cases g with
              | none =>
                unfold fob
                rw [ob_none, ob_none]
              | some a =>
                show fx_ar T (P (spk M2 a) + 1) (rn M2 ff_Mod_number a) = fx_ar t (P (spk M2 a) + 1) (rn M2 ff_Mod_number a)
                rw [← hT, ar_ne]
                intro q
                have q2 := g2.1.j2 a (hg a rfl)
                have := (hA.k.in_ _ (hA.o.kp _ q2.2.2.1 (by rw [rn_pe (by decide)]; exact q2.1))).2.2 _ hum
                have := hA.f.h1 _ hum
                omega
            have hOT : ∀ w, w < 4 → fx_ar T (x + 2) w = fob T P M2 (sgo M2 v w) := by
              intro w hw
              rw [fbT _ (fun a ha => (sgo_some ha).1), ← hO w hw, ← hT, ar_ne]
              intro q
              have := h.sk.c.in_ _ hum
              omega
            have hCT : CM T B H P m M2 v (j + 1) := by
              intro u w hu hw
              rw [swc_step g3 (by omega) hw n9 n2 nn g2.1.net.2.2 hv2]
              by_cases c : w = j ∧ nb (rn M2 ff_Mod_n 0) v j = u ∧ (sgo M2 v j).isSome = true
              · rw [if_pos c, hs, fbT _ (fun a ha => by cases ha; exact f1), e1', ← hT, c.1, ← c.2.1, ar_same]
              · rw [if_neg c, fbT _ (fun a ha => (swc_some ha).1), ← hC u w hu hw, ← hT, ar_ne]
                intro q
                have hHu := hA.f.h1 u hu
                have hHm := hA.f.h1 _ hum
                exact c ⟨q.2, (h.sk.ap hum hu (by omega) (by omega) q.1.symm).1, by rw [hs]; rfl⟩
            have ftrT : fx_fr T ff_Flit_packet F = some (P (spk M2 f)) := by rw [← hT]; exact ftr.1
            have hglT : fx_fi T ff_Packet_goal (P (spk M2 f)) = nI (sg M2 f) := by rw [← hT]; exact hgl.1
            clear hT
            refine xx_j ee126_101 rfl trivial ?_
            refine xx_gr ee126_102 hA2.sk.a.grid rfl rfl ?_
            refine xx_j ee126_105 rfl trivial ?_
            refine xx_gi ee126_106 ndT.num rfl rfl ?_
            refine xx_j ee126_109 rfl trivial ?_
            refine xx_j ee126_110 rfl trivial ?_
            refine xx_gr ee126_112 ftrT rfl rfl ?_
            refine xx_gi ee126_115 hglT rfl rfl ?_
            have hw0 := k_want (Q := fun r s1 => fx_W 126 121 [some (vR 10 (some x)), some (vR 14 (some (B v))), some (vI (nI (sp_cnt (sgp M2 v (fun _ _ => true)) j + 1))), some (vI (nI j)), some (vR 12 (some F))] (r.toList ++ []) s1 Q) hA2 hJd.1 hN2.dfl (v := v) (w := j) (f := f) (by rw [rn_pe (by decide)]; exact hv2) (by omega) (by rw [rn_pe (by decide)]; exact f1) (fun t2 hG2 hA3 => ?_)
            · rw [dfl_sg] at hw0
              exact xx_c ee126_118 rfl hw0
            · rw [dfl_want, dfl_sg]
              have ar2 : fx_ar t2 = fx_ar T := hG2.2.2.2.1
              have hO2 : ∀ w, w < 4 → fx_ar t2 (x + 2) w = fob t2 P M2 (sgo M2 v w) := fun w hw => by unfold fob; rw [ar2]; exact hOT w hw
              have hC2 : CM t2 B H P m M2 v (j + 1) := fun u w hu hw => by unfold fob; rw [ar2]; exact hCT u w hu hw
              refine xx_nz ee126_121 (fun hwt => ?_) (fun hwt => ?_)
              · first | refine xx_inc ee126_134 rfl ?_ | refine xx_j ee126_134 rfl trivial ?_
                refine xx_j ee126_137 rfl trivial ?_
                have := ih (j + 1) t2 _ (some (vR 12 (some F))) (by omega) (hKT.gf hG2) (by rw [sp_cnt_s (b := false) (by rw [sgp_s hs, hwt]; rfl)]; exact hA3) hO2 hC2
                rw [sp_cnt_s (P := sgp M2 v (fun _ _ => true)) (b := true) (sgp_s hs)] at this
                exact this
              · refine xx_j ee126_124 rfl trivial ?_
                refine xx_j ee126_125 rfl trivial ?_
                refine xx_gi ee126_126 (hA3.t.dfl.trans (fx_up_same _ _ _ _)) rfl rfl ?_
                refine xx_k ee126_129 1 rfl ?_
                first | refine xx_add ee126_130 ?_ | refine xx_j ee126_130 rfl trivial ?_
                refine xx_pi ee126_131 rfl ?_
                first | refine xx_inc ee126_134 rfl ?_ | refine xx_j ee126_134 rfl trivial ?_
                refine xx_j ee126_137 rfl trivial ?_
                have hA4 := hA3.dfl (y := nI (rn M ff_Mod_deflected 0 + sp_cnt (sgp M2 v (fun w f => !swant M2 v w (sg M2 f))) j + 1))
                rw [fx_up_up] at hA4
                have := ih (j + 1) (fx_sfi t2 ff_Torus_flitsDeflected x (nI (rn M ff_Mod_deflected 0 + sp_cnt (sgp M2 v (fun w f => !swant M2 v w (sg M2 f))) j + 1))) _ (some (vR 12 (some F))) (by omega) ((hKT.gf hG2).sfi (by decide)) (by rw [sp_cnt_s (b := true) (by rw [sgp_s hs, hwt]; rfl)]; exact hA4) hO2 hC2
                rw [sp_cnt_s (P := sgp M2 v (fun _ _ => true)) (b := true) (sgp_s hs)] at this
                exact this
      refine xx_k ee126_49 0 rfl ?_
      refine xx_j ee126_50 rfl trivial ?_
      refine xx_k ee126_51 0 rfl ?_
      refine xx_j ee126_52 rfl trivial ?_
      refine loop 4 0 t1 C none (by omega) hK1.1 ?_ hO1 hcm1
      have e : fx_up M2 ff_Mod_deflected 0 (nI (rn M ff_Mod_deflected 0 + sp_cnt (sgp M2 v (fun w f => !swant M2 v w (sg M2 f))) 0)) = M2 := fx_up_id (by rw [g4 _ _ (fun q => absurd q.1 (by decide))]; exact ed)
      rw [e]
      exact hA1
    have hmd := hJ.1.ri.l ff_Mod_mode 0 2 (n := 1) rfl (by omega) rfl (by omega)
    refine xx_j ee126_9 rfl trivial ?_
    refine xx_gi ee126_10 (h.t.mode.trans (hJ.1.ri.f ff_Mod_mode rfl (by decide))) rfl rfl ?_
    refine xx_kne ee126_13 (by omega) (fun hm1 => ?_) (fun hm0 => ?_)
    · refine xx_j ee126_34 rfl trivial ?_
      refine xx_gr ee126_35 h.sk.a.router rfl rfl ?_
      refine xx_j ee126_38 rfl trivial ?_
      refine xx_gr ee126_39 (h.f.here v hvm) rfl rfl ?_
      refine xx_j ee126_42 rfl trivial ?_
      refine xx_gi ee126_43 nd.num rfl rfl ?_
      have eg : om_gv M v = om_gc M v := by unfold om_gv; rw [if_neg hm1]
      refine xx_c ee126_46 rfl (k_chooseC h hJ hN hgo hv (fun t1 hK1 hA1 hO1 => ?_))
      rw [← eg] at hA1 hO1
      exact rest t1 hK1 hA1 hO1
    · refine xx_j ee126_16 rfl trivial ?_
      refine xx_gr ee126_17 h.sk.a.router rfl rfl ?_
      refine xx_j ee126_20 rfl trivial ?_
      refine xx_gr ee126_21 (h.f.here v hvm) rfl rfl ?_
      refine xx_j ee126_24 rfl trivial ?_
      refine xx_gi ee126_25 nd.num rfl rfl ?_
      have eg : om_gv M v = om_gr v 4 M := by unfold om_gv; rw [if_pos hm0]
      refine xx_c ee126_28 rfl (k_chooseR h hJ hN hgo hv hnone (fun t1 hK1 hA1 hO1 => ?_))
      rw [← eg] at hA1 hO1
      refine xx_j ee126_31 rfl trivial ?_
      exact rest t1 hK1 hA1 hO1
  · -- nobody is here
    have nof : ∀ f, f < (rn M ff_Mod_flits 0) → rn M ff_Mod_at f ≠ v := fun f hf e => by
      have := (sp_cnt_zero _).mp hz f hf
      simp [e] at this
    have eM : om_gv M v = M := by
      funext g i
      exact g4 g i (fun q => nof i q.2.1 q.2.2)
    have ed0 : sdv M v = 0 := by
      unfold sdv
      rw [sp_cnt_zero]
      intro f hf
      have : (rn M ff_Mod_at f == v) = false := by simpa using nof f hf
      rw [this, Bool.false_and]
    rw [eM, ed0, hz, Nat.add_zero, Nat.add_zero, fx_up_id (M := M) ed, fx_up_id (M := M) ew] at k
    refine xx_k ee126_7 0 rfl ?_
    exact xx_ri ee126_8 rt126 (k s C (CK.rf x s) h (fun u w hu hw => by rw [swc_off nof]; exact hcm u w hu hw))
end
