/-! THE CLASS: choosing by rank -/
section
variable {s : fx_S} {Q : fx_Q} {x m : Nat} {B H P : Nat → Nat} {C : Nat → Nat → Option Nat} {Y : Nat → Nat → Nat} {rt : Nat → List Nat} {K : Nat → Prop} {L : List Nat} {M : rf_M} {lv : Nat → Prop}
/-- the flit at v that has way w -/
def sgo (M : rf_M) (v w : Nat) : Option Nat := sp_first (fun f => rn M ff_Mod_at f == v && decide (M ff_Mod_way f = nI w)) 0 ((rn M ff_Mod_flits 0))
theorem sgo_some {v w f : Nat} (h : sgo M v w = some f) : f < (rn M ff_Mod_flits 0) ∧ rn M ff_Mod_at f = v ∧ M ff_Mod_way f = nI w := by
  obtain ⟨-, h2, h3, -⟩ := sp_first_some.mp h
  simp only [Bool.and_eq_true, beq_iff_eq, decide_eq_true_eq] at h3
  exact ⟨by omega, h3.1, h3.2⟩
/-- what the router puts out -/
def OUT (s : fx_S) (x : Nat) (P : Nat → Nat) (M : rf_M) (v : Nat) : Prop := ∀ w, w < 4 → fx_ar s (x + 2) w = fob s P M (sgo M v w)
theorem RA.way {f : Nat} {y : Int32} (h : RA s x B H C Y P m rt K L M) : RA s x B H C Y P m rt K L (fx_up M ff_Mod_way f y) := ⟨h.sk, ⟨h.t.mode, h.t.pat, h.t.now, h.t.turn, h.t.fin, h.t.dfl, h.t.rec, h.t.ask, h.t.pks⟩, h.g, h.s, h.p, h.w, h.r, h.x, h.m, h.o, h.k, h.f, h.v, h.nm⟩
theorem way_spk {f g : Nat} {y : Int32} : spk (fx_up M ff_Mod_way f y) g = spk M g := by
  unfold spk
  rw [rn_pe (by decide), rn_pe (by decide)]
theorem way_sg {f g : Nat} {y : Int32} : sg (fx_up M ff_Mod_way f y) g = sg M g := by
  unfold sg
  rw [rn_pe (by decide), rn_pe (by decide), rn_pe (by decide)]
theorem way_fob {f : Nat} {y : Int32} {g : Option Nat} : fob s P (fx_up M ff_Mod_way f y) g = fob s P M g := by
  cases g with
  | none => rfl
  | some g =>
    show fx_ar s (P (spk (fx_up M ff_Mod_way f y) g) + 1) (rn (fx_up M ff_Mod_way f y) ff_Mod_number g) = fx_ar s (P (spk M g) + 1) (rn M ff_Mod_number g)
    rw [way_spk, rn_pe (by decide)]
theorem way_gold {f : Nat} {y : Int32} : sgold (fx_up M ff_Mod_way f y) = sgold M := sgold_eq (rn_pe (by decide)) (rn_pe (by decide)) (rn_pe (by decide))
theorem way_key {f g : Nat} {y : Int32} : skey (fx_up M ff_Mod_way f y) g = skey M g := by
  unfold skey
  rw [rn_pe (by decide), rn_pe (by decide), rn_pe (by decide)]
theorem way_sah {f a b : Nat} {y : Int32} : sah (fx_up M ff_Mod_way f y) a b = sah M a b := by
  unfold sah
  rw [way_key, way_key, way_gold, rn_pe (by decide), rn_pe (by decide)]
theorem JN.way {f : Nat} {y : Int32} (h : JN M) : JN (fx_up M ff_Mod_way f y) := h.to (fun i => fx_up_ne (fun q => absurd q.1 (by decide))) (fun i => fx_up_ne (fun q => absurd q.1 (by decide))) (fun i => fx_up_ne (fun q => absurd q.1 (by decide))) (fun i => fx_up_ne (fun q => absurd q.1 (by decide))) (fun i => fx_up_ne (fun q => absurd q.1 (by decide)))
theorem gr_none {v : Nat} (h : snext M v = none) : ∀ n, om_gr v n M = M
  | 0 => rfl
  | n + 1 => by
    unfold om_gr
    rw [h]
theorem sgo_up {v w f g : Nat} (hf : f < (rn M ff_Mod_flits 0)) (hat : rn M ff_Mod_at f = v) (hn : M ff_Mod_way f = fx_neg) (hw : w < 4) (hg : g < 4) (hfr : sgiv M v w = false) : sgo (fx_up M ff_Mod_way f (nI w)) v g = if g = w then some f else sgo M v g := by
  have eW : ∀ k, fx_up M ff_Mod_way f (nI w) ff_Mod_way k = if k = f then nI w else M ff_Mod_way k := by
    intro k
    by_cases e : k = f
    · rw [if_pos e, e, fx_up_same]
    · rw [if_neg e, fx_up_ne (fun q => e q.2)]
  have eA : ∀ k, rn (fx_up M ff_Mod_way f (nI w)) ff_Mod_at k = rn M ff_Mod_at k := fun k => rn_pe (by decide)
  have eN : (rn (fx_up M ff_Mod_way f (nI w)) ff_Mod_flits 0) = (rn M ff_Mod_flits 0) := rn_pe (by decide)
  by_cases c : g = w
  · rw [if_pos c, c]
    unfold sgo
    rw [eN]
    refine sp_first_some.mpr ⟨by omega, by omega, ?_, fun j _ hj => ?_⟩
    · rw [eA, eW, if_pos rfl, hat]; simp
    · rw [eA, eW, if_neg (by omega)]
      cases hc : (rn M ff_Mod_at j == v && decide (M ff_Mod_way j = nI w)) with
      | false => rfl
      | true =>
        simp only [Bool.and_eq_true, beq_iff_eq, decide_eq_true_eq] at hc
        have := sgiv_iff.mpr ⟨j, by omega, hc.1, hc.2⟩
        rw [hfr] at this; cases this
  · rw [if_neg c]
    unfold sgo
    rw [eN]
    refine sp_first_congr _ _ (fun j _ hj => ?_)
    rw [eA, eW]
    by_cases d : j = f
    · rw [if_pos d, d, hn]
      have n1 : ¬ nI w = nI g := fun q => c ((nI_eq (by omega) (by omega)).mp q).symm
      have n2 : ¬ fx_neg = nI g := fun q => oI_ne (by omega) q.symm
      simp [n1, n2]
    · rw [if_neg d]
theorem k_chooseR {v : Nat} (h : RA s x B H C Y P m rt K L M) (hJ : JI M) (hN : JN M) (hgo : RGo s x (sgold M)) (hv : v < (rn M ff_Mod_all 0)) (hnone : ∀ f, f < (rn M ff_Mod_flits 0) → rn M ff_Mod_at f = v → M ff_Mod_way f = fx_neg) (k : ∀ t, AK x s t → RA t x B H C Y P m rt K L (om_gr v 4 M) → OUT t x P (om_gr v 4 M) v → Q none t) : fx_M mm_Router_chooseByRank [vR 19 (some (x + 1)), vR 42 (some (B v + H v)), vI (nI v)] s Q := by
  have h64 := hJ.1.all64
  have hvm : v < m := Nat.lt_of_lt_of_le hv h.nm
  refine xx_i ml123 ?_
  -- the ways are given
  have give : ∀ (l : List Nat) (fuel i n : Nat) (M' : rf_M) t x5, i + l.length = n → n ≤ 4 → l.length ≤ fuel → AK x s t → RA t x B H C Y P m rt K L M' → JI M' → JN M' → RGo t x (sgold M') → v < (rn M' ff_Mod_all 0) → OUT t x P M' v → l.Pairwise (fun a b => sah M' a b = true) → l.Nodup → (∀ f, f ∈ l ↔ f < (rn M' ff_Mod_flits 0) ∧ rn M' ff_Mod_at f = v ∧ M' ff_Mod_way f = fx_neg) → (∀ j g, l[j]? = some g → fx_ar t (x + 10) (i + j) = fob t P M' (some g)) → om_gr v fuel M' = om_gr v 4 M → fx_W 123 29 [some (vR 19 (some (x + 1))), some (vR 42 (some (B v + H v))), some (vI (nI v)), some (vI (nI n)), some (vI (nI i)), x5] [] t Q := by
    intro l
    induction l with
    | nil =>
      intro fuel i n M' t x5 hi hn hfu hK hA hJ' hN' hg' hv' hO hS hD hm hr he
      have hi' : i = n := by simpa using hi
      refine xx_j ee123_29 rfl trivial ?_
      refine xx_j ee123_31 rfl trivial ?_
      refine xx_ge ee123_32 (by omega) (by omega) (fun _ => ?_) (fun h => by omega)
      have hsn : snext M' v = none := by
        refine sp_best_none.mpr (fun f hf => ?_)
        cases hc : (rn M' ff_Mod_at f == v && decide (M' ff_Mod_way f = fx_neg)) with
        | false => rfl
        | true =>
          simp only [Bool.and_eq_true, beq_iff_eq, decide_eq_true_eq] at hc
          have := (hm f).mpr ⟨hf, hc.1, hc.2⟩
          cases this
      rw [gr_none hsn] at he
      subst he
      exact xx_rv ee123_81 (k t hK hA hO)
    | cons f l ih =>
      intro fuel i n M' t x5 hi hn hfu hK hA hJ' hN' hg' hv' hO hS hD hm hr he
      rw [List.length_cons] at hi hfu
      obtain ⟨f1, f2, f3⟩ := (hm f).mp (by simp)
      obtain ⟨F, e1, e2⟩ := hA.fob1 hJ'.1 f1
      have ftr := hA.fo hJ'.1 e2
      have hgl := hA.gl hJ'.1 e2
      have hrk := hr 0 f rfl
      rw [Nat.add_zero, e1] at hrk
      obtain ⟨fu, rfl⟩ : ∃ fu, fuel = fu + 1 := ⟨fuel - 1, by omega⟩
      have hsn : snext M' v = some f := by
        refine (best_iff hJ'.1).mpr ⟨f1, by simp [f2, f3], fun c hc hpc hne => ?_⟩
        simp only [Bool.and_eq_true, beq_iff_eq, decide_eq_true_eq] at hpc
        have hcl := (hm c).mpr ⟨hc, hpc.1, hpc.2⟩
        rcases List.mem_cons.mp hcl with q | q
        · exact absurd q hne
        · exact (List.pairwise_cons.mp hS).1 c q
      obtain ⟨w, w1, w2, w3⟩ := sgv_ex (hJ'.1.j5 v hv') f1 f2 f3
      have hgv : sgiv M' v w = false := by
        unfold sfree at w3
        rw [Bool.and_eq_true, Bool.not_eq_true', Bool.not_eq_true'] at w3
        exact w3.2
      have he' : om_gr v fu (fx_up M' ff_Mod_way f (nI w)) = om_gr v 4 M := by
        rw [← he]
        conv => rhs; unfold om_gr
        rw [hsn]
        show _ = om_gr v fu (fx_up M' ff_Mod_way f (oI (sgv M' v f)))
        rw [w1]
        rfl
      refine xx_j ee123_29 rfl trivial ?_
      refine xx_j ee123_31 rfl trivial ?_
      refine xx_ge ee123_32 (by omega) (by omega) (fun h => by omega) (fun _ => ?_)
      refine xx_j ee123_35 rfl trivial ?_
      refine xx_j ee123_36 rfl trivial ?_
      refine xx_j ee123_37 rfl trivial ?_
      refine xx_gr ee123_38 hA.sk.a.ranked rfl rfl ?_
      refine xx_j ee123_41 rfl trivial ?_
      refine xx_rl ee123_43 hA.sk.a.lrk (by omega) (by decide) hrk rfl ?_
      refine xx_gr ee123_44 ftr.1 rfl rfl ?_
      refine xx_gi ee123_47 hgl.1 rfl rfl ?_
      refine xx_c ee123_50 rfl (k_best hA hJ'.1 hN' hv' f1 f2 (fun u hu => ?_) (fun t2 hG2 hA2 => ?_))
      · rw [hO u hu]
        unfold sgiv
        cases hs : sgo M' v u with
        | none =>
          have hs' : sp_first (fun f => rn M' ff_Mod_at f == v && decide (M' ff_Mod_way f = nI u)) 0 ((rn M' ff_Mod_flits 0)) = none := hs
          rw [hs']
          exact ⟨fun _ => rfl, fun _ => rfl⟩
        | some g =>
          have hs' : sp_first (fun f => rn M' ff_Mod_at f == v && decide (M' ff_Mod_way f = nI u)) 0 ((rn M' ff_Mod_flits 0)) = some g := hs
          rw [hs']
          obtain ⟨G, g1, -⟩ := hA.fob1 hJ'.1 (sgo_some hs).1
          rw [g1]
          exact ⟨fun q => (by cases q), fun q => by cases q⟩
      rw [w1]
      have ar2 : fx_ar t2 = fx_ar t := hG2.2.2.2.1
      have hrk2 : fx_ar t2 (x + 10) i = some F := by rw [ar2]; exact hrk
      refine xx_j ee123_53 rfl trivial ?_
      refine xx_j ee123_55 rfl trivial ?_
      refine xx_km ee123_57 rfl ?_
      refine xx_oeq (b := some w) ee123_58 (fun b hb => by cases hb; omega) (fun h => by cases h) (fun _ _ => ?_)
      refine xx_j ee123_61 rfl trivial ?_
      refine xx_gr ee123_62 hA2.sk.a.out rfl rfl ?_
      refine xx_j ee123_65 rfl trivial ?_
      refine xx_j ee123_67 rfl trivial ?_
      refine xx_gr ee123_68 hA2.sk.a.ranked rfl rfl ?_
      refine xx_j ee123_71 rfl trivial ?_
      refine xx_rl ee123_73 hA2.sk.a.lrk (by omega) (by decide) hrk2 rfl ?_
      first | refine xx_rs ee123_74 hA2.sk.a.lout (by omega) (by decide) rfl (Or.inl rfl) ?_ | refine xx_rs ee123_74 hA2.sk.a.lout (by omega) (by decide) rfl (Or.inr rfl) ?_
      first | refine xx_inc ee123_75 rfl ?_ | refine xx_j ee123_75 rfl trivial ?_
      refine xx_j ee123_78 rfl trivial ?_
      have hK2 : AK x t (fx_sar t2 (x + 2) w (some F)) := ((AK.rf x t).gf hG2).sar (by simp)
      have hA3 := (hA2.osar (z := x + 2) (i := w) (o := some F) hJ'.1 (by simp)).way (f := f) (y := nI w)
      have fbs : ∀ g, (∀ a, g = some a → a < (rn M' ff_Mod_flits 0)) → fob (fx_sar t2 (x + 2) w (some F)) P (fx_up M' ff_Mod_way f (nI w)) g = fob t P M' g := fun g hg => by rw [way_fob]; exact hK2.fob hA hJ'.1 hg
      have eW : ∀ k, fx_up M' ff_Mod_way f (nI w) ff_Mod_way k = if k = f then nI w else M' ff_Mod_way k := by
        intro k
        by_cases e : k = f
        · rw [if_pos e, e, fx_up_same]
        · rw [if_neg e, fx_up_ne (fun q => e q.2)]
      have hnd := (List.pairwise_cons.mp hS)
      refine ih fu (i + 1) n (fx_up M' ff_Mod_way f (nI w)) _ _ (by omega) hn (by omega) (hK.tr hK2) hA3 (hJ'.way (Or.inr ⟨w, rfl, w2⟩)) hN'.way (by rw [way_gold]; exact hK2.1.go hg') (by rw [rn_pe (by decide)]; exact hv') (fun u hu => ?_) (hnd.2.imp (fun hab => by rw [way_sah]; exact hab)) (List.nodup_cons.mp hD).2 (fun g => ?_) (fun j g hg => ?_) he'
      · rw [sgo_up f1 f2 f3 w2 hu hgv]
        by_cases c : u = w
        · rw [if_pos c, c, ar_same, fbs _ (fun a ha => by cases ha; exact f1), e1]
        · rw [if_neg c, ar_ne (fun q => c q.2), ar2, hO u hu, fbs _ (fun a ha => (sgo_some ha).1)]
      · rw [rn_pe (by decide), rn_pe (by decide), eW]
        constructor
        · intro hg
          obtain ⟨g1, g2, g3⟩ := (hm g).mp (List.mem_cons_of_mem _ hg)
          have gne : g ≠ f := fun q => (List.nodup_cons.mp hD).1 (q ▸ hg)
          exact ⟨g1, g2, by rw [if_neg gne]; exact g3⟩
        · rintro ⟨g1, g2, g3⟩
          have gne : g ≠ f := fun q => by rw [if_pos q] at g3; exact oI_ne (by omega) g3
          rw [if_neg gne] at g3
          rcases List.mem_cons.mp ((hm g).mpr ⟨g1, g2, g3⟩) with q | q
          · exact absurd q gne
          · exact q
      · have hgN : g < (rn M' ff_Mod_flits 0) := ((hm g).mp (List.mem_cons_of_mem _ (List.mem_of_getElem? hg))).1
        rw [ar_ne (by omega), ar2, fbs _ (fun a ha => by cases ha; exact hgN)]
        have := hr (j + 1) g hg
        rw [show i + 1 + j = i + (j + 1) by omega]
        exact this
  -- the ways are cleared
  refine xx_k ee123_0 0 rfl ?_
  refine xx_j ee123_1 rfl trivial ?_
  have clr : ∀ d j t, j + d = 4 → AK x s t → RA t x B H C Y P m rt K L M → (∀ w, w < j → fx_ar t (x + 2) w = none) → fx_W 123 2 [some (vR 19 (some (x + 1))), some (vR 42 (some (B v + H v))), some (vI (nI v)), some (vI (nI j)), none, none] [] t Q := by
    intro d
    induction d with
    | zero =>
      intro j t hj hK hA hz
      obtain rfl : j = 4 := by omega
      refine xx_j ee123_2 rfl trivial ?_
      refine xx_k ee123_3 4 rfl ?_
      refine xx_ge ee123_4 (by omega) (by omega) (fun _ => ?_) (fun h => by omega)
      refine xx_j ee123_20 rfl trivial ?_
      refine xx_j ee123_21 rfl trivial ?_
      refine xx_c ee123_22 rfl (k_sort hA hJ.1 (hK.1.go hgo) hvm (fun t2 l hK2 h22 hA2 hS hR => ?_))
      refine xx_j ee123_25 rfl trivial ?_
      refine xx_k ee123_26 0 rfl ?_
      refine xx_j ee123_27 rfl trivial ?_
      have h257 := hJ.1.ri.fNl
      refine give l 4 0 l.length M t2 _ (by omega) hS.2.2.1 hS.2.2.1 (hK.tr hK2) hA2 hJ hN ((hK.tr hK2).1.go hgo) hv (fun w hw => ?_) hS.1 hS.2.2.2 (fun f => ?_) (fun j g hg => ?_) rfl
      · rw [h22, hz w hw]
        have : sgo M v w = none := by
          refine sp_first_none.mpr (fun f _ hf => ?_)
          cases hc : (rn M ff_Mod_at f == v && decide (M ff_Mod_way f = nI w)) with
          | false => rfl
          | true =>
            simp only [Bool.and_eq_true, beq_iff_eq, decide_eq_true_eq] at hc
            have := hnone f (by omega) hc.1
            rw [hc.2] at this
            exact absurd this (oI_ne (by omega))
        rw [this]; rfl
      · rw [hS.2.1]
        constructor
        · rintro ⟨i, i1, i2⟩
          obtain ⟨g1, g2, g3⟩ := sol_some i2
          exact ⟨g1, g2, hnone f g1 g2⟩
        · rintro ⟨g1, g2, -⟩
          refine ⟨rn M ff_Mod_line f, hJ.1.ri.mLl (f := f) (by omega), ?_⟩
          rw [← g2]
          exact sol_of hJ.1.j4 g1
      · rw [Nat.zero_add]; exact hR j g hg
    | succ d ih =>
      intro j t hj hK hA hz
      refine xx_j ee123_2 rfl trivial ?_
      refine xx_k ee123_3 4 rfl ?_
      refine xx_ge ee123_4 (by omega) (by omega) (fun h => by omega) (fun _ => ?_)
      refine xx_j ee123_7 rfl trivial ?_
      refine xx_gr ee123_8 hA.sk.a.out rfl rfl ?_
      refine xx_j ee123_11 rfl trivial ?_
      refine xx_j ee123_12 rfl trivial ?_
      first | refine xx_rs ee123_13 hA.sk.a.lout (by omega) (by decide) rfl (Or.inl rfl) ?_ | refine xx_rs ee123_13 hA.sk.a.lout (by omega) (by decide) rfl (Or.inr rfl) ?_
      first | refine xx_inc ee123_14 rfl ?_ | refine xx_j ee123_14 rfl trivial ?_
      refine xx_j ee123_17 rfl trivial ?_
      refine ih (j + 1) _ (by omega) (hK.sar (by simp)) (hA.osar hJ.1 (by simp)) (fun w hw => ?_)
      by_cases c : w = j
      · rw [c, ar_same]
      · rw [ar_ne (fun q => c q.2)]; exact hz w (by omega)
  exact clr 4 0 s (by omega) (AK.rf x s) h (fun w hw => by omega)
end
