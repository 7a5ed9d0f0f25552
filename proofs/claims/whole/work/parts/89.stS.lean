/-! THE CLASS: sorting, choosing by rank -/
theorem fx_dec1 : ∀ k, k < 5 → 0 < k → nI k + fx_ic (-1) = nI (k - 1) := by decide
section
variable {s : fx_S} {Q : fx_Q} {x m : Nat} {B H P : Nat → Nat} {C : Nat → Nat → Option Nat} {Y : Nat → Nat → Nat} {rt : Nat → List Nat} {K : Nat → Prop} {L : List Nat} {M : rf_M} {lv : Nat → Prop}
theorem ins_get {l : List Nat} {k f : Nat} (hk : k ≤ l.length) (i : Nat) : (l.take k ++ f :: l.drop k)[i]? = if i < k then l[i]? else if i = k then some f else l[i - 1]? := by
  have hl : (l.take k).length = k := by rw [List.length_take]; omega
  by_cases c : i < k
  · rw [if_pos c, List.getElem?_append_left (by omega), List.getElem?_take, if_pos c]
  · rw [if_neg c, List.getElem?_append_right (by omega), hl]
    by_cases d : i = k
    · rw [if_pos d, d, Nat.sub_self]; rfl
    · rw [if_neg d, show i - k = (i - k - 1) + 1 by omega, List.getElem?_cons_succ, List.getElem?_drop, show k + (i - k - 1) = i - 1 by omega]
theorem k_sort {v : Nat} (h : RA s x B H C Y P m rt K L M) (hJ : JV M lv) (hgo : RGo s x (sgold M)) (hv : v < m) (k : ∀ t l, AK x s t → fx_ar t (x + 2) = fx_ar s (x + 2) → RA t x B H C Y P m rt K L M → SRT M v 4 l → RKD t x P M l → Q (some (vI (nI l.length))) t) : fx_M mm_Router_sortByRank [vR 19 (some (x + 1)), vR 42 (some (B v + H v))] s Q := by
  have h64 := h.sk.c.m64
  refine xx_i ml95 ?_
  refine xx_k ee95_0 0 rfl ?_
  refine xx_j ee95_1 rfl trivial ?_
  refine xx_k ee95_2 0 rfl ?_
  refine xx_j ee95_3 rfl trivial ?_
  have outer : ∀ d j t l x4 x5, j + d = 4 → AK x s t → fx_ar t (x + 2) = fx_ar s (x + 2) → RA t x B H C Y P m rt K L M → SRT M v j l → RKD t x P M l → fx_W 95 4 [some (vR 19 (some (x + 1))), some (vR 42 (some (B v + H v))), some (vI (nI l.length)), some (vI (nI j)), x4, x5] [] t Q := by
    intro d
    induction d with
    | zero =>
      intro j t l x4 x5 hj hK h2 hA hS hR
      obtain rfl : j = 4 := by omega
      refine xx_j ee95_4 rfl trivial ?_
      refine xx_k ee95_5 4 rfl ?_
      refine xx_ge ee95_6 (by omega) (by omega) (fun _ => ?_) (fun h => by omega)
      refine xx_j ee95_88 rfl trivial ?_
      exact xx_ri ee95_89 rt95 (k t l hK h2 hA hS hR)
    | succ d ih =>
      intro j t l x4 x5 hj hK h2 hA hS hR
      have hlen := hS.2.2.1
      refine xx_j ee95_4 rfl trivial ?_
      refine xx_k ee95_5 4 rfl ?_
      refine xx_ge ee95_6 (by omega) (by omega) (fun h => by omega) (fun _ => ?_)
      rcases hA.line hJ hv (l := j) (by omega) with ⟨q1, q2⟩ | ⟨f, F, q1, q2, q3⟩
      · refine xx_j ee95_9 rfl trivial ?_
        refine xx_j ee95_10 rfl trivial ?_
        refine xx_rl ee95_11 (hA.lnh hv) (by omega) (by decide) q2 rfl ?_
        refine xx_j ee95_12 rfl trivial ?_
        refine xx_j ee95_14 rfl trivial ?_
        refine xx_nu ee95_16 (fun _ => ?_) (fun b hb => by cases hb)
        first | refine xx_inc ee95_82 rfl ?_ | refine xx_j ee95_82 rfl trivial ?_
        refine xx_j ee95_85 rfl trivial ?_
        refine ih (j + 1) t l _ _ (by omega) hK h2 hA ⟨hS.1, fun g => ?_, by omega, hS.2.2.2⟩ hR
        rw [hS.2.1]
        constructor
        · rintro ⟨i, i1, i2⟩; exact ⟨i, by omega, i2⟩
        · rintro ⟨i, i1, i2⟩
          by_cases c : i = j
          · rw [c, q1] at i2; cases i2
          · exact ⟨i, by omega, i2⟩
      · have hFb : fob t P M (some f) = some F := q3.2
        refine xx_j ee95_9 rfl trivial ?_
        refine xx_j ee95_10 rfl trivial ?_
        refine xx_rl ee95_11 (hA.lnh hv) (by omega) (by decide) q2 rfl ?_
        refine xx_j ee95_12 rfl trivial ?_
        refine xx_j ee95_14 rfl trivial ?_
        refine xx_nu ee95_16 (fun hb => by cases hb) (fun _ _ => ?_)
        refine xx_j ee95_19 rfl trivial ?_
        refine xx_j ee95_20 rfl trivial ?_
        have inner : ∀ kk t1, kk ≤ l.length → AK x s t1 → fx_ar t1 (x + 2) = fx_ar s (x + 2) → RA t1 x B H C Y P m rt K L M → (∀ i g, l[i]? = some g → (i < kk → fx_ar t1 (x + 10) i = fob t1 P M (some g)) ∧ (kk ≤ i → fx_ar t1 (x + 10) (i + 1) = fob t1 P M (some g))) → (∀ g, g ∈ l.drop kk → sah M f g = true) → FO t1 P M f F → fx_W 95 22 [some (vR 19 (some (x + 1))), some (vR 42 (some (B v + H v))), some (vI (nI l.length)), some (vI (nI j)), some (vR 12 (some F)), some (vI (nI kk))] [] t1 Q := by
          intro kk
          induction kk with
          | zero =>
            intro t1 hk hK1 h21 hA1 hc hd hF1
            refine xx_j ee95_22 rfl trivial ?_
            refine xx_kle ee95_24 (by omega) (fun _ => ?_) (fun h => by omega)
            refine xx_j ee95_70 rfl trivial ?_
            refine xx_gr ee95_71 hA1.sk.a.ranked rfl rfl ?_
            refine xx_j ee95_74 rfl trivial ?_
            refine xx_j ee95_76 rfl trivial ?_
            first | refine xx_rs ee95_78 hA1.sk.a.lrk (by omega) (by decide) rfl (Or.inl rfl) ?_ | refine xx_rs ee95_78 hA1.sk.a.lrk (by omega) (by decide) rfl (Or.inr rfl) ?_
            first | refine xx_inc ee95_79 rfl ?_ | refine xx_j ee95_79 rfl trivial ?_
            first | refine xx_inc ee95_82 rfl ?_ | refine xx_j ee95_82 rfl trivial ?_
            refine xx_j ee95_85 rfl trivial ?_
            have hA2 := hA1.osar (z := x + 10) (i := 0) (o := some F) hJ (by simp)
            have hK2 : AK x t1 (fx_sar t1 (x + 10) 0 (some F)) := (AK.rf x t1).sar (by simp)
            have hS2 := hS.ins (k := 0) hJ q1 hd (Or.inl rfl) (by omega)
            have hlen2 : (l.take 0 ++ f :: l.drop 0).length = l.length + 1 := by simp
            have := ih (j + 1) (fx_sar t1 (x + 10) 0 (some F)) (l.take 0 ++ f :: l.drop 0) (some (vR 12 (some F))) (some (vI (nI 0))) (by omega) (hK1.tr hK2) (by rw [← h21]; funext i; exact ar_ne (by omega)) hA2 hS2 (fun i g hg => ?_)
            · rw [hlen2] at this
              exact this
            · rw [ins_get (by omega)] at hg
              have hgf : ∀ g', g' ∈ l ∨ g' = f → g' < (rn M ff_Mod_flits 0) := fun g' hg' => by
                rcases hg' with q | q
                · obtain ⟨i', -, i2⟩ := (hS.2.1 g').mp q
                  exact (sol_some i2).1
                · rw [q]; exact q3.1
              rw [hK2.fob hA1 hJ (fun a ha => by
                cases ha
                by_cases c : i = 0
                · rw [if_neg (by omega), if_pos c] at hg; cases hg; exact q3.1
                · rw [if_neg (by omega), if_neg c] at hg; exact hgf g (Or.inl (List.mem_of_getElem? hg)))]
              by_cases c : i = 0
              · rw [if_neg (by omega), if_pos c] at hg
                cases hg
                rw [c, ar_same]
                exact hF1.2.symm
              · rw [if_neg (by omega), if_neg c] at hg
                rw [ar_ne (by omega)]
                have := (hc (i - 1) g hg).2 (by omega)
                rw [show i - 1 + 1 = i by omega] at this
                exact this
          | succ kk ihk =>
            intro t1 hk hK1 h21 hA1 hc hd hF1
            have hkl : kk < l.length := by omega
            obtain ⟨g, hg⟩ : ∃ g, l[kk]? = some g := ⟨l[kk], List.getElem?_eq_getElem hkl⟩
            have hgl : g ∈ l := List.mem_of_getElem? hg
            have hgN : g < (rn M ff_Mod_flits 0) := by
              obtain ⟨i', -, i2⟩ := (hS.2.1 g).mp hgl
              exact (sol_some i2).1
            obtain ⟨G, e1, e2⟩ := hA1.fob1 hJ hgN
            have hgo1 : RGo t1 x (sgold M) := hK1.1.go hgo
            have hrk := (hc kk g hg).1 (by omega)
            rw [e1] at hrk
            -- it is put here
            have put : sah M f g = false → fx_W 95 70 [some (vR 19 (some (x + 1))), some (vR 42 (some (B v + H v))), some (vI (nI l.length)), some (vI (nI j)), some (vR 12 (some F)), some (vI (nI (kk + 1)))] [] t1 Q := by
              intro hsf
              refine xx_j ee95_70 rfl trivial ?_
              refine xx_gr ee95_71 hA1.sk.a.ranked rfl rfl ?_
              refine xx_j ee95_74 rfl trivial ?_
              refine xx_j ee95_76 rfl trivial ?_
              first | refine xx_rs ee95_78 hA1.sk.a.lrk (by omega) (by decide) rfl (Or.inl rfl) ?_ | refine xx_rs ee95_78 hA1.sk.a.lrk (by omega) (by decide) rfl (Or.inr rfl) ?_
              first | refine xx_inc ee95_79 rfl ?_ | refine xx_j ee95_79 rfl trivial ?_
              first | refine xx_inc ee95_82 rfl ?_ | refine xx_j ee95_82 rfl trivial ?_
              refine xx_j ee95_85 rfl trivial ?_
              have hA2 := hA1.osar (z := x + 10) (i := kk + 1) (o := some F) hJ (by simp)
              have hK2 : AK x t1 (fx_sar t1 (x + 10) (kk + 1) (some F)) := (AK.rf x t1).sar (by simp)
              have hS2 := hS.ins (k := kk + 1) hJ q1 hd (Or.inr ⟨g, hg, hsf⟩) (by omega)
              have hlen2 : (l.take (kk + 1) ++ f :: l.drop (kk + 1)).length = l.length + 1 := by
                rw [List.length_append, List.length_take, List.length_cons, List.length_drop]
                omega
              have := ih (j + 1) (fx_sar t1 (x + 10) (kk + 1) (some F)) (l.take (kk + 1) ++ f :: l.drop (kk + 1)) (some (vR 12 (some F))) (some (vI (nI (kk + 1)))) (by omega) (hK1.tr hK2) (by rw [← h21]; funext i; exact ar_ne (by omega)) hA2 hS2 (fun i g' hg' => ?_)
              · rw [hlen2] at this
                exact this
              · have hg'N : g' < (rn M ff_Mod_flits 0) := by
                  have hmem := List.mem_of_getElem? hg'
                  obtain ⟨i', -, i2⟩ := (hS2.2.1 g').mp hmem
                  exact (sol_some i2).1
                rw [ins_get (by omega)] at hg'
                rw [hK2.fob hA1 hJ (fun a ha => by cases ha; exact hg'N)]
                by_cases c : i < kk + 1
                · rw [if_pos c] at hg'
                  rw [ar_ne (by omega)]
                  exact (hc i g' hg').1 c
                · rw [if_neg c] at hg'
                  by_cases c2 : i = kk + 1
                  · rw [if_pos c2] at hg'
                    cases hg'
                    rw [c2, ar_same]
                    exact hF1.2.symm
                  · rw [if_neg c2] at hg'
                    rw [ar_ne (by omega)]
                    have := (hc (i - 1) g' hg').2 (by omega)
                    rw [show i - 1 + 1 = i by omega] at this
                    exact this
            refine xx_j ee95_22 rfl trivial ?_
            refine xx_kle ee95_24 (by omega) (fun h => by omega) (fun _ => ?_)
            refine xx_j ee95_27 rfl trivial ?_
            refine xx_gr ee95_28 hA1.sk.a.rrank rfl rfl ?_
            refine xx_j ee95_31 rfl trivial ?_
            refine xx_j ee95_33 rfl trivial ?_
            refine xx_gr ee95_34 hA1.sk.a.ranked rfl rfl ?_
            refine xx_j ee95_37 rfl trivial ?_
            refine xx_k ee95_39 1 rfl ?_
            refine xx_sub ee95_40 (by omega) ?_
            refine xx_rl ee95_41 hA1.sk.a.lrk (by omega) (by decide) hrk rfl ?_
            refine xx_c ee95_42 rfl (k_isHigher hA1 hJ hgo1 hF1 e2 ?_)
            refine xx_z ee95_45 (fun hz => put hz) (fun hz => ?_)
            refine xx_j ee95_48 rfl trivial ?_
            refine xx_gr ee95_49 hA1.sk.a.ranked rfl rfl ?_
            refine xx_j ee95_52 rfl trivial ?_
            refine xx_j ee95_54 rfl trivial ?_
            refine xx_gr ee95_55 hA1.sk.a.ranked rfl rfl ?_
            refine xx_j ee95_58 rfl trivial ?_
            refine xx_k ee95_60 1 rfl ?_
            refine xx_sub ee95_61 (by omega) ?_
            refine xx_rl ee95_62 hA1.sk.a.lrk (by omega) (by decide) hrk rfl ?_
            first | refine xx_rs ee95_63 hA1.sk.a.lrk (by omega) (by decide) rfl (Or.inl rfl) ?_ | refine xx_rs ee95_63 hA1.sk.a.lrk (by omega) (by decide) rfl (Or.inr rfl) ?_
            refine xx_j ee95_64 rfl trivial ?_
            refine xx_j ee95_67 rfl trivial ?_
            have hA2 := hA1.osar (z := x + 10) (i := kk + 1) (o := some G) hJ (by simp)
            have hK2 : AK x t1 (fx_sar t1 (x + 10) (kk + 1) (some G)) := (AK.rf x t1).sar (by simp)
            have hm1 : nI (kk + 1) + fx_ic (-1) = nI kk := fx_dec1 (kk + 1) (by omega) (by omega)
            have nxt := ihk (fx_sar t1 (x + 10) (kk + 1) (some G)) (by omega) (hK1.tr hK2) (by rw [← h21]; funext i; exact ar_ne (by omega)) hA2 (fun i g' hg' => ?_) (fun g' hg' => ?_) ⟨q3.1, ?_⟩
            · rw [← hm1] at nxt
              exact nxt
            · have hg'N : g' < (rn M ff_Mod_flits 0) := by
                obtain ⟨i', -, i2⟩ := (hS.2.1 g').mp (List.mem_of_getElem? hg')
                exact (sol_some i2).1
              rw [hK2.fob hA1 hJ (fun a ha => by cases ha; exact hg'N)]
              refine ⟨fun hi => ?_, fun hi => ?_⟩
              · rw [ar_ne (by omega)]; exact (hc i g' hg').1 (by omega)
              · by_cases c : i = kk
                · rw [c] at hg' ⊢
                  rw [hg] at hg'
                  cases hg'
                  rw [ar_same, e1]
                · rw [ar_ne (by omega)]; exact (hc i g' hg').2 (by omega)
            · rw [List.drop_eq_getElem_cons hkl] at hg'
              rcases List.mem_cons.mp hg' with q | q
              · have : l[kk] = g := by rw [List.getElem?_eq_getElem hkl] at hg; exact Option.some.inj hg
                rw [q, this]; exact hz
              · exact hd g' q
            · have := hK2.fob hA1 hJ (f := some f) (fun a ha => by cases ha; exact q3.1)
              exact this.trans hF1.2
        refine inner l.length t (Nat.le_refl _) hK h2 hA (fun i g hg => ⟨fun _ => hR i g hg, fun hi => ?_⟩) (fun g hg => by rw [List.drop_length] at hg; cases hg) q3
        have := (List.getElem?_eq_some_iff.mp hg).1
        omega
  exact outer 4 0 s [] _ _ (by omega) (AK.rf x s) rfl h ⟨List.Pairwise.nil, fun f => ⟨fun q => (by cases q), fun ⟨i, i1, _⟩ => (by omega)⟩, Nat.le_refl _, List.nodup_nil⟩ (fun i f hf => by cases hf)
end
