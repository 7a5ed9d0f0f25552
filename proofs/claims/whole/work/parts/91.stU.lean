/-! THE CLASS: choosing by cells -/
section
variable {s : fx_S} {Q : fx_Q} {x m : Nat} {B H P : Nat → Nat} {C : Nat → Nat → Option Nat} {Y : Nat → Nat → Nat} {rt : Nat → List Nat} {K : Nat → Prop} {L : List Nat} {M : rf_M} {lv : Nat → Prop}
/-- the one ahead -/
def sfst (M : rf_M) (f g : Option Nat) : Option Nat := match f, g with
  | none, g => g
  | some a, none => some a
  | some a, some b => bif sah M b a then some b else some a
def scnd (M : rf_M) (kind f : Nat) : Bool := bif kind == 0 then swant M (rn M ff_Mod_at f) 0 (sg M f) || swant M (rn M ff_Mod_at f) 1 (sg M f) else swant M (rn M ff_Mod_at f) (kind - 1) (sg M f) || !swant M (rn M ff_Mod_at f) kind (sg M f)
theorem sfst_none {f g : Option Nat} (h : sfst M f g = none) : f = none ∧ g = none := by
  unfold sfst at h
  cases f with
  | none => exact ⟨rfl, h⟩
  | some a =>
    cases g with
    | none => cases h
    | some b =>
      exfalso
      revert h
      show (bif sah M b a then some b else some a) = none → False
      cases sah M b a <;> intro q <;> cases q
theorem sfst_in {f g : Option Nat} : sfst M f g = f ∨ sfst M f g = g := by
  unfold sfst
  cases f with
  | none => exact Or.inr rfl
  | some a =>
    cases g with
    | none => exact Or.inl rfl
    | some b =>
      show (bif sah M b a then some b else some a) = _ ∨ (bif sah M b a then some b else some a) = _
      cases sah M b a
      · exact Or.inl rfl
      · exact Or.inr rfl
theorem supper_fst {f g : Option Nat} {kd a : Nat} (h : sfst M f g = some a) : supper M f g kd = bif scnd M kd a then some a else (if some a = f then g else f) := by
  unfold sfst at h
  unfold supper scnd
  cases f with
  | none =>
    cases g with
    | none => cases h
    | some b =>
      cases h
      rfl
  | some c =>
    cases g with
    | none =>
      cases h
      rfl
    | some b =>
      revert h
      show (bif sah M b c then some b else some c) = some a → _
      rcases (Bool.eq_false_or_eq_true (sah M b c)).symm with e | e
      · intro h
        have hc : c = a := by rw [e] at h; exact Option.some.inj h
        subst hc
        simp only [e, cond_false, Option.getD_some]
      · intro h
        have hc : b = a := by rw [e] at h; exact Option.some.inj h
        subst hc
        simp only [e, cond_true, Option.getD_some]
theorem supper_nn {kd : Nat} : supper M none none kd = none := rfl
theorem k_higher {f g : Option Nat} (h : RA s x B H C Y P m rt K L M) (hJ : JV M lv) (hgo : RGo s x (sgold M)) (hf : ∀ a, f = some a → a < (rn M ff_Mod_flits 0)) (hg : ∀ a, g = some a → a < (rn M ff_Mod_flits 0)) (hne : f = g → f = none) (k : Q (some (vR 12 (fob s P M (sfst M f g)))) s) : fx_M mm_Rank_higher [vR 17 (some (x + 9)), vR 12 (fob s P M f), vR 12 (fob s P M g)] s Q := by
  refine xx_i ml91 ?_
  refine xx_j ee91_0 rfl trivial ?_
  cases f with
  | none =>
    have e : fob s P M none = none := rfl
    rw [e]
    refine xx_nu ee91_1 (fun _ => ?_) (fun b hb => by cases hb)
    refine xx_j ee91_8 rfl trivial ?_
    refine xx_nn ee91_9 (fun b hb => by cases hb) (fun _ => ?_)
    refine xx_j ee91_12 rfl trivial ?_
    refine xx_j ee91_13 rfl trivial ?_
    exact xx_ra ee91_17 k
  | some a =>
    obtain ⟨F, e1, e2⟩ := h.fob1 hJ (hf a rfl)
    cases g with
    | none =>
      have e : fob s P M none = none := rfl
      have k' : Q (some (vR 12 (some F))) s := by rw [← e1]; exact k
      rw [e1, e]
      refine xx_nu ee91_1 (fun hb => by cases hb) (fun _ _ => ?_)
      refine xx_j ee91_4 rfl trivial ?_
      refine xx_nn ee91_5 (fun b hb => by cases hb) (fun _ => ?_)
      refine xx_j ee91_8 rfl trivial ?_
      refine xx_nn ee91_9 (fun _ _ => ?_) (fun hb => by cases hb)
      refine xx_j ee91_16 rfl trivial ?_
      exact xx_ra ee91_17 k'
    | some b =>
      obtain ⟨G, g1, g2⟩ := h.fob1 hJ (hg b rfl)
      have hab : a ≠ b := fun q => by have := hne (by rw [q]); cases this
      have ef : sfst M (some a) (some b) = bif sah M a b then some a else some b := by
        show (bif sah M b a then some b else some a) = _
        rw [sah_tot hJ e2.1 g2.1 hab]
        cases sah M b a <;> rfl
      rw [ef] at k
      rw [e1, g1]
      refine xx_nu ee91_1 (fun hb => by cases hb) (fun _ _ => ?_)
      refine xx_j ee91_4 rfl trivial ?_
      refine xx_nn ee91_5 (fun _ _ => ?_) (fun hb => by cases hb)
      refine xx_j ee91_18 rfl trivial ?_
      refine xx_j ee91_19 rfl trivial ?_
      refine xx_j ee91_20 rfl trivial ?_
      refine xx_c ee91_21 rfl (k_isHigher h hJ hgo e2 g2 ?_)
      refine xx_z ee91_24 (fun hz => ?_) (fun hz => ?_)
      · rw [hz, cond_false, g1] at k
        refine xx_j ee91_31 rfl trivial ?_
        exact xx_ra ee91_32 k
      · rw [hz, cond_true, e1] at k
        refine xx_j ee91_27 rfl trivial ?_
        refine xx_j ee91_28 rfl trivial ?_
        exact xx_ra ee91_32 k
/-- the rest of both cells: which of two goes where -/
theorem cell_eq {f g : Option Nat} {kd : Nat} {c : Bool} (hne : f = g → f = none) (hc : ∀ a, sfst M f g = some a → scnd M kd a = c) (hn : sfst M f g = none → True) : (bif c then sfst M f g else (if sfst M f g = f then g else f)) = supper M f g kd ∧ (bif c then (if sfst M f g = f then g else f) else sfst M f g) = slow f g (supper M f g kd) := by
  cases hs : sfst M f g with
  | none =>
    obtain ⟨e1, e2⟩ := sfst_none hs
    subst e1; subst e2
    rw [supper_nn]
    cases c <;> exact ⟨rfl, rfl⟩
  | some a =>
    rw [supper_fst hs, hc a hs]
    unfold slow
    rcases sfst_in (M := M) (f := f) (g := g) with q | q
    · rw [hs] at q
      subst q
      have hgn : ¬ g = some a := fun w => by have := hne w.symm; cases this
      cases c
      · rw [cond_false, cond_false, if_pos rfl, if_neg hgn]
        exact ⟨rfl, rfl⟩
      · rw [cond_true, cond_true, if_pos rfl]
        exact ⟨rfl, rfl⟩
    · rw [hs] at q
      subst q
      have hfn : ¬ some a = f := fun w => by have := hne w.symm; rw [this] at w; cases w
      cases c
      · rw [cond_false, cond_false, if_neg hfn, if_pos rfl]
        exact ⟨rfl, rfl⟩
      · rw [cond_true, cond_true, if_neg hfn]
        exact ⟨rfl, rfl⟩
theorem GF.fb {t : fx_S} {f : Option Nat} (h : GF x s t) : fob t P M f = fob s P M f := by
  unfold fob
  rw [h.2.2.2.1]
theorem fob_if {f g : Option Nat} {c : Bool} : fob s P M (bif c then f else g) = bif c then fob s P M f else fob s P M g := by cases c <;> rfl
/-- low, as the class finds it -/
theorem RA.low {f g : Option Nat} (h : RA s x B H C Y P m rt K L M) (hJ : JV M lv) (hf : ∀ a, f = some a → a < (rn M ff_Mod_flits 0)) (hg : ∀ a, g = some a → a < (rn M ff_Mod_flits 0)) : (fob s P M (sfst M f g) = fob s P M f ↔ sfst M f g = f) := by
  refine ⟨fun e => h.fob_inj hJ (fun a ha => ?_) hf e, fun e => by rw [e]⟩
  rcases sfst_in (M := M) (f := f) (g := g) with q | q
  · rw [q] at ha; exact hf a ha
  · rw [q] at ha; exact hg a ha
theorem k_first {v u : Nat} {f g : Option Nat} (h : RA s x B H C Y P m rt K L M) (hJ : JV M lv) (hN : JN M) (hgo : RGo s x (sgold M)) (hv : v < (rn M ff_Mod_all 0)) (hf : ∀ a, f = some a → a < (rn M ff_Mod_flits 0) ∧ rn M ff_Mod_at a = v) (hg : ∀ a, g = some a → a < (rn M ff_Mod_flits 0) ∧ rn M ff_Mod_at a = v) (hne : f = g → f = none) (hu : u < 2) (k : ∀ t, GF x s t → RA t x B H C Y P m rt K L M → Q none (fx_sar (fx_sar t (x + 11) u (fob s P M (supper M f g 0))) (x + 11) (u + 2) (fob s P M (slow f g (supper M f g 0))))) : fx_M mm_Router_passFirstCell [vR 19 (some (x + 1)), vI (nI v), vR 12 (fob s P M f), vR 12 (fob s P M g), vI (nI u)] s Q := by
  have hf' : ∀ a, f = some a → a < (rn M ff_Mod_flits 0) := fun a ha => (hf a ha).1
  have hg' : ∀ a, g = some a → a < (rn M ff_Mod_flits 0) := fun a ha => (hg a ha).1
  refine xx_i ml111 ?_
  refine xx_j ee111_0 rfl trivial ?_
  refine xx_gr ee111_1 h.sk.a.rrank rfl rfl ?_
  refine xx_j ee111_4 rfl trivial ?_
  refine xx_j ee111_5 rfl trivial ?_
  refine xx_c ee111_6 rfl (k_higher h hJ hgo hf' hg' hne ?_)
  -- the stores
  have fin : ∀ (c : Bool) t, GF x s t → RA t x B H C Y P m rt K L M → (∀ a, sfst M f g = some a → scnd M 0 a = c) → fx_W 111 74 [some (vR 19 (some (x + 1))), some (vI (nI v)), some (vR 12 (fob s P M f)), some (vR 12 (fob s P M g)), some (vI (nI u)), some (vR 12 (fob s P M (sfst M f g))), some (vR 12 (fob s P M (if sfst M f g = f then g else f))), none] [vI (fx_bit c)] t Q := by
    intro c t hG1 hA hc
    obtain ⟨c1, c2⟩ := cell_eq (kd := 0) hne hc (fun _ => trivial)
    have kk := k t hG1 hA
    rw [← c1] at kk
    rw [show slow f g (bif c then sfst M f g else (if sfst M f g = f then g else f)) = slow f g (supper M f g 0) by rw [c1], ← c2] at kk
    refine xx_j ee111_74 rfl trivial ?_
    refine xx_j ee111_76 rfl trivial ?_
    refine xx_gr ee111_77 hA.sk.a.middle rfl rfl ?_
    refine xx_j ee111_80 rfl trivial ?_
    refine xx_j ee111_82 rfl trivial ?_
    cases c with
    | false =>
      refine xx_z ee111_84 (fun _ => ?_) (fun q => by cases q)
      refine xx_j ee111_92 rfl trivial ?_
      first | refine xx_rs ee111_94 hA.sk.a.lmid (by omega) (by decide) rfl (Or.inl rfl) ?_ | refine xx_rs ee111_94 hA.sk.a.lmid (by omega) (by decide) rfl (Or.inr rfl) ?_
      refine xx_j ee111_95 rfl trivial ?_
      refine xx_gr ee111_96 hA.sk.a.middle rfl rfl ?_
      refine xx_j ee111_99 rfl trivial ?_
      refine xx_k ee111_101 2 rfl ?_
      first | refine xx_add ee111_102 ?_ | refine xx_j ee111_102 rfl trivial ?_
      refine xx_j ee111_103 rfl trivial ?_
      refine xx_z ee111_105 (fun _ => ?_) (fun q => by cases q)
      refine xx_j ee111_113 rfl trivial ?_
      first | refine xx_rs ee111_115 hA.sk.a.lmid (by omega) (by decide) rfl (Or.inl rfl) ?_ | refine xx_rs ee111_115 hA.sk.a.lmid (by omega) (by decide) rfl (Or.inr rfl) ?_
      exact xx_rv ee111_116 kk
    | true =>
      refine xx_z ee111_84 (fun q => by cases q) (fun _ => ?_)
      refine xx_j ee111_87 rfl trivial ?_
      refine xx_j ee111_89 rfl trivial ?_
      first | refine xx_rs ee111_94 hA.sk.a.lmid (by omega) (by decide) rfl (Or.inl rfl) ?_ | refine xx_rs ee111_94 hA.sk.a.lmid (by omega) (by decide) rfl (Or.inr rfl) ?_
      refine xx_j ee111_95 rfl trivial ?_
      refine xx_gr ee111_96 hA.sk.a.middle rfl rfl ?_
      refine xx_j ee111_99 rfl trivial ?_
      refine xx_k ee111_101 2 rfl ?_
      first | refine xx_add ee111_102 ?_ | refine xx_j ee111_102 rfl trivial ?_
      refine xx_j ee111_103 rfl trivial ?_
      refine xx_z ee111_105 (fun q => by cases q) (fun _ => ?_)
      refine xx_j ee111_108 rfl trivial ?_
      refine xx_j ee111_110 rfl trivial ?_
      first | refine xx_rs ee111_115 hA.sk.a.lmid (by omega) (by decide) rfl (Or.inl rfl) ?_ | refine xx_rs ee111_115 hA.sk.a.lmid (by omega) (by decide) rfl (Or.inr rfl) ?_
      exact xx_rv ee111_116 kk
  have mid : fx_W 111 24 [some (vR 19 (some (x + 1))), some (vI (nI v)), some (vR 12 (fob s P M f)), some (vR 12 (fob s P M g)), some (vI (nI u)), some (vR 12 (fob s P M (sfst M f g))), some (vR 12 (fob s P M (if sfst M f g = f then g else f))), none] [] s Q := by
    refine xx_j ee111_24 rfl trivial ?_
    cases hs : sfst M f g with
    | none =>
      have e : fob s P M none = none := rfl
      rw [e]
      refine xx_nu ee111_26 (fun _ => ?_) (fun b hb => by cases hb)
      have := fin false s (GF.rf x s) h (fun a ha => by rw [hs] at ha; cases ha)
      rw [hs] at this
      refine xx_k ee111_73 0 rfl ?_
      exact xx_t fx_bit_f this
    | some a =>
      have ha : a < (rn M ff_Mod_flits 0) ∧ rn M ff_Mod_at a = v := by
        rcases sfst_in (M := M) (f := f) (g := g) with q | q
        · exact hf a (by rw [← q]; exact hs)
        · exact hg a (by rw [← q]; exact hs)
      obtain ⟨F, e1, e2⟩ := h.fob1 hJ ha.1
      have ftr := h.fo hJ e2
      have hgl := h.gl hJ e2
      have sc : scnd M 0 a = (swant M v 0 (sg M a) || swant M v 1 (sg M a)) := by
        unfold scnd
        rw [ha.2]
        rfl
      rw [e1]
      refine xx_nu ee111_26 (fun hb => by cases hb) (fun _ _ => ?_)
      refine xx_j ee111_29 rfl trivial ?_
      refine xx_gr ee111_30 h.sk.a.rgrid rfl rfl ?_
      refine xx_j ee111_33 rfl trivial ?_
      refine xx_k ee111_34 0 rfl ?_
      refine xx_j ee111_35 rfl trivial ?_
      refine xx_gr ee111_37 ftr.1 rfl rfl ?_
      refine xx_gi ee111_40 hgl.1 rfl rfl ?_
      refine xx_c ee111_43 rfl (k_want h hJ hN hv (by omega) ha.1 (fun t1 hG1 hA1 => ?_))
      refine xx_nz ee111_46 (fun hw => ?_) (fun hw => ?_)
      · have := fin true t1 hG1 hA1 (fun b hb => by rw [hs] at hb; cases hb; rw [sc, hw]; rfl)
        rw [hs, e1] at this
        refine xx_k ee111_69 1 rfl ?_
        refine xx_j ee111_70 rfl trivial ?_
        exact xx_t fx_bit_t this
      · have e2' : FO t1 P M a F := ⟨ha.1, by rw [hG1.2.2.2.1]; exact e2.2⟩
        have ftr1 := hA1.fo hJ e2'
        have hgl1 := hA1.gl hJ e2'
        refine xx_j ee111_49 rfl trivial ?_
        refine xx_gr ee111_50 hA1.sk.a.rgrid rfl rfl ?_
        refine xx_j ee111_53 rfl trivial ?_
        refine xx_k ee111_54 1 rfl ?_
        refine xx_j ee111_55 rfl trivial ?_
        refine xx_gr ee111_57 ftr1.1 rfl rfl ?_
        refine xx_gi ee111_60 hgl1.1 rfl rfl ?_
        refine xx_c ee111_63 rfl (k_want hA1 hJ hN hv (by omega) ha.1 (fun t2 hG2 hA2 => ?_))
        refine xx_z ee111_66 (fun hw2 => ?_) (fun hw2 => ?_)
        · have := fin false t2 (hG1.tr hG2) hA2 (fun b hb => by rw [hs] at hb; cases hb; rw [sc, hw, hw2]; rfl)
          rw [hs, e1] at this
          refine xx_k ee111_73 0 rfl ?_
          exact xx_t fx_bit_f this
        · have := fin true t2 (hG1.tr hG2) hA2 (fun b hb => by rw [hs] at hb; cases hb; rw [sc, hw, hw2]; rfl)
          rw [hs, e1] at this
          refine xx_k ee111_69 1 rfl ?_
          refine xx_j ee111_70 rfl trivial ?_
          exact xx_t fx_bit_t this
  refine xx_j ee111_9 rfl trivial ?_
  refine xx_j ee111_11 rfl trivial ?_
  refine xx_j ee111_13 rfl trivial ?_
  refine xx_an ee111_14 (fun hn => ?_) (fun he => ?_)
  · rw [if_neg (fun q => hn ((h.low hJ hf' hg').mpr q))] at mid
    refine xx_j ee111_21 rfl trivial ?_
    refine xx_j ee111_22 rfl trivial ?_
    exact mid
  · rw [if_pos ((h.low hJ hf' hg').mp he)] at mid
    refine xx_j ee111_17 rfl trivial ?_
    refine xx_j ee111_18 rfl trivial ?_
    refine xx_j ee111_22 rfl trivial ?_
    exact mid
theorem k_last {v u : Nat} {f g : Option Nat} (h : RA s x B H C Y P m rt K L M) (hJ : JV M lv) (hN : JN M) (hgo : RGo s x (sgold M)) (hv : v < (rn M ff_Mod_all 0)) (hf : ∀ a, f = some a → a < (rn M ff_Mod_flits 0) ∧ rn M ff_Mod_at a = v) (hg : ∀ a, g = some a → a < (rn M ff_Mod_flits 0) ∧ rn M ff_Mod_at a = v) (hne : f = g → f = none) (hu : u < 3) (k : ∀ t, GF x s t → RA t x B H C Y P m rt K L M → Q none (fx_sar (fx_sar t (x + 2) u (fob s P M (supper M f g (u + 1)))) (x + 2) (u + 1) (fob s P M (slow f g (supper M f g (u + 1)))))) : fx_M mm_Router_passLastCell [vR 19 (some (x + 1)), vI (nI v), vR 12 (fob s P M f), vR 12 (fob s P M g), vI (nI u)] s Q := by
  have hf' : ∀ a, f = some a → a < (rn M ff_Mod_flits 0) := fun a ha => (hf a ha).1
  have hg' : ∀ a, g = some a → a < (rn M ff_Mod_flits 0) := fun a ha => (hg a ha).1
  refine xx_i ml112 ?_
  refine xx_j ee112_0 rfl trivial ?_
  refine xx_gr ee112_1 h.sk.a.rrank rfl rfl ?_
  refine xx_j ee112_4 rfl trivial ?_
  refine xx_j ee112_5 rfl trivial ?_
  refine xx_c ee112_6 rfl (k_higher h hJ hgo hf' hg' hne ?_)
  have fin : ∀ (c : Bool) t, GF x s t → RA t x B H C Y P m rt K L M → (∀ a, sfst M f g = some a → scnd M (u + 1) a = c) → fx_W 112 78 [some (vR 19 (some (x + 1))), some (vI (nI v)), some (vR 12 (fob s P M f)), some (vR 12 (fob s P M g)), some (vI (nI u)), some (vR 12 (fob s P M (sfst M f g))), some (vR 12 (fob s P M (if sfst M f g = f then g else f))), none] [vI (fx_bit c)] t Q := by
    intro c t hG1 hA hc
    obtain ⟨c1, c2⟩ := cell_eq (kd := u + 1) hne hc (fun _ => trivial)
    have kk := k t hG1 hA
    rw [← c1] at kk
    rw [show slow f g (bif c then sfst M f g else (if sfst M f g = f then g else f)) = slow f g (supper M f g (u + 1)) by rw [c1], ← c2] at kk
    refine xx_j ee112_78 rfl trivial ?_
    refine xx_j ee112_80 rfl trivial ?_
    refine xx_gr ee112_81 hA.sk.a.out rfl rfl ?_
    refine xx_j ee112_84 rfl trivial ?_
    refine xx_j ee112_86 rfl trivial ?_
    cases c with
    | false =>
      refine xx_z ee112_88 (fun _ => ?_) (fun q => by cases q)
      refine xx_j ee112_96 rfl trivial ?_
      first | refine xx_rs ee112_98 hA.sk.a.lout (by omega) (by decide) rfl (Or.inl rfl) ?_ | refine xx_rs ee112_98 hA.sk.a.lout (by omega) (by decide) rfl (Or.inr rfl) ?_
      refine xx_j ee112_99 rfl trivial ?_
      refine xx_gr ee112_100 hA.sk.a.out rfl rfl ?_
      refine xx_j ee112_103 rfl trivial ?_
      refine xx_k ee112_105 1 rfl ?_
      first | refine xx_add ee112_106 ?_ | refine xx_j ee112_106 rfl trivial ?_
      refine xx_j ee112_107 rfl trivial ?_
      refine xx_z ee112_109 (fun _ => ?_) (fun q => by cases q)
      refine xx_j ee112_117 rfl trivial ?_
      first | refine xx_rs ee112_119 hA.sk.a.lout (by omega) (by decide) rfl (Or.inl rfl) ?_ | refine xx_rs ee112_119 hA.sk.a.lout (by omega) (by decide) rfl (Or.inr rfl) ?_
      exact xx_rv ee112_120 kk
    | true =>
      refine xx_z ee112_88 (fun q => by cases q) (fun _ => ?_)
      refine xx_j ee112_91 rfl trivial ?_
      refine xx_j ee112_93 rfl trivial ?_
      first | refine xx_rs ee112_98 hA.sk.a.lout (by omega) (by decide) rfl (Or.inl rfl) ?_ | refine xx_rs ee112_98 hA.sk.a.lout (by omega) (by decide) rfl (Or.inr rfl) ?_
      refine xx_j ee112_99 rfl trivial ?_
      refine xx_gr ee112_100 hA.sk.a.out rfl rfl ?_
      refine xx_j ee112_103 rfl trivial ?_
      refine xx_k ee112_105 1 rfl ?_
      first | refine xx_add ee112_106 ?_ | refine xx_j ee112_106 rfl trivial ?_
      refine xx_j ee112_107 rfl trivial ?_
      refine xx_z ee112_109 (fun q => by cases q) (fun _ => ?_)
      refine xx_j ee112_112 rfl trivial ?_
      refine xx_j ee112_114 rfl trivial ?_
      first | refine xx_rs ee112_119 hA.sk.a.lout (by omega) (by decide) rfl (Or.inl rfl) ?_ | refine xx_rs ee112_119 hA.sk.a.lout (by omega) (by decide) rfl (Or.inr rfl) ?_
      exact xx_rv ee112_120 kk
  have mid : fx_W 112 24 [some (vR 19 (some (x + 1))), some (vI (nI v)), some (vR 12 (fob s P M f)), some (vR 12 (fob s P M g)), some (vI (nI u)), some (vR 12 (fob s P M (sfst M f g))), some (vR 12 (fob s P M (if sfst M f g = f then g else f))), none] [] s Q := by
    refine xx_j ee112_24 rfl trivial ?_
    cases hs : sfst M f g with
    | none =>
      have e : fob s P M none = none := rfl
      rw [e]
      refine xx_nu ee112_26 (fun _ => ?_) (fun b hb => by cases hb)
      have := fin true s (GF.rf x s) h (fun a ha => by rw [hs] at ha; cases ha)
      rw [hs] at this
      refine xx_k ee112_73 1 rfl ?_
      refine xx_j ee112_74 rfl trivial ?_
      exact xx_t fx_bit_t this
    | some a =>
      have ha : a < (rn M ff_Mod_flits 0) ∧ rn M ff_Mod_at a = v := by
        rcases sfst_in (M := M) (f := f) (g := g) with q | q
        · exact hf a (by rw [← q]; exact hs)
        · exact hg a (by rw [← q]; exact hs)
      obtain ⟨F, e1, e2⟩ := h.fob1 hJ ha.1
      have ftr := h.fo hJ e2
      have hgl := h.gl hJ e2
      have sc : scnd M (u + 1) a = (swant M v u (sg M a) || !swant M v (u + 1) (sg M a)) := by
        unfold scnd
        rw [ha.2, show (u + 1 == 0) = false by simp]
        rfl
      rw [e1]
      refine xx_nu ee112_26 (fun hb => by cases hb) (fun _ _ => ?_)
      refine xx_j ee112_29 rfl trivial ?_
      refine xx_gr ee112_30 h.sk.a.rgrid rfl rfl ?_
      refine xx_j ee112_33 rfl trivial ?_
      refine xx_j ee112_34 rfl trivial ?_
      refine xx_j ee112_36 rfl trivial ?_
      refine xx_gr ee112_38 ftr.1 rfl rfl ?_
      refine xx_gi ee112_41 hgl.1 rfl rfl ?_
      refine xx_c ee112_44 rfl (k_want h hJ hN hv (by omega) ha.1 (fun t1 hG1 hA1 => ?_))
      refine xx_nz ee112_47 (fun hw => ?_) (fun hw => ?_)
      · have := fin true t1 hG1 hA1 (fun b hb => by rw [hs] at hb; cases hb; rw [sc, hw]; rfl)
        rw [hs, e1] at this
        refine xx_k ee112_73 1 rfl ?_
        refine xx_j ee112_74 rfl trivial ?_
        exact xx_t fx_bit_t this
      · have e2' : FO t1 P M a F := ⟨ha.1, by rw [hG1.2.2.2.1]; exact e2.2⟩
        have ftr1 := hA1.fo hJ e2'
        have hgl1 := hA1.gl hJ e2'
        refine xx_j ee112_50 rfl trivial ?_
        refine xx_gr ee112_51 hA1.sk.a.rgrid rfl rfl ?_
        refine xx_j ee112_54 rfl trivial ?_
        refine xx_j ee112_55 rfl trivial ?_
        refine xx_k ee112_57 1 rfl ?_
        first | refine xx_add ee112_58 ?_ | refine xx_j ee112_58 rfl trivial ?_
        refine xx_j ee112_59 rfl trivial ?_
        refine xx_gr ee112_61 ftr1.1 rfl rfl ?_
        refine xx_gi ee112_64 hgl1.1 rfl rfl ?_
        refine xx_c ee112_67 rfl (k_want hA1 hJ hN hv (by omega) ha.1 (fun t2 hG2 hA2 => ?_))
        refine xx_nz ee112_70 (fun hw2 => ?_) (fun hw2 => ?_)
        · have := fin false t2 (hG1.tr hG2) hA2 (fun b hb => by rw [hs] at hb; cases hb; rw [sc, hw, hw2]; rfl)
          rw [hs, e1] at this
          refine xx_k ee112_77 0 rfl ?_
          exact xx_t fx_bit_f this
        · have := fin true t2 (hG1.tr hG2) hA2 (fun b hb => by rw [hs] at hb; cases hb; rw [sc, hw, hw2]; rfl)
          rw [hs, e1] at this
          refine xx_k ee112_73 1 rfl ?_
          refine xx_j ee112_74 rfl trivial ?_
          exact xx_t fx_bit_t this
  refine xx_j ee112_9 rfl trivial ?_
  refine xx_j ee112_11 rfl trivial ?_
  refine xx_j ee112_13 rfl trivial ?_
  refine xx_an ee112_14 (fun hn => ?_) (fun he => ?_)
  · rw [if_neg (fun q => hn ((h.low hJ hf' hg').mpr q))] at mid
    refine xx_j ee112_21 rfl trivial ?_
    refine xx_j ee112_22 rfl trivial ?_
    exact mid
  · rw [if_pos ((h.low hJ hf' hg').mp he)] at mid
    refine xx_j ee112_17 rfl trivial ?_
    refine xx_j ee112_18 rfl trivial ?_
    refine xx_j ee112_22 rfl trivial ?_
    exact mid
end
