/-! THE CLASS: the cells together -/
section
variable {s : fx_S} {Q : fx_Q} {x m : Nat} {B H P : Nat → Nat} {C : Nat → Nat → Option Nat} {Y : Nat → Nat → Nat} {rt : Nat → List Nat} {K : Nat → Prop} {L : List Nat} {M : rf_M} {lv : Nat → Prop}
theorem RA.omway {f : Option Nat} {w : Nat} (h : RA s x B H C Y P m rt K L M) : RA s x B H C Y P m rt K L (om_way M f w) := by
  unfold om_way
  cases f with
  | none => exact h
  | some y => exact h.way
theorem RA.gc {v : Nat} (h : RA s x B H C Y P m rt K L M) : RA s x B H C Y P m rt K L (om_gc M v) := by
  unfold om_gc
  exact (((h.omway).omway).omway).omway
theorem gc_fob {v : Nat} {g : Option Nat} : fob s P (om_gc M v) g = fob s P M g := by
  cases g with
  | none =>
    unfold fob
    rw [ob_none, ob_none]
  | some g =>
    show fx_ar s (P (spk (om_gc M v) g) + 1) (rn (om_gc M v) ff_Mod_number g) = fx_ar s (P (spk M g) + 1) (rn M ff_Mod_number g)
    have e : spk (om_gc M v) g = spk M g := by unfold spk; rw [rn_eq (gc_o (by decide)), rn_eq (gc_o (by decide))]
    rw [e, rn_eq (gc_o (by decide))]
/-- who may be in a cell -/
theorem sc_in {v l1 l2 a : Nat} {kd : Nat} (h : supper M (sol M v l1) (sol M v l2) kd = some a ∨ slow (sol M v l1) (sol M v l2) (supper M (sol M v l1) (sol M v l2) kd) = some a) : a < (rn M ff_Mod_flits 0) ∧ rn M ff_Mod_at a = v ∧ (rn M ff_Mod_line a = l1 ∨ rn M ff_Mod_line a = l2) := by
  have : sol M v l1 = some a ∨ sol M v l2 = some a := by
    rcases h with q | q
    · exact supper_in q
    · exact slow_in q
  rcases this with q | q
  · have := sol_some q; exact ⟨this.1, this.2.1, Or.inl this.2.2⟩
  · have := sol_some q; exact ⟨this.1, this.2.1, Or.inr this.2.2⟩
theorem sgo_gc (hJ : JV M lv) {v w : Nat} (hw : w < 4) : sgo (om_gc M v) v w = scw M v w := by
  have h257 := hJ.ri.fNl
  have eN : (rn (om_gc M v) ff_Mod_flits 0) = (rn M ff_Mod_flits 0) := rn_eq (gc_o (by decide))
  have eA : ∀ f, rn (om_gc M v) ff_Mod_at f = rn M ff_Mod_at f := fun f => rn_eq (gc_o (by decide))
  have iff : ∀ f, f < (rn M ff_Mod_flits 0) → ((rn (om_gc M v) ff_Mod_at f == v && decide (om_gc M v ff_Mod_way f = nI w)) = true ↔ rn M ff_Mod_at f = v ∧ scw M v w = some f) := by
    intro f hf
    simp only [Bool.and_eq_true, beq_iff_eq, decide_eq_true_eq]
    rw [eA]
    constructor
    · rintro ⟨h1, h2⟩
      exact ⟨h1, (gc_iff hJ.j4 hf (hJ.ri.mLl (f := f) (by omega)) h1 hw).mp h2⟩
    · rintro ⟨h1, h2⟩
      exact ⟨h1, (gc_iff hJ.j4 hf (hJ.ri.mLl (f := f) (by omega)) h1 hw).mpr h2⟩
  have inn : ∀ f, scw M v w = some f → f < (rn M ff_Mod_flits 0) ∧ rn M ff_Mod_at f = v := by
    intro f hf
    have hs : 0 < cn (sd1 M v) f + cn (sd2 M v) f + cn (sd3 M v) f + cn (sd4 M v) f := by
      unfold scw at hf
      by_cases c0 : w = 0
      · rw [if_pos c0] at hf; have := cn_1 hf; omega
      · rw [if_neg c0] at hf
        by_cases c1 : w = 1
        · rw [if_pos c1] at hf; have := cn_1 hf; omega
        · rw [if_neg c1] at hf
          by_cases c2 : w = 2
          · rw [if_pos c2] at hf; have := cn_1 hf; omega
          · rw [if_neg c2] at hf; have := cn_1 hf; omega
    by_cases q : f < (rn M ff_Mod_flits 0) ∧ rn M ff_Mod_at f = v
    · exact q
    · have := cn_off (M := M) (v := v) (f := f) q
      omega
  unfold sgo
  rw [eN]
  cases hs : scw M v w with
  | none =>
    refine sp_first_none.mpr (fun f _ hf => ?_)
    cases hc : (rn (om_gc M v) ff_Mod_at f == v && decide (om_gc M v ff_Mod_way f = nI w)) with
    | false => rfl
    | true =>
      have := ((iff f (by omega)).mp hc).2
      rw [hs] at this; cases this
  | some f =>
    obtain ⟨i1, i2⟩ := inn f hs
    refine sp_first_some.mpr ⟨by omega, by omega, (iff f i1).mpr ⟨i2, hs⟩, fun j _ hj => ?_⟩
    cases hc : (rn (om_gc M v) ff_Mod_at j == v && decide (om_gc M v ff_Mod_way j = nI w)) with
    | false => rfl
    | true =>
      have := ((iff j (by omega)).mp hc).2
      rw [hs] at this
      cases this
      omega
theorem k_chooseC {v : Nat} (h : RA s x B H C Y P m rt K L M) (hJ : JI M) (hN : JN M) (hgo : RGo s x (sgold M)) (hv : v < (rn M ff_Mod_all 0)) (k : ∀ t, AK x s t → RA t x B H C Y P m rt K L (om_gc M v) → OUT t x P (om_gc M v) v → Q none t) : fx_M mm_Router_chooseByCells [vR 19 (some (x + 1)), vR 42 (some (B v + H v)), vI (nI v)] s Q := by
  have hvm : v < m := Nat.lt_of_lt_of_le hv h.nm
  have ln := h.lnh hvm
  have fl : ∀ l, l < 4 → fx_ar s (B v + H v) l = fob s P M (sol M v l) := fun l hl => h.f.fl v l hvm hl
  have s4 : ∀ l a, sol M v l = some a → a < (rn M ff_Mod_flits 0) ∧ rn M ff_Mod_at a = v := fun l a ha => ⟨(sol_some ha).1, (sol_some ha).2.1⟩
  have d4 : ∀ l1 l2, l1 ≠ l2 → sol M v l1 = sol M v l2 → sol M v l1 = none := by
    intro l1 l2 hne e
    cases hs : sol M v l1 with
    | none => rfl
    | some a =>
      rw [hs] at e
      have a1 := (sol_some hs).2.2
      have a2 := (sol_some e.symm).2.2
      omega
  refine xx_i ml122 ?_
  refine xx_j ee122_0 rfl trivial ?_
  refine xx_j ee122_1 rfl trivial ?_
  refine xx_j ee122_2 rfl trivial ?_
  refine xx_k ee122_3 0 rfl ?_
  refine xx_rl ee122_4 ln (by omega) (by decide) (fl 0 (by omega)) rfl ?_
  refine xx_j ee122_5 rfl trivial ?_
  refine xx_k ee122_6 1 rfl ?_
  refine xx_rl ee122_7 ln (by omega) (by decide) (fl 1 (by omega)) rfl ?_
  refine xx_k ee122_8 0 rfl ?_
  refine xx_c ee122_9 rfl (k_first h hJ.1 hN hgo hv (s4 0) (s4 1) (d4 0 1 (by omega)) (by omega) (fun t1 hG1 hA1 => ?_))
  generalize hT1 : fx_sar (fx_sar t1 (x + 11) 0 (fob s P M (supper M (sol M v 0) (sol M v 1) 0))) (x + 11) (0 + 2) (fob s P M (slow (sol M v 0) (sol M v 1) (supper M (sol M v 0) (sol M v 1) 0))) = T1
  have hK1 : AK x s T1 := by rw [← hT1]; exact (((AK.rf x s).gf hG1).sar (by simp)).sar (by simp)
  have hB1 : RA T1 x B H C Y P m rt K L M := by rw [← hT1]; exact (hA1.osar hJ.1 (by simp)).osar hJ.1 (by simp)
  have m10 : fx_ar T1 (x + 11) 0 = fob s P M (sc1 M v) := by rw [← hT1, ar_ne (by omega), ar_same]; rfl
  have m12 : fx_ar T1 (x + 11) 2 = fob s P M (sc3 M v) := by rw [← hT1, ar_same]; rfl
  clear hT1
  have fb1 : ∀ f, (∀ a, f = some a → a < (rn M ff_Mod_flits 0)) → fob T1 P M f = fob s P M f := fun f hf => hK1.fob h hJ.1 hf
  have fl1 : ∀ l, l < 4 → fx_ar T1 (B v + H v) l = fob T1 P M (sol M v l) := fun l hl => hB1.f.fl v l hvm hl
  refine xx_j ee122_12 rfl trivial ?_
  refine xx_j ee122_13 rfl trivial ?_
  refine xx_j ee122_14 rfl trivial ?_
  refine xx_k ee122_15 2 rfl ?_
  refine xx_rl ee122_16 (hB1.lnh hvm) (by omega) (by decide) (fl1 2 (by omega)) rfl ?_
  refine xx_j ee122_17 rfl trivial ?_
  refine xx_k ee122_18 3 rfl ?_
  refine xx_rl ee122_19 (hB1.lnh hvm) (by omega) (by decide) (fl1 3 (by omega)) rfl ?_
  refine xx_k ee122_20 1 rfl ?_
  refine xx_c ee122_21 rfl (k_first hB1 hJ.1 hN (hK1.1.go hgo) hv (s4 2) (s4 3) (d4 2 3 (by omega)) (by omega) (fun t2 hG2 hA2 => ?_))
  generalize hT2 : fx_sar (fx_sar t2 (x + 11) 1 (fob T1 P M (supper M (sol M v 2) (sol M v 3) 0))) (x + 11) (1 + 2) (fob T1 P M (slow (sol M v 2) (sol M v 3) (supper M (sol M v 2) (sol M v 3) 0))) = T2
  have hK2 : AK x T1 T2 := by rw [← hT2]; exact (((AK.rf x T1).gf hG2).sar (by simp)).sar (by simp)
  have hB2 : RA T2 x B H C Y P m rt K L M := by rw [← hT2]; exact (hA2.osar hJ.1 (by simp)).osar hJ.1 (by simp)
  have ar2 : fx_ar t2 = fx_ar T1 := hG2.2.2.2.1
  have i1 : ∀ a, sc1 M v = some a → a < (rn M ff_Mod_flits 0) ∧ rn M ff_Mod_at a = v ∧ (rn M ff_Mod_line a = 0 ∨ rn M ff_Mod_line a = 1) := fun a ha => sc_in (kd := 0) (Or.inl ha)
  have i2 : ∀ a, sc2 M v = some a → a < (rn M ff_Mod_flits 0) ∧ rn M ff_Mod_at a = v ∧ (rn M ff_Mod_line a = 2 ∨ rn M ff_Mod_line a = 3) := fun a ha => sc_in (kd := 0) (Or.inl ha)
  have i3 : ∀ a, sc3 M v = some a → a < (rn M ff_Mod_flits 0) ∧ rn M ff_Mod_at a = v ∧ (rn M ff_Mod_line a = 0 ∨ rn M ff_Mod_line a = 1) := fun a ha => sc_in (kd := 0) (Or.inr ha)
  have i4 : ∀ a, sc4 M v = some a → a < (rn M ff_Mod_flits 0) ∧ rn M ff_Mod_at a = v ∧ (rn M ff_Mod_line a = 2 ∨ rn M ff_Mod_line a = 3) := fun a ha => sc_in (kd := 0) (Or.inr ha)
  have hK12 := hK1.tr hK2
  have fb2 : ∀ f, (∀ a, f = some a → a < (rn M ff_Mod_flits 0)) → fob T2 P M f = fob s P M f := fun f hf => hK12.fob h hJ.1 hf
  have n0 : fx_ar T2 (x + 11) 0 = fob T2 P M (sc1 M v) := by rw [fb2 _ (fun a ha => (i1 a ha).1), ← hT2, ar_ne (by omega), ar_ne (by omega), ar2, m10]
  have n1 : fx_ar T2 (x + 11) 1 = fob T2 P M (sc2 M v) := by
    rw [fb2 _ (fun a ha => (i2 a ha).1), ← hT2, ar_ne (by omega), ar_same]
    exact fb1 (sc2 M v) (fun a ha => (i2 a ha).1)
  have n2 : fx_ar T2 (x + 11) 2 = fob T2 P M (sc3 M v) := by rw [fb2 _ (fun a ha => (i3 a ha).1), ← hT2, ar_ne (by omega), ar_ne (by omega), ar2, m12]
  have n3 : fx_ar T2 (x + 11) 3 = fob T2 P M (sc4 M v) := by
    rw [fb2 _ (fun a ha => (i4 a ha).1), ← hT2, ar_same]
    exact fb1 (sc4 M v) (fun a ha => (i4 a ha).1)
  clear hT2
  have e12 : sc1 M v = sc2 M v → sc1 M v = none := by
    intro e
    cases hs : sc1 M v with
    | none => rfl
    | some a =>
      have a1 := (i1 a hs).2.2
      have a2 := (i2 a (by rw [← e]; exact hs)).2.2
      omega
  have e34 : sc3 M v = sc4 M v → sc3 M v = none := by
    intro e
    cases hs : sc3 M v with
    | none => rfl
    | some a =>
      have a1 := (i3 a hs).2.2
      have a2 := (i4 a (by rw [← e]; exact hs)).2.2
      omega
  refine xx_j ee122_24 rfl trivial ?_
  refine xx_j ee122_25 rfl trivial ?_
  refine xx_j ee122_26 rfl trivial ?_
  refine xx_gr ee122_27 hB2.sk.a.middle rfl rfl ?_
  refine xx_k ee122_30 0 rfl ?_
  refine xx_rl ee122_31 hB2.sk.a.lmid (by omega) (by decide) n0 rfl ?_
  refine xx_j ee122_32 rfl trivial ?_
  refine xx_gr ee122_33 hB2.sk.a.middle rfl rfl ?_
  refine xx_k ee122_36 1 rfl ?_
  refine xx_rl ee122_37 hB2.sk.a.lmid (by omega) (by decide) n1 rfl ?_
  refine xx_k ee122_38 0 rfl ?_
  refine xx_c ee122_39 rfl (k_last (u := 0) hB2 hJ.1 hN (hK12.1.go hgo) hv (fun a ha => ⟨(i1 a ha).1, (i1 a ha).2.1⟩) (fun a ha => ⟨(i2 a ha).1, (i2 a ha).2.1⟩) e12 (by omega) (fun t3 hG3 hA3 => ?_))
  generalize hT3 : fx_sar (fx_sar t3 (x + 2) 0 (fob T2 P M (supper M (sc1 M v) (sc2 M v) (0 + 1)))) (x + 2) (0 + 1) (fob T2 P M (slow (sc1 M v) (sc2 M v) (supper M (sc1 M v) (sc2 M v) (0 + 1)))) = T3
  have hK3 : AK x T2 T3 := by rw [← hT3]; exact (((AK.rf x T2).gf hG3).sar (by simp)).sar (by simp)
  have hB3 : RA T3 x B H C Y P m rt K L M := by rw [← hT3]; exact (hA3.osar hJ.1 (by simp)).osar hJ.1 (by simp)
  have ar3 : fx_ar t3 = fx_ar T2 := hG3.2.2.2.1
  have fb3 : ∀ f, (∀ a, f = some a → a < (rn M ff_Mod_flits 0)) → fob T3 P M f = fob T2 P M f := fun f hf => hK3.fob hB2 hJ.1 hf
  have o30 : fx_ar T3 (x + 2) 0 = fob T2 P M (sd1 M v) := by rw [← hT3, ar_ne (by omega), ar_same]; rfl
  have o31 : fx_ar T3 (x + 2) 1 = fob T2 P M (sd2 M v) := by rw [← hT3, ar_same]; rfl
  have q2 : fx_ar T3 (x + 11) 2 = fob T3 P M (sc3 M v) := by rw [fb3 _ (fun a ha => (i3 a ha).1), ← hT3, ar_ne (by omega), ar_ne (by omega), ar3, n2]
  have q3 : fx_ar T3 (x + 11) 3 = fob T3 P M (sc4 M v) := by rw [fb3 _ (fun a ha => (i4 a ha).1), ← hT3, ar_ne (by omega), ar_ne (by omega), ar3, n3]
  clear hT3
  have hK123 := hK12.tr hK3
  refine xx_j ee122_42 rfl trivial ?_
  refine xx_j ee122_43 rfl trivial ?_
  refine xx_j ee122_44 rfl trivial ?_
  refine xx_gr ee122_45 hB3.sk.a.middle rfl rfl ?_
  refine xx_k ee122_48 2 rfl ?_
  refine xx_rl ee122_49 hB3.sk.a.lmid (by omega) (by decide) q2 rfl ?_
  refine xx_j ee122_50 rfl trivial ?_
  refine xx_gr ee122_51 hB3.sk.a.middle rfl rfl ?_
  refine xx_k ee122_54 3 rfl ?_
  refine xx_rl ee122_55 hB3.sk.a.lmid (by omega) (by decide) q3 rfl ?_
  refine xx_k ee122_56 2 rfl ?_
  refine xx_c ee122_57 rfl (k_last (u := 2) hB3 hJ.1 hN (hK123.1.go hgo) hv (fun a ha => ⟨(i3 a ha).1, (i3 a ha).2.1⟩) (fun a ha => ⟨(i4 a ha).1, (i4 a ha).2.1⟩) e34 (by omega) (fun t4 hG4 hA4 => ?_))
  generalize hT4 : fx_sar (fx_sar t4 (x + 2) 2 (fob T3 P M (supper M (sc3 M v) (sc4 M v) (2 + 1)))) (x + 2) (2 + 1) (fob T3 P M (slow (sc3 M v) (sc4 M v) (supper M (sc3 M v) (sc4 M v) (2 + 1)))) = T4
  have hK4 : AK x T3 T4 := by rw [← hT4]; exact (((AK.rf x T3).gf hG4).sar (by simp)).sar (by simp)
  have hB4 : RA T4 x B H C Y P m rt K L M := by rw [← hT4]; exact (hA4.osar hJ.1 (by simp)).osar hJ.1 (by simp)
  have ar4 : fx_ar t4 = fx_ar T3 := hG4.2.2.2.1
  have j1 : ∀ a, sd1 M v = some a → a < (rn M ff_Mod_flits 0) := fun a ha => by rcases supper_in ha with q | q; exact (i1 a q).1; exact (i2 a q).1
  have j2 : ∀ a, sd2 M v = some a → a < (rn M ff_Mod_flits 0) := fun a ha => by rcases slow_in ha with q | q; exact (i1 a q).1; exact (i2 a q).1
  have j3 : ∀ a, sd3 M v = some a → a < (rn M ff_Mod_flits 0) := fun a ha => by rcases supper_in ha with q | q; exact (i3 a q).1; exact (i4 a q).1
  have j4 : ∀ a, sd4 M v = some a → a < (rn M ff_Mod_flits 0) := fun a ha => by rcases slow_in ha with q | q; exact (i3 a q).1; exact (i4 a q).1
  have fb4 : ∀ f, (∀ a, f = some a → a < (rn M ff_Mod_flits 0)) → fob T4 P M f = fob T3 P M f := fun f hf => hK4.fob hB3 hJ.1 hf
  refine xx_rv ee122_60 (k T4 (hK123.tr hK4) hB4.gc (fun w hw => ?_))
  rw [sgo_gc hJ.1 hw, gc_fob]
  unfold scw
  rcases (show w = 0 ∨ w = 1 ∨ w = 2 ∨ w = 3 by omega) with e | e | e | e <;> subst e
  · rw [if_pos rfl, fb4 _ j1, fb3 _ j1, ← hT4, ar_ne (by omega), ar_ne (by omega), ar4, o30]
  · rw [if_neg (by omega), if_pos rfl, fb4 _ j2, fb3 _ j2, ← hT4, ar_ne (by omega), ar_ne (by omega), ar4, o31]
  · rw [if_neg (by omega), if_neg (by omega), if_pos rfl, fb4 _ j3, ← hT4, ar_ne (by omega), ar_same]; rfl
  · rw [if_neg (by omega), if_neg (by omega), if_neg (by omega), fb4 _ j4, ← hT4, ar_same]; rfl
end
