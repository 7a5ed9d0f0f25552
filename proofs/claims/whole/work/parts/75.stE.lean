/-! THE CLASS: the flits here -/
section
variable {s : fx_S} {Q : fx_Q} {x m : Nat} {B H P : Nat → Nat} {C : Nat → Nat → Option Nat} {Y : Nat → Nat → Nat} {rt : Nat → List Nat} {K : Nat → Prop} {L : List Nat} {M : rf_M} {lv : Nat → Prop}
theorem sp_cnt_s {P : Nat → Bool} {j : Nat} {b : Bool} (h : P j = b) : sp_cnt P (j + 1) = sp_cnt P j + (bif b then 1 else 0) := by rw [← h]; rfl
theorem sp_best_y {P : Nat → Bool} {R : Nat → Nat → Bool} {j b : Nat} {c : Bool} (h : P j = true) (hb : sp_best P R j = some b) (hr : R j b = c) : sp_best P R (j + 1) = bif c then some j else some b := by
  rw [← hr]
  show (bif P j && (match sp_best P R j with
    | none => true
    | some b => R j b) then some j else sp_best P R j) = _
  rw [h, hb]
  rfl
/-- what lies on a line -/
theorem RA.line {v l : Nat} (h : RA s x B H C Y P m rt K L M) (hJ : JV M lv) (hv : v < m) (hl : l < 4) : (sol M v l = none ∧ fx_ar s (B v + H v) l = none) ∨ ∃ f F, sol M v l = some f ∧ fx_ar s (B v + H v) l = some F ∧ FO s P M f F := by
  have e := h.f.fl v l hv hl
  cases hs : sol M v l with
  | none => rw [hs] at e; exact Or.inl ⟨rfl, e⟩
  | some f =>
    rw [hs] at e
    have hf := (sol_some hs).1
    obtain ⟨q1, q2, q3, -⟩ := hJ.j2 f hf
    have ne := h.k.fp (spk M f) (rn M ff_Mod_number f) q3 q2
    cases hF : fx_ar s (P (spk M f) + 1) (rn M ff_Mod_number f) with
    | none => exact absurd hF ne
    | some F =>
      have e' : fx_ar s (B v + H v) l = fx_ar s (P (spk M f) + 1) (rn M ff_Mod_number f) := e
      rw [hF] at e'
      exact Or.inr ⟨f, F, rfl, e', hf, hF⟩
theorem RA.lnh {v : Nat} (h : RA s x B H C Y P m rt K L M) (hv : v < m) : fx_ln s (B v + H v) = 4 := by
  rcases h.f.h1 v hv with q | q
  · rw [q]; exact (h.sk.b v hv).lh
  · rw [q]; exact (h.sk.b v hv).lc
theorem sfa_lines (hJ : JV M lv) {v : Nat} : sp_cnt (fun l => (sol M v l).isSome) 4 = sfa M v := by
  have h257 := hJ.ri.fNl
  refine Nat.le_antisymm ?_ ?_
  · refine cnt_inj (φ := fun l => (sol M v l).getD 0) 4 _ (fun l hl hp => ?_) (fun i j hi hj hp hq e => ?_)
    · obtain ⟨f, hf⟩ := Option.isSome_iff_exists.mp hp
      try dsimp only
      rw [hf]
      obtain ⟨f1, f2, f3⟩ := sol_some hf
      exact ⟨f1, by simpa using f2⟩
    · obtain ⟨f, hf⟩ := Option.isSome_iff_exists.mp hp
      obtain ⟨g, hg⟩ := Option.isSome_iff_exists.mp hq
      try dsimp only at e
      rw [hf, hg] at e
      have e' : f = g := e
      have a := (sol_some hf).2.2
      have b := (sol_some hg).2.2
      rw [e'] at a
      omega
  · refine cnt_inj (φ := fun f => rn M ff_Mod_line f) ((rn M ff_Mod_flits 0)) _ (fun f hf hp => ?_) (fun i j hi hj hp hq e => ?_)
    · have hp' : rn M ff_Mod_at f = v := by simpa using hp
      refine ⟨hJ.ri.mLl (f := f) (by omega), ?_⟩
      have := sol_of hJ.j4 hf
      rw [hp'] at this
      try dsimp only
      rw [this]
      rfl
    · have hp' : rn M ff_Mod_at i = v := by simpa using hp
      have hq' : rn M ff_Mod_at j = v := by simpa using hq
      exact hJ.j4 i j hi hj (hp'.trans hq'.symm) e
theorem k_flitsHere {v : Nat} (h : RA s x B H C Y P m rt K L M) (hJ : JV M lv) (hv : v < m) (k : Q (some (vI (nI (sfa M v)))) s) : fx_M mm_Node_flitsHere [vR 14 (some (B v))] s Q := by
  refine xx_i ml10 ?_
  refine xx_k ee10_0 0 rfl ?_
  refine xx_j ee10_1 rfl trivial ?_
  refine xx_k ee10_2 0 rfl ?_
  refine xx_j ee10_3 rfl trivial ?_
  have key : ∀ d j, j + d = 4 → fx_W 10 4 [some (vR 14 (some (B v))), some (vI (nI (sp_cnt (fun l => (sol M v l).isSome) j))), some (vI (nI j))] [] s Q := by
    intro d
    induction d with
    | zero =>
      intro j hj
      refine xx_j ee10_4 rfl trivial ?_
      refine xx_k ee10_5 4 rfl ?_
      refine xx_ge ee10_6 (by omega) (by omega) (fun _ => ?_) (fun h => by omega)
      refine xx_j ee10_27 rfl trivial ?_
      refine xx_ri ee10_28 rt10 ?_
      rw [show j = 4 by omega, sfa_lines hJ]
      exact k
    | succ d ih =>
      intro j hj
      refine xx_j ee10_4 rfl trivial ?_
      refine xx_k ee10_5 4 rfl ?_
      refine xx_ge ee10_6 (by omega) (by omega) (fun h => by omega) (fun _ => ?_)
      rcases h.line hJ hv (l := j) (by omega) with ⟨q1, q2⟩ | ⟨f, F, q1, q2, -⟩
      · refine xx_j ee10_9 rfl trivial ?_
        refine xx_gr ee10_10 (h.f.here v hv) rfl rfl ?_
        refine xx_j ee10_13 rfl trivial ?_
        refine xx_rl ee10_14 (h.lnh hv) (by omega) (by decide) q2 rfl ?_
        refine xx_nu ee10_15 (fun _ => ?_) (fun b hb => by cases hb)
        first | refine xx_inc ee10_21 rfl ?_ | refine xx_j ee10_21 rfl trivial ?_
        refine xx_j ee10_24 rfl trivial ?_
        have := ih (j + 1) (by omega)
        rw [sp_cnt_s (b := false) (by rw [q1]; rfl)] at this
        exact this
      · refine xx_j ee10_9 rfl trivial ?_
        refine xx_gr ee10_10 (h.f.here v hv) rfl rfl ?_
        refine xx_j ee10_13 rfl trivial ?_
        refine xx_rl ee10_14 (h.lnh hv) (by omega) (by decide) q2 rfl ?_
        refine xx_nu ee10_15 (fun hb => by cases hb) (fun _ _ => ?_)
        first | refine xx_inc ee10_18 rfl ?_ | refine xx_j ee10_18 rfl trivial ?_
        first | refine xx_inc ee10_21 rfl ?_ | refine xx_j ee10_21 rfl trivial ?_
        refine xx_j ee10_24 rfl trivial ?_
        have := ih (j + 1) (by omega)
        rw [sp_cnt_s (b := true) (by rw [q1]; rfl)] at this
        exact this
  exact key 4 0 (by omega)
/-- the line of the best of them -/
def slb (M : rf_M) (v : Nat) : Option Nat := (shome M v).map (fun f => rn M ff_Mod_line f)
theorem slb_best (hJ : JV M lv) {v : Nat} : sp_best (fun l => match sol M v l with
    | none => false
    | some f => sg M f == v) (fun l k => sah M ((sol M v l).getD 0) ((sol M v k).getD 0)) 4 = slb M v := by
  have h257 := hJ.ri.fNl
  have fl : ∀ l, (match sol M v l with
    | none => false
    | some f => sg M f == v) = true → ∃ f, sol M v l = some f ∧ sg M f = v := by
    intro l hl
    cases hs : sol M v l with
    | none => rw [hs] at hl; cases hl
    | some f => rw [hs] at hl; exact ⟨f, rfl, by simpa using hl⟩
  have tot : ∀ a c, a < 4 → c < 4 → (match sol M v a with
    | none => false
    | some f => sg M f == v) = true → (match sol M v c with
    | none => false
    | some f => sg M f == v) = true → a ≠ c → sah M ((sol M v a).getD 0) ((sol M v c).getD 0) = false → sah M ((sol M v c).getD 0) ((sol M v a).getD 0) = true := by
    intro a c ha hc pa pc hne q
    obtain ⟨f, f1, -⟩ := fl a pa
    obtain ⟨g, g1, -⟩ := fl c pc
    rw [f1, g1] at q ⊢
    have hfg : f ≠ g := fun z => hne (by rw [← (sol_some f1).2.2, ← (sol_some g1).2.2, z])
    show sah M g f = true
    rw [sah_tot hJ (sol_some g1).1 (sol_some f1).1 (fun z => hfg z.symm), show sah M f g = false from q]
    rfl
  have tr : ∀ a c d, a < 4 → c < 4 → d < 4 → (match sol M v a with
    | none => false
    | some f => sg M f == v) = true → (match sol M v c with
    | none => false
    | some f => sg M f == v) = true → (match sol M v d with
    | none => false
    | some f => sg M f == v) = true → a ≠ c → c ≠ d → a ≠ d → sah M ((sol M v a).getD 0) ((sol M v c).getD 0) = true → sah M ((sol M v c).getD 0) ((sol M v d).getD 0) = true → sah M ((sol M v a).getD 0) ((sol M v d).getD 0) = true := by
    intro a c d ha hc hd pa pc pd n1 n2 n3 q1 q2
    obtain ⟨f, f1, -⟩ := fl a pa
    obtain ⟨g, g1, -⟩ := fl c pc
    obtain ⟨i, i1, -⟩ := fl d pd
    have ll := fun {a c f g : Nat} (f1 : sol M v a = some f) (g1 : sol M v c = some g) (hne : a ≠ c) (z : skey M f = skey M g) => hne (by rw [← (sol_some f1).2.2, ← (sol_some g1).2.2, skey_inj hJ (sol_some f1).1 (sol_some g1).1 z])
    have m1 := ll f1 g1 n1
    have m2 := ll g1 i1 n2
    rw [f1, g1] at q1
    rw [g1, i1] at q2
    rw [f1, i1]
    exact sah_tr q1 q2 m1 m2
  unfold slb
  cases hs : sp_best (fun l => match sol M v l with
    | none => false
    | some f => sg M f == v) (fun l k => sah M ((sol M v l).getD 0) ((sol M v k).getD 0)) 4 with
  | none =>
    cases hh : shome M v with
    | none => rfl
    | some f =>
      exfalso
      obtain ⟨f1, f2, f3⟩ := shome_some hh
      have := sp_best_none.mp hs (rn M ff_Mod_line f) (hJ.ri.mLl (f := f) (by omega))
      have so := sol_of hJ.j4 f1
      rw [f2] at so
      rw [so] at this
      simp [f3] at this
  | some l =>
    obtain ⟨l1, l2⟩ := sp_best_lt hs
    have mx := sp_best_max tot tr hs
    obtain ⟨f, f1, f2⟩ := fl l l2
    obtain ⟨g1, g2, g3⟩ := sol_some f1
    have : shome M v = some f := by
      refine (best_iff hJ).mpr ⟨g1, by simp [g2, f2], fun c hc hpc hne => ?_⟩
      simp only [Bool.and_eq_true, beq_iff_eq] at hpc
      have so := sol_of hJ.j4 hc
      rw [hpc.1] at so
      have q := mx (rn M ff_Mod_line c) (hJ.ri.mLl (f := c) (by omega)) (by rw [so]; simp [hpc.2]) (fun z => hne (by
        have so' := so
        rw [z, f1] at so'
        exact (Option.some.inj so').symm))
      rw [f1, so] at q
      exact q
    rw [this]
    show some l = some (rn M ff_Mod_line f)
    rw [g3]
theorem k_highest {v : Nat} (h : RA s x B H C Y P m rt K L M) (hJ : JV M lv) (hgo : RGo s x (sgold M)) (hv : v < m) (k : Q (some (vI (oI (slb M v)))) s) : fx_M mm_Rank_highestForGoal [vR 17 (some (x + 9)), vR 42 (some (B v + H v)), vI (nI v)] s Q := by
  have h64 := h.sk.c.m64
  rw [← slb_best hJ] at k
  refine xx_i ml92 ?_
  refine xx_km ee92_0 rfl ?_
  refine xx_j ee92_1 rfl trivial ?_
  refine xx_k ee92_2 0 rfl ?_
  refine xx_j ee92_3 rfl trivial ?_
  generalize hPP : (fun l => match sol M v l with
    | none => false
    | some f => sg M f == v) = PP at k
  generalize hRR : (fun l k => sah M ((sol M v l).getD 0) ((sol M v k).getD 0)) = RR1 at k
  have key : ∀ d j x5, j + d = 4 → fx_W 92 5 [some (vR 17 (some (x + 9))), some (vR 42 (some (B v + H v))), some (vI (nI v)), some (vI (oI (sp_best PP RR1 j))), some (vI (nI j)), x5] [] s Q := by
    intro d
    induction d with
    | zero =>
      intro j x5 hj
      refine xx_j ee92_5 rfl trivial ?_
      refine xx_k ee92_7 4 rfl ?_
      refine xx_ge ee92_8 (by omega) (by omega) (fun _ => ?_) (fun h => by omega)
      refine xx_j ee92_60 rfl trivial ?_
      refine xx_ri ee92_61 rt92 ?_
      rw [show j = 4 by omega]
      exact k
    | succ d ih =>
      intro j x5 hj
      have no : ∀ x5, sp_best PP RR1 (j + 1) = sp_best PP RR1 j → fx_W 92 54 [some (vR 17 (some (x + 9))), some (vR 42 (some (B v + H v))), some (vI (nI v)), some (vI (oI (sp_best PP RR1 j))), some (vI (nI j)), x5] [] s Q := by
        intro x5 e
        first | refine xx_inc ee92_54 rfl ?_ | refine xx_j ee92_54 rfl trivial ?_
        refine xx_j ee92_57 rfl trivial ?_
        have := ih (j + 1) x5 (by omega)
        rw [e] at this
        exact this
      have yes : ∀ x5, sp_best PP RR1 (j + 1) = some j → fx_W 92 51 [some (vR 17 (some (x + 9))), some (vR 42 (some (B v + H v))), some (vI (nI v)), some (vI (oI (sp_best PP RR1 j))), some (vI (nI j)), x5] [] s Q := by
        intro x5 e
        refine xx_j ee92_51 rfl trivial ?_
        refine xx_j ee92_53 rfl trivial ?_
        first | refine xx_inc ee92_54 rfl ?_ | refine xx_j ee92_54 rfl trivial ?_
        refine xx_j ee92_57 rfl trivial ?_
        have := ih (j + 1) x5 (by omega)
        rw [e] at this
        exact this
      refine xx_j ee92_5 rfl trivial ?_
      refine xx_k ee92_7 4 rfl ?_
      refine xx_ge ee92_8 (by omega) (by omega) (fun h => by omega) (fun _ => ?_)
      rcases h.line hJ hv (l := j) (by omega) with ⟨q1, q2⟩ | ⟨f, F, q1, q2, q3⟩
      · have ep : PP j = false := by rw [← hPP]; show (match sol M v j with | none => false | some f => sg M f == v) = false; rw [q1]
        refine xx_j ee92_11 rfl trivial ?_
        refine xx_j ee92_12 rfl trivial ?_
        refine xx_rl ee92_14 (h.lnh hv) (by omega) (by decide) q2 rfl ?_
        refine xx_j ee92_15 rfl trivial ?_
        refine xx_j ee92_17 rfl trivial ?_
        refine xx_nu ee92_19 (fun _ => no _ (sp_best_no ep)) (fun b hb => by cases hb)
      · obtain ⟨a1, a2, a3, a4, a5, -⟩ := h.fo hJ q3
        have gl : M ff_Mod_goals (spk M f) = nI (sg M f) := hJ.ri.e ff_Mod_goals (spk M f) (n := 512) rfl (hJ.j2 f q3.1).2.2.1 (by decide)
        have gl64 : sg M f < 64 := hJ.ri.l ff_Mod_goals (spk M f) 64 (n := 512) rfl (hJ.j2 f q3.1).2.2.1 rfl (by omega)
        have epv : PP j = (sg M f == v) := by rw [← hPP]; show (match sol M v j with | none => false | some f => sg M f == v) = _; rw [q1]
        refine xx_j ee92_11 rfl trivial ?_
        refine xx_j ee92_12 rfl trivial ?_
        refine xx_rl ee92_14 (h.lnh hv) (by omega) (by decide) q2 rfl ?_
        refine xx_j ee92_15 rfl trivial ?_
        refine xx_j ee92_17 rfl trivial ?_
        refine xx_nu ee92_19 (fun hb => by cases hb) (fun _ _ => ?_)
        refine xx_j ee92_22 rfl trivial ?_
        refine xx_gr ee92_24 a1 rfl rfl ?_
        refine xx_gi ee92_27 (a5.goal.trans gl) rfl rfl ?_
        refine xx_j ee92_30 rfl trivial ?_
        refine xx_ne ee92_31 (by omega) (by omega) (fun q => no _ (sp_best_no (by rw [epv]; simpa using q))) (fun qg => ?_)
        have ep : PP j = true := by rw [epv]; simpa using qg
        refine xx_j ee92_34 rfl trivial ?_
        refine xx_km ee92_35 rfl ?_
        refine xx_oeq ee92_36 (fun b hb => by have := (sp_best_lt hb).1; omega) (fun hn => ?_) (fun b hb => ?_)
        · refine yes _ ?_
          unfold sp_best
          rw [ep, hn]
          rfl
        · obtain ⟨b1, b2⟩ := sp_best_lt hb
          have b2' : (match sol M v b with | none => false | some f => sg M f == v) = true := by rw [← hPP] at b2; exact b2
          rcases h.line hJ hv (l := b) (by omega) with ⟨z1, -⟩ | ⟨g, G, z1, z2, z3⟩
          · rw [z1] at b2'; cases b2'
          rw [hb]
          refine xx_j ee92_39 rfl trivial ?_
          refine xx_j ee92_40 rfl trivial ?_
          refine xx_j ee92_42 rfl trivial ?_
          refine xx_j ee92_43 rfl trivial ?_
          refine xx_rl ee92_44 (h.lnh hv) (by omega) (by decide) z2 rfl ?_
          refine xx_c ee92_45 rfl (k_isHigher h hJ hgo q3 z3 ?_)
          have er : RR1 j b = sah M f g := by rw [← hRR]; show sah M ((sol M v j).getD 0) ((sol M v b).getD 0) = _; rw [q1, z1]; rfl
          rw [← hb]
          refine xx_z ee92_48 (fun q => no _ ?_) (fun q => yes _ ?_)
          · rw [sp_best_y ep hb (er.trans q), hb]; rfl
          · rw [sp_best_y ep hb (er.trans q)]; rfl
  exact key 4 0 _ (by omega)
end
