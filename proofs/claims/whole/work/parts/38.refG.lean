/-! THE REFERENCE: ways -/
section
variable {s : fx_S} {Q : fx_Q} {o : Nat} {A : Nat → Nat} {M : rf_M}
theorem q_openWays {v : Nat} (hR : rf_ok s o A M) (hI : RI M) (hv : v < 64) (k : Q (some (vI (nI (fx_ow (rz M ff_Mod_closed) v 4)))) s) : fx_M mm_Mod_openWays [vR 22 (some o), vI (nI v)] s Q := by
  obtain ⟨h1, h2, h3⟩ := hR.1 ff_Mod_closed (by decide)
  exact c_openWays h1 h2 (fun j hj => (h3 j hj).trans (hI.z ff_Mod_closed j (n := 256) rfl hj rfl)) hv k
theorem q_isNode {v : Int32} (hR : rf_ok s o A M) (hI : RI M) (k : Q (some (vI (fx_bit (fx_isN (rn M ff_Mod_all 0) v)))) s) : fx_M mm_Mod_isNode [vR 22 (some o), vI v] s Q := by
  have h1 := hI.l ff_Mod_all 0 65 (n := 1) rfl (by omega) rfl (by omega)
  exact c_isNode v (by omega) ((hR.2.1 _ rfl).trans (hI.f ff_Mod_all rfl (by decide))) k
theorem q_lower {f g u : Int32} (k : Q (some (vI (if u = f then g else f))) s) : fx_M mm_Mod_lower [vI f, vI g, vI u] s Q := by
  refine xx_i ml36 ?_
  refine xx_j ee36_0 rfl trivial ?_
  refine xx_j ee36_1 rfl trivial ?_
  refine xx_b ee36_2 rfl (fun h => ?_) (fun h => ?_)
  · refine xx_j ee36_9 rfl trivial ?_
    refine xx_ri ee36_10 rt36 ?_
    simpa [show ¬ u = f from h] using k
  · refine xx_j ee36_5 rfl trivial ?_
    refine xx_j ee36_6 rfl trivial ?_
    refine xx_ri ee36_10 rt36 ?_
    simpa [show u = f from Classical.byContradiction h] using k
/-- the best flit at a node that has no way yet -/
def snext (M : rf_M) (v : Nat) : Option Nat := sp_best (fun f => rn M ff_Mod_at f == v && decide (M ff_Mod_way f = fx_neg)) (sah M) (rn M ff_Mod_flits 0)
theorem q_next {v : Nat} (hR : rf_ok s o A M) (hI : RI M) (h0 : 0 < rn M ff_Mod_all 0) (hv : v < 64) (k : Q (some (vI (oI (snext M v)))) s) : fx_M mm_Mod_next [vR 22 (some o), vI (nI v)] s Q := by
  have h1 := hI.l ff_Mod_flits 0 257 (n := 1) rfl (by omega) rfl (by omega)
  have e1 := hI.f ff_Mod_flits rfl (by decide)
  refine xx_i ml115 ?_
  refine xx_km ee115_0 rfl ?_
  refine xx_j ee115_1 rfl trivial ?_
  refine xx_k ee115_2 0 rfl ?_
  refine xx_j ee115_3 rfl trivial ?_
  have key : ∀ d j, j + d = rn M ff_Mod_flits 0 → fx_W 115 4 [some (vR 22 (some o)), some (vI (nI v)), some (vI (oI (sp_best (fun f => rn M ff_Mod_at f == v && decide (M ff_Mod_way f = fx_neg)) (sah M) j))), some (vI (nI j))] [] s Q := by
    intro d
    induction d with
    | zero =>
      intro j hj
      refine xx_j ee115_4 rfl trivial ?_
      refine xx_j ee115_5 rfl trivial ?_
      refine rr_fi hR ee115_6 rfl rfl rfl ?_
      refine xx_t e1 ?_
      refine xx_ge ee115_9 (by omega) (by omega) (fun h => ?_) (fun h => by omega)
      refine xx_j ee115_54 rfl trivial ?_
      refine xx_ri ee115_55 rt115 ?_
      rw [show j = rn M ff_Mod_flits 0 by omega]
      exact k
    | succ d ih =>
      intro j hj
      refine xx_j ee115_4 rfl trivial ?_
      refine xx_j ee115_5 rfl trivial ?_
      refine rr_fi hR ee115_6 rfl rfl rfl ?_
      refine xx_t e1 ?_
      refine xx_ge ee115_9 (by omega) (by omega) (fun h => by omega) (fun h => ?_)
      have h2 := hI.l ff_Mod_at j 64 (n := 300) rfl (by omega) rfl (by omega)
      have key2 := ih (j + 1) (by omega)
      have hbl : ∀ b, sp_best (fun f => rn M ff_Mod_at f == v && decide (M ff_Mod_way f = fx_neg)) (sah M) j = some b → b < 300 := fun b hb => by have := (sp_best_lt hb).1; omega
      have no : sp_best (fun f => rn M ff_Mod_at f == v && decide (M ff_Mod_way f = fx_neg)) (sah M) (j + 1) = sp_best (fun f => rn M ff_Mod_at f == v && decide (M ff_Mod_way f = fx_neg)) (sah M) j → fx_W 115 48 [some (vR 22 (some o)), some (vI (nI v)), some (vI (oI (sp_best (fun f => rn M ff_Mod_at f == v && decide (M ff_Mod_way f = fx_neg)) (sah M) j))), some (vI (nI j))] [] s Q := by
        intro h'
        first | refine xx_inc ee115_48 rfl ?_ | refine xx_j ee115_48 rfl trivial ?_
        refine xx_j ee115_51 rfl trivial ?_
        rw [h'] at key2
        exact key2
      have yes : sp_best (fun f => rn M ff_Mod_at f == v && decide (M ff_Mod_way f = fx_neg)) (sah M) (j + 1) = some j → fx_W 115 46 [some (vR 22 (some o)), some (vI (nI v)), some (vI (oI (sp_best (fun f => rn M ff_Mod_at f == v && decide (M ff_Mod_way f = fx_neg)) (sah M) j))), some (vI (nI j))] [] s Q := by
        intro h'
        refine xx_j ee115_46 rfl trivial ?_
        refine xx_j ee115_47 rfl trivial ?_
        first | refine xx_inc ee115_48 rfl ?_ | refine xx_j ee115_48 rfl trivial ?_
        refine xx_j ee115_51 rfl trivial ?_
        rw [h'] at key2
        exact key2
      refine xx_j ee115_12 rfl trivial ?_
      refine rr_fa hR ee115_13 (by decide) rfl rfl ?_
      refine xx_j ee115_16 rfl trivial ?_
      refine rr_al 300 hR ee115_17 rfl (by omega) ?_
      refine xx_t (hI.e ff_Mod_at j (n := 300) rfl (by omega) (by decide)) ?_
      refine xx_j ee115_18 rfl trivial ?_
      refine xx_ne ee115_19 (by omega) (by omega) (fun h => no (sp_best_no (by simp [h]))) (fun h4 => ?_)
      refine xx_j ee115_22 rfl trivial ?_
      refine rr_fa hR ee115_23 (by decide) rfl rfl ?_
      refine xx_j ee115_26 rfl trivial ?_
      refine rr_al 300 hR ee115_27 rfl (by omega) ?_
      refine xx_km ee115_28 rfl ?_
      refine xx_b ee115_29 rfl (fun h => no (sp_best_no (by simp [show ¬ M ff_Mod_way j = fx_neg from h]))) (fun h => ?_)
      have h5 : M ff_Mod_way j = fx_neg := Classical.byContradiction h
      refine xx_j ee115_32 rfl trivial ?_
      refine xx_km ee115_33 rfl ?_
      refine xx_oeq ee115_34 (fun b hb => by have := hbl b hb; omega) (fun h => yes (by simp [sp_best, h4, h5, h])) (fun b hb => ?_)
      have hbb := hbl b hb
      refine xx_j ee115_37 rfl trivial ?_
      refine xx_j ee115_38 rfl trivial ?_
      refine xx_j ee115_39 rfl trivial ?_
      rw [hb]
      refine xx_c ee115_40 rfl (q_isAhead hR hI h0 (by omega) hbb ?_)
      refine xx_z ee115_43 (fun h => ?_) (fun h => ?_)
      · rw [← hb]
        exact no (by simp [sp_best, hb, h])
      · rw [← hb]
        exact yes (by simp [sp_best, h4, h5, hb, h])
  exact key (rn M ff_Mod_flits 0) 0 (by omega)
/-- of two flits in a cell (either may be missing) the one that goes up -/
def supper (M : rf_M) (f g : Option Nat) (kind : Nat) : Option Nat :=
  match f, g with
  | none, none => none
  | _, _ =>
    let first := match f, g with
      | none, g => g
      | some a, none => some a
      | some a, some b => bif sah M b a then some b else some a
    let other := if first = f then g else f
    let fa := first.getD 0
    bif (bif kind == 0 then swant M (rn M ff_Mod_at fa) 0 (sg M fa) || swant M (rn M ff_Mod_at fa) 1 (sg M fa) else swant M (rn M ff_Mod_at fa) (kind - 1) (sg M fa) || !swant M (rn M ff_Mod_at fa) kind (sg M fa)) then first else other
theorem oI_inj {a b : Option Nat} (ha : ∀ k, a = some k → k < 2 ^ 31) (hb : ∀ k, b = some k → k < 2 ^ 31) : oI a = oI b ↔ a = b := by
  constructor
  · intro h
    cases a with
    | none =>
      cases b with
      | none => rfl
      | some y => exact absurd h.symm (oI_ne (hb y rfl))
    | some x =>
      cases b with
      | none => exact absurd h (oI_ne (ha x rfl))
      | some y => rw [(nI_eq (ha x rfl) (hb y rfl)).mp h]
  · intro h; rw [h]
theorem q_upper {f g : Option Nat} {kind : Nat} (hR : rf_ok s o A M) (hI : RI M) (hN : RN M) (hf : ∀ k, f = some k → k < rn M ff_Mod_flits 0) (hg : ∀ k, g = some k → k < rn M ff_Mod_flits 0) (hk : kind = 0 ∨ kind = 1 ∨ kind = 3) (k : Q (some (vI (oI (supper M f g kind)))) s) : fx_M mm_Mod_upper [vR 22 (some o), vI (oI f), vI (oI g), vI (nI kind)] s Q := by
  have h1 := hI.l ff_Mod_flits 0 257 (n := 1) rfl (by omega) rfl (by omega)
  have h0 : 0 < rn M ff_Mod_all 0 := by
    have := hN.1
    have := hN.2.1
    have : 0 < rn M ff_Mod_n 0 * rn M ff_Mod_n 0 := Nat.mul_pos (by omega) (by omega)
    omega
  have hf3 : ∀ k, f = some k → k < 2 ^ 31 := fun k h => by have := hf k h; omega
  have hg3 : ∀ k, g = some k → k < 2 ^ 31 := fun k h => by have := hg k h; omega
  refine xx_i ml116 ?_
  -- from pc 38 on: the first one is known
  have h38 : ∀ (a : Nat), (f = some a ∨ g = some a) → supper M f g kind = (bif (bif kind == 0 then swant M (rn M ff_Mod_at a) 0 (sg M a) || swant M (rn M ff_Mod_at a) 1 (sg M a) else swant M (rn M ff_Mod_at a) (kind - 1) (sg M a) || !swant M (rn M ff_Mod_at a) kind (sg M a)) then some a else if some a = f then g else f) → ∀ x5 x6, fx_W 116 38 [some (vR 22 (some o)), some (vI (oI f)), some (vI (oI g)), some (vI (nI kind)), some (vI (nI a)), x5, x6] [] s Q := by
    intro a hfg hsp x5 x6
    have ha : a < rn M ff_Mod_flits 0 := hfg.elim (hf a) (hg a)
    have h110 : ∀ (up : Bool), up = (bif kind == 0 then swant M (rn M ff_Mod_at a) 0 (sg M a) || swant M (rn M ff_Mod_at a) 1 (sg M a) else swant M (rn M ff_Mod_at a) (kind - 1) (sg M a) || !swant M (rn M ff_Mod_at a) kind (sg M a)) → fx_W 116 110 [some (vR 22 (some o)), some (vI (oI f)), some (vI (oI g)), some (vI (nI kind)), some (vI (nI a)), some (vI (oI (if some a = f then g else f))), x6] [vI (fx_bit up)] s Q := by
      intro up hup
      refine xx_j ee116_110 rfl trivial ?_
      refine xx_j ee116_112 rfl trivial ?_
      refine xx_z ee116_114 (fun h => ?_) (fun h => ?_)
      · refine xx_j ee116_122 rfl trivial ?_
        refine xx_ri ee116_124 rt116 ?_
        rw [hsp, ← hup, h] at k
        exact k
      · refine xx_j ee116_117 rfl trivial ?_
        refine xx_j ee116_119 rfl trivial ?_
        refine xx_ri ee116_124 rt116 ?_
        rw [hsp, ← hup, h] at k
        exact k
    have h51 : fx_W 116 51 [some (vR 22 (some o)), some (vI (oI f)), some (vI (oI g)), some (vI (nI kind)), some (vI (nI a)), some (vI (oI (if some a = f then g else f))), x6] [] s Q := by
      refine xx_j ee116_51 rfl trivial ?_
      refine xx_kne ee116_52 (by omega) (fun hne => ?_) (fun he => ?_)
      · have hk0 : (kind == 0) = false := by simpa using hne
        have up1 : ∀ up : Bool, up = (swant M (rn M ff_Mod_at a) (kind - 1) (sg M a) || !swant M (rn M ff_Mod_at a) kind (sg M a)) → _ := fun up hq => h110 up (by rw [hk0, cond_false]; exact hq)
        refine xx_j ee116_83 rfl trivial ?_
        refine xx_j ee116_84 rfl trivial ?_
        refine xx_j ee116_86 rfl trivial ?_
        refine xx_k ee116_87 1 rfl ?_
        refine xx_sub ee116_88 (by omega) ?_
        refine xx_c ee116_89 rfl (q_isWanted hR hI hN ha (by omega) ?_)
        refine xx_nz ee116_92 (fun w1 => ?_) (fun w1 => ?_)
        · refine xx_k ee116_105 1 rfl ?_
          refine xx_j ee116_106 rfl trivial ?_
          exact xx_t fx_bit_t (up1 true (by simp [w1]))
        refine xx_j ee116_95 rfl trivial ?_
        refine xx_j ee116_96 rfl trivial ?_
        refine xx_j ee116_98 rfl trivial ?_
        refine xx_c ee116_99 rfl (q_isWanted hR hI hN ha (by omega) ?_)
        refine xx_nz ee116_102 (fun w2 => ?_) (fun w2 => ?_)
        · refine xx_k ee116_109 0 rfl ?_
          exact xx_t fx_bit_f (up1 false (by simp [w1, w2]))
        · refine xx_k ee116_105 1 rfl ?_
          refine xx_j ee116_106 rfl trivial ?_
          exact xx_t fx_bit_t (up1 true (by simp [w2]))
      · have up1 : ∀ up : Bool, up = (swant M (rn M ff_Mod_at a) 0 (sg M a) || swant M (rn M ff_Mod_at a) 1 (sg M a)) → _ := fun up hq => h110 up (by simp only [he, beq_self_eq_true, cond_true]; exact hq)
        refine xx_j ee116_55 rfl trivial ?_
        refine xx_j ee116_56 rfl trivial ?_
        refine xx_k ee116_58 0 rfl ?_
        refine xx_c ee116_59 rfl (q_isWanted hR hI hN ha (by omega) ?_)
        refine xx_nz ee116_62 (fun w1 => ?_) (fun w1 => ?_)
        · refine xx_k ee116_75 1 rfl ?_
          refine xx_j ee116_76 rfl trivial ?_
          exact xx_t fx_bit_t (up1 true (by simp [w1]))
        refine xx_j ee116_65 rfl trivial ?_
        refine xx_j ee116_66 rfl trivial ?_
        refine xx_k ee116_68 1 rfl ?_
        refine xx_c ee116_69 rfl (q_isWanted hR hI hN ha (by omega) ?_)
        refine xx_z ee116_72 (fun w2 => ?_) (fun w2 => ?_)
        · refine xx_k ee116_79 0 rfl ?_
          refine xx_j ee116_80 rfl trivial ?_
          exact xx_t fx_bit_f (up1 false (by simp [w1, w2]))
        · refine xx_k ee116_75 1 rfl ?_
          refine xx_j ee116_76 rfl trivial ?_
          exact xx_t fx_bit_t (up1 true (by simp [w2]))
    refine xx_j ee116_38 rfl trivial ?_
    refine xx_j ee116_40 rfl trivial ?_
    refine xx_b ee116_41 rfl (fun h => ?_) (fun h => ?_)
    · have h' : ¬ some a = f := fun q => h (by rw [← q]; rfl)
      refine xx_j ee116_48 rfl trivial ?_
      refine xx_j ee116_49 rfl trivial ?_
      rw [if_neg h'] at h51
      exact h51
    · have h' : some a = f := (oI_inj (fun k hk => by cases hk; omega) hf3).mp (Classical.byContradiction h)
      refine xx_j ee116_44 rfl trivial ?_
      refine xx_j ee116_45 rfl trivial ?_
      refine xx_j ee116_49 rfl trivial ?_
      rw [if_pos h'] at h51
      exact h51
  refine xx_j ee116_0 rfl trivial ?_
  refine xx_km ee116_1 rfl ?_
  have h12 : (f = none → g = none → False) → fx_W 116 12 [some (vR 22 (some o)), some (vI (oI f)), some (vI (oI g)), some (vI (nI kind)), none, none, none] [] s Q := by
    intro hnn
    refine xx_j ee116_12 rfl trivial ?_
    refine xx_km ee116_13 rfl ?_
    refine xx_oeq ee116_14 hf3 (fun hfn => ?_) (fun a hfa => ?_)
    · subst hfn
      cases g with
      | none => exact absurd rfl (fun q => hnn rfl q)
      | some b =>
        refine xx_j ee116_31 rfl trivial ?_
        refine xx_j ee116_32 rfl trivial ?_
        refine xx_j ee116_36 rfl trivial ?_
        exact h38 b (Or.inr rfl) (by simp [supper]) _ _
    · subst hfa
      refine xx_j ee116_17 rfl trivial ?_
      refine xx_km ee116_18 rfl ?_
      refine xx_oeq ee116_19 hg3 (fun hgn => ?_) (fun b hgb => ?_)
      · subst hgn
        refine xx_j ee116_35 rfl trivial ?_
        refine xx_j ee116_36 rfl trivial ?_
        exact h38 a (Or.inl rfl) (by simp [supper]) _ _
      · subst hgb
        refine xx_j ee116_22 rfl trivial ?_
        refine xx_j ee116_23 rfl trivial ?_
        refine xx_j ee116_24 rfl trivial ?_
        have ha := hf a rfl
        have hb := hg b rfl
        refine xx_c ee116_25 rfl (q_isAhead hR hI h0 (by omega) (by omega) ?_)
        refine xx_z ee116_28 (fun h => ?_) (fun h => ?_)
        · refine xx_j ee116_35 rfl trivial ?_
          refine xx_j ee116_36 rfl trivial ?_
          exact h38 a (Or.inl rfl) (by simp [supper, h]) _ _
        · refine xx_j ee116_31 rfl trivial ?_
          refine xx_j ee116_32 rfl trivial ?_
          refine xx_j ee116_36 rfl trivial ?_
          exact h38 b (Or.inr rfl) (by simp [supper, h]) _ _
  refine xx_one ee116_2 hf3 (fun a hfa => h12 (fun q _ => by rw [hfa] at q; cases q)) (fun hfn => ?_)
  refine xx_j ee116_5 rfl trivial ?_
  refine xx_km ee116_6 rfl ?_
  refine xx_one ee116_7 hg3 (fun a hga => h12 (fun _ q => by rw [hga] at q; cases q)) (fun hgn => ?_)
  refine xx_km ee116_10 rfl ?_
  refine xx_ri ee116_11 rt116 ?_
  rw [hfn, hgn] at k
  exact k
end
