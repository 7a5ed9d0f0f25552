/-! THE REFERENCE: ways are given -/
section
variable {s : fx_S} {Q : fx_Q} {o : Nat} {A : Nat → Nat} {M : rf_M}
def sgiv (M : rf_M) (v w : Nat) : Bool := (sp_first (fun f => rn M ff_Mod_at f == v && decide (M ff_Mod_way f = nI w)) 0 (rn M ff_Mod_flits 0)).isSome
def sfree (M : rf_M) (v w : Nat) : Bool := !rz M ff_Mod_closed (4 * v + w) && !sgiv M v w
/-- the way that flit f gets -/
def sgv (M : rf_M) (v f : Nat) : Option Nat := match sp_first (fun w => sfree M v w && swant M (rn M ff_Mod_at f) w (sg M f)) 0 4 with
  | none => sp_first (sfree M v) 0 4
  | some w => some w
def om_gr (v : Nat) : Nat → rf_M → rf_M
  | 0, M => M
  | n + 1, M => match snext M v with
    | none => M
    | some f => om_gr v n (fx_up M ff_Mod_way f (oI (sgv M v f)))
def pk_gr (v : Nat) : Nat → rf_M → Prop
  | 0, M => snext M v = none
  | n + 1, M => match snext M v with
    | none => True
    | some f => (sgv M v f).isSome = true ∧ pk_gr v n (fx_up M ff_Mod_way f (oI (sgv M v f)))
def fx_dn : Nat → Int32
  | 0 => fx_neg
  | d + 1 => nI d
theorem fx_dn_1 : ∀ d, d < 4 → nI d + fx_ic (-1) = fx_dn d := by decide
theorem fx_dn_2 : ∀ d, d < 4 → ¬ nI d < 0 := by decide
theorem fx_dn_3 : fx_dn 0 < 0 := by decide
theorem RN.way {f : Nat} {x : Int32} (h : RN M) : RN (fx_up M ff_Mod_way f x) := h
theorem q_giveByRank {s0 : fx_S} {v : Nat} (hR : rf_ok s0 o A M) (hI : RI M) (hN : RN M) (hv : v < 64) (hp : pk_gr v 4 M) (k : ∀ s', rf_ok s' o A (om_gr v 4 M) → rf_fr o A s0 s' → Q none s') : fx_M mm_Mod_giveByRank [vR 22 (some o), vI (nI v)] s0 Q := by
  have hF := rf_fr.rf o A s0
  have h0 : 0 < rn M ff_Mod_all 0 := by
    have := hN.1
    have := hN.2.1
    have : 0 < rn M ff_Mod_n 0 * rn M ff_Mod_n 0 := Nat.mul_pos (by omega) (by omega)
    omega
  refine xx_i ml125 ?_
  have key : ∀ n (M' : rf_M) s' x3 x4 x5, RI M' → RN M' → 0 < rn M' ff_Mod_all 0 → pk_gr v n M' → rf_ok s' o A M' → rf_fr o A s0 s' → (∀ s2, rf_ok s2 o A (om_gr v n M') → rf_fr o A s0 s2 → Q none s2) → fx_W 125 6 [some (vR 22 (some o)), some (vI (nI v)), some (vI (oI (snext M' v))), x3, x4, x5] [] s' Q := by
    intro n
    induction n with
    | zero =>
      intro M' s' x3 x4 x5 hI hN h0 hp hR hF k
      have hp' : snext M' v = none := hp
      refine xx_j ee125_6 rfl trivial ?_
      refine xx_km ee125_7 rfl ?_
      refine xx_oeq ee125_8 (fun b hb => by rw [hp'] at hb; cases hb) (fun h => ?_) (fun b hb => by rw [hp'] at hb; cases hb)
      exact xx_r ee125_104 rfl trivial (k _ hR hF)
    | succ n ih =>
      intro M' s' x3 x4 x5 hI hN h0 hp hR hF k
      have h1 := hI.l ff_Mod_flits 0 257 (n := 1) rfl (by omega) rfl (by omega)
      have hfl : ∀ b, snext M' v = some b → b < rn M' ff_Mod_flits 0 := fun b hb => (sp_best_lt hb).1
      refine xx_j ee125_6 rfl trivial ?_
      refine xx_km ee125_7 rfl ?_
      refine xx_oeq ee125_8 (fun b hb => by have := hfl b hb; omega) (fun h => ?_) (fun f hf => ?_)
      · simp only [om_gr, h] at k
        exact xx_r ee125_104 rfl trivial (k _ hR hF)
      have hfb := hfl f hf
      simp only [om_gr, hf] at k
      simp only [pk_gr, hf] at hp
      obtain ⟨hp1, hp2⟩ := hp
      rw [hf]
      -- behind the ways
      have fin : ∀ x5, fx_W 125 78 [some (vR 22 (some o)), some (vI (nI v)), some (vI (nI f)), some (vI (oI (sp_first (fun w => sfree M' v w && swant M' (rn M' ff_Mod_at f) w (sg M' f)) 0 4))), some (vI (oI (sp_first (sfree M' v) 0 4))), x5] [] s' Q := by
        intro x5
        have h94 : ∀ x3 x4 x5, fx_W 125 94 [some (vR 22 (some o)), some (vI (nI v)), some (vI (nI f)), x3, x4, x5] [vI (oI (sgv M' v f)), vI (nI f), vR 70 (some (A ff_Mod_way))] s' Q := by
          intro x3 x4 x5
          refine rr_as 300 hR hF ee125_94 rfl (by omega) (fun s hR hF => ?_)
          refine xx_j ee125_95 rfl trivial ?_
          refine xx_j ee125_96 rfl trivial ?_
          have hI2 : RI (fx_up M' ff_Mod_way f (oI (sgv M' v f))) := by
            refine hI.upy ?_
            cases hq : sgv M' v f with
            | none => exact Or.inl rfl
            | some w =>
              refine Or.inr ⟨w, rfl, ?_⟩
              unfold sgv at hq
              split at hq
              · exact (sp_first_lt hq).2.1
              · rename_i hq2
                cases hq
                exact (sp_first_lt hq2).2.1
          refine xx_c ee125_97 rfl (q_next hR hI2 h0 hv ?_)
          refine xx_j ee125_100 rfl trivial ?_
          refine xx_j ee125_101 rfl trivial ?_
          exact ih _ _ _ _ _ hI2 hN.way h0 hp2 hR hF k
        refine xx_j ee125_78 rfl trivial ?_
        refine rr_fa hR ee125_79 (by decide) rfl rfl ?_
        refine xx_j ee125_82 rfl trivial ?_
        refine xx_j ee125_83 rfl trivial ?_
        refine xx_km ee125_84 rfl ?_
        refine xx_one ee125_85 (fun b hb => by have := (sp_first_lt hb).2.1; omega) (fun w hw => ?_) (fun hw => ?_)
        · refine xx_j ee125_93 rfl trivial ?_
          have e : oI (sgv M' v f) = oI (sp_first (fun w => sfree M' v w && swant M' (rn M' ff_Mod_at f) w (sg M' f)) 0 4) := by unfold sgv; rw [hw]
          rw [← e]
          exact h94 _ _ _
        · refine xx_j ee125_88 rfl trivial ?_
          refine xx_j ee125_90 rfl trivial ?_
          have e : oI (sgv M' v f) = oI (sp_first (sfree M' v) 0 4) := by unfold sgv; rw [hw]
          rw [← e]
          exact h94 _ _ _
      have ways : ∀ d, d ≤ 4 → fx_W 125 19 [some (vR 22 (some o)), some (vI (nI v)), some (vI (nI f)), some (vI (oI (sp_first (fun w => sfree M' v w && swant M' (rn M' ff_Mod_at f) w (sg M' f)) d (4 - d)))), some (vI (oI (sp_first (sfree M' v) d (4 - d)))), some (vI (fx_dn d))] [] s' Q := by
        intro d
        induction d with
        | zero =>
          intro _
          refine xx_j ee125_19 rfl trivial ?_
          refine xx_b ee125_21 rfl (fun h => ?_) (fun h => absurd fx_dn_3 h)
          exact fin _
        | succ d ihd =>
          intro hd
          have e4 : 4 - d = (4 - (d + 1)) + 1 := by omega
          have ihd := ihd (by omega)
          rw [e4] at ihd
          have no : sfree M' v d = false → fx_W 125 72 [some (vR 22 (some o)), some (vI (nI v)), some (vI (nI f)), some (vI (oI (sp_first (fun w => sfree M' v w && swant M' (rn M' ff_Mod_at f) w (sg M' f)) (d + 1) (4 - (d + 1))))), some (vI (oI (sp_first (sfree M' v) (d + 1) (4 - (d + 1))))), some (vI (nI d))] [] s' Q := by
            intro h
            refine xx_j (C := True) (pc' := 75) (ls' := [some (vR 22 (some o)), some (vI (nI v)), some (vI (nI f)), some (vI (oI (sp_first (fun w => sfree M' v w && swant M' (rn M' ff_Mod_at f) w (sg M' f)) (d + 1) (4 - (d + 1))))), some (vI (oI (sp_first (sfree M' v) (d + 1) (4 - (d + 1))))), some (vI (nI d + fx_ic (-1)))]) ee125_72 rfl trivial ?_
            rw [fx_dn_1 d (by omega)]
            refine xx_j ee125_75 rfl trivial ?_
            simpa only [sp_first, h, Bool.false_and, cond_false] using ihd
          refine xx_j ee125_19 rfl trivial ?_
          refine xx_b ee125_21 rfl (fun h => absurd h (fx_dn_2 d (by omega))) (fun _ => ?_)
          show fx_W 125 24 [some (vR 22 (some o)), some (vI (nI v)), some (vI (nI f)), _, _, some (vI (nI d))] [] s' Q
          refine xx_j ee125_24 rfl trivial ?_
          refine rr_fa hR ee125_25 (by decide) rfl rfl ?_
          refine xx_k ee125_28 4 rfl ?_
          refine xx_j ee125_29 rfl trivial ?_
          first | refine xx_mul ee125_30 ?_ | refine xx_j ee125_30 rfl trivial ?_
          refine xx_j ee125_31 rfl trivial ?_
          first | refine xx_add ee125_33 ?_ | refine xx_j ee125_33 rfl trivial ?_
          refine rr_zl 256 hR ee125_34 rfl (by omega) ?_
          refine xx_t (hI.z ff_Mod_closed (4 * v + d) (n := 256) rfl (by omega) rfl) ?_
          refine xx_nz ee125_35 (fun h => no (by simp [sfree, h])) (fun hc => ?_)
          refine xx_j ee125_38 rfl trivial ?_
          refine xx_j ee125_39 rfl trivial ?_
          refine xx_j ee125_40 rfl trivial ?_
          refine xx_c ee125_42 rfl (q_isGiven hR hI hv ?_)
          refine xx_z ee125_45 (fun hg => ?_) (fun hg => ?_)
          · have hfr : sfree M' v d = true := by
              have : sgiv M' v d = false := hg
              simp [sfree, hc, this]
            refine xx_j ee125_51 rfl trivial ?_
            refine xx_j ee125_53 rfl trivial ?_
            refine xx_j ee125_55 rfl trivial ?_
            refine xx_j ee125_56 rfl trivial ?_
            refine xx_j ee125_57 rfl trivial ?_
            refine xx_c ee125_59 rfl (q_isWanted hR hI hN hfb (by omega) ?_)
            refine xx_z ee125_62 (fun hw => ?_) (fun hw => ?_)
            · refine xx_j ee125_70 rfl trivial ?_
              refine xx_j ee125_71 rfl trivial ?_
              refine xx_j (C := True) (pc' := 75) (ls' := [some (vR 22 (some o)), some (vI (nI v)), some (vI (nI f)), some (vI (oI (sp_first (fun w => sfree M' v w && swant M' (rn M' ff_Mod_at f) w (sg M' f)) (d + 1) (4 - (d + 1))))), some (vI (nI d)), some (vI (nI d + fx_ic (-1)))]) ee125_72 rfl trivial ?_
              rw [fx_dn_1 d (by omega)]
              refine xx_j ee125_75 rfl trivial ?_
              simp only [sp_first, hfr, hw, Bool.true_and, cond_false, cond_true] at ihd
              exact ihd
            · refine xx_j ee125_65 rfl trivial ?_
              refine xx_j ee125_67 rfl trivial ?_
              refine xx_j ee125_71 rfl trivial ?_
              refine xx_j (C := True) (pc' := 75) (ls' := [some (vR 22 (some o)), some (vI (nI v)), some (vI (nI f)), some (vI (nI d)), some (vI (nI d)), some (vI (nI d + fx_ic (-1)))]) ee125_72 rfl trivial ?_
              rw [fx_dn_1 d (by omega)]
              refine xx_j ee125_75 rfl trivial ?_
              simp only [sp_first, hfr, hw, Bool.true_and, cond_false, cond_true] at ihd
              exact ihd
          · refine xx_j ee125_48 rfl trivial ?_
            exact no (by
              have : sgiv M' v d = true := hg
              simp [sfree, this])
      refine xx_km ee125_11 rfl ?_
      refine xx_j ee125_12 rfl trivial ?_
      refine xx_km ee125_13 rfl ?_
      refine xx_j ee125_14 rfl trivial ?_
      refine xx_k ee125_16 3 rfl ?_
      refine xx_j ee125_17 rfl trivial ?_
      exact ways 4 (by omega)
  refine xx_j ee125_0 rfl trivial ?_
  refine xx_j ee125_1 rfl trivial ?_
  refine xx_c ee125_2 rfl (q_next hR hI h0 hv ?_)
  refine xx_j ee125_5 rfl trivial ?_
  exact key 4 M s0 _ _ _ hI hN h0 hp hR hF k
def slow (f g u : Option Nat) : Option Nat := if u = f then g else f
theorem slow_in {f g u : Option Nat} {x : Nat} (h : slow f g u = some x) : f = some x ∨ g = some x := by
  unfold slow at h
  split at h
  · exact Or.inr h
  · exact Or.inl h
theorem supper_in {f g : Option Nat} {kd x : Nat} (h : supper M f g kd = some x) : f = some x ∨ g = some x := by
  unfold supper at h
  cases f with
  | none =>
    cases g with
    | none => cases h
    | some b =>
      revert h
      simp only [Option.getD_some]
      generalize (bif kd == 0 then _ else _ : Bool) = u
      intro h
      cases u
      · simp at h
      · exact Or.inr h
  | some a =>
    cases g with
    | none =>
      revert h
      simp only [Option.getD_some]
      generalize (bif kd == 0 then _ else _ : Bool) = u
      intro h
      cases u
      · simp at h
      · exact Or.inl h
    | some b =>
      revert h
      simp only
      rcases (Bool.eq_false_or_eq_true (sah M b a)).symm with hsa | hsa
      · simp only [hsa, cond_false]
        generalize (bif kd == 0 then _ else _ : Bool) = u
        intro h
        cases u
        · simp at h; exact Or.inr (by rw [h])
        · exact Or.inl h
      · simp only [hsa, cond_true]
        generalize (bif kd == 0 then _ else _ : Bool) = u
        intro h
        cases u
        · by_cases e : b = a
          · simp [e] at h; exact Or.inl (by rw [h])
          · simp [e] at h; exact Or.inl (by rw [h])
        · exact Or.inr h
theorem q_lowerO {f g u : Option Nat} (hf : ∀ x, f = some x → x < 2 ^ 31) (hu : ∀ x, u = some x → x < 2 ^ 31) (k : Q (some (vI (oI (slow f g u)))) s) : fx_M mm_Mod_lower [vI (oI f), vI (oI g), vI (oI u)] s Q := by
  refine q_lower ?_
  have e : (if oI u = oI f then oI g else oI f) = oI (slow f g u) := by
    unfold slow
    by_cases e : u = f
    · rw [if_pos e, if_pos (by rw [e])]
    · rw [if_neg e, if_neg (fun q => e ((oI_inj hu hf).mp q))]
  rw [e]
  exact k
def om_way (M : rf_M) (f : Option Nat) (w : Nat) : rf_M := match f with
  | none => M
  | some f => fx_up M ff_Mod_way f (nI w)
def sc1 (M : rf_M) (v : Nat) : Option Nat := supper M (sol M v 0) (sol M v 1) 0
def sc2 (M : rf_M) (v : Nat) : Option Nat := supper M (sol M v 2) (sol M v 3) 0
def sc3 (M : rf_M) (v : Nat) : Option Nat := slow (sol M v 0) (sol M v 1) (sc1 M v)
def sc4 (M : rf_M) (v : Nat) : Option Nat := slow (sol M v 2) (sol M v 3) (sc2 M v)
def sd1 (M : rf_M) (v : Nat) : Option Nat := supper M (sc1 M v) (sc2 M v) 1
def sd2 (M : rf_M) (v : Nat) : Option Nat := slow (sc1 M v) (sc2 M v) (sd1 M v)
def sd3 (M : rf_M) (v : Nat) : Option Nat := supper M (sc3 M v) (sc4 M v) 3
def sd4 (M : rf_M) (v : Nat) : Option Nat := slow (sc3 M v) (sc4 M v) (sd3 M v)
def om_gc (M : rf_M) (v : Nat) : rf_M := om_way (om_way (om_way (om_way M (sd1 M v) 0) (sd2 M v) 1) (sd3 M v) 2) (sd4 M v) 3
theorem q_giveByCells {v : Nat} (hR : rf_ok s o A M) (hI : RI M) (hN : RN M) (hv : v < 64) (k : ∀ s', rf_ok s' o A (om_gc M v) → rf_fr o A s s' → Q none s') : fx_M mm_Mod_giveByCells [vR 22 (some o), vI (nI v)] s Q := by
  have hF := rf_fr.rf o A s
  have h1 := hI.l ff_Mod_flits 0 257 (n := 1) rfl (by omega) rfl (by omega)
  have hs : ∀ l x, sol M v l = some x → x < rn M ff_Mod_flits 0 := fun l x h => by have := (sp_first_lt h).2.1; omega
  have l1 : ∀ x, sc1 M v = some x → x < rn M ff_Mod_flits 0 := fun x h => (supper_in h).elim (hs _ x) (hs _ x)
  have l2 : ∀ x, sc2 M v = some x → x < rn M ff_Mod_flits 0 := fun x h => (supper_in h).elim (hs _ x) (hs _ x)
  have l3 : ∀ x, sc3 M v = some x → x < rn M ff_Mod_flits 0 := fun x h => (slow_in h).elim (hs _ x) (hs _ x)
  have l4 : ∀ x, sc4 M v = some x → x < rn M ff_Mod_flits 0 := fun x h => (slow_in h).elim (hs _ x) (hs _ x)
  have d1 : ∀ x, sd1 M v = some x → x < rn M ff_Mod_flits 0 := fun x h => (supper_in h).elim (l1 x) (l2 x)
  have d2 : ∀ x, sd2 M v = some x → x < rn M ff_Mod_flits 0 := fun x h => (slow_in h).elim (l1 x) (l2 x)
  have d3 : ∀ x, sd3 M v = some x → x < rn M ff_Mod_flits 0 := fun x h => (supper_in h).elim (l3 x) (l4 x)
  have d4 : ∀ x, sd4 M v = some x → x < rn M ff_Mod_flits 0 := fun x h => (slow_in h).elim (l3 x) (l4 x)
  refine xx_i ml124 ?_
  refine xx_j ee124_0 rfl trivial ?_
  refine xx_j ee124_1 rfl trivial ?_
  refine xx_k ee124_2 0 rfl ?_
  refine xx_c ee124_3 rfl (q_onLine hR hI hv (by omega) ?_)
  refine xx_j ee124_6 rfl trivial ?_
  refine xx_j ee124_7 rfl trivial ?_
  refine xx_j ee124_8 rfl trivial ?_
  refine xx_k ee124_9 1 rfl ?_
  refine xx_c ee124_10 rfl (q_onLine hR hI hv (by omega) ?_)
  refine xx_j ee124_13 rfl trivial ?_
  refine xx_j ee124_14 rfl trivial ?_
  refine xx_j ee124_15 rfl trivial ?_
  refine xx_k ee124_16 2 rfl ?_
  refine xx_c ee124_17 rfl (q_onLine hR hI hv (by omega) ?_)
  refine xx_j ee124_20 rfl trivial ?_
  refine xx_j ee124_22 rfl trivial ?_
  refine xx_j ee124_23 rfl trivial ?_
  refine xx_k ee124_24 3 rfl ?_
  refine xx_c ee124_25 rfl (q_onLine hR hI hv (by omega) ?_)
  refine xx_j ee124_28 rfl trivial ?_
  refine xx_j ee124_30 rfl trivial ?_
  refine xx_j ee124_31 rfl trivial ?_
  refine xx_j ee124_32 rfl trivial ?_
  refine xx_k ee124_33 0 rfl ?_
  refine xx_c ee124_34 rfl (q_upper hR hI hN (hs _) (hs _) (by omega) ?_)
  refine xx_j ee124_37 rfl trivial ?_
  refine xx_j ee124_39 rfl trivial ?_
  refine xx_j ee124_40 rfl trivial ?_
  refine xx_j ee124_42 rfl trivial ?_
  refine xx_k ee124_44 0 rfl ?_
  refine xx_c ee124_45 rfl (q_upper hR hI hN (hs _) (hs _) (by omega) ?_)
  refine xx_j ee124_48 rfl trivial ?_
  refine xx_j ee124_50 rfl trivial ?_
  refine xx_j ee124_51 rfl trivial ?_
  refine xx_j ee124_52 rfl trivial ?_
  refine xx_c ee124_54 rfl (q_lowerO (fun x h => by have := hs _ x h; omega) (fun x h => by have := l1 x h; omega) ?_)
  refine xx_j ee124_57 rfl trivial ?_
  refine xx_j ee124_59 rfl trivial ?_
  refine xx_j ee124_61 rfl trivial ?_
  refine xx_j ee124_63 rfl trivial ?_
  refine xx_c ee124_65 rfl (q_lowerO (fun x h => by have := hs _ x h; omega) (fun x h => by have := l2 x h; omega) ?_)
  refine xx_j ee124_68 rfl trivial ?_
  refine xx_j ee124_70 rfl trivial ?_
  refine xx_j ee124_71 rfl trivial ?_
  refine xx_j ee124_73 rfl trivial ?_
  refine xx_k ee124_75 1 rfl ?_
  refine xx_c ee124_76 rfl (q_upper hR hI hN l1 l2 (by omega) ?_)
  refine xx_j ee124_79 rfl trivial ?_
  refine xx_j ee124_81 rfl trivial ?_
  refine xx_j ee124_83 rfl trivial ?_
  refine xx_j ee124_85 rfl trivial ?_
  refine xx_c ee124_87 rfl (q_lowerO (fun x h => by have := l1 x h; omega) (fun x h => by have := d1 x h; omega) ?_)
  refine xx_j ee124_90 rfl trivial ?_
  refine xx_j ee124_92 rfl trivial ?_
  refine xx_j ee124_93 rfl trivial ?_
  refine xx_j ee124_95 rfl trivial ?_
  refine xx_k ee124_97 3 rfl ?_
  refine xx_c ee124_98 rfl (q_upper hR hI hN l3 l4 (by omega) ?_)
  refine xx_j ee124_101 rfl trivial ?_
  refine xx_j ee124_103 rfl trivial ?_
  refine xx_j ee124_105 rfl trivial ?_
  refine xx_j ee124_107 rfl trivial ?_
  refine xx_c ee124_109 rfl (q_lowerO (fun x h => by have := l3 x h; omega) (fun x h => by have := d3 x h; omega) ?_)
  refine xx_j ee124_112 rfl trivial ?_
  show fx_W 124 114 [some (vR 22 (some o)), some (vI (nI v)), _, _, _, _, _, _, _, _, some (vI (oI (sd1 M v))), some (vI (oI (sd2 M v))), some (vI (oI (sd3 M v))), some (vI (oI (sd4 M v)))] [] s Q
  unfold om_gc at k
  generalize sd1 M v = e1, sd2 M v = e2, sd3 M v = e3, sd4 M v = e4 at *
  have h4 : ∀ (M' : rf_M) s' x2 x3 x4 x5 x6 x7 x8 x9 x10 x11 x12, rf_ok s' o A M' → rf_fr o A s s' → (∀ s2, rf_ok s2 o A (om_way M' e4 3) → rf_fr o A s s2 → Q none s2) → fx_W 124 156 [some (vR 22 (some o)), some (vI (nI v)), x2, x3, x4, x5, x6, x7, x8, x9, x10, x11, x12, some (vI (oI e4))] [] s' Q := by
    intro M' s' x2 x3 x4 x5 x6 x7 x8 x9 x10 x11 x12 hR hF k
    refine xx_j ee124_156 rfl trivial ?_
    refine xx_km ee124_158 rfl ?_
    refine xx_oeq ee124_159 (fun b hb => by have := d4 b hb; omega) (fun h => ?_) (fun b hb => ?_)
    · subst h
      exact xx_r ee124_170 rfl trivial (k _ hR hF)
    · subst hb
      have := d4 b rfl
      refine xx_j ee124_162 rfl trivial ?_
      refine rr_fa hR ee124_163 (by decide) rfl rfl ?_
      refine xx_j ee124_166 rfl trivial ?_
      refine xx_k ee124_168 3 rfl ?_
      refine rr_as 300 hR hF ee124_169 rfl (by omega) (fun s hR hF => ?_)
      exact xx_r ee124_170 rfl trivial (k _ hR hF)
  have h3 : ∀ (M' : rf_M) s' x2 x3 x4 x5 x6 x7 x8 x9 x10 x11, rf_ok s' o A M' → rf_fr o A s s' → (∀ s2, rf_ok s2 o A (om_way (om_way M' e3 2) e4 3) → rf_fr o A s s2 → Q none s2) → fx_W 124 142 [some (vR 22 (some o)), some (vI (nI v)), x2, x3, x4, x5, x6, x7, x8, x9, x10, x11, some (vI (oI e3)), some (vI (oI e4))] [] s' Q := by
    intro M' s' x2 x3 x4 x5 x6 x7 x8 x9 x10 x11 hR hF k
    refine xx_j ee124_142 rfl trivial ?_
    refine xx_km ee124_144 rfl ?_
    refine xx_oeq ee124_145 (fun b hb => by have := d3 b hb; omega) (fun h => ?_) (fun b hb => ?_)
    · subst h
      exact h4 _ _ _ _ _ _ _ _ _ _ _ _ _ hR hF k
    · subst hb
      have := d3 b rfl
      refine xx_j ee124_148 rfl trivial ?_
      refine rr_fa hR ee124_149 (by decide) rfl rfl ?_
      refine xx_j ee124_152 rfl trivial ?_
      refine xx_k ee124_154 2 rfl ?_
      refine rr_as 300 hR hF ee124_155 rfl (by omega) (fun s hR hF => ?_)
      exact h4 _ _ _ _ _ _ _ _ _ _ _ _ _ hR hF k
  have h2 : ∀ (M' : rf_M) s' x2 x3 x4 x5 x6 x7 x8 x9 x10, rf_ok s' o A M' → rf_fr o A s s' → (∀ s2, rf_ok s2 o A (om_way (om_way (om_way M' e2 1) e3 2) e4 3) → rf_fr o A s s2 → Q none s2) → fx_W 124 128 [some (vR 22 (some o)), some (vI (nI v)), x2, x3, x4, x5, x6, x7, x8, x9, x10, some (vI (oI e2)), some (vI (oI e3)), some (vI (oI e4))] [] s' Q := by
    intro M' s' x2 x3 x4 x5 x6 x7 x8 x9 x10 hR hF k
    refine xx_j ee124_128 rfl trivial ?_
    refine xx_km ee124_130 rfl ?_
    refine xx_oeq ee124_131 (fun b hb => by have := d2 b hb; omega) (fun h => ?_) (fun b hb => ?_)
    · subst h
      exact h3 _ _ _ _ _ _ _ _ _ _ _ _ hR hF k
    · subst hb
      have := d2 b rfl
      refine xx_j ee124_134 rfl trivial ?_
      refine rr_fa hR ee124_135 (by decide) rfl rfl ?_
      refine xx_j ee124_138 rfl trivial ?_
      refine xx_k ee124_140 1 rfl ?_
      refine rr_as 300 hR hF ee124_141 rfl (by omega) (fun s hR hF => ?_)
      exact h3 _ _ _ _ _ _ _ _ _ _ _ _ hR hF k
  refine xx_j ee124_114 rfl trivial ?_
  refine xx_km ee124_116 rfl ?_
  refine xx_oeq ee124_117 (fun b hb => by have := d1 b hb; omega) (fun h => ?_) (fun b hb => ?_)
  · subst h
    exact h2 _ _ _ _ _ _ _ _ _ _ _ hR hF k
  · subst hb
    have := d1 b rfl
    refine xx_j ee124_120 rfl trivial ?_
    refine rr_fa hR ee124_121 (by decide) rfl rfl ?_
    refine xx_j ee124_124 rfl trivial ?_
    refine xx_k ee124_126 0 rfl ?_
    refine rr_as 300 hR hF ee124_127 rfl (by omega) (fun s hR hF => ?_)
    exact h2 _ _ _ _ _ _ _ _ _ _ _ hR hF k
end
