/-! THE REFERENCE: the third step of a cycle -/
theorem fx_ow4 (cl : Nat → Bool) (v : Nat) : fx_ow cl v 4 < 5 := by
  unfold fx_ow fx_ow fx_ow fx_ow fx_ow
  cases cl (4 * v + 0) <;> cases cl (4 * v + 1) <;> cases cl (4 * v + 2) <;> cases cl (4 * v + 3) <;> decide
section
variable {s : fx_S} {Q : fx_Q} {o : Nat} {A : Nat → Nat} {M : rf_M}
/-- how many flits are at v -/
def sfa (M : rf_M) (v : Nat) : Nat := sp_cnt (fun f => rn M ff_Mod_at f == v) (rn M ff_Mod_flits 0)
/-- v may let a flit enter -/
def smay (M : rf_M) (only : Option Nat) (v : Nat) : Bool := decide (sfa M v < fx_ow (rz M ff_Mod_closed) v 4) && (only == none || only == some v)
def om_hun (M : rf_M) (only : Option Nat) (v : Nat) : rf_M := fx_up M ff_Mod_hungry v (nI (bif (scand M v).isSome && !smay M only v then rn M ff_Mod_hungry v + 1 else 0))
def om_le1 (M : rf_M) (only : Option Nat) (v : Nat) : rf_M :=
  bif (scand M v).isSome && smay M only v then
    (if only = some v then fx_up (om_enter (om_hun M only v) v ((scand M v).getD 0) ((sfl M v).getD 0)) ff_Mod_turn 0 (nI ((v + 1) % rn M ff_Mod_all 0)) else om_enter (om_hun M only v) v ((scand M v).getD 0) ((sfl M v).getD 0))
  else om_hun M only v
def pk_let1 (M : rf_M) (only : Option Nat) (v : Nat) : Prop := rn M ff_Mod_hungry v < 900000 ∧ ((scand M v).isSome = true → smay M only v = true → (sfl M v).isSome = true ∧ rn M ff_Mod_flits 0 < 256 ∧ (0 < rn M ff_Mod_agains v → rn M ff_Mod_entered (rn M ff_Mod_again (8 * v)) < 8))
def om_le (only : Option Nat) : Nat → Nat → rf_M → rf_M
  | 0, _, M => M
  | d + 1, v, M => om_le only d (v + 1) (om_le1 M only v)
def pk_let (only : Option Nat) : Nat → Nat → rf_M → Prop
  | 0, _, _ => True
  | d + 1, v, M => pk_let1 M only v ∧ pk_let only d (v + 1) (om_le1 M only v)
theorem RI.hun {only : Option Nat} {v : Nat} (hI : RI M) (h : rn M ff_Mod_hungry v < 900000) : RI (om_hun M only v) := by
  refine hI.up (b := 1000000) rfl ?_ (by decide) (by decide)
  cases (scand M v).isSome && !smay M only v
  · simp
  · simp; omega
/-- what candidate says, said again -/
theorem scand_cases {v w : Nat} (hI : RI M) (hv : v < 64) (h : scand M v = some w) : (w < 512 ∧ rn M ff_Mod_entered w < 8) ∨ (w = 1000 + rn M ff_Mod_again (8 * v) ∧ 0 < rn M ff_Mod_agains v ∧ rn M ff_Mod_again (8 * v) < 512) ∨ (w = 2000 ∧ 0 < rn M ff_Mod_waits v ∧ ∃ p, sp_first (fun p => rn M ff_Mod_lengths p == 0) (8 * v) 8 = some p) := by
  unfold scand at h
  split at h
  · rename_i p hp
    cases h
    obtain ⟨h1, h2, h3⟩ := sp_first_lt hp
    have h4 := hI.l ff_Mod_lengths w 9 (n := 512) rfl (by omega) rfl (by omega)
    simp only [suw, Bool.and_eq_true, decide_eq_true_eq] at h3
    exact Or.inl ⟨by omega, by omega⟩
  · cases q : (decide (0 < rn M ff_Mod_agains v) && !(sp_first (fun f => spk M f == rn M ff_Mod_again (8 * v)) 0 (rn M ff_Mod_flits 0)).isSome)
    · rw [q, cond_false] at h
      cases q2 : (decide (0 < rn M ff_Mod_waits v) && (sp_first (fun p => rn M ff_Mod_lengths p == 0) (8 * v) 8).isSome)
      · rw [q2, cond_false] at h
        cases h
      · rw [q2, cond_true] at h
        cases h
        simp only [Bool.and_eq_true, decide_eq_true_eq] at q2
        exact Or.inr (Or.inr ⟨rfl, q2.1, Option.isSome_iff_exists.mp q2.2⟩)
    · rw [q, cond_true] at h
      cases h
      simp only [Bool.and_eq_true, decide_eq_true_eq] at q
      exact Or.inr (Or.inl ⟨rfl, q.1, hI.l ff_Mod_again (8 * v) 512 (n := 512) rfl (by omega) rfl (by omega)⟩)
theorem q_enter {s0 : fx_S} {only : Option Nat} {v w l : Nat} (hR : rf_ok s0 o A (om_hun M only v)) (hI : RI M) (hh : rn M ff_Mod_hungry v < 900000) (hv : v < 64) (hw : scand M v = some w) (hl : sfl M v = some l) (hL : rn M ff_Mod_flits 0 < 256) (hag : 0 < rn M ff_Mod_agains v → rn M ff_Mod_entered (rn M ff_Mod_again (8 * v)) < 8) (k : ∀ s', rf_ok s' o A (om_enter (om_hun M only v) v w l) → rf_fr o A s0 s' → Q none s') : fx_M mm_Mod_enter [vR 22 (some o), vI (nI v), vI (nI w)] s0 Q := by
  have hI1 := hI.hun (only := only) hh
  rcases scand_cases hI hv hw with ⟨h1, h2⟩ | ⟨h1, h2, h3⟩ | ⟨h1, h2, p, h3⟩
  · exact q_enterA hR hI1 hv h1 hl h2 hL (fun s' q1 q2 => k s' (by unfold om_enter; rw [if_pos (by omega)]; exact q1) q2)
  · subst h1
    refine q_enterB hR hI1 hv h3 h2 hl (hag h2) hL (fun s' q1 q2 => k s' ?_ q2)
    unfold om_enter
    rw [if_neg (by omega), if_pos (by omega), show 1000 + rn M ff_Mod_again (8 * v) - 1000 = rn M ff_Mod_again (8 * v) by omega]
    exact q1
  · subst h1
    refine q_enterW hR hI1 hv h3 h2 hl hL (fun s' q1 q2 => k s' ?_ q2)
    unfold om_enter
    rw [if_neg (by omega), if_neg (by omega)]
    have h3' : sp_first (fun p => rn (om_hun M only v) ff_Mod_lengths p == 0) (8 * v) 8 = some p := h3
    rw [h3']
    exact q1
theorem RI.enter {v w l : Nat} (hI : RI M) (hv : v < 64) (hw : scand M v = some w) (hl : l < 4) (hL : rn M ff_Mod_flits 0 < 256) (hag : 0 < rn M ff_Mod_agains v → rn M ff_Mod_entered (rn M ff_Mod_again (8 * v)) < 8) : RI (om_enter M v w l) := by
  unfold om_enter
  rcases scand_cases hI hv hw with ⟨h1, h2⟩ | ⟨h1, h2, h3⟩ | ⟨h1, h2, p, h3⟩
  · rw [if_pos (by omega)]
    exact hI.flit hv h1 hl h2 hL
  · subst h1
    rw [if_neg (by omega), if_pos (by omega), show 1000 + rn M ff_Mod_again (8 * v) - 1000 = rn M ff_Mod_again (8 * v) by omega]
    exact (hI.unag hv h2).flit hv h3 hl (hag h2) hL
  · subst h1
    rw [if_neg (by omega), if_neg (by omega), h3]
    have hp := (sp_first_lt h3).2.1
    refine (hI.unwt hv h2).flit hv (by show p < 512; omega) hl ?_ hL
    have : rn (om_unwt M v p) ff_Mod_entered p = 0 := by
      have e : om_unwt M v p ff_Mod_entered p = nI 0 := (om_sh_ne (by decide)).trans ((om_sh_ne (by decide)).trans ((om_sh_ne (by decide)).trans ((fx_up_ne (fun q => absurd q.1 (by decide))).trans ((fx_up_ne (fun q => absurd q.1 (by decide))).trans (fx_up_same _ _ _ _)))))
      exact rn_of e (by omega)
    show rn (om_unwt M v p) ff_Mod_entered p < 8
    omega
theorem RI.le1 {only : Option Nat} {v : Nat} (hI : RI M) (hv : v < 64) (h0 : 0 < rn M ff_Mod_all 0) (hp : pk_let1 M only v) : RI (om_le1 M only v) := by
  have hA := hI.l ff_Mod_all 0 65 (n := 1) rfl (by omega) rfl (by omega)
  unfold om_le1
  cases q : ((scand M v).isSome && smay M only v)
  · exact hI.hun hp.1
  · simp only [Bool.and_eq_true] at q
    obtain ⟨h1, h2, h3⟩ := hp.2 q.1 q.2
    obtain ⟨w, hw⟩ := Option.isSome_iff_exists.mp q.1
    obtain ⟨l, hl⟩ := Option.isSome_iff_exists.mp h1
    rw [cond_true, hw, hl]
    have hl4 := (sp_first_lt hl).2.1
    have hE : RI (om_enter (om_hun M only v) v w l) := (hI.hun hp.1).enter hv hw (by omega) h2 h3
    split
    · exact hE.up (b := 64) rfl (by have := Nat.mod_lt (v + 1) h0; omega) (by decide) (by decide)
    · exact hE
theorem om_le1_all {only : Option Nat} {v : Nat} : rn (om_le1 M only v) ff_Mod_all 0 = rn M ff_Mod_all 0 := by
  unfold om_le1
  cases (scand M v).isSome && smay M only v
  · rfl
  · rw [cond_true]
    unfold om_enter
    split <;> (split <;> (try split) <;> rfl)
theorem q_letEnter {s0 : fx_S} (hR : rf_ok s0 o A M) (hI : RI M) (h0 : 0 < rn M ff_Mod_all 0) (hp : pk_let (sfav M) (rn M ff_Mod_all 0) 0 M) (k : ∀ s', rf_ok s' o A (om_le (sfav M) (rn M ff_Mod_all 0) 0 M) → rf_fr o A s0 s' → Q none s') : fx_M mm_Mod_letEnter [vR 22 (some o)] s0 Q := by
  have hF := rf_fr.rf o A s0
  have hA := hI.l ff_Mod_all 0 65 (n := 1) rfl (by omega) rfl (by omega)
  have hfv : ∀ b, sfav M = some b → b < 2 ^ 31 := by
    intro b hb
    unfold sfav at hb
    obtain ⟨q, -, hq⟩ := Option.map_eq_some_iff.mp hb
    have := Nat.mod_lt (rn M ff_Mod_turn 0 + q) h0
    omega
  refine xx_i ml98 ?_
  refine xx_j ee98_0 rfl trivial ?_
  refine xx_c ee98_1 rfl (q_favoured hR hI h0 ?_)
  refine xx_j ee98_4 rfl trivial ?_
  refine xx_k ee98_5 0 rfl ?_
  refine xx_j ee98_6 rfl trivial ?_
  generalize sfav M = only at hp k hfv ⊢
  have key : ∀ d v (M' : rf_M) s' x3 x4, v + d = rn M ff_Mod_all 0 → rn M' ff_Mod_all 0 = rn M ff_Mod_all 0 → RI M' → pk_let only d v M' → rf_ok s' o A M' → rf_fr o A s0 s' → (∀ s2, rf_ok s2 o A (om_le only d v M') → rf_fr o A s0 s2 → Q none s2) → fx_W 98 7 [some (vR 22 (some o)), some (vI (oI only)), some (vI (nI v)), x3, x4] [] s' Q := by
    intro d
    induction d with
    | zero =>
      intro v M' s' x3 x4 hv hA' hI hp hR hF k
      have e1 := hI.f ff_Mod_all rfl (by decide)
      refine xx_j ee98_7 rfl trivial ?_
      refine xx_j ee98_8 rfl trivial ?_
      refine rr_fi hR ee98_9 rfl rfl rfl ?_
      refine xx_t e1 ?_
      refine xx_ge ee98_12 (by omega) (by omega) (fun h => ?_) (fun h => by omega)
      exact xx_r ee98_121 rfl trivial (k _ hR hF)
    | succ d ih =>
      intro v M' s' x3 x4 hv hA' hI hp hR hF k
      obtain ⟨hp1, hp2⟩ := hp
      have e1 := hI.f ff_Mod_all rfl (by decide)
      have hv64 : v < 64 := by omega
      have hI1 := hI.le1 hv64 (by omega) hp1
      have nxt : ∀ s2 x3 x4, rf_ok s2 o A (om_le1 M' only v) → rf_fr o A s0 s2 → fx_W 98 115 [some (vR 22 (some o)), some (vI (oI only)), some (vI (nI v)), x3, x4] [] s2 Q := by
        intro s2 x3 x4 hR hF
        first | refine xx_inc ee98_115 rfl ?_ | refine xx_j ee98_115 rfl trivial ?_
        refine xx_j ee98_118 rfl trivial ?_
        exact ih (v + 1) (om_le1 M' only v) s2 _ _ (by omega) (by rw [om_le1_all]; exact hA') hI1 hp2 hR hF k
      refine xx_j ee98_7 rfl trivial ?_
      refine xx_j ee98_8 rfl trivial ?_
      refine rr_fi hR ee98_9 rfl rfl rfl ?_
      refine xx_t e1 ?_
      refine xx_ge ee98_12 (by omega) (by omega) (fun h => by omega) (fun h => ?_)
      refine xx_j ee98_15 rfl trivial ?_
      refine xx_j ee98_16 rfl trivial ?_
      refine xx_c ee98_17 rfl (q_candidate hR hI hv64 ?_)
      refine xx_j ee98_20 rfl trivial ?_
      refine xx_j ee98_21 rfl trivial ?_
      refine xx_j ee98_22 rfl trivial ?_
      refine xx_c ee98_23 rfl (q_flitsAt hR hI hv64 ?_)
      refine xx_j ee98_26 rfl trivial ?_
      refine xx_j ee98_27 rfl trivial ?_
      refine xx_c ee98_28 rfl (q_openWays hR hI hv64 ?_)
      have hcb : ∀ b, scand M' v = some b → b < 2 ^ 31 := by
        intro b hb
        rcases scand_cases hI hv64 hb with ⟨q, -⟩ | ⟨q, -, q2⟩ | ⟨q, -⟩ <;> omega
      -- behind the choice of 'may'
      have h49 : ∀ (may : Bool) x4, may = smay M' only v → fx_W 98 49 [some (vR 22 (some o)), some (vI (oI only)), some (vI (nI v)), some (vI (oI (scand M' v))), x4] [vI (fx_bit may)] s' Q := by
        intro may x4 hm
        have e2 := hI.e ff_Mod_hungry v (n := 64) rfl hv64 (by decide)
        -- behind the store
        have h79 : ∀ s2, rf_ok s2 o A (om_hun M' only v) → rf_fr o A s0 s2 → fx_W 98 79 [some (vR 22 (some o)), some (vI (oI only)), some (vI (nI v)), some (vI (oI (scand M' v))), some (vI (fx_bit may))] [] s2 Q := by
          intro s2 hR hF
          refine xx_j ee98_79 rfl trivial ?_
          refine xx_km ee98_80 rfl ?_
          refine xx_oeq ee98_81 hcb (fun hc => ?_) (fun w hc => ?_)
          · refine nxt _ _ _ ?_ hF
            unfold om_le1
            rw [hc]
            exact hR
          refine xx_j ee98_84 rfl trivial ?_
          refine xx_nz ee98_86 (fun hmy => ?_) (fun hmy => ?_)
          · have hsm : smay M' only v = true := hm ▸ hmy
            obtain ⟨p1, p2, p3⟩ := hp1.2 (by rw [hc]; rfl) hsm
            obtain ⟨l, hl⟩ := Option.isSome_iff_exists.mp p1
            refine xx_j ee98_92 rfl trivial ?_
            refine xx_j ee98_93 rfl trivial ?_
            refine xx_j ee98_94 rfl trivial ?_
            rw [hc]
            refine xx_c ee98_95 rfl (q_enter hR hI hp1.1 hv64 hc hl p2 p3 (fun s3 hR hF2 => ?_))
            have hF := hF.tr hF2
            clear hF2
            have hle : om_le1 M' only v = if only = some v then fx_up (om_enter (om_hun M' only v) v w l) ff_Mod_turn 0 (nI ((v + 1) % rn M' ff_Mod_all 0)) else om_enter (om_hun M' only v) v w l := by
              unfold om_le1
              rw [hc, hsm, hl]
              rfl
            refine xx_j ee98_98 rfl trivial ?_
            refine xx_j ee98_99 rfl trivial ?_
            refine xx_b ee98_100 rfl (fun hne => ?_) (fun heq => ?_)
            · have hne' : ¬ only = some v := fun q => hne (by rw [q]; rfl)
              rw [← hc]
              refine nxt _ _ _ ?_ hF
              rw [hle, if_neg hne']
              exact hR
            · have heq' : only = some v := (oI_inj hfv (fun k hk => by cases hk; omega)).mp (Classical.byContradiction heq)
              have e5 : om_enter (om_hun M' only v) v w l ff_Mod_all 0 = nI (rn M' ff_Mod_all 0) := by
                have := hle ▸ (om_le1_all (M := M') (only := only) (v := v))
                rw [if_pos heq'] at this
                have e6 := (hI1.f ff_Mod_all rfl (by decide))
                rw [hle, if_pos heq'] at e6
                exact (fx_up_ne (fun q => absurd q.1 (by decide))).symm.trans (e6.trans (by rw [this]))
              refine xx_j ee98_103 rfl trivial ?_
              refine xx_j ee98_104 rfl trivial ?_
              refine xx_k ee98_105 1 rfl ?_
              first | refine xx_add ee98_106 ?_ | refine xx_j ee98_106 rfl trivial ?_
              refine xx_j ee98_107 rfl trivial ?_
              refine rr_fi hR ee98_108 rfl rfl rfl ?_
              refine xx_t e5 ?_
              refine xx_rem ee98_111 (by omega) (by omega) (by omega) ?_
              refine rr_pf hR hF ee98_112 rfl rfl (fun s hR hF => ?_)
              rw [← hc]
              refine nxt _ _ _ ?_ hF
              rw [hle, if_pos heq']
              exact hR
          · refine xx_j ee98_89 rfl trivial ?_
            refine nxt _ _ _ ?_ hF
            unfold om_le1
            rw [← hm, hmy, Bool.and_false]
            exact hR
        refine xx_j ee98_49 rfl trivial ?_
        refine xx_j ee98_51 rfl trivial ?_
        refine rr_fa hR ee98_52 (by decide) rfl rfl ?_
        refine xx_j ee98_55 rfl trivial ?_
        refine xx_j ee98_56 rfl trivial ?_
        refine xx_km ee98_57 rfl ?_
        refine xx_oeq ee98_58 hcb (fun hc => ?_) (fun w hc => ?_)
        · refine xx_k ee98_77 0 rfl ?_
          refine rr_as 64 hR hF ee98_78 rfl (by omega) (fun s hR hF => ?_)
          refine h79 _ ?_ hF
          unfold om_hun
          rw [hc]
          exact hR
        refine xx_j ee98_61 rfl trivial ?_
        refine xx_nz ee98_63 (fun hmy => ?_) (fun hmy => ?_)
        · refine xx_k ee98_77 0 rfl ?_
          refine rr_as 64 hR hF ee98_78 rfl (by omega) (fun s hR hF => ?_)
          refine h79 _ ?_ hF
          unfold om_hun
          rw [← hm, hmy, Bool.not_true, Bool.and_false]
          exact hR
        · refine xx_j ee98_66 rfl trivial ?_
          refine rr_fa hR ee98_67 (by decide) rfl rfl ?_
          refine xx_j ee98_70 rfl trivial ?_
          refine rr_al 64 hR ee98_71 rfl (by omega) ?_
          refine xx_t e2 ?_
          refine xx_k ee98_72 1 rfl ?_
          first | refine xx_add ee98_73 ?_ | refine xx_j ee98_73 rfl trivial ?_
          refine xx_j ee98_74 rfl trivial ?_
          refine rr_as 64 hR hF ee98_78 rfl (by omega) (fun s hR hF => ?_)
          refine h79 _ ?_ hF
          unfold om_hun
          rw [← hm, hmy, hc]
          exact hR
      have r1 := sp_cnt_le (fun f => rn M' ff_Mod_at f == v) (rn M' ff_Mod_flits 0)
      have r2 := hI.l ff_Mod_flits 0 257 (n := 1) rfl (by omega) rfl (by omega)
      have r3 : fx_ow (rz M' ff_Mod_closed) v 4 < 5 := fx_ow4 _ _
      refine xx_ge ee98_31 (by omega) (by omega) (fun hge => ?_) (fun hlt => ?_)
      · refine xx_k ee98_48 0 rfl ?_
        refine xx_t fx_bit_f (h49 false _ ?_)
        have : ¬ sfa M' v < fx_ow (rz M' ff_Mod_closed) v 4 := by unfold sfa; omega
        simp [smay, this]
      have hlt' : sfa M' v < fx_ow (rz M' ff_Mod_closed) v 4 := hlt
      refine xx_j ee98_34 rfl trivial ?_
      refine xx_km ee98_35 rfl ?_
      refine xx_oeq ee98_36 hfv (fun ho => ?_) (fun b ho => ?_)
      · refine xx_k ee98_44 1 rfl ?_
        refine xx_j ee98_45 rfl trivial ?_
        refine xx_t fx_bit_t (h49 true _ ?_)
        simp [smay, hlt', ho]
      refine xx_j ee98_39 rfl trivial ?_
      refine xx_j ee98_40 rfl trivial ?_
      refine xx_b ee98_41 rfl (fun hne => ?_) (fun heq => ?_)
      · have hne' : ¬ only = some v := fun q => hne (by rw [q]; rfl)
        refine xx_k ee98_48 0 rfl ?_
        refine xx_t fx_bit_f (h49 false _ ?_)
        have q1 : (only == none) = false := by rw [ho]; rfl
        have q2 : (only == some v) = false := by simpa using hne'
        simp [smay, q1, q2]
      · have heq' : only = some v := (oI_inj hfv (fun k hk => by cases hk; omega)).mp (Classical.byContradiction heq)
        refine xx_k ee98_44 1 rfl ?_
        refine xx_j ee98_45 rfl trivial ?_
        refine xx_t fx_bit_t (h49 true _ ?_)
        simp [smay, hlt', heq']
  exact key (rn M ff_Mod_all 0) 0 M s0 _ _ (by omega) rfl hI hp hR hF k
end
