/-! THE REFERENCE: notes are told; put -/
section
variable {s : fx_S} {Q : fx_Q} {o : Nat} {A : Nat → Nat} {M : rf_M}
/-- a packet is to go again -/
def om_again (M : rf_M) (p : Nat) : rf_M :=
  fx_up (fx_up (fx_up (fx_up M ff_Mod_slotTry p (nI (rn M ff_Mod_slotTry p + 1))) ff_Mod_entered p (nI 0)) ff_Mod_again (8 * (p / 8) + rn M ff_Mod_agains (p / 8)) (nI p)) ff_Mod_agains (p / 8) (nI (rn M ff_Mod_agains (p / 8) + 1))
/-- a note is kept -/
def om_keep (M : rf_M) (k left : Nat) : rf_M :=
  fx_up (fx_up (fx_up M ff_Mod_noteSlot left (nI (rn M ff_Mod_noteSlot k))) ff_Mod_noteDone left (fx_bit (rz M ff_Mod_noteDone k))) ff_Mod_noteDue left (nI (rn M ff_Mod_noteDue k))
def om_tell : Nat → Nat → Nat → rf_M → rf_M
  | 0, _, left, M => fx_up M ff_Mod_notes 0 (nI left)
  | d + 1, k, left, M => bif decide (rn M ff_Mod_cycle 0 < rn M ff_Mod_noteDue k) then om_tell d (k + 1) (left + 1) (om_keep M k left) else bif rz M ff_Mod_noteDone k then om_tell d (k + 1) left (fx_up M ff_Mod_lengths (rn M ff_Mod_noteSlot k) (nI 0)) else om_tell d (k + 1) left (om_again M (rn M ff_Mod_noteSlot k))
/-- room in the rows AGAIN -/
def pk_tell : Nat → Nat → Nat → rf_M → Prop
  | 0, _, _, _ => True
  | d + 1, k, left, M => bif decide (rn M ff_Mod_cycle 0 < rn M ff_Mod_noteDue k) then pk_tell d (k + 1) (left + 1) (om_keep M k left) else bif rz M ff_Mod_noteDone k then pk_tell d (k + 1) left (fx_up M ff_Mod_lengths (rn M ff_Mod_noteSlot k) (nI 0)) else rn M ff_Mod_agains (rn M ff_Mod_noteSlot k / 8) < 8 ∧ rn M ff_Mod_slotTry (rn M ff_Mod_noteSlot k) < 900 ∧ pk_tell d (k + 1) left (om_again M (rn M ff_Mod_noteSlot k))
theorem RI.keep {k left : Nat} (hI : RI M) (hk : k < 1100) : RI (om_keep M k left) :=
  ((hI.up (b := 512) rfl (hI.l ff_Mod_noteSlot k 512 (n := 1100) rfl hk rfl (by omega)) (by decide) (by decide)).upz rfl (by decide) (by decide)).up (b := 2000000) rfl (hI.l ff_Mod_noteDue k 2000000 (n := 1100) rfl hk rfl (by omega)) (by decide) (by decide)
theorem RI.again {p : Nat} (hI : RI M) (hp : p < 512) (h1 : rn M ff_Mod_agains (p / 8) < 8) (h2 : rn M ff_Mod_slotTry p < 900) : RI (om_again M p) :=
  (((hI.up (b := 1000) rfl (by omega) (by decide) (by decide)).up (b := 9) rfl (by omega) (by decide) (by decide)).up (b := 512) rfl hp (by decide) (by decide)).up (b := 9) rfl (by omega) (by decide) (by decide)
theorem q_tellNotes (hR : rf_ok s o A M) (hI : RI M) (hp : pk_tell (rn M ff_Mod_notes 0) 0 0 M) (k : ∀ s', rf_ok s' o A (om_tell (rn M ff_Mod_notes 0) 0 0 M) → rf_fr o A s s' → Q none s') : fx_M mm_Mod_tellNotes [vR 22 (some o)] s Q := by
  have hF := rf_fr.rf o A s
  refine xx_i ml43 ?_
  refine xx_k ee43_0 0 rfl ?_
  refine xx_j ee43_1 rfl trivial ?_
  refine xx_k ee43_2 0 rfl ?_
  refine xx_j ee43_3 rfl trivial ?_
  have key : ∀ d j left (M' : rf_M) s', j + d = rn M ff_Mod_notes 0 → left ≤ j → rn M' ff_Mod_notes 0 = rn M ff_Mod_notes 0 → RI M' → pk_tell d j left M' → rf_ok s' o A M' → rf_fr o A s s' → (∀ s2, rf_ok s2 o A (om_tell d j left M') → rf_fr o A s s2 → Q none s2) → ∀ x3 x4, fx_W 43 4 [some (vR 22 (some o)), some (vI (nI left)), some (vI (nI j)), x3, x4] [] s' Q := by
    intro d
    induction d with
    | zero =>
      intro j left M' s' hj hlj hn hI hp hR hF k x3 x4
      have h1 := hI.l ff_Mod_notes 0 1001 (n := 1) rfl (by omega) rfl (by omega)
      have e1 := hI.f ff_Mod_notes rfl (by decide)
      refine xx_j ee43_4 rfl trivial ?_
      refine xx_j ee43_5 rfl trivial ?_
      refine rr_fi hR ee43_6 rfl rfl rfl ?_
      refine xx_t e1 ?_
      refine xx_ge ee43_9 (by omega) (by omega) (fun h => ?_) (fun h => by omega)
      refine xx_j ee43_147 rfl trivial ?_
      refine xx_j ee43_148 rfl trivial ?_
      refine rr_pf hR hF ee43_149 rfl rfl (fun s hR hF => ?_)
      exact xx_r ee43_152 rfl trivial (k _ hR hF)
    | succ d ih =>
      intro j left M' s' hj hlj hn hI hp hR hF k x3 x4
      have h1 := hI.l ff_Mod_notes 0 1001 (n := 1) rfl (by omega) rfl (by omega)
      have e1 := hI.f ff_Mod_notes rfl (by decide)
      have e2 := hI.f ff_Mod_cycle rfl (by decide)
      have h2 := hI.l ff_Mod_cycle 0 1000000 (n := 1) rfl (by omega) rfl (by omega)
      have h3 := hI.l ff_Mod_noteDue j 2000000 (n := 1100) rfl (by omega) rfl (by omega)
      have e3 := hI.e ff_Mod_noteDue j (n := 1100) rfl (by omega) (by decide)
      have h4 := hI.l ff_Mod_noteSlot j 512 (n := 1100) rfl (by omega) rfl (by omega)
      have e4 := hI.e ff_Mod_noteSlot j (n := 1100) rfl (by omega) (by decide)
      have e5 := hI.z ff_Mod_noteDone j (n := 1100) rfl (by omega) rfl
      refine xx_j ee43_4 rfl trivial ?_
      refine xx_j ee43_5 rfl trivial ?_
      refine rr_fi hR ee43_6 rfl rfl rfl ?_
      refine xx_t e1 ?_
      refine xx_ge ee43_9 (by omega) (by omega) (fun h => by omega) (fun h => ?_)
      refine xx_j ee43_12 rfl trivial ?_
      refine rr_fa hR ee43_13 (by decide) rfl rfl ?_
      refine xx_j ee43_16 rfl trivial ?_
      refine rr_al 1100 hR ee43_17 rfl (by omega) ?_
      refine xx_t e4 ?_
      refine xx_j ee43_18 rfl trivial ?_
      refine xx_j ee43_19 rfl trivial ?_
      refine rr_fa hR ee43_20 (by decide) rfl rfl ?_
      refine xx_j ee43_23 rfl trivial ?_
      refine rr_al 1100 hR ee43_24 rfl (by omega) ?_
      refine xx_t e3 ?_
      refine xx_j ee43_25 rfl trivial ?_
      refine rr_fi hR ee43_26 rfl rfl rfl ?_
      refine xx_t e2 ?_
      refine xx_le ee43_29 (by omega) (by omega) (fun hle => ?_) (fun hlt => ?_)
      · have hd0 : decide (rn M' ff_Mod_cycle 0 < rn M' ff_Mod_noteDue j) = false := by simp; omega
        simp only [pk_tell, hd0, cond_false] at hp
        simp only [om_tell, hd0, cond_false] at k
        refine xx_j ee43_69 rfl trivial ?_
        refine rr_fa hR ee43_70 (by decide) rfl rfl ?_
        refine xx_j ee43_73 rfl trivial ?_
        refine rr_zl 1100 hR ee43_74 rfl (by omega) ?_
        refine xx_t e5 ?_
        refine xx_z ee43_75 (fun hz => ?_) (fun hz => ?_)
        · simp only [hz, cond_false] at hp k
          obtain ⟨p1, p2, p3⟩ := hp
          have e6 := hI.e ff_Mod_slotTry (rn M' ff_Mod_noteSlot j) (n := 512) rfl (by omega) (by decide)
          have e7 := hI.e ff_Mod_agains (rn M' ff_Mod_noteSlot j / 8) (n := 64) rfl (by omega) (by decide)
          refine xx_j ee43_88 rfl trivial ?_
          refine rr_fa hR ee43_89 (by decide) rfl rfl ?_
          refine xx_j ee43_92 rfl trivial ?_
          refine xx_j ee43_93 rfl trivial ?_
          refine rr_al 512 hR ee43_94 rfl (by omega) ?_
          refine xx_t e6 ?_
          refine xx_k ee43_95 1 rfl ?_
          first | refine xx_add ee43_96 ?_ | refine xx_j ee43_96 rfl trivial ?_
          refine rr_as 512 hR hF ee43_97 rfl (by omega) (fun s hR hF => ?_)
          refine xx_j ee43_98 rfl trivial ?_
          refine rr_fa hR ee43_99 (by decide) rfl rfl ?_
          refine xx_j ee43_102 rfl trivial ?_
          refine xx_k ee43_103 0 rfl ?_
          refine rr_as 512 hR hF ee43_104 rfl (by omega) (fun s hR hF => ?_)
          refine xx_j ee43_105 rfl trivial ?_
          refine xx_kb ee43_106 8 rfl ?_
          refine xx_div ee43_108 (by omega) (by omega) (by omega) ?_
          refine xx_j ee43_109 rfl trivial ?_
          refine xx_j ee43_111 rfl trivial ?_
          refine rr_fa hR ee43_112 (by decide) rfl rfl ?_
          refine xx_kb ee43_115 8 rfl ?_
          refine xx_j ee43_117 rfl trivial ?_
          first | refine xx_mul ee43_119 ?_ | refine xx_j ee43_119 rfl trivial ?_
          refine xx_j ee43_120 rfl trivial ?_
          refine rr_fa hR ee43_121 (by decide) rfl rfl ?_
          refine xx_j ee43_124 rfl trivial ?_
          refine rr_al 64 hR ee43_126 rfl (by omega) ?_
          refine xx_t e7 ?_
          first | refine xx_add ee43_127 ?_ | refine xx_j ee43_127 rfl trivial ?_
          refine xx_j ee43_128 rfl trivial ?_
          refine rr_as 512 hR hF ee43_129 rfl (by omega) (fun s hR hF => ?_)
          refine xx_j ee43_130 rfl trivial ?_
          refine rr_fa hR ee43_131 (by decide) rfl rfl ?_
          refine xx_j ee43_134 rfl trivial ?_
          refine xx_j ee43_136 rfl trivial ?_
          refine rr_al 64 hR ee43_137 rfl (by omega) ?_
          refine xx_t e7 ?_
          refine xx_k ee43_138 1 rfl ?_
          first | refine xx_add ee43_139 ?_ | refine xx_j ee43_139 rfl trivial ?_
          refine rr_as 64 hR hF ee43_140 rfl (by omega) (fun s hR hF => ?_)
          first | refine xx_inc ee43_141 rfl ?_ | refine xx_j ee43_141 rfl trivial ?_
          refine xx_j ee43_144 rfl trivial ?_
          exact ih (j + 1) left (om_again M' (rn M' ff_Mod_noteSlot j)) _ (by omega) (by omega) hn (hI.again h4 p1 p2) p3 hR hF k _ _
        · simp only [hz, cond_true] at hp k
          refine xx_j ee43_78 rfl trivial ?_
          refine rr_fa hR ee43_79 (by decide) rfl rfl ?_
          refine xx_j ee43_82 rfl trivial ?_
          refine xx_k ee43_83 0 rfl ?_
          refine rr_as 512 hR hF ee43_84 rfl (by omega) (fun s hR hF => ?_)
          refine xx_j ee43_85 rfl trivial ?_
          first | refine xx_inc ee43_141 rfl ?_ | refine xx_j ee43_141 rfl trivial ?_
          refine xx_j ee43_144 rfl trivial ?_
          exact ih (j + 1) left (fx_up M' ff_Mod_lengths (rn M' ff_Mod_noteSlot j) (nI 0)) _ (by omega) (by omega) hn (hI.up (b := 9) rfl (by omega) (by decide) (by decide)) hp hR hF k _ _
      · have hd0 : decide (rn M' ff_Mod_cycle 0 < rn M' ff_Mod_noteDue j) = true := by simp; omega
        simp only [pk_tell, hd0, cond_true] at hp
        simp only [om_tell, hd0, cond_true] at k
        refine xx_j ee43_32 rfl trivial ?_
        refine rr_fa hR ee43_33 (by decide) rfl rfl ?_
        refine xx_j ee43_36 rfl trivial ?_
        refine xx_j ee43_37 rfl trivial ?_
        refine rr_as 1100 hR hF ee43_38 rfl (by omega) (fun s hR hF => ?_)
        refine xx_j ee43_39 rfl trivial ?_
        refine rr_fa hR ee43_40 (by decide) rfl rfl ?_
        refine xx_j ee43_43 rfl trivial ?_
        refine xx_j ee43_44 rfl trivial ?_
        refine rr_fa hR ee43_45 (by decide) rfl rfl ?_
        refine xx_j ee43_48 rfl trivial ?_
        refine rr_zl 1100 hR ee43_49 rfl (by omega) ?_
        refine xx_t e5 ?_
        refine rr_zs 1100 hR hF ee43_50 rfl (by omega) (fun s hR hF => ?_)
        refine xx_j ee43_51 rfl trivial ?_
        refine rr_fa hR ee43_52 (by decide) rfl rfl ?_
        refine xx_j ee43_55 rfl trivial ?_
        refine xx_j ee43_56 rfl trivial ?_
        refine rr_fa hR ee43_57 (by decide) rfl rfl ?_
        refine xx_j ee43_60 rfl trivial ?_
        refine rr_al 1100 hR ee43_61 rfl (by omega) ?_
        refine xx_t e3 ?_
        refine rr_as 1100 hR hF ee43_62 rfl (by omega) (fun s hR hF => ?_)
        first | refine xx_inc ee43_63 rfl ?_ | refine xx_j ee43_63 rfl trivial ?_
        refine xx_j ee43_66 rfl trivial ?_
        first | refine xx_inc ee43_141 rfl ?_ | refine xx_j ee43_141 rfl trivial ?_
        refine xx_j ee43_144 rfl trivial ?_
        exact ih (j + 1) (left + 1) (om_keep M' j left) _ (by omega) (by omega) hn (hI.keep (by omega)) hp hR hF k _ _
  exact key (rn M ff_Mod_notes 0) 0 0 M s (by omega) (by omega) rfl hI hp hR hF k _ _
/-- put is refused -/
def sput (M : rf_M) (v g l : Int32) : Bool := fx_isN (rn M ff_Mod_all 0) v && fx_isN (rn M ff_Mod_all 0) g && !(v == g) && (decide (1 ≤ l) && decide (l ≤ 8)) && !(rn M ff_Mod_waits v.toNatClampNeg == 4)
def om_put (M : rf_M) (v : Nat) (g l t : Int32) : rf_M :=
  fx_up (fx_up (fx_up (fx_up M ff_Mod_waitGoal (4 * v + rn M ff_Mod_waits v) g) ff_Mod_waitLength (4 * v + rn M ff_Mod_waits v) l) ff_Mod_waitTag (4 * v + rn M ff_Mod_waits v) t) ff_Mod_waits v (nI (rn M ff_Mod_waits v + 1))
theorem fx_isN_nI {N : Nat} {v : Int32} (hN : N ≤ 64) (h : fx_isN N v = true) : ∃ k, v = nI k ∧ k < N := by
  simp only [fx_isN, Bool.and_eq_true, decide_eq_true_eq] at h
  obtain ⟨j, hj, e⟩ := vp_in_of (x := v) (n := N) (vp_in_iff.mpr h) (by omega)
  exact ⟨j, e, hj⟩
/-- every call of the reference's first sets this field to 0 -/
def om_t0 (M : rf_M) : rf_M := fx_up M ff_Mod_thrown 0 (nI 0)
theorem q_put {v g l t : Int32} (hR : rf_ok s o A M) (hI : RI M) (h1 : sput M v g l = false → ∀ s', rf_ok s' o A (om_t0 M) → rf_fr o A s s' → Q (some (vI (fx_bit false))) s') (h2 : sput M v g l = true → ∀ s', rf_ok s' o A (om_put (om_t0 M) v.toNatClampNeg g l t) → rf_fr o A s s' → Q (some (vI (fx_bit true))) s') : fx_M mm_Mod_put [vR 22 (some o), vI v, vI g, vI l, vI t] s Q := by
  have hF := rf_fr.rf o A s
  have hA := hI.l ff_Mod_all 0 65 (n := 1) rfl (by omega) rfl (by omega)
  have hI1 : RI (om_t0 M) := hI.raw rfl (by decide) (by decide)
  refine xx_i ml79 ?_
  refine xx_j ee79_0 rfl trivial ?_
  refine xx_k ee79_1 0 rfl ?_
  refine rr_pf hR hF ee79_2 rfl rfl (fun s hR hF => ?_)
  have no : sput M v g l = false → fx_W 79 46 [some (vR 22 (some o)), some (vI v), some (vI g), some (vI l), some (vI t)] [] s Q := by
    intro h
    refine xx_k ee79_46 0 rfl ?_
    exact xx_t fx_bit_f (xx_rz ee79_47 (h1 h _ hR hF))
  refine xx_j ee79_5 rfl trivial ?_
  refine xx_j ee79_6 rfl trivial ?_
  refine xx_c ee79_7 rfl (q_isNode hR hI1 ?_)
  refine xx_z ee79_10 (fun h => no (by simp [sput, show fx_isN (rn M ff_Mod_all 0) v = false from h])) (fun hv => ?_)
  refine xx_j ee79_13 rfl trivial ?_
  refine xx_j ee79_14 rfl trivial ?_
  refine xx_c ee79_15 rfl (q_isNode hR hI1 ?_)
  refine xx_z ee79_18 (fun h => no (by simp [sput, show fx_isN (rn M ff_Mod_all 0) g = false from h])) (fun hg => ?_)
  refine xx_j ee79_21 rfl trivial ?_
  refine xx_j ee79_22 rfl trivial ?_
  refine xx_b ee79_23 rfl (fun h => no (by simp [sput, show v = g from h])) (fun hne => ?_)
  refine xx_j ee79_26 rfl trivial ?_
  refine xx_k ee79_27 1 rfl ?_
  refine xx_kb ee79_28 8 rfl ?_
  refine xx_c ee79_30 rfl (c_within l (nI 1) (nI 8) ?_)
  refine xx_z ee79_33 (fun h => no (by
    have : (decide ((1 : Int32) ≤ l) && decide (l ≤ 8)) = false := h
    simp only [sput, this, Bool.and_false, Bool.false_and])) (fun hl => ?_)
  have hv' : fx_isN (rn M ff_Mod_all 0) v = true := hv
  have hg' : fx_isN (rn M ff_Mod_all 0) g = true := hg
  have hl' : (decide ((1 : Int32) ≤ l) && decide (l ≤ 8)) = true := hl
  have hne' : ¬ v = g := hne
  obtain ⟨a, ea, ha⟩ := fx_isN_nI (by omega) hv'
  subst ea
  have hc : (nI a).toNatClampNeg = a := nI_clamp (by omega)
  have w1 := hI1.l ff_Mod_waits a 5 (n := 64) rfl (by omega) rfl (by omega)
  have ew := hI1.e ff_Mod_waits a (n := 64) rfl (by omega) (by decide)
  refine xx_j ee79_36 rfl trivial ?_
  refine rr_fa hR ee79_37 (by decide) rfl rfl ?_
  refine xx_j ee79_40 rfl trivial ?_
  refine rr_al 64 hR ee79_41 rfl (by omega) ?_
  refine xx_t ew ?_
  refine xx_k ee79_42 4 rfl ?_
  refine xx_ne ee79_43 (by omega) (by omega) (fun h4 => ?_) (fun h4 => no (by
    have : rn M ff_Mod_waits a = 4 := h4
    simp [sput, hc, this]))
  have h4' : rn M ff_Mod_waits a ≠ 4 := h4
  rw [hc] at h2
  have ok : sput M (nI a) g l = true := by
    simp only [sput, hv', hg', hl', hc, Bool.true_and, Bool.and_eq_true, Bool.not_eq_true', beq_eq_false_iff_ne]
    exact ⟨⟨hne', trivial⟩, h4'⟩
  have w2 : rn (om_t0 M) ff_Mod_waits a < 4 := by
    have : rn (om_t0 M) ff_Mod_waits a ≠ 4 := h4'
    omega
  refine xx_j ee79_48 rfl trivial ?_
  refine rr_fa hR ee79_49 (by decide) rfl rfl ?_
  refine xx_k ee79_52 4 rfl ?_
  refine xx_j ee79_53 rfl trivial ?_
  first | refine xx_mul ee79_54 ?_ | refine xx_j ee79_54 rfl trivial ?_
  refine xx_j ee79_55 rfl trivial ?_
  refine rr_fa hR ee79_56 (by decide) rfl rfl ?_
  refine xx_j ee79_59 rfl trivial ?_
  refine rr_al 64 hR ee79_60 rfl (by omega) ?_
  refine xx_t ew ?_
  first | refine xx_add ee79_61 ?_ | refine xx_j ee79_61 rfl trivial ?_
  refine xx_j ee79_62 rfl trivial ?_
  refine rr_as 256 hR hF ee79_63 rfl (by omega) (fun s hR hF => ?_)
  refine xx_j ee79_64 rfl trivial ?_
  refine rr_fa hR ee79_65 (by decide) rfl rfl ?_
  refine xx_k ee79_68 4 rfl ?_
  refine xx_j ee79_69 rfl trivial ?_
  first | refine xx_mul ee79_70 ?_ | refine xx_j ee79_70 rfl trivial ?_
  refine xx_j ee79_71 rfl trivial ?_
  refine rr_fa hR ee79_72 (by decide) rfl rfl ?_
  refine xx_j ee79_75 rfl trivial ?_
  refine rr_al 64 hR ee79_76 rfl (by omega) ?_
  refine xx_t ew ?_
  first | refine xx_add ee79_77 ?_ | refine xx_j ee79_77 rfl trivial ?_
  refine xx_j ee79_78 rfl trivial ?_
  refine rr_as 256 hR hF ee79_79 rfl (by omega) (fun s hR hF => ?_)
  refine xx_j ee79_80 rfl trivial ?_
  refine rr_fa hR ee79_81 (by decide) rfl rfl ?_
  refine xx_k ee79_84 4 rfl ?_
  refine xx_j ee79_85 rfl trivial ?_
  first | refine xx_mul ee79_86 ?_ | refine xx_j ee79_86 rfl trivial ?_
  refine xx_j ee79_87 rfl trivial ?_
  refine rr_fa hR ee79_88 (by decide) rfl rfl ?_
  refine xx_j ee79_91 rfl trivial ?_
  refine rr_al 64 hR ee79_92 rfl (by omega) ?_
  refine xx_t ew ?_
  first | refine xx_add ee79_93 ?_ | refine xx_j ee79_93 rfl trivial ?_
  refine xx_j ee79_94 rfl trivial ?_
  refine rr_as 256 hR hF ee79_96 rfl (by omega) (fun s hR hF => ?_)
  refine xx_j ee79_97 rfl trivial ?_
  refine rr_fa hR ee79_98 (by decide) rfl rfl ?_
  refine xx_j ee79_101 rfl trivial ?_
  refine xx_j ee79_102 rfl trivial ?_
  refine rr_al 64 hR ee79_103 rfl (by omega) ?_
  refine xx_t ew ?_
  refine xx_k ee79_104 1 rfl ?_
  first | refine xx_add ee79_105 ?_ | refine xx_j ee79_105 rfl trivial ?_
  refine rr_as 64 hR hF ee79_106 rfl (by omega) (fun s hR hF => ?_)
  refine xx_k ee79_107 1 rfl ?_
  exact xx_t fx_bit_t (xx_rz ee79_108 (h2 ok _ hR hF))
end
