/-! THE REFERENCE: links -/
def wb (w : Nat) : Nat := if w % 2 = 0 then w + 1 else w - 1
theorem wb_lt {w : Nat} (h : w < 4) : wb w < 4 := by
  unfold wb
  split <;> omega
theorem fx_wb : ∀ w, w < 4 → nI w ^^^ nI 1 = nI (wb w) := by decide
theorem fx_ow_le (cl : Nat → Bool) (v : Nat) : fx_ow cl v 4 ≤ 4 := by
  have h : ∀ k, fx_ow cl v k ≤ k := by
    intro k
    induction k with
    | zero => exact Nat.le_refl _
    | succ k ih =>
      unfold fx_ow
      cases cl (4 * v + k) <;> simp <;> omega
  exact h 4
section
variable {s : fx_S} {Q : fx_Q} {o : Nat} {A : Nat → Nat} {M : rf_M}
def slink (M : rf_M) (v w : Int32) (p : Bool) : Bool := fx_isN (rn M ff_Mod_all 0) v && (decide (nI 0 ≤ w) && decide (w ≤ nI 3)) && !(rn M ff_Mod_mode 0 == 1) && (rz M ff_Mod_closed (4 * v.toNatClampNeg + w.toNatClampNeg) == p) && sq M (rn M ff_Mod_all 0)
def om_cl (M : rf_M) (a b : Nat) (p : Bool) : rf_M := fx_up (fx_up M ff_Mod_closed (4 * a + b) (fx_bit p)) ff_Mod_closed (4 * nb (rn M ff_Mod_n 0) a b + wb b) (fx_bit p)
def smays (M M2 : rf_M) (j : Bool) (a b : Nat) (p : Bool) : Bool := j && (p || (decide (1 < fx_ow (rz M2 ff_Mod_closed) a 4) && decide (1 < fx_ow (rz M2 ff_Mod_closed) (nb (rn M ff_Mod_n 0) a b) 4)))
theorem RI.cl {a b : Nat} {p : Bool} (hI : RI M) : RI (om_cl M a b p) := (hI.upz rfl (by decide) (by decide)).upz rfl (by decide) (by decide)
theorem q_link {v w : Int32} {p : Bool} {s0 : fx_S} (hR : rf_ok s0 o A M) (hI : RI M) (hN : RN M)
    (k1 : slink M v w p = false → ∀ s', rf_ok s' o A (om_t0 M) → rf_fr o A s0 s' → Q (some (vI (fx_bit false))) s')
    (k2 : ∀ a b, v = nI a → w = nI b → a < rn M ff_Mod_all 0 → b < 4 → slink M v w p = true → ∀ M2 j, MS (om_cl (om_t0 M) a b (!p)) M2 j → smays M M2 j a b p = true → ∀ s', rf_ok s' o A M2 → rf_fr o A s0 s' → Q (some (vI (fx_bit true))) s')
    (k3 : ∀ a b, v = nI a → w = nI b → a < rn M ff_Mod_all 0 → b < 4 → slink M v w p = true → ∀ M2 j, MS (om_cl (om_t0 M) a b (!p)) M2 j → smays M M2 j a b p = false → ∀ M4 j4, MS (om_cl M2 a b p) M4 j4 → ∀ s', rf_ok s' o A M4 → rf_fr o A s0 s' → Q (some (vI (fx_bit false))) s') : fx_M mm_Mod_link [vR 22 (some o), vI v, vI w, vI (fx_bit p)] s0 Q := by
  have hF := rf_fr.rf o A s0
  have hA := hI.l ff_Mod_all 0 65 (n := 1) rfl (by omega) rfl (by omega)
  have hn9 := hI.l ff_Mod_n 0 9 (n := 1) rfl (by omega) rfl (by omega)
  refine xx_i ml99 ?_
  refine xx_j ee99_0 rfl trivial ?_
  refine xx_k ee99_1 0 rfl ?_
  refine rr_pf hR hF ee99_2 rfl rfl (fun s hR hF => ?_)
  refine xx_j ee99_5 rfl trivial ?_
  refine xx_j ee99_6 rfl trivial ?_
  replace hR : rf_ok _ o A (om_t0 M) := hR
  have no : slink M v w p = false → fx_W 99 51 [some (vR 22 (some o)), some (vI v), some (vI w), some (vI (fx_bit p)), none, none, none] [] s Q := by
    intro h
    refine xx_k ee99_51 0 rfl ?_
    exact xx_t fx_bit_f (xx_rz ee99_52 (k1 h _ hR hF))
  refine xx_c ee99_7 rfl (q_isNode hR hI.t0 ?_)
  refine xx_z ee99_10 (fun h => no ?_) (fun hv => ?_)
  · have h' : fx_isN (rn M ff_Mod_all 0) v = false := h
    simp only [slink, h', Bool.false_and]
  have hv' : fx_isN (rn M ff_Mod_all 0) v = true := hv
  refine xx_j ee99_13 rfl trivial ?_
  refine xx_k ee99_14 0 rfl ?_
  refine xx_k ee99_15 3 rfl ?_
  refine xx_c ee99_16 rfl (c_within w (nI 0) (nI 3) ?_)
  refine xx_z ee99_19 (fun h => no ?_) (fun hw => ?_)
  · simp only [slink, h, Bool.and_false, Bool.false_and]
  obtain ⟨a, ea, ha⟩ := fx_isN_nI (by omega) hv'
  obtain ⟨b, eb, _, hb⟩ := fx_within_nI (by omega) (by omega) hw
  subst ea
  subst eb
  have hmd := hI.l ff_Mod_mode 0 2 (n := 1) rfl (by omega) rfl (by omega)
  have emd : om_t0 M ff_Mod_mode 0 = nI (rn M ff_Mod_mode 0) := hI.f ff_Mod_mode rfl (by decide)
  have ec : om_t0 M ff_Mod_closed (4 * a + b) = fx_bit (rz M ff_Mod_closed (4 * a + b)) := hI.z ff_Mod_closed (4 * a + b) (n := 256) rfl (by omega) rfl
  have hca : (nI a).toNatClampNeg = a := nI_clamp (by omega)
  have hcb : (nI b).toNatClampNeg = b := nI_clamp (by omega)
  refine xx_j ee99_22 rfl trivial ?_
  refine rr_fi hR ee99_23 rfl rfl rfl ?_
  refine xx_t emd ?_
  refine xx_k ee99_26 1 rfl ?_
  refine xx_eq ee99_27 (by omega) (by omega) (fun h => no ?_) (fun hmo => ?_)
  · simp [slink, h]
  refine xx_j ee99_30 rfl trivial ?_
  refine rr_fa hR ee99_31 (by decide) rfl rfl ?_
  refine xx_k ee99_34 4 rfl ?_
  refine xx_j ee99_35 rfl trivial ?_
  first | refine xx_mul ee99_36 ?_ | refine xx_j ee99_36 rfl trivial ?_
  refine xx_j ee99_37 rfl trivial ?_
  first | refine xx_add ee99_38 ?_ | refine xx_j ee99_38 rfl trivial ?_
  refine rr_zl 256 hR ee99_39 rfl (by omega) ?_
  refine xx_t ec ?_
  refine xx_j ee99_40 rfl trivial ?_
  refine xx_b ee99_41 rfl (fun h => no ?_) (fun hcl => ?_)
  · have h' : ¬ fx_bit (rz M ff_Mod_closed (4 * a + b)) = fx_bit p := h
    have h2 : (rz M ff_Mod_closed (4 * a + b) == p) = false := by
      rw [beq_eq_false_iff_ne]
      intro q
      exact h' (by rw [q])
    simp only [slink, hca, hcb, h2, Bool.and_false, Bool.false_and]
  have hcl' : rz M ff_Mod_closed (4 * a + b) = p := by
    have : fx_bit (rz M ff_Mod_closed (4 * a + b)) = fx_bit p := Classical.byContradiction hcl
    revert this
    cases rz M ff_Mod_closed (4 * a + b) <;> cases p <;> decide
  refine xx_j ee99_44 rfl trivial ?_
  refine xx_c ee99_45 rfl (q_isQuiet hR hI.t0 ?_)
  have esq : ∀ v, sq (om_t0 M) v = sq M v := by
    intro v
    induction v with
    | zero => rfl
    | succ v ih => simp only [sq, ih]; rfl
  refine xx_nz ee99_48 (fun hq => ?_) (fun h => no (by
    have h' : sq M (rn M ff_Mod_all 0) = false := by rw [← esq]; exact h
    simp only [slink, h', Bool.and_false]))
  have hq' : sq M (rn M ff_Mod_all 0) = true := by rw [← esq]; exact hq
  have hs : slink M (nI a) (nI b) p = true := by
    simp only [slink, hv', hw, hca, hcb, hcl', hq', Bool.and_true, Bool.true_and, beq_self_eq_true, Bool.not_eq_true', beq_eq_false_iff_ne]
    exact hmo
  have hN0 : RN (om_t0 M) := hN
  refine xx_j ee99_53 rfl trivial ?_
  refine xx_j ee99_54 rfl trivial ?_
  refine xx_j ee99_55 rfl trivial ?_
  refine xx_c ee99_56 rfl (q_neighbour hR hI.t0 hN0 (by omega) ha ?_)
  have hnb : nb (rn M ff_Mod_n 0) a b < rn M ff_Mod_all 0 := by
    have h3 := hN.1
    have h4 := hN.2.1
    rw [h4]
    exact nb_lt (by omega) (by omega)
  have hnb64 : nb (rn M ff_Mod_n 0) a b < 64 := by omega
  have hwb := wb_lt (w := b) (by omega)
  refine xx_j ee99_59 rfl trivial ?_
  refine xx_j ee99_61 rfl trivial ?_
  refine xx_k ee99_62 1 rfl ?_
  refine xx_j ee99_63 rfl trivial ?_
  refine xx_t (fx_wb b (by omega)) ?_
  refine xx_j ee99_64 rfl trivial ?_
  refine xx_j ee99_66 rfl trivial ?_
  refine rr_fa hR ee99_67 (by decide) rfl rfl ?_
  refine xx_k ee99_70 4 rfl ?_
  refine xx_j ee99_71 rfl trivial ?_
  first | refine xx_mul ee99_72 ?_ | refine xx_j ee99_72 rfl trivial ?_
  refine xx_j ee99_73 rfl trivial ?_
  first | refine xx_add ee99_74 ?_ | refine xx_j ee99_74 rfl trivial ?_
  refine xx_j ee99_75 rfl trivial ?_
  show fx_W 99 76 [some (vR 22 (some o)), some (vI (nI a)), some (vI (nI b)), some (vI (fx_bit p)), some (vI (nI (nb (rn M ff_Mod_n 0) a b))), some (vI (nI (wb b))), none] _ s Q
  have h84 : ∀ x, x = fx_bit (!p) → fx_W 99 84 [some (vR 22 (some o)), some (vI (nI a)), some (vI (nI b)), some (vI (fx_bit p)), some (vI (nI (nb (rn M ff_Mod_n 0) a b))), some (vI (nI (wb b))), none] [vI x, vI (nI (4 * a + b)), vR 71 (some (A ff_Mod_closed))] s Q := by
    intro x hx
    subst hx
    refine rr_zs 256 hR hF ee99_84 rfl (by omega) (fun s hR hF => ?_)
    refine xx_j ee99_85 rfl trivial ?_
    refine rr_fa hR ee99_86 (by decide) rfl rfl ?_
    refine xx_k ee99_89 4 rfl ?_
    refine xx_j ee99_90 rfl trivial ?_
    first | refine xx_mul ee99_92 ?_ | refine xx_j ee99_92 rfl trivial ?_
    refine xx_j ee99_93 rfl trivial ?_
    first | refine xx_add ee99_95 ?_ | refine xx_j ee99_95 rfl trivial ?_
    refine xx_j ee99_96 rfl trivial ?_
    have h105 : ∀ x s', rf_ok s' o A (fx_up (om_t0 M) ff_Mod_closed (4 * a + b) (fx_bit (!p))) → rf_fr o A s0 s' → x = fx_bit (!p) → fx_W 99 105 [some (vR 22 (some o)), some (vI (nI a)), some (vI (nI b)), some (vI (fx_bit p)), some (vI (nI (nb (rn M ff_Mod_n 0) a b))), some (vI (nI (wb b))), none] [vI x, vI (nI (4 * nb (rn M ff_Mod_n 0) a b + wb b)), vR 71 (some (A ff_Mod_closed))] s' Q := by
      intro x s' hR hF hx
      subst hx
      refine rr_zs 256 hR hF ee99_105 rfl (by omega) (fun s hR hF => ?_)
      refine xx_j ee99_106 rfl trivial ?_
      replace hR : rf_ok _ o A (om_cl (om_t0 M) a b (!p)) := hR
      have hIc : RI (om_cl (om_t0 M) a b (!p)) := hI.t0.cl
      refine xx_c ee99_107 rfl (q_measure hR hIc hN.1 hN.2.1 (fun s2 M2 j hM2 hR hF2 => ?_))
      have hF := hF.tr hF2
      clear hF2
      have hI2 : RI M2 := hM2.2.1
      have fin : ∀ m, m = smays M M2 j a b p → fx_W 99 141 [some (vR 22 (some o)), some (vI (nI a)), some (vI (nI b)), some (vI (fx_bit p)), some (vI (nI (nb (rn M ff_Mod_n 0) a b))), some (vI (nI (wb b))), none] [vI (fx_bit m)] s2 Q := by
        intro m hm
        refine xx_j ee99_141 rfl trivial ?_
        refine xx_j ee99_143 rfl trivial ?_
        refine xx_z ee99_145 (fun h => ?_) (fun h => ?_)
        · refine xx_j ee99_150 rfl trivial ?_
          refine rr_fa hR ee99_151 (by decide) rfl rfl ?_
          refine xx_k ee99_154 4 rfl ?_
          refine xx_j ee99_155 rfl trivial ?_
          first | refine xx_mul ee99_156 ?_ | refine xx_j ee99_156 rfl trivial ?_
          refine xx_j ee99_157 rfl trivial ?_
          first | refine xx_add ee99_158 ?_ | refine xx_j ee99_158 rfl trivial ?_
          refine xx_j ee99_159 rfl trivial ?_
          refine rr_zs 256 hR hF ee99_160 rfl (by omega) (fun s hR hF => ?_)
          refine xx_j ee99_161 rfl trivial ?_
          refine rr_fa hR ee99_162 (by decide) rfl rfl ?_
          refine xx_k ee99_165 4 rfl ?_
          refine xx_j ee99_166 rfl trivial ?_
          first | refine xx_mul ee99_168 ?_ | refine xx_j ee99_168 rfl trivial ?_
          refine xx_j ee99_169 rfl trivial ?_
          first | refine xx_add ee99_171 ?_ | refine xx_j ee99_171 rfl trivial ?_
          refine xx_j ee99_172 rfl trivial ?_
          refine rr_zs 256 hR hF ee99_173 rfl (by omega) (fun s hR hF => ?_)
          refine xx_j ee99_174 rfl trivial ?_
          have e2 : nb (rn M2 ff_Mod_n 0) a b = nb (rn M ff_Mod_n 0) a b := by rw [sx_rn hM2.1 (by decide) (by decide)]; rfl
          replace hR : rf_ok s o A (om_cl M2 a b p) := by unfold om_cl; rw [e2]; exact hR
          have hn2' : rn (om_cl M2 a b p) ff_Mod_n 0 = rn M ff_Mod_n 0 := (sx_rn hM2.1 (by decide) (by decide) : rn M2 ff_Mod_n 0 = _)
          have ha2' : rn (om_cl M2 a b p) ff_Mod_all 0 = rn M ff_Mod_all 0 := (sx_rn hM2.1 (by decide) (by decide) : rn M2 ff_Mod_all 0 = _)
          refine xx_c ee99_175 rfl (q_measure hR hI2.cl (by rw [hn2']; exact hN.1) (by rw [hn2', ha2']; exact hN.2.1) (fun s4 M4 j4 hM4 hR hF2 => ?_))
          have hF := hF.tr hF2
          refine xx_j ee99_178 rfl trivial ?_
          refine xx_k ee99_180 0 rfl ?_
          exact xx_t fx_bit_f (xx_rz ee99_181 (k3 a b rfl rfl ha (by omega) hs M2 j hM2 (by rw [← hm]; exact h) M4 j4 hM4 _ hR hF))
        · refine xx_k ee99_148 1 rfl ?_
          exact xx_t fx_bit_t (xx_rz ee99_149 (k2 a b rfl rfl ha (by omega) hs M2 j hM2 (by rw [← hm]; exact h) _ hR hF))
      have yes : smays M M2 j a b p = true → fx_W 99 136 [some (vR 22 (some o)), some (vI (nI a)), some (vI (nI b)), some (vI (fx_bit p)), some (vI (nI (nb (rn M ff_Mod_n 0) a b))), some (vI (nI (wb b))), none] [] s2 Q := by
        intro h
        refine xx_k ee99_136 1 rfl ?_
        refine xx_t fx_bit_t ?_
        refine xx_j ee99_137 rfl trivial ?_
        exact fin true h.symm
      have nay : smays M M2 j a b p = false → fx_W 99 140 [some (vR 22 (some o)), some (vI (nI a)), some (vI (nI b)), some (vI (fx_bit p)), some (vI (nI (nb (rn M ff_Mod_n 0) a b))), some (vI (nI (wb b))), none] [] s2 Q := by
        intro h
        refine xx_k ee99_140 0 rfl ?_
        exact xx_t fx_bit_f (fin false h.symm)
      have ow1 := fx_ow_le (rz M2 ff_Mod_closed) a
      have ow2 := fx_ow_le (rz M2 ff_Mod_closed) (nb (rn M ff_Mod_n 0) a b)
      refine xx_z ee99_110 (fun h => nay (by simp [smays, h])) (fun hj => ?_)
      refine xx_j ee99_113 rfl trivial ?_
      refine xx_nz ee99_114 (fun hp => yes (by simp [smays, hj, hp])) (fun hp => ?_)
      refine xx_j ee99_117 rfl trivial ?_
      refine xx_j ee99_118 rfl trivial ?_
      refine xx_c ee99_119 rfl (q_openWays hR hI2 (by omega) ?_)
      refine xx_k ee99_122 1 rfl ?_
      refine xx_le ee99_123 (by omega) (by omega) (fun h => nay ?_) (fun h1 => ?_)
      · have : ¬ 1 < fx_ow (rz M2 ff_Mod_closed) a 4 := by omega
        simp [smays, hp, this]
      refine xx_j ee99_126 rfl trivial ?_
      refine xx_j ee99_127 rfl trivial ?_
      refine xx_c ee99_129 rfl (q_openWays hR hI2 hnb64 ?_)
      refine xx_k ee99_132 1 rfl ?_
      refine xx_le ee99_133 (by omega) (by omega) (fun h => nay ?_) (fun h2 => yes ?_)
      · have : ¬ 1 < fx_ow (rz M2 ff_Mod_closed) (nb (rn M ff_Mod_n 0) a b) 4 := by omega
        simp [smays, hp, this]
      · simp [smays, hj, h1, h2]
    refine xx_nz ee99_97 (fun h => ?_) (fun h => ?_)
    · refine xx_k ee99_104 0 rfl ?_
      exact h105 _ _ hR hF (by rw [h]; decide)
    · refine xx_k ee99_100 1 rfl ?_
      refine xx_j ee99_101 rfl trivial ?_
      exact h105 _ _ hR hF (by rw [h]; decide)
  refine xx_nz ee99_76 (fun h => ?_) (fun h => ?_)
  · refine xx_k ee99_83 0 rfl ?_
    exact h84 _ (by rw [h]; decide)
  · refine xx_k ee99_79 1 rfl ?_
    refine xx_j ee99_80 rfl trivial ?_
    exact h84 _ (by rw [h]; decide)
end
