/-! THE CLASS: take, walked -/
section
variable {s t : fx_S} {Q : fx_Q} {x m a : Nat} {B H P : Nat → Nat} {C : Nat → Nat → Option Nat} {Y : Nat → Nat → Nat} {rt : Nat → List Nat} {K : Nat → Prop} {L : List Nat} {M N M6 : rf_M} {lv : Nat → Prop}
theorem k_handOver {b n : Nat} {Z : Nat → Nat} {y : Int32} (h1 : fx_fr s ff_Receiver_ready (b + 5) = some (b + 9)) (h2 : fx_ln s (b + 9) = 4) (h3 : ∀ i, i < 4 → fx_ar s (b + 9) i = some (Z i)) (h4 : fx_fr s ff_Receiver_last (b + 5) = some (Z 4)) (h5 : fx_fi s ff_Receiver_readyCount (b + 5) = nI n) (hn : 0 < n) (h6 : fx_fi s ff_Arrival_tag (Z 0) = y) (k : Q (some (vI y)) (cm_ho s b Z n)) : fx_M mm_Receiver_handOver [vR 18 (some (b + 5))] s Q := by
  have a0 : fx_ar s (b + 9) 0 = some (Z 0) := h3 0 (by omega)
  have a1 : fx_ar s (b + 9) 1 = some (Z 1) := h3 1 (by omega)
  have a2 : fx_ar (fx_sar s (b + 9) 0 (some (Z 1))) (b + 9) 2 = some (Z 2) := by rw [ar_ne (fun q => by omega)]; exact h3 2 (by omega)
  have a3 : fx_ar (fx_sar (fx_sar s (b + 9) 0 (some (Z 1))) (b + 9) 1 (some (Z 2))) (b + 9) 3 = some (Z 3) := by rw [ar_ne (fun q => by omega), ar_ne (fun q => by omega)]; exact h3 3 (by omega)
  refine xx_i ml16 ?_
  refine xx_j ee16_0 rfl trivial ?_
  refine xx_gr ee16_1 h1 rfl rfl ?_
  refine xx_k ee16_4 0 rfl ?_
  refine xx_rl ee16_5 h2 (by omega) (by decide) a0 rfl ?_
  refine xx_j ee16_6 rfl trivial ?_
  refine xx_k ee16_7 1 rfl ?_
  refine xx_j ee16_8 rfl trivial ?_
  refine xx_j ee16_9 rfl trivial ?_
  refine xx_k ee16_10 4 rfl ?_
  refine xx_ge ee16_11 (by omega) (by omega) (fun q => by omega) (fun _ => ?_)
  refine xx_j ee16_14 rfl trivial ?_
  refine xx_gr ee16_15 h1 rfl rfl ?_
  refine xx_j ee16_18 rfl trivial ?_
  refine xx_k ee16_19 1 rfl ?_
  refine xx_sub ee16_20 (by omega) ?_
  refine xx_j ee16_21 rfl trivial ?_
  refine xx_gr ee16_22 h1 rfl rfl ?_
  refine xx_j ee16_25 rfl trivial ?_
  refine xx_rl ee16_26 h2 (by omega) (by decide) a1 rfl ?_
  first | refine xx_rs ee16_27 h2 (by omega) (by decide) rfl (Or.inl rfl) ?_ | refine xx_rs ee16_27 h2 (by omega) (by decide) rfl (Or.inr rfl) ?_
  first | refine xx_inc ee16_28 rfl ?_ | refine xx_j ee16_28 rfl trivial ?_
  refine xx_j ee16_31 rfl trivial ?_
  refine xx_j ee16_9 rfl trivial ?_
  refine xx_k ee16_10 4 rfl ?_
  refine xx_ge ee16_11 (by omega) (by omega) (fun q => by omega) (fun _ => ?_)
  refine xx_j ee16_14 rfl trivial ?_
  refine xx_gr ee16_15 h1 rfl rfl ?_
  refine xx_j ee16_18 rfl trivial ?_
  refine xx_k ee16_19 1 rfl ?_
  refine xx_sub ee16_20 (by omega) ?_
  refine xx_j ee16_21 rfl trivial ?_
  refine xx_gr ee16_22 h1 rfl rfl ?_
  refine xx_j ee16_25 rfl trivial ?_
  refine xx_rl ee16_26 h2 (by omega) (by decide) a2 rfl ?_
  first | refine xx_rs ee16_27 h2 (by omega) (by decide) rfl (Or.inl rfl) ?_ | refine xx_rs ee16_27 h2 (by omega) (by decide) rfl (Or.inr rfl) ?_
  first | refine xx_inc ee16_28 rfl ?_ | refine xx_j ee16_28 rfl trivial ?_
  refine xx_j ee16_31 rfl trivial ?_
  refine xx_j ee16_9 rfl trivial ?_
  refine xx_k ee16_10 4 rfl ?_
  refine xx_ge ee16_11 (by omega) (by omega) (fun q => by omega) (fun _ => ?_)
  refine xx_j ee16_14 rfl trivial ?_
  refine xx_gr ee16_15 h1 rfl rfl ?_
  refine xx_j ee16_18 rfl trivial ?_
  refine xx_k ee16_19 1 rfl ?_
  refine xx_sub ee16_20 (by omega) ?_
  refine xx_j ee16_21 rfl trivial ?_
  refine xx_gr ee16_22 h1 rfl rfl ?_
  refine xx_j ee16_25 rfl trivial ?_
  refine xx_rl ee16_26 h2 (by omega) (by decide) a3 rfl ?_
  first | refine xx_rs ee16_27 h2 (by omega) (by decide) rfl (Or.inl rfl) ?_ | refine xx_rs ee16_27 h2 (by omega) (by decide) rfl (Or.inr rfl) ?_
  first | refine xx_inc ee16_28 rfl ?_ | refine xx_j ee16_28 rfl trivial ?_
  refine xx_j ee16_31 rfl trivial ?_
  refine xx_j ee16_9 rfl trivial ?_
  refine xx_k ee16_10 4 rfl ?_
  refine xx_ge ee16_11 (by omega) (by omega) (fun _ => ?_) (fun q => by omega)
  refine xx_j ee16_34 rfl trivial ?_
  refine xx_gr ee16_35 h1 rfl rfl ?_
  refine xx_k ee16_38 3 rfl ?_
  refine xx_j ee16_39 rfl trivial ?_
  refine xx_gr ee16_40 h4 rfl rfl ?_
  first | refine xx_rs ee16_43 h2 (by omega) (by decide) rfl (Or.inl rfl) ?_ | refine xx_rs ee16_43 h2 (by omega) (by decide) rfl (Or.inr rfl) ?_
  refine xx_j ee16_44 rfl trivial ?_
  refine xx_j ee16_45 rfl trivial ?_
  first | refine xx_pr ee16_46 rfl rfl (Or.inl rfl) ?_ | refine xx_pr ee16_46 rfl rfl (Or.inr rfl) ?_
  refine xx_j ee16_49 rfl trivial ?_
  refine xx_k ee16_50 1 rfl ?_
  refine xx_t fx_bit_t ?_
  refine xx_pz ee16_51 rfl ?_
  have e5 : fx_fi (fx_sfi (fx_sfr (fx_sar (fx_sar (fx_sar (fx_sar s (b + 9) 0 (some (Z 1))) (b + 9) 1 (some (Z 2))) (b + 9) 2 (some (Z 3))) (b + 9) 3 (some (Z 4))) ff_Receiver_last (b + 5) (some (Z 0))) ff_Receiver_hasHandedOver (b + 5) (fx_bit true)) ff_Receiver_readyCount (b + 5) = nI n := by rw [fi_ne (fun q => absurd q.1 (by decide))]; exact h5
  refine xx_j ee16_54 rfl trivial ?_
  refine xx_j ee16_55 rfl trivial ?_
  refine xx_gi ee16_56 e5 rfl rfl ?_
  refine xx_k ee16_59 1 rfl ?_
  refine xx_sub ee16_60 (by omega) ?_
  refine xx_pi ee16_61 rfl ?_
  have e6 : fx_fi (cm_ho s b Z n) ff_Arrival_tag (Z 0) = y := by
    unfold cm_ho
    rw [fi_ne (fun q => absurd q.1 (by decide)), fi_ne (fun q => absurd q.1 (by decide))]; exact h6
  refine xx_j ee16_64 rfl trivial ?_
  refine xx_gi ee16_65 e6 rfl rfl ?_
  exact xx_ri ee16_68 rt16 k
theorem k_lowestFull {v : Nat} (h : RA s x B H C Y P m rt K L M) (hJ : JV M lv) (hv : v < (rn M ff_Mod_all 0)) (k1 : sp_first (pfull M) (4 * v) 4 = none → Q (some (vR 0 none)) s) (k2 : ∀ i, i < 4 → sp_first (pfull M) (4 * v) 4 = some (4 * v + i) → Q (some (vR 16 (some (B v + 10 + i)))) s) : fx_M mm_Receiver_lowestFull [vR 18 (some (B v + 5))] s Q := by
  have h64 := hJ.all64
  have hvm : v < m := Nat.lt_of_lt_of_le hv h.nm
  have nd := h.sk.b v hvm
  have rv := h.v v hvm
  refine xx_i ml63 ?_
  refine xx_k ee63_0 0 rfl ?_
  refine xx_j ee63_1 rfl trivial ?_
  have key : ∀ d j, j + d = 4 → sp_first (pfull M) (4 * v + j) d = sp_first (pfull M) (4 * v) 4 → fx_W 63 2 [some (vR 18 (some (B v + 5))), some (vI (nI j))] [] s Q := by
    intro d
    induction d with
    | zero =>
      intro j hj hs
      refine xx_j ee63_2 rfl trivial ?_
      refine xx_k ee63_3 4 rfl ?_
      refine xx_ge ee63_4 (by omega) (by omega) (fun _ => ?_) (fun q => by omega)
      refine xx_j ee63_32 rfl trivial ?_
      exact xx_ra ee63_33 (k1 hs.symm)
    | succ d ih =>
      intro j hj hs
      have hi : j < 4 := by omega
      have hk256 : 4 * v + j < 256 := by omega
      refine xx_j ee63_2 rfl trivial ?_
      refine xx_k ee63_3 4 rfl ?_
      refine xx_ge ee63_4 (by omega) (by omega) (fun q => by omega) (fun _ => ?_)
      refine xx_j ee63_7 rfl trivial ?_
      refine xx_gr ee63_8 nd.places rfl rfl ?_
      refine xx_j ee63_11 rfl trivial ?_
      refine xx_rl ee63_12 nd.lpl (by omega) (by decide) (nd.pl j hi) rfl ?_
      have fin : ∀ b : Bool, b = pfull M (4 * v + j) → fx_W 63 16 [some (vR 18 (some (B v + 5))), some (vI (nI j))] [vI (fx_bit b)] s Q := by
        intro b hb
        refine xx_z ee63_16 (fun e => ?_) (fun e => ?_)
        · first | refine xx_inc ee63_26 rfl ?_ | refine xx_j ee63_26 rfl trivial ?_
          refine xx_j ee63_29 rfl trivial ?_
          refine ih (j + 1) (by omega) ?_
          rw [← hs]
          conv => rhs; unfold sp_first
          rw [← hb, e, cond_false]
          rfl
        · refine xx_j ee63_19 rfl trivial ?_
          refine xx_gr ee63_20 nd.places rfl rfl ?_
          refine xx_j ee63_23 rfl trivial ?_
          refine xx_rl ee63_24 nd.lpl (by omega) (by decide) (nd.pl j hi) rfl ?_
          refine xx_ra ee63_25 (k2 j hi ?_)
          rw [← hs]
          unfold sp_first
          rw [← hb, e, cond_true]
      cases hp : oz (M ff_Mod_whose (4 * v + j)) with
      | none =>
        have hpk := rv.pk j hi
        rw [hp] at hpk
        refine xx_c ee63_13 rfl (k_isFull (j := 0) (l := 0) hpk (fun a ha => by cases ha) (by omega) (by omega) ?_)
        refine fin _ ?_
        unfold pfull
        rw [hp]
        rfl
      | some p =>
        obtain ⟨w1, w2, hp5⟩ := pW_some hJ.ri hk256 hp
        obtain ⟨p1, p2, p3, p4, p5, p6⟩ := hJ.j8 _ p hk256 hp
        have rp := h.p p hp5 p1
        have hL9 := hJ.ri.gLl hp5
        have eL := hJ.ri.e ff_Mod_lengths p (n := 512) rfl hp5 (by decide)
        have hpk := rv.pk j hi
        rw [hp] at hpk
        have hpj := rv.pj j hi (by rw [hp]; exact fun q => by cases q)
        have hc8 : pcn (rn M ff_Mod_has (4 * v + j)) ≤ 8 := sp_cnt_le _ _
        refine xx_c ee63_13 rfl (k_isFull (j := pcn (rn M ff_Mod_has (4 * v + j))) (l := rn M ff_Mod_lengths p) hpk (fun a ha => ⟨hpj, by cases ha; exact rp.len.trans eL⟩) (by omega) (by omega) ?_)
        refine fin _ ?_
        unfold pfull
        rw [hp]
        show (true && decide (rn M ff_Mod_lengths p ≤ pcn (rn M ff_Mod_has (4 * v + j)))) = (rn M ff_Mod_has (4 * v + j) == 2 ^ rn M ff_Mod_lengths p - 1)
        rw [Bool.true_and, Bool.eq_iff_iff, decide_eq_true_eq, beq_iff_eq]
        exact pcn_full hL9 p4
  exact key 4 0 (by omega) rfl
theorem k_take {v : Int32} (h : RA s x B H C Y P m rt K (List.range ((rn M ff_Mod_notes 0))) M) (hJ : JI M) (hN : JN M) (k1 : st_no M v = 1 → Q (some (vR 901 none)) s) (k2 : st_no M v = 2 → Q (some (vR 902 none)) s) (k3 : ∀ a, v = nI a → a < (rn M ff_Mod_all 0) → 0 < rn M ff_Mod_readySize a → st_no M v = 0 → ∀ t Y' rt', CF x s t → RA t x B H C Y' P m rt' K (List.range ((rn (om_settle (om_take M a) a) ff_Mod_notes 0))) (om_settle (om_take M a) a) → Q (some (vI (M ff_Mod_readyTag (4 * a)))) t) : fx_M mm_Torus_take [vR 10 (some x), vI v] s Q := by
  have h64 := hJ.1.all64
  refine xx_i ml121 ?_
  refine xx_j ee121_0 rfl trivial ?_
  refine xx_gr ee121_1 h.sk.a.grid rfl rfl ?_
  refine xx_j ee121_4 rfl trivial ?_
  refine xx_c ee121_5 rfl (k_hasNode (by omega) h.g.a.1 ?_)
  refine xx_nz ee121_8 (fun hv => ?_) (fun hv => ?_)
  rotate_left
  · refine xx_r ee121_11 rfl trivial (k1 ?_)
    unfold st_no
    rw [hv, cond_false]
  obtain ⟨a, ea, ha⟩ := fx_isN_nI h64 hv
  subst ea
  have ham : a < m := Nat.lt_of_lt_of_le ha h.nm
  have nd := h.sk.b a ham
  have rv := h.v a ham
  have hy5 := hJ.1.ri.yNl (v := a) (by omega)
  have hca : (nI a).toNatClampNeg = a := nI_clamp (by omega)
  have eY : fx_fi s ff_Receiver_readyCount (B a + 5) = nI (rn M ff_Mod_readySize a) := rv.cnt.trans (hJ.1.ri.e ff_Mod_readySize a (n := 64) rfl (by omega) (by decide))
  refine xx_j ee121_21 rfl trivial ?_
  refine xx_gr ee121_22 h.sk.a.nodes rfl rfl ?_
  refine xx_j ee121_25 rfl trivial ?_
  refine xx_rl ee121_26 h.sk.a.lnod (by omega) (by decide) nd.at rfl ?_
  refine xx_gr ee121_27 nd.rcv rfl rfl ?_
  refine xx_j ee121_30 rfl trivial ?_
  refine xx_j ee121_31 rfl trivial ?_
  refine xx_gi ee121_32 eY rfl rfl ?_
  refine xx_kne ee121_35 (by omega) (fun hne => ?_) (fun hz => ?_)
  rotate_left
  · refine xx_r ee121_38 rfl trivial (k2 ?_)
    unfold st_no
    rw [hv, cond_true, hca, hz]
    rfl
  have hy : 0 < rn M ff_Mod_readySize a := by omega
  have hst : st_no M (nI a) = 0 := by
    unfold st_no
    rw [hv, cond_true, hca, beq_eq_false_iff_ne.mpr hne, cond_false]
  have k3 := k3 a rfl ha hy hst
  obtain ⟨i1, i2⟩ := hJ.take ha hy
  have hT := hJ.1.take ha hy
  have hN' : JN (om_take M a) := hN.to (fun i => take_o (by decide)) (fun i => take_o (by decide)) (fun i => take_o (by decide)) (fun i => take_o (by decide)) (fun i => take_o (by decide))
  have nA' : (rn (om_take M a) ff_Mod_all 0) = (rn M ff_Mod_all 0) := rn_eq (take_o (by decide))
  have nN' : (rn (om_take M a) ff_Mod_notes 0) = (rn M ff_Mod_notes 0) := rn_eq (take_o (by decide))
  have hA1 := h.take hJ.1 ha hy
  have tg := rv.rg 0 hy
  rw [Nat.add_zero] at tg
  have hF1 : CF x s (cm_ho s (B a) (Y a) (rn M ff_Mod_readySize a)) := by
    unfold cm_ho
    exact (((((((CF.rf x s).sar).sar).sar).sar).sfr (by decide)).sfi (by decide)).sfi (by decide)
  refine xx_j ee121_48 rfl trivial ?_
  refine xx_c ee121_49 rfl (k_handOver nd.ready nd.lrd rv.yr rv.yl eY hy tg ?_)
  generalize cm_ho s (B a) (Y a) (rn M ff_Mod_readySize a) = s1 at *
  refine xx_j ee121_52 rfl trivial ?_
  refine xx_j ee121_53 rfl trivial ?_
  refine xx_c ee121_54 rfl (k_lowestFull hA1 hT (by rw [nA']; exact ha) (fun e => ?_) (fun i hi e => ?_))
  · rw [e] at i2
    dsimp only at i2
    rw [i2, nN'] at k3
    refine xx_j ee121_57 rfl trivial ?_
    refine xx_j ee121_59 rfl trivial ?_
    refine xx_nu ee121_61 (fun _ => ?_) (fun b q => by cases q)
    refine xx_j ee121_71 rfl trivial ?_
    exact xx_ri ee121_72 rt121 (k3 _ _ _ hF1 hA1)
  · rw [e] at i2
    dsimp only at i2
    rw [i2] at k3
    obtain ⟨-, -, q3, -⟩ := sp_first_some.mp e
    have hk256 : 4 * a + i < 256 := by omega
    have eY2 : rn (om_take M a) ff_Mod_readySize a = rn M ff_Mod_readySize a - 1 := by rw [take_yN (by omega), if_pos rfl]
    have hsf : sfull (om_take M a) a (4 * a + i) = true := by
      rw [sfull_eq hT.ri hk256, q3, eY2, beq_eq_false_iff_ne.mpr (by omega)]; rfl
    obtain ⟨p, hp⟩ : ∃ p, oz ((om_take M a) ff_Mod_whose (4 * a + i)) = some p := by
      unfold pfull at q3
      cases hq : oz ((om_take M a) ff_Mod_whose (4 * a + i)) with
      | none => rw [hq] at q3; cases q3
      | some p => exact ⟨p, rfl⟩
    refine xx_j ee121_57 rfl trivial ?_
    refine xx_j ee121_59 rfl trivial ?_
    refine xx_nu ee121_61 (fun q => by cases q) (fun _ _ => ?_)
    refine xx_j ee121_64 rfl trivial ?_
    refine xx_j ee121_65 rfl trivial ?_
    refine xx_j ee121_66 rfl trivial ?_
    rw [← nN'] at hA1
    refine xx_c ee121_68 rfl (k_finish hA1 hT hN' (by rw [nA']; exact ha) hi hp (fun t rt' hK hA2 => ?_))
    rw [hsf, cond_true] at hA2
    refine xx_j ee121_71 rfl trivial ?_
    exact xx_ri ee121_72 rt121 (k3 _ _ _ (hF1.tr hK.1) hA2)
end
