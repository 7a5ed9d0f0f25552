/-! THE CLASS: what is asked of it -/
section
variable {s : fx_S} {Q : fx_Q} {x m : Nat} {B H P : Nat → Nat} {C : Nat → Nat → Option Nat} {Y : Nat → Nat → Nat} {rt : Nat → List Nat} {K : Nat → Prop} {L : List Nat} {M N M6 : rf_M} {lv : Nat → Prop}
theorem k_tcount {y : Int32} (h : RA s x B H C Y P m rt K L M) (k : Q (some (vI (sa_count M y))) s) : fx_M mm_Torus_count [vR 10 (some x), vI y] s Q := by
  refine xx_i ml0 ?_
  refine xx_j ee0_0 rfl trivial ?_
  refine xx_sw (hi := 5) ee0_1 (by omega) (fun j hj e => ?_) (fun h => ?_)
  · subst e
    unfold sa_count at k
    rw [fx_sel_nI (by omega)] at k
    obtain rfl | rfl | rfl | rfl | rfl | rfl : j = 0 ∨ j = 1 ∨ j = 2 ∨ j = 3 ∨ j = 4 ∨ j = 5 := by omega
    · show fx_W 0 40 _ _ _ _
      refine xx_j ee0_40 rfl trivial ?_
      refine xx_gi ee0_41 h.t.fin rfl rfl ?_
      exact xx_ri ee0_44 rt0 k
    · show fx_W 0 45 _ _ _ _
      refine xx_j ee0_45 rfl trivial ?_
      refine xx_gi ee0_46 h.t.dfl rfl rfl ?_
      exact xx_ri ee0_49 rt0 k
    · show fx_W 0 50 _ _ _ _
      refine xx_j ee0_50 rfl trivial ?_
      refine xx_gi ee0_51 h.t.rec rfl rfl ?_
      exact xx_ri ee0_54 rt0 k
    · show fx_W 0 55 _ _ _ _
      refine xx_j ee0_55 rfl trivial ?_
      refine xx_gi ee0_56 h.t.now rfl rfl ?_
      exact xx_ri ee0_59 rt0 k
    · show fx_W 0 60 _ _ _ _
      refine xx_j ee0_60 rfl trivial ?_
      refine xx_gi ee0_61 h.t.ask rfl rfl ?_
      exact xx_ri ee0_64 rt0 k
    · show fx_W 0 65 _ _ _ _
      refine xx_j ee0_65 rfl trivial ?_
      refine xx_gi ee0_66 h.t.turn rfl rfl ?_
      exact xx_ri ee0_69 rt0 k
  · show fx_W 0 70 _ _ _ _
    refine xx_km ee0_70 rfl ?_
    refine xx_ri ee0_71 rt0 ?_
    unfold sa_count at k
    rw [fx_sel_out (n := 6) rfl (by omega) h] at k
    exact k
theorem wi_lt {w : Int32} {b : Nat} (hb : b + 1 < 2 ^ 31) : (decide (nI 0 ≤ w) && decide (w ≤ nI b)) = fx_isN (b + 1) w := by
  have e0 : (nI 0).toInt = 0 := by decide
  unfold fx_isN
  rw [Bool.eq_iff_iff]
  simp only [Bool.and_eq_true, decide_eq_true_eq, Int32.le_iff_toInt_le]
  rw [e0, nI_toInt (by omega)]
  omega
theorem k_taken {v w : Int32} (h : RA s x B H C Y P m rt K L M) (hJ : JV M lv) (k : Q (some (vI (sa_taken M v w))) s) : fx_M mm_Torus_taken [vR 10 (some x), vI v, vI w] s Q := by
  have h64 := hJ.all64
  unfold sa_taken at k
  refine xx_i ml50 ?_
  refine xx_j ee50_0 rfl trivial ?_
  refine xx_gr ee50_1 h.sk.a.grid rfl rfl ?_
  refine xx_j ee50_4 rfl trivial ?_
  refine xx_c ee50_5 rfl (k_hasNode (by omega) h.g.a.1 ?_)
  refine xx_nz ee50_8 (fun hv => ?_) (fun hv => ?_)
  · obtain ⟨a, ea, ha⟩ := fx_isN_nI h64 hv
    subst ea
    have ham : a < m := Nat.lt_of_lt_of_le ha h.nm
    have nd := h.sk.b a ham
    obtain ⟨hh, q1, q2, q3⟩ := (h.v a ham).hh
    rw [hv, Bool.true_and, wi_lt (by omega), nI_clamp (by omega)] at k
    refine xx_j ee50_13 rfl trivial ?_
    refine xx_gr ee50_14 h.sk.a.nodes rfl rfl ?_
    refine xx_j ee50_17 rfl trivial ?_
    refine xx_rl ee50_18 h.sk.a.lnod (by omega) (by decide) nd.at rfl ?_
    refine xx_gr ee50_19 nd.rcv rfl rfl ?_
    refine xx_j ee50_22 rfl trivial ?_
    refine xx_j ee50_23 rfl trivial ?_
    refine xx_gi ee50_24 q1 rfl rfl ?_
    refine xx_nz ee50_27 (fun e => ?_) (fun e => ?_)
    · obtain ⟨r1, r2, r3⟩ := q3 e
      refine xx_j ee50_32 rfl trivial ?_
      refine xx_sw (hi := 2) ee50_33 (by omega) (fun j hj e => ?_) (fun hn => ?_)
      · subst e
        have hj3 : fx_isN 3 (nI j) = true := by
          unfold fx_isN
          rw [nI_toInt (by omega)]
          simp only [Bool.and_eq_true, decide_eq_true_eq]
          omega
        rw [hj3, cond_true, nI_clamp (by omega)] at k
        obtain rfl | rfl | rfl : j = 0 ∨ j = 1 ∨ j = 2 := by omega
        · show fx_W 50 60 _ _ _ _
          refine xx_j ee50_60 rfl trivial ?_
          refine xx_gr ee50_61 (h.v a ham).yl rfl rfl ?_
          refine xx_gi ee50_64 r1 rfl rfl ?_
          exact xx_ri ee50_67 rt50 k
        · show fx_W 50 68 _ _ _ _
          refine xx_j ee50_68 rfl trivial ?_
          refine xx_gr ee50_69 (h.v a ham).yl rfl rfl ?_
          refine xx_gi ee50_72 r2 rfl rfl ?_
          exact xx_ri ee50_75 rt50 k
        · show fx_W 50 76 _ _ _ _
          refine xx_j ee50_76 rfl trivial ?_
          refine xx_gr ee50_77 (h.v a ham).yl rfl rfl ?_
          refine xx_gi ee50_80 r3 rfl rfl ?_
          exact xx_ri ee50_83 rt50 k
      · have hj3 : fx_isN 3 w = false := by
          cases hq : fx_isN 3 w with
          | false => rfl
          | true =>
            obtain ⟨b, eb, hb⟩ := fx_isN_nI (by omega) hq
            exact absurd eb (hn b hb)
        rw [hj3, cond_false] at k
        show fx_W 50 84 _ _ _ _
        refine xx_km ee50_84 rfl ?_
        exact xx_ri ee50_85 rt50 k
    · refine xx_km ee50_30 rfl ?_
      refine xx_ri ee50_31 rt50 ?_
      have r := q2 e
      cases hq : fx_isN 3 w with
      | false => rw [hq, cond_false] at k; exact k
      | true =>
        obtain ⟨b, eb, hb⟩ := fx_isN_nI (by omega) hq
        rw [hq, cond_true, eb, nI_clamp (by omega), r b hb] at k
        exact k
  · refine xx_km ee50_11 rfl ?_
    refine xx_ri ee50_12 rt50 ?_
    rw [hv, Bool.false_and, cond_false] at k
    exact k
theorem k_distance {v w : Int32} (h : RA s x B H C Y P m rt K L M) (hJ : JV M lv) (hN : JN M) (k : ∀ t, CF x s t → RA t x B H C Y P m rt K L M → Q (some (vI (sa_dist M v w))) t) : fx_M mm_Torus_distance [vR 10 (some x), vI v, vI w] s Q := by
  have h64 := hJ.all64
  obtain ⟨n2, n9, nn⟩ := hJ.n2
  unfold sa_dist at k
  have no : (fx_isN ((rn M ff_Mod_all 0)) v && fx_isN ((rn M ff_Mod_all 0)) w) = false → fx_W 82 22 [some (vR 10 (some x)), some (vI v), some (vI w)] [] s Q := by
    intro e
    refine xx_km ee82_22 rfl ?_
    refine xx_ri ee82_23 rt82 ?_
    have := k s (CF.rf x s) h
    rw [e, cond_false] at this
    exact this
  refine xx_i ml82 ?_
  refine xx_j ee82_0 rfl trivial ?_
  refine xx_gr ee82_1 h.sk.a.grid rfl rfl ?_
  refine xx_j ee82_4 rfl trivial ?_
  refine xx_c ee82_5 rfl (k_hasNode (by omega) h.g.a.1 ?_)
  refine xx_z ee82_8 (fun hv => no (by rw [hv, Bool.false_and])) (fun hv => ?_)
  refine xx_j ee82_11 rfl trivial ?_
  refine xx_gr ee82_12 h.sk.a.grid rfl rfl ?_
  refine xx_j ee82_15 rfl trivial ?_
  refine xx_c ee82_16 rfl (k_hasNode (by omega) h.g.a.1 ?_)
  refine xx_nz ee82_19 (fun hw => ?_) (fun hw => no (by rw [hw, Bool.and_false]))
  obtain ⟨a, ea, ha⟩ := fx_isN_nI h64 hv
  obtain ⟨b, eb, hb⟩ := fx_isN_nI h64 hw
  subst ea; subst eb
  rw [hv, hw, Bool.true_and, cond_true, nI_clamp (by omega), nI_clamp (by omega)] at k
  refine xx_j ee82_24 rfl trivial ?_
  refine xx_gr ee82_25 h.sk.a.grid rfl rfl ?_
  refine xx_j ee82_28 rfl trivial ?_
  refine xx_j ee82_29 rfl trivial ?_
  refine xx_c ee82_30 rfl (k_steps h.sk.a h.g.a h.g.b n2 n9 nn h64 hN.co hb ha (fun t d g1 g2 g3 g4 g5 g6 g7 => ?_))
  refine xx_ri ee82_33 rt82 ?_
  have e := LST.eq (g7.sym n2 n9 nn hN.1 hb ha) (hN.lst ha hb)
  have e2 : M ff_Mod_away (64 * a + b) = nI (dr M a b) := hJ.ri.e ff_Mod_away (64 * a + b) (n := 4096) rfl (by omega) (by decide)
  have := k t ((CF.rf x s).gf g1) (h.gf g1 g3 g4)
  rw [e2, ← e] at this
  exact this
theorem k_golden {y : Int32} (h : RA s x B H C Y P m rt K L M) (hJ : JV M lv) (hN : JN M) (k : ∀ t, CF x s t → RA t x B H C Y P m rt K L M → Q (some (vI (sa_gold M y))) t) : fx_M mm_Torus_golden [vR 10 (some x), vI y] s Q := by
  have h64 := hJ.all64
  have h0 := hJ.all0
  have sg20 : sgold M < 2 ^ 20 := by
    have : sgold M < (rn M ff_Mod_all 0) * 64 := Nat.mod_lt _ (by omega)
    omega
  unfold sa_gold at k
  refine xx_i ml117 ?_
  refine xx_j ee117_0 rfl trivial ?_
  refine xx_gr ee117_1 h.sk.a.rank rfl rfl ?_
  refine xx_j ee117_4 rfl trivial ?_
  refine xx_c ee117_5 rfl (k_goldenIndex h hJ hN (fun s2 hG2 hA2 => ?_))
  refine xx_c ee117_8 rfl (k_makeGolden sg20 ?_)
  have hA3 := hA2.rk (a := nI (sgold M % 8)) (b := nI (sgold M / 8 % 8)) (c := nI (sgold M / 8 / 8))
  have hgo : RGo (fx_sfi (fx_sfi (fx_sfi s2 ff_Rank_goldenNumber (x + 9) (nI (sgold M % 8))) ff_Rank_goldenSlot (x + 9) (nI (sgold M / 8 % 8))) ff_Rank_goldenSource (x + 9) (nI (sgold M / 8 / 8))) x (sgold M) := by
    refine ⟨?_, ?_, ?_⟩
    · rw [fi_ne (fun q => absurd q.1 (by decide)), fi_ne (fun q => absurd q.1 (by decide)), fi_same]
    · rw [fi_ne (fun q => absurd q.1 (by decide)), fi_same]
    · rw [fi_same, Nat.div_div_eq_div_mul]
  have hF3 : CF x s (fx_sfi (fx_sfi (fx_sfi s2 ff_Rank_goldenNumber (x + 9) (nI (sgold M % 8))) ff_Rank_goldenSlot (x + 9) (nI (sgold M / 8 % 8))) ff_Rank_goldenSource (x + 9) (nI (sgold M / 8 / 8))) := (((((CF.rf x s).gf hG2).sfi (by decide)).sfi (by decide)).sfi (by decide))
  generalize fx_sfi (fx_sfi (fx_sfi s2 ff_Rank_goldenNumber (x + 9) (nI (sgold M % 8))) ff_Rank_goldenSlot (x + 9) (nI (sgold M / 8 % 8))) ff_Rank_goldenSource (x + 9) (nI (sgold M / 8 / 8)) = s3 at *
  have k := k s3 hF3 hA3
  refine xx_j ee117_11 rfl trivial ?_
  refine xx_sw (hi := 2) ee117_12 (by omega) (fun j hj e => ?_) (fun h => ?_)
  · subst e
    rw [fx_sel_nI (by omega)] at k
    obtain rfl | rfl | rfl : j = 0 ∨ j = 1 ∨ j = 2 := by omega
    · show fx_W 117 40 _ _ _ _
      refine xx_j ee117_40 rfl trivial ?_
      refine xx_gr ee117_41 hA3.sk.a.rank rfl rfl ?_
      refine xx_gi ee117_44 hgo.2.2 rfl rfl ?_
      exact xx_ri ee117_47 rt117 k
    · show fx_W 117 48 _ _ _ _
      refine xx_j ee117_48 rfl trivial ?_
      refine xx_gr ee117_49 hA3.sk.a.rank rfl rfl ?_
      refine xx_gi ee117_52 hgo.2.1 rfl rfl ?_
      exact xx_ri ee117_55 rt117 k
    · show fx_W 117 56 _ _ _ _
      refine xx_j ee117_56 rfl trivial ?_
      refine xx_gr ee117_57 hA3.sk.a.rank rfl rfl ?_
      refine xx_gi ee117_60 hgo.1 rfl rfl ?_
      exact xx_ri ee117_63 rt117 k
  · show fx_W 117 64 _ _ _ _
    refine xx_km ee117_64 rfl ?_
    refine xx_ri ee117_65 rt117 ?_
    rw [fx_sel_out (n := 3) rfl (by omega) h] at k
    exact k
theorem k_placesUsed {v : Nat} (h : RA s x B H C Y P m rt K L M) (hv : v < m) (k : Q (some (vI (nI (sp_cnt (fun j => !decide (M ff_Mod_whose (4 * v + j) = fx_neg)) 4)))) s) : fx_M mm_Receiver_placesUsed [vR 18 (some (B v + 5))] s Q := by
  have nd := h.sk.b v hv
  refine xx_i ml18 ?_
  refine xx_k ee18_0 0 rfl ?_
  refine xx_j ee18_1 rfl trivial ?_
  refine xx_k ee18_2 0 rfl ?_
  refine xx_j ee18_3 rfl trivial ?_
  have key : ∀ d j, j + d = 4 → fx_W 18 4 [some (vR 18 (some (B v + 5))), some (vI (nI (sp_cnt (fun j => !decide (M ff_Mod_whose (4 * v + j) = fx_neg)) j))), some (vI (nI j))] [] s Q := by
    intro d
    induction d with
    | zero =>
      intro j hj
      obtain rfl : j = 4 := by omega
      refine xx_j ee18_4 rfl trivial ?_
      refine xx_k ee18_5 4 rfl ?_
      refine xx_ge ee18_6 (by omega) (by omega) (fun _ => ?_) (fun h => by omega)
      refine xx_j ee18_30 rfl trivial ?_
      exact xx_ri ee18_31 rt18 k
    | succ d ih =>
      intro j hj
      have hp := (h.v v hv).pk j (by omega)
      refine xx_j ee18_4 rfl trivial ?_
      refine xx_k ee18_5 4 rfl ?_
      refine xx_ge ee18_6 (by omega) (by omega) (fun h => by omega) (fun _ => ?_)
      refine xx_j ee18_9 rfl trivial ?_
      refine xx_gr ee18_10 nd.places rfl rfl ?_
      refine xx_j ee18_13 rfl trivial ?_
      refine xx_rl ee18_14 nd.lpl (by omega) (by decide) (nd.pl j (by omega)) rfl ?_
      refine xx_gr ee18_15 hp rfl rfl ?_
      have nx := ih (j + 1) (by omega)
      refine xx_nu ee18_18 (fun e => ?_) (fun b e => ?_)
      · have e2 : M ff_Mod_whose (4 * v + j) = fx_neg := by
          refine oz_none.mp ?_
          cases hq : oz (M ff_Mod_whose (4 * v + j)) with
          | none => rfl
          | some z => rw [hq] at e; cases e
        first | refine xx_inc ee18_24 rfl ?_ | refine xx_j ee18_24 rfl trivial ?_
        refine xx_j ee18_27 rfl trivial ?_
        rw [sp_cnt_s (b := false) (by rw [decide_eq_true e2]; rfl)] at nx
        exact nx
      · have e2 : ¬ M ff_Mod_whose (4 * v + j) = fx_neg := fun q => by
          rw [oz_none.mpr q] at e; cases e
        first | refine xx_inc ee18_21 rfl ?_ | refine xx_j ee18_21 rfl trivial ?_
        first | refine xx_inc ee18_24 rfl ?_ | refine xx_j ee18_24 rfl trivial ?_
        refine xx_j ee18_27 rfl trivial ?_
        rw [sp_cnt_s (b := true) (by rw [decide_eq_false e2]; rfl)] at nx
        exact nx
  exact key 4 0 (by omega)
theorem k_node {v y : Int32} (h : RA s x B H C Y P m rt K L M) (hJ : JV M lv) (k : Q (some (vI (sa_node M v y))) s) : fx_M mm_Torus_node [vR 10 (some x), vI v, vI y] s Q := by
  have h64 := hJ.all64
  unfold sa_node at k
  refine xx_i ml49 ?_
  refine xx_j ee49_0 rfl trivial ?_
  refine xx_gr ee49_1 h.sk.a.grid rfl rfl ?_
  refine xx_j ee49_4 rfl trivial ?_
  refine xx_c ee49_5 rfl (k_hasNode (by omega) h.g.a.1 ?_)
  refine xx_nz ee49_8 (fun hv => ?_) (fun hv => ?_)
  · obtain ⟨a, ea, ha⟩ := fx_isN_nI h64 hv
    subst ea
    have ham : a < m := Nat.lt_of_lt_of_le ha h.nm
    have nd := h.sk.b a ham
    rw [hv, cond_true] at k
    dsimp only at k
    rw [nI_clamp (by omega)] at k
    have z1 : fx_fi s ff_Row_size (B a + 2) = M ff_Mod_waits a := by
      rw [(h.r.row _ (Or.inr (Or.inr ⟨a, ham, Or.inl rfl⟩))).len, (h.w a ham).1]
      exact (hJ.ri.e ff_Mod_waits a (n := 64) rfl (by omega) (by decide)).symm
    have z2 : fx_fi s ff_Row_size (B a + 6) = M ff_Mod_rowSize a := by
      rw [(h.r.row _ (Or.inr (Or.inr ⟨a, ham, Or.inr (Or.inr rfl)⟩))).len, h.x.ak a ham ha, List.length_map, List.length_range]
      exact (hJ.ri.e ff_Mod_rowSize a (n := 64) rfl (by omega) (by decide)).symm
    have z3 : fx_fi s ff_Row_size (B a + 3) = M ff_Mod_agains a := by
      rw [(h.r.row _ (Or.inr (Or.inr ⟨a, ham, Or.inr (Or.inl rfl)⟩))).len, h.x.ag a ham ha, List.length_map, List.length_range]
      exact (hJ.ri.e ff_Mod_agains a (n := 64) rfl (by omega) (by decide)).symm
    refine xx_j ee49_13 rfl trivial ?_
    refine xx_gr ee49_14 h.sk.a.nodes rfl rfl ?_
    refine xx_j ee49_17 rfl trivial ?_
    refine xx_rl ee49_18 h.sk.a.lnod (by omega) (by decide) nd.at rfl ?_
    refine xx_j ee49_19 rfl trivial ?_
    refine xx_j ee49_20 rfl trivial ?_
    refine xx_sw (hi := 8) ee49_21 (by omega) (fun j hj e => ?_) (fun hn => ?_)
    · subst e
      rw [fx_sel_nI (by omega)] at k
      obtain rfl | rfl | rfl | rfl | rfl | rfl | rfl | rfl | rfl : j = 0 ∨ j = 1 ∨ j = 2 ∨ j = 3 ∨ j = 4 ∨ j = 5 ∨ j = 6 ∨ j = 7 ∨ j = 8 := by omega
      · show fx_W 49 72 _ _ _ _
        refine xx_j ee49_72 rfl trivial ?_
        refine xx_gr ee49_73 nd.snd rfl rfl ?_
        refine xx_gr ee49_76 nd.wait rfl rfl ?_
        refine xx_gi ee49_79 z1 rfl rfl ?_
        exact xx_ri ee49_82 rt49 k
      · show fx_W 49 83 _ _ _ _
        refine xx_j ee49_83 rfl trivial ?_
        refine xx_gr ee49_84 nd.snd rfl rfl ?_
        refine xx_gi ee49_87 (h.s.used a ham) rfl rfl ?_
        exact xx_ri ee49_90 rt49 k
      · show fx_W 49 91 _ _ _ _
        refine xx_j ee49_91 rfl trivial ?_
        refine xx_gr ee49_92 nd.rcv rfl rfl ?_
        refine xx_gi ee49_95 (h.v a ham).cnt rfl rfl ?_
        exact xx_ri ee49_98 rt49 k
      · show fx_W 49 99 _ _ _ _
        refine xx_j ee49_99 rfl trivial ?_
        refine xx_gr ee49_100 nd.rcv rfl rfl ?_
        refine xx_c ee49_103 rfl (k_placesUsed h ham ?_)
        exact xx_ri ee49_106 rt49 k
      · show fx_W 49 107 _ _ _ _
        refine xx_j ee49_107 rfl trivial ?_
        refine xx_gr ee49_108 nd.rcv rfl rfl ?_
        refine xx_gr ee49_111 nd.asked rfl rfl ?_
        refine xx_gi ee49_114 z2 rfl rfl ?_
        exact xx_ri ee49_117 rt49 k
      · show fx_W 49 118 _ _ _ _
        refine xx_j ee49_118 rfl trivial ?_
        refine xx_c ee49_119 rfl (k_flitsHere h hJ ham ?_)
        exact xx_ri ee49_122 rt49 k
      · show fx_W 49 123 _ _ _ _
        refine xx_j ee49_123 rfl trivial ?_
        refine xx_gi ee49_124 (h.s.went a ham) rfl rfl ?_
        exact xx_ri ee49_127 rt49 k
      · show fx_W 49 128 _ _ _ _
        refine xx_j ee49_128 rfl trivial ?_
        refine xx_gr ee49_129 nd.snd rfl rfl ?_
        refine xx_gi ee49_132 (h.s.hun a ham) rfl rfl ?_
        exact xx_ri ee49_135 rt49 k
      · show fx_W 49 136 _ _ _ _
        refine xx_j ee49_136 rfl trivial ?_
        refine xx_gr ee49_137 nd.snd rfl rfl ?_
        refine xx_gr ee49_140 nd.again rfl rfl ?_
        refine xx_gi ee49_143 z3 rfl rfl ?_
        exact xx_ri ee49_146 rt49 k
    · show fx_W 49 147 _ _ _ _
      refine xx_km ee49_147 rfl ?_
      refine xx_ri ee49_148 rt49 ?_
      rw [fx_sel_out (n := 9) rfl (by omega) hn] at k
      exact k
  · refine xx_km ee49_11 rfl ?_
    refine xx_ri ee49_12 rt49 ?_
    rw [hv, cond_false] at k
    exact k
theorem k_flit {v l y : Int32} (h : RA s x B H C Y P m rt K L M) (hJ : JV M lv) (k : Q (some (vI (sa_flit M v l y))) s) : fx_M mm_Torus_flit [vR 10 (some x), vI v, vI l, vI y] s Q := by
  have h64 := hJ.all64
  unfold sa_flit at k
  rw [wi_lt (by omega)] at k
  have no : (fx_isN ((rn M ff_Mod_all 0)) v && fx_isN 4 l) = false → fx_W 48 20 [some (vR 10 (some x)), some (vI v), some (vI l), some (vI y), none] [] s Q := by
    intro e
    refine xx_km ee48_20 rfl ?_
    refine xx_ri ee48_21 rt48 ?_
    rw [e, cond_false] at k
    exact k
  refine xx_i ml48 ?_
  refine xx_j ee48_0 rfl trivial ?_
  refine xx_gr ee48_1 h.sk.a.grid rfl rfl ?_
  refine xx_j ee48_4 rfl trivial ?_
  refine xx_c ee48_5 rfl (k_hasNode (by omega) h.g.a.1 ?_)
  refine xx_z ee48_8 (fun hv => no (by rw [hv, Bool.false_and])) (fun hv => ?_)
  obtain ⟨a, ea, ha⟩ := fx_isN_nI h64 hv
  subst ea
  have ham : a < m := Nat.lt_of_lt_of_le ha h.nm
  have nd := h.sk.b a ham
  have go : ∀ b, l = nI b → b < 4 → fx_W 48 22 [some (vR 10 (some x)), some (vI (nI a)), some (vI l), some (vI y), none] [] s Q := by
    intro b eb hb
    subst eb
    have hb4 : fx_isN 4 (nI b) = true := by
      unfold fx_isN
      rw [nI_toInt (by omega)]
      simp only [Bool.and_eq_true, decide_eq_true_eq]
      omega
    rw [hv, hb4, Bool.true_and, cond_true, nI_clamp (by omega), nI_clamp (by omega)] at k
    rcases h.line hJ ham (l := b) hb with ⟨q1, q2⟩ | ⟨f, F, q1, q2, q3⟩
    · rw [q1] at k
      refine xx_j ee48_22 rfl trivial ?_
      refine xx_gr ee48_23 h.sk.a.nodes rfl rfl ?_
      refine xx_j ee48_26 rfl trivial ?_
      refine xx_rl ee48_27 h.sk.a.lnod (by omega) (by decide) nd.at rfl ?_
      refine xx_gr ee48_28 (h.f.here a ham) rfl rfl ?_
      refine xx_j ee48_31 rfl trivial ?_
      refine xx_rl ee48_32 (h.lnh ham) (by omega) (by decide) q2 rfl ?_
      refine xx_j ee48_33 rfl trivial ?_
      refine xx_j ee48_35 rfl trivial ?_
      refine xx_nn ee48_37 (fun _ e => by cases e) (fun _ => ?_)
      refine xx_km ee48_40 rfl ?_
      exact xx_ri ee48_41 rt48 k
    · rw [q1] at k
      dsimp only at k
      obtain ⟨o1, o2, o3, o4, o5, o6, o7, o8, o9, o10, o11, o12, o13⟩ := h.fo hJ q3
      have hf := (sol_some q1).1
      have h257 := hJ.ri.fNl
      have gl := h.gl hJ q3
      have e1 := hJ.ri.e ff_Mod_source f (n := 300) rfl (by omega) (by decide)
      have e2 := hJ.ri.e ff_Mod_slot f (n := 300) rfl (by omega) (by decide)
      have e3 := hJ.ri.e ff_Mod_number f (n := 300) rfl (by omega) (by decide)
      have e4 := hJ.ri.e ff_Mod_entry f (n := 300) rfl (by omega) (by decide)
      have e5 := hJ.ri.e ff_Mod_tries f (n := 300) rfl (by omega) (by decide)
      refine xx_j ee48_22 rfl trivial ?_
      refine xx_gr ee48_23 h.sk.a.nodes rfl rfl ?_
      refine xx_j ee48_26 rfl trivial ?_
      refine xx_rl ee48_27 h.sk.a.lnod (by omega) (by decide) nd.at rfl ?_
      refine xx_gr ee48_28 (h.f.here a ham) rfl rfl ?_
      refine xx_j ee48_31 rfl trivial ?_
      refine xx_rl ee48_32 (h.lnh ham) (by omega) (by decide) q2 rfl ?_
      refine xx_j ee48_33 rfl trivial ?_
      refine xx_j ee48_35 rfl trivial ?_
      refine xx_nn ee48_37 (fun _ _ => ?_) (fun e => by cases e)
      refine xx_j ee48_42 rfl trivial ?_
      refine xx_sw (hi := 5) ee48_43 (by omega) (fun j hj e => ?_) (fun hn => ?_)
      · subst e
        rw [fx_sel_nI (by omega)] at k
        obtain rfl | rfl | rfl | rfl | rfl | rfl : j = 0 ∨ j = 1 ∨ j = 2 ∨ j = 3 ∨ j = 4 ∨ j = 5 := by omega
        · show fx_W 48 80 _ _ _ _
          refine xx_j ee48_80 rfl trivial ?_
          refine xx_gr ee48_82 o1 rfl rfl ?_
          refine xx_gi ee48_85 (o5.src.trans ((congrArg nI o6).trans e1.symm)) rfl rfl ?_
          exact xx_ri ee48_88 rt48 k
        · show fx_W 48 89 _ _ _ _
          refine xx_j ee48_89 rfl trivial ?_
          refine xx_gr ee48_91 o1 rfl rfl ?_
          refine xx_gi ee48_94 (o5.slot.trans ((congrArg nI o7).trans e2.symm)) rfl rfl ?_
          exact xx_ri ee48_97 rt48 k
        · show fx_W 48 98 _ _ _ _
          refine xx_j ee48_98 rfl trivial ?_
          refine xx_gi ee48_100 (o2.trans e3.symm) rfl rfl ?_
          exact xx_ri ee48_103 rt48 k
        · show fx_W 48 104 _ _ _ _
          refine xx_j ee48_104 rfl trivial ?_
          refine xx_gr ee48_106 o1 rfl rfl ?_
          refine xx_gi ee48_109 gl.1 rfl rfl ?_
          exact xx_ri ee48_112 rt48 k
        · show fx_W 48 113 _ _ _ _
          refine xx_j ee48_113 rfl trivial ?_
          refine xx_gi ee48_115 (o3.trans e4.symm) rfl rfl ?_
          exact xx_ri ee48_118 rt48 k
        · show fx_W 48 119 _ _ _ _
          refine xx_j ee48_119 rfl trivial ?_
          refine xx_gi ee48_121 (o4.trans e5.symm) rfl rfl ?_
          exact xx_ri ee48_124 rt48 k
      · show fx_W 48 125 _ _ _ _
        refine xx_km ee48_125 rfl ?_
        refine xx_ri ee48_126 rt48 ?_
        rw [fx_sel_out (n := 6) rfl (by omega) hn] at k
        exact k
  refine xx_j ee48_11 rfl trivial ?_
  by_cases hl : fx_isN 4 l = true
  · obtain ⟨b, eb, hb⟩ := fx_isN_nI (by omega) hl
    have g := go b eb hb
    rw [eb] at g ⊢
    refine xx_b ee48_12 rfl (fun q => ?_) (fun _ => ?_)
    · exfalso
      have := Int32.lt_iff_toInt_lt.mp q
      rw [nI_toInt (by omega)] at this
      have e0 : (0 : Int32).toInt = 0 := by decide
      omega
    · refine xx_j ee48_15 rfl trivial ?_
      refine xx_k ee48_16 4 rfl ?_
      refine xx_lt ee48_17 (by omega) (by omega) (fun _ => g) (fun q => by omega)
  · have hl' : fx_isN 4 l = false := by rw [Bool.not_eq_true] at hl; exact hl
    have n1 := no (by rw [hl', Bool.and_false])
    refine xx_b ee48_12 rfl (fun q => n1) (fun q1 => ?_)
    refine xx_j ee48_15 rfl trivial ?_
    refine xx_k ee48_16 4 rfl ?_
    refine xx_b ee48_17 rfl (fun q => ?_) (fun _ => n1)
    exfalso
    have a1 := Int32.lt_iff_toInt_lt.mp q
    have e0 : (0 : Int32).toInt = 0 := by decide
    have a2 : ¬ l.toInt < 0 := fun z => q1 (Int32.lt_iff_toInt_lt.mpr (by rw [e0]; exact z))
    have a3 : (nI 4).toInt = 4 := by decide
    rw [a3] at a1
    refine hl ?_
    unfold fx_isN
    simp only [Bool.and_eq_true, decide_eq_true_eq]
    omega
end
