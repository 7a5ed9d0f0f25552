/-! THE CLASS: what is made, at a named address -/
def nwo (s : fx_S) (a c n : Nat) : fx_S := (fx_at s.1 a c, fx_col s.2.1 a 0, fx_col s.2.2.1 a none, s.2.2.2.1, s.2.2.2.2.1, s.2.2.2.2.2.1, s.2.2.2.2.2.2.1, a + 1, fx_sl s + n)
def nwa (s : fx_S) (a c n : Nat) : fx_S := (fx_at s.1 a c, s.2.1, s.2.2.1, fx_at s.2.2.2.1 a n, fx_at s.2.2.2.2.1 a (fun _ => 0), fx_at s.2.2.2.2.2.1 a (fun _ => none), fx_at s.2.2.2.2.2.2.1 a (fun _ => 0), a + 1, fx_sl s + n)
theorem nwo_eq {s : fx_S} {a c n : Nat} (h : fx_nx s = a) : fx_new s c n = nwo s a c n := by subst h; rfl
theorem nwa_eq {s : fx_S} {a c n : Nat} (h : fx_nx s = a) : fx_newa s c n = nwa s a c n := by subst h; rfl
section
variable {s s0 t : fx_S} {Q : fx_Q} {a c n d f j i x : Nat} {v : Option Nat} {y : Int32}
theorem n_r1 : fx_fr (nwo s a c n) f a = none := if_pos rfl
theorem n_r3 (h : d ≠ a) : fx_fr (nwo s a c n) f d = fx_fr s f d := if_neg h
theorem n_r2 : fx_fr (nwa s a c n) f d = fx_fr s f d := rfl
theorem n_i1 : fx_fi (nwo s a c n) f a = 0 := if_pos rfl
theorem n_i3 (h : d ≠ a) : fx_fi (nwo s a c n) f d = fx_fi s f d := if_neg h
theorem n_i2 : fx_fi (nwa s a c n) f d = fx_fi s f d := rfl
theorem n_l2 : fx_ln (nwo s a c n) d = fx_ln s d := rfl
theorem n_al1 : fx_ln (nwa s a c n) a = n := if_pos rfl
theorem n_l3 (h : d ≠ a) : fx_ln (nwa s a c n) d = fx_ln s d := if_neg h
theorem n_a2 : fx_ar (nwo s a c n) d = fx_ar s d := rfl
theorem n_aa1 : fx_ar (nwa s a c n) a j = none := by
  have : fx_ar (nwa s a c n) a = fun _ => none := if_pos rfl
  rw [this]
theorem n_a3 (h : d ≠ a) : fx_ar (nwa s a c n) d = fx_ar s d := if_neg h
theorem w_fr : fx_fr (fx_sar s a i v) f d = fx_fr s f d := rfl
theorem w_fi : fx_fi (fx_sar s a i v) f d = fx_fi s f d := rfl
theorem w_l1 : fx_ln (fx_sar s a i v) d = fx_ln s d := rfl
theorem w_l2 : fx_ln (fx_sfr s f a v) d = fx_ln s d := rfl
theorem w_a1 : fx_ar (fx_sfr s f a v) d = fx_ar s d := rfl
theorem w_a2 : fx_ar (fx_sfi s f a y) d = fx_ar s d := rfl
theorem w_i1 : fx_fi (fx_sfr s f a v) c d = fx_fi s c d := rfl
theorem w_i2 : fx_fr (fx_sfi s f a y) c d = fx_fr s c d := rfl
theorem w_i3 : fx_ln (fx_sfi s f a y) d = fx_ln s d := rfl
theorem n_ai (h : d ≠ a) : fx_ai (nwa s a c n) d = fx_ai s d := if_neg h
theorem n_kdo (h : d ≠ a) : fx_kd (nwo s a c n) d = fx_kd s d := if_neg h
theorem n_kda (h : d ≠ a) : fx_kd (nwa s a c n) d = fx_kd s d := if_neg h
theorem n_ala (h : d ≠ a) : fx_al (nwa s a c n) d = fx_al s d := if_neg h
theorem GR.nwo (g : GR s0 s) (h : fx_nx s0 ≤ a) : GR s0 (nwo s a c n) := ⟨fun f b q => by rw [n_i3 (by omega)]; exact g.fi q, fun f b q => by rw [n_r3 (by omega)]; exact g.fr q, g.2.2.1, g.2.2.2.1, g.2.2.2.2.1, Nat.le_succ_of_le h⟩
theorem GR.nwa (g : GR s0 s) (h : fx_nx s0 ≤ a) : GR s0 (nwa s a c n) := ⟨g.1, g.2.1, fun b q => by rw [n_l3 (by omega)]; exact g.ln q, fun b q => (n_ai (by omega)).trans (g.ai q), fun b q => by rw [n_a3 (by omega)]; exact g.ar q, Nat.le_succ_of_le h⟩
theorem CF.nwo (h : CF x s0 s) (ha : fx_nx s0 ≤ a) : CF x s0 (nwo s a c n) := ⟨fun f b hf q => ⟨by rw [n_i3 (by omega)]; exact (h.1 f b hf q).1, by rw [n_r3 (by omega)]; exact (h.1 f b hf q).2⟩, fun b q => ⟨(n_kdo (by omega)).trans (h.2.1 b q).1, (h.2.1 b q).2⟩, Nat.le_succ_of_le ha⟩
theorem CF.nwa (h : CF x s0 s) (ha : fx_nx s0 ≤ a) : CF x s0 (nwa s a c n) := ⟨h.1, fun b q => ⟨(n_kda (by omega)).trans (h.2.1 b q).1, by rw [n_l3 (by omega)]; exact (h.2.1 b q).2.1, (n_ala (by omega)).trans (h.2.1 b q).2.2.1, fun z => (n_ai (by omega)).trans ((h.2.1 b q).2.2.2 z)⟩, Nat.le_succ_of_le ha⟩
variable {mi pc np r1 r2 : Nat} {ls : fx_L} {st : List fx_V}
theorem xx_nw {idx : Nat} (ht : fx_tab mi pc = some (.new idx, np, r1, r2)) (h1 : Nat.ble 900 r1 = false) (h2 : Nat.ble r1 12 = true) (hn : fx_nx s = a) (k : fx_W mi np ls (.inr (.inl (10 + r1, some a)) :: st) (nwo s a (10 + r1) r2) Q) : fx_W mi pc ls st s Q := by
  subst hn
  exact xx_j (C := True) ht (by simp only [fx_act, h1, h2, cond_true, cond_false]; rfl) trivial k
theorem xx_nwa {idx : Nat} (ht : fx_tab mi pc = some (.anewarray idx, np, r1, r2)) (h1 : fx_ia (40 + r1) = true) (hN : n ≤ 40000) (hn : fx_nx s = a) (k : fx_W mi np ls (.inr (.inl (40 + r1, some a)) :: st) (nwa s a (40 + r1) n) Q) : fx_W mi pc ls (.inl (nI n) :: st) s Q := by
  subst hn
  refine xx_j (C := ¬ nI n < 0 ∧ (nI n).toNatClampNeg ≤ 40000) (s' := fx_newa s (40 + r1) (nI n).toNatClampNeg) ht (by simp only [fx_act, h1, cond_true]; rfl) ⟨?_, by rw [nI_clamp (by omega)]; exact hN⟩ (by rw [nI_clamp (by omega)]; exact k)
  intro q
  exact absurd ((nI_ltI (a := n) (b := 0) (by omega) (by omega)).mp q) (by omega)
theorem xx_nwi {idx : _} (ht : fx_tab mi pc = some (.newarray idx, np, r1, r2)) (h1 : (Nat.ble 70 r1 && Nat.ble r1 72) = true) (hN : n ≤ 40000) (hn : fx_nx s = a) (k : fx_W mi np ls (.inr (.inl (r1, some a)) :: st) (nwa s a r1 n) Q) : fx_W mi pc ls (.inl (nI n) :: st) s Q := by
  subst hn
  refine xx_j (C := ¬ nI n < 0 ∧ (nI n).toNatClampNeg ≤ 40000) (s' := fx_newa s r1 (nI n).toNatClampNeg) ht (by simp only [fx_act, h1, cond_true]; rfl) ⟨?_, by rw [nI_clamp (by omega)]; exact hN⟩ (by rw [nI_clamp (by omega)]; exact k)
  intro q
  exact absurd ((nI_ltI (a := n) (b := 0) (by omega) (by omega)).mp q) (by omega)
theorem k_rowI (k : Q none s) : fx_M mm_Row_init [vR 20 (some a)] s Q := by
  refine xx_i ml65 ?_
  refine xx_j ee65_0 rfl trivial ?_
  refine xx_j ee65_1 rfl trivial ?_
  exact xx_rv ee65_4 k
theorem k_arrI (k : Q none s) : fx_M mm_Arrival_init [vR 11 (some a)] s Q := by
  refine xx_i ml51 ?_
  refine xx_j ee51_0 rfl trivial ?_
  refine xx_j ee51_1 rfl trivial ?_
  exact xx_rv ee51_4 k
theorem k_plaI (k : Q none s) : fx_M mm_Place_init [vR 16 (some a)] s Q := by
  refine xx_i ml59 ?_
  refine xx_j ee59_0 rfl trivial ?_
  refine xx_j ee59_1 rfl trivial ?_
  exact xx_rv ee59_4 k
/-- a sender -/
def cm_snd (s : fx_S) (a : Nat) : fx_S := fx_sfr (nwa (fx_sfr (nwo (fx_sfr (nwo s (a + 1) 20 3) ff_Sender_waiting a (some (a + 1))) (a + 2) 20 3) ff_Sender_again a (some (a + 2))) (a + 3) 45 8) ff_Sender_slots a (some (a + 3))
theorem k_senderI (hn : fx_nx s = a + 1) (k : Q none (cm_snd s a)) : fx_M mm_Sender_init [vR 21 (some a)] s Q := by
  refine xx_i ml96 ?_
  refine xx_j ee96_0 rfl trivial ?_
  refine xx_j ee96_1 rfl trivial ?_
  refine xx_j ee96_4 rfl trivial ?_
  refine xx_nw ee96_5 rfl rfl hn ?_
  refine xx_j ee96_8 rfl trivial ?_
  refine xx_c ee96_9 rfl (k_rowI ?_)
  first | refine xx_pr ee96_12 rfl rfl (Or.inl rfl) ?_ | refine xx_pr ee96_12 rfl rfl (Or.inr rfl) ?_
  refine xx_j ee96_15 rfl trivial ?_
  refine xx_nw ee96_16 rfl rfl (a := a + 2) rfl ?_
  refine xx_j ee96_19 rfl trivial ?_
  refine xx_c ee96_20 rfl (k_rowI ?_)
  first | refine xx_pr ee96_23 rfl rfl (Or.inl rfl) ?_ | refine xx_pr ee96_23 rfl rfl (Or.inr rfl) ?_
  refine xx_j ee96_26 rfl trivial ?_
  refine xx_kb ee96_27 8 rfl ?_
  refine xx_nwa ee96_29 rfl (by omega) (a := a + 3) rfl ?_
  first | refine xx_pr ee96_32 rfl rfl (Or.inl rfl) ?_ | refine xx_pr ee96_32 rfl rfl (Or.inr rfl) ?_
  exact xx_rv ee96_35 k
/-- a receiver -/
def cm_rc0 (s : fx_S) (a : Nat) : fx_S := fx_sfr (nwa (fx_sfr (nwa (fx_sfr (nwo (fx_sfr (nwo s (a + 1) 20 3) ff_Receiver_asked a (some (a + 1))) (a + 2) 11 4) ff_Receiver_last a (some (a + 2))) (a + 3) 46 4) ff_Receiver_places a (some (a + 3))) (a + 4) 41 4) ff_Receiver_ready a (some (a + 4))
def cm_rc1 (s : fx_S) (a : Nat) : fx_S := fx_sar (nwo (fx_sar (nwo (fx_sar (nwo (fx_sar (nwo (cm_rc0 s a) (a + 5) 16 3) (a + 3) 0 (some (a + 5))) (a + 6) 16 3) (a + 3) 1 (some (a + 6))) (a + 7) 16 3) (a + 3) 2 (some (a + 7))) (a + 8) 16 3) (a + 3) 3 (some (a + 8))
def cm_rc2 (s : fx_S) (a : Nat) : fx_S := fx_sar (nwo (fx_sar (nwo (fx_sar (nwo (fx_sar (nwo (cm_rc1 s a) (a + 9) 11 4) (a + 4) 0 (some (a + 9))) (a + 10) 11 4) (a + 4) 1 (some (a + 10))) (a + 11) 11 4) (a + 4) 2 (some (a + 11))) (a + 12) 11 4) (a + 4) 3 (some (a + 12))
theorem k_rcI1 (k : Q none (cm_rc2 s a)) : fx_W 93 68 [some (vR 18 (some a)), some (vI (nI 4))] [] (cm_rc1 s a) Q := by
  have e1 : fx_fr (cm_rc1 s a) ff_Receiver_ready a = some (a + 4) := by
    unfold cm_rc1 cm_rc0
    exact (by (repeat (first | rw [fr_same] | rw [fi_same] | rw [ar_same] | rw [n_r1] | rw [n_i1] | rw [n_al1] | rw [n_aa1] | rw [n_r2] | rw [n_i2] | rw [n_l2] | rw [n_a2] | rw [w_fr] | rw [w_fi] | rw [w_l1] | rw [w_l2] | rw [w_a1] | rw [w_a2] | rw [w_i1] | rw [w_i2] | rw [w_i3] | rw [n_r3 (by omega)] | rw [n_i3 (by omega)] | rw [n_l3 (by omega)] | rw [n_a3 (by omega)] | rw [fr_ne (fun q => absurd q.1 (by decide))] | rw [fr_ne (fun q => absurd q.2 (by omega))] | rw [fi_ne (fun q => absurd q.1 (by decide))] | rw [fi_ne (fun q => absurd q.2 (by omega))] | rw [ar_ne (fun q => absurd q.1 (by omega))] | rw [ar_ne (fun q => absurd q.2 (by omega))])); (try first | rfl | assumption))
  have e2 : fx_ln (cm_rc1 s a) (a + 4) = 4 := by
    unfold cm_rc1 cm_rc0
    exact (by (repeat (first | rw [fr_same] | rw [fi_same] | rw [ar_same] | rw [n_r1] | rw [n_i1] | rw [n_al1] | rw [n_aa1] | rw [n_r2] | rw [n_i2] | rw [n_l2] | rw [n_a2] | rw [w_fr] | rw [w_fi] | rw [w_l1] | rw [w_l2] | rw [w_a1] | rw [w_a2] | rw [w_i1] | rw [w_i2] | rw [w_i3] | rw [n_r3 (by omega)] | rw [n_i3 (by omega)] | rw [n_l3 (by omega)] | rw [n_a3 (by omega)] | rw [fr_ne (fun q => absurd q.1 (by decide))] | rw [fr_ne (fun q => absurd q.2 (by omega))] | rw [fi_ne (fun q => absurd q.1 (by decide))] | rw [fi_ne (fun q => absurd q.2 (by omega))] | rw [ar_ne (fun q => absurd q.1 (by omega))] | rw [ar_ne (fun q => absurd q.2 (by omega))])); (try first | rfl | assumption))
  have e3 : fx_nx (cm_rc1 s a) = a + 9 := rfl
  unfold cm_rc2 at k
  generalize cm_rc1 s a = t at *
  refine xx_k ee93_68 0 rfl ?_
  refine xx_j ee93_69 rfl trivial ?_
  refine xx_j ee93_70 rfl trivial ?_
  refine xx_k ee93_71 4 rfl ?_
  refine xx_ge ee93_72 (by omega) (by omega) (fun q => by omega) (fun _ => ?_)
  refine xx_j ee93_75 rfl trivial ?_
  refine xx_gr ee93_76 (show fx_fr _ ff_Receiver_ready a = some (a + 4) from (by (repeat (first | rw [w_fr] | rw [n_r3 (by omega)])); exact e1)) rfl rfl ?_
  refine xx_j ee93_79 rfl trivial ?_
  refine xx_nw ee93_80 rfl rfl (a := a + 9) e3 ?_
  refine xx_j ee93_83 rfl trivial ?_
  refine xx_c ee93_84 rfl (k_arrI ?_)
  first | refine xx_rs ee93_87 (show fx_ln _ (a + 4) = 4 from e2) (by omega) (by decide) rfl (Or.inl rfl) ?_ | refine xx_rs ee93_87 (show fx_ln _ (a + 4) = 4 from e2) (by omega) (by decide) rfl (Or.inr rfl) ?_
  first | refine xx_inc ee93_88 rfl ?_ | refine xx_j ee93_88 rfl trivial ?_
  refine xx_j ee93_91 rfl trivial ?_
  refine xx_j ee93_70 rfl trivial ?_
  refine xx_k ee93_71 4 rfl ?_
  refine xx_ge ee93_72 (by omega) (by omega) (fun q => by omega) (fun _ => ?_)
  refine xx_j ee93_75 rfl trivial ?_
  refine xx_gr ee93_76 (show fx_fr _ ff_Receiver_ready a = some (a + 4) from (by (repeat (first | rw [w_fr] | rw [n_r3 (by omega)])); exact e1)) rfl rfl ?_
  refine xx_j ee93_79 rfl trivial ?_
  refine xx_nw ee93_80 rfl rfl (a := a + 10) rfl ?_
  refine xx_j ee93_83 rfl trivial ?_
  refine xx_c ee93_84 rfl (k_arrI ?_)
  first | refine xx_rs ee93_87 (show fx_ln _ (a + 4) = 4 from e2) (by omega) (by decide) rfl (Or.inl rfl) ?_ | refine xx_rs ee93_87 (show fx_ln _ (a + 4) = 4 from e2) (by omega) (by decide) rfl (Or.inr rfl) ?_
  first | refine xx_inc ee93_88 rfl ?_ | refine xx_j ee93_88 rfl trivial ?_
  refine xx_j ee93_91 rfl trivial ?_
  refine xx_j ee93_70 rfl trivial ?_
  refine xx_k ee93_71 4 rfl ?_
  refine xx_ge ee93_72 (by omega) (by omega) (fun q => by omega) (fun _ => ?_)
  refine xx_j ee93_75 rfl trivial ?_
  refine xx_gr ee93_76 (show fx_fr _ ff_Receiver_ready a = some (a + 4) from (by (repeat (first | rw [w_fr] | rw [n_r3 (by omega)])); exact e1)) rfl rfl ?_
  refine xx_j ee93_79 rfl trivial ?_
  refine xx_nw ee93_80 rfl rfl (a := a + 11) rfl ?_
  refine xx_j ee93_83 rfl trivial ?_
  refine xx_c ee93_84 rfl (k_arrI ?_)
  first | refine xx_rs ee93_87 (show fx_ln _ (a + 4) = 4 from e2) (by omega) (by decide) rfl (Or.inl rfl) ?_ | refine xx_rs ee93_87 (show fx_ln _ (a + 4) = 4 from e2) (by omega) (by decide) rfl (Or.inr rfl) ?_
  first | refine xx_inc ee93_88 rfl ?_ | refine xx_j ee93_88 rfl trivial ?_
  refine xx_j ee93_91 rfl trivial ?_
  refine xx_j ee93_70 rfl trivial ?_
  refine xx_k ee93_71 4 rfl ?_
  refine xx_ge ee93_72 (by omega) (by omega) (fun q => by omega) (fun _ => ?_)
  refine xx_j ee93_75 rfl trivial ?_
  refine xx_gr ee93_76 (show fx_fr _ ff_Receiver_ready a = some (a + 4) from (by (repeat (first | rw [w_fr] | rw [n_r3 (by omega)])); exact e1)) rfl rfl ?_
  refine xx_j ee93_79 rfl trivial ?_
  refine xx_nw ee93_80 rfl rfl (a := a + 12) rfl ?_
  refine xx_j ee93_83 rfl trivial ?_
  refine xx_c ee93_84 rfl (k_arrI ?_)
  first | refine xx_rs ee93_87 (show fx_ln _ (a + 4) = 4 from e2) (by omega) (by decide) rfl (Or.inl rfl) ?_ | refine xx_rs ee93_87 (show fx_ln _ (a + 4) = 4 from e2) (by omega) (by decide) rfl (Or.inr rfl) ?_
  first | refine xx_inc ee93_88 rfl ?_ | refine xx_j ee93_88 rfl trivial ?_
  refine xx_j ee93_91 rfl trivial ?_
  refine xx_j ee93_70 rfl trivial ?_
  refine xx_k ee93_71 4 rfl ?_
  refine xx_ge ee93_72 (by omega) (by omega) (fun _ => ?_) (fun q => by omega)
  exact xx_rv ee93_94 k
theorem k_receiverI (hn : fx_nx s = a + 1) (k : Q none (cm_rc2 s a)) : fx_M mm_Receiver_init [vR 18 (some a)] s Q := by
  refine xx_i ml93 ?_
  refine xx_j ee93_0 rfl trivial ?_
  refine xx_j ee93_1 rfl trivial ?_
  refine xx_j ee93_4 rfl trivial ?_
  refine xx_nw ee93_5 rfl rfl hn ?_
  refine xx_j ee93_8 rfl trivial ?_
  refine xx_c ee93_9 rfl (k_rowI ?_)
  first | refine xx_pr ee93_12 rfl rfl (Or.inl rfl) ?_ | refine xx_pr ee93_12 rfl rfl (Or.inr rfl) ?_
  refine xx_j ee93_15 rfl trivial ?_
  refine xx_nw ee93_16 rfl rfl (a := a + 2) rfl ?_
  refine xx_j ee93_19 rfl trivial ?_
  refine xx_c ee93_20 rfl (k_arrI ?_)
  first | refine xx_pr ee93_23 rfl rfl (Or.inl rfl) ?_ | refine xx_pr ee93_23 rfl rfl (Or.inr rfl) ?_
  refine xx_j ee93_26 rfl trivial ?_
  refine xx_k ee93_27 4 rfl ?_
  refine xx_nwa ee93_28 rfl (by omega) (a := a + 3) rfl ?_
  first | refine xx_pr ee93_31 rfl rfl (Or.inl rfl) ?_ | refine xx_pr ee93_31 rfl rfl (Or.inr rfl) ?_
  refine xx_j ee93_34 rfl trivial ?_
  refine xx_k ee93_35 4 rfl ?_
  refine xx_nwa ee93_36 rfl (by omega) (a := a + 4) rfl ?_
  first | refine xx_pr ee93_39 rfl rfl (Or.inl rfl) ?_ | refine xx_pr ee93_39 rfl rfl (Or.inr rfl) ?_
  have h5 : fx_W 93 68 [some (vR 18 (some a)), some (vI (nI 4))] [] (cm_rc1 s a) Q := k_rcI1 k
  clear k
  have e1 : fx_fr (cm_rc0 s a) ff_Receiver_places a = some (a + 3) := by
    unfold cm_rc0
    exact (by (repeat (first | rw [fr_same] | rw [fi_same] | rw [ar_same] | rw [n_r1] | rw [n_i1] | rw [n_al1] | rw [n_aa1] | rw [n_r2] | rw [n_i2] | rw [n_l2] | rw [n_a2] | rw [w_fr] | rw [w_fi] | rw [w_l1] | rw [w_l2] | rw [w_a1] | rw [w_a2] | rw [w_i1] | rw [w_i2] | rw [w_i3] | rw [n_r3 (by omega)] | rw [n_i3 (by omega)] | rw [n_l3 (by omega)] | rw [n_a3 (by omega)] | rw [fr_ne (fun q => absurd q.1 (by decide))] | rw [fr_ne (fun q => absurd q.2 (by omega))] | rw [fi_ne (fun q => absurd q.1 (by decide))] | rw [fi_ne (fun q => absurd q.2 (by omega))] | rw [ar_ne (fun q => absurd q.1 (by omega))] | rw [ar_ne (fun q => absurd q.2 (by omega))])); (try first | rfl | assumption))
  have e2 : fx_ln (cm_rc0 s a) (a + 3) = 4 := by
    unfold cm_rc0
    exact (by (repeat (first | rw [fr_same] | rw [fi_same] | rw [ar_same] | rw [n_r1] | rw [n_i1] | rw [n_al1] | rw [n_aa1] | rw [n_r2] | rw [n_i2] | rw [n_l2] | rw [n_a2] | rw [w_fr] | rw [w_fi] | rw [w_l1] | rw [w_l2] | rw [w_a1] | rw [w_a2] | rw [w_i1] | rw [w_i2] | rw [w_i3] | rw [n_r3 (by omega)] | rw [n_i3 (by omega)] | rw [n_l3 (by omega)] | rw [n_a3 (by omega)] | rw [fr_ne (fun q => absurd q.1 (by decide))] | rw [fr_ne (fun q => absurd q.2 (by omega))] | rw [fi_ne (fun q => absurd q.1 (by decide))] | rw [fi_ne (fun q => absurd q.2 (by omega))] | rw [ar_ne (fun q => absurd q.1 (by omega))] | rw [ar_ne (fun q => absurd q.2 (by omega))])); (try first | rfl | assumption))
  have e3 : fx_nx (cm_rc0 s a) = a + 5 := rfl
  unfold cm_rc1 at h5
  show fx_W 93 _ _ _ (cm_rc0 s a) Q
  generalize cm_rc0 s a = t at *
  refine xx_k ee93_42 0 rfl ?_
  refine xx_j ee93_43 rfl trivial ?_
  refine xx_j ee93_44 rfl trivial ?_
  refine xx_k ee93_45 4 rfl ?_
  refine xx_ge ee93_46 (by omega) (by omega) (fun q => by omega) (fun _ => ?_)
  refine xx_j ee93_49 rfl trivial ?_
  refine xx_gr ee93_50 (show fx_fr _ ff_Receiver_places a = some (a + 3) from (by (repeat (first | rw [w_fr] | rw [n_r3 (by omega)])); exact e1)) rfl rfl ?_
  refine xx_j ee93_53 rfl trivial ?_
  refine xx_nw ee93_54 rfl rfl (a := a + 5) e3 ?_
  refine xx_j ee93_57 rfl trivial ?_
  refine xx_c ee93_58 rfl (k_plaI ?_)
  first | refine xx_rs ee93_61 (show fx_ln _ (a + 3) = 4 from e2) (by omega) (by decide) rfl (Or.inl rfl) ?_ | refine xx_rs ee93_61 (show fx_ln _ (a + 3) = 4 from e2) (by omega) (by decide) rfl (Or.inr rfl) ?_
  first | refine xx_inc ee93_62 rfl ?_ | refine xx_j ee93_62 rfl trivial ?_
  refine xx_j ee93_65 rfl trivial ?_
  refine xx_j ee93_44 rfl trivial ?_
  refine xx_k ee93_45 4 rfl ?_
  refine xx_ge ee93_46 (by omega) (by omega) (fun q => by omega) (fun _ => ?_)
  refine xx_j ee93_49 rfl trivial ?_
  refine xx_gr ee93_50 (show fx_fr _ ff_Receiver_places a = some (a + 3) from (by (repeat (first | rw [w_fr] | rw [n_r3 (by omega)])); exact e1)) rfl rfl ?_
  refine xx_j ee93_53 rfl trivial ?_
  refine xx_nw ee93_54 rfl rfl (a := a + 6) rfl ?_
  refine xx_j ee93_57 rfl trivial ?_
  refine xx_c ee93_58 rfl (k_plaI ?_)
  first | refine xx_rs ee93_61 (show fx_ln _ (a + 3) = 4 from e2) (by omega) (by decide) rfl (Or.inl rfl) ?_ | refine xx_rs ee93_61 (show fx_ln _ (a + 3) = 4 from e2) (by omega) (by decide) rfl (Or.inr rfl) ?_
  first | refine xx_inc ee93_62 rfl ?_ | refine xx_j ee93_62 rfl trivial ?_
  refine xx_j ee93_65 rfl trivial ?_
  refine xx_j ee93_44 rfl trivial ?_
  refine xx_k ee93_45 4 rfl ?_
  refine xx_ge ee93_46 (by omega) (by omega) (fun q => by omega) (fun _ => ?_)
  refine xx_j ee93_49 rfl trivial ?_
  refine xx_gr ee93_50 (show fx_fr _ ff_Receiver_places a = some (a + 3) from (by (repeat (first | rw [w_fr] | rw [n_r3 (by omega)])); exact e1)) rfl rfl ?_
  refine xx_j ee93_53 rfl trivial ?_
  refine xx_nw ee93_54 rfl rfl (a := a + 7) rfl ?_
  refine xx_j ee93_57 rfl trivial ?_
  refine xx_c ee93_58 rfl (k_plaI ?_)
  first | refine xx_rs ee93_61 (show fx_ln _ (a + 3) = 4 from e2) (by omega) (by decide) rfl (Or.inl rfl) ?_ | refine xx_rs ee93_61 (show fx_ln _ (a + 3) = 4 from e2) (by omega) (by decide) rfl (Or.inr rfl) ?_
  first | refine xx_inc ee93_62 rfl ?_ | refine xx_j ee93_62 rfl trivial ?_
  refine xx_j ee93_65 rfl trivial ?_
  refine xx_j ee93_44 rfl trivial ?_
  refine xx_k ee93_45 4 rfl ?_
  refine xx_ge ee93_46 (by omega) (by omega) (fun q => by omega) (fun _ => ?_)
  refine xx_j ee93_49 rfl trivial ?_
  refine xx_gr ee93_50 (show fx_fr _ ff_Receiver_places a = some (a + 3) from (by (repeat (first | rw [w_fr] | rw [n_r3 (by omega)])); exact e1)) rfl rfl ?_
  refine xx_j ee93_53 rfl trivial ?_
  refine xx_nw ee93_54 rfl rfl (a := a + 8) rfl ?_
  refine xx_j ee93_57 rfl trivial ?_
  refine xx_c ee93_58 rfl (k_plaI ?_)
  first | refine xx_rs ee93_61 (show fx_ln _ (a + 3) = 4 from e2) (by omega) (by decide) rfl (Or.inl rfl) ?_ | refine xx_rs ee93_61 (show fx_ln _ (a + 3) = 4 from e2) (by omega) (by decide) rfl (Or.inr rfl) ?_
  first | refine xx_inc ee93_62 rfl ?_ | refine xx_j ee93_62 rfl trivial ?_
  refine xx_j ee93_65 rfl trivial ?_
  refine xx_j ee93_44 rfl trivial ?_
  refine xx_k ee93_45 4 rfl ?_
  refine xx_ge ee93_46 (by omega) (by omega) (fun _ => ?_) (fun q => by omega)
  exact h5
end
