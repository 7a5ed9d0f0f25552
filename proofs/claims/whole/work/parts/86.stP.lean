/-! THE CLASS: entering, walked -/
section
variable {s : fx_S} {Q : fx_Q} {x m : Nat} {B H P : Nat → Nat} {C : Nat → Nat → Option Nat} {Y : Nat → Nat → Nat} {rt : Nat → List Nat} {K : Nat → Prop} {L : List Nat} {M : rf_M} {lv : Nat → Prop}
theorem k_occupy {b a v p u : Nat} (h1 : fx_fr s ff_Sender_slots (b + 1) = some (b + 4)) (h2 : fx_ln s (b + 4) = 8) (hs : ∀ k, k < 8 → (fx_ar s (b + 4) k = none ↔ rn M ff_Mod_lengths (8 * v + k) = 0)) (hp : sp_first (fun p => rn M ff_Mod_lengths p == 0) (8 * v) 8 = some p) (h4 : fx_fi s ff_Sender_slotsUsed (b + 1) = nI u) (q : Q none (fx_sfi (fx_sfi (fx_sar s (b + 4) (p % 8) (some a)) ff_Packet_slot a (nI (p % 8))) ff_Sender_slotsUsed (b + 1) (nI (u + 1)))) : fx_M mm_Sender_occupySlot [vR 21 (some (b + 1)), vR 15 (some a)] s Q := by
  obtain ⟨p1, p2, p3, p4⟩ := sp_first_some.mp hp
  have p3' : rn M ff_Mod_lengths p = 0 := by simpa using p3
  refine xx_i ml24 ?_
  refine xx_k ee24_0 0 rfl ?_
  refine xx_j ee24_1 rfl trivial ?_
  have key : ∀ d j, j + d = p % 8 → fx_W 24 2 [some (vR 21 (some (b + 1))), some (vR 15 (some a)), some (vI (nI j))] [] s Q := by
    intro d
    induction d with
    | zero =>
      intro j hj
      have hn := (hs j (by omega)).mpr (by rw [show 8 * v + j = p by omega]; exact p3')
      refine xx_j ee24_2 rfl trivial ?_
      refine xx_kb ee24_3 8 rfl ?_
      refine xx_ge ee24_5 (by omega) (by omega) (fun h => by omega) (fun _ => ?_)
      refine xx_j ee24_8 rfl trivial ?_
      refine xx_gr ee24_9 h1 rfl rfl ?_
      refine xx_j ee24_12 rfl trivial ?_
      refine xx_rl ee24_13 h2 (by omega) (by decide) hn rfl ?_
      refine xx_nn ee24_14 (fun b hb => by cases hb) (fun _ => ?_)
      refine xx_j ee24_17 rfl trivial ?_
      refine xx_gr ee24_18 h1 rfl rfl ?_
      refine xx_j ee24_21 rfl trivial ?_
      refine xx_j ee24_22 rfl trivial ?_
      first | refine xx_rs ee24_23 h2 (by omega) (by decide) rfl (Or.inl rfl) ?_ | refine xx_rs ee24_23 h2 (by omega) (by decide) rfl (Or.inr rfl) ?_
      refine xx_j ee24_24 rfl trivial ?_
      refine xx_j ee24_25 rfl trivial ?_
      refine xx_pi ee24_26 rfl ?_
      refine xx_j ee24_29 rfl trivial ?_
      refine xx_j ee24_30 rfl trivial ?_
      refine xx_gi ee24_31 h4 rfl rfl ?_
      refine xx_k ee24_34 1 rfl ?_
      first | refine xx_add ee24_35 ?_ | refine xx_j ee24_35 rfl trivial ?_
      refine xx_pi ee24_36 rfl ?_
      refine xx_rv ee24_39 ?_
      rw [show j = p % 8 by omega]
      exact q
    | succ d ih =>
      intro j hj
      have hne : fx_ar s (b + 4) j ≠ none := fun e => by
        have a1 := (hs j (by omega)).mp e
        have a2 := p4 (8 * v + j) (by omega) (by omega)
        simp [a1] at a2
      refine xx_j ee24_2 rfl trivial ?_
      refine xx_kb ee24_3 8 rfl ?_
      refine xx_ge ee24_5 (by omega) (by omega) (fun h => by omega) (fun _ => ?_)
      refine xx_j ee24_8 rfl trivial ?_
      refine xx_gr ee24_9 h1 rfl rfl ?_
      refine xx_j ee24_12 rfl trivial ?_
      refine xx_rl ee24_13 h2 (by omega) (by decide) rfl rfl ?_
      refine xx_nn ee24_14 (fun c hc => ?_) (fun hn => absurd hn hne)
      first | refine xx_inc ee24_40 rfl ?_ | refine xx_j ee24_40 rfl trivial ?_
      refine xx_j ee24_43 rfl trivial ?_
      exact ih (j + 1) (by omega)
  exact key (p % 8) 0 (by omega)
theorem k_add {b c l F : Nat} (h1 : fx_fr s ff_Node_here b = some c) (h2 : fx_ln s c = 4) (hl : l < 4) (h3 : ∀ j, j < l → fx_ar s c j ≠ none) (h4 : fx_ar s c l = none) (q : Q none (fx_sar s c l (some F))) : fx_M mm_Node_add [vR 14 (some b), vR 12 (some F)] s Q := by
  refine xx_i ml8 ?_
  refine xx_k ee8_0 0 rfl ?_
  refine xx_j ee8_1 rfl trivial ?_
  have key : ∀ d j, j + d = l → fx_W 8 2 [some (vR 14 (some b)), some (vR 12 (some F)), some (vI (nI j))] [] s Q := by
    intro d
    induction d with
    | zero =>
      intro j hj
      obtain rfl : j = l := by omega
      refine xx_j ee8_2 rfl trivial ?_
      refine xx_k ee8_3 4 rfl ?_
      refine xx_ge ee8_4 (by omega) (by omega) (fun h => by omega) (fun _ => ?_)
      refine xx_j ee8_7 rfl trivial ?_
      refine xx_gr ee8_8 h1 rfl rfl ?_
      refine xx_j ee8_11 rfl trivial ?_
      refine xx_rl ee8_12 h2 (by omega) (by decide) h4 rfl ?_
      refine xx_nn ee8_13 (fun b hb => by cases hb) (fun _ => ?_)
      refine xx_j ee8_16 rfl trivial ?_
      refine xx_gr ee8_17 h1 rfl rfl ?_
      refine xx_j ee8_20 rfl trivial ?_
      refine xx_j ee8_21 rfl trivial ?_
      first | refine xx_rs ee8_22 h2 (by omega) (by decide) rfl (Or.inl rfl) ?_ | refine xx_rs ee8_22 h2 (by omega) (by decide) rfl (Or.inr rfl) ?_
      exact xx_rv ee8_23 q
    | succ d ih =>
      intro j hj
      refine xx_j ee8_2 rfl trivial ?_
      refine xx_k ee8_3 4 rfl ?_
      refine xx_ge ee8_4 (by omega) (by omega) (fun h => by omega) (fun _ => ?_)
      refine xx_j ee8_7 rfl trivial ?_
      refine xx_gr ee8_8 h1 rfl rfl ?_
      refine xx_j ee8_11 rfl trivial ?_
      refine xx_rl ee8_12 h2 (by omega) (by decide) rfl rfl ?_
      refine xx_nn ee8_13 (fun c hc => ?_) (fun hn => absurd hn (h3 j (by omega)))
      first | refine xx_inc ee8_24 rfl ?_ | refine xx_j ee8_24 rfl trivial ?_
      refine xx_j ee8_27 rfl trivial ?_
      exact ih (j + 1) (by omega)
  exact key l 0 (by omega)
/-- release, from the choice of the flit on -/
theorem k_rel46 {v p : Nat} {x3 : Option fx_V} (h : RA s x B H C Y P m rt K L M) (hJ : JV M lv) (hv : v < m) (hp : JP M v p) (k : ∀ F, fx_ar s (P p + 1) (rn M ff_Mod_entered p) = some F → Q (some (vR 12 (some F))) (fx_sfr (fx_sfi (fx_sfi (fx_sfi (fx_sfi s ff_Flit_entry F (M ff_Mod_cycle 0)) ff_Flit_attempt F (M ff_Mod_slotTry p)) ff_Packet_entered (P p) (nI (rn M ff_Mod_entered p + 1))) ff_Packet_flitsInNet (P p) (nI (sp_cnt (fun f => spk M f == p) ((rn M ff_Mod_flits 0)) + 1))) ff_Sender_underWay (B v + 1) (if rn M ff_Mod_entered p + 1 < rn M ff_Mod_lengths p then some (P p) else none))) : fx_W mm_Sender_release 46 [some (vR 21 (some (B v + 1))), some (vR 15 (some (P p))), some (vI (M ff_Mod_cycle 0)), x3] [] s Q := by
  obtain ⟨p1, p2, p3, p4, p5, p6, p7⟩ := hp
  have rp := h.p p p1 p3
  have KP := h.o.kp p p1 p3
  have hL9 := hJ.ri.gLl p1
  have eE := hJ.ri.e ff_Mod_entered p (n := 512) rfl p1 (by decide)
  have eL := hJ.ri.e ff_Mod_lengths p (n := 512) rfl p1 (by decide)
  have ne := h.k.fp p (rn M ff_Mod_entered p) p1 p4
  cases hF : fx_ar s (P p + 1) (rn M ff_Mod_entered p) with
  | none => exact absurd hF ne
  | some F =>
    have kk := k F hF
    refine xx_j ee68_46 rfl trivial ?_
    refine xx_gr ee68_47 (h.k.fl _ KP) rfl rfl ?_
    refine xx_j ee68_50 rfl trivial ?_
    refine xx_gi ee68_51 (rp.ent.trans eE) rfl rfl ?_
    refine xx_rl ee68_54 (h.k.ln _ KP) (by omega) (by decide) hF rfl ?_
    refine xx_j ee68_55 rfl trivial ?_
    refine xx_j ee68_56 rfl trivial ?_
    refine xx_j ee68_57 rfl trivial ?_
    refine xx_pi ee68_58 rfl ?_
    refine xx_j ee68_61 rfl trivial ?_
    refine xx_j ee68_62 rfl trivial ?_
    refine xx_gi ee68_63 rp.att rfl rfl ?_
    refine xx_pi ee68_66 rfl ?_
    refine xx_j ee68_69 rfl trivial ?_
    refine xx_j ee68_70 rfl trivial ?_
    refine xx_gi ee68_71 (rp.ent.trans eE) rfl rfl ?_
    refine xx_k ee68_74 1 rfl ?_
    first | refine xx_add ee68_75 ?_ | refine xx_j ee68_75 rfl trivial ?_
    refine xx_pi ee68_76 rfl ?_
    refine xx_j ee68_79 rfl trivial ?_
    refine xx_j ee68_80 rfl trivial ?_
    refine xx_gi ee68_81 rp.fin rfl rfl ?_
    refine xx_k ee68_84 1 rfl ?_
    first | refine xx_add ee68_85 ?_ | refine xx_j ee68_85 rfl trivial ?_
    refine xx_pi ee68_86 rfl ?_
    refine xx_j ee68_89 rfl trivial ?_
    refine xx_j ee68_90 rfl trivial ?_
    refine xx_gi ee68_91 ((fi_ne (fun q => absurd q.1 (by decide))).trans fi_same) rfl rfl ?_
    refine xx_j ee68_94 rfl trivial ?_
    refine xx_gi ee68_95 (rp.len.trans eL) rfl rfl ?_
    refine xx_ge ee68_98 (by omega) (by omega) (fun hge => ?_) (fun hlt => ?_)
    · rw [if_neg (by omega)] at kk
      refine xx_j ee68_105 rfl trivial ?_
      first | refine xx_pr ee68_106 rfl rfl (Or.inl rfl) ?_ | refine xx_pr ee68_106 rfl rfl (Or.inr rfl) ?_
      refine xx_j ee68_109 rfl trivial ?_
      exact xx_ra ee68_110 kk
    · rw [if_pos hlt] at kk
      refine xx_j ee68_101 rfl trivial ?_
      refine xx_j ee68_102 rfl trivial ?_
      first | refine xx_pr ee68_106 rfl rfl (Or.inl rfl) ?_ | refine xx_pr ee68_106 rfl rfl (Or.inr rfl) ?_
      refine xx_j ee68_109 rfl trivial ?_
      exact xx_ra ee68_110 kk
/-- the packet on its way -/
theorem k_relA {v p : Nat} (h : RA s x B H C Y P m rt K L M) (hJ : JV M lv) (hv : v < (rn M ff_Mod_all 0)) (hp : JP M v p) (k : ∀ F, fx_ar s (P p + 1) (rn M ff_Mod_entered p) = some F → Q (some (vR 12 (some F))) (fx_sfr (fx_sfi (fx_sfi (fx_sfi (fx_sfi s ff_Flit_entry F (M ff_Mod_cycle 0)) ff_Flit_attempt F (M ff_Mod_slotTry p)) ff_Packet_entered (P p) (nI (rn M ff_Mod_entered p + 1))) ff_Packet_flitsInNet (P p) (nI (sp_cnt (fun f => spk M f == p) ((rn M ff_Mod_flits 0)) + 1))) ff_Sender_underWay (B v + 1) (if rn M ff_Mod_entered p + 1 < rn M ff_Mod_lengths p then some (P p) else none))) : fx_M mm_Sender_release [vR 21 (some (B v + 1)), vR 15 (some (P p)), vI (M ff_Mod_cycle 0)] s Q := by
  have h64 := hJ.all64
  have hvm : v < m := Nat.lt_of_lt_of_le hv h.nm
  have nd := h.sk.b v hvm
  have hrow := h.r.row _ (ISR.g (x := x) (B := B) hvm)
  have hwr := h.r.row _ (ISR.w (x := x) (B := B) hvm)
  have hp' := hp
  obtain ⟨p1, p2, p3, p4, p5, p6, p7⟩ := hp
  refine xx_i ml68 ?_
  refine xx_j ee68_0 rfl trivial ?_
  refine xx_j ee68_1 rfl trivial ?_
  refine xx_gr ee68_2 nd.again rfl rfl ?_
  refine xx_gr ee68_5 hrow.1 rfl rfl ?_
  refine xx_an ee68_8 (fun _ => ?_) (fun he => ?_)
  · refine xx_j ee68_22 rfl trivial ?_
    refine xx_j ee68_23 rfl trivial ?_
    refine xx_gr ee68_24 nd.wait rfl rfl ?_
    refine xx_gr ee68_27 hwr.1 rfl rfl ?_
    refine xx_an ee68_30 (fun _ => ?_) (fun he => ?_)
    · exact k_rel46 h hJ hvm hp' k
    · exfalso
      cases hw : rt (B v + 2) with
      | nil => rw [hw] at he; cases he
      | cons a t =>
        rw [hw] at he
        have : P p = a := Option.some.inj he
        exact h.w.nP h.p p1 p3 hvm (by rw [hw, this]; simp)
  · exfalso
    have hag := h.x.ag v hvm hv
    cases hN : rn M ff_Mod_agains v with
    | zero => rw [hN] at hag; rw [hag] at he; cases he
    | succ n =>
      rw [hN, List.range_succ_eq_map, List.map_cons] at hag
      rw [hag] at he
      have e : P p = P (rn M ff_Mod_again (8 * v + 0)) := Option.some.inj he
      have j11 := hJ.j11 v 0 hv (by omega)
      exact p7 0 (by omega) (h.p.inj (hJ.ri.aRl (by omega)) p1 j11.2.1 p3 e.symm)
/-- the first of those that go again -/
theorem k_relB {v : Nat} (h : RA s x B H C Y P m rt K L M) (hJ : JV M lv) (hJ' : JV (om_unag M v) lv) (hv : v < (rn M ff_Mod_all 0)) (ha : 0 < rn M ff_Mod_agains v) (hp : JP (om_unag M v) v (rn M ff_Mod_again (8 * v))) (k : ∀ s2 rt2 F, CK x s s2 → RA s2 x B H C Y P m rt2 K L (om_unag M v) → fx_ar s2 (P (rn M ff_Mod_again (8 * v)) + 1) (rn (om_unag M v) ff_Mod_entered (rn M ff_Mod_again (8 * v))) = some F → Q (some (vR 12 (some F))) (fx_sfr (fx_sfi (fx_sfi (fx_sfi (fx_sfi s2 ff_Flit_entry F (om_unag M v ff_Mod_cycle 0)) ff_Flit_attempt F (om_unag M v ff_Mod_slotTry (rn M ff_Mod_again (8 * v)))) ff_Packet_entered (P (rn M ff_Mod_again (8 * v))) (nI (rn (om_unag M v) ff_Mod_entered (rn M ff_Mod_again (8 * v)) + 1))) ff_Packet_flitsInNet (P (rn M ff_Mod_again (8 * v))) (nI (sp_cnt (fun f => spk (om_unag M v) f == rn M ff_Mod_again (8 * v)) ((rn (om_unag M v) ff_Mod_flits 0)) + 1))) ff_Sender_underWay (B v + 1) (if rn (om_unag M v) ff_Mod_entered (rn M ff_Mod_again (8 * v)) + 1 < rn (om_unag M v) ff_Mod_lengths (rn M ff_Mod_again (8 * v)) then some (P (rn M ff_Mod_again (8 * v))) else none))) : fx_M mm_Sender_release [vR 21 (some (B v + 1)), vR 15 (some (P (rn M ff_Mod_again (8 * v)))), vI (M ff_Mod_cycle 0)] s Q := by
  have hvm : v < m := Nat.lt_of_lt_of_le hv h.nm
  have nd := h.sk.b v hvm
  have hrow := h.r.row _ (ISR.g (x := x) (B := B) hvm)
  have hag := h.x.ag v hvm hv
  have hN : rn M ff_Mod_agains v = (rn M ff_Mod_agains v - 1) + 1 := by omega
  rw [hN, List.range_succ_eq_map, List.map_cons] at hag
  have hfst : fx_fr s ff_Row_first (B v + 3) = some (P (rn M ff_Mod_again (8 * v))) := by rw [hrow.1, hag]; rfl
  refine xx_i ml68 ?_
  refine xx_j ee68_0 rfl trivial ?_
  refine xx_j ee68_1 rfl trivial ?_
  refine xx_gr ee68_2 nd.again rfl rfl ?_
  refine xx_gr ee68_5 hfst rfl rfl ?_
  refine xx_an ee68_8 (fun hne => absurd rfl hne) (fun _ => ?_)
  refine xx_j ee68_11 rfl trivial ?_
  refine xx_gr ee68_12 nd.again rfl rfl ?_
  refine xx_c ee68_15 rfl (k_rmf h.r (ISR.g hvm) (fun he => by rw [hag] at he; cases he) (fun a t nx fi la sz ht hR hout => ?_))
  have ea : a = P (rn M ff_Mod_again (8 * v)) := by
    rw [hag] at ht
    exact (List.cons.inj ht).1.symm
  subst ea
  have hA := h.unag hJ.ri hv ha ht hR
  refine xx_j ee68_18 rfl trivial ?_
  refine xx_j ee68_19 rfl trivial ?_
  have ec : om_unag M v ff_Mod_cycle 0 = M ff_Mod_cycle 0 := by unfold om_unag; rw [om_sh_ne (by decide), fx_up_ne (fun w => absurd w.1 (by decide))]
  have := k_rel46 (Q := Q) (x3 := none) hA hJ' hvm hp (fun F hF => k _ _ F ((CK.rf x s).srow) hA hF)
  rw [ec] at this
  exact this
/-- the first one that waits -/
theorem k_relC {v p a : Nat} {t : List Nat} (h : RA s x B H C Y P m rt K L M) (hJ : JV M lv) (hL : ∀ k, k ∈ L → lv k) (hJ' : JV (om_unwt M v p) lv) (hv : v < (rn M ff_Mod_all 0)) (hfs : sp_first (fun p => rn M ff_Mod_lengths p == 0) (8 * v) 8 = some p) (hw : rt (B v + 2) = a :: t) (hp : JP (om_unwt M v p) v p) (k : ∀ s2 rt2 F, CK x s s2 → RA s2 x B H C Y (fn_up P p a) m rt2 K L (om_unwt M v p) → fx_ar s2 (a + 1) (rn (om_unwt M v p) ff_Mod_entered p) = some F → Q (some (vR 12 (some F))) (fx_sfr (fx_sfi (fx_sfi (fx_sfi (fx_sfi s2 ff_Flit_entry F (om_unwt M v p ff_Mod_cycle 0)) ff_Flit_attempt F (om_unwt M v p ff_Mod_slotTry p)) ff_Packet_entered a (nI (rn (om_unwt M v p) ff_Mod_entered p + 1))) ff_Packet_flitsInNet a (nI (sp_cnt (fun f => spk (om_unwt M v p) f == p) ((rn (om_unwt M v p) ff_Mod_flits 0)) + 1))) ff_Sender_underWay (B v + 1) (if rn (om_unwt M v p) ff_Mod_entered p + 1 < rn (om_unwt M v p) ff_Mod_lengths p then some a else none))) : fx_M mm_Sender_release [vR 21 (some (B v + 1)), vR 15 (some a), vI (M ff_Mod_cycle 0)] s Q := by
  have h64 := hJ.all64
  have hvm : v < m := Nat.lt_of_lt_of_le hv h.nm
  have hin := h.sk.c.in_ v hvm
  have nd := h.sk.b v hvm
  have hrow := h.r.row _ (ISR.g (x := x) (B := B) hvm)
  have hwr := h.r.row _ (ISR.w (x := x) (B := B) hvm)
  have hfst : fx_fr s ff_Row_first (B v + 2) = some a := by rw [hwr.1, hw]; rfl
  obtain ⟨q1, q2, q3, -⟩ := sp_first_some.mp hfs
  have q3' : rn M ff_Mod_lengths p = 0 := by simpa using q3
  refine xx_i ml68 ?_
  refine xx_j ee68_0 rfl trivial ?_
  refine xx_j ee68_1 rfl trivial ?_
  refine xx_gr ee68_2 nd.again rfl rfl ?_
  refine xx_gr ee68_5 hrow.1 rfl rfl ?_
  refine xx_an ee68_8 (fun _ => ?_) (fun he => ?_)
  · refine xx_j ee68_22 rfl trivial ?_
    refine xx_j ee68_23 rfl trivial ?_
    refine xx_gr ee68_24 nd.wait rfl rfl ?_
    refine xx_gr ee68_27 hfst rfl rfl ?_
    refine xx_an ee68_30 (fun hne => absurd rfl hne) (fun _ => ?_)
    refine xx_j ee68_33 rfl trivial ?_
    refine xx_gr ee68_34 nd.wait rfl rfl ?_
    refine xx_c ee68_37 rfl (k_rmf h.r (ISR.w hvm) (fun he => by rw [hw] at he; cases he) (fun a' t' nx fi la sz ht hR hout => ?_))
    rw [hw] at ht
    obtain ⟨ea, et⟩ := List.cons.inj ht
    subst ea; subst et
    refine xx_j ee68_40 rfl trivial ?_
    refine xx_j ee68_41 rfl trivial ?_
    refine xx_j ee68_42 rfl trivial ?_
    have hsl : ∀ k, k < 8 → (fx_ar (fx_srow s nx fi la sz) (B v + 4) k = none ↔ rn M ff_Mod_lengths (8 * v + k) = 0) := by
      intro k hk
      have e : fx_ar (fx_srow s nx fi la sz) (B v + 4) k = if 0 < rn M ff_Mod_lengths (8 * v + k) then some (P (8 * v + k)) else none := h.s.sl v k hvm hk
      rw [e]
      by_cases c : 0 < rn M ff_Mod_lengths (8 * v + k)
      · rw [if_pos c]; exact ⟨fun q => (by cases q), fun q => by omega⟩
      · rw [if_neg c]; exact ⟨fun _ => by omega, fun _ => rfl⟩
    have hus : fx_fi (fx_srow s nx fi la sz) ff_Sender_slotsUsed (B v + 1) = nI (suse M v) := h.s.used v hvm
    refine xx_c ee68_43 rfl (k_occupy (M := M) nd.slots nd.lslots hsl hfs hus ?_)
    have hA := h.unwt hJ hL hv (by omega) (by omega) q3' hw (y1 := nI (p % 8)) (y2 := nI (suse M v + 1)) rfl rfl hR
    have ec : om_unwt M v p ff_Mod_cycle 0 = M ff_Mod_cycle 0 := unwt_v (by decide) (by decide) (by decide) (by decide) (by decide) (by decide) (by decide) (by decide) (by decide) (by decide)
    have hC : CK x s (fx_sfi (fx_sfi (fx_sar (fx_srow s nx fi la sz) (B v + 4) (p % 8) (some a)) ff_Packet_slot a (nI (p % 8))) ff_Sender_slotsUsed (B v + 1) (nI (suse M v + 1))) := ((((CK.rf x s).srow).sar).sfi (by decide)).sfi (by decide)
    have hpa : fn_up P p a p = a := fn_same
    have := k_rel46 (Q := Q) (x3 := none) hA hJ' hvm hp (fun F hF => by
      rw [hpa] at hF ⊢
      exact k _ _ F hC hA hF)
    rw [ec, hpa] at this
    exact this
  · exfalso
    cases hw3 : rt (B v + 3) with
    | nil => rw [hw3] at he; cases he
    | cons c t3 =>
      rw [hw3] at he
      have e : a = c := Option.some.inj he
      have := h.r.dj _ _ a (ISR.g hvm) (ISR.w hvm) (by rw [hw3, e]; simp) (by rw [hw]; simp)
      omega
end
