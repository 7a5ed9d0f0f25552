/-! THE CLASS: finish -/
section
variable {s : fx_S} {Q : fx_Q} {x m : Nat} {B H P : Nat → Nat} {C : Nat → Nat → Option Nat} {Y : Nat → Nat → Nat} {rt : Nat → List Nat} {K : Nat → Prop} {L : List Nat} {M : rf_M} {lv : Nat → Prop}
/-- as CF, and what is golden stays -/
def CK (x : Nat) (s t : fx_S) : Prop := CF x s t ∧ ∀ f a, 448 ≤ f → f < 451 → fx_fi t f a = fx_fi s f a
theorem CK.rf (x : Nat) (s : fx_S) : CK x s s := ⟨CF.rf x s, fun _ _ _ _ => rfl⟩
theorem CK.tr {s t u : fx_S} (h : CK x s t) (g : CK x t u) : CK x s u := ⟨h.1.tr g.1, fun f a h1 h2 => (g.2 f a h1 h2).trans (h.2 f a h1 h2)⟩
theorem CK.sfi {s t : fx_S} {f a : Nat} {v : Int32} (h : CK x s t) (hf : f < 448 ∨ (451 ≤ f ∧ f < 768)) : CK x s (fx_sfi t f a v) := ⟨h.1.sfi (by omega), fun g b h1 h2 => by rw [fi_ne (fun q => by omega)]; exact h.2 g b h1 h2⟩
theorem CK.sfr {s t : fx_S} {f a : Nat} {v : Option Nat} (h : CK x s t) (hf : f < 768) : CK x s (fx_sfr t f a v) := ⟨h.1.sfr hf, h.2⟩
theorem CK.sar {s t : fx_S} {a i : Nat} {v : Option Nat} (h : CK x s t) : CK x s (fx_sar t a i v) := ⟨h.1.sar, h.2⟩
theorem CK.srow {s t : fx_S} {nx fi la : Nat → Option Nat} {sz : Nat → Int32} (h : CK x s t) : CK x s (fx_srow t nx fi la sz) := ⟨h.1.srow, fun f a h1 h2 => by
  show (if f = ff_Row_size then sz a else fx_fi t f a) = _
  rw [if_neg (by have : ff_Row_size = 641 := rfl; omega)]
  exact h.2 f a h1 h2⟩
theorem CK.gf {s t u : fx_S} (h : CK x s t) (g : GF x t u) : CK x s u := ⟨h.1.gf g, fun f a h1 h2 => by rw [g.2.2.2.2.2.2.2.1 f a (by omega)]; exact h.2 f a h1 h2⟩
theorem CK.go {s t : fx_S} {g : Nat} (h : CK x s t) (hg : RGo s x g) : RGo t x g := ⟨by rw [h.2 _ _ (by decide) (by decide)]; exact hg.1, by rw [h.2 _ _ (by decide) (by decide)]; exact hg.2.1, by rw [h.2 _ _ (by decide) (by decide)]; exact hg.2.2⟩
theorem k_pclear {b : Nat} (k : Q none (fx_sfr s ff_Place_packet b none)) : fx_M mm_Place_clear [vR 16 (some b)] s Q := by
  refine xx_i ml11 ?_
  refine xx_j ee11_0 rfl trivial ?_
  refine xx_j ee11_1 rfl trivial ?_
  first | refine xx_pr ee11_2 rfl rfl (Or.inl rfl) ?_ | refine xx_pr ee11_2 rfl rfl (Or.inr rfl) ?_
  exact xx_rv ee11_5 k
theorem k_keepFor {b : Nat} {a : Option Nat} {t : Int32} (k : Q none (fx_sfi (fx_sfi (fx_sfr s ff_Place_packet b a) ff_Place_attempt b t) ff_Place_joined b (nI 0))) : fx_M mm_Place_keepFor [vR 16 (some b), vR 15 a, vI t] s Q := by
  refine xx_i ml13 ?_
  refine xx_j ee13_0 rfl trivial ?_
  refine xx_j ee13_1 rfl trivial ?_
  first | refine xx_pr ee13_2 rfl rfl (Or.inl rfl) ?_ | refine xx_pr ee13_2 rfl rfl (Or.inr rfl) ?_
  refine xx_j ee13_5 rfl trivial ?_
  refine xx_j ee13_6 rfl trivial ?_
  refine xx_pi ee13_7 rfl ?_
  refine xx_j ee13_10 rfl trivial ?_
  refine xx_k ee13_11 0 rfl ?_
  refine xx_pi ee13_12 rfl ?_
  exact xx_rv ee13_15 k
theorem k_isFull {b j l : Nat} {o : Option Nat} (h1 : fx_fr s ff_Place_packet b = o) (h2 : ∀ a, o = some a → fx_fi s ff_Place_joined b = nI j ∧ fx_fi s ff_Packet_length a = nI l) (hj : j < 2 ^ 31) (hl : l < 2 ^ 31) (k : Q (some (vI (fx_bit (o.isSome && decide (l ≤ j))))) s) : fx_M mm_Place_isFull [vR 16 (some b)] s Q := by
  refine xx_i ml12 ?_
  refine xx_j ee12_0 rfl trivial ?_
  refine xx_gr ee12_1 h1 rfl rfl ?_
  refine xx_nu ee12_4 (fun hn => ?_) (fun a ha => ?_)
  · rw [hn] at k
    refine xx_k ee12_25 0 rfl ?_
    exact xx_t fx_bit_f (xx_rz ee12_26 k)
  · obtain ⟨e1, e2⟩ := h2 a ha
    rw [ha] at k h1
    refine xx_j ee12_7 rfl trivial ?_
    refine xx_gi ee12_8 e1 rfl rfl ?_
    refine xx_j ee12_11 rfl trivial ?_
    refine xx_gr ee12_12 h1 rfl rfl ?_
    refine xx_gi ee12_15 e2 rfl rfl ?_
    refine xx_lt ee12_18 hj hl (fun hlt => ?_) (fun hge => ?_)
    · have e : (Option.isSome (some a) && decide (l ≤ j)) = false := by simpa using hlt
      rw [e] at k
      refine xx_k ee12_25 0 rfl ?_
      exact xx_t fx_bit_f (xx_rz ee12_26 k)
    · have e : (Option.isSome (some a) && decide (l ≤ j)) = true := by simpa using hge
      rw [e] at k
      refine xx_k ee12_21 1 rfl ?_
      refine xx_j ee12_22 rfl trivial ?_
      exact xx_t fx_bit_t (xx_rz ee12_26 k)
theorem k_makeReady {b a w n : Nat} {y1 y2 y3 y4 : Int32} (h1 : fx_fr s ff_Receiver_ready (b + 5) = some (b + 9)) (h2 : fx_ln s (b + 9) = 4) (h3 : fx_fi s ff_Receiver_readyCount (b + 5) = nI n) (hn : n < 4) (h4 : fx_ar s (b + 9) n = some w) (e1 : fx_fi s ff_Packet_source a = y1) (e2 : fx_fi s ff_Packet_length a = y2) (e4 : fx_fi s ff_Packet_tag a = y4) (k : Q none (fx_sfi (fx_sfi (fx_sfi (fx_sfi (fx_sfi s ff_Arrival_source w y1) ff_Arrival_length w y2) ff_Arrival_attempt w y3) ff_Arrival_tag w y4) ff_Receiver_readyCount (b + 5) (nI (n + 1)))) : fx_M mm_Receiver_makeReady [vR 18 (some (b + 5)), vR 15 (some a), vI y3] s Q := by
  refine xx_i ml17 ?_
  refine xx_j ee17_0 rfl trivial ?_
  refine xx_gr ee17_1 h1 rfl rfl ?_
  refine xx_j ee17_4 rfl trivial ?_
  refine xx_gi ee17_5 h3 rfl rfl ?_
  refine xx_rl ee17_8 h2 (by omega) (by decide) h4 rfl ?_
  refine xx_j ee17_9 rfl trivial ?_
  refine xx_j ee17_10 rfl trivial ?_
  refine xx_j ee17_11 rfl trivial ?_
  refine xx_gi ee17_12 e1 rfl rfl ?_
  refine xx_pi ee17_15 rfl ?_
  refine xx_j ee17_18 rfl trivial ?_
  refine xx_j ee17_19 rfl trivial ?_
  refine xx_gi ee17_20 e2 rfl rfl ?_
  refine xx_pi ee17_23 rfl ?_
  refine xx_j ee17_26 rfl trivial ?_
  refine xx_j ee17_27 rfl trivial ?_
  refine xx_pi ee17_28 rfl ?_
  refine xx_j ee17_31 rfl trivial ?_
  refine xx_j ee17_32 rfl trivial ?_
  refine xx_gi ee17_33 e4 rfl rfl ?_
  refine xx_pi ee17_36 rfl ?_
  refine xx_j ee17_39 rfl trivial ?_
  refine xx_j ee17_40 rfl trivial ?_
  refine xx_gi ee17_41 h3 rfl rfl ?_
  refine xx_k ee17_44 1 rfl ?_
  first | refine xx_add ee17_45 ?_ | refine xx_j ee17_45 rfl trivial ?_
  refine xx_pi ee17_46 rfl ?_
  exact xx_rv ee17_49 k
theorem sh_up {f g b n j : Nat} {y : Int32} (h : g ≠ f) : fx_up (om_sh M f b n) g j y = om_sh (fx_up M g j y) f b n := by
  funext k l
  by_cases c : k = f
  · subst c
    rw [fx_up_ne (fun q => h q.1.symm)]
    by_cases d : b ≤ l ∧ l < b + n
    · rw [om_sh_in d.1 d.2, om_sh_in d.1 d.2, fx_up_ne (fun q => h q.1.symm)]
    · rw [om_sh_out (by omega), om_sh_out (by omega), fx_up_ne (fun q => h q.1.symm)]
  · rw [om_sh_ne c]
    by_cases d : k = g ∧ l = j
    · obtain ⟨d1, d2⟩ := d
      subst d1; subst d2
      rw [fx_up_same, fx_up_same]
    · rw [fx_up_ne d, fx_up_ne d, om_sh_ne c]
theorem note_row {v p u : Nat} {d : Bool} {y : Int32} {n : Nat} : om_note (om_sh (fx_up M ff_Mod_rowSize u y) ff_Mod_row (512 * u) n) v p d = om_sh (fx_up (om_note M v p d) ff_Mod_rowSize u y) ff_Mod_row (512 * u) n := by
  have e : ∀ g i, g ≠ ff_Mod_row → g ≠ ff_Mod_rowSize → rn (om_sh (fx_up M ff_Mod_rowSize u y) ff_Mod_row (512 * u) n) g i = rn M g i := fun g i h1 h2 => rn_eq (by rw [om_sh_ne h1, fx_up_ne (fun q => h2 q.1)])
  unfold om_note
  rw [e _ _ (by decide) (by decide), e _ _ (by decide) (by decide), e _ _ (by decide) (by decide), sh_up (by decide), sh_up (by decide), sh_up (by decide), sh_up (by decide), fx_up_comm (f := ff_Mod_rowSize) (g := ff_Mod_noteSlot) (by decide), fx_up_comm (f := ff_Mod_rowSize) (g := ff_Mod_noteDone) (by decide), fx_up_comm (f := ff_Mod_rowSize) (g := ff_Mod_noteDue) (by decide), fx_up_comm (f := ff_Mod_rowSize) (g := ff_Mod_notes) (by decide)]
theorem fill_unr {v k q : Nat} (hq : q = rn M ff_Mod_row (512 * v)) : om_note (fx_up (fx_up (fx_up (om_unr M v) ff_Mod_whose k (nI q)) ff_Mod_whichTry k (nI 2)) ff_Mod_has k (nI 0)) v q false = om_fill M v k := by
  unfold om_unr om_fill
  try dsimp only
  rw [hq, sh_up (by decide), sh_up (by decide), sh_up (by decide), fx_up_comm (f := ff_Mod_rowSize) (g := ff_Mod_whose) (by decide), fx_up_comm (f := ff_Mod_rowSize) (g := ff_Mod_whichTry) (by decide), fx_up_comm (f := ff_Mod_rowSize) (g := ff_Mod_has) (by decide), note_row]
theorem rd0_o {v k p g i : Nat} (h : g < 799 ∨ 809 ≤ g) : om_rd0 M v k p g i = M g i := by
  have key : ∀ f, 799 ≤ f → f < 809 → g ≠ f := by omega
  unfold om_rd0
  rw [fx_up_ne (fun q => key _ (by decide) (by decide) q.1), fx_up_ne (fun q => key _ (by decide) (by decide) q.1), fx_up_ne (fun q => key _ (by decide) (by decide) q.1), fx_up_ne (fun q => key _ (by decide) (by decide) q.1), fx_up_ne (fun q => key _ (by decide) (by decide) q.1), fx_up_ne (fun q => key _ (by decide) (by decide) q.1)]
theorem RI.rd0 {v k p : Nat} (hI : RI M) (hv : v < 64) (hk : k < 256) (hp : p < 512) (hy : rn M ff_Mod_readySize v < 4) : RI (om_rd0 M v k p) := by
  have h1 := hI.gLl hp
  have h2 := hI.l ff_Mod_whichTry k 1000 (n := 256) rfl hk rfl (by omega)
  exact (((((hI.raw rfl (by decide) (by decide)).up (b := 64) rfl (by omega) (by decide) (by decide)).up (b := 9) rfl h1 (by decide) (by decide)).up (b := 1000) rfl h2 (by decide) (by decide)).up (b := 5) rfl (by omega) (by decide) (by decide)).upw (Or.inl rfl)
theorem k_finish {v i p : Nat} (h : RA s x B H C Y P m rt K (List.range ((rn M ff_Mod_notes 0))) M) (hJ : JV M (fun k => k < (rn M ff_Mod_notes 0))) (hN : JN M) (hv : v < (rn M ff_Mod_all 0)) (hi : i < 4) (hp : oz (M ff_Mod_whose (4 * v + i)) = some p) (k : ∀ s' rt', CK x s s' → RA s' x B H C Y P m rt' K (List.range ((rn (bif sfull M v (4 * v + i) then om_fin M v (4 * v + i) else M) ff_Mod_notes 0))) (bif sfull M v (4 * v + i) then om_fin M v (4 * v + i) else M) → Q none s') : fx_M mm_Torus_finish [vR 10 (some x), vR 18 (some (B v + 5)), vR 16 (some (B v + 10 + i))] s Q := by
  obtain ⟨n2, n9, nn⟩ := hJ.n2
  have h64 := hJ.all64
  have hvm : v < m := Nat.lt_of_lt_of_le hv h.nm
  have hk256 : 4 * v + i < 256 := by omega
  have nd := h.sk.b v hvm
  have rv := h.v v hvm
  obtain ⟨w1, w2, hp5⟩ := pW_some hJ.ri hk256 hp
  obtain ⟨p1, p2, p3, p4, p5, p6⟩ := hJ.j8 _ p hk256 hp
  have rp := h.p p hp5 p1
  have hL9 := hJ.ri.gLl hp5
  have eL := hJ.ri.e ff_Mod_lengths p (n := 512) rfl hp5 (by decide)
  have hpk := rv.pk i hi
  rw [hp] at hpk
  have hpj := rv.pj i hi (by rw [hp]; exact fun q => by cases q)
  have hpa := rv.pa i hi (by rw [hp]; exact fun q => by cases q)
  have hc8 : pcn (rn M ff_Mod_has (4 * v + i)) ≤ 8 := sp_cnt_le _ _
  have hy5 := hJ.ri.yNl (v := v) (by omega)
  have eY : fx_fi s ff_Receiver_readyCount (B v + 5) = nI (rn M ff_Mod_readySize v) := rv.cnt.trans (hJ.ri.e ff_Mod_readySize v (n := 64) rfl (by omega) (by decide))
  have hnn := hJ.nr512 hv
  have sf : sfull M v (4 * v + i) = (decide (rn M ff_Mod_lengths p ≤ pcn (rn M ff_Mod_has (4 * v + i))) && !(rn M ff_Mod_readySize v == 4)) := by
    rw [sfull_eq hJ.ri hk256]
    congr 1
    unfold pfull
    rw [hp]
    show (rn M ff_Mod_has (4 * v + i) == 2 ^ rn M ff_Mod_lengths p - 1) = _
    rw [Bool.eq_iff_iff, decide_eq_true_eq, beq_iff_eq]
    exact (pcn_full hL9 p4).symm
  have no : sfull M v (4 * v + i) = false → fx_W 104 15 [some (vR 10 (some x)), some (vR 18 (some (B v + 5))), some (vR 16 (some (B v + 10 + i))), none, none] [] s Q := by
    intro e
    rw [e] at k
    exact xx_rv ee104_15 (k s rt (CK.rf x s) h)
  refine xx_i ml104 ?_
  refine xx_j ee104_0 rfl trivial ?_
  refine xx_c ee104_1 rfl (k_isFull (j := pcn (rn M ff_Mod_has (4 * v + i))) (l := rn M ff_Mod_lengths p) hpk (fun a ha => ⟨hpj, by cases ha; exact rp.len.trans eL⟩) (by omega) (by omega) ?_)
  refine xx_z ee104_4 (fun hz => no (by rw [sf]; have : decide (rn M ff_Mod_lengths p ≤ pcn (rn M ff_Mod_has (4 * v + i))) = false := hz; rw [this]; rfl)) (fun hfl => ?_)
  have hfl' : decide (rn M ff_Mod_lengths p ≤ pcn (rn M ff_Mod_has (4 * v + i))) = true := hfl
  refine xx_j ee104_7 rfl trivial ?_
  refine xx_gi ee104_8 eY rfl rfl ?_
  refine xx_k ee104_11 4 rfl ?_
  refine xx_lt ee104_12 (by omega) (by omega) (fun hlt => ?_) (fun hge => no (by rw [sf, show (rn M ff_Mod_readySize v == 4) = true by simpa using (show rn M ff_Mod_readySize v = 4 by omega)]; simp))
  have hsf : sfull M v (4 * v + i) = true := by rw [sf, hfl', show (rn M ff_Mod_readySize v == 4) = false by simpa using (show rn M ff_Mod_readySize v ≠ 4 by omega)]; rfl
  rw [hsf, cond_true] at k
  have hfull : rn M ff_Mod_has (4 * v + i) = 2 ^ rn M ff_Mod_lengths p - 1 := (pcn_full hL9 p4).mp (by simpa using hfl')
  obtain ⟨u1, u2, u3, u4, u5⟩ := hJ.full hk256 hp hfull
  have hJr := hJ.ready hv hk256 hp hfull hlt
  have hpA : p / 8 < (rn M ff_Mod_all 0) := (hJ.j6 p hp5 p1).2.2.2.2
  have hout := h.out hJ (fun k hk => List.mem_range.mp hk) hp5 p1 (fun a j ha hj q => by
    have := (hJ.j11 a j ha hj).2.2.2
    rw [q] at this
    omega) (fun a j ha hj q => (hJ.j9 a j ha hj).2.2.2.2 _ hk256 (by rw [q]; exact hp)) (fun k hk => u4 k (List.mem_range.mp hk))
  refine xx_j ee104_16 rfl trivial ?_
  refine xx_gr ee104_17 hpk rfl rfl ?_
  refine xx_j ee104_20 rfl trivial ?_
  refine xx_j ee104_21 rfl trivial ?_
  refine xx_j ee104_22 rfl trivial ?_
  refine xx_j ee104_23 rfl trivial ?_
  refine xx_gi ee104_24 hpa rfl rfl ?_
  have eT : M ff_Mod_whichTry (4 * v + i) = nI (rn M ff_Mod_whichTry (4 * v + i)) := hJ.ri.e ff_Mod_whichTry _ (n := 256) rfl hk256 (by decide)
  refine xx_c ee104_27 rfl (k_makeReady nd.ready nd.lrd eY hlt (rv.yr _ hlt) rp.src rp.len rp.tag ?_)
  refine xx_j ee104_30 rfl trivial ?_
  refine xx_c ee104_31 rfl (k_pclear ?_)
  have hA1 := h.mkr (p := p) (y1 := nI (p / 8)) (y2 := M ff_Mod_lengths p) (y3 := M ff_Mod_whichTry (4 * v + i)) (y4 := M ff_Mod_tags p) (y5 := nI (rn M ff_Mod_readySize v + 1)) hJ.ri hvm hi hlt rfl rfl eL eT rfl rfl
  have hI1 := hJ.ri.rd0 (v := v) (p := p) (by omega) hk256 hp5 hlt
  have hN1 : JN (om_rd0 M v (4 * v + i) p) := hN.to (fun j => rd0_o (by decide)) (fun j => rd0_o (by decide)) (fun j => rd0_o (by decide)) (fun j => rd0_o (by decide)) (fun j => rd0_o (by decide))
  have r0 : ∀ g j, (g < 799 ∨ 809 ≤ g) → rn (om_rd0 M v (4 * v + i) p) g j = rn M g j := fun g j hg => rn_eq (rd0_o hg)
  have hnN : (rn (om_rd0 M v (4 * v + i) p) ff_Mod_notes 0) = (rn M ff_Mod_notes 0) := r0 _ _ (by decide)
  rw [← hnN] at hA1
  refine xx_j ee104_34 rfl trivial ?_
  refine xx_j ee104_35 rfl trivial ?_
  refine xx_k ee104_36 1 rfl ?_
  refine xx_t fx_bit_t ?_
  refine xx_c ee104_37 rfl (k_sendNote (v := v) (d := true) hA1 hI1 hN1 (by rw [r0 _ _ (by decide)]; exact n2) (by rw [r0 _ _ (by decide), r0 _ _ (by decide)]; exact nn) hp5 (by rw [r0 _ _ (by decide)]; exact p1) (by rw [r0 _ _ (by decide)]; exact hpA) (by rw [r0 _ _ (by decide)]; exact hv) (by rw [r0 _ _ (by decide), p2]; omega) (by omega) hout (fun s2 rt2 hC2 hA2 ho2 hf2 hp2 hg2 => ?_))
  rw [← ready_rd0] at hA2
  have hC : CK x s s2 := (((((((CK.rf x s).sfi (by decide)).sfi (by decide)).sfi (by decide)).sfi (by decide)).sfi (by decide)).sfr (by decide)).tr ⟨hC2, fun f a h1 h2 => by
    obtain ⟨z1, z2, z3⟩ := hg2 a
    rcases (show f = 448 ∨ f = 449 ∨ f = 450 by omega) with e | e | e <;> subst e
    · exact z3
    · exact z2
    · exact z1⟩
  -- the next one
  have eA2 : (rn (om_ready M v (4 * v + i) p) ff_Mod_all 0) = (rn M ff_Mod_all 0) := ready_rn (by decide)
  have hv2 : v < (rn (om_ready M v (4 * v + i) p) ff_Mod_all 0) := by rw [eA2]; exact hv
  have nd2 := hA2.sk.b v hvm
  refine xx_j ee104_40 rfl trivial ?_
  refine xx_gr ee104_41 nd2.asked rfl rfl ?_
  refine xx_c ee104_44 rfl (k_rmf hA2.r (ISR.k hvm) (fun he => ?_) (fun a t nx fi la sz ht hR hout2 => ?_))
  · refine xx_j ee104_47 rfl trivial ?_
    refine xx_j ee104_49 rfl trivial ?_
    refine xx_nu ee104_51 (fun _ => ?_) (fun b hb => by cases hb)
    refine xx_rv ee104_74 (k s2 rt2 hC ?_)
    have hr0 : rn M ff_Mod_rowSize v = 0 := by
      have := hA2.x.ak v hvm hv2
      rw [he, ready_rN] at this
      cases hr : rn M ff_Mod_rowSize v with
      | zero => rfl
      | succ n => rw [hr, List.range_succ_eq_map] at this; cases this
    unfold om_fin
    rw [w2, if_neg (by omega)]
    exact hA2
  · have hak := hA2.x.ak v hvm hv2
    have hr0 : 0 < rn (om_ready M v (4 * v + i) p) ff_Mod_rowSize v := by
      cases hr : rn (om_ready M v (4 * v + i) p) ff_Mod_rowSize v with
      | zero => rw [hr, ht] at hak; cases hak
      | succ n => omega
    have hq : a = P (rn (om_ready M v (4 * v + i) p) ff_Mod_row (512 * v)) := by
      have e1 : rn (om_ready M v (4 * v + i) p) ff_Mod_rowSize v = (rn (om_ready M v (4 * v + i) p) ff_Mod_rowSize v - 1) + 1 := by omega
      rw [e1, List.range_succ_eq_map, List.map_cons, ht] at hak
      exact (List.cons.inj hak).1
    subst hq
    have hA3 := hA2.unr hJr.ri hv2 hr0 ht hR
    obtain ⟨j1, j2, j3, j4, j5⟩ := hJr.j9 v 0 hv2 hr0
    rw [Nat.add_zero] at j1 j2 j3 j4 j5
    have hq5 := hJr.rRl hv2 hr0
    rw [Nat.add_zero] at hq5
    have hqA := (hJr.j6 _ hq5 j1).2.2.2.2
    generalize hM2 : om_ready M v (4 * v + i) p = M2 at *
    generalize hq0 : rn M2 ff_Mod_row (512 * v) = q at *
    have rq := hA3.p q hq5 (by have e : rn (om_unr M2 v) ff_Mod_lengths q = rn M2 ff_Mod_lengths q := rn_eq (by unfold om_unr; rw [om_sh_ne (by decide), fx_up_ne (fun w => absurd w.1 (by decide))]); rw [e]; exact j1)
    have u0 : ∀ g j, g ≠ ff_Mod_row → g ≠ ff_Mod_rowSize → om_unr M2 v g j = M2 g j := fun g j h1 h2 => by unfold om_unr; rw [om_sh_ne h1, fx_up_ne (fun w => h2 w.1)]
    have ra : fx_fi (fx_srow s2 nx fi la sz) ff_Packet_attempt (P q) = nI 1 := rq.att.trans (by rw [u0 _ _ (by decide) (by decide), hJr.ri.e ff_Mod_slotTry q (n := 512) rfl hq5 (by decide), j4])
    refine xx_j ee104_47 rfl trivial ?_
    refine xx_j ee104_49 rfl trivial ?_
    refine xx_nu ee104_51 (fun hb => by cases hb) (fun _ _ => ?_)
    refine xx_j ee104_54 rfl trivial ?_
    refine xx_j ee104_55 rfl trivial ?_
    refine xx_j ee104_57 rfl trivial ?_
    refine xx_gi ee104_59 ra rfl rfl ?_
    refine xx_k ee104_62 1 rfl ?_
    first | refine xx_add ee104_63 ?_ | refine xx_j ee104_63 rfl trivial ?_
    refine xx_c ee104_64 rfl (k_keepFor ?_)
    have hA4 := hA3.keep (v := v) (i := i) (p := q) (t := 2) (j := 0) (o := some (P q)) (y := nI 2) (z := nI 0) hvm hi hq5 (by omega) (by omega) rfl rfl (by rfl)
    have hI3 : RI (om_unr M2 v) := (hJr.ri.up (b := 513) rfl (by have := hJr.ri.rNl (v := v) (by omega); omega) (by decide) (by decide)).sh (l := 32768) rfl (by have := hJr.ri.rNl (v := v) (by omega); omega) (by decide) (by decide)
    have hI4 : RI (fx_up (fx_up (fx_up (om_unr M2 v) ff_Mod_whose (4 * v + i) (nI q)) ff_Mod_whichTry (4 * v + i) (nI 2)) ff_Mod_has (4 * v + i) (nI 0)) := ((hI3.upw (Or.inr ⟨q, rfl, hq5⟩)).up (b := 1000) rfl (by omega) (by decide) (by decide)).up (b := 256) rfl (by omega) (by decide) (by decide)
    have o4 : ∀ g j, g ≠ 799 → g ≠ 800 → g ≠ 801 → g ≠ 802 → g ≠ 803 → fx_up (fx_up (fx_up (om_unr M2 v) ff_Mod_whose (4 * v + i) (nI q)) ff_Mod_whichTry (4 * v + i) (nI 2)) ff_Mod_has (4 * v + i) (nI 0) g j = M2 g j := fun g j h1 h2 h3 h4 h5 => by rw [fx_up_ne (fun w => h3 w.1), fx_up_ne (fun w => h2 w.1), fx_up_ne (fun w => h1 w.1), u0 g j h5 h4]
    have o2 : ∀ g j, (g < 799 ∨ 814 ≤ g) → M2 g j = M g j := fun g j hg => by rw [← hM2]; exact ready_o hg
    have hN4 : JN (fx_up (fx_up (fx_up (om_unr M2 v) ff_Mod_whose (4 * v + i) (nI q)) ff_Mod_whichTry (4 * v + i) (nI 2)) ff_Mod_has (4 * v + i) (nI 0)) := hN.to (fun j => (o4 _ j (by decide) (by decide) (by decide) (by decide) (by decide)).trans (o2 _ j (by decide))) (fun j => (o4 _ j (by decide) (by decide) (by decide) (by decide) (by decide)).trans (o2 _ j (by decide))) (fun j => (o4 _ j (by decide) (by decide) (by decide) (by decide) (by decide)).trans (o2 _ j (by decide))) (fun j => (o4 _ j (by decide) (by decide) (by decide) (by decide) (by decide)).trans (o2 _ j (by decide))) (fun j => (o4 _ j (by decide) (by decide) (by decide) (by decide) (by decide)).trans (o2 _ j (by decide)))
    have hM5 : om_note (fx_up (fx_up (fx_up (om_unr M2 v) ff_Mod_whose (4 * v + i) (nI q)) ff_Mod_whichTry (4 * v + i) (nI 2)) ff_Mod_has (4 * v + i) (nI 0)) v q false = om_fill M2 v (4 * v + i) := fill_unr hq0.symm
    generalize fx_up (fx_up (fx_up (om_unr M2 v) ff_Mod_whose (4 * v + i) (nI q)) ff_Mod_whichTry (4 * v + i) (nI 2)) ff_Mod_has (4 * v + i) (nI 0) = M4 at *
    have r4 : ∀ g j, g ≠ 799 → g ≠ 800 → g ≠ 801 → g ≠ 802 → g ≠ 803 → rn M4 g j = rn M2 g j := fun g j h1 h2 h3 h4 h5 => rn_eq (o4 g j h1 h2 h3 h4 h5)
    have nN4 : (rn M4 ff_Mod_notes 0) = (rn M2 ff_Mod_notes 0) := r4 _ _ (by decide) (by decide) (by decide) (by decide) (by decide)
    have hnn2 := hJr.nr512 hv2
    rw [← nN4] at hA4
    refine xx_j ee104_67 rfl trivial ?_
    refine xx_j ee104_68 rfl trivial ?_
    refine xx_k ee104_70 0 rfl ?_
    refine xx_t fx_bit_f ?_
    refine xx_c ee104_71 rfl (k_sendNote (v := v) (d := false) hA4 hI4 hN4 ?_ ?_ hq5 ?_ ?_ ?_ ?_ (by omega) hout2 (fun s5 rt5 hC5 hA5 ho5 hf5 hp5' hg5 => ?_))
    · rw [r4 _ _ (by decide) (by decide) (by decide) (by decide) (by decide)]; exact hJr.net.1
    · rw [r4 _ _ (by decide) (by decide) (by decide) (by decide) (by decide), r4 _ _ (by decide) (by decide) (by decide) (by decide) (by decide)]; exact hJr.net.2.1
    · rw [r4 _ _ (by decide) (by decide) (by decide) (by decide) (by decide)]; exact j1
    · rw [r4 _ _ (by decide) (by decide) (by decide) (by decide) (by decide)]; exact hqA
    · rw [r4 _ _ (by decide) (by decide) (by decide) (by decide) (by decide)]; exact hv2
    · rw [r4 _ _ (by decide) (by decide) (by decide) (by decide) (by decide)]; exact j2
    · rw [hM5] at hA5
      refine xx_rv ee104_74 (k s5 rt5 ?_ ?_)
      · exact (((((hC.srow).sfr (by decide)).sfi (by decide)).sfi (by decide))).tr ⟨hC5, fun f a h1 h2 => by
          obtain ⟨z1, z2, z3⟩ := hg5 a
          rcases (show f = 448 ∨ f = 449 ∨ f = 450 by omega) with e | e | e <;> subst e
          · exact z3
          · exact z2
          · exact z1⟩
      · unfold om_fin
        have hr1 : 0 < rn M ff_Mod_rowSize v := by rw [← hM2, ready_rN] at hr0; exact hr0
        rw [w2, if_pos hr1, hM2]
        exact hA5
end
