/-! THE CLASS: entering at a node -/
section
variable {s : fx_S} {Q : fx_Q} {x m : Nat} {B H P : Nat → Nat} {C : Nat → Nat → Option Nat} {Y : Nat → Nat → Nat} {rt : Nat → List Nat} {K : Nat → Prop} {L : List Nat} {M : rf_M} {lv : Nat → Prop}
theorem flit_hun {u v p l : Nat} {y : Int32} : om_flit (fx_up M ff_Mod_hungry u y) v p l = fx_up (om_flit M v p l) ff_Mod_hungry u y := by
  unfold om_flit
  try dsimp only
  rw [rn_pe (by decide), rn_pe (by decide), rn_pe (by decide), rn_pe (by decide), fx_up_comm (f := ff_Mod_hungry) (g := ff_Mod_at) (by decide), fx_up_comm (f := ff_Mod_hungry) (g := ff_Mod_line) (by decide), fx_up_comm (f := ff_Mod_hungry) (g := ff_Mod_source) (by decide), fx_up_comm (f := ff_Mod_hungry) (g := ff_Mod_slot) (by decide), fx_up_comm (f := ff_Mod_hungry) (g := ff_Mod_number) (by decide), fx_up_comm (f := ff_Mod_hungry) (g := ff_Mod_entry) (by decide), fx_up_comm (f := ff_Mod_hungry) (g := ff_Mod_tries) (by decide), fx_up_comm (f := ff_Mod_hungry) (g := ff_Mod_flits) (by decide), fx_up_comm (f := ff_Mod_hungry) (g := ff_Mod_entered) (by decide)]
theorem unag_hun {u v : Nat} {y : Int32} : om_unag (fx_up M ff_Mod_hungry u y) v = fx_up (om_unag M v) ff_Mod_hungry u y := by
  unfold om_unag
  rw [rn_pe (by decide), sh_up (by decide), fx_up_comm (f := ff_Mod_hungry) (g := ff_Mod_agains) (by decide)]
theorem unwt_hun {u v p : Nat} {y : Int32} : om_unwt (fx_up M ff_Mod_hungry u y) v p = fx_up (om_unwt M v p) ff_Mod_hungry u y := by
  unfold om_unwt om_slot
  try dsimp only
  rw [rn_pe (by decide), rn_pe (by decide), rn_pe (by decide), fx_up_ne (fun w => absurd w.1 (by decide)), sh_up (by decide), sh_up (by decide), sh_up (by decide), fx_up_comm (f := ff_Mod_hungry) (g := ff_Mod_goals) (by decide), fx_up_comm (f := ff_Mod_hungry) (g := ff_Mod_lengths) (by decide), fx_up_comm (f := ff_Mod_hungry) (g := ff_Mod_tags) (by decide), fx_up_comm (f := ff_Mod_hungry) (g := ff_Mod_slotTry) (by decide), fx_up_comm (f := ff_Mod_hungry) (g := ff_Mod_entered) (by decide), fx_up_comm (f := ff_Mod_hungry) (g := ff_Mod_asked) (by decide), fx_up_comm (f := ff_Mod_hungry) (g := ff_Mod_waits) (by decide)]
theorem enter_hun {u v w l : Nat} {y : Int32} : om_enter (fx_up M ff_Mod_hungry u y) v w l = fx_up (om_enter M v w l) ff_Mod_hungry u y := by
  have e : (sp_first (fun p => rn (fx_up M ff_Mod_hungry u y) ff_Mod_lengths p == 0) (8 * v) 8) = sp_first (fun p => rn M ff_Mod_lengths p == 0) (8 * v) 8 := sp_first_congr _ _ (fun k _ _ => by rw [rn_pe (by decide)])
  unfold om_enter
  split
  · exact flit_hun
  · split
    · rw [unag_hun, flit_hun]
    · try dsimp only
      rw [e, unwt_hun, flit_hun]
theorem k_enterAt {v : Nat} {only : Option Nat} (h : RA s x B H C Y P m rt K (List.range ((rn M ff_Mod_notes 0))) M) (hJ : JI M) (hv : v < (rn M ff_Mod_all 0)) (hh : rn M ff_Mod_hungry v < 900000) (ho : ∀ b, only = some b → b < 64) (k : ∀ s' rt' P', CK x s s' → RA s' x B H C Y P' m rt' K (List.range ((rn (om_le1 M only v) ff_Mod_notes 0))) (om_le1 M only v) → Q none s') : fx_M mm_Torus_enterAt [vR 10 (some x), vR 14 (some (B v)), vI (oI only)] s Q := by
  have h64 := hJ.1.all64
  have h0 := hJ.1.all0
  have hvm : v < m := Nat.lt_of_lt_of_le hv h.nm
  have nd := h.sk.b v hvm
  have ho' : ∀ b, only = some b → b < 2 ^ 31 := fun b hb => by have := ho b hb; omega
  have hL : ∀ k, k ∈ List.range ((rn M ff_Mod_notes 0)) → k < (rn M ff_Mod_notes 0) := fun k hk => List.mem_range.mp hk
  have hsa : sfa M v ≤ (rn M ff_Mod_flits 0) := sp_cnt_le _ _
  have h257 := hJ.1.ri.fNl
  have how := fx_ow_le (rz M ff_Mod_closed) v
  have ehu : fx_fi s ff_Sender_hungryCycles (B v + 1) = nI (rn M ff_Mod_hungry v) := (h.s.hun v hvm).trans (hJ.1.ri.e ff_Mod_hungry v (n := 64) rfl (by omega) (by decide))
  refine xx_i ml83 ?_
  refine xx_j ee83_0 rfl trivial ?_
  refine xx_gr ee83_1 nd.snd rfl rfl ?_
  refine xx_j ee83_4 rfl trivial ?_
  refine xx_j ee83_5 rfl trivial ?_
  -- behind the choice: the packet is there
  have go : ∀ a w, scand M v = some w → (∀ Q' : fx_Q, (∀ s2 rt2 P2 F, CK x s s2 → RA s2 x B H C Y P2 m rt2 K (List.range ((rn M ff_Mod_notes 0))) (om_pre M v w) → P2 (sep M v w) = a → fx_ar s2 (a + 1) (rn (om_pre M v w) ff_Mod_entered (sep M v w)) = some F → Q' (some (vR 12 (some F))) (fx_sfr (fx_sfi (fx_sfi (fx_sfi (fx_sfi s2 ff_Flit_entry F (om_pre M v w ff_Mod_cycle 0)) ff_Flit_attempt F (om_pre M v w ff_Mod_slotTry (sep M v w))) ff_Packet_entered a (nI (rn (om_pre M v w) ff_Mod_entered (sep M v w) + 1))) ff_Packet_flitsInNet a (nI (sp_cnt (fun f => spk (om_pre M v w) f == sep M v w) ((rn (om_pre M v w) ff_Mod_flits 0)) + 1))) ff_Sender_underWay (B v + 1) (if rn (om_pre M v w) ff_Mod_entered (sep M v w) + 1 < rn (om_pre M v w) ff_Mod_lengths (sep M v w) then some a else none))) → fx_M mm_Sender_release [vR 21 (some (B v + 1)), vR 15 (some a), vI (M ff_Mod_cycle 0)] s Q') → fx_W 83 11 [some (vR 10 (some x)), some (vR 14 (some (B v))), some (vI (oI only)), some (vR 21 (some (B v + 1))), some (vR 15 (some a)), none] [] s Q := by
    intro a w hw hrel
    have le_no : smay M only v = false → om_le1 M only v = fx_up M ff_Mod_hungry v (nI (rn M ff_Mod_hungry v + 1)) := by
      intro hm
      unfold om_le1 om_hun
      rw [hm, hw]
      rfl
    -- it must wait
    have hold : smay M only v = false → ∀ x5, fx_W 83 65 [some (vR 10 (some x)), some (vR 14 (some (B v))), some (vI (oI only)), some (vR 21 (some (B v + 1))), some (vR 15 (some a)), x5] [] s Q := by
      intro hm x5
      refine xx_j ee83_65 rfl trivial ?_
      refine xx_j ee83_66 rfl trivial ?_
      refine xx_gi ee83_67 ehu rfl rfl ?_
      refine xx_k ee83_70 1 rfl ?_
      first | refine xx_add ee83_71 ?_ | refine xx_j ee83_71 rfl trivial ?_
      refine xx_pi ee83_72 rfl ?_
      refine xx_rv ee83_75 (k _ rt P ((CK.rf x s).sfi (by decide)) ?_)
      have eN : (rn (om_le1 M only v) ff_Mod_notes 0) = (rn M ff_Mod_notes 0) := by rw [le_no hm, rn_pe (by decide)]
      rw [eN, le_no hm]
      exact h.hun hvm
    -- it may enter
    have ent : smay M only v = true → ∀ x5, fx_W 83 76 [some (vR 10 (some x)), some (vR 14 (some (B v))), some (vI (oI only)), some (vR 21 (some (B v + 1))), some (vR 15 (some a)), x5] [] s Q := by
      intro hm x5
      have hm' := hm
      unfold smay at hm'
      rw [Bool.and_eq_true, decide_eq_true_eq] at hm'
      obtain ⟨l, hl⟩ := sfl_ex (M := M) (v := v) (by omega)
      obtain ⟨l1, l2, l3⟩ := sfl_some hl
      obtain ⟨a1, a2, a3, a4⟩ := hJ.pre hv hw
      have hE := hJ.enter hv hw hl hm'.1
      rw [om_enter_eq] at hE
      have eA : ∀ i, rn (om_pre M v w) ff_Mod_at i = rn M ff_Mod_at i := fun i => rn_eq (a4 _ (by simp) i)
      have eLn : ∀ i, rn (om_pre M v w) ff_Mod_line i = rn M ff_Mod_line i := fun i => rn_eq (a4 _ (by simp) i)
      have eF : (rn (om_pre M v w) ff_Mod_flits 0) = (rn M ff_Mod_flits 0) := rn_eq (a4 _ (by simp) 0)
      have eAll : (rn (om_pre M v w) ff_Mod_all 0) = (rn M ff_Mod_all 0) := rn_eq (a4 _ (by simp) 0)
      have hNp : (rn (om_pre M v w) ff_Mod_notes 0) = (rn M ff_Mod_notes 0) := by
        unfold om_pre
        split
        · rfl
        · split
          · exact rn_eq (by unfold om_unag; rw [om_sh_ne (by decide), fx_up_ne (fun q => absurd q.1 (by decide))])
          · exact rn_eq (unwt_v (by decide) (by decide) (by decide) (by decide) (by decide) (by decide) (by decide) (by decide) (by decide) (by decide))
      have hN256 : (rn M ff_Mod_flits 0) < 256 := hJ.1.room hv l1 l2
      have le_yes : om_le1 M only v = if only = some v then fx_up (om_enter (fx_up M ff_Mod_hungry v (nI 0)) v w l) ff_Mod_turn 0 (nI ((v + 1) % (rn M ff_Mod_all 0))) else om_enter (fx_up M ff_Mod_hungry v (nI 0)) v w l := by
        unfold om_le1 om_hun
        rw [hm, hw, hl]
        rfl
      refine xx_j ee83_76 rfl trivial ?_
      refine xx_j ee83_77 rfl trivial ?_
      refine xx_j ee83_78 rfl trivial ?_
      refine xx_j ee83_80 rfl trivial ?_
      refine xx_gi ee83_81 h.t.now rfl rfl ?_
      refine xx_c ee83_84 rfl (hrel _ (fun s2 rt2 P2 F hC2 hA2 hP2 hF => ?_))
      have hJ2 : JV (om_pre M v w) (fun k => k < (rn M ff_Mod_notes 0)) := by have := a1.1; rw [hNp] at this; exact this
      have hJ3 : JV (om_flit (om_pre M v w) v (sep M v w) l) (fun k => k < (rn M ff_Mod_notes 0)) := by
        have := hE.1
        have e : (rn (om_flit (om_pre M v w) v (sep M v w) l) ff_Mod_notes 0) = (rn M ff_Mod_notes 0) := by rw [rn_eq (flit_o (by decide)), hNp]
        rw [e] at this
        exact this
      have hfl : ∀ f, f < (rn (om_pre M v w) ff_Mod_flits 0) → rn (om_pre M v w) ff_Mod_at f = v → rn (om_pre M v w) ff_Mod_line f ≠ l := fun f hf e => by rw [eF] at hf; rw [eA] at e; rw [eLn]; exact l2 f hf e
      have hp2 := a2
      obtain ⟨p1, p2, p3, p4, p5, p6, p7⟩ := a2
      subst hP2
      have eT := hJ2.ri.e ff_Mod_slotTry (sep M v w) (n := 512) rfl p1 (by decide)
      have eC := hJ2.ri.f ff_Mod_cycle rfl (by decide)
      have hA3 := hA2.flit (l := l) (F := F) (o := if rn (om_pre M v w) ff_Mod_entered (sep M v w) + 1 < rn (om_pre M v w) ff_Mod_lengths (sep M v w) then some (P2 (sep M v w)) else none) (y1 := om_pre M v w ff_Mod_cycle 0) (y2 := om_pre M v w ff_Mod_slotTry (sep M v w)) (y3 := nI (rn (om_pre M v w) ff_Mod_entered (sep M v w) + 1)) (y4 := nI (sp_cnt (fun f => spk (om_pre M v w) f == sep M v w) ((rn (om_pre M v w) ff_Mod_flits 0)) + 1)) (y5 := nI ((rn (om_pre M v w) ff_Mod_flits 0) + 1)) hJ2 hJ3 (by rw [eAll]; exact hv) hp2 l1 hfl (by rw [eF]; exact hN256) hF eC eT rfl rfl rfl rfl
      -- the line
      have hlines : ∀ j, j < l → fx_ar s2 (B v + H v) j ≠ none := by
        intro j hj e
        obtain ⟨f, g1, g2, g3⟩ := l3 j hj
        rcases hA2.line hJ2 hvm (l := j) (by omega) with ⟨z1, -⟩ | ⟨f', F', z1, z2, -⟩
        · have so := sol_of hJ2.j4 (f := f) (by rw [eF]; exact g1)
          rw [eA, eLn, g2, g3, z1] at so
          cases so
        · rw [e] at z2; cases z2
      have hline : fx_ar s2 (B v + H v) l = none := by
        rcases hA2.line hJ2 hvm (l := l) l1 with ⟨-, z2⟩ | ⟨f', F', z1, z2, -⟩
        · exact z2
        · obtain ⟨y1, y2, y3⟩ := sol_some z1
          exact absurd y3 (hfl f' y1 y2)
      refine xx_c ee83_87 rfl (k_add (hA2.f.here v hvm) (hA2.lnh hvm) l1 hlines hline ?_)
      refine xx_j ee83_90 rfl trivial ?_
      refine xx_j ee83_91 rfl trivial ?_
      refine xx_gi ee83_92 (hA2.t.fin.trans (hJ2.ri.f ff_Mod_flits rfl (by decide))) rfl rfl ?_
      refine xx_k ee83_95 1 rfl ?_
      first | refine xx_add ee83_96 ?_ | refine xx_j ee83_96 rfl trivial ?_
      refine xx_pi ee83_97 rfl ?_
      refine xx_j ee83_100 rfl trivial ?_
      refine xx_k ee83_101 0 rfl ?_
      refine xx_pi ee83_102 rfl ?_
      have hA4 := hA3.hun (v := v) (y := nI 0) hvm
      have eEnt : fx_up (om_flit (om_pre M v w) v (sep M v w) l) ff_Mod_hungry v (nI 0) = om_enter (fx_up M ff_Mod_hungry v (nI 0)) v w l := by rw [enter_hun, om_enter_eq]
      rw [eEnt] at hA4
      have hC4 : CK x s (fx_sfi (fx_sfi (fx_sar (fx_sfr (fx_sfi (fx_sfi (fx_sfi (fx_sfi s2 ff_Flit_entry F (om_pre M v w ff_Mod_cycle 0)) ff_Flit_attempt F (om_pre M v w ff_Mod_slotTry (sep M v w))) ff_Packet_entered (P2 (sep M v w)) (nI (rn (om_pre M v w) ff_Mod_entered (sep M v w) + 1))) ff_Packet_flitsInNet (P2 (sep M v w)) (nI (sp_cnt (fun f => spk (om_pre M v w) f == sep M v w) ((rn (om_pre M v w) ff_Mod_flits 0)) + 1))) ff_Sender_underWay (B v + 1) (if rn (om_pre M v w) ff_Mod_entered (sep M v w) + 1 < rn (om_pre M v w) ff_Mod_lengths (sep M v w) then some (P2 (sep M v w)) else none)) (B v + H v) l (some F)) ff_Torus_flitsInNet x (nI ((rn (om_pre M v w) ff_Mod_flits 0) + 1))) ff_Sender_hungryCycles (B v + 1) (nI 0)) := (((((((hC2.sfi (by decide)).sfi (by decide)).sfi (by decide)).sfi (by decide)).sfr (by decide)).sar).sfi (by decide)).sfi (by decide)
      have eNle : (rn (om_le1 M only v) ff_Mod_notes 0) = (rn M ff_Mod_notes 0) := rn_eq (le1_o (by decide))
      have nd2 := hA2.sk.b v hvm
      refine xx_j ee83_105 rfl trivial ?_
      refine xx_j ee83_106 rfl trivial ?_
      refine xx_gi ee83_107 nd2.num rfl rfl ?_
      refine xx_b ee83_110 rfl (fun hne => ?_) (fun heq => ?_)
      · have hne' : ¬ only = some v := fun q => hne (by rw [q]; rfl)
        refine xx_rv ee83_128 (k _ rt2 P2 hC4 ?_)
        rw [eNle, le_yes, if_neg hne']
        exact hA4
      · have heq' : only = some v := (oI_inj ho' (fun k hk => by cases hk; omega)).mp (Classical.byContradiction heq)
        subst heq'
        refine xx_j ee83_113 rfl trivial ?_
        refine xx_j ee83_114 rfl trivial ?_
        refine xx_k ee83_115 1 rfl ?_
        first | refine xx_add ee83_116 ?_ | refine xx_j ee83_116 rfl trivial ?_
        refine xx_j ee83_117 rfl trivial ?_
        refine xx_gr ee83_118 hA4.sk.a.grid rfl rfl ?_
        refine xx_gi ee83_121 (hA2.g.a.1.trans (by rw [eAll])) rfl rfl ?_
        refine xx_rem ee83_124 (by omega) h0 (by omega) ?_
        refine xx_pi ee83_125 rfl ?_
        refine xx_rv ee83_128 (k _ rt2 P2 (hC4.sfi (by decide)) ?_)
        rw [eNle, le_yes, if_pos rfl]
        exact hA4.turn
    refine xx_j ee83_11 rfl trivial ?_
    refine xx_nn ee83_13 (fun _ _ => ?_) (fun hb => by cases hb)
    have ow : (only = none ∨ only = some v) → ∀ x5, fx_W 83 47 [some (vR 10 (some x)), some (vR 14 (some (B v))), some (vI (oI only)), some (vR 21 (some (B v + 1))), some (vR 15 (some a)), x5] [] s Q := by
      intro hov x5
      have hor : (only == none || only == some v) = true := by
        rcases hov with e | e
        · rw [e]; rfl
        · rw [e]; simp
      refine xx_j ee83_47 rfl trivial ?_
      refine xx_c ee83_48 rfl (k_flitsHere h hJ.1 hvm ?_)
      refine xx_j ee83_51 rfl trivial ?_
      refine xx_gr ee83_52 h.sk.a.grid rfl rfl ?_
      refine xx_j ee83_55 rfl trivial ?_
      refine xx_gi ee83_56 nd.num rfl rfl ?_
      refine xx_c ee83_59 rfl (k_openWays h.sk.a h.g.a h64 hv ?_)
      refine xx_lt ee83_62 (by omega) (by omega) (fun hlt => ent (by unfold smay; rw [hor, show decide (sfa M v < fx_ow (rz M ff_Mod_closed) v 4) = true by simpa using hlt]; rfl) _) (fun hge => hold (by unfold smay; rw [show decide (sfa M v < fx_ow (rz M ff_Mod_closed) v 4) = false by simpa using hge]; rfl) _)
    refine xx_j ee83_22 rfl trivial ?_
    refine xx_km ee83_23 rfl ?_
    refine xx_oeq ee83_24 ho' (fun hn => ?_) (fun b hb => ?_)
    · refine xx_k ee83_39 0 rfl ?_
      refine xx_j ee83_40 rfl trivial ?_
      refine xx_j ee83_42 rfl trivial ?_
      refine xx_kne ee83_44 (by omega) (fun h => absurd rfl h) (fun _ => ow (Or.inl hn) _)
    · refine xx_j ee83_27 rfl trivial ?_
      refine xx_j ee83_28 rfl trivial ?_
      refine xx_gi ee83_29 nd.num rfl rfl ?_
      refine xx_b ee83_32 rfl (fun heq => ?_) (fun hne => ?_)
      · have heq' : only = some v := (oI_inj ho' (fun k hk => by cases hk; omega)).mp heq
        refine xx_k ee83_39 0 rfl ?_
        refine xx_j ee83_40 rfl trivial ?_
        refine xx_j ee83_42 rfl trivial ?_
        refine xx_kne ee83_44 (by omega) (fun h => absurd rfl h) (fun _ => ow (Or.inr heq') _)
      · have hne' : ¬ only = some v := fun q => hne (by show oI only = oI (some v); rw [q])
        have hsm : smay M only v = false := by
          unfold smay
          rw [show (only == none) = false by rw [hb]; rfl, show (only == some v) = false by simpa using hne']
          simp
        refine xx_k ee83_35 1 rfl ?_
        refine xx_j ee83_36 rfl trivial ?_
        refine xx_j ee83_40 rfl trivial ?_
        refine xx_j ee83_42 rfl trivial ?_
        refine xx_kne ee83_44 (by omega) (fun _ => hold hsm _) (fun h => by omega)
  refine xx_c ee83_6 rfl (k_next h hJ.1 hv (fun p hs => ?_) (fun hs ha hno => ?_) (fun a t p hs hno hfs hwt => ?_) (fun c hc => ?_))
  · obtain ⟨q1, q2, q3, -⟩ := sp_first_some.mp hs
    have hw : scand M v = some p := by unfold scand; rw [hs]
    have e1 : sep M v p = p := by unfold sep; rw [if_pos (by omega)]
    have e2 : om_pre M v p = M := by unfold om_pre; rw [if_pos (by omega)]
    refine xx_j ee83_9 rfl trivial ?_
    refine go (P p) p hw (fun Q' kk => ?_)
    have hp := (hJ.pre hv hw).2.1
    rw [e1, e2] at hp kk
    exact k_relA h hJ.1 hv hp (fun F hF => kk s rt P F (CK.rf x s) h rfl hF)
  · have hq5 := hJ.1.ri.aRl (i := 8 * v) (by omega)
    have hw : scand M v = some (1000 + rn M ff_Mod_again (8 * v)) := by
      unfold scand
      rw [hs]
      have : (decide (0 < rn M ff_Mod_agains v) && !(sp_first (fun f => spk M f == rn M ff_Mod_again (8 * v)) 0 ((rn M ff_Mod_flits 0))).isSome) = true := by
        rw [show decide (0 < rn M ff_Mod_agains v) = true by simpa using ha, Bool.true_and]
        have : sp_first (fun f => spk M f == rn M ff_Mod_again (8 * v)) 0 ((rn M ff_Mod_flits 0)) = none := sp_first_none.mpr (fun f _ hf => by simpa using hno f (by omega))
        rw [this]; rfl
      show (bif _ then _ else _) = _
      rw [this]; rfl
    have e1 : sep M v (1000 + rn M ff_Mod_again (8 * v)) = rn M ff_Mod_again (8 * v) := by
      unfold sep
      rw [if_neg (by omega), if_pos (by omega)]
      omega
    have e2 : om_pre M v (1000 + rn M ff_Mod_again (8 * v)) = om_unag M v := by
      unfold om_pre
      rw [if_neg (by omega), if_pos (by omega)]
    refine xx_j ee83_9 rfl trivial ?_
    refine go (P (rn M ff_Mod_again (8 * v))) _ hw (fun Q' kk => ?_)
    obtain ⟨a1, hp, -⟩ := hJ.pre hv hw
    rw [e1, e2] at hp kk
    rw [e2] at a1
    have hJ2 : JV (om_unag M v) (fun k => k < (rn M ff_Mod_notes 0)) := (hJ.1.unag hv ha).1
    exact k_relB h hJ.1 hJ2 hv ha hp (fun s2 rt2 F hC hA hF => kk s2 rt2 P F hC hA rfl hF)
  · have hwl := (h.w v hvm).1
    rw [hwt] at hwl
    have hwN : 0 < rn M ff_Mod_waits v := by rw [← hwl]; simp
    have hw : scand M v = some 2000 := by
      unfold scand
      rw [hs]
      have : (decide (0 < rn M ff_Mod_agains v) && !(sp_first (fun f => spk M f == rn M ff_Mod_again (8 * v)) 0 ((rn M ff_Mod_flits 0))).isSome) = false := by
        cases hc : (decide (0 < rn M ff_Mod_agains v) && !(sp_first (fun f => spk M f == rn M ff_Mod_again (8 * v)) 0 ((rn M ff_Mod_flits 0))).isSome) with
        | false => rfl
        | true =>
          simp only [Bool.and_eq_true, decide_eq_true_eq, Bool.not_eq_true', Option.isSome_eq_false_iff, Option.isNone_iff_eq_none] at hc
          refine absurd ⟨hc.1, fun f hf q => ?_⟩ hno
          have := sp_first_none.mp hc.2 f (by omega) (by omega)
          simp [q] at this
      show (bif _ then _ else _) = _
      rw [this, cond_false, hfs, show decide (0 < rn M ff_Mod_waits v) = true by simpa using hwN]
      rfl
    have e1 : sep M v 2000 = p := by
      unfold sep
      rw [if_neg (by omega), if_neg (by omega), hfs]
      rfl
    have e2 : om_pre M v 2000 = om_unwt M v p := by
      unfold om_pre
      rw [if_neg (by omega), if_neg (by omega), e1]
    refine xx_j ee83_9 rfl trivial ?_
    refine go a 2000 hw (fun Q' kk => ?_)
    obtain ⟨a1, hp, -⟩ := hJ.pre hv hw
    rw [e1, e2] at hp kk
    obtain ⟨q1, q2, q3, -⟩ := sp_first_some.mp hfs
    have hJ2 : JV (om_unwt M v p) (fun k => k < (rn M ff_Mod_notes 0)) := (hJ.1.unwt hv (by omega) (by omega) (by simpa using q3) hwN).1
    exact k_relC h hJ.1 hL hJ2 hv hfs hwt hp (fun s2 rt2 F hC hA hF => kk s2 rt2 (fn_up P p a) F hC hA fn_same hF)
  · refine xx_j ee83_9 rfl trivial ?_
    refine xx_j ee83_11 rfl trivial ?_
    refine xx_nn ee83_13 (fun b hb => by cases hb) (fun _ => ?_)
    refine xx_j ee83_16 rfl trivial ?_
    refine xx_k ee83_17 0 rfl ?_
    refine xx_pi ee83_18 rfl ?_
    refine xx_rv ee83_21 (k _ rt P ((CK.rf x s).sfi (by decide)) ?_)
    have e : om_le1 M only v = fx_up M ff_Mod_hungry v (nI 0) := by
      unfold om_le1 om_hun
      rw [hc]
      rfl
    rw [e, rn_pe (by decide)]
    exact h.hun hvm
end
