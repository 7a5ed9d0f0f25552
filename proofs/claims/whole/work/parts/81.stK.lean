/-! THE CLASS: receiving -/
section
variable {s : fx_S} {Q : fx_Q} {x m : Nat} {B H P : Nat → Nat} {C : Nat → Nat → Option Nat} {Y : Nat → Nat → Nat} {rt : Nat → List Nat} {K : Nat → Prop} {L : List Nat} {M : rf_M} {lv : Nat → Prop}
theorem sfi_sfi {f a : Nat} {y z : Int32} : fx_sfi (fx_sfi s f a y) f a z = fx_sfi s f a z := by
  refine Prod.ext rfl (Prod.ext ?_ rfl)
  funext g b
  show fx_up (fx_up (fx_fi s) f a y) f a z g b = fx_up (fx_fi s) f a z g b
  by_cases c : g = f ∧ b = a
  · obtain ⟨c1, c2⟩ := c
    subst c1; subst c2
    rw [fx_up_same, fx_up_same]
  · rw [fx_up_ne c, fx_up_ne c, fx_up_ne c]
theorem fx_up_up {f a : Nat} {y z : Int32} : fx_up (fx_up M f a y) f a z = fx_up M f a z := by
  funext g b
  by_cases c : g = f ∧ b = a
  · obtain ⟨c1, c2⟩ := c
    subst c1; subst c2
    rw [fx_up_same, fx_up_same]
  · rw [fx_up_ne c, fx_up_ne c, fx_up_ne c]
/-- a place's packet -/
theorem RA.plc {v i p : Nat} (h : RA s x B H C Y P m rt K L M) (hJ : JV M lv) (hv : v < m) (hi : i < 4) (hp : p < 512) (lp : 0 < rn M ff_Mod_lengths p) : ((oz (M ff_Mod_whose (4 * v + i))).map P = some (P p) ↔ oz (M ff_Mod_whose (4 * v + i)) = some p) := by
  have h64 := h.sk.c.m64
  constructor
  · intro e
    cases hw : oz (M ff_Mod_whose (4 * v + i)) with
    | none => rw [hw] at e; cases e
    | some q =>
      rw [hw] at e
      have hq := pW_some hJ.ri (by omega) hw
      have e' : P q = P p := Option.some.inj e
      rw [h.p.inj hq.2.2 hp (hJ.j8 _ q (by omega) hw).1 lp e']
  · intro e; rw [e]; rfl
theorem k_placeFor {v p t F : Nat} (h : RA s x B H C Y P m rt K L M) (hJ : JV M lv) (hv : v < m) (hp : p < 512) (lp : 0 < rn M ff_Mod_lengths p) (ht : t < 1000) (hF1 : fx_fr s ff_Flit_packet F = some (P p)) (hF2 : fx_fi s ff_Flit_attempt F = nI t)
    (k1 : ∀ i, i < 4 → sp_first (fun k => decide (M ff_Mod_whose k = nI p) && decide (M ff_Mod_whichTry k = nI t)) (4 * v) 4 = some (4 * v + i) → Q (some (vR 16 (some (B v + 10 + i)))) s)
    (k2 : ∀ i, i < 4 → sp_first (fun k => decide (M ff_Mod_whose k = nI p) && decide (M ff_Mod_whichTry k = nI t)) (4 * v) 4 = none → t = 1 → rz M ff_Mod_asked p = false → semp M v = some (4 * v + i) → Q (some (vR 16 (some (B v + 10 + i)))) (fx_sfi (fx_sfi (fx_sfr s ff_Place_packet (B v + 10 + i) (some (P p))) ff_Place_attempt (B v + 10 + i) (nI t)) ff_Place_joined (B v + 10 + i) (nI 0)))
    (k3 : sp_first (fun k => decide (M ff_Mod_whose k = nI p) && decide (M ff_Mod_whichTry k = nI t)) (4 * v) 4 = none → (bif t == 1 && !rz M ff_Mod_asked p then semp M v else none) = none → Q (some (vR 0 none)) s) : fx_M mm_Receiver_placeFor [vR 18 (some (B v + 5)), vR 12 (some F)] s Q := by
  have h64 := h.sk.c.m64
  have nd := h.sk.b v hv
  have rv := h.v v hv
  have rp := h.p p hp lp
  refine xx_i ml64 ?_
  -- the search for an empty one
  have emp : sp_first (fun k => decide (M ff_Mod_whose k = nI p) && decide (M ff_Mod_whichTry k = nI t)) (4 * v) 4 = none → t = 1 → rz M ff_Mod_asked p = false → ∀ d j, j + d = 4 → sp_first (fun k => decide (M ff_Mod_whose k = fx_neg)) (4 * v + j) d = semp M v → fx_W 64 74 [some (vR 18 (some (B v + 5))), some (vR 12 (some F)), some (vI (nI j))] [] s Q := by
    intro hno ht1 hga d
    induction d with
    | zero =>
      intro j hj hs
      refine xx_j ee64_74 rfl trivial ?_
      refine xx_k ee64_75 4 rfl ?_
      refine xx_ge ee64_76 (by omega) (by omega) (fun _ => ?_) (fun h => by omega)
      refine xx_j ee64_121 rfl trivial ?_
      refine xx_ra ee64_122 (k3 hno ?_)
      rw [← hs, ht1, hga]
      rfl
    | succ d ih =>
      intro j hj hs
      refine xx_j ee64_74 rfl trivial ?_
      refine xx_k ee64_75 4 rfl ?_
      refine xx_ge ee64_76 (by omega) (by omega) (fun h => by omega) (fun _ => ?_)
      refine xx_j ee64_79 rfl trivial ?_
      refine xx_gr ee64_80 nd.places rfl rfl ?_
      refine xx_j ee64_83 rfl trivial ?_
      refine xx_rl ee64_84 nd.lpl (by omega) (by decide) (nd.pl j (by omega)) rfl ?_
      refine xx_gr ee64_85 (rv.pk j (by omega)) rfl rfl ?_
      refine xx_nn ee64_88 (fun b hb => ?_) (fun hn => ?_)
      · first | refine xx_inc ee64_115 rfl ?_ | refine xx_j ee64_115 rfl trivial ?_
        refine xx_j ee64_118 rfl trivial ?_
        refine ih (j + 1) (by omega) ?_
        rw [← hs]
        have hne : M ff_Mod_whose (4 * v + j) ≠ fx_neg := fun q => by
          rw [q, oz_neg] at hb; cases hb
        conv => rhs; unfold sp_first
        rw [show decide (M ff_Mod_whose (4 * v + j) = fx_neg) = false by simpa using hne, cond_false]
        rfl
      · have he : M ff_Mod_whose (4 * v + j) = fx_neg := by
          cases hw : oz (M ff_Mod_whose (4 * v + j)) with
          | none => exact oz_none.mp hw
          | some q => rw [hw] at hn; cases hn
        have hs' : semp M v = some (4 * v + j) := by
          rw [← hs]
          unfold sp_first
          rw [show decide (M ff_Mod_whose (4 * v + j) = fx_neg) = true by simpa using he]
          rfl
        refine xx_j ee64_91 rfl trivial ?_
        refine xx_gr ee64_92 nd.places rfl rfl ?_
        refine xx_j ee64_95 rfl trivial ?_
        refine xx_rl ee64_96 nd.lpl (by omega) (by decide) (nd.pl j (by omega)) rfl ?_
        refine xx_j ee64_97 rfl trivial ?_
        refine xx_gr ee64_98 hF1 rfl rfl ?_
        refine xx_j ee64_101 rfl trivial ?_
        refine xx_gi ee64_102 hF2 rfl rfl ?_
        refine xx_c ee64_105 rfl (k_keepFor ?_)
        refine xx_j ee64_108 rfl trivial ?_
        refine xx_gr ee64_109 nd.places rfl rfl ?_
        refine xx_j ee64_112 rfl trivial ?_
        refine xx_rl ee64_113 nd.lpl (by omega) (by decide) (nd.pl j (by omega)) rfl ?_
        exact xx_ra ee64_114 (k2 j (by omega) hno ht1 hga hs')
  -- the search for its own
  have own : ∀ d j, j + d = 4 → sp_first (fun k => decide (M ff_Mod_whose k = nI p) && decide (M ff_Mod_whichTry k = nI t)) (4 * v + j) d = sp_first (fun k => decide (M ff_Mod_whose k = nI p) && decide (M ff_Mod_whichTry k = nI t)) (4 * v) 4 → fx_W 64 2 [some (vR 18 (some (B v + 5))), some (vR 12 (some F)), some (vI (nI j))] [] s Q := by
    intro d
    induction d with
    | zero =>
      intro j hj hs
      have hno : sp_first (fun k => decide (M ff_Mod_whose k = nI p) && decide (M ff_Mod_whichTry k = nI t)) (4 * v) 4 = none := hs.symm
      have nul : (bif t == 1 && !rz M ff_Mod_asked p then semp M v else none) = none → fx_W 64 70 [some (vR 18 (some (B v + 5))), some (vR 12 (some F)), some (vI (nI j))] [] s Q := by
        intro e
        refine xx_j ee64_70 rfl trivial ?_
        exact xx_ra ee64_71 (k3 hno e)
      refine xx_j ee64_2 rfl trivial ?_
      refine xx_k ee64_3 4 rfl ?_
      refine xx_ge ee64_4 (by omega) (by omega) (fun _ => ?_) (fun h => by omega)
      refine xx_j ee64_52 rfl trivial ?_
      refine xx_gi ee64_53 hF2 rfl rfl ?_
      refine xx_k ee64_56 1 rfl ?_
      refine xx_ne ee64_57 (by omega) (by omega) (fun hne => nul (by rw [show (t == 1) = false by simpa using hne]; rfl)) (fun ht1 => ?_)
      refine xx_j ee64_60 rfl trivial ?_
      refine xx_gr ee64_61 hF1 rfl rfl ?_
      refine xx_gi ee64_64 (rp.ask.trans (hJ.ri.z ff_Mod_asked p (n := 512) rfl hp rfl)) rfl rfl ?_
      refine xx_z ee64_67 (fun hga => ?_) (fun hga => nul (by rw [hga]; simp))
      refine xx_k ee64_72 0 rfl ?_
      refine xx_j ee64_73 rfl trivial ?_
      exact emp hno ht1 hga 4 0 (by omega) rfl
    | succ d ih =>
      intro j hj hs
      have nxt : ¬ (oz (M ff_Mod_whose (4 * v + j)) = some p ∧ rn M ff_Mod_whichTry (4 * v + j) = t) → fx_W 64 46 [some (vR 18 (some (B v + 5))), some (vR 12 (some F)), some (vI (nI j))] [] s Q := by
        intro hne
        first | refine xx_inc ee64_46 rfl ?_ | refine xx_j ee64_46 rfl trivial ?_
        refine xx_j ee64_49 rfl trivial ?_
        refine ih (j + 1) (by omega) ?_
        rw [← hs]
        conv => rhs; unfold sp_first
        have : (decide (M ff_Mod_whose (4 * v + j) = nI p) && decide (M ff_Mod_whichTry (4 * v + j) = nI t)) = false := by
          cases hc : (decide (M ff_Mod_whose (4 * v + j) = nI p) && decide (M ff_Mod_whichTry (4 * v + j) = nI t)) with
          | false => rfl
          | true => exact absurd ((place_iff hJ.ri hp ht (by omega)).mp hc) hne
        rw [this, cond_false]
        rfl
      refine xx_j ee64_2 rfl trivial ?_
      refine xx_k ee64_3 4 rfl ?_
      refine xx_ge ee64_4 (by omega) (by omega) (fun h => by omega) (fun _ => ?_)
      refine xx_j ee64_7 rfl trivial ?_
      refine xx_gr ee64_8 nd.places rfl rfl ?_
      refine xx_j ee64_11 rfl trivial ?_
      refine xx_rl ee64_12 nd.lpl (by omega) (by decide) (nd.pl j (by omega)) rfl ?_
      refine xx_gr ee64_13 (rv.pk j (by omega)) rfl rfl ?_
      refine xx_j ee64_16 rfl trivial ?_
      refine xx_gr ee64_17 hF1 rfl rfl ?_
      refine xx_an ee64_20 (fun hne => nxt (fun q => hne ((h.plc hJ hv (by omega) hp lp).mpr q.1))) (fun he => ?_)
      have hw := (h.plc hJ hv (i := j) (by omega) hp lp).mp he
      have eT : M ff_Mod_whichTry (4 * v + j) = nI (rn M ff_Mod_whichTry (4 * v + j)) := hJ.ri.e ff_Mod_whichTry _ (n := 256) rfl (by omega) (by decide)
      have lT : rn M ff_Mod_whichTry (4 * v + j) < 1000 := hJ.ri.l ff_Mod_whichTry _ 1000 (n := 256) rfl (by omega) rfl (by omega)
      refine xx_j ee64_23 rfl trivial ?_
      refine xx_gr ee64_24 nd.places rfl rfl ?_
      refine xx_j ee64_27 rfl trivial ?_
      refine xx_rl ee64_28 nd.lpl (by omega) (by decide) (nd.pl j (by omega)) rfl ?_
      refine xx_gi ee64_29 ((rv.pa j (by omega) (by rw [hw]; exact fun q => by cases q)).trans eT) rfl rfl ?_
      refine xx_j ee64_32 rfl trivial ?_
      refine xx_gi ee64_33 hF2 rfl rfl ?_
      refine xx_ne ee64_36 (by omega) (by omega) (fun hne => nxt (fun q => hne q.2)) (fun heq => ?_)
      refine xx_j ee64_39 rfl trivial ?_
      refine xx_gr ee64_40 nd.places rfl rfl ?_
      refine xx_j ee64_43 rfl trivial ?_
      refine xx_rl ee64_44 nd.lpl (by omega) (by decide) (nd.pl j (by omega)) rfl ?_
      refine xx_ra ee64_45 (k1 j (by omega) ?_)
      rw [← hs]
      unfold sp_first
      rw [(place_iff hJ.ri hp ht (by omega)).mpr ⟨hw, heq⟩]
      rfl
  refine xx_k ee64_0 0 rfl ?_
  refine xx_j ee64_1 rfl trivial ?_
  exact own 4 0 (by omega) rfl
/-- the number of a state's notes is kept by a join -/
theorem jn_eq {v p t b k : Nat} (h : sp_first (fun k => decide (M ff_Mod_whose k = nI p) && decide (M ff_Mod_whichTry k = nI t)) (4 * v) 4 = none) (t1 : t = 1) (hg : rz M ff_Mod_asked p = false) (he : semp M v = some k) : om_join M v p t b = fx_up (fx_up (fx_up M ff_Mod_whose k (nI p)) ff_Mod_whichTry k (nI 1)) ff_Mod_has k (nI (2 ^ b)) := by
  rw [om_join_e h (by rw [t1, hg]; exact he), fx_up_up, Nat.zero_or]
/-- joined and finished -/
def om_rj (M : rf_M) (v p t b : Nat) : rf_M := match sjk M v p t with
  | none => om_join M v p t b
  | some k => bif sfull (om_join M v p t b) v k then om_fin (om_join M v p t b) v k else om_join M v p t b
theorem rj_none {v p t b : Nat} (h : sjk M v p t = none) : om_rj M v p t b = om_join M v p t b := by
  unfold om_rj
  rw [h]
theorem rj_some {v p t b k : Nat} (h : sjk M v p t = some k) : om_rj M v p t b = bif sfull (om_join M v p t b) v k then om_fin (om_join M v p t b) v k else om_join M v p t b := by
  unfold om_rj
  rw [h]
theorem k_receive {v p t b F : Nat} (h : RA s x B H C Y P m rt K (List.range ((rn M ff_Mod_notes 0))) M) (hJ : JV M (fun k => k < (rn M ff_Mod_notes 0))) (hN : JN M) (hf : JF M (fun k => k < (rn M ff_Mod_notes 0)) v p t b) (h12 : J12 M v (fun _ => False)) (hlo : rn M ff_Mod_lost 0 < 9000000) (hF1 : fx_fr s ff_Flit_packet F = some (P p)) (hF2 : fx_fi s ff_Flit_attempt F = nI t)
    (k : ∀ s' rt', CK x s s' → RA s' x B H C Y P m rt' K (List.range ((rn (om_rj M v p t b) ff_Mod_notes 0))) (om_rj M v p t b) → Q none s') : fx_M mm_Torus_receive [vR 10 (some x), vR 18 (some (B v + 5)), vR 12 (some F)] s Q := by
  have h64 := hJ.all64
  obtain ⟨b1, b2, b3⟩ := hJ.join hf h12 hlo
  obtain ⟨f1, f2, f3, f4, f5, f6, f7, f8, f9, f10, f11⟩ := hf
  have hvm : v < m := Nat.lt_of_lt_of_le f1 h.nm
  have hb8 : b < 8 := by have := hJ.ri.gLl f2; omega
  have ht : t < 1000 := by rcases (hJ.j6 p f2 f3).1 with q | q <;> omega
  have eNN : (rn (om_join M v p t b) ff_Mod_notes 0) = (rn M ff_Mod_notes 0) := join_nN
  have b1' : JV (om_join M v p t b) (fun k => k < (rn (om_join M v p t b) ff_Mod_notes 0)) := by rw [eNN]; exact b1
  have oJ : ∀ g i, (g < 796 ∨ (796 < g ∧ g < 799) ∨ (814 ≤ g ∧ g < 818)) → om_join M v p t b g i = M g i := fun g i hg => join_o hg
  have hN' : JN (om_join M v p t b) := hN.to (fun i => oJ _ i (by decide)) (fun i => oJ _ i (by decide)) (fun i => oJ _ i (by decide)) (fun i => oJ _ i (by decide)) (fun i => oJ _ i (by decide))
  have hA' : (rn (om_join M v p t b) ff_Mod_all 0) = (rn M ff_Mod_all 0) := rn_eq (oJ _ _ (by decide))
  refine xx_i ml120 ?_
  refine xx_j ee120_0 rfl trivial ?_
  refine xx_j ee120_1 rfl trivial ?_
  refine xx_c ee120_2 rfl (k_placeFor h hJ hvm f2 f3 ht hF1 hF2 (fun i hi hs => ?_) (fun i hi hs t1 hga he => ?_) (fun hs he => ?_))
  · -- it has a place
    have hsj : sjk M v p t = some (4 * v + i) := by unfold sjk; rw [hs]
    rw [rj_some hsj] at k
    have hj := om_join_k (M := M) (b := b) hs
    obtain ⟨w1, w2⟩ := (place_iff hJ.ri f2 ht (by omega)).mp (sp_first_some.mp hs).2.2.1
    have hA2 := h.jk (y := nI (pcn (rn M ff_Mod_has (4 * v + i)) + 1)) hJ.ri hvm hi hb8 (by rw [w1]; exact fun q => by cases q) (f10 _ (by omega) w1 w2) rfl
    rw [← hj, ← eNN] at hA2
    refine xx_j ee120_5 rfl trivial ?_
    refine xx_j ee120_6 rfl trivial ?_
    refine xx_nu ee120_7 (fun hb => by cases hb) (fun _ _ => ?_)
    refine xx_j ee120_10 rfl trivial ?_
    refine xx_j ee120_11 rfl trivial ?_
    refine xx_gi ee120_12 ((h.v v hvm).pj i hi (by rw [w1]; exact fun q => by cases q)) rfl rfl ?_
    refine xx_k ee120_15 1 rfl ?_
    first | refine xx_add ee120_16 ?_ | refine xx_j ee120_16 rfl trivial ?_
    refine xx_pi ee120_17 rfl ?_
    refine xx_j ee120_20 rfl trivial ?_
    refine xx_j ee120_21 rfl trivial ?_
    refine xx_j ee120_22 rfl trivial ?_
    have hpw : oz ((om_join M v p t b) ff_Mod_whose (4 * v + i)) = some p := by rw [hj, fx_up_ne (fun q => absurd q.1 (by decide))]; exact w1
    refine xx_c ee120_23 rfl (k_finish hA2 b1' hN' (by rw [hA']; exact f1) hi hpw (fun s' rt' hC hA3 => ?_))
    refine xx_j ee120_26 rfl trivial ?_
    exact xx_rv ee120_68 (k s' rt' (((CK.rf x s).sfi (by decide)).tr hC) hA3)
  · -- it gets one
    have hsj : sjk M v p t = some (4 * v + i) := by
      unfold sjk
      rw [hs, t1, hga]
      exact he
    rw [rj_some hsj] at k
    have hj := jn_eq (b := b) hs t1 hga he
    have hA2 := h.keep (v := v) (i := i) (p := p) (t := 1) (j := 2 ^ b) (o := some (P p)) (y := nI t) (z := nI 1) hvm hi f2 (by omega) (Nat.lt_of_lt_of_le (Nat.pow_lt_pow_right (by omega) hb8) (by decide)) rfl (by rw [t1]) (by rw [pcn_pow hb8])
    rw [← hj, ← eNN] at hA2
    refine xx_j ee120_5 rfl trivial ?_
    refine xx_j ee120_6 rfl trivial ?_
    refine xx_nu ee120_7 (fun hb => by cases hb) (fun _ _ => ?_)
    refine xx_j ee120_10 rfl trivial ?_
    refine xx_j ee120_11 rfl trivial ?_
    refine xx_gi ee120_12 fi_same rfl rfl ?_
    refine xx_k ee120_15 1 rfl ?_
    first | refine xx_add ee120_16 ?_ | refine xx_j ee120_16 rfl trivial ?_
    refine xx_pi ee120_17 rfl ?_
    refine xx_s sfi_sfi ?_
    refine xx_j ee120_20 rfl trivial ?_
    refine xx_j ee120_21 rfl trivial ?_
    refine xx_j ee120_22 rfl trivial ?_
    have hpw : oz ((om_join M v p t b) ff_Mod_whose (4 * v + i)) = some p := by rw [hj, fx_up_ne (fun q => absurd q.1 (by decide)), fx_up_ne (fun q => absurd q.1 (by decide)), fx_up_same, oz_nI (by omega)]
    refine xx_c ee120_23 rfl (k_finish hA2 b1' hN' (by rw [hA']; exact f1) hi hpw (fun s' rt' hC hA3 => ?_))
    refine xx_j ee120_26 rfl trivial ?_
    exact xx_rv ee120_68 (k s' rt' (((((CK.rf x s).sfr (by decide)).sfi (by decide)).sfi (by decide)).tr hC) hA3)
  · -- it is lost
    have hsj : sjk M v p t = none := by
      unfold sjk
      rw [hs]
      exact he
    rw [rj_none hsj] at k
    have hj := om_join_l (M := M) (b := b) hs he
    have hask : fx_fi s ff_Packet_wasAsked (P p) = fx_bit (rz M ff_Mod_asked p) := (h.p p f2 f3).ask.trans (hJ.ri.z ff_Mod_asked p (n := 512) rfl f2 rfl)
    refine xx_j ee120_5 rfl trivial ?_
    refine xx_j ee120_6 rfl trivial ?_
    refine xx_nu ee120_7 (fun _ => ?_) (fun b hb => by cases hb)
    refine xx_j ee120_29 rfl trivial ?_
    refine xx_gr ee120_30 hF1 rfl rfl ?_
    refine xx_gi ee120_33 hask rfl rfl ?_
    refine xx_nz ee120_36 (fun hga => ?_) (fun hga => ?_)
    · rw [hga, cond_true] at hj
      refine xx_rv ee120_68 (k s rt (CK.rf x s) ?_)
      rw [hj]
      exact h
    · rw [hga, cond_false] at hj
      have hgt : rn M ff_Mod_slotTry p = 1 := by
        rcases (hJ.j6 p f2 f3).1 with y | y
        · exact y
        · rw [hga] at y; cases y.2
      have hout := h.out hJ (fun k hk => List.mem_range.mp hk) f2 f3 (fun a j ha hj2 q => by
        have := (hJ.j11 a j ha hj2).2.2.1
        rw [q] at this
        omega) (fun a j ha hj2 q => by
        have := (hJ.j9 a j ha hj2).2.2.1
        rw [q, hga] at this
        cases this) (fun k hk q => by
        have hk' := List.mem_range.mp hk
        have d0 := f11 k hk' q
        have := ((hJ.j10 k hk').2.2.2 d0).2.1
        rw [q, hga] at this
        cases this)
      have nd := h.sk.b v hvm
      refine xx_j ee120_39 rfl trivial ?_
      refine xx_gr ee120_40 hF1 rfl rfl ?_
      refine xx_k ee120_43 1 rfl ?_
      first | refine xx_pz ee120_44 rfl ?_ | refine xx_t fx_bit_t (xx_pz ee120_44 rfl ?_) | refine xx_t fx_bit_f (xx_pz ee120_44 rfl ?_)
      refine xx_j ee120_47 rfl trivial ?_
      refine xx_gr ee120_48 nd.asked rfl rfl ?_
      refine xx_j ee120_51 rfl trivial ?_
      refine xx_gr ee120_52 hF1 rfl rfl ?_
      have hR0 : RR (fx_sfi s ff_Packet_wasAsked (P p) (fx_bit true)) x B m rt := h.r
      refine xx_c ee120_55 rfl (k_app hR0 (ISR.k hvm) hout (fun nx fi la sz hR => ?_))
      refine xx_j ee120_58 rfl trivial ?_
      refine xx_j ee120_59 rfl trivial ?_
      refine xx_gi ee120_60 (h.t.ask.trans (hJ.ri.f ff_Mod_lost rfl (by decide))) rfl rfl ?_
      refine xx_k ee120_63 1 rfl ?_
      first | refine xx_add ee120_64 ?_ | refine xx_j ee120_64 rfl trivial ?_
      refine xx_pi ee120_65 rfl ?_
      refine xx_rv ee120_68 (k _ (fn_up rt (B v + 6) (rt (B v + 6) ++ [P p])) ?_ ?_)
      · exact (((CK.rf x s).sfi (by decide)).srow).sfi (by decide)
      · rw [eNN, hj]
        exact h.jl hJ f1 f2 f3 (hJ.rN512 f1) rfl hR
end
