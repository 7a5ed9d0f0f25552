/-! THE CLASS: golden, rank -/
/-- the best one is ahead of all others -/
theorem sp_best_max {P : Nat → Bool} {R : Nat → Nat → Bool} : ∀ {N b : Nat}, (∀ a c, a < N → c < N → P a = true → P c = true → a ≠ c → R a c = false → R c a = true) → (∀ a c d, a < N → c < N → d < N → P a = true → P c = true → P d = true → a ≠ c → c ≠ d → a ≠ d → R a c = true → R c d = true → R a d = true) → sp_best P R N = some b → ∀ c, c < N → P c = true → c ≠ b → R b c = true
  | 0, b, _, _, h => by cases h
  | N + 1, b, ht, hr, h => by
    unfold sp_best at h
    cases hp : P N with
    | false =>
      rw [hp, Bool.false_and, cond_false] at h
      intro c hc hpc hne
      have : c ≠ N := fun q => by rw [q, hp] at hpc; cases hpc
      exact sp_best_max (fun a c ha hc => ht a c (by omega) (by omega)) (fun a c d ha hc hd => hr a c d (by omega) (by omega) (by omega)) h c (by omega) hpc hne
    | true =>
      rw [hp, Bool.true_and] at h
      cases hb : sp_best P R N with
      | none =>
        rw [hb] at h
        dsimp only at h
        rw [cond_true] at h
        cases h
        intro c hc hpc hne
        have := sp_best_none.mp hb c (by omega)
        rw [this] at hpc; cases hpc
      | some b0 =>
        rw [hb] at h
        dsimp only at h
        obtain ⟨l1, l2⟩ := sp_best_lt hb
        have ih := sp_best_max (fun a c ha hc => ht a c (by omega) (by omega)) (fun a c d ha hc hd => hr a c d (by omega) (by omega) (by omega)) hb
        cases hR : R N b0 with
        | true =>
          rw [hR, cond_true] at h
          cases h
          intro c hc hpc hne
          by_cases e : c = b0
          · rw [e]; exact hR
          · exact hr N b0 c (by omega) (by omega) hc hp l2 hpc (by omega) (fun q => e q.symm) (fun q => hne q.symm) hR (ih c (by omega) hpc e)
        | false =>
          rw [hR, cond_false] at h
          cases h
          intro c hc hpc hne
          by_cases e : c = N
          · rw [e]; exact ht N b (by omega) (by omega) hp l2 (by omega) hR
          · exact ih c (by omega) hpc hne
section
variable {s : fx_S} {Q : fx_Q} {x m : Nat} {B H P : Nat → Nat} {C : Nat → Nat → Option Nat} {Y : Nat → Nat → Nat} {rt : Nat → List Nat} {K : Nat → Prop} {L : List Nat} {M : rf_M} {lv : Nat → Prop}
theorem JN.lst (h : JN M) {a b : Nat} (ha : a < (rn M ff_Mod_all 0)) (hb : b < (rn M ff_Mod_all 0)) : LST (rz M ff_Mod_closed) (rn M ff_Mod_n 0) a b (dr M a b) := by
  obtain ⟨-, h2, h3, -⟩ := h
  obtain ⟨d1, d2, d3⟩ := h2 a ha b hb
  exact ⟨d2 (h3 a b ha hb), d3⟩
theorem JN.co (h : JN M) : CO (rz M ff_Mod_closed) (rn M ff_Mod_n 0) ((rn M ff_Mod_all 0)) := fun a b ha hb => ⟨_, (h.lst ha hb).1⟩
theorem JN.far (h : JN M) {d : Nat} (h1 : ∀ g u, g < (rn M ff_Mod_all 0) → u < (rn M ff_Mod_all 0) → ∃ e, e ≤ d ∧ LST (rz M ff_Mod_closed) (rn M ff_Mod_n 0) g u e) (h2 : ∃ g u, g < (rn M ff_Mod_all 0) ∧ u < (rn M ff_Mod_all 0) ∧ LST (rz M ff_Mod_closed) (rn M ff_Mod_n 0) g u d) : d = rn M ff_Mod_farthest 0 := by
  obtain ⟨g, u, hg, hu, hd⟩ := h2
  have e := LST.eq hd (h.lst hg hu)
  have a1 := h.2.2.2.1 g u hg hu
  rcases h.2.2.2.2 with q | ⟨a, b, ha, hb, q⟩
  · omega
  · obtain ⟨e', e1, e2⟩ := h1 a b ha hb
    have := LST.eq e2 (h.lst ha hb)
    omega
/-- the class's wants are the reference's -/
theorem JN.want (h : JN M) (hn2 : 2 ≤ rn M ff_Mod_n 0) (hn9 : rn M ff_Mod_n 0 < 9) (hNN : (rn M ff_Mod_all 0) = rn M ff_Mod_n 0 * rn M ff_Mod_n 0) {v w g d e : Nat} (hv : v < (rn M ff_Mod_all 0)) (hg : g < (rn M ff_Mod_all 0)) (hd : LST (rz M ff_Mod_closed) (rn M ff_Mod_n 0) g (nb (rn M ff_Mod_n 0) v w) d) (he : LST (rz M ff_Mod_closed) (rn M ff_Mod_n 0) g v e) : swant M v w g = (!rz M ff_Mod_closed (4 * v + w) && decide (d < e)) := by
  have hnb : nb (rn M ff_Mod_n 0) v w < (rn M ff_Mod_all 0) := by rw [hNN]; exact nb_lt (by omega) (by rw [← hNN]; exact hv)
  have e1 := LST.eq (hd.sym hn2 hn9 hNN h.1 hg hnb) (h.lst hnb hg)
  have e2 := LST.eq (he.sym hn2 hn9 hNN h.1 hg hv) (h.lst hv hg)
  unfold swant
  rw [e1, e2]
  rfl
theorem RA.gf {t : fx_S} (h : RA s x B H C Y P m rt K L M) (hg : GF x s t) (h1 : RGa t x (rz M ff_Mod_closed) (rn M ff_Mod_n 0) ((rn M ff_Mod_all 0))) (h2 : RGb t x (rz M ff_Mod_closed) (rn M ff_Mod_n 0) ((rn M ff_Mod_all 0))) : RA t x B H C Y P m rt K L M := by
  have e := hg.eq
  generalize fx_fi t = gi at e
  generalize fx_ai t = ai at e
  subst e
  exact ⟨h.sk, h.t, ⟨h1, h2⟩, h.s, h.p, h.w, h.r, h.x, h.m, h.o, h.k, h.f, h.v, h.nm⟩
theorem JV.n2 (h : JV M lv) : 2 ≤ rn M ff_Mod_n 0 ∧ rn M ff_Mod_n 0 < 9 ∧ (rn M ff_Mod_all 0) = rn M ff_Mod_n 0 * rn M ff_Mod_n 0 := ⟨h.net.1, RN.n8 h.ri, h.net.2.1⟩
/-- what is golden now -/
def RGo (s : fx_S) (x g : Nat) : Prop := fx_fi s ff_Rank_goldenNumber (x + 9) = nI (g % 8) ∧ fx_fi s ff_Rank_goldenSlot (x + 9) = nI (g / 8 % 8) ∧ fx_fi s ff_Rank_goldenSource (x + 9) = nI (g / 64)
theorem k_goldenIndex (h : RA s x B H C Y P m rt K L M) (hJ : JV M lv) (hN : JN M) (k : ∀ s', GF x s s' → RA s' x B H C Y P m rt K L M → Q (some (vI (nI (sgold M)))) s') : fx_M mm_Torus_goldenIndex [vR 10 (some x)] s Q := by
  obtain ⟨n2, n9, nn⟩ := hJ.n2
  have h64 := hJ.all64
  have h0 := hJ.all0
  have lf := hJ.ri.l ff_Mod_farthest 0 1001 (n := 1) rfl (by omega) rfl (by omega)
  have lc := hJ.ri.l ff_Mod_cycle 0 1000000 (n := 1) rfl (by omega) rfl (by omega)
  refine xx_i ml105 ?_
  refine xx_k ee105_0 2 rfl ?_
  refine xx_j ee105_1 rfl trivial ?_
  refine xx_gr ee105_2 h.sk.a.grid rfl rfl ?_
  refine xx_c ee105_5 rfl (k_greatest h.sk.a h.g.a h.g.b n2 n9 nn h64 hN.co (fun t d a1 a2 a3 a4 a5 a6 a7 => ?_))
  have hd := hN.far a6 a7
  have hA := h.gf a1 a3 a4
  refine xx_kb ee105_8 8 rfl ?_
  first | refine xx_add ee105_10 ?_ | refine xx_j ee105_10 rfl trivial ?_
  first | refine xx_mul ee105_11 ?_ | refine xx_j ee105_11 rfl trivial ?_
  refine xx_j ee105_12 rfl trivial ?_
  refine xx_j ee105_13 rfl trivial ?_
  refine xx_gi ee105_14 (hA.t.now.trans (hJ.ri.f ff_Mod_cycle rfl (by decide))) rfl rfl ?_
  refine xx_j ee105_17 rfl trivial ?_
  refine xx_div ee105_18 (by omega) (by omega) (by omega) ?_
  refine xx_j ee105_19 rfl trivial ?_
  refine xx_gr ee105_20 hA.sk.a.grid rfl rfl ?_
  refine xx_gi ee105_23 a3.1 rfl rfl ?_
  refine xx_kb ee105_26 8 rfl ?_
  first | refine xx_mul ee105_28 ?_ | refine xx_j ee105_28 rfl trivial ?_
  refine xx_kb ee105_29 8 rfl ?_
  first | refine xx_mul ee105_31 ?_ | refine xx_j ee105_31 rfl trivial ?_
  refine xx_rem ee105_32 ?_ (by omega) (by omega) ?_
  · have : rn M ff_Mod_cycle 0 / (2 * (d + 8)) ≤ rn M ff_Mod_cycle 0 := Nat.div_le_self _ _
    omega
  refine xx_ri ee105_33 rt105 ?_
  have e : rn M ff_Mod_cycle 0 / (2 * (d + 8)) % ((rn M ff_Mod_all 0) * 8 * 8) = sgold M := by
    unfold sgold
    rw [hd, Nat.mul_assoc]
  rw [e]
  exact k t a1 hA
theorem k_makeGolden {g r : Nat} (hg : g < 2 ^ 20) (k : Q none (fx_sfi (fx_sfi (fx_sfi s ff_Rank_goldenNumber r (nI (g % 8))) ff_Rank_goldenSlot r (nI (g / 8 % 8))) ff_Rank_goldenSource r (nI (g / 8 / 8)))) : fx_M mm_Rank_makeGolden [vR 17 (some r), vI (nI g)] s Q := by
  refine xx_i ml15 ?_
  refine xx_j ee15_0 rfl trivial ?_
  refine xx_j ee15_1 rfl trivial ?_
  refine xx_kb ee15_2 8 rfl ?_
  refine xx_rem ee15_4 (by omega) (by omega) (by omega) ?_
  refine xx_pi ee15_5 rfl ?_
  refine xx_j ee15_8 rfl trivial ?_
  refine xx_j ee15_9 rfl trivial ?_
  refine xx_kb ee15_10 8 rfl ?_
  refine xx_div ee15_12 (by omega) (by omega) (by omega) ?_
  refine xx_kb ee15_13 8 rfl ?_
  refine xx_rem ee15_15 (by omega) (by omega) (by omega) ?_
  refine xx_pi ee15_16 rfl ?_
  refine xx_j ee15_19 rfl trivial ?_
  refine xx_j ee15_20 rfl trivial ?_
  refine xx_kb ee15_21 8 rfl ?_
  refine xx_div ee15_23 (by omega) (by omega) (by omega) ?_
  refine xx_kb ee15_24 8 rfl ?_
  refine xx_div ee15_26 (by omega) (by omega) (by omega) ?_
  refine xx_pi ee15_27 rfl ?_
  exact xx_rv ee15_30 k
/-- F is the object of flit f -/
def FO (s : fx_S) (P : Nat → Nat) (M : rf_M) (f F : Nat) : Prop := f < (rn M ff_Mod_flits 0) ∧ fx_ar s (P (spk M f) + 1) (rn M ff_Mod_number f) = some F
theorem RA.fo {f F : Nat} (h : RA s x B H C Y P m rt K L M) (hJ : JV M lv) (hF : FO s P M f F) : fx_fr s ff_Flit_packet F = some (P (spk M f)) ∧ fx_fi s ff_Flit_number F = nI (rn M ff_Mod_number f) ∧ fx_fi s ff_Flit_entry F = nI (rn M ff_Mod_entry f) ∧ fx_fi s ff_Flit_attempt F = nI (rn M ff_Mod_tries f) ∧ RP1 s (P (spk M f)) (spk M f) M ∧ spk M f / 8 = rn M ff_Mod_source f ∧ spk M f % 8 = rn M ff_Mod_slot f ∧ rn M ff_Mod_slot f < 8 ∧ rn M ff_Mod_number f < 8 ∧ rn M ff_Mod_source f < 64 ∧ rn M ff_Mod_entry f < 1000000 ∧ rn M ff_Mod_tries f < 1000 ∧ F < fx_nx s := by
  obtain ⟨hf, hF⟩ := hF
  have h257 := hJ.ri.fNl
  obtain ⟨q1, q2, q3, -⟩ := hJ.j2 f hf
  have lB := hJ.ri.mBl (f := f) (by omega)
  have lK := hJ.ri.l ff_Mod_slot f 8 (n := 300) rfl (by omega) rfl (by omega)
  have lS := hJ.ri.l ff_Mod_source f 64 (n := 300) rfl (by omega) rfl (by omega)
  have lE := hJ.ri.l ff_Mod_entry f 1000000 (n := 300) rfl (by omega) rfl (by omega)
  have lT := hJ.ri.l ff_Mod_tries f 1000 (n := 300) rfl (by omega) rfl (by omega)
  obtain ⟨a1, a2, a3⟩ := h.k.ft _ _ F (h.o.kp _ q3 q1) lB hF
  refine ⟨a1, a2, (h.f.ent f F hf hF).trans (hJ.ri.e ff_Mod_entry f (n := 300) rfl (by omega) (by decide)), (h.f.att f F hf hF).trans (hJ.ri.e ff_Mod_tries f (n := 300) rfl (by omega) (by decide)), h.p _ q3 q1, ?_, ?_, lK, lB, lS, lE, lT, a3⟩
  · unfold spk; omega
  · unfold spk; omega
theorem k_isGolden {f F : Nat} (h : RA s x B H C Y P m rt K L M) (hJ : JV M lv) (hgo : RGo s x (sgold M)) (hF : FO s P M f F) (k : Q (some (vI (fx_bit (skey M f == sgold M)))) s) : fx_M mm_Rank_isGolden [vR 17 (some (x + 9)), vR 12 (some F)] s Q := by
  obtain ⟨a1, a2, a3, a4, a5, a6, a7, a8, a9, a10, a11, a12, a13⟩ := h.fo hJ hF
  have hg : sgold M < 64 * 64 := by
    have := hJ.all64
    have := hJ.all0
    have := Nat.mod_lt (rn M ff_Mod_cycle 0 / (2 * (rn M ff_Mod_farthest 0 + 8))) (show 0 < (rn M ff_Mod_all 0) * 64 by omega)
    show _ % ((rn M ff_Mod_all 0) * 64) < _
    omega
  have no : skey M f ≠ sgold M → fx_W 14 43 (fx_pad 2 [vR 17 (some (x + 9)), vR 12 (some F)]) [] s Q := by
    intro q
    have e : (skey M f == sgold M) = false := by simpa using q
    rw [e] at k
    refine xx_k ee14_43 0 rfl ?_
    exact xx_t fx_bit_f (xx_rz ee14_44 k)
  refine xx_i ml14 ?_
  refine xx_j ee14_0 rfl trivial ?_
  refine xx_gi ee14_1 a2 rfl rfl ?_
  refine xx_j ee14_4 rfl trivial ?_
  refine xx_gi ee14_5 hgo.1 rfl rfl ?_
  refine xx_ne ee14_8 (by omega) (by omega) (fun q => no (fun e => q (by unfold skey at e; omega))) (fun q1 => ?_)
  refine xx_j ee14_11 rfl trivial ?_
  refine xx_gr ee14_12 a1 rfl rfl ?_
  refine xx_gi ee14_15 a5.slot rfl rfl ?_
  refine xx_j ee14_18 rfl trivial ?_
  refine xx_gi ee14_19 hgo.2.1 rfl rfl ?_
  refine xx_ne ee14_22 (by omega) (by omega) (fun q => no (fun e => q (by unfold skey at e; omega))) (fun q2 => ?_)
  refine xx_j ee14_25 rfl trivial ?_
  refine xx_gr ee14_26 a1 rfl rfl ?_
  refine xx_gi ee14_29 a5.src rfl rfl ?_
  refine xx_j ee14_32 rfl trivial ?_
  refine xx_gi ee14_33 hgo.2.2 rfl rfl ?_
  refine xx_ne ee14_36 (by omega) (by omega) (fun q => no (fun e => q (by unfold skey at e; omega))) (fun q3 => ?_)
  have e : (skey M f == sgold M) = true := by
    have : skey M f = sgold M := by unfold skey; omega
    simpa using this
  rw [e] at k
  refine xx_k ee14_39 1 rfl ?_
  refine xx_j ee14_40 rfl trivial ?_
  exact xx_t fx_bit_t (xx_rz ee14_44 k)
theorem k_isHigher {f g F G : Nat} (h : RA s x B H C Y P m rt K L M) (hJ : JV M lv) (hgo : RGo s x (sgold M)) (hF : FO s P M f F) (hF2 : FO s P M g G) (k : Q (some (vI (fx_bit (sah M f g)))) s) : fx_M mm_Rank_isHigher [vR 17 (some (x + 9)), vR 12 (some F), vR 12 (some G)] s Q := by
  obtain ⟨a1, a2, a3, a4, a5, a6, a7, a8, a9, a10, a11, a12, a13⟩ := h.fo hJ hF
  obtain ⟨b1, b2, b3, b4, b5, b6, b7, b8, b9, b10, b11, b12, b13⟩ := h.fo hJ hF2
  refine xx_i ml61 ?_
  have gold : ((skey M f == sgold M) || (skey M g == sgold M)) = true → fx_W 61 16 (fx_pad 3 [vR 17 (some (x + 9)), vR 12 (some F), vR 12 (some G)]) [] s Q := by
    intro q
    have e : sah M f g = (skey M f == sgold M) := by unfold sah; rw [q, cond_true]
    rw [e] at k
    refine xx_j ee61_16 rfl trivial ?_
    refine xx_j ee61_17 rfl trivial ?_
    refine xx_c ee61_18 rfl (k_isGolden h hJ hgo hF ?_)
    exact xx_rz ee61_21 k
  refine xx_j ee61_0 rfl trivial ?_
  refine xx_j ee61_1 rfl trivial ?_
  refine xx_c ee61_2 rfl (k_isGolden h hJ hgo hF ?_)
  refine xx_nz ee61_5 (fun q => gold (by rw [q, Bool.true_or])) (fun q1 => ?_)
  refine xx_j ee61_8 rfl trivial ?_
  refine xx_j ee61_9 rfl trivial ?_
  refine xx_c ee61_10 rfl (k_isGolden h hJ hgo hF2 ?_)
  refine xx_z ee61_13 (fun q2 => ?_) (fun q => gold (by rw [q, Bool.or_true]))
  have e0 : sah M f g = bif rn M ff_Mod_entry f == rn M ff_Mod_entry g then decide (skey M f < skey M g) else decide (rn M ff_Mod_entry f < rn M ff_Mod_entry g) := by
    unfold sah
    rw [q1, q2]
    rfl
  have key : ∀ c : Bool, sah M f g = c → Q (some (vI (fx_bit c))) s := fun c hc => by rw [← hc]; exact k
  have kf : skey M f = 64 * rn M ff_Mod_source f + 8 * rn M ff_Mod_slot f + rn M ff_Mod_number f := rfl
  have kg : skey M g = 64 * rn M ff_Mod_source g + 8 * rn M ff_Mod_slot g + rn M ff_Mod_number g := rfl
  refine xx_j ee61_22 rfl trivial ?_
  refine xx_gi ee61_23 a3 rfl rfl ?_
  refine xx_j ee61_26 rfl trivial ?_
  refine xx_gi ee61_27 b3 rfl rfl ?_
  refine xx_eq ee61_30 (by omega) (by omega) (fun qe => ?_) (fun qe => ?_)
  · have ee : (rn M ff_Mod_entry f == rn M ff_Mod_entry g) = true := by simpa using qe
    rw [ee, cond_true] at e0
    refine xx_j ee61_50 rfl trivial ?_
    refine xx_gr ee61_51 a1 rfl rfl ?_
    refine xx_gi ee61_54 (h.fo hJ hF).2.2.2.2.1.src rfl rfl ?_
    refine xx_j ee61_57 rfl trivial ?_
    refine xx_gr ee61_58 b1 rfl rfl ?_
    refine xx_gi ee61_61 (h.fo hJ hF2).2.2.2.2.1.src rfl rfl ?_
    rw [a6, b6]
    refine xx_eq ee61_64 (by omega) (by omega) (fun qs => ?_) (fun qs => ?_)
    · refine xx_j ee61_90 rfl trivial ?_
      refine xx_gr ee61_91 a1 rfl rfl ?_
      refine xx_gi ee61_94 (h.fo hJ hF).2.2.2.2.1.slot rfl rfl ?_
      refine xx_j ee61_97 rfl trivial ?_
      refine xx_gr ee61_98 b1 rfl rfl ?_
      refine xx_gi ee61_101 (h.fo hJ hF2).2.2.2.2.1.slot rfl rfl ?_
      rw [a7, b7]
      refine xx_eq ee61_104 (by omega) (by omega) (fun qk => ?_) (fun qk => ?_)
      · refine xx_j ee61_130 rfl trivial ?_
        refine xx_gi ee61_131 a2 rfl rfl ?_
        refine xx_j ee61_134 rfl trivial ?_
        refine xx_gi ee61_135 b2 rfl rfl ?_
        refine xx_ge ee61_138 (by omega) (by omega) (fun qb => ?_) (fun qb => ?_)
        · refine xx_k ee61_145 0 rfl ?_
          exact xx_t fx_bit_f (xx_rz ee61_146 (key false (by rw [e0]; simpa using (show skey M g ≤ skey M f by omega))))
        · refine xx_k ee61_141 1 rfl ?_
          refine xx_j ee61_142 rfl trivial ?_
          exact xx_t fx_bit_t (xx_rz ee61_146 (key true (by rw [e0]; simpa using (show skey M f < skey M g by omega))))
      · refine xx_j ee61_107 rfl trivial ?_
        refine xx_gr ee61_108 a1 rfl rfl ?_
        refine xx_gi ee61_111 (h.fo hJ hF).2.2.2.2.1.slot rfl rfl ?_
        refine xx_j ee61_114 rfl trivial ?_
        refine xx_gr ee61_115 b1 rfl rfl ?_
        refine xx_gi ee61_118 (h.fo hJ hF2).2.2.2.2.1.slot rfl rfl ?_
        rw [a7, b7]
        refine xx_ge ee61_121 (by omega) (by omega) (fun qb => ?_) (fun qb => ?_)
        · refine xx_k ee61_128 0 rfl ?_
          exact xx_t fx_bit_f (xx_rz ee61_129 (key false (by rw [e0]; simpa using (show skey M g ≤ skey M f by omega))))
        · refine xx_k ee61_124 1 rfl ?_
          refine xx_j ee61_125 rfl trivial ?_
          exact xx_t fx_bit_t (xx_rz ee61_129 (key true (by rw [e0]; simpa using (show skey M f < skey M g by omega))))
    · refine xx_j ee61_67 rfl trivial ?_
      refine xx_gr ee61_68 a1 rfl rfl ?_
      refine xx_gi ee61_71 (h.fo hJ hF).2.2.2.2.1.src rfl rfl ?_
      refine xx_j ee61_74 rfl trivial ?_
      refine xx_gr ee61_75 b1 rfl rfl ?_
      refine xx_gi ee61_78 (h.fo hJ hF2).2.2.2.2.1.src rfl rfl ?_
      rw [a6, b6]
      refine xx_ge ee61_81 (by omega) (by omega) (fun qb => ?_) (fun qb => ?_)
      · refine xx_k ee61_88 0 rfl ?_
        exact xx_t fx_bit_f (xx_rz ee61_89 (key false (by rw [e0]; simpa using (show skey M g ≤ skey M f by omega))))
      · refine xx_k ee61_84 1 rfl ?_
        refine xx_j ee61_85 rfl trivial ?_
        exact xx_t fx_bit_t (xx_rz ee61_89 (key true (by rw [e0]; simpa using (show skey M f < skey M g by omega))))
  · have ee : (rn M ff_Mod_entry f == rn M ff_Mod_entry g) = false := by simpa using qe
    rw [ee, cond_false] at e0
    refine xx_j ee61_33 rfl trivial ?_
    refine xx_gi ee61_34 a3 rfl rfl ?_
    refine xx_j ee61_37 rfl trivial ?_
    refine xx_gi ee61_38 b3 rfl rfl ?_
    refine xx_ge ee61_41 (by omega) (by omega) (fun qb => ?_) (fun qb => ?_)
    · refine xx_k ee61_48 0 rfl ?_
      exact xx_t fx_bit_f (xx_rz ee61_49 (key false (by rw [e0]; simpa using qb)))
    · refine xx_k ee61_44 1 rfl ?_
      refine xx_j ee61_45 rfl trivial ?_
      exact xx_t fx_bit_t (xx_rz ee61_49 (key true (by rw [e0]; simpa using qb)))
/-! the order of the flits -/
theorem skey_inj (hJ : JV M lv) {f g : Nat} (hf : f < (rn M ff_Mod_flits 0)) (hg : g < (rn M ff_Mod_flits 0)) (e : skey M f = skey M g) : f = g := by
  have h257 := hJ.ri.fNl
  have l1 := hJ.ri.mBl (f := f) (by omega)
  have l2 := hJ.ri.mBl (f := g) (by omega)
  have l3 := hJ.ri.l ff_Mod_slot f 8 (n := 300) rfl (by omega) rfl (by omega)
  have l4 := hJ.ri.l ff_Mod_slot g 8 (n := 300) rfl (by omega) rfl (by omega)
  unfold skey at e
  exact hJ.j3 f g hf hg (by unfold spk; omega) (by omega)
theorem sah_tot (hJ : JV M lv) {f g : Nat} (hf : f < (rn M ff_Mod_flits 0)) (hg : g < (rn M ff_Mod_flits 0)) (hne : f ≠ g) : sah M f g = !sah M g f := by
  have hk : skey M f ≠ skey M g := fun e => hne (skey_inj hJ hf hg e)
  unfold sah
  by_cases c1 : skey M f = sgold M
  · have c2 : skey M g ≠ sgold M := fun q => hk (c1.trans q.symm)
    simp [c1, c2]
  · by_cases c2 : skey M g = sgold M
    · simp [c1, c2]
    · by_cases c3 : rn M ff_Mod_entry f = rn M ff_Mod_entry g
      · simp only [beq_eq_false_iff_ne.mpr c1, beq_eq_false_iff_ne.mpr c2, Bool.or_false, cond_false, c3, beq_self_eq_true, cond_true]
        by_cases c4 : skey M f < skey M g
        · simp [c4, Nat.lt_asymm c4]
        · have : skey M g < skey M f := by omega
          simp [c4, this]
      · have c3' : rn M ff_Mod_entry g ≠ rn M ff_Mod_entry f := fun q => c3 q.symm
        simp only [beq_eq_false_iff_ne.mpr c1, beq_eq_false_iff_ne.mpr c2, Bool.or_false, cond_false, beq_eq_false_iff_ne.mpr c3, beq_eq_false_iff_ne.mpr c3']
        by_cases c4 : rn M ff_Mod_entry f < rn M ff_Mod_entry g
        · simp [c4, Nat.lt_asymm c4]
        · have : rn M ff_Mod_entry g < rn M ff_Mod_entry f := by omega
          simp [c4, this]
theorem sah_tr {f g i : Nat} (h1 : sah M f g = true) (h2 : sah M g i = true) (n1 : skey M f ≠ skey M g) (n2 : skey M g ≠ skey M i) : sah M f i = true := by
  unfold sah at *
  by_cases c1 : skey M f = sgold M
  · simp [c1]
  · by_cases c2 : skey M g = sgold M
    · simp [c1, c2] at h1
    · by_cases c3 : skey M i = sgold M
      · simp [c2, c3] at h2
      · simp only [beq_eq_false_iff_ne.mpr c1, beq_eq_false_iff_ne.mpr c2, beq_eq_false_iff_ne.mpr c3, Bool.or_false, cond_false] at h1 h2 ⊢
        by_cases e1 : rn M ff_Mod_entry f = rn M ff_Mod_entry g
        · by_cases e2 : rn M ff_Mod_entry g = rn M ff_Mod_entry i
          · have e3 : rn M ff_Mod_entry f = rn M ff_Mod_entry i := e1.trans e2
            simp only [e1, e2, beq_self_eq_true, cond_true, decide_eq_true_eq] at h1 h2 ⊢
            omega
          · simp only [e1, beq_self_eq_true, cond_true, decide_eq_true_eq, beq_eq_false_iff_ne.mpr e2, cond_false] at h1 h2 ⊢
            exact h2
        · by_cases e2 : rn M ff_Mod_entry g = rn M ff_Mod_entry i
          · have e3 : rn M ff_Mod_entry f ≠ rn M ff_Mod_entry i := fun q => e1 (q.trans e2.symm)
            simp only [beq_eq_false_iff_ne.mpr e1, cond_false, decide_eq_true_eq, beq_eq_false_iff_ne.mpr e3] at h1 ⊢
            omega
          · simp only [beq_eq_false_iff_ne.mpr e1, beq_eq_false_iff_ne.mpr e2, cond_false, decide_eq_true_eq] at h1 h2
            have e3 : rn M ff_Mod_entry f ≠ rn M ff_Mod_entry i := by omega
            simp only [beq_eq_false_iff_ne.mpr e3, cond_false, decide_eq_true_eq]
            omega
/-- the best of flits is the only one that is ahead of all -/
theorem best_iff (hJ : JV M lv) {Pf : Nat → Bool} {b : Nat} : sp_best Pf (sah M) ((rn M ff_Mod_flits 0)) = some b ↔ b < (rn M ff_Mod_flits 0) ∧ Pf b = true ∧ ∀ c, c < (rn M ff_Mod_flits 0) → Pf c = true → c ≠ b → sah M b c = true := by
  have tot : ∀ a c, a < (rn M ff_Mod_flits 0) → c < (rn M ff_Mod_flits 0) → Pf a = true → Pf c = true → a ≠ c → sah M a c = false → sah M c a = true := fun a c ha hc _ _ hne q => by
    rw [sah_tot hJ hc ha (fun z => hne z.symm), q]; rfl
  have tr : ∀ a c d, a < (rn M ff_Mod_flits 0) → c < (rn M ff_Mod_flits 0) → d < (rn M ff_Mod_flits 0) → Pf a = true → Pf c = true → Pf d = true → a ≠ c → c ≠ d → a ≠ d → sah M a c = true → sah M c d = true → sah M a d = true := fun a c d ha hc hd _ _ _ n1 n2 _ q1 q2 => sah_tr q1 q2 (fun z => n1 (skey_inj hJ ha hc z)) (fun z => n2 (skey_inj hJ hc hd z))
  constructor
  · intro h
    obtain ⟨l1, l2⟩ := sp_best_lt h
    exact ⟨l1, l2, sp_best_max tot tr h⟩
  · rintro ⟨l1, l2, l3⟩
    cases hs : sp_best Pf (sah M) ((rn M ff_Mod_flits 0)) with
    | none =>
      have := sp_best_none.mp hs b l1
      rw [l2] at this; cases this
    | some d =>
      obtain ⟨d1, d2⟩ := sp_best_lt hs
      by_cases e : d = b
      · rw [e]
      · have q1 := l3 d d1 d2 e
        have q2 := sp_best_max tot tr hs b l1 l2 (fun z => e z.symm)
        rw [sah_tot hJ d1 l1 e, q1] at q2
        cases q2
end
