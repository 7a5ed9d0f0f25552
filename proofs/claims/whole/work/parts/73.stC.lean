/-! THE CLASS: notes are told, walked -/
section
variable {s : fx_S} {Q : fx_Q} {x m : Nat} {B H P : Nat → Nat} {C : Nat → Nat → Option Nat} {Y : Nat → Nat → Nat} {rt : Nat → List Nat} {K : Nat → Prop} {L : List Nat} {M : rf_M} {lv : Nat → Prop}
/-- the heap's part that the reference does not see is all that changes -/
def CF (x : Nat) (s t : fx_S) : Prop := (∀ f a, 768 ≤ f → a < fx_nx s → fx_fi t f a = fx_fi s f a ∧ fx_fr t f a = fx_fr s f a) ∧ (∀ a, a < fx_nx s → fx_kd t a = fx_kd s a ∧ fx_ln t a = fx_ln s a ∧ fx_al t a = fx_al s a ∧ ((a < x + 4 ∨ x + 8 < a) → fx_ai t a = fx_ai s a)) ∧ fx_nx s ≤ fx_nx t
theorem CF.rf (x : Nat) (s : fx_S) : CF x s s := ⟨fun _ _ _ _ => ⟨rfl, rfl⟩, fun _ _ => ⟨rfl, rfl, rfl, fun _ => rfl⟩, Nat.le_refl _⟩
theorem CF.tr {s t u : fx_S} (h : CF x s t) (g : CF x t u) : CF x s u := by
  refine ⟨fun f a hf ha => ⟨(g.1 f a hf (Nat.lt_of_lt_of_le ha h.2.2)).1.trans (h.1 f a hf ha).1, (g.1 f a hf (Nat.lt_of_lt_of_le ha h.2.2)).2.trans (h.1 f a hf ha).2⟩, fun a ha => ?_, Nat.le_trans h.2.2 g.2.2⟩
  obtain ⟨h1, h2, h3, h4⟩ := h.2.1 a ha
  obtain ⟨g1, g2, g3, g4⟩ := g.2.1 a (Nat.lt_of_lt_of_le ha h.2.2)
  exact ⟨g1.trans h1, g2.trans h2, g3.trans h3, fun q => (g4 q).trans (h4 q)⟩
theorem CF.sfi {s t : fx_S} {f a : Nat} {v : Int32} (h : CF x s t) (hf : f < 768) : CF x s (fx_sfi t f a v) := h.tr ⟨fun g b hg _ => ⟨fi_ne (fun q => by omega), rfl⟩, fun _ _ => ⟨rfl, rfl, rfl, fun _ => rfl⟩, Nat.le_refl _⟩
theorem CF.sfr {s t : fx_S} {f a : Nat} {v : Option Nat} (h : CF x s t) (hf : f < 768) : CF x s (fx_sfr t f a v) := h.tr ⟨fun g b hg _ => ⟨rfl, fr_ne (fun q => by omega)⟩, fun _ _ => ⟨rfl, rfl, rfl, fun _ => rfl⟩, Nat.le_refl _⟩
theorem CF.sar {s t : fx_S} {a i : Nat} {v : Option Nat} (h : CF x s t) : CF x s (fx_sar t a i v) := h.tr ⟨fun _ _ _ _ => ⟨rfl, rfl⟩, fun _ _ => ⟨rfl, rfl, rfl, fun _ => rfl⟩, Nat.le_refl _⟩
theorem CF.srow {s t : fx_S} {nx fi la : Nat → Option Nat} {sz : Nat → Int32} (h : CF x s t) : CF x s (fx_srow t nx fi la sz) := h.tr ⟨fun g b hg _ => ⟨if_neg (by have : ff_Row_size = 641 := rfl; omega), (if_neg (by have : ff_Packet_next = 331 := rfl; omega)).trans ((if_neg (by have : ff_Row_first = 640 := rfl; omega)).trans (if_neg (by have : ff_Row_last = 642 := rfl; omega)))⟩, fun _ _ => ⟨rfl, rfl, rfl, fun _ => rfl⟩, Nat.le_refl _⟩
theorem CF.gf {s t u : fx_S} (h : CF x s t) (g : GF x t u) : CF x s u := by
  obtain ⟨h1, h2, h3, h4, h5, h6, h7, h8, h9⟩ := g
  exact h.tr ⟨fun f a hf _ => ⟨h8 f a (by omega), by rw [h2]⟩, fun a _ => ⟨by rw [h1], by rw [h3], by rw [h5], fun q => h9 a q⟩, by rw [h6]; exact Nat.le_refl _⟩
theorem k_free {b a k u : Nat} (h1 : fx_fr s ff_Sender_slots (b + 1) = some (b + 4)) (h2 : fx_ln s (b + 4) = 8) (h3 : fx_fi s ff_Packet_slot a = nI k) (hk : k < 8) (h4 : fx_fi s ff_Sender_slotsUsed (b + 1) = nI u) (hu : 0 < u) (q : Q none (fx_sfi (fx_sar s (b + 4) k none) ff_Sender_slotsUsed (b + 1) (nI (u - 1)))) : fx_M mm_Sender_free [vR 21 (some (b + 1)), vR 15 (some a)] s Q := by
  refine xx_i ml22 ?_
  refine xx_j ee22_0 rfl trivial ?_
  refine xx_gr ee22_1 h1 rfl rfl ?_
  refine xx_j ee22_4 rfl trivial ?_
  refine xx_gi ee22_5 h3 rfl rfl ?_
  refine xx_j ee22_8 rfl trivial ?_
  first | refine xx_rs ee22_9 h2 (by omega) (by decide) rfl (Or.inl rfl) ?_ | refine xx_rs ee22_9 h2 (by omega) (by decide) rfl (Or.inr rfl) ?_
  refine xx_j ee22_10 rfl trivial ?_
  refine xx_j ee22_11 rfl trivial ?_
  refine xx_gi ee22_12 h4 rfl rfl ?_
  refine xx_k ee22_15 1 rfl ?_
  refine xx_sub ee22_16 (by omega) ?_
  refine xx_pi ee22_17 rfl ?_
  exact xx_rv ee22_20 q
theorem k_goAgain {b a t : Nat} (h1 : fx_fr s ff_Sender_again (b + 1) = some (b + 3)) (h2 : fx_fi s ff_Packet_attempt a = nI t) (hR : RR (fx_sfi (fx_sfi s ff_Packet_attempt a (nI (t + 1))) ff_Packet_entered a (nI 0)) x B m rt) (hr : ISR x B m (b + 3)) (ha : ∀ q, ISR x B m q → a ∉ rt q) (k : ∀ nx fi la sz, RR (fx_srow (fx_sfi (fx_sfi s ff_Packet_attempt a (nI (t + 1))) ff_Packet_entered a (nI 0)) nx fi la sz) x B m (fn_up rt (b + 3) (rt (b + 3) ++ [a])) → Q none (fx_sfr (fx_srow (fx_sfi (fx_sfi s ff_Packet_attempt a (nI (t + 1))) ff_Packet_entered a (nI 0)) nx fi la sz) ff_Sender_underWay (b + 1) (if fx_fr s ff_Sender_underWay (b + 1) = some a then none else fx_fr s ff_Sender_underWay (b + 1)))) : fx_M mm_Sender_goAgain [vR 21 (some (b + 1)), vR 15 (some a)] s Q := by
  refine xx_i ml67 ?_
  refine xx_j ee67_0 rfl trivial ?_
  refine xx_j ee67_1 rfl trivial ?_
  refine xx_gi ee67_2 h2 rfl rfl ?_
  refine xx_k ee67_5 1 rfl ?_
  first | refine xx_add ee67_6 ?_ | refine xx_j ee67_6 rfl trivial ?_
  refine xx_pi ee67_7 rfl ?_
  refine xx_j ee67_10 rfl trivial ?_
  refine xx_k ee67_11 0 rfl ?_
  refine xx_pi ee67_12 rfl ?_
  refine xx_j ee67_15 rfl trivial ?_
  refine xx_gr ee67_16 h1 rfl rfl ?_
  refine xx_j ee67_19 rfl trivial ?_
  refine xx_c ee67_20 rfl (k_app hR hr ha (fun nx fi la sz hR' => ?_))
  have k' := k nx fi la sz hR'
  refine xx_j ee67_23 rfl trivial ?_
  refine xx_j ee67_24 rfl trivial ?_
  refine xx_j ee67_27 rfl trivial ?_
  refine xx_an ee67_28 (fun hne => ?_) (fun he => ?_)
  · have hne' : fx_fr s ff_Sender_underWay (b + 1) ≠ some a := hne
    rw [if_neg hne', sfr_id (s := fx_srow (fx_sfi (fx_sfi s ff_Packet_attempt a (nI (t + 1))) ff_Packet_entered a (nI 0)) nx fi la sz) (f := ff_Sender_underWay) (a := b + 1) (o := fx_fr s ff_Sender_underWay (b + 1)) rfl] at k'
    exact xx_rv ee67_36 k'
  · have he' : fx_fr s ff_Sender_underWay (b + 1) = some a := he
    rw [if_pos he'] at k'
    refine xx_j ee67_31 rfl trivial ?_
    refine xx_j ee67_32 rfl trivial ?_
    first | refine xx_pr ee67_33 rfl rfl (Or.inl rfl) ?_ | refine xx_pr ee67_33 rfl rfl (Or.inr rfl) ?_
    exact xx_rv ee67_36 k'
/-- tell(P p), when its note is out of the mail -/
theorem k_tell {p : Nat} {d : Bool} (h : RA s x B H C Y P m rt K L M) (hJ : JV M lv) (hp : p < 512) (lp : 0 < rn M ff_Mod_lengths p) (hd : fx_fi s ff_Packet_noteIsDone (P p) = fx_bit d) (hout : ∀ q, ISR x B m q → P p ∉ rt q)
    (j1 : d = true → (∀ f, f < (rn M ff_Mod_flits 0) → spk M f ≠ p) ∧ (∀ k, k < 256 → oz (M ff_Mod_whose k) ≠ some p) ∧ suw M p = false) (j2 : d = false → rn M ff_Mod_slotTry p < 900 ∧ rn M ff_Mod_agains (p / 8) < 8)
    (k1 : d = true → ∀ s' rt', CF x s s' → rt' (x + 13) = rt (x + 13) → RA s' x B H C Y P m rt' K L (fx_up M ff_Mod_lengths p (nI 0)) → Q none s')
    (k2 : d = false → ∀ s' rt', CF x s s' → rt' (x + 13) = rt (x + 13) → RA s' x B H C Y P m rt' K L (om_again M p) → Q none s') : fx_M mm_Torus_tell [vR 10 (some x), vR 15 (some (P p))] s Q := by
  have h64 := h.sk.c.m64
  have hv := h.pv hJ hp lp
  have hin := h.sk.c.in_ _ hv
  have rp := h.p p hp lp
  have nd := h.sk.b _ hv
  refine xx_i ml85 ?_
  refine xx_j ee85_0 rfl trivial ?_
  refine xx_gr ee85_1 h.sk.a.nodes rfl rfl ?_
  refine xx_j ee85_4 rfl trivial ?_
  refine xx_gi ee85_5 rp.src rfl rfl ?_
  refine xx_rl ee85_8 h.sk.a.lnod (by omega) (by decide) nd.at rfl ?_
  refine xx_gr ee85_9 nd.snd rfl rfl ?_
  refine xx_j ee85_12 rfl trivial ?_
  refine xx_j ee85_13 rfl trivial ?_
  refine xx_gi ee85_14 hd rfl rfl ?_
  refine xx_z ee85_17 (fun hf => ?_) (fun ht => ?_)
  · obtain ⟨t1, t2⟩ := j2 hf
    refine xx_j ee85_46 rfl trivial ?_
    refine xx_j ee85_47 rfl trivial ?_
    have hatt : fx_fi s ff_Packet_attempt (P p) = nI (rn M ff_Mod_slotTry p) := rp.att.trans (hJ.ri.e ff_Mod_slotTry p (n := 512) rfl hp (by decide))
    refine xx_c ee85_48 rfl (k_goAgain nd.again hatt h.r (ISR.g hv) hout (fun nx fi la sz hR => ?_))
    refine xx_rv ee85_51 ?_
    have hg := h.goes rfl hJ hp lp t1 t2 hR
    have huw := h.s.uw _ hv
    have e : (if fx_fr s ff_Sender_underWay (B (p / 8) + 1) = some (P p) then none else fx_fr s ff_Sender_underWay (B (p / 8) + 1)) = (sp_first (suw (om_again M p)) (8 * (p / 8)) 8).map P := by
      rw [huw]
      by_cases hs : suw M p = true
      · have e1 : sp_first (suw M) (8 * (p / 8)) 8 = some p := by
          cases hf1 : sp_first (suw M) (8 * (p / 8)) 8 with
          | none =>
            have := sp_first_none.mp hf1 p (by omega) (by omega)
            rw [hs] at this; cases this
          | some q =>
            obtain ⟨q1, q2, q3, -⟩ := sp_first_some.mp hf1
            rw [hJ.j7 q p (by omega) hp (by omega) q3 hs]
        have e2 : sp_first (suw (om_again M p)) (8 * (p / 8)) 8 = none := by
          rw [sp_first_none]
          intro q q1 q2
          rw [again_suw]
          by_cases c : q = p
          · rw [if_pos c]
          · rw [if_neg c]
            cases hq : suw M q with
            | false => rfl
            | true => exact absurd (hJ.j7 q p (by omega) hp (by omega) hq hs) c
        rw [e1, e2]
        simp
      · have hs' : suw M p = false := by simpa using hs
        have e1 : sp_first (suw (om_again M p)) (8 * (p / 8)) 8 = sp_first (suw M) (8 * (p / 8)) 8 := sp_first_congr _ _ (fun q _ _ => by
          rw [again_suw]
          by_cases c : q = p
          · rw [if_pos c, c, hs']
          · rw [if_neg c])
        rw [e1, if_neg]
        intro q
        cases hf1 : sp_first (suw M) (8 * (p / 8)) 8 with
        | none => rw [hf1] at q; cases q
        | some r =>
          rw [hf1] at q
          obtain ⟨q1, q2, q3, -⟩ := sp_first_some.mp hf1
          have lr : 0 < rn M ff_Mod_lengths r := by
            simp only [suw, Bool.and_eq_true, decide_eq_true_eq] at q3
            exact q3.1.1
          have : r = p := h.p.inj (by omega) hp lr lp (by simpa using q)
          rw [this, hs'] at q3
          cases q3
    rw [e]
    refine k2 hf _ _ ((((CF.rf x s).sfi (by decide)).sfi (by decide)).srow.sfr (by decide)) (fn_ne (by omega)) hg
  · obtain ⟨t1, t2, t3⟩ := j1 ht
    refine xx_j ee85_20 rfl trivial ?_
    refine xx_j ee85_21 rfl trivial ?_
    refine xx_c ee85_22 rfl ?_
    have pos : 0 < suse M (p / 8) := by
      have := suse_up (M := M) (p := p) (u := p / 8) (y := 0) (by omega) hp
      rw [if_pos ⟨rfl, lp⟩, if_neg (by omega)] at this
      omega
    refine k_free nd.slots nd.lslots rp.slot (by omega) (h.s.used _ hv) pos ?_
    have hR1 : RR (fx_sfi (fx_sar s (B (p / 8) + 4) (p % 8) none) ff_Sender_slotsUsed (B (p / 8) + 1) (nI (suse M (p / 8) - 1))) x B m rt := h.r
    refine xx_j ee85_25 rfl trivial ?_
    refine xx_gr ee85_26 h.sk.a.spare rfl rfl ?_
    refine xx_j ee85_29 rfl trivial ?_
    refine xx_c ee85_30 rfl (k_app hR1 ISR.sp hout (fun nx fi la sz hR => ?_))
    obtain ⟨g1, g2, g3⟩ := h.done (t := []) hJ hp lp t1 t2 t3 hR
    refine xx_j ee85_33 rfl trivial ?_
    refine xx_j ee85_34 rfl trivial ?_
    refine xx_gi ee85_35 h.t.pks rfl rfl ?_
    refine xx_k ee85_38 1 rfl ?_
    refine xx_sub ee85_39 (by omega) ?_
    refine xx_pi ee85_40 rfl ?_
    refine xx_j ee85_43 rfl trivial ?_
    refine xx_rv ee85_51 ?_
    refine k1 ht _ _ (((((CF.rf x s).sar).sfi (by decide)).srow).sfi (by decide)) (fn_ne (by omega)) g1
/-- the notes that are left, as the mail holds them -/
def nl (k d l : Nat) : List Nat := (List.range d).map (fun i => k + i) ++ List.range l
theorem nl_cons (k d l : Nat) : nl k (d + 1) l = k :: nl (k + 1) d l := by
  unfold nl
  rw [List.range_succ_eq_map, List.map_cons, List.map_map]
  show (k + 0) :: ((_ : List Nat) ++ _) = _
  congr 2
  refine List.map_congr_left (fun i _ => ?_)
  show k + (i + 1) = k + 1 + i
  omega
theorem nl_snoc (k d l : Nat) : nl k d l ++ [l] = nl k d (l + 1) := by
  unfold nl
  rw [List.range_succ, List.append_assoc]
theorem nl_mem {k d l i : Nat} (h : i ∈ nl k d l) : (k ≤ i ∧ i < k + d) ∨ i < l := by
  unfold nl at h
  rcases List.mem_append.mp h with q | q
  · obtain ⟨j, hj, e⟩ := List.mem_map.mp q
    have := List.mem_range.mp hj
    exact Or.inl ⟨by omega, by omega⟩
  · exact Or.inr (List.mem_range.mp q)
theorem nl_len (k d l : Nat) : (nl k d l).length = d + l := by
  unfold nl
  simp
theorem k_tellNotes (h : RA s x B H C Y P m rt K (List.range ((rn M ff_Mod_notes 0))) M) (hJ : JI M) (k : ∀ s' rt', CF x s s' → RA s' x B H C Y P m rt' K (List.range ((rn (om_tell ((rn M ff_Mod_notes 0)) 0 0 M) ff_Mod_notes 0))) (om_tell ((rn M ff_Mod_notes 0)) 0 0 M) → Q none s') : fx_M mm_Torus_tellNotes [vR 10 (some x)] s Q := by
  have hN := hJ.1.ri.nNl
  refine xx_i ml107 ?_
  have key : ∀ (d k l : Nat) (M' : rf_M) s' rt' x3, JV M' (lvn l k (k + d)) → l ≤ k → k + d = (rn M ff_Mod_notes 0) → RA s' x B H C Y P m rt' K (nl k d l) M' → CF x s s' → (∀ s2 rt2, CF x s s2 → RA s2 x B H C Y P m rt2 K (List.range ((rn (om_tell d k l M') ff_Mod_notes 0))) (om_tell d k l M') → Q none s2) → fx_W 107 10 [some (vR 10 (some x)), some (vI (nI ((rn M ff_Mod_notes 0)))), some (vI (nI k)), x3] [] s' Q := by
    intro d
    induction d with
    | zero =>
      intro k l M' s' rt' x3 hV hl hd hA hC kk
      refine xx_j ee107_10 rfl trivial ?_
      refine xx_j ee107_11 rfl trivial ?_
      refine xx_ge ee107_12 (by omega) (by omega) (fun _ => ?_) (fun h => by omega)
      refine xx_rv ee107_56 (kk s' rt' hC ?_)
      have e : (rn (om_tell 0 k l M') ff_Mod_notes 0) = l := rn_same (by omega)
      rw [e]
      have e2 : nl k 0 l = List.range l := by unfold nl; simp
      rw [e2] at hA
      exact ⟨hA.sk, ⟨hA.t.mode, hA.t.pat, hA.t.now, hA.t.turn, hA.t.fin, hA.t.dfl, hA.t.rec, hA.t.ask, hA.t.pks⟩, hA.g, hA.s, hA.p, hA.w, hA.r, hA.x, hA.m, hA.o, hA.k, hA.f, hA.v, hA.nm⟩
    | succ d ih =>
      intro k l M' s' rt' x3 hV hl hd hA hC kk
      have lk : lvn l k (k + (d + 1)) k := Or.inr ⟨Nat.le_refl _, by omega⟩
      have hk1000 := (hV.j10 k lk).1
      have hp := hV.nSl lk
      obtain ⟨-, lp, dn1, dn2⟩ := hV.j10 k lk
      rw [nl_cons] at hA
      have hdn := hA.m.dn k (by simp)
      have hdu := hA.m.du k (by simp)
      have eD := hV.ri.z ff_Mod_noteDone k (n := 1100) rfl (by omega) rfl
      have eU := hV.ri.e ff_Mod_noteDue k (n := 1100) rfl (by omega) (by decide)
      have lU := hV.ri.l ff_Mod_noteDue k 2000000 (n := 1100) rfl (by omega) rfl (by omega)
      have eC := hV.ri.f ff_Mod_cycle rfl (by decide)
      have lC := hV.ri.l ff_Mod_cycle 0 1000000 (n := 1) rfl (by omega) rfl (by omega)
      refine xx_j ee107_10 rfl trivial ?_
      refine xx_j ee107_11 rfl trivial ?_
      refine xx_ge ee107_12 (by omega) (by omega) (fun h => by omega) (fun _ => ?_)
      refine xx_j ee107_15 rfl trivial ?_
      refine xx_gr ee107_16 hA.sk.a.mail rfl rfl ?_
      refine xx_c ee107_19 rfl (k_rmf hA.r ISR.ml (fun he => ?_) (fun a t nx fi la sz ht hR hout => ?_))
      · rw [hA.m.row] at he; cases he
      have hrow := hA.m.row
      rw [ht] at hrow
      simp only [List.map_cons, List.cons.injEq] at hrow
      obtain ⟨ea, et⟩ := hrow
      subst ea
      have hA1 := hA.pop ht hR
      refine xx_j ee107_22 rfl trivial ?_
      refine xx_j ee107_23 rfl trivial ?_
      refine xx_gi ee107_24 (hdu.trans eU) rfl rfl ?_
      refine xx_j ee107_27 rfl trivial ?_
      refine xx_gi ee107_28 (hA.t.now.trans eC) rfl rfl ?_
      unfold om_tell at kk
      have e3 : k + (d + 1) = (k + 1) + d := by omega
      rw [e3] at hV hd
      refine xx_le ee107_31 (by omega) (by omega) (fun hle => ?_) (fun hlt => ?_)
      · have hdec : decide (rn M' ff_Mod_cycle 0 < rn M' ff_Mod_noteDue k) = false := by simpa using hle
        rw [hdec] at kk
        simp only [cond_false] at kk
        refine xx_j ee107_45 rfl trivial ?_
        refine xx_j ee107_46 rfl trivial ?_
        refine xx_c ee107_47 rfl (k_tell (d := rz M' ff_Mod_noteDone k) hA1 hV hp lp (hdn.trans eD) hout (fun hd1 => ?_) (fun hd0 => ?_) (fun hd1 s2 rt2 hC2 hm2 hA2 => ?_) (fun hd0 s2 rt2 hC2 hm2 hA2 => ?_))
        · obtain ⟨z1, z2, z3, z4⟩ := dn1 hd1
          refine ⟨z2, z3, ?_⟩
          unfold suw
          rw [z1]
          simp
        · obtain ⟨z1, z2, -⟩ := hV.goes (by omega) hl hd0
          exact ⟨z2, z1⟩
        · rw [hd1] at kk
          simp only [cond_true] at kk
          first | refine xx_inc ee107_50 rfl ?_ | refine xx_j ee107_50 rfl trivial ?_
          refine xx_j ee107_53 rfl trivial ?_
          exact ih (k + 1) l _ s2 rt2 _ (hV.told (by omega) hl hd1).1 (by omega) hd hA2 ((hC.srow).tr hC2) kk
        · rw [hd0] at kk
          simp only [cond_false] at kk
          first | refine xx_inc ee107_50 rfl ?_ | refine xx_j ee107_50 rfl trivial ?_
          refine xx_j ee107_53 rfl trivial ?_
          exact ih (k + 1) l _ s2 rt2 _ (hV.goes (by omega) hl hd0).2.2 (by omega) hd hA2 ((hC.srow).tr hC2) kk
      · have hdec : decide (rn M' ff_Mod_cycle 0 < rn M' ff_Mod_noteDue k) = true := by simpa using hlt
        rw [hdec] at kk
        simp only [cond_true] at kk
        refine xx_j ee107_34 rfl trivial ?_
        refine xx_gr ee107_35 hA1.sk.a.mail rfl rfl ?_
        refine xx_j ee107_38 rfl trivial ?_
        refine xx_c ee107_39 rfl (k_app hA1.r ISR.ml hout (fun nx2 fi2 la2 sz2 hR2 => ?_))
        have hA2 := hA1.kept (k := k) (l := l) (t := t) hV.ri (by omega) (fun i hi => by rcases nl_mem hi with q | q <;> omega) hdn hdu hR2
        rw [nl_snoc] at hA2
        refine xx_j ee107_42 rfl trivial ?_
        first | refine xx_inc ee107_50 rfl ?_ | refine xx_j ee107_50 rfl trivial ?_
        refine xx_j ee107_53 rfl trivial ?_
        exact ih (k + 1) (l + 1) _ _ _ _ (hV.kept (by omega) hl) (by omega) hd hA2 ((hC.srow).srow) kk
  have hL : (rt (x + 13)).length = (rn M ff_Mod_notes 0) := by rw [h.m.row]; simp
  have hsz := (h.r.row _ ISR.ml).len
  rw [hL] at hsz
  refine xx_j ee107_0 rfl trivial ?_
  refine xx_gr ee107_1 h.sk.a.mail rfl rfl ?_
  refine xx_gi ee107_4 hsz rfl rfl ?_
  refine xx_j ee107_7 rfl trivial ?_
  refine xx_k ee107_8 0 rfl ?_
  refine xx_j ee107_9 rfl trivial ?_
  have e0 : nl 0 ((rn M ff_Mod_notes 0)) 0 = List.range ((rn M ff_Mod_notes 0)) := by
    unfold nl
    simp
  refine key ((rn M ff_Mod_notes 0)) 0 0 M s rt _ ⟨hJ.1.ri, hJ.1.net, hJ.1.j2, hJ.1.j3, hJ.1.j4, hJ.1.j5, hJ.1.j6, hJ.1.j7, hJ.1.j8, hJ.1.j8u, hJ.1.j9, hJ.1.j9u, fun i hi => hJ.1.j10 i ?_, fun i j hi hj => hJ.1.j10u i j ?_ ?_, hJ.1.j11, hJ.1.j11u, hJ.1.j13, hJ.1.j14⟩ (by omega) (by omega) (by rw [e0]; exact h) (CF.rf x s) k
  · rcases hi with q | q <;> omega
  · rcases hi with q | q <;> omega
  · rcases hj with q | q <;> omega
end
