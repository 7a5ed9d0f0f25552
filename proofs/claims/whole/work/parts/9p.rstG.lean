section
variable {s t u : fx_S} {Q : fx_Q} {x m : Nat} {rt : Nat → List Nat} {B H P : Nat → Nat} {Y : Nat → Nat → Nat} {K : Nat → Prop} {M : rf_M}
theorem EM.same (h : EM s x B H Y m rt K) (hfr : fx_fr t = fx_fr s) (hln : fx_ln t = fx_ln s) (har : fx_ar t = fx_ar s) (hnx : fx_nx t = fx_nx s) (hfi : ∀ f a, (f = 4 ∨ (64 ≤ f ∧ f < 192) ∨ 199 ≤ f) → fx_fi t f a = fx_fi s f a) : EM t x B H Y m rt K := by
  obtain ⟨hS, hE, hR, hz, hk, hK, hH, hY⟩ := h
  have e1 : ∀ a, fx_fi t ff_Node_number a = fx_fi s ff_Node_number a := fun a => hfi _ _ (by decide)
  have e2 : ∀ a, fx_fi t ff_Sender_slotsUsed a = fx_fi s ff_Sender_slotsUsed a := fun a => hfi _ _ (by decide)
  have e3 : ∀ a, fx_fi t ff_Sender_hungryCycles a = fx_fi s ff_Sender_hungryCycles a := fun a => hfi _ _ (by decide)
  have e4 : ∀ a, fx_fi t ff_Node_wentOut a = fx_fi s ff_Node_wentOut a := fun a => hfi _ _ (by decide)
  have e5 : ∀ a, fx_fi t ff_Receiver_readyCount a = fx_fi s ff_Receiver_readyCount a := fun a => hfi _ _ (by decide)
  have e6 : ∀ a, fx_fi t ff_Receiver_hasHandedOver a = fx_fi s ff_Receiver_hasHandedOver a := fun a => hfi _ _ (by decide)
  have e7 : ∀ a, fx_fi t ff_Flit_number a = fx_fi s ff_Flit_number a := fun a => hfi _ _ (by decide)
  refine ⟨⟨?_, fun v hv => ?_, hS.c.m64, by rw [hfi _ _ (by decide)]; exact hS.c.made, by rw [hnx]; exact hS.c.in_, hS.c.ord, by rw [hnx]; exact hS.c.x15⟩, fun v hv => ?_, ⟨fun r hr => ?_, hR.nd, hR.dj⟩, hz, hk, ?_, fun v hv => ?_, fun v hv => ?_⟩
  · have := hS.a
    unfold SK1 at this ⊢
    rw [hfr, hln]; exact this
  · have := hS.b v hv
    unfold SK2 at this ⊢
    rw [hfr, hln, har, e1]; exact this
  · have := hE v hv
    unfold ES at this ⊢
    rw [hfr, har, e2, e3, e4, e5, e6]; exact this
  · obtain ⟨a1, a2, a3, a4⟩ := hR.row r hr
    exact ⟨by rw [hfr]; exact a1, by rw [hfr]; exact a2, by rw [hfi _ _ (by decide)]; exact a3, a4.frame (fun a _ => by rw [hfr])⟩
  · unfold KK at hK ⊢
    rw [hfr, hln, har, hnx]
    simp only [e7]
    exact hK
  · have := hH v hv
    unfold LL at this ⊢
    rw [hfr]; exact this
  · have := hY v hv
    unfold YY at this ⊢
    rw [hfr, har]; exact this
/-- numbers of an empty net -/
def ZM (M : rf_M) : Prop := (∀ f v, f ∈ rs_six → v < 64 → M f v = nI 0) ∧ (∀ p, p < 512 → M ff_Mod_lengths p = nI 0) ∧ (∀ i, i < 256 → M ff_Mod_whose i = fx_neg) ∧ (∀ i, i < 192 → M ff_Mod_taken i = fx_neg) ∧ M ff_Mod_flits 0 = nI 0
theorem EM.ra (h : EM t x B H Y m rt K) (hT : RT t x M) (hG : RG t x M) (z : ZM M) (hm : (rn M ff_Mod_all 0) ≤ m) : RA t x B H (fun _ _ => none) Y P m rt K [] M := by
  obtain ⟨hS, hE, hR, hz, hk, hK, hH, hY⟩ := h
  obtain ⟨z1, z2, z3, z4, z5⟩ := z
  have m64 := hS.c.m64
  have r0 : ∀ f v, f ∈ rs_six → v < 64 → rn M f v = 0 := fun f v hf hv => rn_of (z1 f v hf hv) (by omega)
  have l0 : ∀ p, p < 512 → rn M ff_Mod_lengths p = 0 := fun p hp => rn_of (z2 p hp) (by omega)
  have f0 : (rn M ff_Mod_flits 0) = 0 := rn_of z5 (by omega)
  have su : ∀ v, v < m → suse M v = 0 := fun v hv => by
    unfold suse
    rw [sp_cnt_zero]
    intro i hi
    rw [l0 _ (by omega)]; rfl
  have uw : ∀ v, v < m → sp_first (suw M) (8 * v) 8 = none := fun v hv => by
    rw [sp_first_none]
    intro k h1 h2
    unfold suw
    rw [l0 k (by omega)]; rfl
  have so : ∀ v l, sol M v l = none := fun v l => by
    unfold sol
    rw [f0]; rfl
  have rw0 : ∀ v, v < m → rt (B v + 2) = [] := fun v hv => hz _ (Or.inr (Or.inr ⟨v, hv, Or.inl rfl⟩)) (by have := hS.c.in_ v hv; omega)
  have rw3 : ∀ v, v < m → rt (B v + 3) = [] := fun v hv => hz _ (Or.inr (Or.inr ⟨v, hv, Or.inr (Or.inl rfl)⟩)) (by have := hS.c.in_ v hv; omega)
  have rw6 : ∀ v, v < m → rt (B v + 6) = [] := fun v hv => hz _ (Or.inr (Or.inr ⟨v, hv, Or.inr (Or.inr rfl)⟩)) (by have := hS.c.in_ v hv; omega)
  refine ⟨hS, hT, hG, ⟨fun v hv => ?_, fun v hv => ?_, fun v hv => ?_, fun v k hv hk => ?_, fun v hv => ?_⟩, fun p hp lp => ?_, fun v hv => ⟨?_, fun i a hi => ?_⟩, hR, ⟨fun v hv hA => ?_, fun v hv hA => ?_, fun v hv _ => ⟨rw3 v hv, rw6 v hv⟩⟩, ⟨?_, fun k hk => (by cases hk), fun k hk => (by cases hk)⟩, ⟨fun p hp lp => ?_, fun p hp lp => ?_, fun v a hv ha => ?_, hk⟩, ⟨hK.1, hK.2.1, hK.2.2.1, hK.2.2.2.1, fun p b hp hb => ?_, fun v i a b hv hi _ => ?_, hK.2.2.2.2⟩, ⟨fun v hv => (hH v hv).1, fun v hv => (hH v hv).2.1, fun v hv => (hH v hv).2.2, fun v l hv hl => ?_, fun f F hf => by omega, fun f F hf => by omega, fun v l hv hl => ?_⟩, fun v hv => ?_, hm⟩
  · rw [su v hv]; exact (hE v hv).1
  · rw [z1 _ _ (by decide) (by omega)]; exact (hE v hv).2.1
  · rw [uw v hv]; exact (hE v hv).2.2.1
  · rw [if_neg (by rw [l0 _ (by omega)]; omega)]; exact (hE v hv).2.2.2.1 k hk
  · rw [z1 _ _ (by decide) (by omega)]; exact (hE v hv).2.2.2.2.1
  · rw [l0 p hp] at lp; omega
  · rw [rw0 v hv, r0 _ _ (by decide) (by omega)]; rfl
  · rw [rw0 v hv] at hi; cases hi
  · rw [rw3 v hv, r0 _ _ (by decide) (by omega)]; rfl
  · rw [rw6 v hv, r0 _ _ (by decide) (by omega)]; rfl
  · exact hz _ (Or.inl rfl) (by omega)
  · rw [l0 p hp] at lp; omega
  · rw [l0 p hp] at lp; omega
  · rw [rw0 v hv] at ha; cases ha
  · rw [l0 p hp] at hb; omega
  · rw [rw0 v hv] at hi; cases hi
  · rw [so v l, ob_none]
    rcases (hH v hv).1 with e | e <;> rw [e]
    · exact (hE v hv).2.2.2.2.2.1 l hl
    · exact (hE v hv).2.2.2.2.2.2.1 l hl
  · rcases (hH v hv).1 with e | e <;> rw [e]
    · exact (hE v hv).2.2.2.2.2.2.1 l hl
    · exact (hE v hv).2.2.2.2.2.1 l hl
  · obtain ⟨_, _, _, _, _, _, _, q1, q2, q3⟩ := hE v hv
    obtain ⟨y1, y2, y3, y4⟩ := hY v hv
    have y0 : rn M ff_Mod_readySize v = 0 := r0 _ _ (by decide) (by omega)
    have w0 : ∀ i, i < 4 → oz (M ff_Mod_whose (4 * v + i)) = none := fun i hi => by rw [z3 _ (by omega)]; exact oz_neg
    refine ⟨by rw [z1 _ _ (by decide) (by omega)]; exact q1, fun i hi => by rw [w0 i hi]; exact q3 i hi, fun i hi hw => absurd (w0 i hi) hw, fun i hi hw => absurd (w0 i hi) hw, y1, y2, y3, y4, fun i hi => by omega, fun i hi => by omega, fun i hi => by omega, fun i hi => by omega, false, q2, fun _ j hj => z4 _ (by omega), fun q => by cases q⟩
/-- the grid is left alone -/
def GK (x : Nat) (s t : fx_S) : Prop := (∀ f, fx_fi t f (x + 3) = fx_fi s f (x + 3)) ∧ ∀ a, x + 4 ≤ a → a ≤ x + 8 → fx_ai t a = fx_ai s a
theorem RGa.gk {cl : Nat → Bool} {n N : Nat} (h : RGa s x cl n N) (g : GK x s t) : RGa t x cl n N := by
  unfold RGa at h ⊢
  rw [g.1, g.2 (x + 4) (by omega) (by omega), g.2 (x + 5) (by omega) (by omega)]
  exact h
theorem RGb.gk {cl : Nat → Bool} {n N : Nat} (h : RGb s x cl n N) (g : GK x s t) : RGb t x cl n N := by
  unfold RGb CD at h ⊢
  rw [g.1, g.2 (x + 6) (by omega) (by omega), g.2 (x + 7) (by omega) (by omega)]
  exact h
theorem GK.tr (h : GK x s t) (g : GK x t u) : GK x s u := ⟨fun f => (g.1 f).trans (h.1 f), fun a h1 h2 => (g.2 a h1 h2).trans (h.2 a h1 h2)⟩
theorem nI_max {a b : Nat} (ha : a < 2 ^ 31) (hb : b < 2 ^ 31) : (if nI a < nI b then nI b else nI a) = nI (max a b) := by
  by_cases h : a < b
  · rw [if_pos ((nI_ltI ha hb).mpr h), Nat.max_eq_right (by omega)]
  · rw [if_neg (fun q => h ((nI_ltI ha hb).mp q)), Nat.max_eq_left (by omega)]
theorem k_makeNodes {N : Nat} (h : EM s x B H Y m rt K) (hN : fx_fi s ff_Grid_size (x + 3) = nI N) (h64 : N ≤ 64)
    (k : ∀ t B' H' Y' rt', EM t x B' H' Y' (max m N) rt' K → CF x s t → GK x s t → fx_nx t + 20 * m = fx_nx s + 20 * (max m N) → fx_sl t + 83 * m = fx_sl s + 83 * (max m N) → Q none t) : fx_M mm_Torus_makeNodes [vR 10 (some x)] s Q := by
  have m64 := h.1.c.m64
  have hx15 := h.1.c.x15
  refine xx_i ml118 ?_
  refine xx_j ee118_0 rfl trivial ?_
  refine xx_gi ee118_1 h.1.c.made rfl rfl ?_
  refine xx_j ee118_4 rfl trivial ?_
  have loop : ∀ d i t B' H' Y' rt', m ≤ i → (d = 0 → N ≤ i) → (0 < d → i + d = N) → (i = m ∨ i ≤ N) → fx_fi t ff_Torus_nodesMade x = nI m → EM (fx_sfi t ff_Torus_nodesMade x (nI i)) x B' H' Y' i rt' K → CF x s t → GK x s t → fx_nx t + 20 * m = fx_nx s + 20 * i → fx_sl t + 83 * m = fx_sl s + 83 * i → fx_W 118 5 [some (vR 10 (some x)), some (vI (nI i))] [] t Q := by
    intro d
    induction d with
    | zero =>
      intro i t B' H' Y' rt' h1 h2 h3 h4 h5 hE hF hg hn hs
      have i64 := hE.1.c.m64
      have g1 : fx_fr t ff_Torus_grid x = some (x + 3) := hE.1.a.grid
      have g2 : fx_fi t ff_Grid_size (x + 3) = nI N := (hg.1 _).trans hN
      have hi : max m N = i := by
        have := h2 rfl
        rcases h4 with e | e
        · rw [Nat.max_eq_left (by omega)]; exact e.symm
        · rw [Nat.max_eq_right (by omega)]; omega
      refine xx_j ee118_5 rfl trivial ?_
      refine xx_j ee118_6 rfl trivial ?_
      refine xx_gr ee118_7 g1 rfl rfl ?_
      refine xx_gi ee118_10 g2 rfl rfl ?_
      refine xx_ge ee118_13 (by omega) (by omega) (fun _ => ?_) (fun q => by have := h2 rfl; omega)
      refine xx_j ee118_36 rfl trivial ?_
      refine xx_j ee118_37 rfl trivial ?_
      refine xx_gi ee118_38 h5 rfl rfl ?_
      refine xx_j ee118_41 rfl trivial ?_
      refine xx_gr ee118_42 g1 rfl rfl ?_
      refine xx_gi ee118_45 g2 rfl rfl ?_
      refine xx_j ee118_48 rfl trivial ?_
      refine xx_t (nI_max (by omega) (by omega)) ?_
      refine xx_pi ee118_51 rfl ?_
      rw [hi]
      rw [hi] at k
      refine xx_rv ee118_54 (k _ B' H' Y' rt' hE (hF.sfi (by decide)) (hg.tr ⟨fun f => fi_ne (fun q => absurd q.2 (by omega)), fun _ _ _ => rfl⟩) hn hs)
    | succ d ih =>
      intro i t B' H' Y' rt' h1 h2 h3 h4 h5 hE hF hg hn hs
      have hiN := h3 (by omega)
      have g1 : fx_fr t ff_Torus_grid x = some (x + 3) := hE.1.a.grid
      have g2 : fx_fi t ff_Grid_size (x + 3) = nI N := (hg.1 _).trans hN
      have g3 : fx_fr t ff_Torus_nodes x = some (x + 12) := hE.1.a.nodes
      have hx := hE.1.c.x15
      have hx' : x + 15 ≤ fx_nx t := hx
      refine xx_j ee118_5 rfl trivial ?_
      refine xx_j ee118_6 rfl trivial ?_
      refine xx_gr ee118_7 g1 rfl rfl ?_
      refine xx_gi ee118_10 g2 rfl rfl ?_
      refine xx_ge ee118_13 (by omega) (by omega) (fun q => by omega) (fun _ => ?_)
      refine xx_j ee118_16 rfl trivial ?_
      refine xx_gr ee118_17 g3 rfl rfl ?_
      refine xx_j ee118_20 rfl trivial ?_
      refine xx_nw ee118_21 rfl rfl rfl ?_
      refine xx_j ee118_24 rfl trivial ?_
      refine xx_j ee118_25 rfl trivial ?_
      refine xx_c ee118_26 rfl (k_nodeI (b := fx_nx t) rfl ?_)
      obtain ⟨B2, H2, Y2, rt2, hE2⟩ := hE.more (b := fx_nx t) rfl (by omega)
      have gr := nod_g (s := t) (b := fx_nx t) (y := nI i) rfl
      have gc := nod_h (s := t) (b := fx_nx t) (y := nI i) (x := x) rfl
      have gn := nod_i (s := t) (b := fx_nx t) (y := nI i)
      have l12 : fx_ln (cm_nod (nwo t (fx_nx t) 14 6) (fx_nx t) (nI i)) (x + 12) = 64 := by
        rw [gr.ln (by omega)]; exact hE.1.a.lnod
      first | refine xx_rs ee118_29 l12 (by omega) (by decide) rfl (Or.inl rfl) ?_ | refine xx_rs ee118_29 l12 (by omega) (by decide) rfl (Or.inr rfl) ?_
      first | refine xx_inc ee118_30 rfl ?_ | refine xx_j ee118_30 rfl trivial ?_
      refine xx_j ee118_33 rfl trivial ?_
      refine ih (i + 1) _ B2 H2 Y2 rt2 (by omega) (fun _ => by omega) (fun _ => by omega) (Or.inr (by omega)) ?_ hE2 ((hF.tr gc).sar) (hg.tr ⟨fun f => ?_, fun a ha hb => ?_⟩) ?_ ?_
      · exact (gr.fi (f := ff_Torus_nodesMade) (a := x) (by omega)).trans h5
      · exact gr.fi (by omega)
      · exact gr.ai (by omega)
      · have : fx_nx (fx_sar (cm_nod (nwo t (fx_nx t) 14 6) (fx_nx t) (nI i)) (x + 12) i (some (fx_nx t))) = fx_nx t + 20 := gn.1
        rw [this]; omega
      · have : fx_sl (fx_sar (cm_nod (nwo t (fx_nx t) 14 6) (fx_nx t) (nI i)) (x + 12) i (some (fx_nx t))) = fx_sl t + 83 := gn.2
        rw [this]; omega
  have e0 : fx_sfi s ff_Torus_nodesMade x (nI m) = s := by
    have := h.1.c.made
    show (s.1, fx_up (fx_fi s) ff_Torus_nodesMade x (nI m), s.2.2) = s
    have e : fx_up (fx_fi s) ff_Torus_nodesMade x (nI m) = fx_fi s := by
      funext f a
      by_cases q : f = ff_Torus_nodesMade ∧ a = x
      · rw [q.1, q.2, fx_up_same, this]
      · rw [fx_up_ne q]
    rw [e]; rfl
  refine loop (N - m) m s B H Y rt (Nat.le_refl _) (fun q => by omega) (fun q => by omega) (Or.inl rfl) h.1.c.made (by rw [e0]; exact h) (CF.rf x s) ⟨fun _ => rfl, fun _ _ _ => rfl⟩ rfl rfl
end
