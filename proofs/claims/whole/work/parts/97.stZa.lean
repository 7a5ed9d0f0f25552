/-! THE CLASS: all have arrived -/
section
variable {s : fx_S} {Q : fx_Q} {x m : Nat} {B H P : Nat → Nat} {C : Nat → Nat → Option Nat} {Y : Nat → Nat → Nat} {rt : Nat → List Nat} {K : Nat → Prop} {L : List Nat} {M N M6 : rf_M} {lv : Nat → Prop}
theorem mal_y {g i : Nat} (h : (Nat.ble 779 g && Nat.blt g 781) = true) : om_mal M N g i = N g i := by
  unfold om_mal
  exact if_pos h
/-- who stands there now is who came -/
theorem sol_swc {u w : Nat} (hJ : JI M) (hg : ∀ u, u < (rn M ff_Mod_all 0) → WG M u) (h6 : ∀ f, f < (rn M ff_Mod_flits 0) → rn M6 ff_Mod_at f = nb (rn M ff_Mod_n 0) (rn M ff_Mod_at f) (rn M ff_Mod_way f) ∧ M6 ff_Mod_line f = M ff_Mod_way f) (hw : w < 4) : sol (om_mal (om_mdw M N) M6) u w = swc M ((rn M ff_Mod_all 0)) 0 u w := by
  unfold sol swc
  rw [rn_eq (M := om_mdw M N) (mal_o (by decide)), mdw_rn (by decide)]
  refine sp_first_congr _ _ (fun f _ hf => ?_)
  rw [Nat.zero_add] at hf
  obtain ⟨a1, a2⟩ := h6 f hf
  have hat := hJ.1.net.2.2 f hf
  obtain ⟨z, z1, z2, -⟩ := (hg _ hat).1 f hf rfl
  have z3 : rn M ff_Mod_way f = z := rn_of z2 (by omega)
  have e1 : rn (om_mal (om_mdw M N) M6) ff_Mod_at f = nb (rn M ff_Mod_n 0) (rn M ff_Mod_at f) z := by
    rw [rn_eq (M := M6) (mal_y (by decide)), a1, z3]
  have e2 : rn (om_mal (om_mdw M N) M6) ff_Mod_line f = z := by
    rw [rn_eq (M := M6) (mal_y (by decide))]
    exact rn_of (a2.trans z2) (by omega)
  rw [e1, e2, z2, decide_eq_true hat, Bool.true_or, Bool.true_and]
  by_cases c : z = w
  · rw [c, beq_self_eq_true, Bool.and_true, decide_eq_true rfl, Bool.and_true]
  · rw [beq_eq_false_iff_ne.mpr c, Bool.and_false, decide_eq_false (fun q => c ((nI_eq (by omega) (by omega)).mp q)), Bool.and_false]
theorem RA.fin6 {t : fx_S} (h : RA s x B H C Y P m rt K L (om_mdw M N)) (hcm : CM s B H P m M ((rn M ff_Mod_all 0)) 0) (hJ : JI M) (hg : ∀ u, u < (rn M ff_Mod_all 0) → WG M u) (h6 : ∀ f, f < (rn M ff_Mod_flits 0) → rn M6 ff_Mod_at f = nb (rn M ff_Mod_n 0) (rn M ff_Mod_at f) (rn M ff_Mod_way f) ∧ M6 ff_Mod_line f = M ff_Mod_way f) (ha : ARV s t B H m ((rn M ff_Mod_all 0))) : RA t x B (fun v => if v < (rn M ff_Mod_all 0) then 37 - H v else H v) (fun _ _ => none) Y P m rt K L (om_mal (om_mdw M N) M6) := by
  obtain ⟨F, A, rfl, f1, f2, f3⟩ := ha
  obtain ⟨n2, n9, nn⟩ := hJ.1.n2
  have hnm : (rn M ff_Mod_all 0) ≤ m := by have := h.nm; rw [mdw_rn (by decide)] at this; exact this
  have hH := h.f.h1
  have hin := h.sk.c.in_
  -- arrays that are not lines of what was here
  have aC : ∀ u, u < m → A (B u + (37 - H u)) = fx_ar s (B u + (37 - H u)) := fun u hu => f3 _ (fun v _ hv q => by
    have q1 := hH u hu
    have q2 := hH v hv
    obtain ⟨e1, e2⟩ := h.sk.ap hu hv (by omega) (by omega) q
    subst e1
    omega)
  have aH : ∀ u, u < m → (rn M ff_Mod_all 0) ≤ u → A (B u + H u) = fx_ar s (B u + H u) := fun u hu hn => f3 _ (fun v hv1 hv q => by
    have q1 := hH u hu
    have q2 := hH v hv
    obtain ⟨e1, e2⟩ := h.sk.ap hu hv (by omega) (by omega) q
    omega)
  have aK : ∀ f, f < (rn M ff_Mod_flits 0) → A (P (spk M f) + 1) = fx_ar s (P (spk M f) + 1) := fun f hf => f3 _ (fun v _ hv q => by
    have q2 := hJ.1.j2 f hf
    have q3 := (h.k.in_ _ (h.o.kp _ q2.2.2.1 (by rw [mdw_rn (by decide)]; exact q2.1))).2.2 v hv
    have q4 := hH v hv
    omega)
  have sp : ∀ f, spk (om_mal (om_mdw M N) M6) f = spk M f := fun f => by rw [mal_spk, mdw_spk]
  have eB : ∀ f, rn (om_mal (om_mdw M N) M6) ff_Mod_number f = rn M ff_Mod_number f := fun f => by rw [rn_eq (M := om_mdw M N) (mal_o (by decide)), mdw_rn (by decide)]
  have eN : (rn (om_mal (om_mdw M N) M6) ff_Mod_flits 0) = (rn M ff_Mod_flits 0) := by rw [rn_eq (M := om_mdw M N) (mal_o (by decide)), mdw_rn (by decide)]
  have swn : ∀ u w, (rn M ff_Mod_all 0) ≤ u → w < 4 → swc M ((rn M ff_Mod_all 0)) 0 u w = none := by
    intro u w hu hw
    cases hs : swc M ((rn M ff_Mod_all 0)) 0 u w with
    | none => rfl
    | some f =>
      obtain ⟨g1, -, g3, -⟩ := swc_some hs
      have := nb_lt (n := rn M ff_Mod_n 0) (v := rn M ff_Mod_at f) (w := w) (by omega) (by rw [← nn]; exact hJ.1.net.2.2 f g1)
      omega
  refine h.arm (fun a hq => f3 a (fun v _ hv q => by have q1 := hH v hv; have q2 := hq v hv; omega)) ⟨fun v hv => ?_, fun v hv => ?_, fun v hv => ?_, fun v l hv hl => ?_, fun f G hf hG => ?_, fun f G hf hG => ?_, fun u w hu hw => ?_⟩
  · have := hH v hv
    show (if v < (rn M ff_Mod_all 0) then 37 - H v else H v) = 18 ∨ (if v < (rn M ff_Mod_all 0) then 37 - H v else H v) = 19
    split <;> omega
  · exact (f1 v hv).1
  · have q := (f1 v hv).2
    have := hH v hv
    show F ff_Node_coming (B v) = some (B v + (37 - (if v < (rn M ff_Mod_all 0) then 37 - H v else H v)))
    rw [q]
    by_cases c : v < (rn M ff_Mod_all 0)
    · rw [if_pos c, if_pos c]
      congr 2
      omega
    · rw [if_neg c, if_neg c]
  · rw [sol_swc hJ hg h6 hl]
    show A (B v + (if v < (rn M ff_Mod_all 0) then 37 - H v else H v)) l = _
    by_cases c : v < (rn M ff_Mod_all 0)
    · rw [if_pos c, aC v hv, hcm v l hv hl]
      cases hs : swc M ((rn M ff_Mod_all 0)) 0 v l with
      | none =>
        unfold fob
        rw [ob_none, ob_none]
      | some f =>
        show fx_ar s (P (spk M f) + 1) (rn M ff_Mod_number f) = A (P (spk (om_mal (om_mdw M N) M6) f) + 1) (rn (om_mal (om_mdw M N) M6) ff_Mod_number f)
        rw [sp, eB, aK f (swc_some hs).1]
    · rw [if_neg c, aH v hv (by omega), h.f.fl v l hv hl, swn v l (by omega) hl, mdw_sol]
      cases hs : sol M v l with
      | none => rw [ob_none, ob_none]
      | some f =>
        exfalso
        obtain ⟨g1, g2, -⟩ := sol_some hs
        have := hJ.1.net.2.2 f g1
        omega
  · rw [eN] at hf
    have hG' : A (P (spk (om_mal (om_mdw M N) M6) f) + 1) (rn (om_mal (om_mdw M N) M6) ff_Mod_number f) = some G := hG
    rw [sp, eB, aK f hf] at hG'
    rw [mal_o (by decide)]
    exact h.f.ent f G (by rw [mdw_rn (by decide)]; exact hf) (by rw [mdw_spk, mdw_rn (by decide)]; exact hG')
  · rw [eN] at hf
    have hG' : A (P (spk (om_mal (om_mdw M N) M6) f) + 1) (rn (om_mal (om_mdw M N) M6) ff_Mod_number f) = some G := hG
    rw [sp, eB, aK f hf] at hG'
    rw [mal_o (by decide)]
    exact h.f.att f G (by rw [mdw_rn (by decide)]; exact hf) (by rw [mdw_spk, mdw_rn (by decide)]; exact hG')
  · have q1 := hH u hu
    show A (B u + (37 - (if u < (rn M ff_Mod_all 0) then 37 - H u else H u))) w = none
    by_cases c : u < (rn M ff_Mod_all 0)
    · rw [if_pos c, show 37 - (37 - H u) = H u by omega]
      exact f2 u w c hu hw
    · rw [if_neg c, aC u hu, hcm u w hu hw, swn u w (by omega) hw]
      rfl
/-- the counts at the end -/
theorem cy_eq (hJ : JI M) (hN : JN M) (hg : ∀ u, u < (rn M ff_Mod_all 0) → WG M u) (hw : ∀ v, v < 64 → rn M ff_Mod_went v + 300 < 10000000) (hd : rn M ff_Mod_deflected 0 + 300 < 10000000) (hn : NV M N ((rn M ff_Mod_all 0))) : (∀ f, f < (rn M ff_Mod_flits 0) → rn (om_mv ((rn M ff_Mod_flits 0)) 0 (fx_up M ff_Mod_deflected 0 (nI (rn M ff_Mod_deflected 0 + sdf M ((rn M ff_Mod_flits 0)))))) ff_Mod_at f = nb (rn M ff_Mod_n 0) (rn M ff_Mod_at f) (rn M ff_Mod_way f) ∧ om_mv ((rn M ff_Mod_flits 0)) 0 (fx_up M ff_Mod_deflected 0 (nI (rn M ff_Mod_deflected 0 + sdf M ((rn M ff_Mod_flits 0))))) ff_Mod_line f = M ff_Mod_way f) ∧ om_mal (om_mdw M N) (om_mv ((rn M ff_Mod_flits 0)) 0 (fx_up M ff_Mod_deflected 0 (nI (rn M ff_Mod_deflected 0 + sdf M ((rn M ff_Mod_flits 0)))))) = om_mv ((rn M ff_Mod_flits 0)) 0 (fx_up M ff_Mod_deflected 0 (nI (rn M ff_Mod_deflected 0 + sdf M ((rn M ff_Mod_flits 0))))) := by
  have h257 := hJ.1.ri.fNl
  have h64 := hJ.1.all64
  have hsd : sdf M ((rn M ff_Mod_flits 0)) ≤ (rn M ff_Mod_flits 0) := sp_cnt_le _ _
  have hat := hJ.1.net.2.2
  have e0 : rn M ff_Mod_deflected 0 + sdf M ((rn M ff_Mod_flits 0)) = rn M ff_Mod_deflected 0 + sdl M ((rn M ff_Mod_all 0)) := by rw [sdl_all hat]
  have hJ5 : JI (fx_up M ff_Mod_deflected 0 (nI (rn M ff_Mod_deflected 0 + sdf M ((rn M ff_Mod_flits 0))))) := hJ.dfl (by omega)
  have hN5 : JN (fx_up M ff_Mod_deflected 0 (nI (rn M ff_Mod_deflected 0 + sdf M ((rn M ff_Mod_flits 0))))) := hN.dfl
  have eq5 : fx_up M ff_Mod_deflected 0 (nI (rn M ff_Mod_deflected 0 + sdf M ((rn M ff_Mod_flits 0)))) ff_Mod_deflected 0 = N ff_Mod_deflected 0 := by rw [fx_up_same, hn.2.1, e0]
  have o5 : ∀ g i, ¬ (g = ff_Mod_deflected ∧ i = 0) → fx_up M ff_Mod_deflected 0 (nI (rn M ff_Mod_deflected 0 + sdf M ((rn M ff_Mod_flits 0)))) g i = M g i := fun g i q => fx_up_ne q
  generalize fx_up M ff_Mod_deflected 0 (nI (rn M ff_Mod_deflected 0 + sdf M ((rn M ff_Mod_flits 0)))) = M5 at *
  have r5 : ∀ g i, g ≠ ff_Mod_deflected → rn M5 g i = rn M g i := fun g i q => rn_eq (o5 g i (fun z => q z.1))
  have eF : (rn M5 ff_Mod_flits 0) = (rn M ff_Mod_flits 0) := r5 _ _ (by decide)
  have hg5 : ∀ u, u < (rn M5 ff_Mod_all 0) → WG M5 u := by
    intro u hu
    rw [r5 _ _ (by decide)] at hu
    obtain ⟨g1, g2⟩ := hg u hu
    refine ⟨fun f hf e => ?_, fun f g hf hg e1 e2 e3 => ?_⟩
    · rw [eF] at hf
      rw [r5 _ _ (by decide)] at e
      rw [o5 _ _ (fun z => absurd z.1 (by decide))]
      obtain ⟨w, w1, w2, w3⟩ := g1 f hf e
      exact ⟨w, w1, w2, by rw [rz_eq (o5 _ _ (fun z => absurd z.1 (by decide)))]; exact w3⟩
    · rw [eF] at hf hg
      rw [r5 _ _ (by decide)] at e1 e2
      rw [o5 _ _ (fun z => absurd z.1 (by decide)), o5 _ _ (fun z => absurd z.1 (by decide))] at e3
      exact g2 f g hf hg e1 e2 e3
  obtain ⟨i6, m6, w6⟩ := hJ5.move hN5 hg5 (fun v hv => by rw [r5 _ _ (by decide), eF]; have := hw v hv; omega)
  rw [eF] at i6 m6 w6
  refine ⟨fun f hf => ?_, ?_⟩
  · have := m6 f hf
    rw [r5 _ _ (by decide), r5 _ _ (by decide), r5 _ _ (by decide), o5 _ _ (fun z => absurd z.1 (by decide))] at this
    exact this
  · funext g i
    by_cases c1 : (Nat.ble 779 g && Nat.blt g 781) = true
    · rw [mal_y c1]
    · rw [Bool.not_eq_true] at c1
      rw [mal_o c1]
      by_cases c2 : (Nat.ble 815 g && Nat.blt g 817) = true
      · rw [mdw_y c2]
        have c2' : g = 815 ∨ g = 816 := by
          simp only [Bool.and_eq_true, Nat.ble_eq, Nat.blt_eq] at c2
          omega
        rcases c2' with e | e
        · subst e
          rw [hn.1 i]
          by_cases d : i < 64
          · have a1 := w6 i d
            have a2 := i6.1.ri.e ff_Mod_went i (n := 64) rfl d (by decide)
            have a3 : sfa M5 i = sfa M i := by
              unfold sfa
              rw [r5 _ _ (by decide)]
              exact sp_cnt_congr _ (fun f _ => by rw [r5 _ _ (by decide)])
            rw [a3, r5 _ _ (by decide)] at a1
            rw [a1] at a2
            rw [a2]
            by_cases q : i < (rn M ff_Mod_all 0)
            · rw [if_pos q]
            · rw [if_neg q]
              have : sfa M i = 0 := by
                unfold sfa
                rw [sp_cnt_zero]
                intro f hf
                have := hat f hf
                exact beq_eq_false_iff_ne.mpr (by omega)
              rw [this, Nat.add_zero]
              exact hJ.1.ri.e ff_Mod_went i (n := 64) rfl d (by decide)
          · rw [if_neg (by omega), mv_w64 (by omega) _ _ _ (fun j _ hj => by
              rw [r5 _ _ (by decide)]
              have := hat j (by omega)
              omega)]
            exact (o5 _ _ (fun z => absurd z.1 (by decide))).symm
        · subst e
          rw [mv_o (by decide) (by decide) (by decide)]
          by_cases q : i = 0
          · rw [q]; exact eq5.symm
          · rw [o5 _ _ (fun z => q z.2)]; exact hn.2.2 i q
      · rw [Bool.not_eq_true] at c2
        have k1 : g ≠ ff_Mod_went := fun q => by rw [q] at c2; exact absurd c2 (by decide)
        have k2 : g ≠ ff_Mod_at := fun q => by rw [q] at c1; exact absurd c1 (by decide)
        have k3 : g ≠ ff_Mod_line := fun q => by rw [q] at c1; exact absurd c1 (by decide)
        have k4 : g ≠ ff_Mod_deflected := fun q => by rw [q] at c2; exact absurd c2 (by decide)
        rw [mdw_o c2, mv_o k1 k2 k3, o5 _ _ (fun z => k4 z.1)]
end
