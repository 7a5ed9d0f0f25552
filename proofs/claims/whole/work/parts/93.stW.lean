/-! what went out and what was deflected, apart -/
def om_mdw (M N : rf_M) : rf_M := fun g i => if Nat.ble 815 g && Nat.blt g 817 then N g i else M g i
section
variable {s : fx_S} {Q : fx_Q} {x m : Nat} {B H P : Nat → Nat} {C : Nat → Nat → Option Nat} {Y : Nat → Nat → Nat} {rt : Nat → List Nat} {K : Nat → Prop} {L : List Nat} {M N : rf_M} {lv : Nat → Prop}
theorem mdw_o {g i : Nat} (h : (Nat.ble 815 g && Nat.blt g 817) = false) : om_mdw M N g i = M g i := by
  unfold om_mdw
  rw [h]
  rfl
theorem mdw_y {g i : Nat} (h : (Nat.ble 815 g && Nat.blt g 817) = true) : om_mdw M N g i = N g i := by
  unfold om_mdw
  exact if_pos h
theorem mdw_rn {g i : Nat} (h : (Nat.ble 815 g && Nat.blt g 817) = false) : rn (om_mdw M N) g i = rn M g i := rn_eq (mdw_o h)
theorem mdw_rz {g i : Nat} (h : (Nat.ble 815 g && Nat.blt g 817) = false) : rz (om_mdw M N) g i = rz M g i := rz_eq (mdw_o h)
theorem mdw_spk {f : Nat} : spk (om_mdw M N) f = spk M f := by
  unfold spk
  rw [mdw_rn (by decide), mdw_rn (by decide)]
theorem mdw_sg {f : Nat} : sg (om_mdw M N) f = sg M f := by
  unfold sg
  rw [mdw_rn (by decide), mdw_rn (by decide), mdw_rn (by decide)]
theorem mdw_gold : sgold (om_mdw M N) = sgold M := sgold_eq (mdw_rn (by decide)) (mdw_rn (by decide)) (mdw_rn (by decide))
theorem mdw_key {f : Nat} : skey (om_mdw M N) f = skey M f := by
  unfold skey
  rw [mdw_rn (by decide), mdw_rn (by decide), mdw_rn (by decide)]
theorem mdw_sah : sah (om_mdw M N) = sah M := by
  funext a b
  unfold sah
  rw [mdw_key, mdw_key, mdw_gold, mdw_rn (by decide), mdw_rn (by decide)]
theorem mdw_want {v w g : Nat} : swant (om_mdw M N) v w g = swant M v w g := by
  unfold swant
  rw [mdw_rz (by decide), mdw_rn (by decide), mdw_rn (by decide), mdw_rn (by decide)]
theorem mdw_sol {v l : Nat} : sol (om_mdw M N) v l = sol M v l := by
  unfold sol
  rw [mdw_rn (by decide)]
  exact sp_first_congr _ _ (fun f _ _ => by rw [mdw_rn (by decide), mdw_rn (by decide)])
theorem mdw_sgo {v w : Nat} : sgo (om_mdw M N) v w = sgo M v w := by
  unfold sgo
  rw [mdw_rn (by decide)]
  exact sp_first_congr _ _ (fun f _ _ => by rw [mdw_rn (by decide), mdw_o (by decide)])
theorem mdw_giv {v w : Nat} : sgiv (om_mdw M N) v w = sgiv M v w := by
  have := mdw_sgo (M := M) (N := N) (v := v) (w := w)
  unfold sgo at this
  unfold sgiv
  rw [this]
theorem mdw_free {v w : Nat} : sfree (om_mdw M N) v w = sfree M v w := by
  unfold sfree
  rw [mdw_rz (by decide), mdw_giv]
theorem sp_best_congr {P1 P2 : Nat → Bool} {R : Nat → Nat → Bool} : ∀ k, (∀ i, i < k → P1 i = P2 i) → sp_best P1 R k = sp_best P2 R k
  | 0, _ => rfl
  | k + 1, h => by
    unfold sp_best
    rw [h k (by omega), sp_best_congr k (fun i hi => h i (by omega))]
theorem mdw_next {v : Nat} : snext (om_mdw M N) v = snext M v := by
  unfold snext
  rw [mdw_rn (by decide), mdw_sah]
  exact sp_best_congr _ (fun f _ => by rw [mdw_rn (by decide), mdw_o (by decide)])
theorem mdw_sgv {v f : Nat} : sgv (om_mdw M N) v f = sgv M v f := by
  unfold sgv
  have e1 : sp_first (fun w => sfree (om_mdw M N) v w && swant (om_mdw M N) (rn (om_mdw M N) ff_Mod_at f) w (sg (om_mdw M N) f)) 0 4 = sp_first (fun w => sfree M v w && swant M (rn M ff_Mod_at f) w (sg M f)) 0 4 := sp_first_congr _ _ (fun w _ _ => by rw [mdw_free, mdw_want, mdw_rn (by decide), mdw_sg])
  have e2 : sp_first (sfree (om_mdw M N) v) 0 4 = sp_first (sfree M v) 0 4 := sp_first_congr _ _ (fun w _ _ => mdw_free)
  rw [e1, e2]
theorem mdw_up {f i : Nat} {y : Int32} (h : (Nat.ble 815 f && Nat.blt f 817) = false) : fx_up (om_mdw M N) f i y = om_mdw (fx_up M f i y) N := by
  funext g j
  by_cases c : (Nat.ble 815 g && Nat.blt g 817) = true
  · rw [mdw_y c, fx_up_ne (fun q => by rw [q.1, h] at c; cases c), mdw_y c]
  · have c' : (Nat.ble 815 g && Nat.blt g 817) = false := by rw [Bool.not_eq_true] at c; exact c
    rw [mdw_o c']
    by_cases d : g = f ∧ j = i
    · rw [d.1, d.2, fx_up_same, fx_up_same]
    · rw [fx_up_ne d, fx_up_ne d, mdw_o c']
theorem mdw_gr {v : Nat} : ∀ (n : Nat) (M : rf_M), om_gr v n (om_mdw M N) = om_mdw (om_gr v n M) N
  | 0, _ => rfl
  | n + 1, M => by
    unfold om_gr
    rw [mdw_next]
    cases snext M v with
    | none => rfl
    | some f =>
      show om_gr v n (fx_up (om_mdw M N) ff_Mod_way f (oI (sgv (om_mdw M N) v f))) = om_mdw (om_gr v n (fx_up M ff_Mod_way f (oI (sgv M v f)))) N
      rw [mdw_sgv, mdw_up (by decide), mdw_gr n]
theorem mdw_supper {f g : Option Nat} {kd : Nat} : supper (om_mdw M N) f g kd = supper M f g kd := by
  have ef : sfst (om_mdw M N) f g = sfst M f g := by
    unfold sfst
    rw [mdw_sah]
  have ec : ∀ a, scnd (om_mdw M N) kd a = scnd M kd a := by
    intro a
    unfold scnd
    rw [mdw_rn (by decide), mdw_sg, mdw_want, mdw_want, mdw_want, mdw_want]
  cases hs : sfst M f g with
  | none =>
    obtain ⟨e1, e2⟩ := sfst_none hs
    subst e1; subst e2
    rw [supper_nn, supper_nn]
  | some a => rw [supper_fst hs, supper_fst (ef.trans hs), ec]
theorem mdw_sd {v : Nat} : sd1 (om_mdw M N) v = sd1 M v ∧ sd2 (om_mdw M N) v = sd2 M v ∧ sd3 (om_mdw M N) v = sd3 M v ∧ sd4 (om_mdw M N) v = sd4 M v := by
  have e1 : sc1 (om_mdw M N) v = sc1 M v := by unfold sc1; rw [mdw_sol, mdw_sol, mdw_supper]
  have e2 : sc2 (om_mdw M N) v = sc2 M v := by unfold sc2; rw [mdw_sol, mdw_sol, mdw_supper]
  have e3 : sc3 (om_mdw M N) v = sc3 M v := by unfold sc3; rw [mdw_sol, mdw_sol, e1]
  have e4 : sc4 (om_mdw M N) v = sc4 M v := by unfold sc4; rw [mdw_sol, mdw_sol, e2]
  have e5 : sd1 (om_mdw M N) v = sd1 M v := by unfold sd1; rw [e1, e2, mdw_supper]
  have e6 : sd3 (om_mdw M N) v = sd3 M v := by unfold sd3; rw [e3, e4, mdw_supper]
  refine ⟨e5, ?_, e6, ?_⟩
  · unfold sd2; rw [e1, e2, e5]
  · unfold sd4; rw [e3, e4, e6]
theorem mdw_way {f : Option Nat} {w : Nat} : om_way (om_mdw M N) f w = om_mdw (om_way M f w) N := by
  unfold om_way
  cases f with
  | none => rfl
  | some a => exact mdw_up (by decide)
theorem mdw_gv {v : Nat} : om_gv (om_mdw M N) v = om_mdw (om_gv M v) N := by
  unfold om_gv
  rw [mdw_rn (by decide)]
  by_cases c : rn M ff_Mod_mode 0 = 0
  · rw [if_pos c, if_pos c, mdw_gr]
  · rw [if_neg c, if_neg c]
    unfold om_gc
    obtain ⟨e1, e2, e3, e4⟩ := mdw_sd (M := M) (N := N) (v := v)
    rw [e1, e2, e3, e4, mdw_way, mdw_way, mdw_way, mdw_way]
theorem JI.mdw (h : JI M) (h1 : ∀ i, i < 64 → ∃ k, N ff_Mod_went i = nI k ∧ k < 10000000) (h2 : ∃ k, N ff_Mod_deflected 0 = nI k ∧ k < 10000000) : JI (om_mdw M N) := by
  have ri : RI (om_mdw M N) := by
    refine ⟨fun g i hg hi => ?_, fun i hi => ?_, fun i hi => ?_⟩
    · by_cases c : (Nat.ble 815 g && Nat.blt g 817) = true
      · have c' : g = 815 ∨ g = 816 := by
          simp only [Bool.and_eq_true, Nat.ble_eq, Nat.blt_eq] at c
          omega
        rcases c' with e | e
        · subst e
          obtain ⟨k, k1, k2⟩ := h1 i hi
          exact rb_of (b := 10000000) (by rw [mdw_y (by decide)]; exact k1) k2 (by omega)
        · subst e
          have hi' : i < 1 := hi
          obtain rfl : i = 0 := by omega
          obtain ⟨k, k1, k2⟩ := h2
          exact rb_of (b := 10000000) (by rw [mdw_y (by decide)]; exact k1) k2 (by omega)
      · exact (h.1.ri.1 g i hg hi).same (mdw_o (by rw [Bool.not_eq_true] at c; exact c))
    · rw [mdw_o (by decide)]
      rcases h.1.ri.2.1 i hi with q | q
      · exact Or.inl q
      · exact Or.inr (q.same (mdw_o (by decide)))
    · rw [mdw_o (by decide)]
      rcases h.1.ri.2.2 i hi with q | q
      · exact Or.inl q
      · exact Or.inr (q.same (mdw_o (by decide)))
  exact ⟨⟨ri, h.1.net, h.1.j2, h.1.j3, h.1.j4, h.1.j5, h.1.j6, h.1.j7, h.1.j8, h.1.j8u, h.1.j9, h.1.j9u, h.1.j10, h.1.j10u, h.1.j11, h.1.j11u, h.1.j13, h.1.j14⟩, h.2⟩
theorem JN.mdw (h : JN M) : JN (om_mdw M N) := h.to (fun i => mdw_o (by decide)) (fun i => mdw_o (by decide)) (fun i => mdw_o (by decide)) (fun i => mdw_o (by decide)) (fun i => mdw_o (by decide))
theorem mdw_fob {f : Option Nat} : fob s P (om_mdw M N) f = fob s P M f := by
  cases f with
  | none =>
    unfold fob
    rw [ob_none, ob_none]
  | some g =>
    show fx_ar s (P (spk (om_mdw M N) g) + 1) (rn (om_mdw M N) ff_Mod_number g) = fx_ar s (P (spk M g) + 1) (rn M ff_Mod_number g)
    rw [mdw_spk, mdw_rn (by decide)]
/-- the torus counts one that was deflected -/
theorem RA.dfl {y : Int32} (h : RA s x B H C Y P m rt K L M) : RA (fx_sfi s ff_Torus_flitsDeflected x y) x B H C Y P m rt K L (fx_up M ff_Mod_deflected 0 y) := by
  refine ⟨h.sk, ⟨h.t.mode, h.t.pat, h.t.now, h.t.turn, h.t.fin, ?_, h.t.rec, h.t.ask, h.t.pks⟩, h.g, h.s, h.p, h.w, h.r, h.x, h.m, h.o, h.k, h.f, h.v, h.nm⟩
  rw [fi_same, fx_up_same]
theorem RA.went {v : Nat} {y : Int32} (h : RA s x B H C Y P m rt K L M) (hv : v < m) : RA (fx_sfi s ff_Node_wentOut (B v) y) x B H C Y P m rt K L (fx_up M ff_Mod_went v y) := by
  refine ⟨h.sk, ⟨h.t.mode, h.t.pat, h.t.now, h.t.turn, h.t.fin, h.t.dfl, h.t.rec, h.t.ask, h.t.pks⟩, h.g, ⟨h.s.used, h.s.hun, h.s.uw, h.s.sl, fun u hu => ?_⟩, h.p, h.w, h.r, h.x, h.m, h.o, h.k, h.f, h.v, h.nm⟩
  by_cases c : u = v
  · rw [c, fi_same, fx_up_same]
  · have hne : B u ≠ B v := fun q => c (h.sk.ap (c := 0) (d := 0) hu hv (by omega) (by omega) (by rw [q])).1
    rw [fi_ne (fun q => hne q.2), fx_up_ne (fun q => c q.2)]
    exact h.s.went u hu
/-- another one comes in -/
def ccs (C : Nat → Nat → Option Nat) (u i : Nat) (o : Option Nat) : Nat → Nat → Option Nat := fun v w => if v = u ∧ w = i then o else C v w
/-- the arrays of what comes in are nobody else's -/
theorem RA.csar {u i : Nat} {o : Option Nat} (h : RA s x B H C Y P m rt K L M) (hJ : JV M lv) (hu : u < m) : RA (fx_sar s (B u + (37 - H u)) i o) x B H (ccs C u i o) Y P m rt K L M := by
  have hin := h.sk.c.in_
  have hH := h.f.h1 u hu
  have zK : ∀ a, K a → B u + (37 - H u) ≠ a + 1 := fun a ha => by
    have := (h.k.in_ a ha).2.2 u hu
    omega
  have arK : ∀ f, f < (rn M ff_Mod_flits 0) → ∀ b, fx_ar (fx_sar s (B u + (37 - H u)) i o) (P (spk M f) + 1) b = fx_ar s (P (spk M f) + 1) b := fun f hf b => ar_ne (fun q => zK _ (h.o.kp _ (hJ.j2 f hf).2.2.1 (hJ.j2 f hf).1) q.1.symm)
  refine ⟨h.sk.sar (by have := hin u hu; omega) (fun v hv q => by have := h.sk.ap hu hv (by omega) (by omega) q; omega), h.t, h.g, h.s.sar (fun v hv q => by have := h.sk.ap hu hv (by omega) (by omega) q; omega), h.p, h.w, h.r, h.x, h.m, h.o, h.k.sar zK h.o.kp h.o.kw, ⟨h.f.h1, h.f.here, h.f.com, fun v l hv hl => ?_, fun f F hf hF => ?_, fun f F hf hF => ?_, fun v l hv hl => ?_⟩, h.v.sar (fun v hv q => by have := h.sk.ap hu hv (by omega) (by omega) q; omega), h.nm⟩
  · have hHv := h.f.h1 v hv
    rw [ar_ne, h.f.fl v l hv hl]
    · cases hs : sol M v l with
      | none => rw [ob_none, ob_none]
      | some f => rw [ob_some, ob_some, arK f (sol_some hs).1]
    · intro q
      obtain ⟨e1, e2⟩ := h.sk.ap hv hu (by omega) (by omega) q.1
      subst e1
      omega
  · rw [arK f hf] at hF; exact h.f.ent f F hf hF
  · rw [arK f hf] at hF; exact h.f.att f F hf hF
  · have hHv := h.f.h1 v hv
    unfold ccs
    by_cases c : v = u ∧ l = i
    · rw [if_pos c, c.1, c.2, ar_same]
    · rw [if_neg c, ar_ne]
      · exact h.f.cm v l hv hl
      · intro q
        obtain ⟨e1, e2⟩ := h.sk.ap hv hu (by omega) (by omega) q.1
        exact c ⟨e1, q.2⟩
/-- who comes to u on way w, of the nodes before j, and of node j before way e -/
def swc (M : rf_M) (j e u w : Nat) : Option Nat := sp_first (fun f => (decide (rn M ff_Mod_at f < j) || (rn M ff_Mod_at f == j && decide (w < e))) && (nb (rn M ff_Mod_n 0) (rn M ff_Mod_at f) w == u) && decide (M ff_Mod_way f = nI w)) 0 ((rn M ff_Mod_flits 0))
def CM (s : fx_S) (B H P : Nat → Nat) (m : Nat) (M : rf_M) (j e : Nat) : Prop := ∀ u w, u < m → w < 4 → fx_ar s (B u + (37 - H u)) w = fob s P M (swc M j e u w)
theorem swc_some {j e u w f : Nat} (h : swc M j e u w = some f) : f < (rn M ff_Mod_flits 0) ∧ (rn M ff_Mod_at f < j ∨ (rn M ff_Mod_at f = j ∧ w < e)) ∧ nb (rn M ff_Mod_n 0) (rn M ff_Mod_at f) w = u ∧ M ff_Mod_way f = nI w := by
  obtain ⟨-, h2, h3, -⟩ := sp_first_some.mp h
  simp only [Bool.and_eq_true, Bool.or_eq_true, beq_iff_eq, decide_eq_true_eq] at h3
  exact ⟨by omega, h3.1.1, h3.1.2, h3.2⟩
theorem swc_0 {u w : Nat} : swc M 0 0 u w = none := by
  refine sp_first_none.mpr (fun f _ _ => ?_)
  have e1 : decide (rn M ff_Mod_at f < 0) = false := by simp
  have e2 : decide (w < 0) = false := by simp
  rw [e1, e2]
  simp
end
