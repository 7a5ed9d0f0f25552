/-! THE REFERENCE: cycle -/
section
variable {M : rf_M}
theorem setA_o {v g i : Nat} (h : g < 799 ∨ 814 ≤ g) : ∀ (d k : Nat) (M : rf_M), om_setA v d k M g i = M g i
  | 0, _, _ => rfl
  | d + 1, k, M => by
    unfold om_setA
    rw [setA_o h d]
    cases sfull M v k
    · rfl
    · exact ready_o h
theorem setB_o {v g i : Nat} (h : g < 799 ∨ 814 ≤ g) : ∀ (n : Nat) (M : rf_M), om_setB v n M g i = M g i
  | 0, _ => rfl
  | n + 1, M => by
    unfold om_setB
    cases semp M v with
    | none => rfl
    | some k => exact (setB_o h n _).trans (fill_o h)
theorem settle_o {v g i : Nat} (h : g < 799 ∨ 814 ≤ g) : om_settle M v g i = M g i := by
  unfold om_settle
  try dsimp only
  rw [setB_o h, setA_o h]
theorem join_o {v p t b g i : Nat} (h : g < 796 ∨ (796 < g ∧ g < 799) ∨ (814 ≤ g ∧ g < 818)) : om_join M v p t b g i = M g i := by
  have k1 : ∀ f, 799 ≤ f → f < 814 → g ≠ f := by omega
  have k2 : g ≠ 796 := by omega
  have k3 : g ≠ 818 := by omega
  cases hs : sp_first (fun k => decide (M ff_Mod_whose k = nI p) && decide (M ff_Mod_whichTry k = nI t)) (4 * v) 4 with
  | some k =>
    rw [om_join_k hs, fx_up_ne (fun q => k1 _ (by decide) (by decide) q.1)]
  | none =>
    cases he : (bif t == 1 && !rz M ff_Mod_asked p then semp M v else none) with
    | some k => rw [om_join_e hs he, fx_up_ne (fun q => k1 _ (by decide) (by decide) q.1), fx_up_ne (fun q => k1 _ (by decide) (by decide) q.1), fx_up_ne (fun q => k1 _ (by decide) (by decide) q.1), fx_up_ne (fun q => k1 _ (by decide) (by decide) q.1)]
    | none =>
      rw [om_join_l hs he]
      cases rz M ff_Mod_asked p
      · rw [cond_false, fx_up_ne (fun q => k3 q.1), fx_up_ne (fun q => k1 _ (by decide) (by decide) q.1), fx_up_ne (fun q => k1 _ (by decide) (by decide) q.1), fx_up_ne (fun q => k2 q.1)]
      · rfl
theorem rem_o {f g i : Nat} (h : g < 778 ∨ 787 ≤ g) : om_rem M f g i = M g i := by
  have key : ∀ f, 778 ≤ f → f < 787 → g ≠ f := by omega
  unfold om_rem
  try dsimp only
  rw [fx_up_ne (fun q => key _ (by decide) (by decide) q.1), fx_up_ne (fun q => key _ (by decide) (by decide) q.1), fx_up_ne (fun q => key _ (by decide) (by decide) q.1), fx_up_ne (fun q => key _ (by decide) (by decide) q.1), fx_up_ne (fun q => key _ (by decide) (by decide) q.1), fx_up_ne (fun q => key _ (by decide) (by decide) q.1), fx_up_ne (fun q => key _ (by decide) (by decide) q.1), fx_up_ne (fun q => key _ (by decide) (by decide) q.1), fx_up_ne (fun q => key _ (by decide) (by decide) q.1)]
theorem rcv_o {f g i : Nat} (h : g < 778 ∨ 787 ≤ g) (h2 : g ≠ 817) : om_rcv M f g i = M g i := by
  unfold om_rcv
  rw [fx_up_ne (fun q => h2 q.1), rem_o h]
theorem receive_o {f g i : Nat} (h : g < 778 ∨ (787 ≤ g ∧ g < 796) ∨ (796 < g ∧ g < 799) ∨ (814 ≤ g ∧ g < 817)) : om_receive M f g i = M g i := by
  unfold om_receive
  rw [settle_o (by omega), join_o (by omega), rcv_o (by omega) (by omega)]
theorem receive_cnt {f : Nat} (hI : RI M) (hc : rn M ff_Mod_received 0 < 9000000) (hl : rn M ff_Mod_lost 0 < 9000000) : rn (om_receive M f) ff_Mod_received 0 ≤ rn M ff_Mod_received 0 + 1 ∧ rn (om_receive M f) ff_Mod_lost 0 ≤ rn M ff_Mod_lost 0 + 1 := by
  unfold om_receive
  have a1 : rn (om_rcv M f) ff_Mod_received 0 = rn M ff_Mod_received 0 + 1 := by
    unfold om_rcv
    rw [rn_same (by omega)]
  have a2 : rn (om_rcv M f) ff_Mod_lost 0 = rn M ff_Mod_lost 0 := by
    unfold om_rcv
    rw [rn_pe (by decide)]
    unfold rn
    rw [rem_o (by decide)]
  generalize om_rcv M f = M1 at *
  have e1 : ∀ M v i, rn (om_settle M v) ff_Mod_received i = rn M ff_Mod_received i := fun M v i => by unfold rn; rw [settle_o (by decide)]
  have e2 : ∀ M v i, rn (om_settle M v) ff_Mod_lost i = rn M ff_Mod_lost i := fun M v i => by unfold rn; rw [settle_o (by decide)]
  rw [e1, e2]
  have e3 : ∀ v p t b i, rn (om_join M1 v p t b) ff_Mod_received i = rn M1 ff_Mod_received i := fun v p t b i => by unfold rn; rw [join_o (by decide)]
  rw [e3]
  refine ⟨by omega, ?_⟩
  generalize hv : rn M ff_Mod_at f = v
  generalize ht : rn M ff_Mod_tries f = t
  generalize hb : rn M ff_Mod_number f = b
  generalize hp : spk M f = p
  cases hs : sp_first (fun k => decide (M1 ff_Mod_whose k = nI p) && decide (M1 ff_Mod_whichTry k = nI t)) (4 * v) 4 with
  | some k =>
    rw [om_join_k hs, rn_pe (by decide)]
    omega
  | none =>
    cases he : (bif t == 1 && !rz M1 ff_Mod_asked p then semp M1 v else none) with
    | some k =>
      rw [om_join_e hs he, rn_pe (by decide), rn_pe (by decide), rn_pe (by decide), rn_pe (by decide)]
      omega
    | none =>
      rw [om_join_l hs he]
      cases rz M1 ff_Mod_asked p
      · rw [cond_false, rn_same (by omega)]; omega
      · rw [cond_true]; omega
theorem tell_o {g i : Nat} (h : g < 792 ∨ (799 ≤ g ∧ g < 810) ∨ 814 ≤ g) : ∀ (d k l : Nat) (M : rf_M), om_tell d k l M g i = M g i
  | 0, k, l, M => fx_up_ne (fun q => by have : ff_Mod_notes = 810 := rfl; omega)
  | d + 1, k, l, M => by
    have k1 : ∀ f, 810 ≤ f → f < 814 → g ≠ f := by omega
    have k2 : ∀ f, 792 ≤ f → f < 799 → g ≠ f := by omega
    unfold om_tell
    cases decide (rn M ff_Mod_cycle 0 < rn M ff_Mod_noteDue k)
    · rw [cond_false]
      cases rz M ff_Mod_noteDone k
      · rw [cond_false, tell_o h d]
        unfold om_again
        rw [fx_up_ne (fun q => k2 _ (by decide) (by decide) q.1), fx_up_ne (fun q => k2 _ (by decide) (by decide) q.1), fx_up_ne (fun q => k2 _ (by decide) (by decide) q.1), fx_up_ne (fun q => k2 _ (by decide) (by decide) q.1)]
      · rw [cond_true, tell_o h d]
        exact fx_up_ne (fun q => k2 _ (by decide) (by decide) q.1)
    · rw [cond_true, tell_o h d]
      unfold om_keep
      rw [fx_up_ne (fun q => k1 _ (by decide) (by decide) q.1), fx_up_ne (fun q => k1 _ (by decide) (by decide) q.1), fx_up_ne (fun q => k1 _ (by decide) (by decide) q.1)]
theorem flit_o {v p l g i : Nat} (h : g < 778 ∨ (786 ≤ g ∧ g < 795) ∨ 795 < g) : om_flit M v p l g i = M g i := by
  have k1 : ∀ f, 778 ≤ f → f < 786 → g ≠ f := by omega
  have k2 : g ≠ 795 := by omega
  exact flit_view (k1 _ (by decide) (by decide)) (k1 _ (by decide) (by decide)) (k1 _ (by decide) (by decide)) (k1 _ (by decide) (by decide)) (k1 _ (by decide) (by decide)) (k1 _ (by decide) (by decide)) (k1 _ (by decide) (by decide)) (k1 _ (by decide) (by decide)) k2
theorem enter_o {v w l g i : Nat} (h : g < 778 ∨ g = 786 ∨ 799 ≤ g) : om_enter M v w l g i = M g i := by
  have k2 : ∀ f, 787 ≤ f → f < 799 → g ≠ f := by omega
  unfold om_enter
  split
  · exact flit_o (by omega)
  · split
    · rw [flit_o (by omega)]
      unfold om_unag
      rw [om_sh_ne (k2 _ (by decide) (by decide)), fx_up_ne (fun q => k2 _ (by decide) (by decide) q.1)]
    · dsimp only
      rw [flit_o (by omega)]
      exact unwt_v (k2 _ (by decide) (by decide)) (k2 _ (by decide) (by decide)) (k2 _ (by decide) (by decide)) (k2 _ (by decide) (by decide)) (k2 _ (by decide) (by decide)) (k2 _ (by decide) (by decide)) (k2 _ (by decide) (by decide)) (k2 _ (by decide) (by decide)) (k2 _ (by decide) (by decide)) (k2 _ (by decide) (by decide))
theorem le1_o {only : Option Nat} {v g i : Nat} (h : (g < 778 ∧ g ≠ 774) ∨ g = 786 ∨ (799 ≤ g ∧ g ≠ 814)) : om_le1 M only v g i = M g i := by
  have e0 : om_hun M only v g i = M g i := fx_up_ne (fun q => by have : ff_Mod_hungry = 814 := rfl; omega)
  unfold om_le1
  cases (scand M v).isSome && smay M only v with
  | false => exact e0
  | true =>
    rw [cond_true]
    split
    · rw [fx_up_ne (fun q => by have : ff_Mod_turn = 774 := rfl; omega), enter_o (by omega), e0]
    · rw [enter_o (by omega), e0]
theorem le_o {only : Option Nat} {g i : Nat} (h : (g < 778 ∧ g ≠ 774) ∨ g = 786 ∨ (799 ≤ g ∧ g ≠ 814)) : ∀ (d v : Nat) (M : rf_M), om_le only d v M g i = M g i
  | 0, _, _ => rfl
  | d + 1, v, M => (le_o h d (v + 1) _).trans (le1_o h)
theorem le1_hGv {only : Option Nat} {v : Nat} (hh : rn M ff_Mod_hungry v < 900000) : rn (om_le1 M only v) ff_Mod_hungry v ≤ rn M ff_Mod_hungry v + 1 := by
  have e0 : rn (om_hun M only v) ff_Mod_hungry v ≤ rn M ff_Mod_hungry v + 1 := by
    unfold om_hun
    cases (scand M v).isSome && !smay M only v
    · rw [cond_false, rn_same (by omega)]; omega
    · rw [cond_true, rn_same (by omega)]; omega
  unfold om_le1
  cases (scand M v).isSome && smay M only v with
  | false => exact e0
  | true =>
    rw [cond_true]
    have e1 : ∀ w l, rn (om_enter (om_hun M only v) v w l) ff_Mod_hungry v = rn (om_hun M only v) ff_Mod_hungry v := fun w l => by unfold rn; rw [enter_o (by decide)]
    split
    · rw [rn_pe (by decide), e1]; exact e0
    · rw [e1]; exact e0
theorem le_hG {only : Option Nat} {c : Nat} (hc : c < 900000) : ∀ (d v : Nat) (M : rf_M), (∀ u, u < 64 → rn M ff_Mod_hungry u ≤ c ∨ (u < v ∧ rn M ff_Mod_hungry u ≤ c + 1)) → v + d ≤ 64 → ∀ u, u < 64 → rn (om_le only d v M) ff_Mod_hungry u ≤ c + 1
  | 0, v, M, h, _, u, hu => by rcases h u hu with q | q <;> (show rn M ff_Mod_hungry u ≤ c + 1; omega)
  | d + 1, v, M, h, hd, u, hu => by
    refine le_hG hc d (v + 1) (om_le1 M only v) (fun x hx => ?_) (by omega) u hu
    by_cases e : x = v
    · subst e
      have := h x hx
      have h1 : rn M ff_Mod_hungry x ≤ c := by rcases this with q | q <;> omega
      have := le1_hGv (M := M) (only := only) (v := x) (by omega)
      exact Or.inr ⟨by omega, by omega⟩
    · rw [le1_hG e]
      rcases h x hx with q | q
      · exact Or.inl q
      · exact Or.inr ⟨by omega, q.2⟩
/-! the stages -/
def om_rc1 (M : rf_M) (v : Nat) : rf_M := match shome M v with
  | none => M
  | some f => om_receive M f
def om_rcs : Nat → Nat → rf_M → rf_M
  | 0, _, M => M
  | d + 1, v, M => om_rcs d (v + 1) (om_rc1 (om_rc1 M v) v)
def om_c1 (M : rf_M) : rf_M := om_tell ((rn M ff_Mod_notes 0)) 0 0 (om_t0 M)
def om_c2 (M : rf_M) : rf_M := om_rcs ((rn M ff_Mod_all 0)) 0 (om_c1 M)
def om_c3 (M : rf_M) : rf_M := om_le (sfav (om_c2 M)) ((rn M ff_Mod_all 0)) 0 (om_c2 M)
def om_c4 (M : rf_M) : rf_M := om_gvs ((rn M ff_Mod_all 0)) 0 (om_w0 (om_c3 M))
def sdf (M : rf_M) (j : Nat) : Nat := sp_cnt (fun f => !swant M (rn M ff_Mod_at f) (rn M ff_Mod_way f) (sg M f)) j
def om_c5 (M : rf_M) : rf_M := fx_up (om_c4 M) ff_Mod_deflected 0 (nI (rn (om_c4 M) ff_Mod_deflected 0 + sdf (om_c4 M) ((rn (om_c4 M) ff_Mod_flits 0))))
def om_c6 (M : rf_M) : rf_M := om_mv ((rn (om_c5 M) ff_Mod_flits 0)) 0 (om_c5 M)
def om_cy (M : rf_M) : rf_M := fx_up (om_c6 M) ff_Mod_cycle 0 (nI (rn M ff_Mod_cycle 0 + 1))
/-- what the calls so far can have counted -/
def JC (M : rf_M) (c : Nat) : Prop := rn M ff_Mod_cycle 0 ≤ c ∧ (∀ v, v < 64 → rn M ff_Mod_hungry v ≤ c) ∧ (∀ v, v < 64 → rn M ff_Mod_went v ≤ 256 * c) ∧ rn M ff_Mod_deflected 0 ≤ 256 * c ∧ rn M ff_Mod_received 0 ≤ 128 * c ∧ rn M ff_Mod_lost 0 ≤ 128 * c
theorem rc1_o {v g i : Nat} (h : g < 778 ∨ (787 ≤ g ∧ g < 796) ∨ (796 < g ∧ g < 799) ∨ (814 ≤ g ∧ g < 817)) : om_rc1 M v g i = M g i := by
  unfold om_rc1
  cases shome M v with
  | none => rfl
  | some f => exact receive_o h
theorem rc1_rn {v g i : Nat} (h : g < 778 ∨ (787 ≤ g ∧ g < 796) ∨ (796 < g ∧ g < 799) ∨ (814 ≤ g ∧ g < 817)) : rn (om_rc1 M v) g i = rn M g i := by
  unfold rn
  rw [rc1_o h]
theorem rcs_o {g i : Nat} (h : g < 778 ∨ (787 ≤ g ∧ g < 796) ∨ (796 < g ∧ g < 799) ∨ (814 ≤ g ∧ g < 817)) : ∀ (d v : Nat) (M : rf_M), om_rcs d v M g i = M g i
  | 0, _, _ => rfl
  | d + 1, v, M => (rcs_o h d (v + 1) _).trans ((rc1_o h).trans (rc1_o h))
theorem JI.rc1 {v : Nat} (h : JI M) (hc : rn M ff_Mod_received 0 < 9000000) (hl : rn M ff_Mod_lost 0 < 9000000) : JI (om_rc1 M v) ∧ rn (om_rc1 M v) ff_Mod_received 0 ≤ rn M ff_Mod_received 0 + 1 ∧ rn (om_rc1 M v) ff_Mod_lost 0 ≤ rn M ff_Mod_lost 0 + 1 := by
  unfold om_rc1
  cases hs : shome M v with
  | none => exact ⟨h, Nat.le_succ _, Nat.le_succ _⟩
  | some f =>
    obtain ⟨f1, f2, f3⟩ := shome_some hs
    exact ⟨(h.receive f1 (by rw [f2, f3]) hc hl).1, receive_cnt h.1.ri hc hl⟩
theorem JI.rcs : ∀ (d v : Nat) (M : rf_M), JI M → rn M ff_Mod_received 0 + 2 * d < 9000000 → rn M ff_Mod_lost 0 + 2 * d < 9000000 → JI (om_rcs d v M) ∧ rn (om_rcs d v M) ff_Mod_received 0 ≤ rn M ff_Mod_received 0 + 2 * d ∧ rn (om_rcs d v M) ff_Mod_lost 0 ≤ rn M ff_Mod_lost 0 + 2 * d
  | 0, _, M, h, _, _ => ⟨h, Nat.le_refl _, Nat.le_refl _⟩
  | d + 1, v, M, h, hc, hl => by
    obtain ⟨a1, a2, a3⟩ := h.rc1 (v := v) (by omega) (by omega)
    obtain ⟨b1, b2, b3⟩ := a1.rc1 (v := v) (by omega) (by omega)
    obtain ⟨c1, c2, c3⟩ := JI.rcs d (v + 1) _ b1 (by omega) (by omega)
    exact ⟨c1, by show rn (om_rcs d (v + 1) _) _ _ ≤ _; omega, by show rn (om_rcs d (v + 1) _) _ _ ≤ _; omega⟩
theorem c1_o {g i : Nat} (h0 : g ≠ 768) (h : g < 792 ∨ (799 ≤ g ∧ g < 810) ∨ 814 ≤ g) : om_c1 M g i = M g i := by
  unfold om_c1
  rw [tell_o h]
  exact fx_up_ne (fun q => h0 q.1)
theorem c2_o {g i : Nat} (h0 : g ≠ 768) (h : g < 778 ∨ (787 ≤ g ∧ g < 792) ∨ (814 ≤ g ∧ g < 817)) : om_c2 M g i = M g i := by
  unfold om_c2
  rw [rcs_o (by omega), c1_o h0 (by omega)]
theorem c3_o {g i : Nat} (h0 : g ≠ 768) (h : (g < 778 ∧ g ≠ 774) ∨ (815 ≤ g ∧ g < 817)) : om_c3 M g i = M g i := by
  unfold om_c3
  rw [le_o (by omega), c2_o h0 (by omega)]
/-- all that holds at the stages -/
theorem cyc_ok {c : Nat} (h : JI M) (hN : JN M) (hC : JC M c) (hc : c < 2000) : pk_tell ((rn M ff_Mod_notes 0)) 0 0 (om_t0 M) ∧ JI (om_c1 M) ∧ JI (om_c2 M) ∧ pk_let (sfav (om_c2 M)) ((rn M ff_Mod_all 0)) 0 (om_c2 M) ∧ JI (om_c3 M) ∧ JI (om_w0 (om_c3 M)) ∧ pk_gvs ((rn M ff_Mod_all 0)) 0 (om_w0 (om_c3 M)) ∧ JI (om_c4 M) ∧ (∀ u, u < (rn M ff_Mod_all 0) → WG (om_c4 M) u) ∧ WY (om_w0 (om_c3 M)) (om_c4 M) ∧ JI (om_c5 M) ∧ JI (om_c6 M) ∧ JI (om_cy M) ∧ JN (om_cy M) ∧ JC (om_cy M) (c + 1) := by
  obtain ⟨C1, C2, C3, C4, C5, C6⟩ := hC
  have h64 := h.1.all64
  obtain ⟨p1, i1⟩ := h.t0.tell
  replace p1 : pk_tell ((rn M ff_Mod_notes 0)) 0 0 (om_t0 M) := p1
  replace i1 : JI (om_c1 M) := i1
  have r1 : ∀ g i, g ≠ 768 → (g < 792 ∨ (799 ≤ g ∧ g < 810) ∨ 814 ≤ g) → rn (om_c1 M) g i = rn M g i := fun g i a b => by unfold rn; rw [c1_o a b]
  have r2 : ∀ g i, g ≠ 768 → (g < 778 ∨ (787 ≤ g ∧ g < 792) ∨ (814 ≤ g ∧ g < 817)) → rn (om_c2 M) g i = rn M g i := fun g i a b => by unfold rn; rw [c2_o a b]
  have r3 : ∀ g i, g ≠ 768 → ((g < 778 ∧ g ≠ 774) ∨ (815 ≤ g ∧ g < 817)) → rn (om_c3 M) g i = rn M g i := fun g i a b => by unfold rn; rw [c3_o a b]
  have x1 : rn (om_c1 M) ff_Mod_received 0 = rn M ff_Mod_received 0 := r1 _ _ (by decide) (by decide)
  have x2 : rn (om_c1 M) ff_Mod_lost 0 = rn M ff_Mod_lost 0 := r1 _ _ (by decide) (by decide)
  obtain ⟨i2, y1, y2⟩ := JI.rcs ((rn M ff_Mod_all 0)) 0 (om_c1 M) i1 (by omega) (by omega)
  replace i2 : JI (om_c2 M) := i2
  have z1 : rn (om_c2 M) ff_Mod_received 0 ≤ 128 * c + 128 := by
    have : rn (om_c2 M) ff_Mod_received 0 ≤ _ := y1
    omega
  have z2 : rn (om_c2 M) ff_Mod_lost 0 ≤ 128 * c + 128 := by
    have : rn (om_c2 M) ff_Mod_lost 0 ≤ _ := y2
    omega
  have n2 : (rn (om_c2 M) ff_Mod_all 0) = (rn M ff_Mod_all 0) := r2 _ _ (by decide) (by decide)
  have hG2 : ∀ u, rn (om_c2 M) ff_Mod_hungry u = rn M ff_Mod_hungry u := fun u => r2 _ _ (by decide) (by decide)
  obtain ⟨p3, i3⟩ := JI.le (only := sfav (om_c2 M)) ((rn M ff_Mod_all 0)) 0 (om_c2 M) i2 (by omega) (fun u _ hu => by rw [hG2]; have := C2 u (by omega); omega)
  replace i3 : JI (om_c3 M) := i3
  have n3 : (rn (om_c3 M) ff_Mod_all 0) = (rn M ff_Mod_all 0) := r3 _ _ (by decide) (by decide)
  have i3w := i3.w0
  have n3w : (rn (om_w0 (om_c3 M)) ff_Mod_all 0) = (rn M ff_Mod_all 0) := by
    have : (rn (om_w0 (om_c3 M)) ff_Mod_all 0) = (rn (om_c3 M) ff_Mod_all 0) := by unfold rn; rw [w0_o (by decide)]
    omega
  have f3w : (rn (om_w0 (om_c3 M)) ff_Mod_flits 0) = (rn (om_c3 M) ff_Mod_flits 0) := by unfold rn; rw [w0_o (by decide)]
  obtain ⟨p4, i4, g4, y4⟩ := gvs_ok ((rn M ff_Mod_all 0)) 0 (om_w0 (om_c3 M)) i3w (by omega) (fun f hf _ => w0_way (by rw [f3w] at hf; exact hf)) (fun u hu => by omega)
  replace i4 : JI (om_c4 M) := i4
  replace y4 : WY (om_w0 (om_c3 M)) (om_c4 M) := y4
  have w4 : ∀ g i, g ≠ ff_Mod_way → om_c4 M g i = om_c3 M g i := fun g i hg => by rw [y4 g i hg, w0_o hg]
  have r4 : ∀ g i, g ≠ ff_Mod_way → rn (om_c4 M) g i = rn (om_c3 M) g i := fun g i hg => by unfold rn; rw [w4 g i hg]
  have n4 : (rn (om_c4 M) ff_Mod_all 0) = (rn M ff_Mod_all 0) := by rw [r4 _ _ (by decide), n3]
  have hdf : rn (om_c4 M) ff_Mod_deflected 0 = rn M ff_Mod_deflected 0 := by rw [r4 _ _ (by decide), r3 _ _ (by decide) (by decide)]
  have hs4 : sdf (om_c4 M) ((rn (om_c4 M) ff_Mod_flits 0)) ≤ (rn (om_c4 M) ff_Mod_flits 0) := sp_cnt_le _ _
  have hf4 := i4.1.ri.fNl
  have i5 : JI (om_c5 M) := ⟨⟨i4.1.ri.up (b := 10000000) rfl (by omega) (by decide) (by decide), i4.1.net, i4.1.j2, i4.1.j3, i4.1.j4, i4.1.j5, i4.1.j6, i4.1.j7, i4.1.j8, i4.1.j8u, i4.1.j9, i4.1.j9u, i4.1.j10, i4.1.j10u, i4.1.j11, i4.1.j11u, i4.1.j13, i4.1.j14⟩, i4.2⟩
  have hN5 : JN (om_c5 M) := by
    have q : ∀ g i, g ≠ ff_Mod_way → g ≠ ff_Mod_deflected → ((g < 778 ∧ g ≠ 774) ∨ (815 ≤ g ∧ g < 817)) → g ≠ 768 → om_c5 M g i = M g i := by
      intro g i a b cc d
      unfold om_c5
      rw [fx_up_ne (fun q => b q.1), w4 g i a, c3_o d cc]
    exact hN.to (fun i => q _ i (by decide) (by decide) (by decide) (by decide)) (fun i => q _ i (by decide) (by decide) (by decide) (by decide)) (fun i => q _ i (by decide) (by decide) (by decide) (by decide)) (fun i => q _ i (by decide) (by decide) (by decide) (by decide)) (fun i => q _ i (by decide) (by decide) (by decide) (by decide))
  have g5 : ∀ u, u < (rn (om_c5 M) ff_Mod_all 0) → WG (om_c5 M) u := fun u hu => g4 u (by have : (rn (om_c5 M) ff_Mod_all 0) = (rn (om_c4 M) ff_Mod_all 0) := rfl; omega)
  have wE5 : ∀ v, rn (om_c5 M) ff_Mod_went v = rn M ff_Mod_went v := fun v => by
    have : rn (om_c5 M) ff_Mod_went v = rn (om_c4 M) ff_Mod_went v := rfl
    rw [this, r4 _ _ (by decide), r3 _ _ (by decide) (by decide)]
  have f5 : (rn (om_c5 M) ff_Mod_flits 0) = (rn (om_c4 M) ff_Mod_flits 0) := rfl
  obtain ⟨i6, -, m6⟩ := i5.move hN5 g5 (fun v hv => by have := C3 v hv; rw [wE5]; omega)
  replace i6 : JI (om_c6 M) := i6
  have o6 : ∀ g i, g ≠ ff_Mod_went → g ≠ ff_Mod_at → g ≠ ff_Mod_line → om_c6 M g i = om_c5 M g i := fun g i a b cc => mv_o a b cc _ _ _
  have i7 : JI (om_cy M) := ⟨⟨i6.1.ri.up (b := 1000000) rfl (by omega) (by decide) (by decide), i6.1.net, i6.1.j2, i6.1.j3, i6.1.j4, i6.1.j5, i6.1.j6, i6.1.j7, i6.1.j8, i6.1.j8u, i6.1.j9, i6.1.j9u, i6.1.j10, i6.1.j10u, i6.1.j11, i6.1.j11u, i6.1.j13, i6.1.j14⟩, i6.2⟩
  have o7 : ∀ g i, g ≠ ff_Mod_cycle → g ≠ ff_Mod_went → g ≠ ff_Mod_at → g ≠ ff_Mod_line → om_cy M g i = om_c5 M g i := fun g i d a b cc => by
    unfold om_cy
    rw [fx_up_ne (fun q => d q.1), o6 g i a b cc]
  have hN7 : JN (om_cy M) := hN5.to (fun i => o7 _ i (by decide) (by decide) (by decide) (by decide)) (fun i => o7 _ i (by decide) (by decide) (by decide) (by decide)) (fun i => o7 _ i (by decide) (by decide) (by decide) (by decide)) (fun i => o7 _ i (by decide) (by decide) (by decide) (by decide)) (fun i => o7 _ i (by decide) (by decide) (by decide) (by decide))
  refine ⟨p1, i1, i2, p3, i3, i3w, p4, i4, fun u hu => g4 u (by omega), y4, i5, i6, i7, hN7, ?_, fun v hv => ?_, fun v hv => ?_, ?_, ?_, ?_⟩
  · unfold om_cy
    rw [rn_same (by omega)]
    omega
  · have e : rn (om_cy M) ff_Mod_hungry v = rn (om_c3 M) ff_Mod_hungry v := by
      have e1 : rn (om_cy M) ff_Mod_hungry v = rn (om_c5 M) ff_Mod_hungry v := by unfold rn; rw [o7 _ _ (by decide) (by decide) (by decide) (by decide)]
      have e2 : rn (om_c5 M) ff_Mod_hungry v = rn (om_c4 M) ff_Mod_hungry v := rfl
      rw [e1, e2, r4 _ _ (by decide)]
    rw [e]
    exact le_hG (c := c) (by omega) ((rn M ff_Mod_all 0)) 0 (om_c2 M) (fun u hu => Or.inl (by rw [hG2]; exact C2 u hu)) (by omega) v hv
  · have e : rn (om_cy M) ff_Mod_went v = rn (om_c6 M) ff_Mod_went v := rfl
    have m := m6 v hv
    have s : sfa (om_c5 M) v ≤ (rn (om_c5 M) ff_Mod_flits 0) := sp_cnt_le _ _
    have := C3 v hv
    rw [wE5] at m
    rw [e]
    have e6 : rn (om_c6 M) ff_Mod_went v = rn (om_mv ((rn (om_c5 M) ff_Mod_flits 0)) 0 (om_c5 M)) ff_Mod_went v := rfl
    omega
  · have e1 : rn (om_cy M) ff_Mod_deflected 0 = rn (om_c5 M) ff_Mod_deflected 0 := by unfold rn; rw [o7 _ _ (by decide) (by decide) (by decide) (by decide)]
    have e2 : rn (om_c5 M) ff_Mod_deflected 0 = rn (om_c4 M) ff_Mod_deflected 0 + sdf (om_c4 M) ((rn (om_c4 M) ff_Mod_flits 0)) := rn_same (by omega)
    omega
  · have e1 : rn (om_cy M) ff_Mod_received 0 = rn (om_c5 M) ff_Mod_received 0 := by unfold rn; rw [o7 _ _ (by decide) (by decide) (by decide) (by decide)]
    have e2 : rn (om_c5 M) ff_Mod_received 0 = rn (om_c4 M) ff_Mod_received 0 := rfl
    have e3 : rn (om_c4 M) ff_Mod_received 0 = rn (om_c3 M) ff_Mod_received 0 := r4 _ _ (by decide)
    have e4 : rn (om_c3 M) ff_Mod_received 0 = rn (om_c2 M) ff_Mod_received 0 := by unfold rn om_c3; rw [le_o (by decide)]
    omega
  · have e1 : rn (om_cy M) ff_Mod_lost 0 = rn (om_c5 M) ff_Mod_lost 0 := by unfold rn; rw [o7 _ _ (by decide) (by decide) (by decide) (by decide)]
    have e2 : rn (om_c5 M) ff_Mod_lost 0 = rn (om_c4 M) ff_Mod_lost 0 := rfl
    have e3 : rn (om_c4 M) ff_Mod_lost 0 = rn (om_c3 M) ff_Mod_lost 0 := r4 _ _ (by decide)
    have e4 : rn (om_c3 M) ff_Mod_lost 0 = rn (om_c2 M) ff_Mod_lost 0 := by unfold rn om_c3; rw [le_o (by decide)]
    omega
end
