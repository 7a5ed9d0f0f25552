/-! THE INVARIANTS: flits move -/
theorem nb_back_b : (List.range 9).all (fun n => (List.range 64).all (fun v => (List.range 4).all (fun w => !(Nat.ble 2 n && Nat.blt v (n * n)) || (Nat.beq (nb n (nb n v w) (wb w)) v && !Nat.beq (nb n v w) v)))) = true := by decide +kernel
theorem nb_back_all {n v w : Nat} (hn : n < 9) (hv : v < 64) (hw : w < 4) (h2 : 2 ≤ n) (hvn : v < n * n) : nb n (nb n v w) (wb w) = v ∧ nb n v w ≠ v := by
  have h := List.all_eq_true.mp (List.all_eq_true.mp (List.all_eq_true.mp nb_back_b n (List.mem_range.mpr hn)) v (List.mem_range.mpr hv)) w (List.mem_range.mpr hw)
  have a1 : Nat.ble 2 n = true := Nat.ble_eq.mpr h2
  have a2 : Nat.blt v (n * n) = true := by rw [Nat.blt_eq]; exact hvn
  rw [a1, a2] at h
  simp only [Bool.and_true, Bool.not_true, Bool.false_or, Bool.and_eq_true, Bool.not_eq_true'] at h
  exact ⟨Nat.eq_of_beq_eq_true h.1, fun q => by rw [q] at h; have := Nat.beq_refl v; rw [this] at h; cases h.2⟩
theorem rn_eq {M M' : rf_M} {g i : Nat} (h : M' g i = M g i) : rn M' g i = rn M g i := congrArg Int32.toNatClampNeg h
theorem rz_eq {M M' : rf_M} {g i : Nat} (h : M' g i = M g i) : rz M' g i = rz M g i := by
  unfold rz
  rw [rn_eq h]
theorem wb_wb : ∀ w, w < 4 → wb (wb w) = w := by decide
theorem nb_back {n v w : Nat} (hn : n < 9) (h2 : 2 ≤ n) (hv : v < n * n) (hw : w < 4) : nb n (nb n v w) (wb w) = v := by
  have : n * n ≤ 8 * 8 := Nat.mul_le_mul (by omega) (by omega)
  exact (nb_back_all hn (by omega) hw h2 hv).1
theorem nb_ne {n v w : Nat} (hn : n < 9) (h2 : 2 ≤ n) (hv : v < n * n) (hw : w < 4) : nb n v w ≠ v := by
  have : n * n ≤ 8 * 8 := Nat.mul_le_mul (by omega) (by omega)
  exact (nb_back_all hn (by omega) hw h2 hv).2
theorem nb_inj {n u v w : Nat} (hn : n < 9) (h2 : 2 ≤ n) (hu : u < n * n) (hv : v < n * n) (hw : w < 4) (h : nb n u w = nb n v w) : u = v := by
  rw [← nb_back hn h2 hu hw, h, nb_back hn h2 hv hw]
section
variable {M : rf_M}
/-- what holds of the links -/
def CS (cl : Nat → Bool) (n N : Nat) : Prop := ∀ v w, v < N → w < 4 → cl (4 * v + w) = cl (4 * nb n v w + wb w)
def JN (M : rf_M) : Prop := CS (rz M ff_Mod_closed) (rn M ff_Mod_n 0) ((rn M ff_Mod_all 0)) ∧ (∀ a, a < (rn M ff_Mod_all 0) → DS (rz M ff_Mod_closed) (rn M ff_Mod_n 0) ((rn M ff_Mod_all 0)) M a) ∧ (∀ a b, a < (rn M ff_Mod_all 0) → b < (rn M ff_Mod_all 0) → dr M a b < 1000) ∧ (∀ a b, a < (rn M ff_Mod_all 0) → b < (rn M ff_Mod_all 0) → dr M a b ≤ rn M ff_Mod_farthest 0) ∧ (rn M ff_Mod_farthest 0 = 0 ∨ ∃ a b, a < (rn M ff_Mod_all 0) ∧ b < (rn M ff_Mod_all 0) ∧ dr M a b = rn M ff_Mod_farthest 0)
theorem JN.to {M' : rf_M} (h : JN M) (h1 : ∀ i, M' ff_Mod_closed i = M ff_Mod_closed i) (h2 : ∀ i, M' ff_Mod_n i = M ff_Mod_n i) (h3 : ∀ i, M' ff_Mod_all i = M ff_Mod_all i) (h4 : ∀ i, M' ff_Mod_away i = M ff_Mod_away i) (h5 : ∀ i, M' ff_Mod_farthest i = M ff_Mod_farthest i) : JN M' := by
  have e1 : rz M' ff_Mod_closed = rz M ff_Mod_closed := by funext i; unfold rz rn; rw [h1]
  have e2 : rn M' ff_Mod_n 0 = rn M ff_Mod_n 0 := by unfold rn; rw [h2]
  have e3 : (rn M' ff_Mod_all 0) = (rn M ff_Mod_all 0) := by unfold rn; rw [h3]
  have e4 : dr M' = dr M := by funext a b; unfold dr rn; rw [h4]
  have e5 : rn M' ff_Mod_farthest 0 = rn M ff_Mod_farthest 0 := by unfold rn; rw [h5]
  unfold JN DS at h ⊢
  rw [e1, e2, e3, e4, e5]
  exact h
/-- one flit moves -/
def om_mv1 (M : rf_M) (f : Nat) : rf_M := fx_up (fx_up (fx_up M ff_Mod_went (rn M ff_Mod_at f) (nI (rn M ff_Mod_went (rn M ff_Mod_at f) + 1))) ff_Mod_at f (nI (nb (rn M ff_Mod_n 0) (rn M ff_Mod_at f) (rn M ff_Mod_way f)))) ff_Mod_line f (M ff_Mod_way f)
def om_mv : Nat → Nat → rf_M → rf_M
  | 0, _, M => M
  | d + 1, f, M => om_mv d (f + 1) (om_mv1 M f)
theorem mv1_at {f i : Nat} (hb : nb (rn M ff_Mod_n 0) (rn M ff_Mod_at f) (rn M ff_Mod_way f) < 64) : rn (om_mv1 M f) ff_Mod_at i = if i = f then nb (rn M ff_Mod_n 0) (rn M ff_Mod_at f) (rn M ff_Mod_way f) else rn M ff_Mod_at i := by
  have e1 : rn (om_mv1 M f) ff_Mod_at i = rn (fx_up M ff_Mod_at f (nI (nb (rn M ff_Mod_n 0) (rn M ff_Mod_at f) (rn M ff_Mod_way f)))) ff_Mod_at i := rfl
  rw [e1]
  by_cases e : i = f
  · rw [if_pos e, e, rn_same (by omega)]
  · rw [if_neg e, rn_ne (fun w => e w.2)]
theorem mv1_line {f i : Nat} : om_mv1 M f ff_Mod_line i = if i = f then M ff_Mod_way f else M ff_Mod_line i := by
  unfold om_mv1
  by_cases e : i = f
  · rw [if_pos e, e, fx_up_same]
  · rw [if_neg e, fx_up_ne (fun w => e w.2), fx_up_ne (fun q => absurd q.1 (by decide)), fx_up_ne (fun q => absurd q.1 (by decide))]
theorem mv1_went {f v : Nat} (hb : rn M ff_Mod_went (rn M ff_Mod_at f) + 1 < 10000000) : rn (om_mv1 M f) ff_Mod_went v = if v = rn M ff_Mod_at f then rn M ff_Mod_went (rn M ff_Mod_at f) + 1 else rn M ff_Mod_went v := by
  have e1 : rn (om_mv1 M f) ff_Mod_went v = rn (fx_up M ff_Mod_went (rn M ff_Mod_at f) (nI (rn M ff_Mod_went (rn M ff_Mod_at f) + 1))) ff_Mod_went v := rfl
  rw [e1]
  by_cases e : v = rn M ff_Mod_at f
  · rw [if_pos e, e, rn_same (by omega)]
  · rw [if_neg e, rn_ne (fun w => e w.2)]
theorem mv1_o {f g i : Nat} (h1 : g ≠ ff_Mod_went) (h2 : g ≠ ff_Mod_at) (h3 : g ≠ ff_Mod_line) : om_mv1 M f g i = M g i := by
  unfold om_mv1
  rw [fx_up_ne (fun q => h3 q.1), fx_up_ne (fun q => h2 q.1), fx_up_ne (fun q => h1 q.1)]
theorem mv_o {g i : Nat} (h1 : g ≠ ff_Mod_went) (h2 : g ≠ ff_Mod_at) (h3 : g ≠ ff_Mod_line) : ∀ (d f : Nat) (M : rf_M), om_mv d f M g i = M g i
  | 0, _, _ => rfl
  | d + 1, f, M => (mv_o h1 h2 h3 d (f + 1) (om_mv1 M f)).trans (mv1_o h1 h2 h3)
/-- what must be known of the ways -/
def WW (M : rf_M) : Prop := ∀ f, f < (rn M ff_Mod_flits 0) → ∃ w, w < 4 ∧ M ff_Mod_way f = nI w
theorem mv_ok (M0 : rf_M) : ∀ (d f : Nat) (M : rf_M), RI M → 2 ≤ rn M ff_Mod_n 0 → (rn M ff_Mod_all 0) = rn M ff_Mod_n 0 * rn M ff_Mod_n 0 → f + d = (rn M ff_Mod_flits 0) → WW M → (∀ i, i < (rn M ff_Mod_flits 0) → rn M ff_Mod_at i < (rn M ff_Mod_all 0)) → (∀ i, f ≤ i → rn M ff_Mod_at i = rn M0 ff_Mod_at i) → (∀ v, v < 64 → rn M ff_Mod_went v + d < 10000000) → RI (om_mv d f M) ∧ (∀ i, rn (om_mv d f M) ff_Mod_at i = if f ≤ i ∧ i < f + d then nb (rn M ff_Mod_n 0) (rn M ff_Mod_at i) (rn M ff_Mod_way i) else rn M ff_Mod_at i) ∧ (∀ i, om_mv d f M ff_Mod_line i = if f ≤ i ∧ i < f + d then M ff_Mod_way i else M ff_Mod_line i) ∧ ∀ v, v < 64 → rn (om_mv d f M) ff_Mod_went v + sp_cnt (fun i => rn M0 ff_Mod_at i == v) f = rn M ff_Mod_went v + sp_cnt (fun i => rn M0 ff_Mod_at i == v) (f + d)
  | 0, f, M, hI, _, _, _, _, _, _, _ => ⟨hI, fun i => (by rw [if_neg (by omega)]; rfl), fun i => (by rw [if_neg (by omega)]; rfl), fun v _ => rfl⟩
  | d + 1, f, M, hI, hn, hN, hd, hW, hat, h0, hw => by
    have h257 := hI.fNl
    have hn9 := RN.n8 hI
    have h64 : (rn M ff_Mod_all 0) ≤ 64 := by rw [hN]; exact RN.sq hI
    obtain ⟨w, w1, w2⟩ := hW f (by omega)
    have w3 : rn M ff_Mod_way f = w := rn_of w2 (by omega)
    have hbv : nb (rn M ff_Mod_n 0) (rn M ff_Mod_at f) w < (rn M ff_Mod_all 0) := by rw [hN]; exact nb_lt (by omega) (by rw [← hN]; exact hat f (by omega))
    have hatf := hat f (by omega)
    have hbw := hw (rn M ff_Mod_at f) (by omega)
    have hI1 : RI (om_mv1 M f) := by
      unfold om_mv1
      rw [w2, w3]
      exact ((hI.up (b := 10000000) rfl (by omega) (by decide) (by decide)).up (b := 64) rfl (by omega) (by decide) (by decide)).up (b := 4) rfl w1 (by decide) (by decide)
    have a1 := fun i => mv1_at (M := M) (f := f) (i := i) (by rw [w3]; omega)
    have a2 := fun i => mv1_line (M := M) (f := f) (i := i)
    have a3 := fun v => mv1_went (M := M) (f := f) (v := v) (by omega)
    have eN : (rn (om_mv1 M f) ff_Mod_all 0) = (rn M ff_Mod_all 0) := rfl
    have ef : (rn (om_mv1 M f) ff_Mod_flits 0) = (rn M ff_Mod_flits 0) := rfl
    obtain ⟨b1, b2, b3, b4⟩ := mv_ok M0 d (f + 1) (om_mv1 M f) hI1 hn hN (by rw [ef]; omega) hW (fun i hi => by
      rw [a1, eN]
      by_cases c : i = f
      · rw [if_pos c, w3]; exact hbv
      · rw [if_neg c]; exact hat i hi) (fun i hi => by rw [a1, if_neg (by omega)]; exact h0 i (by omega)) (fun v hv => by
      have := hw v hv
      rw [a3]
      split
      · rename_i e; rw [e] at this; omega
      · omega)
    refine ⟨b1, fun i => ?_, fun i => ?_, fun v hv => ?_⟩
    · show rn (om_mv d (f + 1) (om_mv1 M f)) ff_Mod_at i = _
      rw [b2 i, a1]
      by_cases c : i = f
      · rw [if_neg (by omega), if_pos c, if_pos (by omega), c]
      · rw [if_neg c]
        by_cases e : f + 1 ≤ i ∧ i < f + 1 + d
        · rw [if_pos e, if_pos (by omega)]; rfl
        · rw [if_neg e, if_neg (by omega)]
    · show om_mv d (f + 1) (om_mv1 M f) ff_Mod_line i = _
      rw [b3 i, a2]
      by_cases c : i = f
      · rw [if_neg (by omega), if_pos c, if_pos (by omega), c]
      · rw [if_neg c]
        by_cases e : f + 1 ≤ i ∧ i < f + 1 + d
        · rw [if_pos e, if_pos (by omega)]; rfl
        · rw [if_neg e, if_neg (by omega)]
    · have b := b4 v hv
      rw [a3] at b
      have e : sp_cnt (fun i => rn M0 ff_Mod_at i == v) (f + 1) = sp_cnt (fun i => rn M0 ff_Mod_at i == v) f + (bif rn M0 ff_Mod_at f == v then 1 else 0) := rfl
      rw [e] at b
      show rn (om_mv d (f + 1) (om_mv1 M f)) ff_Mod_went v + _ = _
      rw [show f + 1 + d = f + (d + 1) by omega] at b
      have h0f := h0 f (Nat.le_refl _)
      by_cases c : v = rn M ff_Mod_at f
      · rw [if_pos c, ← c] at b
        rw [← h0f, ← c] at b
        rw [show (v == v) = true by simp, cond_true] at b
        omega
      · rw [if_neg c] at b
        have e2 : (rn M0 ff_Mod_at f == v) = false := by rw [← h0f, beq_eq_false_iff_ne]; exact fun q => c q.symm
        rw [e2, cond_false] at b
        omega
theorem JI.move {M : rf_M} (h : JI M) (hN : JN M) (hg : ∀ u, u < (rn M ff_Mod_all 0) → WG M u) (hw : ∀ v, v < 64 → rn M ff_Mod_went v + (rn M ff_Mod_flits 0) < 10000000) : JI (om_mv ((rn M ff_Mod_flits 0)) 0 M) ∧ (∀ f, f < (rn M ff_Mod_flits 0) → rn (om_mv ((rn M ff_Mod_flits 0)) 0 M) ff_Mod_at f = nb (rn M ff_Mod_n 0) (rn M ff_Mod_at f) (rn M ff_Mod_way f) ∧ om_mv ((rn M ff_Mod_flits 0)) 0 M ff_Mod_line f = M ff_Mod_way f) ∧ ∀ v, v < 64 → rn (om_mv ((rn M ff_Mod_flits 0)) 0 M) ff_Mod_went v = rn M ff_Mod_went v + sfa M v := by
  have hn9 := RN.n8 h.1.ri
  have hn2 := h.1.net.1
  have hNN := h.1.net.2.1
  have h64 := h.1.all64
  have hat := h.1.net.2.2
  have hWW : WW M := fun f hf => by
    obtain ⟨w, w1, w2, -⟩ := (hg _ (hat f hf)).1 f hf rfl
    exact ⟨w, w1, w2⟩
  obtain ⟨b1, b2, b3, b4⟩ := mv_ok M ((rn M ff_Mod_flits 0)) 0 M h.1.ri hn2 hNN (by omega) hWW hat (fun _ _ => rfl) hw
  rw [Nat.zero_add] at b2 b3 b4
  have eo : ∀ g i, g ≠ ff_Mod_went → g ≠ ff_Mod_at → g ≠ ff_Mod_line → om_mv ((rn M ff_Mod_flits 0)) 0 M g i = M g i := fun g i h1 h2 h3 => mv_o h1 h2 h3 _ _ _
  have er : ∀ g i, g ≠ ff_Mod_went → g ≠ ff_Mod_at → g ≠ ff_Mod_line → rn (om_mv ((rn M ff_Mod_flits 0)) 0 M) g i = rn M g i := fun g i h1 h2 h3 => rn_eq (eo g i h1 h2 h3)
  have ez : ∀ g i, g ≠ ff_Mod_went → g ≠ ff_Mod_at → g ≠ ff_Mod_line → rz (om_mv ((rn M ff_Mod_flits 0)) 0 M) g i = rz M g i := fun g i h1 h2 h3 => rz_eq (eo g i h1 h2 h3)
  have at' : ∀ f, f < (rn M ff_Mod_flits 0) → rn (om_mv ((rn M ff_Mod_flits 0)) 0 M) ff_Mod_at f = nb (rn M ff_Mod_n 0) (rn M ff_Mod_at f) (rn M ff_Mod_way f) := fun f hf => by rw [b2, if_pos (by omega)]
  have ln' : ∀ f, f < (rn M ff_Mod_flits 0) → om_mv ((rn M ff_Mod_flits 0)) 0 M ff_Mod_line f = M ff_Mod_way f := fun f hf => by rw [b3, if_pos (by omega)]
  have sp' : ∀ f, spk (om_mv ((rn M ff_Mod_flits 0)) 0 M) f = spk M f := fun f => by unfold spk; rw [er _ _ (by decide) (by decide) (by decide), er _ _ (by decide) (by decide) (by decide)]
  refine ⟨?_, fun f hf => ⟨at' f hf, ln' f hf⟩, fun v hv => ?_⟩
  · generalize hM' : om_mv ((rn M ff_Mod_flits 0)) 0 M = M' at *
    have eN : (rn M' ff_Mod_flits 0) = (rn M ff_Mod_flits 0) := er _ _ (by decide) (by decide) (by decide)
    have eA : (rn M' ff_Mod_all 0) = (rn M ff_Mod_all 0) := er _ _ (by decide) (by decide) (by decide)
    have e1 : ∀ p, rn M' ff_Mod_lengths p = rn M ff_Mod_lengths p := fun p => er _ _ (by decide) (by decide) (by decide)
    have e2 : ∀ p, rn M' ff_Mod_goals p = rn M ff_Mod_goals p := fun p => er _ _ (by decide) (by decide) (by decide)
    have e3 : ∀ p, rn M' ff_Mod_slotTry p = rn M ff_Mod_slotTry p := fun p => er _ _ (by decide) (by decide) (by decide)
    have e4 : ∀ p, rn M' ff_Mod_entered p = rn M ff_Mod_entered p := fun p => er _ _ (by decide) (by decide) (by decide)
    have e5 : ∀ p, rz M' ff_Mod_asked p = rz M ff_Mod_asked p := fun p => ez _ _ (by decide) (by decide) (by decide)
    have e6 : ∀ f, rn M' ff_Mod_number f = rn M ff_Mod_number f := fun p => er _ _ (by decide) (by decide) (by decide)
    have e7 : ∀ f, rn M' ff_Mod_tries f = rn M ff_Mod_tries f := fun p => er _ _ (by decide) (by decide) (by decide)
    have e8 : ∀ k, oz (M' ff_Mod_whose k) = oz (M ff_Mod_whose k) := fun k => by rw [eo _ _ (by decide) (by decide) (by decide)]
    have e9 : ∀ k, rn M' ff_Mod_whichTry k = rn M ff_Mod_whichTry k := fun p => er _ _ (by decide) (by decide) (by decide)
    have e10 : ∀ k, rn M' ff_Mod_has k = rn M ff_Mod_has k := fun p => er _ _ (by decide) (by decide) (by decide)
    have e11 : ∀ k, rn M' ff_Mod_rowSize k = rn M ff_Mod_rowSize k := fun p => er _ _ (by decide) (by decide) (by decide)
    have e12 : ∀ k, rn M' ff_Mod_row k = rn M ff_Mod_row k := fun p => er _ _ (by decide) (by decide) (by decide)
    have e13 : ∀ k, rn M' ff_Mod_noteSlot k = rn M ff_Mod_noteSlot k := fun p => er _ _ (by decide) (by decide) (by decide)
    have e14 : ∀ k, rz M' ff_Mod_noteDone k = rz M ff_Mod_noteDone k := fun p => ez _ _ (by decide) (by decide) (by decide)
    have e15 : ∀ k, rn M' ff_Mod_agains k = rn M ff_Mod_agains k := fun p => er _ _ (by decide) (by decide) (by decide)
    have e16 : ∀ k, rn M' ff_Mod_again k = rn M ff_Mod_again k := fun p => er _ _ (by decide) (by decide) (by decide)
    have e17 : ∀ k, rn M' ff_Mod_waits k = rn M ff_Mod_waits k := fun p => er _ _ (by decide) (by decide) (by decide)
    have e18 : ∀ k, rn M' ff_Mod_waitGoal k = rn M ff_Mod_waitGoal k := fun p => er _ _ (by decide) (by decide) (by decide)
    have e19 : ∀ k, rn M' ff_Mod_waitLength k = rn M ff_Mod_waitLength k := fun p => er _ _ (by decide) (by decide) (by decide)
    have e20 : ∀ k, rn M' ff_Mod_readySize k = rn M ff_Mod_readySize k := fun p => er _ _ (by decide) (by decide) (by decide)
    have e21 : (rn M' ff_Mod_notes 0) = (rn M ff_Mod_notes 0) := er _ _ (by decide) (by decide) (by decide)
    have e22 : ∀ k, suw M' k = suw M k := fun k => by unfold suw; rw [e1, e4]
    have e23 : ∀ i, rz M' ff_Mod_closed i = rz M ff_Mod_closed i := fun i => ez _ _ (by decide) (by decide) (by decide)
    have e24 : rn M' ff_Mod_n 0 = rn M ff_Mod_n 0 := er _ _ (by decide) (by decide) (by decide)
    have e25 : rn M' ff_Mod_mode 0 = rn M ff_Mod_mode 0 := er _ _ (by decide) (by decide) (by decide)
    have e26 : ∀ k, pfull M' k = pfull M k := fun k => by unfold pfull; simp only [e8, e10, e1]
    have atl : ∀ f, f < (rn M ff_Mod_flits 0) → rn M' ff_Mod_at f < (rn M ff_Mod_all 0) := fun f hf => by
      rw [at' f hf, hNN]
      exact nb_lt (by omega) (by rw [← hNN]; exact hat f hf)
    have wy : ∀ f, f < (rn M ff_Mod_flits 0) → ∃ w, w < 4 ∧ M ff_Mod_way f = nI w ∧ rn M ff_Mod_way f = w ∧ rn M' ff_Mod_line f = w ∧ rz M ff_Mod_closed (4 * rn M ff_Mod_at f + w) = false := by
      intro f hf
      obtain ⟨w, w1, w2, w3⟩ := (hg _ (hat f hf)).1 f hf rfl
      refine ⟨w, w1, w2, rn_of w2 (by omega), rn_of ((ln' f hf).trans w2) (by omega), w3⟩
    refine ⟨⟨b1, ⟨by rw [e24]; exact hn2, by rw [eA, e24]; exact hNN, fun f hf => by rw [eA]; rw [eN] at hf; exact atl f hf⟩, fun f hf => ?_, fun f g hf hg2 a b => ?_, fun f g hf hg2 a b => ?_, fun v hv => ?_, fun p hp => ?_, fun p q hp hq => ?_, fun k p hk hp => ?_, fun k j p hk hj a b => ?_, fun v i hv hi => ?_, fun v i j hv hi hj => ?_, fun k hk => ?_, fun k j hk hj => ?_, fun v i hv hi => ?_, fun v i j hv hi hj => ?_, fun v i hv hi => ?_, fun hm i hi => ?_⟩, fun v hv => ?_⟩
    · rw [eN] at hf
      rw [sp', e1, e3, e4, e6, e7]
      exact h.1.j2 f hf
    · rw [eN] at hf hg2
      rw [sp', sp'] at a
      rw [e6, e6] at b
      exact h.1.j3 f g hf hg2 a b
    · rw [eN] at hf hg2
      obtain ⟨w, w1, w2, w3, w4, w5⟩ := wy f hf
      obtain ⟨x, x1, x2, x3, x4, x5⟩ := wy g hg2
      rw [w4, x4] at b
      subst b
      rw [at' f hf, at' g hg2, w3, x3] at a
      have e := nb_inj hn9 hn2 (by rw [← hNN]; exact hat f hf) (by rw [← hNN]; exact hat g hg2) w1 a
      exact (hg _ (hat f hf)).2 f g hf hg2 rfl e.symm (w2.trans x2.symm)
    · rw [eA] at hv
      rw [eN, show rz M' ff_Mod_closed = rz M ff_Mod_closed from funext e23, fx_ow_cnt]
      refine cnt_inj (φ := fun f => wb (rn M' ff_Mod_line f)) ((rn M ff_Mod_flits 0)) _ (fun f hf hp => ?_) (fun f g hf hg' hp hq e => ?_)
      · obtain ⟨w, w1, w2, w3, w4, w5⟩ := wy f hf
        have hp' : rn M' ff_Mod_at f = v := by simpa using hp
        try dsimp only
        rw [w4]
        refine ⟨wb_lt w1, ?_⟩
        rw [at' f hf, w3] at hp'
        have := hN.1 (rn M ff_Mod_at f) w (hat f hf) w1
        rw [w5, hp'] at this
        rw [← this]
        rfl
      · obtain ⟨w, w1, w2, w3, w4, w5⟩ := wy f hf
        obtain ⟨x, x1, x2, x3, x4, x5⟩ := wy g hg'
        have hp' : rn M' ff_Mod_at f = v := by simpa using hp
        have hq' : rn M' ff_Mod_at g = v := by simpa using hq
        try dsimp only at e
        rw [w4, x4] at e
        have ewx : w = x := by rw [← wb_wb w w1, e, wb_wb x x1]
        subst ewx
        rw [at' f hf, w3] at hp'
        rw [at' g hg', x3] at hq'
        have e := nb_inj hn9 hn2 (by rw [← hNN]; exact hat f hf) (by rw [← hNN]; exact hat g hg') w1 (hp'.trans hq'.symm)
        exact (hg _ (hat f hf)).2 f g hf hg' rfl e.symm (w2.trans x2.symm)
    · rw [e1, e3, e5, e4, e2, eA]
      exact h.1.j6 p hp
    · rw [e22, e22]
      exact h.1.j7 p q hp hq
    · rw [e8] at hp
      obtain ⟨q1, q2, q3, q4, q5, q6⟩ := h.1.j8 k p hk hp
      rw [e1, e2, e9, e5, e10, e3, e4]
      refine ⟨q1, q2, q3, q4, q5, fun f hf a b => ?_⟩
      rw [eN] at hf
      rw [sp'] at a
      rw [e7] at b
      rw [e6]
      exact q6 f hf a b
    · rw [e8] at a b
      exact h.1.j8u k j p hk hj a b
    · rw [eA] at hv
      rw [e11] at hi
      rw [e12, e1, e2, e5, e3]
      obtain ⟨q1, q2, q3, q4, q5⟩ := h.1.j9 v i hv hi
      exact ⟨q1, q2, q3, q4, fun k hk => by rw [e8]; exact q5 k hk⟩
    · rw [eA] at hv
      rw [e11] at hi hj
      rw [e12, e12]
      exact h.1.j9u v i j hv hi hj
    · have hk' : k < (rn M ff_Mod_notes 0) := by rw [← e21]; exact hk
      rw [e13, e14, e1, e4, e5, e3]
      obtain ⟨q1, q2, q3, q4⟩ := h.1.j10 k hk'
      refine ⟨q1, q2, fun hd => ?_, fun hd => ?_⟩
      · obtain ⟨r1, r2, r3, r4⟩ := q3 hd
        exact ⟨r1, fun f hf => by rw [eN] at hf; rw [sp']; exact r2 f hf, fun j hj => by rw [e8]; exact r3 j hj, r4⟩
      · obtain ⟨r1, r2, r3⟩ := q4 hd
        exact ⟨r1, r2, fun v i hv hi => by rw [eA] at hv; rw [e11] at hi; rw [e12]; exact r3 v i hv hi⟩
    · have hk' : k < (rn M ff_Mod_notes 0) := by rw [← e21]; exact hk
      have hj' : j < (rn M ff_Mod_notes 0) := by rw [← e21]; exact hj
      rw [e13, e13]
      exact h.1.j10u k j hk' hj'
    · rw [eA] at hv
      rw [e15] at hi
      rw [e16, e1, e3, e4]
      exact h.1.j11 v i hv hi
    · rw [eA] at hv
      rw [e15] at hi hj
      rw [e16, e16]
      exact h.1.j11u v i j hv hi hj
    · rw [eA] at hv ⊢
      rw [e17] at hi
      rw [e18, e19]
      exact h.1.j13 v i hv hi
    · rw [e25] at hm
      rw [e23]
      exact h.1.j14 hm i hi
    · rw [eA] at hv
      obtain ⟨q1, q2⟩ := h.2 v hv
      refine ⟨fun hy j h1 h2 h3 => ?_, fun hr j h1 h2 => ?_⟩
      · rw [e20] at hy
        rw [e26]
        exact q1 hy j h1 h2 h3
      · rw [e11] at hr
        rw [e8]
        exact q2 hr j h1 h2
  · have := b4 v hv
    have e : sp_cnt (fun i => rn M ff_Mod_at i == v) ((rn M ff_Mod_flits 0)) = sfa M v := rfl
    rw [e] at this
    have e0 : sp_cnt (fun i => rn M ff_Mod_at i == v) 0 = 0 := rfl
    omega
/-- all ways are forgotten -/
def om_w0 (M : rf_M) : rf_M := om_fl M [ff_Mod_way] ((rn M ff_Mod_flits 0)) fx_neg
theorem JI.fl0 (h : JI M) : ∀ j, JI (om_fl M [ff_Mod_way] j fx_neg)
  | 0 => by rw [om_fl_0]; exact h
  | j + 1 => by
    rw [← om_fl_1]
    exact (JI.fl0 h j).way (Or.inl rfl)
theorem JI.w0 (h : JI M) : JI (om_w0 M) := h.fl0 _
theorem w0_way {f : Nat} (hf : f < (rn M ff_Mod_flits 0)) : om_w0 M ff_Mod_way f = fx_neg := om_fl_in (by simp) hf
theorem w0_o {g i : Nat} (h : g ≠ ff_Mod_way) : om_w0 M g i = M g i := om_fl_ne (by simpa using h)
end
