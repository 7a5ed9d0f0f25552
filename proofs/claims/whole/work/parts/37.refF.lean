/-! THE REFERENCE: neighbours, wants, candidates -/
def nbx (n v w : Nat) : Nat := if w = 0 then (v % n + 1) % n else if w = 1 then (v % n + n - 1) % n else v % n
def nby (n v w : Nat) : Nat := if w = 2 then (v / n + 1) % n else if w = 3 then (v / n + n - 1) % n else v / n
/-- the node beside v on way w -/
def nb (n v w : Nat) : Nat := nby n v w * n + nbx n v w
theorem nbx_lt {n v w : Nat} (hn : 0 < n) : nbx n v w < n := by
  unfold nbx
  split
  · exact Nat.mod_lt _ hn
  · split
    · exact Nat.mod_lt _ hn
    · exact Nat.mod_lt _ hn
theorem nby_lt {n v w : Nat} (hn : 0 < n) (hv : v < n * n) : nby n v w < n := by
  unfold nby
  split
  · exact Nat.mod_lt _ hn
  · split
    · exact Nat.mod_lt _ hn
    · exact Nat.div_lt_of_lt_mul hv
theorem nb_lt {n v w : Nat} (hn : 0 < n) (hv : v < n * n) : nb n v w < n * n := by
  have h1 := nbx_lt (v := v) (w := w) hn
  have h2 := nby_lt (w := w) hn hv
  have h3 : (nby n v w + 1) * n ≤ n * n := Nat.mul_le_mul_right n h2
  rw [Nat.add_mul] at h3
  unfold nb
  omega
section
variable {s : fx_S} {Q : fx_Q} {o : Nat} {A : Nat → Nat} {M : rf_M}
theorem r_neighbour {n v w : Nat} (hR : rf_ok s o A M) (hn : M ff_Mod_n 0 = nI n) (h0 : 0 < n) (h8 : n < 9) (hv : v < 64) (hw : w < 4) (hvn : v < n * n) (k : Q (some (vI (nI (nb n v w)))) s) : fx_M mm_Mod_neighbour [vR 22 (some o), vI (nI v), vI (nI w)] s Q := by
  have hdv : v / n < 64 := Nat.lt_of_le_of_lt (Nat.div_le_self v n) hv
  have hmv : v % n < n := Nat.mod_lt v h0
  refine xx_i ml37 ?_
  have h84 : ∀ x y, x = nbx n v w → y = nby n v w → fx_W 37 84 [some (vR 22 (some o)), some (vI (nI v)), some (vI (nI w)), some (vI (nI x)), some (vI (nI y))] [] s Q := by
    intro x y hx hy
    refine xx_j ee37_84 rfl trivial ?_
    refine xx_j ee37_86 rfl trivial ?_
    refine rr_fi hR ee37_87 rfl rfl rfl ?_
    refine xx_t hn ?_
    first | refine xx_mul ee37_90 ?_ | refine xx_j ee37_90 rfl trivial ?_
    refine xx_j ee37_91 rfl trivial ?_
    first | refine xx_add ee37_92 ?_ | refine xx_j ee37_92 rfl trivial ?_
    refine xx_ri ee37_93 rt37 ?_
    rw [hx, hy]
    exact k
  have h63 : ∀ x y, x = nbx n v w → (w ≠ 3 → y = nby n v w) → (w = 3 → y = v / n) → fx_W 37 63 [some (vR 22 (some o)), some (vI (nI v)), some (vI (nI w)), some (vI (nI x)), some (vI (nI y))] [] s Q := by
    intro x y hx hy1 hy2
    refine xx_j ee37_63 rfl trivial ?_
    refine xx_k ee37_64 3 rfl ?_
    refine xx_ne ee37_65 (by omega) (by omega) (fun h => h84 x y hx (hy1 h)) (fun h => ?_)
    have hy := hy2 h
    refine xx_j ee37_68 rfl trivial ?_
    refine xx_j ee37_70 rfl trivial ?_
    refine rr_fi hR ee37_71 rfl rfl rfl ?_
    refine xx_t hn ?_
    first | refine xx_add ee37_74 ?_ | refine xx_j ee37_74 rfl trivial ?_
    refine xx_k ee37_75 1 rfl ?_
    refine xx_sub ee37_76 (by omega) ?_
    refine xx_j ee37_77 rfl trivial ?_
    refine rr_fi hR ee37_78 rfl rfl rfl ?_
    refine xx_t hn ?_
    refine xx_rem ee37_81 (by omega) h0 (by omega) ?_
    refine xx_j ee37_82 rfl trivial ?_
    refine h84 x _ hx ?_
    rw [hy]
    simp [nby, h]
  have h47 : ∀ x, x = nbx n v w → fx_W 37 47 [some (vR 22 (some o)), some (vI (nI v)), some (vI (nI w)), some (vI (nI x)), some (vI (nI (v / n)))] [] s Q := by
    intro x hx
    refine xx_j ee37_47 rfl trivial ?_
    refine xx_k ee37_48 2 rfl ?_
    refine xx_ne ee37_49 (by omega) (by omega) (fun h => h63 x _ hx (fun h3 => by simp [nby, h, h3]) (fun _ => rfl)) (fun h => ?_)
    refine xx_j ee37_52 rfl trivial ?_
    refine xx_k ee37_54 1 rfl ?_
    first | refine xx_add ee37_55 ?_ | refine xx_j ee37_55 rfl trivial ?_
    refine xx_j ee37_56 rfl trivial ?_
    refine rr_fi hR ee37_57 rfl rfl rfl ?_
    refine xx_t hn ?_
    refine xx_rem ee37_60 (by omega) h0 (by omega) ?_
    refine xx_j ee37_61 rfl trivial ?_
    exact h63 x _ hx (fun _ => by simp [nby, h]) (fun h3 => by omega)
  have h28 : ∀ x, (w ≠ 1 → x = nbx n v w) → (w = 1 → x = v % n) → fx_W 37 28 [some (vR 22 (some o)), some (vI (nI v)), some (vI (nI w)), some (vI (nI x)), some (vI (nI (v / n)))] [] s Q := by
    intro x hx1 hx2
    refine xx_j ee37_28 rfl trivial ?_
    refine xx_k ee37_29 1 rfl ?_
    refine xx_ne ee37_30 (by omega) (by omega) (fun h => h47 x (hx1 h)) (fun h => ?_)
    have hx := hx2 h
    refine xx_j ee37_33 rfl trivial ?_
    refine xx_j ee37_34 rfl trivial ?_
    refine rr_fi hR ee37_35 rfl rfl rfl ?_
    refine xx_t hn ?_
    first | refine xx_add ee37_38 ?_ | refine xx_j ee37_38 rfl trivial ?_
    refine xx_k ee37_39 1 rfl ?_
    refine xx_sub ee37_40 (by omega) ?_
    refine xx_j ee37_41 rfl trivial ?_
    refine rr_fi hR ee37_42 rfl rfl rfl ?_
    refine xx_t hn ?_
    refine xx_rem ee37_45 (by omega) h0 (by omega) ?_
    refine xx_j ee37_46 rfl trivial ?_
    refine h47 _ ?_
    rw [hx]
    simp [nbx, h]
  refine xx_j ee37_0 rfl trivial ?_
  refine xx_j ee37_1 rfl trivial ?_
  refine rr_fi hR ee37_2 rfl rfl rfl ?_
  refine xx_t hn ?_
  refine xx_rem ee37_5 (by omega) h0 (by omega) ?_
  refine xx_j ee37_6 rfl trivial ?_
  refine xx_j ee37_7 rfl trivial ?_
  refine xx_j ee37_8 rfl trivial ?_
  refine rr_fi hR ee37_9 rfl rfl rfl ?_
  refine xx_t hn ?_
  refine xx_div ee37_12 (by omega) h0 (by omega) ?_
  refine xx_j ee37_13 rfl trivial ?_
  refine xx_j ee37_15 rfl trivial ?_
  refine xx_kne ee37_16 (by omega) (fun h => ?_) (fun h => ?_)
  · exact h28 _ (fun h1 => by simp [nbx, h, h1]) (fun _ => rfl)
  refine xx_j ee37_19 rfl trivial ?_
  refine xx_k ee37_20 1 rfl ?_
  first | refine xx_add ee37_21 ?_ | refine xx_j ee37_21 rfl trivial ?_
  refine xx_j ee37_22 rfl trivial ?_
  refine rr_fi hR ee37_23 rfl rfl rfl ?_
  refine xx_t hn ?_
  refine xx_rem ee37_26 (by omega) h0 (by omega) ?_
  refine xx_j ee37_27 rfl trivial ?_
  exact h28 _ (fun h1 => by simp [nbx, h]) (fun h1 => by omega)
/-- what holds of the net itself -/
def RN (M : rf_M) : Prop := 2 ≤ rn M ff_Mod_n 0 ∧ rn M ff_Mod_all 0 = rn M ff_Mod_n 0 * rn M ff_Mod_n 0 ∧ ∀ f, f < rn M ff_Mod_flits 0 → rn M ff_Mod_at f < rn M ff_Mod_all 0
theorem RN.n8 (hI : RI M) : rn M ff_Mod_n 0 < 9 := hI.l ff_Mod_n 0 9 (n := 1) rfl (by omega) rfl (by omega)
theorem RN.sq (hI : RI M) : rn M ff_Mod_n 0 * rn M ff_Mod_n 0 ≤ 64 := by
  have := RN.n8 hI
  have h8 : rn M ff_Mod_n 0 ≤ 8 := by omega
  exact (Nat.mul_le_mul h8 h8 : _ ≤ 8 * 8)
theorem q_neighbour {v w : Nat} (hR : rf_ok s o A M) (hI : RI M) (hN : RN M) (hw : w < 4) (hv : v < rn M ff_Mod_all 0) (k : Q (some (vI (nI (nb (rn M ff_Mod_n 0) v w)))) s) : fx_M mm_Mod_neighbour [vR 22 (some o), vI (nI v), vI (nI w)] s Q := by
  have h1 := RN.n8 hI
  have h2 := hI.l ff_Mod_all 0 65 (n := 1) rfl (by omega) rfl (by omega)
  have h3 := hN.1
  have h4 := hN.2.1
  exact r_neighbour hR (hI.f ff_Mod_n rfl (by decide)) (by omega) h1 (by omega) hw (by omega) k
/-- a way is open and leads nearer -/
def swant (M : rf_M) (v w g : Nat) : Bool := !rz M ff_Mod_closed (4 * v + w) && decide (rn M ff_Mod_away (64 * nb (rn M ff_Mod_n 0) v w + g) < rn M ff_Mod_away (64 * v + g))
theorem q_isWanted {f w : Nat} (hR : rf_ok s o A M) (hI : RI M) (hN : RN M) (hf : f < rn M ff_Mod_flits 0) (hw : w < 4) (k : Q (some (vI (fx_bit (swant M (rn M ff_Mod_at f) w (sg M f))))) s) : fx_M mm_Mod_isWanted [vR 22 (some o), vI (nI f), vI (nI w)] s Q := by
  have h1 := hI.l ff_Mod_flits 0 257 (n := 1) rfl (by omega) rfl (by omega)
  have h2 := hI.l ff_Mod_at f 64 (n := 300) rfl (by omega) rfl (by omega)
  have h3 := hN.2.2 f hf
  have h4 := sg_lt (f := f) hI (by omega)
  have h5 := hI.l ff_Mod_all 0 65 (n := 1) rfl (by omega) rfl (by omega)
  have h6 := hN.1
  have h7 := hN.2.1
  have h8 : nb (rn M ff_Mod_n 0) (rn M ff_Mod_at f) w < 64 := by
    have := nb_lt (n := rn M ff_Mod_n 0) (v := rn M ff_Mod_at f) (w := w) (by omega) (by omega)
    omega
  refine xx_i ml76 ?_
  refine xx_j ee76_0 rfl trivial ?_
  refine rr_fa hR ee76_1 (by decide) rfl rfl ?_
  refine xx_j ee76_4 rfl trivial ?_
  refine rr_al 300 hR ee76_5 rfl (by omega) ?_
  refine xx_t (hI.e ff_Mod_at f (n := 300) rfl (by omega) (by decide)) ?_
  refine xx_j ee76_6 rfl trivial ?_
  refine xx_j ee76_7 rfl trivial ?_
  refine rr_fa hR ee76_8 (by decide) rfl rfl ?_
  refine xx_k ee76_11 4 rfl ?_
  refine xx_j ee76_12 rfl trivial ?_
  first | refine xx_mul ee76_13 ?_ | refine xx_j ee76_13 rfl trivial ?_
  refine xx_j ee76_14 rfl trivial ?_
  first | refine xx_add ee76_15 ?_ | refine xx_j ee76_15 rfl trivial ?_
  refine rr_zl 256 hR ee76_16 rfl (by omega) ?_
  refine xx_t (hI.z ff_Mod_closed (4 * rn M ff_Mod_at f + w) (n := 256) rfl (by omega) rfl) ?_
  refine xx_nz ee76_17 (fun e => ?_) (fun e => ?_)
  · refine xx_k ee76_62 0 rfl ?_
    refine xx_t fx_bit_f (xx_rz ee76_63 ?_)
    simpa [swant, e] using k
  refine xx_j ee76_20 rfl trivial ?_
  refine rr_fa hR ee76_21 (by decide) rfl rfl ?_
  refine xx_kb ee76_24 64 rfl ?_
  refine xx_j ee76_26 rfl trivial ?_
  refine xx_j ee76_27 rfl trivial ?_
  refine xx_j ee76_28 rfl trivial ?_
  refine xx_c ee76_29 rfl (q_neighbour hR hI hN hw (by omega) ?_)
  first | refine xx_mul ee76_32 ?_ | refine xx_j ee76_32 rfl trivial ?_
  refine xx_j ee76_33 rfl trivial ?_
  refine xx_j ee76_34 rfl trivial ?_
  refine xx_c ee76_35 rfl (q_goalOf hR hI (by omega) ?_)
  have a1 := hI.l ff_Mod_away (64 * nb (rn M ff_Mod_n 0) (rn M ff_Mod_at f) w + sg M f) 1001 (n := 4096) rfl (by omega) rfl (by omega)
  have a2 := hI.l ff_Mod_away (64 * rn M ff_Mod_at f + sg M f) 1001 (n := 4096) rfl (by omega) rfl (by omega)
  first | refine xx_add ee76_38 ?_ | refine xx_j ee76_38 rfl trivial ?_
  refine rr_al 4096 hR ee76_39 rfl (by omega) ?_
  refine xx_t (hI.e ff_Mod_away (64 * nb (rn M ff_Mod_n 0) (rn M ff_Mod_at f) w + sg M f) (n := 4096) rfl (by omega) (by decide)) ?_
  refine xx_j ee76_40 rfl trivial ?_
  refine rr_fa hR ee76_41 (by decide) rfl rfl ?_
  refine xx_kb ee76_44 64 rfl ?_
  refine xx_j ee76_46 rfl trivial ?_
  first | refine xx_mul ee76_47 ?_ | refine xx_j ee76_47 rfl trivial ?_
  refine xx_j ee76_48 rfl trivial ?_
  refine xx_j ee76_49 rfl trivial ?_
  refine xx_c ee76_50 rfl (q_goalOf hR hI (by omega) ?_)
  first | refine xx_add ee76_53 ?_ | refine xx_j ee76_53 rfl trivial ?_
  refine rr_al 4096 hR ee76_54 rfl (by omega) ?_
  refine xx_t (hI.e ff_Mod_away (64 * rn M ff_Mod_at f + sg M f) (n := 4096) rfl (by omega) (by decide)) ?_
  refine xx_ge ee76_55 (by omega) (by omega) (fun h => ?_) (fun h => ?_)
  · refine xx_k ee76_62 0 rfl ?_
    refine xx_t fx_bit_f (xx_rz ee76_63 ?_)
    have h' : ¬ rn M ff_Mod_away (64 * nb (rn M ff_Mod_n 0) (rn M ff_Mod_at f) w + sg M f) < rn M ff_Mod_away (64 * rn M ff_Mod_at f + sg M f) := by omega
    simpa [swant, e, h'] using k
  · refine xx_k ee76_58 1 rfl ?_
    refine xx_j ee76_59 rfl trivial ?_
    refine xx_t fx_bit_t (xx_rz ee76_63 ?_)
    simpa [swant, e, h] using k
/-- the first starved one from the turn on -/
def sfav (M : rf_M) : Option Nat := (sp_first (fun k => decide (rn M ff_Mod_patience 0 ≤ rn M ff_Mod_hungry ((rn M ff_Mod_turn 0 + k) % rn M ff_Mod_all 0))) 0 (rn M ff_Mod_all 0)).map (fun k => (rn M ff_Mod_turn 0 + k) % rn M ff_Mod_all 0)
theorem q_favoured (hR : rf_ok s o A M) (hI : RI M) (h0 : 0 < rn M ff_Mod_all 0) (k : Q (some (vI (oI (sfav M)))) s) : fx_M mm_Mod_favoured [vR 22 (some o)] s Q := by
  have h1 := hI.l ff_Mod_all 0 65 (n := 1) rfl (by omega) rfl (by omega)
  have h2 := hI.l ff_Mod_turn 0 64 (n := 1) rfl (by omega) rfl (by omega)
  have h3 := hI.l ff_Mod_patience 0 1001 (n := 1) rfl (by omega) rfl (by omega)
  have e1 := hI.f ff_Mod_all rfl (by decide)
  have e2 := hI.f ff_Mod_turn rfl (by decide)
  have e3 := hI.f ff_Mod_patience rfl (by decide)
  refine xx_i ml27 ?_
  refine xx_k ee27_0 0 rfl ?_
  refine xx_j ee27_1 rfl trivial ?_
  have key : ∀ d j x, j + d = rn M ff_Mod_all 0 → Q (some (vI (oI ((sp_first (fun k => decide (rn M ff_Mod_patience 0 ≤ rn M ff_Mod_hungry ((rn M ff_Mod_turn 0 + k) % rn M ff_Mod_all 0))) j d).map (fun k => (rn M ff_Mod_turn 0 + k) % rn M ff_Mod_all 0))))) s → fx_W 27 2 [some (vR 22 (some o)), some (vI (nI j)), x] [] s Q := by
    intro d
    induction d with
    | zero =>
      intro j x hj k
      refine xx_j ee27_2 rfl trivial ?_
      refine xx_j ee27_3 rfl trivial ?_
      refine rr_fi hR ee27_4 rfl rfl rfl ?_
      refine xx_t e1 ?_
      refine xx_ge ee27_7 (by omega) (by omega) (fun h => ?_) (fun h => by omega)
      refine xx_km ee27_43 rfl ?_
      exact xx_ri ee27_44 rt27 k
    | succ d ih =>
      intro j x hj k
      refine xx_j ee27_2 rfl trivial ?_
      refine xx_j ee27_3 rfl trivial ?_
      refine rr_fi hR ee27_4 rfl rfl rfl ?_
      refine xx_t e1 ?_
      refine xx_ge ee27_7 (by omega) (by omega) (fun h => by omega) (fun h => ?_)
      refine xx_j ee27_10 rfl trivial ?_
      refine rr_fi hR ee27_11 rfl rfl rfl ?_
      refine xx_t e2 ?_
      refine xx_j ee27_14 rfl trivial ?_
      first | refine xx_add ee27_15 ?_ | refine xx_j ee27_15 rfl trivial ?_
      refine xx_j ee27_16 rfl trivial ?_
      refine rr_fi hR ee27_17 rfl rfl rfl ?_
      refine xx_t e1 ?_
      refine xx_rem ee27_20 (by omega) h0 (by omega) ?_
      have h4 : (rn M ff_Mod_turn 0 + j) % rn M ff_Mod_all 0 < rn M ff_Mod_all 0 := Nat.mod_lt _ h0
      have h5 := hI.l ff_Mod_hungry ((rn M ff_Mod_turn 0 + j) % rn M ff_Mod_all 0) 1000000 (n := 64) rfl (by omega) rfl (by omega)
      refine xx_j ee27_21 rfl trivial ?_
      refine xx_j ee27_22 rfl trivial ?_
      refine rr_fa hR ee27_23 (by decide) rfl rfl ?_
      refine xx_j ee27_26 rfl trivial ?_
      refine rr_al 64 hR ee27_27 rfl (by omega) ?_
      refine xx_t (hI.e ff_Mod_hungry ((rn M ff_Mod_turn 0 + j) % rn M ff_Mod_all 0) (n := 64) rfl (by omega) (by decide)) ?_
      refine xx_j ee27_28 rfl trivial ?_
      refine rr_fi hR ee27_29 rfl rfl rfl ?_
      refine xx_t e3 ?_
      refine xx_lt ee27_32 (by omega) (by omega) (fun h => ?_) (fun h => ?_)
      · first | refine xx_inc ee27_37 rfl ?_ | refine xx_j ee27_37 rfl trivial ?_
        refine xx_j ee27_40 rfl trivial ?_
        have h' : ¬ rn M ff_Mod_patience 0 ≤ rn M ff_Mod_hungry ((rn M ff_Mod_turn 0 + j) % rn M ff_Mod_all 0) := by omega
        exact ih (j + 1) _ (by omega) (by simpa [sp_first, h'] using k)
      · refine xx_j ee27_35 rfl trivial ?_
        refine xx_ri ee27_36 rt27 ?_
        simpa [sp_first, h, oI] using k
  exact key (rn M ff_Mod_all 0) 0 _ (by omega) k
/-- who could enter: 0 .. 511 a packet under way, 1000 on one of the row AGAIN, 2000 one that waits, -1 none -/
def scand (M : rf_M) (v : Nat) : Option Nat := match sp_first (suw M) (8 * v) 8 with
  | some p => some p
  | none => bif decide (0 < rn M ff_Mod_agains v) && !(sp_first (fun f => spk M f == rn M ff_Mod_again (8 * v)) 0 (rn M ff_Mod_flits 0)).isSome then some (1000 + rn M ff_Mod_again (8 * v)) else bif decide (0 < rn M ff_Mod_waits v) && (sp_first (fun p => rn M ff_Mod_lengths p == 0) (8 * v) 8).isSome then some 2000 else none
theorem q_candidate {v : Nat} (hR : rf_ok s o A M) (hI : RI M) (hv : v < 64) (k : Q (some (vI (oI (scand M v)))) s) : fx_M mm_Mod_candidate [vR 22 (some o), vI (nI v)] s Q := by
  have a1 := hI.l ff_Mod_agains v 9 (n := 64) rfl (by omega) rfl (by omega)
  have a2 := hI.l ff_Mod_again (8 * v) 512 (n := 512) rfl (by omega) rfl (by omega)
  have a3 := hI.l ff_Mod_waits v 5 (n := 64) rfl (by omega) rfl (by omega)
  have e1 := hI.e ff_Mod_agains v (n := 64) rfl (by omega) (by decide)
  have e2 := hI.e ff_Mod_again (8 * v) (n := 512) rfl (by omega) (by decide)
  have e3 := hI.e ff_Mod_waits v (n := 64) rfl (by omega) (by decide)
  refine xx_i ml69 ?_
  refine xx_j ee69_0 rfl trivial ?_
  refine xx_j ee69_1 rfl trivial ?_
  refine xx_c ee69_2 rfl (q_underWay hR hI hv ?_)
  refine xx_j ee69_5 rfl trivial ?_
  refine xx_j ee69_6 rfl trivial ?_
  refine xx_km ee69_7 rfl ?_
  refine xx_oeq ee69_8 (fun b hb => by have := (sp_first_lt hb).2.1; omega) (fun h => ?_) (fun b hb => ?_)
  · have wt : fx_W 69 52 [some (vR 22 (some o)), some (vI (nI v)), some (vI (oI (sp_first (suw M) (8 * v) 8)))] [] s (fun r s' => r = some (vI (oI (bif decide (0 < rn M ff_Mod_waits v) && (sp_first (fun p => rn M ff_Mod_lengths p == 0) (8 * v) 8).isSome then some 2000 else none))) ∧ s' = s) := by
      refine xx_j ee69_52 rfl trivial ?_
      refine rr_fa hR ee69_53 (by decide) rfl rfl ?_
      refine xx_j ee69_56 rfl trivial ?_
      refine rr_al 64 hR ee69_57 rfl (by omega) ?_
      refine xx_t e3 ?_
      refine xx_kle ee69_58 (by omega) (fun h => ?_) (fun h => ?_)
      · refine xx_km ee69_76 rfl ?_
        refine xx_ri ee69_77 rt69 ?_
        exact ⟨by simp [h, oI], rfl⟩
      refine xx_j ee69_61 rfl trivial ?_
      refine xx_j ee69_62 rfl trivial ?_
      refine xx_c ee69_63 rfl (q_freeSlot hR hI hv ?_)
      refine xx_km ee69_66 rfl ?_
      refine xx_oeq ee69_67 (fun b hb => by have := (sp_first_lt hb).2.1; omega) (fun h2 => ?_) (fun b hb => ?_)
      · refine xx_km ee69_76 rfl ?_
        refine xx_ri ee69_77 rt69 ?_
        exact ⟨by simp [h2, oI], rfl⟩
      · refine xx_ks ee69_70 2000 rfl ?_
        refine xx_j ee69_73 rfl trivial ?_
        refine xx_ri ee69_77 rt69 ?_
        exact ⟨by simp [h, hb, oI], rfl⟩
    refine xx_j ee69_13 rfl trivial ?_
    refine rr_fa hR ee69_14 (by decide) rfl rfl ?_
    refine xx_j ee69_17 rfl trivial ?_
    refine rr_al 64 hR ee69_18 rfl (by omega) ?_
    refine xx_t e1 ?_
    refine xx_kle ee69_19 (by omega) (fun h2 => ?_) (fun h2 => ?_)
    · refine xx_q wt (fun r s' q => ?_)
      obtain ⟨q1, q2⟩ := q
      subst q1; subst q2
      simpa [scand, h, h2] using k
    refine xx_j ee69_22 rfl trivial ?_
    refine xx_j ee69_23 rfl trivial ?_
    refine rr_fa hR ee69_24 (by decide) rfl rfl ?_
    refine xx_kb ee69_27 8 rfl ?_
    refine xx_j ee69_29 rfl trivial ?_
    first | refine xx_mul ee69_30 ?_ | refine xx_j ee69_30 rfl trivial ?_
    refine rr_al 512 hR ee69_31 rfl (by omega) ?_
    refine xx_t e2 ?_
    refine xx_c ee69_32 rfl (q_isOut hR hI (by omega) ?_)
    refine xx_nz ee69_35 (fun h3 => ?_) (fun h3 => ?_)
    · refine xx_q wt (fun r s' q => ?_)
      obtain ⟨q1, q2⟩ := q
      subst q1; subst q2
      simpa [scand, h, h3] using k
    · refine xx_ks ee69_38 1000 rfl ?_
      refine xx_j ee69_41 rfl trivial ?_
      refine rr_fa hR ee69_42 (by decide) rfl rfl ?_
      refine xx_kb ee69_45 8 rfl ?_
      refine xx_j ee69_47 rfl trivial ?_
      first | refine xx_mul ee69_48 ?_ | refine xx_j ee69_48 rfl trivial ?_
      refine rr_al 512 hR ee69_49 rfl (by omega) ?_
      refine xx_t e2 ?_
      first | refine xx_add ee69_50 ?_ | refine xx_j ee69_50 rfl trivial ?_
      refine xx_ri ee69_51 rt69 ?_
      simpa [scand, h, h2, h3, oI] using k
  · refine xx_j ee69_11 rfl trivial ?_
    refine xx_ri ee69_12 rt69 ?_
    simpa [scand, hb, oI] using k
end
