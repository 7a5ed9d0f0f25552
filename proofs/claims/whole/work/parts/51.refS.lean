/-! THE REFERENCE: reset -/
/-- the first j entries of the fields in fs are x -/
def om_fl (M : rf_M) (fs : List Nat) (j : Nat) (x : Int32) : rf_M := fun g i => if g ∈ fs ∧ i < j then x else M g i
theorem om_fl_0 (M : rf_M) (fs : List Nat) (x : Int32) : om_fl M fs 0 x = M := by
  funext g i
  unfold om_fl
  rw [if_neg (by omega)]
theorem om_fl_ne {M : rf_M} {fs : List Nat} {j g i : Nat} {x : Int32} (h : g ∉ fs) : om_fl M fs j x g i = M g i := by
  unfold om_fl
  rw [if_neg (fun q => h q.1)]
theorem om_fl_in {M : rf_M} {fs : List Nat} {j g i : Nat} {x : Int32} (h : g ∈ fs) (hi : i < j) : om_fl M fs j x g i = x := by
  unfold om_fl
  rw [if_pos ⟨h, hi⟩]
theorem om_fl_out {M : rf_M} {fs : List Nat} {j g i : Nat} {x : Int32} (hi : j ≤ i) : om_fl M fs j x g i = M g i := by
  unfold om_fl
  rw [if_neg (by omega)]
theorem RI.fl {M : rf_M} {fs : List Nat} {j x : Nat} (hI : RI M) (hb : ∀ f, f ∈ fs → x < ri_b f) (h2 : ff_Mod_whose ∉ fs) (h3 : ff_Mod_way ∉ fs) (hx : x < 2 ^ 20) : RI (om_fl M fs j (nI x)) := by
  refine ⟨fun g i hg hi => ?_, fun i hi => ?_, fun i hi => ?_⟩
  · by_cases e : g ∈ fs ∧ i < j
    · have ex : om_fl M fs j (nI x) g i = nI x := om_fl_in e.1 e.2
      have er := rn_of ex (by omega)
      exact ⟨by rw [er]; exact ex, by rw [er]; exact hb g e.1⟩
    · refine (hI.1 g i hg hi).same ?_
      unfold om_fl
      rw [if_neg e]
  · rw [om_fl_ne h2]
    exact (hI.2.1 i hi).imp id (fun q => q.same (om_fl_ne h2))
  · rw [om_fl_ne h3]
    exact (hI.2.2 i hi).imp id (fun q => q.same (om_fl_ne h3))
theorem RI.flr {M : rf_M} {fs : List Nat} {j : Nat} {x : Int32} (hI : RI M) (hb : ∀ f, f ∈ fs → ri_b f = 0) (h2 : ff_Mod_whose ∈ fs → x = fx_neg) (h3 : ff_Mod_way ∉ fs) : RI (om_fl M fs j x) := by
  refine ⟨fun g i hg hi => ?_, fun i hi => ?_, fun i hi => ?_⟩
  · exact (hI.1 g i hg hi).same (om_fl_ne (fun q => hg (hb g q)))
  · by_cases e : ff_Mod_whose ∈ fs ∧ i < j
    · rw [om_fl_in e.1 e.2]
      exact Or.inl (h2 e.1)
    · have e2 : om_fl M fs j x ff_Mod_whose i = M ff_Mod_whose i := by
        unfold om_fl
        rw [if_neg e]
      rw [e2]
      exact (hI.2.1 i hi).imp id (fun q => q.same e2)
  · rw [om_fl_ne h3]
    exact (hI.2.2 i hi).imp id (fun q => q.same (om_fl_ne h3))
theorem om_fl_1 (M : rf_M) (f j : Nat) (x : Int32) : fx_up (om_fl M [f] j x) f j x = om_fl M [f] (j + 1) x := by
  funext g i
  simp only [fx_up, om_fl, List.mem_singleton]
  repeat' split
  all_goals first | rfl | omega
theorem om_fl_2 (M : rf_M) (f h j : Nat) (x y : Int32) (hf : f ≠ h) : fx_up (fx_up (om_fl (om_fl M [f] j x) [h] j y) f j x) h j y = om_fl (om_fl M [f] (j + 1) x) [h] (j + 1) y := by
  funext g i
  simp only [fx_up, om_fl, List.mem_singleton]
  repeat' split
  all_goals first | rfl | omega
def rs_six : List Nat := [ff_Mod_waits, ff_Mod_agains, ff_Mod_rowSize, ff_Mod_readySize, ff_Mod_hungry, ff_Mod_went]
theorem fold_up {g i j : Nat} {x : Int32} : ∀ (l : List Nat) (M : rf_M), (l.foldl (fun M f => fx_up M f j x) M) g i = if g ∈ l ∧ i = j then x else M g i
  | [], M => by simp
  | f :: l, M => by
    rw [List.foldl_cons, fold_up l]
    by_cases h : g ∈ l ∧ i = j
    · rw [if_pos h, if_pos ⟨List.mem_cons_of_mem _ h.1, h.2⟩]
    · rw [if_neg h]
      by_cases e : g = f ∧ i = j
      · obtain ⟨e1, e2⟩ := e
        subst e1; subst e2
        rw [fx_up_same, if_pos ⟨List.mem_cons_self, rfl⟩]
      · rw [fx_up_ne e, if_neg]
        rintro ⟨q1, q2⟩
        rcases List.mem_cons.mp q1 with q | q
        · exact e ⟨q, q2⟩
        · exact h ⟨q, q2⟩
theorem om_fl_6 (M : rf_M) (j : Nat) (x y : Int32) : fx_up (fx_up (fx_up (fx_up (fx_up (fx_up (fx_up (fx_up (fx_up (om_fl (om_fl M rs_six j x) [ff_Mod_taken] (3 * j) y) ff_Mod_waits j x) ff_Mod_agains j x) ff_Mod_rowSize j x) ff_Mod_readySize j x) ff_Mod_hungry j x) ff_Mod_went j x) ff_Mod_taken (3 * j) y) ff_Mod_taken (3 * j + 1) y) ff_Mod_taken (3 * j + 2) y = om_fl (om_fl M rs_six (j + 1) x) [ff_Mod_taken] (3 * (j + 1)) y := by
  funext g i
  have e6 : ff_Mod_taken ∉ rs_six := by decide
  by_cases e1 : g = ff_Mod_taken
  · subst e1
    by_cases h2 : i = 3 * j + 2
    · rw [h2, fx_up_same, om_fl_in (List.mem_singleton_self _) (by omega)]
    rw [fx_up_ne (fun q => h2 q.2)]
    by_cases h1 : i = 3 * j + 1
    · rw [h1, fx_up_same, om_fl_in (List.mem_singleton_self _) (by omega)]
    rw [fx_up_ne (fun q => h1 q.2)]
    by_cases h0 : i = 3 * j
    · rw [h0, fx_up_same, om_fl_in (List.mem_singleton_self _) (by omega)]
    rw [fx_up_ne (fun q => h0 q.2), fx_up_ne (fun q => absurd q.1 (by decide)), fx_up_ne (fun q => absurd q.1 (by decide)), fx_up_ne (fun q => absurd q.1 (by decide)), fx_up_ne (fun q => absurd q.1 (by decide)), fx_up_ne (fun q => absurd q.1 (by decide)), fx_up_ne (fun q => absurd q.1 (by decide))]
    by_cases h : i < 3 * j
    · rw [om_fl_in (List.mem_singleton_self _) h, om_fl_in (List.mem_singleton_self _) (by omega)]
    · rw [om_fl_out (by omega), om_fl_out (by omega), om_fl_out (by omega), om_fl_ne e6]
  · have e2 : g ∉ [ff_Mod_taken] := fun q => e1 (List.mem_singleton.mp q)
    rw [fx_up_ne (fun q => e1 q.1), fx_up_ne (fun q => e1 q.1), fx_up_ne (fun q => e1 q.1), om_fl_ne e2]
    have h := fold_up (g := g) (i := i) (j := j) (x := x) rs_six (om_fl (om_fl M rs_six j x) [ff_Mod_taken] (3 * j) y)
    refine Eq.trans h ?_
    rw [om_fl_ne e2]
    by_cases hg : g ∈ rs_six
    · by_cases hi : i = j
      · rw [if_pos ⟨hg, hi⟩, om_fl_in hg (by omega)]
      · rw [if_neg (fun q => hi q.2)]
        by_cases hl : i < j
        · rw [om_fl_in hg hl, om_fl_in hg (by omega)]
        · rw [om_fl_out (by omega), om_fl_out (by omega)]
    · rw [if_neg (fun q => hg q.1), om_fl_ne hg, om_fl_ne hg]
section
variable {s : fx_S} {Q : fx_Q} {o : Nat} {A : Nat → Nat} {M : rf_M}
def srst (n m p : Int32) : Bool := (decide (nI 2 ≤ n) && decide (n ≤ nI 8)) && (decide (nI 0 ≤ m) && decide (m ≤ nI 1)) && (decide (nI 1 ≤ p) && decide (p ≤ nI 1000))
def om_rsf (M : rf_M) (n m p : Nat) : rf_M := fx_up (fx_up (fx_up (fx_up (fx_up (fx_up (fx_up (fx_up (fx_up (fx_up (fx_up M ff_Mod_n 0 (nI n)) ff_Mod_all 0 (nI (n * n))) ff_Mod_mode 0 (nI m)) ff_Mod_patience 0 (nI p)) ff_Mod_cycle 0 (nI 0)) ff_Mod_turn 0 (nI 0)) ff_Mod_flits 0 (nI 0)) ff_Mod_notes 0 (nI 0)) ff_Mod_deflected 0 (nI 0)) ff_Mod_received 0 (nI 0)) ff_Mod_lost 0 (nI 0)
def om_rst (M : rf_M) (n m p : Nat) : rf_M := om_fl (om_fl (om_fl (om_fl (om_fl (om_rsf M n m p) [ff_Mod_closed] 256 (nI 0)) [ff_Mod_whose] 256 fx_neg) [ff_Mod_lengths] 512 (nI 0)) rs_six 64 (nI 0)) [ff_Mod_taken] 192 fx_neg
theorem RI.rsf {n m p : Nat} (hI : RI M) (hn : n < 9) (hm : m < 2) (hp : p < 1001) : RI (om_rsf M n m p) := by
  have hnn : n * n < 65 := by
    have h8 : n ≤ 8 := by omega
    have : n * n ≤ 8 * 8 := Nat.mul_le_mul h8 h8
    omega
  exact ((((((((((hI.up (b := 9) rfl hn (by decide) (by decide)).up (b := 65) rfl hnn (by decide) (by decide)).up (b := 2) rfl hm (by decide) (by decide)).up (b := 1001) rfl hp (by decide) (by decide)).up (b := 1000000) rfl (by omega) (by decide) (by decide)).up (b := 64) rfl (by omega) (by decide) (by decide)).up (b := 257) rfl (by omega) (by decide) (by decide)).up (b := 1001) rfl (by omega) (by decide) (by decide)).up (b := 10000000) rfl (by omega) (by decide) (by decide)).up (b := 10000000) rfl (by omega) (by decide) (by decide)).up (b := 10000000) rfl (by omega) (by decide) (by decide)
theorem RI.rst {n m p : Nat} (hI : RI M) (hn : n < 9) (hm : m < 2) (hp : p < 1001) : RI (om_rst M n m p) := by
  refine RI.flr (RI.fl (RI.fl (RI.flr (RI.fl (hI.rsf hn hm hp) ?_ (by decide) (by decide) (by omega)) ?_ (fun _ => rfl) (by decide)) ?_ (by decide) (by decide) (by omega)) ?_ (by decide) (by decide) (by omega)) ?_ (fun q => absurd q (by decide)) (by decide)
  all_goals decide
theorem q_reset {n m p : Int32} {s0 : fx_S} (hR : rf_ok s0 o A M) (hI : RI M)
    (k1 : srst n m p = false → ∀ s', rf_ok s' o A (om_t0 M) → rf_fr o A s0 s' → Q (some (vI (fx_bit false))) s')
    (k2 : ∀ a b c, n = nI a → m = nI b → p = nI c → 2 ≤ a → a ≤ 8 → b < 2 → 1 ≤ c → c ≤ 1000 → srst n m p = true → ∀ M' j, MS (om_rst (om_t0 M) a b c) M' j → ∀ s', rf_ok s' o A M' → rf_fr o A s0 s' → Q (some (vI (fx_bit true))) s') : fx_M mm_Mod_reset [vR 22 (some o), vI n, vI m, vI p] s0 Q := by
  have hF := rf_fr.rf o A s0
  refine xx_i ml101 ?_
  refine xx_j ee101_0 rfl trivial ?_
  refine xx_k ee101_1 0 rfl ?_
  refine rr_pf hR hF ee101_2 rfl rfl (fun s hR hF => ?_)
  replace hR : rf_ok s o A (om_t0 M) := hR
  have no : srst n m p = false → fx_W 101 35 [some (vR 22 (some o)), some (vI n), some (vI m), some (vI p), none] [] s Q := by
    intro h
    refine xx_k ee101_35 0 rfl ?_
    exact xx_t fx_bit_f (xx_rz ee101_36 (k1 h _ hR hF))
  refine xx_j ee101_5 rfl trivial ?_
  refine xx_k ee101_6 2 rfl ?_
  refine xx_kb ee101_7 8 rfl ?_
  refine xx_c ee101_9 rfl (c_within n (nI 2) (nI 8) ?_)
  refine xx_z ee101_12 (fun h => no (by simp only [srst, h, Bool.false_and])) (fun hn => ?_)
  refine xx_j ee101_15 rfl trivial ?_
  refine xx_k ee101_16 0 rfl ?_
  refine xx_k ee101_17 1 rfl ?_
  refine xx_c ee101_18 rfl (c_within m (nI 0) (nI 1) ?_)
  refine xx_z ee101_21 (fun h => no (by simp only [srst, h, Bool.false_and, Bool.and_false])) (fun hm => ?_)
  refine xx_j ee101_24 rfl trivial ?_
  refine xx_k ee101_25 1 rfl ?_
  refine xx_ks ee101_26 1000 rfl ?_
  refine xx_c ee101_29 rfl (c_within p (nI 1) (nI 1000) ?_)
  refine xx_nz ee101_32 (fun hp => ?_) (fun h => no (by simp only [srst, h, Bool.and_false]))
  have ok : srst n m p = true := by simp only [srst, hn, hm, hp, Bool.and_true]
  obtain ⟨a, ea, ha1, ha2⟩ := fx_within_nI (by omega) (by omega) hn
  obtain ⟨b, eb, _, hb2⟩ := fx_within_nI (by omega) (by omega) hm
  obtain ⟨c, ec, hc1, hc2⟩ := fx_within_nI (by omega) (by omega) hp
  subst ea
  subst eb
  subst ec
  have k2 := k2 a b c rfl rfl rfl ha1 ha2 (by omega) hc1 hc2 ok
  clear k1 no
  have hI0 : RI (om_rsf (om_t0 M) a b c) := hI.t0.rsf (by omega) (by omega) (by omega)
  refine xx_j ee101_37 rfl trivial ?_
  refine xx_j ee101_38 rfl trivial ?_
  refine rr_pf hR hF ee101_39 rfl rfl (fun s hR hF => ?_)
  refine xx_j ee101_42 rfl trivial ?_
  refine xx_j ee101_43 rfl trivial ?_
  refine xx_j ee101_44 rfl trivial ?_
  first | refine xx_mul ee101_45 ?_ | refine xx_j ee101_45 rfl trivial ?_
  refine rr_pf hR hF ee101_46 rfl rfl (fun s hR hF => ?_)
  refine xx_j ee101_49 rfl trivial ?_
  refine xx_j ee101_50 rfl trivial ?_
  refine rr_pf hR hF ee101_51 rfl rfl (fun s hR hF => ?_)
  refine xx_j ee101_54 rfl trivial ?_
  refine xx_j ee101_55 rfl trivial ?_
  refine rr_pf hR hF ee101_56 rfl rfl (fun s hR hF => ?_)
  refine xx_j ee101_59 rfl trivial ?_
  refine xx_k ee101_60 0 rfl ?_
  refine rr_pf hR hF ee101_61 rfl rfl (fun s hR hF => ?_)
  refine xx_j ee101_64 rfl trivial ?_
  refine xx_k ee101_65 0 rfl ?_
  refine rr_pf hR hF ee101_66 rfl rfl (fun s hR hF => ?_)
  refine xx_j ee101_69 rfl trivial ?_
  refine xx_k ee101_70 0 rfl ?_
  refine rr_pf hR hF ee101_71 rfl rfl (fun s hR hF => ?_)
  refine xx_j ee101_74 rfl trivial ?_
  refine xx_k ee101_75 0 rfl ?_
  refine rr_pf hR hF ee101_76 rfl rfl (fun s hR hF => ?_)
  refine xx_j ee101_79 rfl trivial ?_
  refine xx_k ee101_80 0 rfl ?_
  refine rr_pf hR hF ee101_81 rfl rfl (fun s hR hF => ?_)
  refine xx_j ee101_84 rfl trivial ?_
  refine xx_k ee101_85 0 rfl ?_
  refine rr_pf hR hF ee101_86 rfl rfl (fun s hR hF => ?_)
  refine xx_j ee101_89 rfl trivial ?_
  refine xx_k ee101_90 0 rfl ?_
  refine rr_pf hR hF ee101_91 rfl rfl (fun s hR hF => ?_)
  replace hR : rf_ok s o A (om_rsf (om_t0 M) a b c) := hR
  generalize hX : om_rsf (om_t0 M) a b c = X at *
  have l3 : ∀ d j s', j + d = 64 → rf_ok s' o A (om_fl (om_fl (om_fl (om_fl (om_fl X [ff_Mod_closed] 256 (nI 0)) [ff_Mod_whose] 256 fx_neg) [ff_Mod_lengths] 512 (nI 0)) rs_six j (nI 0)) [ff_Mod_taken] (3 * j) fx_neg) → rf_fr o A s0 s' → fx_W 101 155 [some (vR 22 (some o)), some (vI (nI a)), some (vI (nI b)), some (vI (nI c)), some (vI (nI j))] [] s' Q := by
    intro d
    induction d with
    | zero =>
      intro j s' hj hR hF
      obtain rfl : j = 64 := by omega
      refine xx_j ee101_155 rfl trivial ?_
      refine xx_kb ee101_157 64 rfl ?_
      refine xx_ge ee101_159 (by omega) (by omega) (fun h => ?_) (fun h => by omega)
      refine xx_j ee101_250 rfl trivial ?_
      rw [← hX] at hR
      replace hR : rf_ok s' o A (om_rst (om_t0 M) a b c) := hR
      have hI1 : RI (om_rst (om_t0 M) a b c) := hI.t0.rst (by omega) (by omega) (by omega)
      have e1 : rn (om_rst (om_t0 M) a b c) ff_Mod_n 0 = a := by
        refine rn_of (x := a) ?_ (by omega)
        exact (om_fl_ne (by decide)).trans ((om_fl_ne (by decide)).trans ((om_fl_ne (by decide)).trans ((om_fl_ne (by decide)).trans ((om_fl_ne (by decide)).trans rfl))))
      have e2 : rn (om_rst (om_t0 M) a b c) ff_Mod_all 0 = a * a := by
        have h8 : a * a ≤ 8 * 8 := Nat.mul_le_mul ha2 ha2
        refine rn_of (x := a * a) ?_ (by omega)
        exact (om_fl_ne (by decide)).trans ((om_fl_ne (by decide)).trans ((om_fl_ne (by decide)).trans ((om_fl_ne (by decide)).trans ((om_fl_ne (by decide)).trans rfl))))
      refine xx_c ee101_251 rfl (q_measure hR hI1 (by rw [e1]; exact ha1) (by rw [e1, e2]) (fun s2 M2 j hM2 hR hF2 => ?_))
      have hF := hF.tr hF2
      refine xx_j ee101_254 rfl trivial ?_
      refine xx_k ee101_255 1 rfl ?_
      exact xx_t fx_bit_t (xx_rz ee101_256 (k2 M2 j hM2 _ hR hF))
    | succ d ih =>
      intro j s' hj hR hF
      refine xx_j ee101_155 rfl trivial ?_
      refine xx_kb ee101_157 64 rfl ?_
      refine xx_ge ee101_159 (by omega) (by omega) (fun h => by omega) (fun h => ?_)
      refine xx_j ee101_162 rfl trivial ?_
      refine rr_fa hR ee101_163 (by decide) rfl rfl ?_
      refine xx_j ee101_166 rfl trivial ?_
      refine xx_k ee101_168 0 rfl ?_
      refine rr_as 64 hR hF ee101_169 rfl (by omega) (fun s hR hF => ?_)
      refine xx_j ee101_170 rfl trivial ?_
      refine rr_fa hR ee101_171 (by decide) rfl rfl ?_
      refine xx_j ee101_174 rfl trivial ?_
      refine xx_k ee101_176 0 rfl ?_
      refine rr_as 64 hR hF ee101_177 rfl (by omega) (fun s hR hF => ?_)
      refine xx_j ee101_178 rfl trivial ?_
      refine rr_fa hR ee101_179 (by decide) rfl rfl ?_
      refine xx_j ee101_182 rfl trivial ?_
      refine xx_k ee101_184 0 rfl ?_
      refine rr_as 64 hR hF ee101_185 rfl (by omega) (fun s hR hF => ?_)
      refine xx_j ee101_186 rfl trivial ?_
      refine rr_fa hR ee101_187 (by decide) rfl rfl ?_
      refine xx_j ee101_190 rfl trivial ?_
      refine xx_k ee101_192 0 rfl ?_
      refine rr_as 64 hR hF ee101_193 rfl (by omega) (fun s hR hF => ?_)
      refine xx_j ee101_194 rfl trivial ?_
      refine rr_fa hR ee101_195 (by decide) rfl rfl ?_
      refine xx_j ee101_198 rfl trivial ?_
      refine xx_k ee101_200 0 rfl ?_
      refine rr_as 64 hR hF ee101_201 rfl (by omega) (fun s hR hF => ?_)
      refine xx_j ee101_202 rfl trivial ?_
      refine rr_fa hR ee101_203 (by decide) rfl rfl ?_
      refine xx_j ee101_206 rfl trivial ?_
      refine xx_k ee101_208 0 rfl ?_
      refine rr_as 64 hR hF ee101_209 rfl (by omega) (fun s hR hF => ?_)
      refine xx_j ee101_210 rfl trivial ?_
      refine rr_fa hR ee101_211 (by decide) rfl rfl ?_
      refine xx_k ee101_214 3 rfl ?_
      refine xx_j ee101_215 rfl trivial ?_
      first | refine xx_mul ee101_217 ?_ | refine xx_j ee101_217 rfl trivial ?_
      refine xx_km ee101_218 rfl ?_
      refine rr_as 192 hR hF ee101_219 rfl (by omega) (fun s hR hF => ?_)
      refine xx_j ee101_220 rfl trivial ?_
      refine rr_fa hR ee101_221 (by decide) rfl rfl ?_
      refine xx_k ee101_224 3 rfl ?_
      refine xx_j ee101_225 rfl trivial ?_
      first | refine xx_mul ee101_227 ?_ | refine xx_j ee101_227 rfl trivial ?_
      refine xx_k ee101_228 1 rfl ?_
      first | refine xx_add ee101_229 ?_ | refine xx_j ee101_229 rfl trivial ?_
      refine xx_km ee101_230 rfl ?_
      refine rr_as 192 hR hF ee101_231 rfl (by omega) (fun s hR hF => ?_)
      refine xx_j ee101_232 rfl trivial ?_
      refine rr_fa hR ee101_233 (by decide) rfl rfl ?_
      refine xx_k ee101_236 3 rfl ?_
      refine xx_j ee101_237 rfl trivial ?_
      first | refine xx_mul ee101_239 ?_ | refine xx_j ee101_239 rfl trivial ?_
      refine xx_k ee101_240 2 rfl ?_
      first | refine xx_add ee101_241 ?_ | refine xx_j ee101_241 rfl trivial ?_
      refine xx_km ee101_242 rfl ?_
      refine rr_as 192 hR hF ee101_243 rfl (by omega) (fun s hR hF => ?_)
      first | refine xx_inc ee101_244 rfl ?_ | refine xx_j ee101_244 rfl trivial ?_
      refine xx_j ee101_247 rfl trivial ?_
      rw [om_fl_6] at hR
      exact ih (j + 1) _ (by omega) hR hF
  have l2 : ∀ d j s', j + d = 512 → rf_ok s' o A (om_fl (om_fl (om_fl X [ff_Mod_closed] 256 (nI 0)) [ff_Mod_whose] 256 fx_neg) [ff_Mod_lengths] j (nI 0)) → rf_fr o A s0 s' → fx_W 101 130 [some (vR 22 (some o)), some (vI (nI a)), some (vI (nI b)), some (vI (nI c)), some (vI (nI j))] [] s' Q := by
    intro d
    induction d with
    | zero =>
      intro j s' hj hR hF
      obtain rfl : j = 512 := by omega
      refine xx_j ee101_130 rfl trivial ?_
      refine xx_ks ee101_132 512 rfl ?_
      refine xx_ge ee101_135 (by omega) (by omega) (fun h => ?_) (fun h => by omega)
      refine xx_k ee101_152 0 rfl ?_
      refine xx_j ee101_153 rfl trivial ?_
      refine l3 64 0 _ (by omega) ?_ hF
      rw [om_fl_0, om_fl_0]
      exact hR
    | succ d ih =>
      intro j s' hj hR hF
      refine xx_j ee101_130 rfl trivial ?_
      refine xx_ks ee101_132 512 rfl ?_
      refine xx_ge ee101_135 (by omega) (by omega) (fun h => by omega) (fun h => ?_)
      refine xx_j ee101_138 rfl trivial ?_
      refine rr_fa hR ee101_139 (by decide) rfl rfl ?_
      refine xx_j ee101_142 rfl trivial ?_
      refine xx_k ee101_144 0 rfl ?_
      refine rr_as 512 hR hF ee101_145 rfl (by omega) (fun s hR hF => ?_)
      first | refine xx_inc ee101_146 rfl ?_ | refine xx_j ee101_146 rfl trivial ?_
      refine xx_j ee101_149 rfl trivial ?_
      rw [om_fl_1] at hR
      exact ih (j + 1) _ (by omega) hR hF
  have l1 : ∀ d j s', j + d = 256 → rf_ok s' o A (om_fl (om_fl X [ff_Mod_closed] j (nI 0)) [ff_Mod_whose] j fx_neg) → rf_fr o A s0 s' → fx_W 101 97 [some (vR 22 (some o)), some (vI (nI a)), some (vI (nI b)), some (vI (nI c)), some (vI (nI j))] [] s' Q := by
    intro d
    induction d with
    | zero =>
      intro j s' hj hR hF
      obtain rfl : j = 256 := by omega
      refine xx_j ee101_97 rfl trivial ?_
      refine xx_ks ee101_99 256 rfl ?_
      refine xx_ge ee101_102 (by omega) (by omega) (fun h => ?_) (fun h => by omega)
      refine xx_k ee101_127 0 rfl ?_
      refine xx_j ee101_128 rfl trivial ?_
      refine l2 512 0 _ (by omega) ?_ hF
      rw [om_fl_0]
      exact hR
    | succ d ih =>
      intro j s' hj hR hF
      refine xx_j ee101_97 rfl trivial ?_
      refine xx_ks ee101_99 256 rfl ?_
      refine xx_ge ee101_102 (by omega) (by omega) (fun h => by omega) (fun h => ?_)
      refine xx_j ee101_105 rfl trivial ?_
      refine rr_fa hR ee101_106 (by decide) rfl rfl ?_
      refine xx_j ee101_109 rfl trivial ?_
      refine xx_k ee101_111 0 rfl ?_
      refine xx_t fx_bit_f ?_
      refine rr_zs 256 hR hF ee101_112 rfl (by omega) (fun s hR hF => ?_)
      refine xx_j ee101_113 rfl trivial ?_
      refine rr_fa hR ee101_114 (by decide) rfl rfl ?_
      refine xx_j ee101_117 rfl trivial ?_
      refine xx_km ee101_119 rfl ?_
      refine rr_as 256 hR hF ee101_120 rfl (by omega) (fun s hR hF => ?_)
      first | refine xx_inc ee101_121 rfl ?_ | refine xx_j ee101_121 rfl trivial ?_
      refine xx_j ee101_124 rfl trivial ?_
      rw [← fx_bit_f, om_fl_2 _ _ _ _ _ _ (by decide)] at hR
      exact ih (j + 1) _ (by omega) hR hF
  refine xx_k ee101_94 0 rfl ?_
  refine xx_j ee101_95 rfl trivial ?_
  refine l1 256 0 _ (by omega) ?_ hF
  rw [om_fl_0, om_fl_0]
  exact hR
end
