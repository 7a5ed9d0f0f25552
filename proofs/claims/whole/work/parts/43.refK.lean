/-! THE REFERENCE: a flit is received; a free line -/
theorem fx_or (a b : Nat) : nI a ||| nI b = nI (a ||| b) := by
  apply Int32.toBitVec_inj.mp
  simp [nI]
theorem fx_or_lt {a b : Nat} (ha : a < 256) (hb : b < 8) : a ||| 2 ^ b < 256 := by
  have h : 2 ^ b < 2 ^ 8 := Nat.pow_lt_pow_right (by omega) hb
  exact Nat.or_lt_two_pow (n := 8) ha h
def sp_any (P : Nat → Bool) : Nat → Bool
  | 0 => false
  | k + 1 => sp_any P k || P k
section
variable {s : fx_S} {Q : fx_Q} {o : Nat} {A : Nat → Nat} {M : rf_M}
/-- what is done with a flit of packet p, try t, number b at node v -/
def om_join (M : rf_M) (v p t b : Nat) : rf_M :=
  match sp_first (fun k => decide (M ff_Mod_whose k = nI p) && decide (M ff_Mod_whichTry k = nI t)) (4 * v) 4 with
  | some k => fx_up M ff_Mod_has k (nI (rn M ff_Mod_has k ||| 2 ^ b))
  | none => match (bif t == 1 && !rz M ff_Mod_asked p then semp M v else none) with
    | some k => fx_up (fx_up (fx_up (fx_up M ff_Mod_whose k (nI p)) ff_Mod_whichTry k (nI 1)) ff_Mod_has k (nI 0)) ff_Mod_has k (nI (0 ||| 2 ^ b))
    | none => bif rz M ff_Mod_asked p then M else fx_up (fx_up (fx_up (fx_up M ff_Mod_asked p (fx_bit true)) ff_Mod_row (512 * v + rn M ff_Mod_rowSize v) (nI p)) ff_Mod_rowSize v (nI (rn M ff_Mod_rowSize v + 1))) ff_Mod_lost 0 (nI (rn M ff_Mod_lost 0 + 1))
theorem om_join_k {v p t b k : Nat} (h : sp_first (fun k => decide (M ff_Mod_whose k = nI p) && decide (M ff_Mod_whichTry k = nI t)) (4 * v) 4 = some k) : om_join M v p t b = fx_up M ff_Mod_has k (nI (rn M ff_Mod_has k ||| 2 ^ b)) := by
  unfold om_join
  rw [h]
theorem om_join_e {v p t b k : Nat} (h : sp_first (fun k => decide (M ff_Mod_whose k = nI p) && decide (M ff_Mod_whichTry k = nI t)) (4 * v) 4 = none) (h2 : (bif t == 1 && !rz M ff_Mod_asked p then semp M v else none) = some k) : om_join M v p t b = fx_up (fx_up (fx_up (fx_up M ff_Mod_whose k (nI p)) ff_Mod_whichTry k (nI 1)) ff_Mod_has k (nI 0)) ff_Mod_has k (nI (0 ||| 2 ^ b)) := by
  unfold om_join
  rw [h]
  dsimp only
  rw [h2]
theorem om_join_l {v p t b : Nat} (h : sp_first (fun k => decide (M ff_Mod_whose k = nI p) && decide (M ff_Mod_whichTry k = nI t)) (4 * v) 4 = none) (h2 : (bif t == 1 && !rz M ff_Mod_asked p then semp M v else none) = none) : om_join M v p t b = bif rz M ff_Mod_asked p then M else fx_up (fx_up (fx_up (fx_up M ff_Mod_asked p (fx_bit true)) ff_Mod_row (512 * v + rn M ff_Mod_rowSize v) (nI p)) ff_Mod_rowSize v (nI (rn M ff_Mod_rowSize v + 1))) ff_Mod_lost 0 (nI (rn M ff_Mod_lost 0 + 1)) := by
  unfold om_join
  rw [h]
  dsimp only
  rw [h2]
def om_rcv (M : rf_M) (f : Nat) : rf_M := fx_up (om_rem M f) ff_Mod_received 0 (nI (rn M ff_Mod_received 0 + 1))
def om_receive (M : rf_M) (f : Nat) : rf_M := om_settle (om_join (om_rcv M f) (rn M ff_Mod_at f) (spk M f) (rn M ff_Mod_tries f) (rn M ff_Mod_number f)) (rn M ff_Mod_at f)
theorem RI.rem {f : Nat} (hI : RI M) (h0 : 0 < rn M ff_Mod_flits 0) : RI (om_rem M f) := by
  have h1 := hI.l ff_Mod_flits 0 257 (n := 1) rfl (by omega) rfl (by omega)
  have g : ∀ g b, ri_n g = 300 → ri_b g = b → b ≠ 0 → ∃ x, M g (rn M ff_Mod_flits 0 - 1) = nI x ∧ x < b := fun g b q1 q2 q3 => ⟨_, hI.e g _ q1 (by omega) (by omega), hI.l g _ b q1 (by omega) q2 q3⟩
  have st : ∀ {M' : rf_M} (g b : Nat), RI M' → ri_n g = 300 → ri_b g = b → b ≠ 0 → g ≠ ff_Mod_whose → g ≠ ff_Mod_way → RI (fx_up M' g f (M g (rn M ff_Mod_flits 0 - 1))) := fun g' b hM q1 q2 q3 q4 q5 => by
    obtain ⟨x, e1, e2⟩ := g g' b q1 q2 q3
    rw [e1]
    exact hM.up q2 e2 q4 q5
  refine RI.upy (st ff_Mod_tries 1000 (st ff_Mod_entry 1000000 (st ff_Mod_number 8 (st ff_Mod_slot 8 (st ff_Mod_source 64 (st ff_Mod_line 4 (st ff_Mod_at 64 (hI.up (b := 257) rfl (by omega) (by decide) (by decide)) rfl rfl (by decide) (by decide) (by decide)) rfl rfl (by decide) (by decide) (by decide)) rfl rfl (by decide) (by decide) (by decide)) rfl rfl (by decide) (by decide) (by decide)) rfl rfl (by decide) (by decide) (by decide)) rfl rfl (by decide) (by decide) (by decide)) rfl rfl (by decide) (by decide) (by decide)) ?_
  rcases hI.2.2 (rn M ff_Mod_flits 0 - 1) (by omega) with q | q
  · exact Or.inl q
  · exact Or.inr ⟨_, q.1, q.2⟩
theorem RI.join {v p t b : Nat} (hI : RI M) (hv : v < 64) (hp : p < 512) (hb : b < 8) (hr : rn M ff_Mod_rowSize v < 512) (hl : rn M ff_Mod_lost 0 < 9000000) : RI (om_join M v p t b) := by
  unfold om_join
  split
  · rename_i k hk
    have := sp_first_lt hk
    exact hI.up (b := 256) rfl (fx_or_lt (hI.l ff_Mod_has k 256 (n := 256) rfl (by omega) rfl (by omega)) hb) (by decide) (by decide)
  · split
    · exact (((hI.upw (Or.inr ⟨p, rfl, hp⟩)).up (b := 1000) rfl (by omega) (by decide) (by decide)).up (b := 256) rfl (by omega) (by decide) (by decide)).up (b := 256) rfl (fx_or_lt (by omega) hb) (by decide) (by decide)
    · cases rz M ff_Mod_asked p with
      | true => exact hI
      | false => exact (((hI.upz rfl (by decide) (by decide)).up (b := 512) rfl hp (by decide) (by decide)).up (b := 513) rfl (by omega) (by decide) (by decide)).up (b := 10000000) rfl (by omega) (by decide) (by decide)
theorem om_join_notes {v p t b : Nat} : rn (om_join M v p t b) ff_Mod_notes 0 = rn M ff_Mod_notes 0 := by
  unfold om_join
  split
  · rfl
  · split
    · rfl
    · cases rz M ff_Mod_asked p <;> rfl
theorem om_join_row {v p t b : Nat} (hr : rn M ff_Mod_rowSize v < 512) : rn (om_join M v p t b) ff_Mod_rowSize v ≤ rn M ff_Mod_rowSize v + 1 := by
  unfold om_join
  split
  · exact Nat.le_succ _
  · split
    · exact Nat.le_succ _
    · cases rz M ff_Mod_asked p
      · rw [cond_false]
        have : rn (fx_up (fx_up (fx_up (fx_up M ff_Mod_asked p (fx_bit true)) ff_Mod_row (512 * v + rn M ff_Mod_rowSize v) (nI p)) ff_Mod_rowSize v (nI (rn M ff_Mod_rowSize v + 1))) ff_Mod_lost 0 (nI (rn M ff_Mod_lost 0 + 1))) ff_Mod_rowSize v = rn M ff_Mod_rowSize v + 1 := (rn_ne (fun q => absurd q.1 (by decide))).trans (rn_same (by omega))
        omega
      · exact Nat.le_succ _
theorem q_receive {s0 : fx_S} {f : Nat} (hR : rf_ok s0 o A M) (hI : RI M) (hf : f < rn M ff_Mod_flits 0) (hn : rn M ff_Mod_notes 0 + rn M ff_Mod_rowSize (rn M ff_Mod_at f) < 800) (hr : rn M ff_Mod_rowSize (rn M ff_Mod_at f) < 512) (hl : rn M ff_Mod_lost 0 < 9000000) (hc : rn M ff_Mod_received 0 < 9000000) (k : ∀ s', rf_ok s' o A (om_receive M f) → rf_fr o A s0 s' → Q none s') : fx_M mm_Mod_receive [vR 22 (some o), vI (nI f)] s0 Q := by
  have hF := rf_fr.rf o A s0
  have h1 := hI.l ff_Mod_flits 0 257 (n := 1) rfl (by omega) rfl (by omega)
  have a1 := hI.l ff_Mod_at f 64 (n := 300) rfl (by omega) rfl (by omega)
  have a2 := hI.l ff_Mod_source f 64 (n := 300) rfl (by omega) rfl (by omega)
  have a3 := hI.l ff_Mod_slot f 8 (n := 300) rfl (by omega) rfl (by omega)
  have a4 := hI.l ff_Mod_tries f 1000 (n := 300) rfl (by omega) rfl (by omega)
  have a5 := hI.l ff_Mod_number f 8 (n := 300) rfl (by omega) rfl (by omega)
  have e1 := hI.e ff_Mod_at f (n := 300) rfl (by omega) (by decide)
  have e2 := hI.e ff_Mod_source f (n := 300) rfl (by omega) (by decide)
  have e3 := hI.e ff_Mod_slot f (n := 300) rfl (by omega) (by decide)
  have e4 := hI.e ff_Mod_tries f (n := 300) rfl (by omega) (by decide)
  have e5 := hI.e ff_Mod_number f (n := 300) rfl (by omega) (by decide)
  have hp : spk M f < 512 := by unfold spk; omega
  obtain ⟨p1, p2⟩ := fx_pow9 (rn M ff_Mod_number f) (by omega)
  refine xx_i ml100 ?_
  refine xx_j ee100_0 rfl trivial ?_
  refine rr_fa hR ee100_1 (by decide) rfl rfl ?_
  refine xx_j ee100_4 rfl trivial ?_
  refine rr_al 300 hR ee100_5 rfl (by omega) ?_
  refine xx_t e1 ?_
  refine xx_j ee100_6 rfl trivial ?_
  refine xx_kb ee100_7 8 rfl ?_
  refine xx_j ee100_9 rfl trivial ?_
  refine rr_fa hR ee100_10 (by decide) rfl rfl ?_
  refine xx_j ee100_13 rfl trivial ?_
  refine rr_al 300 hR ee100_14 rfl (by omega) ?_
  refine xx_t e2 ?_
  first | refine xx_mul ee100_15 ?_ | refine xx_j ee100_15 rfl trivial ?_
  refine xx_j ee100_16 rfl trivial ?_
  refine rr_fa hR ee100_17 (by decide) rfl rfl ?_
  refine xx_j ee100_20 rfl trivial ?_
  refine rr_al 300 hR ee100_21 rfl (by omega) ?_
  refine xx_t e3 ?_
  first | refine xx_add ee100_22 ?_ | refine xx_j ee100_22 rfl trivial ?_
  refine xx_j ee100_23 rfl trivial ?_
  refine xx_j ee100_24 rfl trivial ?_
  refine rr_fa hR ee100_25 (by decide) rfl rfl ?_
  refine xx_j ee100_28 rfl trivial ?_
  refine rr_al 300 hR ee100_29 rfl (by omega) ?_
  refine xx_t e4 ?_
  refine xx_j ee100_30 rfl trivial ?_
  refine xx_k ee100_32 1 rfl ?_
  refine xx_j ee100_33 rfl trivial ?_
  refine rr_fa hR ee100_34 (by decide) rfl rfl ?_
  refine xx_j ee100_37 rfl trivial ?_
  refine rr_al 300 hR ee100_38 rfl (by omega) ?_
  refine xx_t e5 ?_
  refine xx_j ee100_39 rfl trivial ?_
  refine xx_t (fx_sh1 _ (by omega)) ?_
  refine xx_j ee100_40 rfl trivial ?_
  refine xx_j ee100_42 rfl trivial ?_
  refine xx_j ee100_43 rfl trivial ?_
  refine xx_c ee100_44 rfl (q_remove hR hI hf (fun s hR hF2 => ?_))
  have hF := hF.tr hF2
  clear hF2
  have ec := hI.f ff_Mod_received rfl (by decide)
  refine xx_j ee100_47 rfl trivial ?_
  refine xx_j ee100_48 rfl trivial ?_
  refine rr_fi hR ee100_49 rfl rfl rfl ?_
  refine xx_t ec ?_
  refine xx_k ee100_52 1 rfl ?_
  first | refine xx_add ee100_53 ?_ | refine xx_j ee100_53 rfl trivial ?_
  refine rr_pf hR hF ee100_54 rfl rfl (fun s hR hF => ?_)
  have hIr : RI (om_rcv M f) := (hI.rem (f := f) (by omega)).up (b := 10000000) rfl (by omega) (by decide) (by decide)
  have hRr : rf_ok s o A (om_rcv M f) := hR
  clear hR
  have hnr : rn (om_rcv M f) ff_Mod_notes 0 + rn (om_rcv M f) ff_Mod_rowSize (rn M ff_Mod_at f) < 800 := hn
  have hrr : rn (om_rcv M f) ff_Mod_rowSize (rn M ff_Mod_at f) < 512 := hr
  have hlr : rn (om_rcv M f) ff_Mod_lost 0 < 9000000 := hl
  -- behind the joining
  have fin : ∀ s' x6, rf_ok s' o A (om_join (om_rcv M f) (rn M ff_Mod_at f) (spk M f) (rn M ff_Mod_tries f) (rn M ff_Mod_number f)) → rf_fr o A s0 s' → fx_W 100 208 [some (vR 22 (some o)), some (vI (nI f)), some (vI (nI (rn M ff_Mod_at f))), some (vI (nI (spk M f))), some (vI (nI (rn M ff_Mod_tries f))), some (vI (nI (2 ^ rn M ff_Mod_number f))), x6] [] s' Q := by
    intro s' x6 hR hF
    refine xx_j ee100_208 rfl trivial ?_
    refine xx_j ee100_209 rfl trivial ?_
    refine xx_c ee100_210 rfl (q_settle hR (hIr.join a1 hp a5 hrr hlr) a1 (by rw [om_join_notes]; have := om_join_row (M := om_rcv M f) (v := rn M ff_Mod_at f) (p := spk M f) (t := rn M ff_Mod_tries f) (b := rn M ff_Mod_number f) hrr; omega) (fun s2 hR2 hF2 => ?_))
    exact xx_r ee100_213 rfl trivial (k _ hR2 (hF.tr hF2))
  generalize hM1 : om_rcv M f = M1 at hIr hRr hnr hrr hlr fin
  have hR := hRr
  have hI := hIr
  have es := hI.z ff_Mod_asked (spk M f) (n := 512) rfl hp rfl
  refine xx_j ee100_57 rfl trivial ?_
  refine xx_j ee100_58 rfl trivial ?_
  refine xx_j ee100_59 rfl trivial ?_
  refine xx_j ee100_60 rfl trivial ?_
  refine xx_c ee100_62 rfl (q_placeOf hR a1 ?_)
  refine xx_j ee100_65 rfl trivial ?_
  refine xx_j ee100_67 rfl trivial ?_
  refine xx_km ee100_69 rfl ?_
  have has : ∀ (kk : Nat) (M2 : rf_M) s' , kk < 256 → RI M2 → om_join M1 (rn M ff_Mod_at f) (spk M f) (rn M ff_Mod_tries f) (rn M ff_Mod_number f) = fx_up M2 ff_Mod_has kk (nI (rn M2 ff_Mod_has kk ||| 2 ^ rn M ff_Mod_number f)) → rf_ok s' o A M2 → rf_fr o A s0 s' → fx_W 100 128 [some (vR 22 (some o)), some (vI (nI f)), some (vI (nI (rn M ff_Mod_at f))), some (vI (nI (spk M f))), some (vI (nI (rn M ff_Mod_tries f))), some (vI (nI (2 ^ rn M ff_Mod_number f))), some (vI (nI kk))] [] s' Q := by
    intro kk M2 s' hk hI2 hj hR hF
    have e6 := hI2.e ff_Mod_has kk (n := 256) rfl hk (by decide)
    refine xx_j ee100_128 rfl trivial ?_
    refine xx_km ee100_130 rfl ?_
    refine xx_oeq (b := some kk) ee100_131 (fun q hq => by cases hq; omega) (fun q => by cases q) (fun q hq => ?_)
    refine xx_j ee100_134 rfl trivial ?_
    refine rr_fa hR ee100_135 (by decide) rfl rfl ?_
    refine xx_j ee100_138 rfl trivial ?_
    refine xx_j ee100_140 rfl trivial ?_
    refine rr_fa hR ee100_141 (by decide) rfl rfl ?_
    refine xx_j ee100_144 rfl trivial ?_
    refine rr_al 256 hR ee100_146 rfl (by omega) ?_
    refine xx_t e6 ?_
    refine xx_j ee100_147 rfl trivial ?_
    refine xx_j ee100_149 rfl trivial ?_
    refine xx_t (fx_or _ _) ?_
    refine rr_as 256 hR hF ee100_150 rfl (by omega) (fun s hR hF => ?_)
    refine xx_j ee100_151 rfl trivial ?_
    refine fin _ _ ?_ hF
    rw [hj]
    exact hR
  have lost : sp_first (fun k => decide (M1 ff_Mod_whose k = nI (spk M f)) && decide (M1 ff_Mod_whichTry k = nI (rn M ff_Mod_tries f))) (4 * rn M ff_Mod_at f) 4 = none → (bif rn M ff_Mod_tries f == 1 && !rz M1 ff_Mod_asked (spk M f) then semp M1 (rn M ff_Mod_at f) else none) = none → fx_W 100 128 [some (vR 22 (some o)), some (vI (nI f)), some (vI (nI (rn M ff_Mod_at f))), some (vI (nI (spk M f))), some (vI (nI (rn M ff_Mod_tries f))), some (vI (nI (2 ^ rn M ff_Mod_number f))), some (vI fx_neg)] [] s Q := by
    intro q1 q2
    refine xx_j ee100_128 rfl trivial ?_
    refine xx_km ee100_130 rfl ?_
    refine xx_oeq (b := none) ee100_131 (fun q hq => by cases hq) (fun q => ?_) (fun q hq => by cases hq)
    refine xx_j ee100_154 rfl trivial ?_
    refine rr_fa hR ee100_155 (by decide) rfl rfl ?_
    refine xx_j ee100_158 rfl trivial ?_
    refine rr_zl 512 hR ee100_159 rfl (by omega) ?_
    refine xx_t es ?_
    refine xx_nz ee100_160 (fun hz => ?_) (fun hz => ?_)
    · refine fin _ _ ?_ hF
      rw [om_join_l q1 q2, hz]
      exact hR
    · have e7 := hI.e ff_Mod_rowSize (rn M ff_Mod_at f) (n := 64) rfl a1 (by decide)
      have e8 := hI.f ff_Mod_lost rfl (by decide)
      refine xx_j ee100_163 rfl trivial ?_
      refine rr_fa hR ee100_164 (by decide) rfl rfl ?_
      refine xx_j ee100_167 rfl trivial ?_
      refine xx_k ee100_168 1 rfl ?_
      refine xx_t fx_bit_t ?_
      refine rr_zs 512 hR hF ee100_169 rfl (by omega) (fun s hR hF => ?_)
      refine xx_j ee100_170 rfl trivial ?_
      refine rr_fa hR ee100_171 (by decide) rfl rfl ?_
      refine xx_ks ee100_174 512 rfl ?_
      refine xx_j ee100_177 rfl trivial ?_
      first | refine xx_mul ee100_178 ?_ | refine xx_j ee100_178 rfl trivial ?_
      refine xx_j ee100_179 rfl trivial ?_
      refine rr_fa hR ee100_180 (by decide) rfl rfl ?_
      refine xx_j ee100_183 rfl trivial ?_
      refine rr_al 64 hR ee100_184 rfl (by omega) ?_
      refine xx_t e7 ?_
      first | refine xx_add ee100_185 ?_ | refine xx_j ee100_185 rfl trivial ?_
      refine xx_j ee100_186 rfl trivial ?_
      refine rr_as 32768 hR hF ee100_187 rfl (by omega) (fun s hR hF => ?_)
      refine xx_j ee100_188 rfl trivial ?_
      refine rr_fa hR ee100_189 (by decide) rfl rfl ?_
      refine xx_j ee100_192 rfl trivial ?_
      refine xx_j ee100_193 rfl trivial ?_
      refine rr_al 64 hR ee100_194 rfl (by omega) ?_
      refine xx_t e7 ?_
      refine xx_k ee100_195 1 rfl ?_
      first | refine xx_add ee100_196 ?_ | refine xx_j ee100_196 rfl trivial ?_
      refine rr_as 64 hR hF ee100_197 rfl (by omega) (fun s hR hF => ?_)
      have e9 := ((fx_up_ne (f := fx_up (fx_up M1 ff_Mod_asked (spk M f) (fx_bit true)) ff_Mod_row (512 * rn M ff_Mod_at f + rn M1 ff_Mod_rowSize (rn M ff_Mod_at f)) (nI (spk M f))) (x := ff_Mod_rowSize) (y := rn M ff_Mod_at f) (v := nI (rn M1 ff_Mod_rowSize (rn M ff_Mod_at f) + 1)) (g := ff_Mod_lost) (b := 0) (fun q => absurd q.1 (by decide))).trans ((fx_up_ne (fun q => absurd q.1 (by decide))).trans (fx_up_ne (fun q => absurd q.1 (by decide))))).trans e8
      refine xx_j ee100_198 rfl trivial ?_
      refine xx_j ee100_199 rfl trivial ?_
      refine rr_fi hR ee100_200 rfl rfl rfl ?_
      refine xx_t e9 ?_
      refine xx_k ee100_203 1 rfl ?_
      first | refine xx_add ee100_204 ?_ | refine xx_j ee100_204 rfl trivial ?_
      refine rr_pf hR hF ee100_205 rfl rfl (fun s hR hF => ?_)
      refine fin _ _ ?_ hF
      rw [om_join_l q1 q2, hz]
      exact hR
  refine xx_one ee100_70 (fun b hb => by have := (sp_first_lt hb).2.1; omega) (fun b hb => ?_) (fun hb => ?_)
  · have hb2 := (sp_first_lt hb).2.1
    rw [hb]
    exact has b M1 _ (by omega) hI (om_join_k hb) hR hF
  rw [hb]
  refine xx_j ee100_73 rfl trivial ?_
  refine xx_k ee100_75 1 rfl ?_
  refine xx_ne ee100_76 (by omega) (by omega) (fun ht => lost hb (by rw [show (rn M ff_Mod_tries f == 1) = false from by simpa using ht]; rfl)) (fun ht => ?_)
  refine xx_j ee100_79 rfl trivial ?_
  refine rr_fa hR ee100_80 (by decide) rfl rfl ?_
  refine xx_j ee100_83 rfl trivial ?_
  refine rr_zl 512 hR ee100_84 rfl (by omega) ?_
  refine xx_t es ?_
  refine xx_nz ee100_85 (fun hz => lost hb (by rw [hz, Bool.not_true, Bool.and_false]; rfl)) (fun hz => ?_)
  refine xx_j ee100_88 rfl trivial ?_
  refine xx_j ee100_89 rfl trivial ?_
  refine xx_c ee100_90 rfl (q_emptyPlace hR a1 ?_)
  refine xx_km ee100_93 rfl ?_
  refine xx_oeq ee100_94 (fun b hb => by have := (sp_first_lt hb).2.1; omega) (fun h => lost hb (by rw [show semp M1 (rn M ff_Mod_at f) = none from h]; cases (rn M ff_Mod_tries f == 1 && !rz M1 ff_Mod_asked (spk M f)) <;> rfl)) (fun b he => ?_)
  have he' : semp M1 (rn M ff_Mod_at f) = some b := he
  have hb2 := (sp_first_lt he).2.1
  refine xx_j ee100_97 rfl trivial ?_
  refine xx_j ee100_98 rfl trivial ?_
  refine xx_c ee100_99 rfl (q_emptyPlace hR a1 ?_)
  rw [he]
  refine xx_j ee100_102 rfl trivial ?_
  refine xx_j ee100_104 rfl trivial ?_
  refine rr_fa hR ee100_105 (by decide) rfl rfl ?_
  refine xx_j ee100_108 rfl trivial ?_
  refine xx_j ee100_110 rfl trivial ?_
  refine rr_as 256 hR hF ee100_111 rfl (by omega) (fun s hR hF => ?_)
  refine xx_j ee100_112 rfl trivial ?_
  refine rr_fa hR ee100_113 (by decide) rfl rfl ?_
  refine xx_j ee100_116 rfl trivial ?_
  refine xx_k ee100_118 1 rfl ?_
  refine rr_as 256 hR hF ee100_119 rfl (by omega) (fun s hR hF => ?_)
  refine xx_j ee100_120 rfl trivial ?_
  refine rr_fa hR ee100_121 (by decide) rfl rfl ?_
  refine xx_j ee100_124 rfl trivial ?_
  refine xx_k ee100_126 0 rfl ?_
  refine rr_as 256 hR hF ee100_127 rfl (by omega) (fun s hR hF => ?_)
  have hI4 : RI (fx_up (fx_up (fx_up M1 ff_Mod_whose b (nI (spk M f))) ff_Mod_whichTry b (nI 1)) ff_Mod_has b (nI 0)) := ((hI.upw (Or.inr ⟨_, rfl, hp⟩)).up (b := 1000) rfl (by omega) (by decide) (by decide)).up (b := 256) rfl (by omega) (by decide) (by decide)
  refine has b _ _ (by omega) hI4 ?_ hR hF
  rw [rn_same (by omega)]
  refine om_join_e hb ?_
  have q : (rn M ff_Mod_tries f == 1) = true := by simpa using ht
  rw [q, hz]
  exact he'
/-- the first line that no flit at v is on -/
def sfl (M : rf_M) (v : Nat) : Option Nat := sp_first (fun w => !sp_any (fun f => rn M ff_Mod_at f == v && rn M ff_Mod_line f == w) (rn M ff_Mod_flits 0)) 0 4
theorem q_freeLine {v : Nat} (hR : rf_ok s o A M) (hI : RI M) (hv : v < 64) (k : Q (some (vI (oI (sfl M v)))) s) : fx_M mm_Mod_freeLine [vR 22 (some o), vI (nI v)] s Q := by
  have h1 := hI.l ff_Mod_flits 0 257 (n := 1) rfl (by omega) rfl (by omega)
  have e1 := hI.f ff_Mod_flits rfl (by decide)
  refine xx_i ml29 ?_
  refine xx_k ee29_0 0 rfl ?_
  refine xx_j ee29_1 rfl trivial ?_
  have key : ∀ d w x3 x4, w + d = 4 → Q (some (vI (oI (sp_first (fun w => !sp_any (fun f => rn M ff_Mod_at f == v && rn M ff_Mod_line f == w) (rn M ff_Mod_flits 0)) w d)))) s → fx_W 29 2 [some (vR 22 (some o)), some (vI (nI v)), some (vI (nI w)), x3, x4] [] s Q := by
    intro d
    induction d with
    | zero =>
      intro w x3 x4 hw k
      refine xx_j ee29_2 rfl trivial ?_
      refine xx_k ee29_3 4 rfl ?_
      refine xx_ge ee29_4 (by omega) (by omega) (fun h => ?_) (fun h => by omega)
      refine xx_km ee29_71 rfl ?_
      exact xx_ri ee29_72 rt29 k
    | succ d ih =>
      intro w x3 x4 hw k
      refine xx_j ee29_2 rfl trivial ?_
      refine xx_k ee29_3 4 rfl ?_
      refine xx_ge ee29_4 (by omega) (by omega) (fun h => by omega) (fun h => ?_)
      refine xx_k ee29_7 0 rfl ?_
      refine xx_j ee29_8 rfl trivial ?_
      refine xx_k ee29_9 0 rfl ?_
      refine xx_j ee29_10 rfl trivial ?_
      have inner : ∀ e j, j + e = rn M ff_Mod_flits 0 → fx_W 29 12 [some (vR 22 (some o)), some (vI (nI v)), some (vI (nI w)), some (vI (fx_bit (sp_any (fun f => rn M ff_Mod_at f == v && rn M ff_Mod_line f == w) j))), some (vI (nI j))] [] s Q := by
        intro e
        induction e with
        | zero =>
          intro j hj
          refine xx_j ee29_12 rfl trivial ?_
          refine xx_j ee29_14 rfl trivial ?_
          refine rr_fi hR ee29_15 rfl rfl rfl ?_
          refine xx_t e1 ?_
          refine xx_ge ee29_18 (by omega) (by omega) (fun h => ?_) (fun h => by omega)
          have hj' : j = rn M ff_Mod_flits 0 := by omega
          subst hj'
          refine xx_j ee29_59 rfl trivial ?_
          refine xx_nz ee29_60 (fun hz => ?_) (fun hz => ?_)
          · first | refine xx_inc ee29_65 rfl ?_ | refine xx_j ee29_65 rfl trivial ?_
            refine xx_j ee29_68 rfl trivial ?_
            exact ih (w + 1) _ _ (by omega) (by simpa [sp_first, hz] using k)
          · refine xx_j ee29_63 rfl trivial ?_
            refine xx_ri ee29_64 rt29 ?_
            simpa [sp_first, hz, oI] using k
        | succ e ihe =>
          intro j hj
          have h2 := hI.l ff_Mod_at j 64 (n := 300) rfl (by omega) rfl (by omega)
          have h3 := hI.l ff_Mod_line j 4 (n := 300) rfl (by omega) rfl (by omega)
          have nxt := ihe (j + 1) (by omega)
          have set1 : ∀ b : Bool, (sp_any (fun f => rn M ff_Mod_at f == v && rn M ff_Mod_line f == w) (j + 1)) = b → fx_W 29 52 [some (vR 22 (some o)), some (vI (nI v)), some (vI (nI w)), some (vI (fx_bit (sp_any (fun f => rn M ff_Mod_at f == v && rn M ff_Mod_line f == w) j))), some (vI (nI j))] [vI (fx_bit b)] s Q := by
            intro b hb
            refine xx_j ee29_52 rfl trivial ?_
            first | refine xx_inc ee29_53 rfl ?_ | refine xx_j ee29_53 rfl trivial ?_
            refine xx_j ee29_56 rfl trivial ?_
            rw [hb] at nxt
            exact nxt
          have one : (sp_any (fun f => rn M ff_Mod_at f == v && rn M ff_Mod_line f == w) (j + 1)) = true → fx_W 29 47 [some (vR 22 (some o)), some (vI (nI v)), some (vI (nI w)), some (vI (fx_bit (sp_any (fun f => rn M ff_Mod_at f == v && rn M ff_Mod_line f == w) j))), some (vI (nI j))] [] s Q := by
            intro hb
            refine xx_k ee29_47 1 rfl ?_
            refine xx_j ee29_48 rfl trivial ?_
            exact xx_t fx_bit_t (set1 true hb)
          have zero : (sp_any (fun f => rn M ff_Mod_at f == v && rn M ff_Mod_line f == w) (j + 1)) = false → fx_W 29 51 [some (vR 22 (some o)), some (vI (nI v)), some (vI (nI w)), some (vI (fx_bit (sp_any (fun f => rn M ff_Mod_at f == v && rn M ff_Mod_line f == w) j))), some (vI (nI j))] [] s Q := by
            intro hb
            refine xx_k ee29_51 0 rfl ?_
            exact xx_t fx_bit_f (set1 false hb)
          refine xx_j ee29_12 rfl trivial ?_
          refine xx_j ee29_14 rfl trivial ?_
          refine rr_fi hR ee29_15 rfl rfl rfl ?_
          refine xx_t e1 ?_
          refine xx_ge ee29_18 (by omega) (by omega) (fun h => by omega) (fun h => ?_)
          refine xx_j ee29_21 rfl trivial ?_
          refine xx_nz ee29_22 (fun hz => one (by simp only [sp_any, hz, Bool.true_or])) (fun hz => ?_)
          refine xx_j ee29_25 rfl trivial ?_
          refine rr_fa hR ee29_26 (by decide) rfl rfl ?_
          refine xx_j ee29_29 rfl trivial ?_
          refine rr_al 300 hR ee29_31 rfl (by omega) ?_
          refine xx_t (hI.e ff_Mod_at j (n := 300) rfl (by omega) (by decide)) ?_
          refine xx_j ee29_32 rfl trivial ?_
          refine xx_ne ee29_33 (by omega) (by omega) (fun q => zero (by simp [sp_any, hz, q])) (fun q1 => ?_)
          refine xx_j ee29_36 rfl trivial ?_
          refine rr_fa hR ee29_37 (by decide) rfl rfl ?_
          refine xx_j ee29_40 rfl trivial ?_
          refine rr_al 300 hR ee29_42 rfl (by omega) ?_
          refine xx_t (hI.e ff_Mod_line j (n := 300) rfl (by omega) (by decide)) ?_
          refine xx_j ee29_43 rfl trivial ?_
          refine xx_ne ee29_44 (by omega) (by omega) (fun q => zero (by simp [sp_any, hz, q])) (fun q2 => one (by simp [sp_any, q1, q2]))
      exact xx_q (inner (rn M ff_Mod_flits 0) 0 (by omega)) (fun _ _ q => q)
  exact key 4 0 _ _ (by omega) k
end
