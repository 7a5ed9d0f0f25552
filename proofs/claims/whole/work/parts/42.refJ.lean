/-! THE REFERENCE: places are settled -/
/-- from base on, n entries move down by one -/
def om_sh (M : rf_M) (f base n : Nat) : rf_M := fun g i => if g = f ∧ base ≤ i ∧ i < base + n then M f (i + 1) else M g i
theorem om_sh_0 (M : rf_M) (f base : Nat) : om_sh M f base 0 = M := by
  funext g i
  unfold om_sh
  rw [if_neg (by omega)]
theorem om_sh_next (M : rf_M) (f base j : Nat) : fx_up (om_sh M f base j) f (base + j) (M f (base + j + 1)) = om_sh M f base (j + 1) := by
  funext g i
  by_cases e : g = f ∧ i = base + j
  · obtain ⟨e1, e2⟩ := e
    subst e1; subst e2
    rw [fx_up_same]
    unfold om_sh
    rw [if_pos ⟨rfl, by omega, by omega⟩]
  · rw [fx_up_ne e]
    unfold om_sh
    by_cases q : g = f ∧ base ≤ i ∧ i < base + j
    · rw [if_pos q, if_pos ⟨q.1, q.2.1, by omega⟩]
    · rw [if_neg q, if_neg (fun h => q ⟨h.1, h.2.1, by
        have : i ≠ base + j := fun w => e ⟨h.1, w⟩
        omega⟩)]
theorem om_sh_ne {M : rf_M} {f base n g i : Nat} (h : g ≠ f) : om_sh M f base n g i = M g i := by
  unfold om_sh
  rw [if_neg (fun q => h q.1)]
theorem om_sh_out {M : rf_M} {f base n i : Nat} (h : i < base ∨ base + n ≤ i) : om_sh M f base n f i = M f i := by
  unfold om_sh
  rw [if_neg (by omega)]
theorem om_sh_in {M : rf_M} {f base n i : Nat} (h1 : base ≤ i) (h2 : i < base + n) : om_sh M f base n f i = M f (i + 1) := by
  unfold om_sh
  rw [if_pos ⟨rfl, h1, h2⟩]
theorem RI.sh {M : rf_M} {f base n l : Nat} (h : RI M) (hl : ri_n f = l) (hn : base + n < l) (h2 : f ≠ ff_Mod_whose) (h3 : f ≠ ff_Mod_way) : RI (om_sh M f base n) := by
  refine ⟨fun g i hg hi => ?_, fun i hi => ?_, fun i hi => ?_⟩
  · by_cases e : g = f ∧ base ≤ i ∧ i < base + n
    · obtain ⟨e1, e2, e3⟩ := e
      subst e1
      have := h.1 g (i + 1) hg (by rw [hl]; omega)
      unfold rb rn at *
      rw [om_sh_in e2 e3]
      exact this
    · refine (h.1 g i hg hi).same ?_
      unfold om_sh
      rw [if_neg e]
  · have e : om_sh M f base n ff_Mod_whose i = M ff_Mod_whose i := om_sh_ne h2.symm
    rw [e]
    exact (h.2.1 i hi).imp id (fun q => q.same e)
  · have e : om_sh M f base n ff_Mod_way i = M ff_Mod_way i := om_sh_ne h3.symm
    rw [e]
    exact (h.2.2 i hi).imp id (fun q => q.same e)
theorem fx_sh1 : ∀ n, n < 9 → nI 1 <<< (nI n &&& 31) = nI (2 ^ n) := by decide
theorem fx_pow9 : ∀ n, n < 9 → 0 < 2 ^ n ∧ 2 ^ n ≤ 256 := by decide
section
variable {s : fx_S} {Q : fx_Q} {o : Nat} {A : Nat → Nat} {M : rf_M}
/-- the packet in place k (of whom it is said that there is one) is whole, and there is room for it -/
def sfull (M : rf_M) (v k : Nat) : Bool := !decide (M ff_Mod_whose k = fx_neg) && !(rn M ff_Mod_readySize v == 4) && (rn M ff_Mod_has k == 2 ^ rn M ff_Mod_lengths (rn M ff_Mod_whose k) - 1)
/-- the packet p of place k becomes ready at v -/
def om_ready (M : rf_M) (v k p : Nat) : rf_M :=
  let r := 4 * v + rn M ff_Mod_readySize v
  fx_up (om_note (fx_up (fx_up (fx_up (fx_up (fx_up M ff_Mod_readyTag r (M ff_Mod_tags p)) ff_Mod_readySource r (nI (p / 8))) ff_Mod_readyLength r (nI (rn M ff_Mod_lengths p))) ff_Mod_readyTry r (nI (rn M ff_Mod_whichTry k))) ff_Mod_readySize v (nI (rn M ff_Mod_readySize v + 1))) v p true) ff_Mod_whose k fx_neg
def om_setA (v : Nat) : Nat → Nat → rf_M → rf_M
  | 0, _, M => M
  | d + 1, k, M => om_setA v d (k + 1) (bif sfull M v k then om_ready M v k (rn M ff_Mod_whose k) else M)
/-- place k is kept for the first one of the row -/
def om_fill (M : rf_M) (v k : Nat) : rf_M :=
  let p := rn M ff_Mod_row (512 * v)
  om_sh (fx_up (om_note (fx_up (fx_up (fx_up M ff_Mod_whose k (nI p)) ff_Mod_whichTry k (nI 2)) ff_Mod_has k (nI 0)) v p false) ff_Mod_rowSize v (nI (rn M ff_Mod_rowSize v - 1))) ff_Mod_row (512 * v) (rn M ff_Mod_rowSize v - 1)
def semp (M : rf_M) (v : Nat) : Option Nat := sp_first (fun k => decide (M ff_Mod_whose k = fx_neg)) (4 * v) 4
def om_setB (v : Nat) : Nat → rf_M → rf_M
  | 0, M => M
  | n + 1, M => match semp M v with
    | none => M
    | some k => om_setB v n (om_fill M v k)
def om_settle (M : rf_M) (v : Nat) : rf_M :=
  let M1 := om_setA v 4 (4 * v) M
  om_setB v (rn M1 ff_Mod_rowSize v) M1
theorem RI.note {v p : Nat} {d : Bool} (hI : RI M) (hv : v < 64) (hp : p < 512) (hn : rn M ff_Mod_notes 0 < 1000) : RI (om_note M v p d) := by
  have h1 := hI.l ff_Mod_cycle 0 1000000 (n := 1) rfl (by omega) rfl (by omega)
  have h2 := hI.l ff_Mod_away (64 * v + p / 8) 1001 (n := 4096) rfl (by omega) rfl (by omega)
  exact (((hI.up (b := 512) rfl hp (by decide) (by decide)).upz rfl (by decide) (by decide)).up (b := 2000000) rfl (by omega) (by decide) (by decide)).up (b := 1001) rfl (by omega) (by decide) (by decide)
theorem RI.ready {v k p : Nat} (hI : RI M) (hv : v < 64) (hk : k < 256) (hp : p < 512) (hr : rn M ff_Mod_readySize v < 4) (hn : rn M ff_Mod_notes 0 < 1000) : RI (om_ready M v k p) := by
  have h1 := hI.l ff_Mod_lengths p 9 (n := 512) rfl hp rfl (by omega)
  have h2 := hI.l ff_Mod_whichTry k 1000 (n := 256) rfl hk rfl (by omega)
  refine RI.upw (RI.note ?_ hv hp hn) (Or.inl rfl)
  exact ((((hI.raw rfl (by decide) (by decide)).up (b := 64) rfl (by omega) (by decide) (by decide)).up (b := 9) rfl (by omega) (by decide) (by decide)).up (b := 1000) rfl (by omega) (by decide) (by decide)).up (b := 5) rfl (by omega) (by decide) (by decide)
theorem RI.fill {v k : Nat} (hI : RI M) (hv : v < 64) (hr : 0 < rn M ff_Mod_rowSize v) (hn : rn M ff_Mod_notes 0 < 1000) : RI (om_fill M v k) := by
  have h1 := hI.l ff_Mod_row (512 * v) 512 (n := 32768) rfl (by omega) rfl (by omega)
  have h2 := hI.l ff_Mod_rowSize v 513 (n := 64) rfl hv rfl (by omega)
  refine RI.sh (l := 32768) ?_ rfl (by omega) (by decide) (by decide)
  refine RI.up (b := 513) ?_ rfl (by omega) (by decide) (by decide)
  refine RI.note ?_ hv h1 hn
  exact ((hI.upw (Or.inr ⟨_, rfl, h1⟩)).up (b := 1000) rfl (by omega) (by decide) (by decide)).up (b := 256) rfl (by omega) (by decide) (by decide)
theorem rn_note {v p : Nat} {d : Bool} (hn : rn M ff_Mod_notes 0 < 1000) : rn (om_note M v p d) ff_Mod_notes 0 = rn M ff_Mod_notes 0 + 1 := rn_same (by omega)
theorem rn_fill_r {v k : Nat} (hr : rn M ff_Mod_rowSize v < 513) : rn (om_fill M v k) ff_Mod_rowSize v = rn M ff_Mod_rowSize v - 1 := by
  have e : om_fill M v k ff_Mod_rowSize v = nI (rn M ff_Mod_rowSize v - 1) := (om_sh_ne (by decide)).trans (fx_up_same _ _ _ _)
  exact rn_of e (by omega)
theorem rn_fill_n {v k : Nat} (hn : rn M ff_Mod_notes 0 < 1000) : rn (om_fill M v k) ff_Mod_notes 0 = rn M ff_Mod_notes 0 + 1 := by
  have e : om_fill M v k ff_Mod_notes 0 = nI (rn M ff_Mod_notes 0 + 1) := (om_sh_ne (by decide)).trans (fx_up_same (fun _ _ => 0) ff_Mod_notes 0 _)
  exact rn_of e (by omega)
theorem rn_ready_n {v k p : Nat} (hn : rn M ff_Mod_notes 0 < 1000) : rn (om_ready M v k p) ff_Mod_notes 0 = rn M ff_Mod_notes 0 + 1 := rn_of (fx_up_same (fun _ _ => 0) ff_Mod_notes 0 _) (by omega)
theorem q_settle {s0 : fx_S} {v : Nat} (hR : rf_ok s0 o A M) (hI : RI M) (hv : v < 64) (hn : rn M ff_Mod_notes 0 + rn M ff_Mod_rowSize v < 900) (k : ∀ s', rf_ok s' o A (om_settle M v) → rf_fr o A s0 s' → Q none s') : fx_M mm_Mod_settle [vR 22 (some o), vI (nI v)] s0 Q := by
  have hF := rf_fr.rf o A s0
  refine xx_i ml80 ?_
  -- the row
  have rows : ∀ n (M' : rf_M) s' x2 x3 x4, rn M' ff_Mod_rowSize v = n → RI M' → rn M' ff_Mod_notes 0 + n < 1000 → rf_ok s' o A M' → rf_fr o A s0 s' → (∀ s2, rf_ok s2 o A (om_setB v n M') → rf_fr o A s0 s2 → Q none s2) → fx_W 80 149 [some (vR 22 (some o)), some (vI (nI v)), x2, x3, x4] [] s' Q := by
    intro n
    induction n with
    | zero =>
      intro M' s' x2 x3 x4 hn hI hN hR hF k
      have e1 := hI.e ff_Mod_rowSize v (n := 64) rfl hv (by decide)
      refine xx_j ee80_149 rfl trivial ?_
      refine rr_fa hR ee80_150 (by decide) rfl rfl ?_
      refine xx_j ee80_153 rfl trivial ?_
      refine rr_al 64 hR ee80_154 rfl (by omega) ?_
      refine xx_t e1 ?_
      refine xx_kle ee80_155 (by omega) (fun h => ?_) (fun h => by omega)
      exact xx_r ee80_276 rfl trivial (k _ hR hF)
    | succ n ih =>
      intro M' s' x2 x3 x4 hn hI hN hR hF k
      have e1 := hI.e ff_Mod_rowSize v (n := 64) rfl hv (by decide)
      have r1 := hI.l ff_Mod_rowSize v 513 (n := 64) rfl hv rfl (by omega)
      refine xx_j ee80_149 rfl trivial ?_
      refine rr_fa hR ee80_150 (by decide) rfl rfl ?_
      refine xx_j ee80_153 rfl trivial ?_
      refine rr_al 64 hR ee80_154 rfl (by omega) ?_
      refine xx_t e1 ?_
      refine xx_kle ee80_155 (by omega) (fun h => by omega) (fun h => ?_)
      refine xx_j ee80_158 rfl trivial ?_
      refine xx_j ee80_159 rfl trivial ?_
      refine xx_c ee80_160 rfl (q_emptyPlace hR hv ?_)
      refine xx_km ee80_163 rfl ?_
      refine xx_oeq ee80_164 (fun b hb => by have := (sp_first_lt hb).2.1; omega) (fun hb => ?_) (fun b hb => ?_)
      · have hb' : semp M' v = none := hb
        simp only [om_setB, hb'] at k
        exact xx_r ee80_276 rfl trivial (k _ hR hF)
      have hb' : semp M' v = some b := hb
      have hb2 := (sp_first_lt hb).2.1
      simp only [om_setB, hb'] at k
      refine xx_j ee80_167 rfl trivial ?_
      refine xx_j ee80_168 rfl trivial ?_
      refine xx_c ee80_169 rfl (q_emptyPlace hR hv ?_)
      have e2 := hI.e ff_Mod_row (512 * v) (n := 32768) rfl (by omega) (by decide)
      have r2 := hI.l ff_Mod_row (512 * v) 512 (n := 32768) rfl (by omega) rfl (by omega)
      refine xx_j ee80_172 rfl trivial ?_
      rw [hb]
      refine xx_j ee80_173 rfl trivial ?_
      refine rr_fa hR ee80_174 (by decide) rfl rfl ?_
      refine xx_j ee80_177 rfl trivial ?_
      refine xx_j ee80_178 rfl trivial ?_
      refine rr_fa hR ee80_179 (by decide) rfl rfl ?_
      refine xx_ks ee80_182 512 rfl ?_
      refine xx_j ee80_185 rfl trivial ?_
      first | refine xx_mul ee80_186 ?_ | refine xx_j ee80_186 rfl trivial ?_
      refine rr_al 32768 hR ee80_187 rfl (by omega) ?_
      refine xx_t e2 ?_
      refine rr_as 256 hR hF ee80_188 rfl (by omega) (fun s hR hF => ?_)
      refine xx_j ee80_189 rfl trivial ?_
      refine rr_fa hR ee80_190 (by decide) rfl rfl ?_
      refine xx_j ee80_193 rfl trivial ?_
      refine xx_k ee80_194 2 rfl ?_
      refine rr_as 256 hR hF ee80_195 rfl (by omega) (fun s hR hF => ?_)
      refine xx_j ee80_196 rfl trivial ?_
      refine rr_fa hR ee80_197 (by decide) rfl rfl ?_
      refine xx_j ee80_200 rfl trivial ?_
      refine xx_k ee80_201 0 rfl ?_
      refine rr_as 256 hR hF ee80_202 rfl (by omega) (fun s hR hF => ?_)
      have hI3 : RI (fx_up (fx_up (fx_up M' ff_Mod_whose b (nI (rn M' ff_Mod_row (512 * v)))) ff_Mod_whichTry b (nI 2)) ff_Mod_has b (nI 0)) := ((hI.upw (Or.inr ⟨_, rfl, r2⟩)).up (b := 1000) rfl (by omega) (by decide) (by decide)).up (b := 256) rfl (by omega) (by decide) (by decide)
      refine xx_j ee80_203 rfl trivial ?_
      refine xx_j ee80_204 rfl trivial ?_
      refine xx_j ee80_205 rfl trivial ?_
      refine rr_fa hR ee80_206 (by decide) rfl rfl ?_
      refine xx_ks ee80_209 512 rfl ?_
      refine xx_j ee80_212 rfl trivial ?_
      first | refine xx_mul ee80_213 ?_ | refine xx_j ee80_213 rfl trivial ?_
      refine rr_al 32768 hR ee80_214 rfl (by omega) ?_
      refine xx_t e2 ?_
      refine xx_k ee80_215 0 rfl ?_
      refine xx_t fx_bit_f ?_
      refine xx_c ee80_216 rfl (q_note hR hI3 hv r2 (fun s hR hF2 => ?_))
      have hF := hF.tr hF2
      clear hF2
      refine xx_j ee80_219 rfl trivial ?_
      refine rr_fa hR ee80_220 (by decide) rfl rfl ?_
      refine xx_j ee80_223 rfl trivial ?_
      refine xx_j ee80_224 rfl trivial ?_
      refine rr_al 64 hR ee80_225 rfl (by omega) ?_
      refine xx_t e1 ?_
      refine xx_k ee80_226 1 rfl ?_
      refine xx_sub ee80_227 (by omega) ?_
      refine rr_as 64 hR hF ee80_228 rfl (by omega) (fun s hR hF => ?_)
      refine xx_k ee80_229 0 rfl ?_
      refine xx_j ee80_230 rfl trivial ?_
      generalize hX : fx_up (om_note (fx_up (fx_up (fx_up M' ff_Mod_whose b (nI (rn M' ff_Mod_row (512 * v)))) ff_Mod_whichTry b (nI 2)) ff_Mod_has b (nI 0)) v (rn M' ff_Mod_row (512 * v)) false) ff_Mod_rowSize v (nI (rn M' ff_Mod_rowSize v - 1)) = X at hR
      have hXf : om_fill M' v b = om_sh X ff_Mod_row (512 * v) (rn M' ff_Mod_rowSize v - 1) := by rw [← hX]; rfl
      have eX : X ff_Mod_rowSize v = nI (rn M' ff_Mod_rowSize v - 1) := by rw [← hX]; exact fx_up_same _ _ _ _
      have sh : ∀ d j (s' : fx_S) x4, j + d = rn M' ff_Mod_rowSize v - 1 → rf_ok s' o A (om_sh X ff_Mod_row (512 * v) j) → rf_fr o A s0 s' → fx_W 80 231 [some (vR 22 (some o)), some (vI (nI v)), some (vI (nI b)), some (vI (nI j)), x4] [] s' Q := by
        intro d
        induction d with
        | zero =>
          intro j s' x4 hj hR hF
          refine xx_j ee80_231 rfl trivial ?_
          refine xx_j ee80_232 rfl trivial ?_
          refine rr_fa hR ee80_233 (by decide) rfl rfl ?_
          refine xx_j ee80_236 rfl trivial ?_
          refine rr_al 64 hR ee80_237 rfl (by omega) ?_
          refine xx_t ((om_sh_ne (by decide)).trans eX) ?_
          refine xx_ge ee80_238 (by omega) (by omega) (fun h => ?_) (fun h => by omega)
          refine xx_j ee80_273 rfl trivial ?_
          rw [show j = rn M' ff_Mod_rowSize v - 1 by omega, ← hXf] at hR
          exact ih (om_fill M' v b) s' _ _ _ (by rw [rn_fill_r r1]; omega) (hI.fill hv (by omega) (by omega)) (by rw [rn_fill_n (by omega)]; omega) hR hF k
        | succ d ihd =>
          intro j s' x4 hj hR hF
          refine xx_j ee80_231 rfl trivial ?_
          refine xx_j ee80_232 rfl trivial ?_
          refine rr_fa hR ee80_233 (by decide) rfl rfl ?_
          refine xx_j ee80_236 rfl trivial ?_
          refine rr_al 64 hR ee80_237 rfl (by omega) ?_
          refine xx_t ((om_sh_ne (by decide)).trans eX) ?_
          refine xx_ge ee80_238 (by omega) (by omega) (fun h => by omega) (fun h => ?_)
          refine xx_j ee80_241 rfl trivial ?_
          refine rr_fa hR ee80_242 (by decide) rfl rfl ?_
          refine xx_ks ee80_245 512 rfl ?_
          refine xx_j ee80_248 rfl trivial ?_
          first | refine xx_mul ee80_249 ?_ | refine xx_j ee80_249 rfl trivial ?_
          refine xx_j ee80_250 rfl trivial ?_
          first | refine xx_add ee80_251 ?_ | refine xx_j ee80_251 rfl trivial ?_
          refine xx_j ee80_252 rfl trivial ?_
          refine rr_fa hR ee80_253 (by decide) rfl rfl ?_
          refine xx_ks ee80_256 512 rfl ?_
          refine xx_j ee80_259 rfl trivial ?_
          first | refine xx_mul ee80_260 ?_ | refine xx_j ee80_260 rfl trivial ?_
          refine xx_j ee80_261 rfl trivial ?_
          first | refine xx_add ee80_262 ?_ | refine xx_j ee80_262 rfl trivial ?_
          refine xx_k ee80_263 1 rfl ?_
          first | refine xx_add ee80_264 ?_ | refine xx_j ee80_264 rfl trivial ?_
          refine rr_al 32768 hR ee80_265 rfl (by omega) ?_
          refine xx_t (om_sh_out (Or.inr (by omega))) ?_
          refine rr_as 32768 hR hF ee80_266 rfl (by omega) (fun s hR hF => ?_)
          rw [om_sh_next] at hR
          first | refine xx_inc ee80_267 rfl ?_ | refine xx_j ee80_267 rfl trivial ?_
          refine xx_j ee80_270 rfl trivial ?_
          exact ihd (j + 1) _ x4 (by omega) hR hF
      rw [← om_sh_0 X ff_Mod_row (512 * v)] at hR
      exact sh (rn M' ff_Mod_rowSize v - 1) 0 _ _ (by omega) hR hF
  -- the places
  have places : ∀ d j (M' : rf_M) s' x3 x4, j + d = 4 * v + 4 → RI M' → rn M' ff_Mod_notes 0 + rn M' ff_Mod_rowSize v + d < 910 → rf_ok s' o A M' → rf_fr o A s0 s' → (∀ s2, rf_ok s2 o A (let M1 := om_setA v d j M'; om_setB v (rn M1 ff_Mod_rowSize v) M1) → rf_fr o A s0 s2 → Q none s2) → fx_W 80 4 [some (vR 22 (some o)), some (vI (nI v)), some (vI (nI j)), x3, x4] [] s' Q := by
    intro d
    induction d with
    | zero =>
      intro j M' s' x3 x4 hj hI hN hR hF k
      have r1 := hI.l ff_Mod_rowSize v 513 (n := 64) rfl hv rfl (by omega)
      refine xx_j ee80_4 rfl trivial ?_
      refine xx_k ee80_5 4 rfl ?_
      refine xx_j ee80_6 rfl trivial ?_
      first | refine xx_mul ee80_7 ?_ | refine xx_j ee80_7 rfl trivial ?_
      refine xx_k ee80_8 4 rfl ?_
      first | refine xx_add ee80_9 ?_ | refine xx_j ee80_9 rfl trivial ?_
      refine xx_ge ee80_10 (by omega) (by omega) (fun h => ?_) (fun h => by omega)
      exact rows (rn M' ff_Mod_rowSize v) M' s' _ _ _ rfl hI (by omega) hR hF k
    | succ d ih =>
      intro j M' s' x3 x4 hj hI hN hR hF k
      refine xx_j ee80_4 rfl trivial ?_
      refine xx_k ee80_5 4 rfl ?_
      refine xx_j ee80_6 rfl trivial ?_
      first | refine xx_mul ee80_7 ?_ | refine xx_j ee80_7 rfl trivial ?_
      refine xx_k ee80_8 4 rfl ?_
      first | refine xx_add ee80_9 ?_ | refine xx_j ee80_9 rfl trivial ?_
      refine xx_ge ee80_10 (by omega) (by omega) (fun h => by omega) (fun h => ?_)
      have no : ∀ x4, sfull M' v j = false → fx_W 80 143 [some (vR 22 (some o)), some (vI (nI v)), some (vI (nI j)), some (vI (M' ff_Mod_whose j)), x4] [] s' Q := by
        intro x4 hf
        simp only [om_setA, hf, cond_false] at k
        first | refine xx_inc ee80_143 rfl ?_ | refine xx_j ee80_143 rfl trivial ?_
        refine xx_j ee80_146 rfl trivial ?_
        exact ih (j + 1) M' s' _ _ (by omega) hI (by omega) hR hF k
      refine xx_j ee80_13 rfl trivial ?_
      refine rr_fa hR ee80_14 (by decide) rfl rfl ?_
      refine xx_j ee80_17 rfl trivial ?_
      refine rr_al 256 hR ee80_18 rfl (by omega) ?_
      refine xx_j ee80_19 rfl trivial ?_
      refine xx_j ee80_20 rfl trivial ?_
      refine xx_km ee80_21 rfl ?_
      refine xx_b ee80_22 rfl (fun h => no _ (by simp [sfull, show M' ff_Mod_whose j = fx_neg from h])) (fun hw => ?_)
      have hw' : ¬ M' ff_Mod_whose j = fx_neg := hw
      obtain ⟨ew, rw_⟩ := (hI.2.1 j (by omega)).resolve_left hw'
      have e1 := hI.e ff_Mod_readySize v (n := 64) rfl hv (by decide)
      have r1 := hI.l ff_Mod_readySize v 5 (n := 64) rfl hv rfl (by omega)
      have e2 := hI.e ff_Mod_has j (n := 256) rfl (by omega) (by decide)
      have r2 := hI.l ff_Mod_has j 256 (n := 256) rfl (by omega) rfl (by omega)
      have e3 := hI.e ff_Mod_lengths (rn M' ff_Mod_whose j) (n := 512) rfl rw_ (by decide)
      have r3 := hI.l ff_Mod_lengths (rn M' ff_Mod_whose j) 9 (n := 512) rfl rw_ rfl (by omega)
      have e4 := hI.e ff_Mod_whichTry j (n := 256) rfl (by omega) (by decide)
      obtain ⟨p1, p2⟩ := fx_pow9 _ r3
      refine xx_j ee80_25 rfl trivial ?_
      refine rr_fa hR ee80_26 (by decide) rfl rfl ?_
      refine xx_j ee80_29 rfl trivial ?_
      refine rr_al 64 hR ee80_30 rfl (by omega) ?_
      refine xx_t e1 ?_
      refine xx_k ee80_31 4 rfl ?_
      refine xx_eq ee80_32 (by omega) (by omega) (fun h => no _ (by simp [sfull, h])) (fun h4 => ?_)
      refine xx_j ee80_35 rfl trivial ?_
      refine rr_fa hR ee80_36 (by decide) rfl rfl ?_
      refine xx_j ee80_39 rfl trivial ?_
      refine rr_al 256 hR ee80_40 rfl (by omega) ?_
      refine xx_t e2 ?_
      refine xx_k ee80_41 1 rfl ?_
      refine xx_j ee80_42 rfl trivial ?_
      refine rr_fa hR ee80_43 (by decide) rfl rfl ?_
      refine xx_j ee80_46 rfl trivial ?_
      refine xx_t ew ?_
      refine rr_al 512 hR ee80_47 rfl (by omega) ?_
      refine xx_t e3 ?_
      refine xx_j ee80_48 rfl trivial ?_
      refine xx_t (fx_sh1 _ r3) ?_
      refine xx_k ee80_49 1 rfl ?_
      refine xx_sub ee80_50 (by omega) ?_
      refine xx_eq ee80_51 (by omega) (by omega) (fun h5 => ?_) (fun h5 => ?_)
      · have hf : sfull M' v j = true := by simp [sfull, hw', h4, h5]
        simp only [om_setA, hf, cond_true] at k
        refine xx_k ee80_57 4 rfl ?_
        refine xx_j ee80_58 rfl trivial ?_
        first | refine xx_mul ee80_59 ?_ | refine xx_j ee80_59 rfl trivial ?_
        refine xx_j ee80_60 rfl trivial ?_
        refine rr_fa hR ee80_61 (by decide) rfl rfl ?_
        refine xx_j ee80_64 rfl trivial ?_
        refine rr_al 64 hR ee80_65 rfl (by omega) ?_
        refine xx_t e1 ?_
        first | refine xx_add ee80_66 ?_ | refine xx_j ee80_66 rfl trivial ?_
        refine xx_j ee80_67 rfl trivial ?_
        refine xx_j ee80_69 rfl trivial ?_
        refine rr_fa hR ee80_70 (by decide) rfl rfl ?_
        refine xx_j ee80_73 rfl trivial ?_
        refine xx_j ee80_75 rfl trivial ?_
        refine rr_fa hR ee80_76 (by decide) rfl rfl ?_
        refine xx_j ee80_79 rfl trivial ?_
        refine xx_t ew ?_
        refine rr_al 512 hR ee80_80 rfl (by omega) ?_
        refine rr_as 256 hR hF ee80_81 rfl (by omega) (fun s hR hF => ?_)
        refine xx_j ee80_82 rfl trivial ?_
        refine rr_fa hR ee80_83 (by decide) rfl rfl ?_
        refine xx_j ee80_86 rfl trivial ?_
        refine xx_j ee80_88 rfl trivial ?_
        refine xx_t ew ?_
        refine xx_kb ee80_89 8 rfl ?_
        refine xx_div ee80_91 (by omega) (by omega) (by omega) ?_
        refine rr_as 256 hR hF ee80_92 rfl (by omega) (fun s hR hF => ?_)
        refine xx_j ee80_93 rfl trivial ?_
        refine rr_fa hR ee80_94 (by decide) rfl rfl ?_
        refine xx_j ee80_97 rfl trivial ?_
        refine xx_j ee80_99 rfl trivial ?_
        refine rr_fa hR ee80_100 (by decide) rfl rfl ?_
        refine xx_j ee80_103 rfl trivial ?_
        refine xx_t ew ?_
        refine rr_al 512 hR ee80_104 rfl (by omega) ?_
        refine xx_t e3 ?_
        refine rr_as 256 hR hF ee80_105 rfl (by omega) (fun s hR hF => ?_)
        refine xx_j ee80_106 rfl trivial ?_
        refine rr_fa hR ee80_107 (by decide) rfl rfl ?_
        refine xx_j ee80_110 rfl trivial ?_
        refine xx_j ee80_112 rfl trivial ?_
        refine rr_fa hR ee80_113 (by decide) rfl rfl ?_
        refine xx_j ee80_116 rfl trivial ?_
        refine rr_al 256 hR ee80_117 rfl (by omega) ?_
        refine xx_t e4 ?_
        refine rr_as 256 hR hF ee80_118 rfl (by omega) (fun s hR hF => ?_)
        refine xx_j ee80_119 rfl trivial ?_
        refine rr_fa hR ee80_120 (by decide) rfl rfl ?_
        refine xx_j ee80_123 rfl trivial ?_
        refine xx_j ee80_124 rfl trivial ?_
        refine rr_al 64 hR ee80_125 rfl (by omega) ?_
        refine xx_t e1 ?_
        refine xx_k ee80_126 1 rfl ?_
        first | refine xx_add ee80_127 ?_ | refine xx_j ee80_127 rfl trivial ?_
        refine rr_as 64 hR hF ee80_128 rfl (by omega) (fun s hR hF => ?_)
        refine xx_j ee80_129 rfl trivial ?_
        refine xx_j ee80_130 rfl trivial ?_
        refine xx_j ee80_131 rfl trivial ?_
        refine xx_t ew ?_
        refine xx_k ee80_132 1 rfl ?_
        refine xx_t fx_bit_t ?_
        have hI5 : RI (fx_up (fx_up (fx_up (fx_up (fx_up M' ff_Mod_readyTag (4 * v + rn M' ff_Mod_readySize v) (M' ff_Mod_tags (rn M' ff_Mod_whose j))) ff_Mod_readySource (4 * v + rn M' ff_Mod_readySize v) (nI (rn M' ff_Mod_whose j / 8))) ff_Mod_readyLength (4 * v + rn M' ff_Mod_readySize v) (nI (rn M' ff_Mod_lengths (rn M' ff_Mod_whose j)))) ff_Mod_readyTry (4 * v + rn M' ff_Mod_readySize v) (nI (rn M' ff_Mod_whichTry j))) ff_Mod_readySize v (nI (rn M' ff_Mod_readySize v + 1))) :=
          ((((hI.raw rfl (by decide) (by decide)).up (b := 64) rfl (by omega) (by decide) (by decide)).up (b := 9) rfl (by omega) (by decide) (by decide)).up (b := 1000) rfl (hI.l ff_Mod_whichTry j 1000 (n := 256) rfl (by omega) rfl (by omega)) (by decide) (by decide)).up (b := 5) rfl (by omega) (by decide) (by decide)
        refine xx_c ee80_133 rfl (q_note hR hI5 hv rw_ (fun s hR hF2 => ?_))
        have hF := hF.tr hF2
        clear hF2
        refine xx_j ee80_136 rfl trivial ?_
        refine rr_fa hR ee80_137 (by decide) rfl rfl ?_
        refine xx_j ee80_140 rfl trivial ?_
        refine xx_km ee80_141 rfl ?_
        refine rr_as 256 hR hF ee80_142 rfl (by omega) (fun s hR hF => ?_)
        first | refine xx_inc ee80_143 rfl ?_ | refine xx_j ee80_143 rfl trivial ?_
        refine xx_j ee80_146 rfl trivial ?_
        exact ih (j + 1) (om_ready M' v j (rn M' ff_Mod_whose j)) _ _ _ (by omega) (hI.ready hv (by omega) rw_ (by omega) (by omega)) (by rw [rn_ready_n (by omega), show rn (om_ready M' v j (rn M' ff_Mod_whose j)) ff_Mod_rowSize v = rn M' ff_Mod_rowSize v from rfl]; omega) hR hF k
      · refine xx_j ee80_54 rfl trivial ?_
        exact no _ (by simp [sfull, h5])
  refine xx_k ee80_0 4 rfl ?_
  refine xx_j ee80_1 rfl trivial ?_
  first | refine xx_mul ee80_2 ?_ | refine xx_j ee80_2 rfl trivial ?_
  refine xx_j ee80_3 rfl trivial ?_
  exact places 4 (4 * v) M s0 _ _ (by omega) hI (by omega) hR hF k
end
