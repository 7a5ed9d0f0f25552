/-! THE REFERENCE: the steps are measured -/
/-- a walk of k open ways from a to b -/
def WK (cl : Nat → Bool) (n a : Nat) : Nat → Nat → Prop
  | 0, b => b = a
  | k + 1, c => ∃ b w, WK cl n a k b ∧ w < 4 ∧ cl (4 * b + w) = false ∧ nb n b w = c
def dr (M : rf_M) (a b : Nat) : Nat := rn M ff_Mod_away (64 * a + b)
/-- row a has the least numbers of steps from a -/
def DS (cl : Nat → Bool) (n N : Nat) (M : rf_M) (a : Nat) : Prop := ∀ b, b < N → dr M a b ≤ 1000 ∧ (dr M a b < 1000 → WK cl n a (dr M a b) b) ∧ ∀ k, WK cl n a k b → dr M a b ≤ k
def SX (M M' : rf_M) : Prop := ∀ f i, f ≠ ff_Mod_away → f ≠ ff_Mod_farthest → M' f i = M f i
theorem SX.up {M M' : rf_M} {f i : Nat} {x : Int32} (h : SX M M') (hf : f = ff_Mod_away ∨ f = ff_Mod_farthest) : SX M (fx_up M' f i x) := by
  intro g j h1 h2
  rw [fx_up_ne (fun q => by rcases hf with e | e <;> omega)]
  exact h g j h1 h2
theorem sx_rn {M M' : rf_M} (h : SX M M') {f i : Nat} (h1 : f ≠ ff_Mod_away) (h2 : f ≠ ff_Mod_farthest) : rn M' f i = rn M f i := by
  unfold rn
  rw [h f i h1 h2]
theorem sx_rz {M M' : rf_M} (h : SX M M') {f i : Nat} (h1 : f ≠ ff_Mod_away) (h2 : f ≠ ff_Mod_farthest) : rz M' f i = rz M f i := by
  unfold rz
  rw [sx_rn h h1 h2]
def sp_sum (d : Nat → Nat) : Nat → Nat
  | 0 => 0
  | k + 1 => sp_sum d k + d k
theorem sp_sum_le {d e : Nat → Nat} : ∀ k, (∀ i, i < k → e i ≤ d i) → sp_sum e k ≤ sp_sum d k
  | 0, _ => Nat.le_refl _
  | k + 1, h => by
    have h1 := sp_sum_le k (fun i hi => h i (by omega))
    have h2 := h k (by omega)
    unfold sp_sum
    omega
theorem sp_sum_lt {d e : Nat → Nat} {c : Nat} : ∀ k, (∀ i, i < k → e i ≤ d i) → c < k → e c < d c → sp_sum e k < sp_sum d k
  | 0, _, h, _ => by omega
  | k + 1, h, hc, hl => by
    unfold sp_sum
    have h2 := h k (by omega)
    by_cases e1 : c = k
    · have h1 := sp_sum_le (d := d) (e := e) k (fun i hi => h i (by omega))
      subst e1
      omega
    · have h1 := sp_sum_lt (d := d) (e := e) k (fun i hi => h i (by omega)) (by omega) hl
      omega
theorem WK_lt {cl : Nat → Bool} {n a N : Nat} (hn : 0 < n) (hN : N = n * n) (ha : a < N) : ∀ k b, WK cl n a k b → b < N
  | 0, b, h => by
    have : b = a := h
    omega
  | k + 1, c, h => by
    obtain ⟨b, w, h1, h2, h3, h4⟩ := h
    have := WK_lt hn hN ha k b h1
    subst hN
    rw [← h4]
    exact nb_lt hn this
theorem WK_le {cl : Nat → Bool} {n a N : Nat} {d : Nat → Nat} (hn : 0 < n) (hN : N = n * n) (ha : a < N) (h0 : d a = 0) (he : ∀ b w, b < N → w < 4 → cl (4 * b + w) = false → d (nb n b w) ≤ d b + 1) : ∀ k b, WK cl n a k b → d b ≤ k
  | 0, b, h => by
    have : b = a := h
    rw [this, h0]
    exact Nat.le_refl _
  | k + 1, c, h => by
    obtain ⟨b, w, h1, h2, h3, h4⟩ := h
    have h5 := WK_le hn hN ha h0 he k b h1
    have h6 := he b w (WK_lt hn hN ha k b h1) h2 h3
    rw [h4] at h6
    omega
section
variable {s : fx_S} {Q : fx_Q} {o : Nat} {A : Nat → Nat} {M : rf_M}
/-- what measure does -/
def MS (M M' : rf_M) (j : Bool) : Prop := SX M M' ∧ RI M' ∧ (∀ a, a < rn M ff_Mod_all 0 → DS (rz M ff_Mod_closed) (rn M ff_Mod_n 0) (rn M ff_Mod_all 0) M' a) ∧
  (j = true ↔ ∀ a b, a < rn M ff_Mod_all 0 → b < rn M ff_Mod_all 0 → dr M' a b < 1000) ∧
  (∀ a b, a < rn M ff_Mod_all 0 → b < rn M ff_Mod_all 0 → dr M' a b ≤ rn M' ff_Mod_farthest 0) ∧
  (rn M' ff_Mod_farthest 0 = 0 ∨ ∃ a b, a < rn M ff_Mod_all 0 ∧ b < rn M ff_Mod_all 0 ∧ dr M' a b = rn M' ff_Mod_farthest 0)
theorem dr_up {M' : rf_M} {a b c x : Nat} (hx : x < 2 ^ 31) : dr (fx_up M' ff_Mod_away (64 * a + c) (nI x)) a b = if b = c then x else dr M' a b := by
  unfold dr
  by_cases e : b = c
  · rw [if_pos e, e, rn_same hx]
  · rw [if_neg e, rn_ne (by omega)]
theorem dr_up_ne {M' : rf_M} {a a' b c : Nat} {x : Int32} (hb : b < 64) (hc : c < 64) (h : a' ≠ a) : dr (fx_up M' ff_Mod_away (64 * a + c) x) a' b = dr M' a' b := by
  unfold dr
  rw [rn_ne (by omega)]
theorem dr_up_f {M' : rf_M} {a b : Nat} {x : Int32} : dr (fx_up M' ff_Mod_farthest 0 x) a b = dr M' a b := rfl
theorem q_measure {s0 : fx_S} (hR : rf_ok s0 o A M) (hI : RI M) (hn2 : 2 ≤ rn M ff_Mod_n 0) (hN2 : rn M ff_Mod_all 0 = rn M ff_Mod_n 0 * rn M ff_Mod_n 0) (k : ∀ s' M' j, MS M M' j → rf_ok s' o A M' → rf_fr o A s0 s' → Q (some (vI (fx_bit j))) s') : fx_M mm_Mod_measure [vR 22 (some o)] s0 Q := by
  have hF := rf_fr.rf o A s0
  have hA := hI.l ff_Mod_all 0 65 (n := 1) rfl (by omega) rfl (by omega)
  have hn9 := hI.l ff_Mod_n 0 9 (n := 1) rfl (by omega) rfl (by omega)
  obtain ⟨N, hNe⟩ : ∃ N, N = rn M ff_Mod_all 0 := ⟨_, rfl⟩
  obtain ⟨n, hne⟩ : ∃ n, n = rn M ff_Mod_n 0 := ⟨_, rfl⟩
  obtain ⟨cl, hcl⟩ : ∃ cl, cl = rz M ff_Mod_closed := ⟨_, rfl⟩
  unfold MS at k
  rw [← hNe, ← hne, ← hcl] at k
  rw [← hNe] at hA hN2
  rw [← hne] at hn9 hn2 hN2
  have eN : ∀ M', SX M M' → RI M' → M' ff_Mod_all 0 = nI N := fun M' h hI => by rw [hI.f ff_Mod_all rfl (by decide), sx_rn h (by decide) (by decide), hNe]
  have en : ∀ M', SX M M' → RI M' → M' ff_Mod_n 0 = nI n := fun M' h hI => by rw [hI.f ff_Mod_n rfl (by decide), sx_rn h (by decide) (by decide), hne]
  have ecl : ∀ M' i, SX M M' → RI M' → i < 256 → M' ff_Mod_closed i = fx_bit (cl i) := fun M' i h hI hi => by rw [hI.z ff_Mod_closed i (n := 256) rfl hi rfl, sx_rz h (by decide) (by decide), hcl]
  have eaw : ∀ M' a b, RI M' → a < N → b < 64 → M' ff_Mod_away (64 * a + b) = nI (dr M' a b) := fun M' a b hI ha hb => hI.e ff_Mod_away _ (n := 4096) rfl (by omega) (by decide)
  have law : ∀ M' a b, RI M' → a < N → b < 64 → dr M' a b < 1001 := fun M' a b hI ha hb => hI.l ff_Mod_away _ 1001 (n := 4096) rfl (by omega) rfl (by omega)
  have efa : ∀ M', RI M' → M' ff_Mod_farthest 0 = nI (rn M' ff_Mod_farthest 0) := fun M' hI => hI.f ff_Mod_farthest rfl (by decide)
  have lfa : ∀ M', RI M' → rn M' ff_Mod_farthest 0 < 1001 := fun M' hI => hI.l ff_Mod_farthest 0 1001 (n := 1) rfl (by omega) rfl (by omega)
  -- what holds when row a begins
  let OI : rf_M → Bool → Nat → Prop := fun M' j a => SX M M' ∧ RI M' ∧ (∀ a', a' < a → DS cl n N M' a') ∧ (j = true ↔ ∀ a' b, a' < a → b < N → dr M' a' b < 1000) ∧ (∀ a' b, a' < a → b < N → dr M' a' b ≤ rn M' ff_Mod_farthest 0) ∧ (rn M' ff_Mod_farthest 0 = 0 ∨ ∃ a' b, a' < a ∧ b < N ∧ dr M' a' b = rn M' ff_Mod_farthest 0)
  refine xx_i ml77 ?_
  have outer : ∀ da a M' j s' x3 x4 x5 x6, a + da = N → OI M' j a → rf_ok s' o A M' → rf_fr o A s0 s' → fx_W 77 9 [some (vR 22 (some o)), some (vI (fx_bit j)), some (vI (nI a)), x3, x4, x5, x6] [] s' Q := by
    intro da
    induction da with
    | zero =>
      intro a M' j s' x3 x4 x5 x6 ha hO hR hF
      refine xx_j ee77_9 rfl trivial ?_
      refine xx_j ee77_10 rfl trivial ?_
      refine rr_fi hR ee77_11 rfl rfl rfl ?_
      refine xx_t (eN _ hO.1 hO.2.1) ?_
      refine xx_ge ee77_14 (by omega) (by omega) (fun h => ?_) (fun h => by omega)
      refine xx_j ee77_279 rfl trivial ?_
      refine xx_rz ee77_280 ?_
      obtain rfl : a = N := by omega
      exact k s' M' j ⟨hO.1, hO.2.1, hO.2.2.1, hO.2.2.2.1, hO.2.2.2.2.1, hO.2.2.2.2.2⟩ hR hF
    | succ da iha =>
      intro a M1 j s' x3 x4 x5 x6 ha hO hR hF
      obtain ⟨o1, o2, o3, o4, o5, o6⟩ := hO
      refine xx_j ee77_9 rfl trivial ?_
      refine xx_j ee77_10 rfl trivial ?_
      refine rr_fi hR ee77_11 rfl rfl rfl ?_
      refine xx_t (eN _ o1 o2) ?_
      refine xx_ge ee77_14 (by omega) (by omega) (fun h => by omega) (fun _ => ?_)
      -- the rows before stay
      let KE : rf_M → Prop := fun M' => SX M M' ∧ RI M' ∧ (∀ a' b, a' < a → b < N → dr M' a' b = dr M1 a' b) ∧ rn M' ff_Mod_farthest 0 = rn M1 ff_Mod_farthest 0
      have kup : ∀ M' c x, KE M' → c < N → x < 1001 → KE (fx_up M' ff_Mod_away (64 * a + c) (nI x)) := fun M' c x h hc hx => ⟨h.1.up (Or.inl rfl), h.2.1.up (b := 1001) rfl hx (by decide) (by decide), fun a' b ha' hb => by rw [dr_up_ne (by omega) (by omega) (by omega)]; exact h.2.2.1 a' b ha' hb, h.2.2.2⟩
      -- the third loop
      have last : ∀ db b M' jj s' x3 x5 x6, b + db = N → SX M M' → RI M' → (∀ a', a' < a + 1 → DS cl n N M' a') → (jj = true ↔ (∀ a' b, a' < a → b < N → dr M' a' b < 1000) ∧ ∀ b', b' < b → dr M' a b' < 1000) → (∀ a' b, a' < a → b < N → dr M' a' b ≤ rn M' ff_Mod_farthest 0) → (∀ b', b' < b → dr M' a b' ≤ rn M' ff_Mod_farthest 0) → (rn M' ff_Mod_farthest 0 = 0 ∨ ∃ a' b, a' < a + 1 ∧ b < N ∧ dr M' a' b = rn M' ff_Mod_farthest 0) → rf_ok s' o A M' → rf_fr o A s0 s' → fx_W 77 188 [some (vR 22 (some o)), some (vI (fx_bit jj)), some (vI (nI a)), x3, some (vI (nI b)), x5, x6] [] s' Q := by
        intro db
        induction db with
        | zero =>
          intro b M' jj s' x3 x5 x6 hb h1 h2 h3 h4 h5 h6 h7 hR hF
          refine xx_j ee77_188 rfl trivial ?_
          refine xx_j ee77_190 rfl trivial ?_
          refine rr_fi hR ee77_191 rfl rfl rfl ?_
          refine xx_t (eN _ h1 h2) ?_
          refine xx_ge ee77_194 (by omega) (by omega) (fun h => ?_) (fun h => by omega)
          first | refine xx_inc ee77_273 rfl ?_ | refine xx_j ee77_273 rfl trivial ?_
          refine xx_j ee77_276 rfl trivial ?_
          obtain rfl : b = N := by omega
          refine iha (a + 1) M' jj s' _ _ _ _ (by omega) ⟨h1, h2, h3, h4.trans ⟨fun q a' b' ha' hb' => ?_, fun q => ⟨fun a' b' ha' hb' => q a' b' (by omega) hb', fun b' hb' => q a b' (by omega) hb'⟩⟩, fun a' b' ha' hb' => ?_, h7⟩ hR hF
          · by_cases e : a' = a
            · subst e; exact q.2 b' hb'
            · exact q.1 a' b' (by omega) hb'
          · by_cases e : a' = a
            · subst e; exact h6 b' hb'
            · exact h5 a' b' (by omega) hb'
        | succ db ihb =>
          intro b M' jj s' x3 x5 x6 hb h1 h2 h3 h4 h5 h6 h7 hR hF
          have l1 := law M' a b h2 (by omega) (by omega)
          have l2 := lfa M' h2
          refine xx_j ee77_188 rfl trivial ?_
          refine xx_j ee77_190 rfl trivial ?_
          refine rr_fi hR ee77_191 rfl rfl rfl ?_
          refine xx_t (eN _ h1 h2) ?_
          refine xx_ge ee77_194 (by omega) (by omega) (fun h => by omega) (fun _ => ?_)
          -- behind the flag
          have far : ∀ jj', (jj' = true ↔ (∀ a' b, a' < a → b < N → dr M' a' b < 1000) ∧ ∀ b', b' < b + 1 → dr M' a b' < 1000) → fx_W 77 225 [some (vR 22 (some o)), some (vI (fx_bit jj')), some (vI (nI a)), x3, some (vI (nI b)), x5, x6] [] s' Q := by
            intro jj' hj
            have put : ∀ x, x < 1001 → (∀ M2, M2 = fx_up M' ff_Mod_farthest 0 (nI x) → rn M2 ff_Mod_farthest 0 = x) → rn M' ff_Mod_farthest 0 ≤ x → dr M' a b ≤ x → (x = rn M' ff_Mod_farthest 0 ∨ x = dr M' a b) → fx_W 77 264 [some (vR 22 (some o)), some (vI (fx_bit jj')), some (vI (nI a)), x3, some (vI (nI b)), x5, x6] [vI (nI x), vR 22 (some o)] s' Q := by
              intro x hx hM2 hx1 hx2 hx3
              refine rr_pf hR hF ee77_264 rfl rfl (fun s hR hF => ?_)
              first | refine xx_inc ee77_267 rfl ?_ | refine xx_j ee77_267 rfl trivial ?_
              refine xx_j ee77_270 rfl trivial ?_
              have eM := hM2 _ rfl
              refine ihb (b + 1) (fx_up M' ff_Mod_farthest 0 (nI x)) jj' _ _ _ _ (by omega) (h1.up (Or.inr rfl)) (h2.up (b := 1001) rfl hx (by decide) (by decide)) (fun a' ha' => h3 a' ha') hj (fun a' b' ha' hb' => ?_) (fun b' hb' => ?_) ?_ hR hF
              · rw [eM]; exact Nat.le_trans (h5 a' b' ha' hb') hx1
              · rw [eM]
                by_cases e : b' = b
                · subst e; exact hx2
                · exact Nat.le_trans (h6 b' (by omega)) hx1
              · rw [eM]
                rcases hx3 with e | e
                · rw [e]; exact h7
                · exact Or.inr ⟨a, b, by omega, by omega, e.symm⟩
            refine xx_j ee77_225 rfl trivial ?_
            refine xx_j ee77_226 rfl trivial ?_
            refine rr_fa hR ee77_227 (by decide) rfl rfl ?_
            refine xx_kb ee77_230 64 rfl ?_
            refine xx_j ee77_232 rfl trivial ?_
            first | refine xx_mul ee77_233 ?_ | refine xx_j ee77_233 rfl trivial ?_
            refine xx_j ee77_234 rfl trivial ?_
            first | refine xx_add ee77_236 ?_ | refine xx_j ee77_236 rfl trivial ?_
            refine rr_al 4096 hR ee77_237 rfl (by omega) ?_
            refine xx_t (eaw M' a b h2 (by omega) (by omega)) ?_
            refine xx_j ee77_238 rfl trivial ?_
            refine rr_fi hR ee77_239 rfl rfl rfl ?_
            refine xx_t (efa M' h2) ?_
            refine xx_le ee77_242 (by omega) (by omega) (fun h => ?_) (fun h => ?_)
            · refine xx_j ee77_260 rfl trivial ?_
              refine rr_fi hR ee77_261 rfl rfl rfl ?_
              refine xx_t (efa M' h2) ?_
              exact put _ l2 (fun M2 e => by rw [e]; exact rn_same (by omega)) (Nat.le_refl _) h (Or.inl rfl)
            · refine xx_j ee77_245 rfl trivial ?_
              refine rr_fa hR ee77_246 (by decide) rfl rfl ?_
              refine xx_kb ee77_249 64 rfl ?_
              refine xx_j ee77_251 rfl trivial ?_
              first | refine xx_mul ee77_252 ?_ | refine xx_j ee77_252 rfl trivial ?_
              refine xx_j ee77_253 rfl trivial ?_
              first | refine xx_add ee77_255 ?_ | refine xx_j ee77_255 rfl trivial ?_
              refine rr_al 4096 hR ee77_256 rfl (by omega) ?_
              refine xx_t (eaw M' a b h2 (by omega) (by omega)) ?_
              refine xx_j ee77_257 rfl trivial ?_
              exact put _ l1 (fun M2 e => by rw [e]; exact rn_same (by omega)) (by omega) (Nat.le_refl _) (Or.inr rfl)
          have no : (jj = false ∨ ¬ dr M' a b < 1000) → fx_W 77 223 [some (vR 22 (some o)), some (vI (fx_bit jj)), some (vI (nI a)), x3, some (vI (nI b)), x5, x6] [] s' Q := by
            intro h
            refine xx_k ee77_223 0 rfl ?_
            refine xx_t fx_bit_f ?_
            refine xx_j ee77_224 rfl trivial ?_
            refine far false ⟨fun q => (by cases q), fun q => ?_⟩
            rcases h with h | h
            · have := h4.mpr ⟨q.1, fun b' hb' => q.2 b' (by omega)⟩
              rw [h] at this
              cases this
            · exact absurd (q.2 b (by omega)) h
          refine xx_j ee77_197 rfl trivial ?_
          refine xx_z ee77_198 (fun h => no (Or.inl h)) (fun hj => ?_)
          refine xx_j ee77_201 rfl trivial ?_
          refine rr_fa hR ee77_202 (by decide) rfl rfl ?_
          refine xx_kb ee77_205 64 rfl ?_
          refine xx_j ee77_207 rfl trivial ?_
          first | refine xx_mul ee77_208 ?_ | refine xx_j ee77_208 rfl trivial ?_
          refine xx_j ee77_209 rfl trivial ?_
          first | refine xx_add ee77_211 ?_ | refine xx_j ee77_211 rfl trivial ?_
          refine rr_al 4096 hR ee77_212 rfl (by omega) ?_
          refine xx_t (eaw M' a b h2 (by omega) (by omega)) ?_
          refine xx_ks ee77_213 1000 rfl ?_
          refine xx_ge ee77_216 (by omega) (by omega) (fun h => no (Or.inr (by omega))) (fun h => ?_)
          refine xx_k ee77_219 1 rfl ?_
          refine xx_t fx_bit_t ?_
          refine xx_j ee77_220 rfl trivial ?_
          refine xx_j ee77_224 rfl trivial ?_
          refine far true ⟨fun _ => ⟨(h4.mp hj).1, fun b' hb' => ?_⟩, fun _ => rfl⟩
          by_cases e : b' = b
          · subst e; exact h
          · exact (h4.mp hj).2 b' (by omega)
      -- the passes
      have whil : ∀ f M0 s' x4 x5 x6, sp_sum (dr M0 a) N < f → KE M0 → dr M0 a a = 0 → (∀ b, b < N → dr M0 a b < 1000 → WK cl n a (dr M0 a b) b) → rf_ok s' o A M0 → rf_fr o A s0 s' → fx_W 77 58 [some (vR 22 (some o)), some (vI (fx_bit j)), some (vI (nI a)), some (vI (fx_bit true)), x4, x5, x6] [] s' Q := by
        intro f
        induction f with
        | zero => intro M0 s' x4 x5 x6 h; omega
        | succ f ihf =>
          intro M0 s' x4 x5 x6 hf hK h0 hW hR hF
          have lb : ∀ db b M' more s' x5 x6, b + db = N → KE M' → dr M' a a = 0 → (∀ b, b < N → dr M' a b < 1000 → WK cl n a (dr M' a b) b) → (more = false → M' = M0 ∧ ∀ b' w, b' < b → w < 4 → cl (4 * b' + w) = false → dr M0 a (nb n b' w) ≤ dr M0 a b' + 1) → (more = true → sp_sum (dr M' a) N < sp_sum (dr M0 a) N) → (∀ b, b < N → dr M' a b ≤ dr M0 a b) → rf_ok s' o A M' → rf_fr o A s0 s' → fx_W 77 67 [some (vR 22 (some o)), some (vI (fx_bit j)), some (vI (nI a)), some (vI (fx_bit more)), some (vI (nI b)), x5, x6] [] s' Q := by
            intro db
            induction db with
            | zero =>
              intro b M' more s' x5 x6 hb hK h0 hW hm1 hm2 hle hR hF
              obtain rfl : b = N := by omega
              refine xx_j ee77_67 rfl trivial ?_
              refine xx_j ee77_69 rfl trivial ?_
              refine rr_fi hR ee77_70 rfl rfl rfl ?_
              refine xx_t (eN _ hK.1 hK.2.1) ?_
              refine xx_ge ee77_73 (by omega) (by omega) (fun h => ?_) (fun h => by omega)
              refine xx_j ee77_182 rfl trivial ?_
              cases more with
              | true => exact ihf M' s' _ _ _ (by have := hm2 rfl; omega) hK h0 hW hR hF
              | false =>
                obtain ⟨eM, hed⟩ := hm1 rfl
                rw [← eM] at hed
                refine xx_j ee77_58 rfl trivial ?_
                refine xx_z ee77_59 (fun _ => ?_) (fun h => by cases h)
                refine xx_k ee77_185 0 rfl ?_
                refine xx_j ee77_186 rfl trivial ?_
                have hds : DS cl n b M' a := fun c hc => ⟨by have := law M' a c hK.2.1 (by omega) (by omega); omega, hW c hc, WK_le (by omega) hN2 (by omega) h0 (fun c w hc hw => hed c w hc hw) |> fun q k' => q k' c⟩
                refine last b 0 M' j s' _ _ _ (by omega) hK.1 hK.2.1 (fun a' ha' => ?_) (o4.trans ⟨fun q => ⟨fun a' b' h1 h2 => by rw [hK.2.2.1 a' b' h1 h2]; exact q a' b' h1 h2, fun b' hb' => by omega⟩, fun q a' b' h1 h2 => by rw [← hK.2.2.1 a' b' h1 h2]; exact q.1 a' b' h1 h2⟩) (fun a' b' h1 h2 => by rw [hK.2.2.1 a' b' h1 h2, hK.2.2.2]; exact o5 a' b' h1 h2) (fun b' hb' => by omega) ?_ hR hF
                · by_cases e : a' = a
                  · subst e; exact hds
                  · intro c hc
                    have := o3 a' (by omega) c hc
                    rw [← hK.2.2.1 a' c (by omega) hc] at this
                    exact this
                · rw [hK.2.2.2]
                  rcases o6 with e | ⟨a', b', h1, h2, h3⟩
                  · exact Or.inl e
                  · exact Or.inr ⟨a', b', by omega, h2, by rw [hK.2.2.1 a' b' h1 h2]; exact h3⟩
            | succ db ihb =>
              intro b M' more s' x5 x6 hb hK h0 hW hm1 hm2 hle hR hF
              have lw : ∀ dw w M' more s' x6, w + dw = 4 → KE M' → dr M' a a = 0 → (∀ b, b < N → dr M' a b < 1000 → WK cl n a (dr M' a b) b) → (more = false → M' = M0 ∧ (∀ b' w, b' < b → w < 4 → cl (4 * b' + w) = false → dr M0 a (nb n b' w) ≤ dr M0 a b' + 1) ∧ ∀ w', w' < w → cl (4 * b + w') = false → dr M0 a (nb n b w') ≤ dr M0 a b + 1) → (more = true → sp_sum (dr M' a) N < sp_sum (dr M0 a) N) → (∀ b, b < N → dr M' a b ≤ dr M0 a b) → rf_ok s' o A M' → rf_fr o A s0 s' → fx_W 77 79 [some (vR 22 (some o)), some (vI (fx_bit j)), some (vI (nI a)), some (vI (fx_bit more)), some (vI (nI b)), some (vI (nI w)), x6] [] s' Q := by
                intro dw
                induction dw with
                | zero =>
                  intro w M' more s' x6 hw hK h0 hW hm1 hm2 hle hR hF
                  obtain rfl : w = 4 := by omega
                  refine xx_j ee77_79 rfl trivial ?_
                  refine xx_k ee77_81 4 rfl ?_
                  refine xx_ge ee77_82 (by omega) (by omega) (fun h => ?_) (fun h => by omega)
                  first | refine xx_inc ee77_176 rfl ?_ | refine xx_j ee77_176 rfl trivial ?_
                  refine xx_j ee77_179 rfl trivial ?_
                  refine ihb (b + 1) M' more s' _ _ (by omega) hK h0 hW (fun q => ?_) hm2 hle hR hF
                  obtain ⟨q1, q2, q3⟩ := hm1 q
                  refine ⟨q1, fun b' w hb' hw => ?_⟩
                  by_cases e : b' = b
                  · subst e; exact q3 w hw
                  · exact q2 b' w (by omega) hw
                | succ dw ihw =>
                  intro w M' more s' x6 hw hK h0 hW hm1 hm2 hle hR hF
                  have hnbN : nb n b w < N := by
                    have := nb_lt (n := n) (v := b) (w := w) (by omega) (by omega)
                    omega
                  have l1 := law M' a b hK.2.1 (by omega) (by omega)
                  have l2 := law M' a (nb n b w) hK.2.1 (by omega) (by omega)
                  refine xx_j ee77_79 rfl trivial ?_
                  refine xx_k ee77_81 4 rfl ?_
                  refine xx_ge ee77_82 (by omega) (by omega) (fun h => by omega) (fun _ => ?_)
                  refine xx_j ee77_85 rfl trivial ?_
                  refine xx_j ee77_86 rfl trivial ?_
                  refine xx_j ee77_88 rfl trivial ?_
                  refine xx_c ee77_90 rfl (r_neighbour hR (en _ hK.1 hK.2.1) (by omega) (by omega) (by omega) (by omega) (by omega) ?_)
                  have no : (cl (4 * b + w) = true ∨ dr M' a (nb n b w) ≤ dr M' a b + 1) → fx_W 77 170 [some (vR 22 (some o)), some (vI (fx_bit j)), some (vI (nI a)), some (vI (fx_bit more)), some (vI (nI b)), some (vI (nI w)), some (vI (nI (nb n b w)))] [] s' Q := by
                    intro h
                    first | refine xx_inc ee77_170 rfl ?_ | refine xx_j ee77_170 rfl trivial ?_
                    refine xx_j ee77_173 rfl trivial ?_
                    refine ihw (w + 1) M' more s' _ (by omega) hK h0 hW (fun q => ?_) hm2 hle hR hF
                    obtain ⟨q1, q2, q3⟩ := hm1 q
                    refine ⟨q1, q2, fun w' hw' hc => ?_⟩
                    by_cases e : w' = w
                    · subst e
                      rcases h with h | h
                      · rw [h] at hc; cases hc
                      · rw [← q1]; exact h
                    · exact q3 w' (by omega) hc
                  refine xx_j ee77_93 rfl trivial ?_
                  refine xx_j ee77_95 rfl trivial ?_
                  refine rr_fa hR ee77_96 (by decide) rfl rfl ?_
                  refine xx_k ee77_99 4 rfl ?_
                  refine xx_j ee77_100 rfl trivial ?_
                  first | refine xx_mul ee77_102 ?_ | refine xx_j ee77_102 rfl trivial ?_
                  refine xx_j ee77_103 rfl trivial ?_
                  first | refine xx_add ee77_105 ?_ | refine xx_j ee77_105 rfl trivial ?_
                  refine rr_zl 256 hR ee77_106 rfl (by omega) ?_
                  refine xx_t (ecl _ _ hK.1 hK.2.1 (by omega)) ?_
                  refine xx_nz ee77_107 (fun h => no (Or.inl h)) (fun hc => ?_)
                  refine xx_j ee77_110 rfl trivial ?_
                  refine rr_fa hR ee77_111 (by decide) rfl rfl ?_
                  refine xx_kb ee77_114 64 rfl ?_
                  refine xx_j ee77_116 rfl trivial ?_
                  first | refine xx_mul ee77_117 ?_ | refine xx_j ee77_117 rfl trivial ?_
                  refine xx_j ee77_118 rfl trivial ?_
                  first | refine xx_add ee77_120 ?_ | refine xx_j ee77_120 rfl trivial ?_
                  refine rr_al 4096 hR ee77_121 rfl (by omega) ?_
                  refine xx_t (eaw M' a b hK.2.1 (by omega) (by omega)) ?_
                  refine xx_k ee77_122 1 rfl ?_
                  first | refine xx_add ee77_123 ?_ | refine xx_j ee77_123 rfl trivial ?_
                  refine xx_j ee77_124 rfl trivial ?_
                  refine rr_fa hR ee77_125 (by decide) rfl rfl ?_
                  refine xx_kb ee77_128 64 rfl ?_
                  refine xx_j ee77_130 rfl trivial ?_
                  first | refine xx_mul ee77_131 ?_ | refine xx_j ee77_131 rfl trivial ?_
                  refine xx_j ee77_132 rfl trivial ?_
                  first | refine xx_add ee77_134 ?_ | refine xx_j ee77_134 rfl trivial ?_
                  refine rr_al 4096 hR ee77_135 rfl (by omega) ?_
                  refine xx_t (eaw M' a (nb n b w) hK.2.1 (by omega) (by omega)) ?_
                  refine xx_lt ee77_136 (by omega) (by omega) (fun hl => ?_) (fun h => ?_)
                  · refine xx_j ee77_142 rfl trivial ?_
                    refine rr_fa hR ee77_143 (by decide) rfl rfl ?_
                    refine xx_kb ee77_146 64 rfl ?_
                    refine xx_j ee77_148 rfl trivial ?_
                    first | refine xx_mul ee77_149 ?_ | refine xx_j ee77_149 rfl trivial ?_
                    refine xx_j ee77_150 rfl trivial ?_
                    first | refine xx_add ee77_152 ?_ | refine xx_j ee77_152 rfl trivial ?_
                    refine xx_j ee77_153 rfl trivial ?_
                    refine rr_fa hR ee77_154 (by decide) rfl rfl ?_
                    refine xx_kb ee77_157 64 rfl ?_
                    refine xx_j ee77_159 rfl trivial ?_
                    first | refine xx_mul ee77_160 ?_ | refine xx_j ee77_160 rfl trivial ?_
                    refine xx_j ee77_161 rfl trivial ?_
                    first | refine xx_add ee77_163 ?_ | refine xx_j ee77_163 rfl trivial ?_
                    refine rr_al 4096 hR ee77_164 rfl (by omega) ?_
                    refine xx_t (eaw M' a b hK.2.1 (by omega) (by omega)) ?_
                    refine xx_k ee77_165 1 rfl ?_
                    first | refine xx_add ee77_166 ?_ | refine xx_j ee77_166 rfl trivial ?_
                    refine rr_as 4096 hR hF ee77_167 rfl (by omega) (fun s hR hF => ?_)
                    refine xx_k ee77_168 1 rfl ?_
                    refine xx_t fx_bit_t ?_
                    refine xx_j ee77_169 rfl trivial ?_
                    first | refine xx_inc ee77_170 rfl ?_ | refine xx_j ee77_170 rfl trivial ?_
                    refine xx_j ee77_173 rfl trivial ?_
                    have hca : nb n b w ≠ a := fun e => by rw [e, h0] at hl; omega
                    have hle2 : ∀ c, c < N → dr (fx_up M' ff_Mod_away (64 * a + nb n b w) (nI (dr M' a b + 1))) a c ≤ dr M' a c := by
                      intro c hc
                      rw [dr_up (by omega)]
                      by_cases e : c = nb n b w
                      · rw [if_pos e, e]; omega
                      · rw [if_neg e]; exact Nat.le_refl _
                    have hbb : b ≠ nb n b w := fun e => by rw [← e] at hl; omega
                    refine ihw (w + 1) _ true _ _ (by omega) (kup M' _ _ hK hnbN (by omega)) ?_ (fun c hcN hd => ?_) (fun q => by cases q) (fun _ => ?_) (fun c hc => Nat.le_trans (hle2 c hc) (hle c hc)) hR hF
                    · rw [dr_up (by omega), if_neg (fun e => hca e.symm)]; exact h0
                    · rw [dr_up (by omega)] at hd ⊢
                      by_cases e : c = nb n b w
                      · rw [if_pos e] at hd ⊢
                        exact ⟨b, w, hW b (by omega) (by omega), by omega, hc, e.symm⟩
                      · rw [if_neg e] at hd ⊢
                        exact hW c hcN hd
                    · have q1 : sp_sum (dr (fx_up M' ff_Mod_away (64 * a + nb n b w) (nI (dr M' a b + 1))) a) N < sp_sum (dr M' a) N := sp_sum_lt (c := nb n b w) N hle2 hnbN (by rw [dr_up (by omega), if_pos rfl]; exact hl)
                      have q2 : sp_sum (dr M' a) N ≤ sp_sum (dr M0 a) N := sp_sum_le N hle
                      omega
                  · refine xx_j ee77_139 rfl trivial ?_
                    exact no (Or.inr h)
              refine xx_j ee77_67 rfl trivial ?_
              refine xx_j ee77_69 rfl trivial ?_
              refine rr_fi hR ee77_70 rfl rfl rfl ?_
              refine xx_t (eN _ hK.1 hK.2.1) ?_
              refine xx_ge ee77_73 (by omega) (by omega) (fun h => by omega) (fun _ => ?_)
              refine xx_k ee77_76 0 rfl ?_
              refine xx_j ee77_77 rfl trivial ?_
              exact lw 4 0 M' more s' _ (by omega) hK h0 hW (fun q => ⟨(hm1 q).1, (hm1 q).2, fun w' hw' => by omega⟩) hm2 hle hR hF
          refine xx_j ee77_58 rfl trivial ?_
          refine xx_z ee77_59 (fun h => by cases h) (fun _ => ?_)
          refine xx_k ee77_62 0 rfl ?_
          refine xx_t fx_bit_f ?_
          refine xx_j ee77_63 rfl trivial ?_
          refine xx_k ee77_64 0 rfl ?_
          refine xx_j ee77_65 rfl trivial ?_
          exact lb N 0 M0 false s' _ _ (by omega) hK h0 hW (fun _ => ⟨rfl, fun b' w h => by omega⟩) (fun q => by cases q) (fun _ _ => Nat.le_refl _) hR hF
      -- the first numbers
      have first : ∀ db b M' s' x4 x5 x6, b + db = N → KE M' → (∀ b', b' < b → dr M' a b' = if b' = a then 0 else 1000) → rf_ok s' o A M' → rf_fr o A s0 s' → fx_W 77 19 [some (vR 22 (some o)), some (vI (fx_bit j)), some (vI (nI a)), some (vI (nI b)), x4, x5, x6] [] s' Q := by
        intro db
        induction db with
        | zero =>
          intro b M' s' x4 x5 x6 hb hK hd hR hF
          obtain rfl : b = N := by omega
          refine xx_j ee77_19 rfl trivial ?_
          refine xx_j ee77_20 rfl trivial ?_
          refine rr_fi hR ee77_21 rfl rfl rfl ?_
          refine xx_t (eN _ hK.1 hK.2.1) ?_
          refine xx_ge ee77_24 (by omega) (by omega) (fun h => ?_) (fun h => by omega)
          refine xx_k ee77_56 1 rfl ?_
          refine xx_t fx_bit_t ?_
          refine xx_j ee77_57 rfl trivial ?_
          refine whil _ M' s' _ _ _ (Nat.lt_succ_self _) hK (by rw [hd a (by omega), if_pos rfl]) (fun c hc h => ?_) hR hF
          rw [hd c hc] at h ⊢
          by_cases e : c = a
          · rw [if_pos e]; exact e
          · rw [if_neg e] at h; omega
        | succ db ihb =>
          intro b M' s' x4 x5 x6 hb hK hd hR hF
          refine xx_j ee77_19 rfl trivial ?_
          refine xx_j ee77_20 rfl trivial ?_
          refine rr_fi hR ee77_21 rfl rfl rfl ?_
          refine xx_t (eN _ hK.1 hK.2.1) ?_
          refine xx_ge ee77_24 (by omega) (by omega) (fun h => by omega) (fun _ => ?_)
          have put : ∀ x, x < 1001 → x = (if b = a then 0 else 1000) → fx_W 77 49 [some (vR 22 (some o)), some (vI (fx_bit j)), some (vI (nI a)), some (vI (nI b)), x4, x5, x6] [vI (nI x), vI (nI (64 * a + b)), vR 70 (some (A ff_Mod_away))] s' Q := by
            intro x hx hxe
            refine rr_as 4096 hR hF ee77_49 rfl (by omega) (fun s hR hF => ?_)
            first | refine xx_inc ee77_50 rfl ?_ | refine xx_j ee77_50 rfl trivial ?_
            refine xx_j ee77_53 rfl trivial ?_
            refine ihb (b + 1) _ _ _ _ _ (by omega) (kup M' b x hK (by omega) hx) (fun b' hb' => ?_) hR hF
            rw [dr_up (by omega)]
            by_cases e : b' = b
            · rw [if_pos e, hxe, e]
            · rw [if_neg e]; exact hd b' (by omega)
          refine xx_j ee77_27 rfl trivial ?_
          refine rr_fa hR ee77_28 (by decide) rfl rfl ?_
          refine xx_kb ee77_31 64 rfl ?_
          refine xx_j ee77_33 rfl trivial ?_
          first | refine xx_mul ee77_34 ?_ | refine xx_j ee77_34 rfl trivial ?_
          refine xx_j ee77_35 rfl trivial ?_
          first | refine xx_add ee77_36 ?_ | refine xx_j ee77_36 rfl trivial ?_
          refine xx_j ee77_37 rfl trivial ?_
          refine xx_j ee77_38 rfl trivial ?_
          refine xx_ne ee77_39 (by omega) (by omega) (fun h => ?_) (fun h => ?_)
          · refine xx_ks ee77_46 1000 rfl ?_
            exact put 1000 (by omega) (by rw [if_neg (fun q => h q.symm)])
          · refine xx_k ee77_42 0 rfl ?_
            refine xx_j ee77_43 rfl trivial ?_
            exact put 0 (by omega) (by rw [if_pos h.symm])
      refine xx_k ee77_17 0 rfl ?_
      refine xx_j ee77_18 rfl trivial ?_
      exact first N 0 M1 s' _ _ _ (by omega) ⟨o1, o2, fun _ _ _ _ => rfl, rfl⟩ (fun b' h => by omega) hR hF
  refine xx_k ee77_0 1 rfl ?_
  refine xx_t fx_bit_t ?_
  refine xx_j ee77_1 rfl trivial ?_
  refine xx_j ee77_2 rfl trivial ?_
  refine xx_k ee77_3 0 rfl ?_
  refine rr_pf hR hF ee77_4 rfl rfl (fun s hR hF => ?_)
  refine xx_k ee77_7 0 rfl ?_
  refine xx_j ee77_8 rfl trivial ?_
  refine outer N 0 _ true _ _ _ _ _ (by omega) ⟨SX.up (fun _ _ _ _ => rfl) (Or.inr rfl), hI.up (b := 1001) rfl (by omega) (by decide) (by decide), fun a' h => by omega, ⟨fun _ a' b h => by omega, fun _ => rfl⟩, fun a' b h => by omega, Or.inl (rn_same (by omega))⟩ hR hF
end
