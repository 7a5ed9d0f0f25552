/-! THE CLASS AND THE REFERENCE: what a store into an array of references leaves alone -/
section
variable {s : fx_S} {x z i m : Nat} {o : Option Nat} {B H P : Nat → Nat} {C : Nat → Nat → Option Nat} {Y : Nat → Nat → Nat} {rt : Nat → List Nat} {K : Nat → Prop} {L : List Nat} {M : rf_M}
theorem SK.sar (h : SK s x B m) (h1 : z ≠ x + 12) (h2 : ∀ v, v < m → z ≠ B v + 8) : SK (fx_sar s z i o) x B m := by
  refine ⟨h.a, fun v hv => ?_, h.c⟩
  obtain ⟨a1, a2, a3, a4, a5, a6, a7, a8, a9, a10, a11, a12, a13, a14, a15, a16⟩ := h.b v hv
  refine ⟨?_, a2, a3, a4, a5, a6, a7, a8, a9, a10, a11, a12, a13, a14, a15, fun j hj => ?_⟩
  · rw [ar_ne (fun q => h1 q.1.symm)]; exact a1
  · rw [ar_ne (fun q => h2 v hv q.1.symm)]; exact a16 j hj
theorem RS.sar (h : RS s B P m M) (h1 : ∀ v, v < m → z ≠ B v + 4) : RS (fx_sar s z i o) B P m M :=
  ⟨h.used, h.hun, h.uw, fun v k hv hk => by rw [ar_ne (fun q => h1 v hv q.1.symm)]; exact h.sl v k hv hk, h.went⟩
theorem RK.sar (h : RK s x B P m rt K M) (h1 : ∀ a, K a → z ≠ a + 1) (hp : ∀ p, p < 512 → 0 < rn M ff_Mod_lengths p → K (P p)) (hw : ∀ v a, v < m → a ∈ rt (B v + 2) → K a) : RK (fx_sar s z i o) x B P m rt K M := by
  refine ⟨h.in_, h.fl, h.ln, fun a b F ha hb hF => ?_, fun p b hp1 hb => ?_, fun v j a b hv hj hb => ?_, h.sep⟩
  · rw [ar_ne (fun q => h1 a ha q.1.symm)] at hF; exact h.ft a b F ha hb hF
  · rw [ar_ne (fun q => h1 _ (hp p hp1 (by omega)) q.1.symm)]; exact h.fp p b hp1 hb
  · rw [ar_ne (fun q => h1 a (hw v a hv (List.mem_of_getElem? hj)) q.1.symm)]; exact h.fw v j a b hv hj hb
theorem RF.sar (h : RF s B H C P m M) (h1 : ∀ v, v < m → z ≠ B v + H v) (h2 : ∀ f, f < (rn M ff_Mod_flits 0) → z ≠ P (spk M f) + 1) (h3 : ∀ v, v < m → z ≠ B v + (37 - H v)) : RF (fx_sar s z i o) B H C P m M := by
  refine ⟨h.h1, h.here, h.com, fun v l hv hl => ?_, fun f F hf hF => ?_, fun f F hf hF => ?_, fun v l hv hl => by rw [ar_ne (fun q => h3 v hv q.1.symm)]; exact h.cm v l hv hl⟩
  · rw [ar_ne (fun q => h1 v hv q.1.symm), h.fl v l hv hl]
    cases hs : sol M v l with
    | none => rfl
    | some f =>
      show _ = fx_ar (fx_sar s z i o) (P (spk M f) + 1) (rn M ff_Mod_number f)
      rw [ar_ne (fun q => h2 f (sol_some hs).1 q.1.symm)]
      rfl
  · rw [ar_ne (fun q => h2 f hf q.1.symm)] at hF; exact h.ent f F hf hF
  · rw [ar_ne (fun q => h2 f hf q.1.symm)] at hF; exact h.att f F hf hF
theorem RC.sar (h : RC s B H m) (h1 : ∀ v, v < m → z ≠ B v + (37 - H v)) : RC (fx_sar s z i o) B H m := fun v l hv hl => by
  rw [ar_ne (fun q => h1 v hv q.1.symm)]
  exact h v l hv hl
theorem RV.sar (h : RV s B Y P m M) (h1 : ∀ v, v < m → z ≠ B v + 9) : RV (fx_sar s z i o) B Y P m M := fun v hv => by
  obtain ⟨a1, a2, a3, a4, a5, a6⟩ := h v hv
  exact ⟨a1, a2, a3, a4, fun j hj => by rw [ar_ne (fun q => h1 v hv q.1.symm)]; exact a5 j hj, a6⟩
/-- the node's arrays are apart -/
theorem SK.ap (h : SK s x B m) {v w c d : Nat} (hv : v < m) (hw : w < m) (hc : c < 20) (hd : d < 20) (e : B v + c = B w + d) : v = w ∧ c = d := by
  rcases (show v < w ∨ v = w ∨ w < v by omega) with q | q | q
  · have := h.c.ord v w q hw; omega
  · subst q; omega
  · have := h.c.ord w v q hv; omega
theorem RP.inj (h : RP s P M) {p q : Nat} (hp : p < 512) (hq : q < 512) (lp : 0 < rn M ff_Mod_lengths p) (lq : 0 < rn M ff_Mod_lengths q) (e : P p = P q) : p = q := by
  have a := h p hp lp
  have b := h q hq lq
  rw [e] at a
  have e1 := a.src.symm.trans b.src
  have e2 := a.slot.symm.trans b.slot
  have f1 := (nI_eq (by omega) (by omega)).mp e1
  have f2 := (nI_eq (by omega) (by omega)).mp e2
  omega
theorem RW.nP (hw : RW s B rt m M) (h : RP s P M) {p v : Nat} (hp : p < 512) (lp : 0 < rn M ff_Mod_lengths p) (hv : v < m) : P p ∉ rt (B v + 2) := by
  intro hin
  obtain ⟨j, hj⟩ := List.mem_iff_getElem?.mp hin
  have a := ((hw v hv).2 j _ hj).slot
  have b := (h p hp lp).slot
  rw [a] at b
  exact oI_ne (by omega) b.symm
/-- rows that stay -/
theorem RW.rts {rt' : Nat → List Nat} (h : RW s B rt m M) (e : ∀ v, v < m → rt' (B v + 2) = rt (B v + 2)) : RW s B rt' m M := fun v hv => by
  rw [e v hv]
  exact h v hv
theorem RX.rts {rt' : Nat → List Nat} (h : RX x B P m rt M) (e : ∀ v, v < m → rt' (B v + 3) = rt (B v + 3)) (e2 : ∀ v, v < m → rt' (B v + 6) = rt (B v + 6)) : RX x B P m rt' M := ⟨fun v hv hA => by rw [e v hv]; exact h.ag v hv hA, fun v hv hA => by rw [e2 v hv]; exact h.ak v hv hA, fun v hv hA => by rw [e v hv, e2 v hv]; exact h.z v hv hA⟩
theorem RK.rts {rt' : Nat → List Nat} (h : RK s x B P m rt K M) (e : ∀ v, v < m → rt' (B v + 2) = rt (B v + 2)) : RK s x B P m rt' K M := ⟨h.in_, h.fl, h.ln, h.ft, h.fp, fun v j a b hv hj hb => by rw [e v hv] at hj; exact h.fw v j a b hv hj hb, h.sep⟩
theorem ISR.ml : ISR x B m (x + 13) := Or.inl rfl
theorem ISR.sp : ISR x B m (x + 14) := Or.inr (Or.inl rfl)
theorem ISR.w {v : Nat} (hv : v < m) : ISR x B m (B v + 2) := Or.inr (Or.inr ⟨v, hv, Or.inl rfl⟩)
theorem ISR.g {v : Nat} (hv : v < m) : ISR x B m (B v + 3) := Or.inr (Or.inr ⟨v, hv, Or.inr (Or.inl rfl)⟩)
theorem ISR.k {v : Nat} (hv : v < m) : ISR x B m (B v + 6) := Or.inr (Or.inr ⟨v, hv, Or.inr (Or.inr rfl)⟩)
/-- the first note is taken out of the mail -/
theorem RA.pop {k : Nat} {t : List Nat} {nx fi la : Nat → Option Nat} {sz : Nat → Int32} (h : RA s x B H C Y P m rt K (k :: L) M) (ht : rt (x + 13) = P (rn M ff_Mod_noteSlot k) :: t) (hR : RR (fx_srow s nx fi la sz) x B m (fn_up rt (x + 13) t)) : RA (fx_srow s nx fi la sz) x B H C Y P m (fn_up rt (x + 13) t) K L M := by
  have hin := h.sk.c.in_
  have e2 : ∀ v, v < m → fn_up rt (x + 13) t (B v + 2) = rt (B v + 2) := fun v hv => fn_ne (by have := hin v hv; omega)
  have e3 : ∀ v, v < m → fn_up rt (x + 13) t (B v + 3) = rt (B v + 3) := fun v hv => fn_ne (by have := hin v hv; omega)
  have e6 : ∀ v, v < m → fn_up rt (x + 13) t (B v + 6) = rt (B v + 6) := fun v hv => fn_ne (by have := hin v hv; omega)
  have es : fn_up rt (x + 13) t (x + 14) = rt (x + 14) := fn_ne (by omega)
  have hm := h.m.row
  rw [ht] at hm
  refine ⟨h.sk, h.t, h.g, h.s, h.p, h.w.rts e2, hR, h.x.rts e3 e6, ⟨?_, fun j hj => h.m.dn j (List.mem_cons_of_mem _ hj), fun j hj => h.m.du j (List.mem_cons_of_mem _ hj)⟩, ⟨fun p hp lp => by rw [es]; exact h.o.sp p hp lp, h.o.kp, fun v a hv ha => h.o.kw v a hv (by rw [e2 v hv] at ha; exact ha), fun a ha => h.o.ks a (by rw [es] at ha; exact ha)⟩, h.k.rts e2, h.f, h.v, h.nm⟩
  rw [fn_same]
  simp only [List.map_cons, List.cons.injEq] at hm
  exact hm.2
/-! counting the slots -/
theorem suse_up {p u y : Nat} (hy : y < 2 ^ 31) (hp : p < 512) : suse (fx_up M ff_Mod_lengths p (nI y)) u + (if u = p / 8 ∧ 0 < rn M ff_Mod_lengths p then 1 else 0) = suse M u + (if u = p / 8 ∧ 0 < y then 1 else 0) := by
  have eL := fun q => gL_up (M := M) (p := p) (x := y) (q := q) hy
  unfold suse
  by_cases e : u = p / 8
  · subst e
    have hk : p % 8 < 8 := by omega
    have ep : 8 * (p / 8) + p % 8 = p := by omega
    generalize hu : p / 8 = u at *
    have cg : ∀ (f : Nat → Bool), (∀ k, k ≠ p % 8 → f k = decide (0 < rn M ff_Mod_lengths (8 * u + k))) → sp_cnt (fun k => f k && !(k == p % 8)) 8 = sp_cnt (fun k => decide (0 < rn M ff_Mod_lengths (8 * u + k)) && !(k == p % 8)) 8 := by
      intro f hf
      refine sp_cnt_congr _ (fun k _ => ?_)
      by_cases c : k = p % 8
      · simp [c]
      · rw [hf k c]
    have one : ∀ f : Nat → Bool, sp_cnt f 8 = sp_cnt (fun k => f k && !(k == p % 8)) 8 + (if f (p % 8) = true then 1 else 0) := by
      intro f
      cases hf : f (p % 8) with
      | true => rw [sp_cnt_pos hk hf]; simp
      | false =>
        simp
        refine sp_cnt_congr _ (fun k _ => ?_)
        by_cases c : k = p % 8
        · simp [c, hf]
        · simp [c]
    rw [one (fun k => decide (0 < rn (fx_up M ff_Mod_lengths p (nI y)) ff_Mod_lengths (8 * u + k))), one (fun k => decide (0 < rn M ff_Mod_lengths (8 * u + k))), cg _ (fun k hk => by rw [eL, if_neg (by omega)])]
    simp only [eL, ep, if_true, true_and, decide_eq_true_eq]
    omega
  · have cg : sp_cnt (fun k => decide (0 < rn (fx_up M ff_Mod_lengths p (nI y)) ff_Mod_lengths (8 * u + k))) 8 = sp_cnt (fun k => decide (0 < rn M ff_Mod_lengths (8 * u + k))) 8 := sp_cnt_congr _ (fun k hk => by rw [eL, if_neg (by omega)])
    rw [cg, if_neg (fun q => e q.1), if_neg (fun q => e q.1)]
theorem sp_sum_one {d e : Nat → Nat} {c : Nat} : ∀ k, c < k → (∀ i, i < k → i ≠ c → e i = d i) → sp_sum e k + d c = sp_sum d k + e c
  | 0, h, _ => by omega
  | k + 1, h, hh => by
    unfold sp_sum
    by_cases q : c = k
    · subst q
      have : sp_sum e c = sp_sum d c := by
        have : ∀ j, j ≤ c → sp_sum e j = sp_sum d j := by
          intro j
          induction j with
          | zero => intro _; rfl
          | succ j ih => intro hj; unfold sp_sum; rw [ih (by omega), hh j (by omega) (by omega)]
        exact this c (Nat.le_refl _)
      omega
    · have := sp_sum_one (d := d) (e := e) k (by omega) (fun i hi => hh i (by omega))
      rw [hh k (by omega) (fun z => q z.symm)]
      omega
theorem sp_sum_eq {d e : Nat → Nat} : ∀ k, (∀ i, i < k → e i = d i) → sp_sum e k = sp_sum d k
  | 0, _ => rfl
  | k + 1, h => by
    unfold sp_sum
    rw [sp_sum_eq k (fun i hi => h i (by omega)), h k (by omega)]
end
