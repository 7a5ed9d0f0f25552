section
variable {s t u : fx_S} {Q : fx_Q} {x b r a v m : Nat} {S : Nat → Prop} {rt : Nat → List Nat} {B H P : Nat → Nat} {C : Nat → Nat → Option Nat} {Y : Nat → Nat → Nat} {K : Nat → Prop} {L : List Nat} {M : rf_M}
/-- what emptying changes -/
def ET (B : Nat → Nat) (m : Nat) (s t : fx_S) : Prop := fx_kd t = fx_kd s ∧ fx_ln t = fx_ln s ∧ fx_ai t = fx_ai s ∧ fx_al t = fx_al s ∧ fx_nx t = fx_nx s ∧ fx_sl t = fx_sl s ∧ (∀ f a, (Nat.beq f 641 || Nat.beq f 706 || Nat.beq f 707 || Nat.beq f 513 || Nat.beq f 515 || Nat.beq f 261) = false → fx_fi t f a = fx_fi s f a) ∧ (∀ f a, (Nat.beq f 331 || Nat.beq f 640 || Nat.beq f 642 || Nat.beq f 709 || Nat.beq f 384) = false → fx_fr t f a = fx_fr s f a) ∧ ∀ a, (∀ v, v < m → a ≠ B v + 4 ∧ a ≠ B v + 18 ∧ a ≠ B v + 19) → fx_ar t a = fx_ar s a
theorem ET.ln (h : ET B m s t) : fx_ln t = fx_ln s := h.2.1
theorem ET.nx (h : ET B m s t) : fx_nx t = fx_nx s := h.2.2.2.2.1
theorem ET.fi {f : Nat} (h : ET B m s t) (hf : (Nat.beq f 641 || Nat.beq f 706 || Nat.beq f 707 || Nat.beq f 513 || Nat.beq f 515 || Nat.beq f 261) = false) : fx_fi t f a = fx_fi s f a := h.2.2.2.2.2.2.1 f a hf
theorem ET.fr {f : Nat} (h : ET B m s t) (hf : (Nat.beq f 331 || Nat.beq f 640 || Nat.beq f 642 || Nat.beq f 709 || Nat.beq f 384) = false) : fx_fr t f a = fx_fr s f a := h.2.2.2.2.2.2.2.1 f a hf
theorem ET.ar (h : ET B m s t) (ha : ∀ v, v < m → a ≠ B v + 4 ∧ a ≠ B v + 18 ∧ a ≠ B v + 19) : fx_ar t a = fx_ar s a := h.2.2.2.2.2.2.2.2 a ha
theorem ET.tr (h : ET B m s t) (g : ET B m t u) : ET B m s u := by
  obtain ⟨h1, h2, h3, h4, h5, h6, h7, h8, h9⟩ := h
  obtain ⟨g1, g2, g3, g4, g5, g6, g7, g8, g9⟩ := g
  exact ⟨g1.trans h1, g2.trans h2, g3.trans h3, g4.trans h4, g5.trans h5, g6.trans h6, fun f a q => (g7 f a q).trans (h7 f a q), fun f a q => (g8 f a q).trans (h8 f a q), fun a q => (g9 a q).trans (h9 a q)⟩
theorem SM.et (h : SM x (B v) s t) (hv : v < m) : ET B m s t := ⟨h.kd, h.ln, h.ai, h.al, h.nx, h.sl, fun _ _ q => h.dfi q, fun _ _ q => h.dfr q, fun a q => h.ar a (q v hv).1 (q v hv).2.1 (q v hv).2.2⟩
theorem ET.cf (h : ET B m s t) : CF x s t := by
  obtain ⟨h1, h2, h3, h4, h5, h6, h7, h8, h9⟩ := h
  refine ⟨fun f a hf _ => ⟨h7 f a ?_, h8 f a ?_⟩, fun a _ => ⟨by rw [h1], by rw [h2], by rw [h4], fun _ => by rw [h3]⟩, by omega⟩
  · have e : ∀ c, c < 768 → Nat.beq f c = false := fun c hc => by
      cases q : Nat.beq f c with
      | false => rfl
      | true => have := Nat.eq_of_beq_eq_true q; omega
    rw [e 641 (by omega), e 706 (by omega), e 707 (by omega), e 513 (by omega), e 515 (by omega), e 261 (by omega)]; rfl
  · have e : ∀ c, c < 768 → Nat.beq f c = false := fun c hc => by
      cases q : Nat.beq f c with
      | false => rfl
      | true => have := Nat.eq_of_beq_eq_true q; omega
    rw [e 331 (by omega), e 640 (by omega), e 642 (by omega), e 709 (by omega), e 384 (by omega)]; rfl
theorem SK3.dis {v w : Nat} (h : SK3 s x B m) (hv : v < m) (hw : w < m) (hn : v ≠ w) : B v + 20 ≤ B w ∨ B w + 20 ≤ B v := by
  rcases Nat.lt_or_gt_of_ne hn with q | q
  · exact Or.inl (h.ord v w q hw)
  · exact Or.inr (h.ord w v q hv)
theorem SK1.et (h : SK1 s x) (g : ET B m s t) : SK1 t x := by
  obtain ⟨a1, a2, a3, a4, a5, a6, a7, a8, a9, a10, a11, a12, a13, a14, a15, a16, a17, a18, a19, a20, a21, a22, a23, a24, a25⟩ := h
  unfold SK1
  rw [g.fr rfl, g.fr rfl, g.fr rfl, g.fr rfl, g.fr rfl, g.fr rfl, g.fr rfl, g.fr rfl, g.fr rfl, g.fr rfl, g.fr rfl, g.fr rfl, g.fr rfl, g.fr rfl, g.fr rfl, g.fr rfl, g.ln]
  exact ⟨a1, a2, a3, a4, a5, a6, a7, a8, a9, a10, a11, a12, a13, a14, a15, a16, a17, a18, a19, a20, a21, a22, a23, a24, a25⟩
theorem SK.et (h : SK s x B m) (g : ET B m s t) : SK t x B m := by
  have hin := h.c.in_
  refine ⟨h.a.et g, fun v hv => ?_, h.c.m64, by rw [g.fi rfl]; exact h.c.made, fun v hv => by rw [g.nx]; exact hin v hv, h.c.ord, by rw [g.nx]; exact h.c.x15⟩
  have h2 := h.b v hv
  have hv1 := hin v hv
  have a12 : ∀ w, w < m → x + 12 ≠ B w + 4 ∧ x + 12 ≠ B w + 18 ∧ x + 12 ≠ B w + 19 := fun w hw => by
    have := hin w hw
    omega
  have a8 : ∀ w, w < m → B v + 8 ≠ B w + 4 ∧ B v + 8 ≠ B w + 18 ∧ B v + 8 ≠ B w + 19 := fun w hw => by
    by_cases e : v = w
    · rw [e]; omega
    · have := h.c.dis hv hw e; omega
  refine ⟨by rw [g.ar a12]; exact h2.at, by rw [g.fi rfl]; exact h2.num, by rw [g.fr rfl]; exact h2.snd, by rw [g.fr rfl]; exact h2.rcv, by rw [g.fr rfl]; exact h2.wait, by rw [g.fr rfl]; exact h2.again, by rw [g.fr rfl]; exact h2.slots, by rw [g.fr rfl]; exact h2.asked, by rw [g.fr rfl]; exact h2.places, by rw [g.fr rfl]; exact h2.ready, by rw [g.ln]; exact h2.lslots, by rw [g.ln]; exact h2.lpl, by rw [g.ln]; exact h2.lrd, by rw [g.ln]; exact h2.lh, by rw [g.ln]; exact h2.lc, fun i hi => by rw [g.ar a8]; exact h2.pl i hi⟩
theorem KK.et (h : KK s x B m K) (g : ET B m s t) : KK t x B m K := by
  obtain ⟨h1, h2, h3, h4, h5⟩ := h
  refine ⟨fun a ha => by rw [g.nx]; exact h1 a ha, fun a ha => by rw [g.fr rfl]; exact h2 a ha, fun a ha => by rw [g.ln]; exact h3 a ha, fun a b F ha hb hF => ?_, h5⟩
  rw [g.ar (fun v hv => by have := (h1 a ha).2.2 v hv; omega)] at hF
  rw [g.fr rfl, g.fi rfl, g.nx]
  exact h4 a b F ha hb hF
theorem LL.et {c h : Nat} (hl : LL s c h) (g : ET B m s t) : LL t c h := ⟨hl.1, by rw [g.fr rfl]; exact hl.2.1, by rw [g.fr rfl]; exact hl.2.2⟩
theorem YY.et {Z : Nat → Nat} (hl : YY s (B v) Z) (g : ET B m s t) (h3 : SK3 s x B m) (hv : v < m) : YY t (B v) Z := by
  have a9 : ∀ w, w < m → B v + 9 ≠ B w + 4 ∧ B v + 9 ≠ B w + 18 ∧ B v + 9 ≠ B w + 19 := fun w hw => by
    by_cases e : v = w
    · rw [e]; omega
    · have := h3.dis hv hw e; omega
  exact ⟨fun i hi => by rw [g.ar a9]; exact hl.1 i hi, by rw [g.fr rfl]; exact hl.2.1, hl.2.2⟩
/-- a torus that can be emptied -/
def EP (s : fx_S) (x : Nat) (B H : Nat → Nat) (Y : Nat → Nat → Nat) (m : Nat) (rt : Nat → List Nat) (K : Nat → Prop) : Prop := SK s x B m ∧ RQ s (fun r => r = x + 14 ∨ ∃ v, v < m ∧ r = B v + 2) rt ∧ (∀ v k c, v < m → k < 8 → fx_ar s (B v + 4) k = some c → K c ∧ c ∉ rt (x + 14) ∧ ∀ w, w < m → c ∉ rt (B w + 2)) ∧ (∀ v k w l c, v < m → k < 8 → w < m → l < 8 → fx_ar s (B v + 4) k = some c → fx_ar s (B w + 4) l = some c → v = w ∧ k = l) ∧ (∀ a, a ∈ rt (x + 14) → K a) ∧ (∀ v a, v < m → a ∈ rt (B v + 2) → K a) ∧ KK s x B m K ∧ (∀ v, v < m → LL s (B v) (H v)) ∧ ∀ v, v < m → YY s (B v) (Y v)
/-- an emptied torus -/
def EM (s : fx_S) (x : Nat) (B H : Nat → Nat) (Y : Nat → Nat → Nat) (m : Nat) (rt : Nat → List Nat) (K : Nat → Prop) : Prop := SK s x B m ∧ (∀ v, v < m → ES s (B v)) ∧ RR s x B m rt ∧ (∀ r, ISR x B m r → r ≠ x + 14 → rt r = []) ∧ (∀ a, a ∈ rt (x + 14) → K a) ∧ KK s x B m K ∧ (∀ v, v < m → LL s (B v) (H v)) ∧ ∀ v, v < m → YY s (B v) (Y v)
theorem RA.ep (h : RA s x B H C Y P m rt K L M) : EP s x B H Y m rt K := by
  have m64 := h.sk.c.m64
  have sl : ∀ v k c, v < m → k < 8 → fx_ar s (B v + 4) k = some c → 0 < rn M ff_Mod_lengths (8 * v + k) ∧ c = P (8 * v + k) := by
    intro v k c hv hk hc
    rw [h.s.sl v k hv hk] at hc
    by_cases q : 0 < rn M ff_Mod_lengths (8 * v + k)
    · rw [if_pos q] at hc
      exact ⟨q, (Option.some.inj hc).symm⟩
    · rw [if_neg q] at hc; cases hc
  refine ⟨h.sk, ⟨fun r hr => h.r.row r ?_, fun r hr => h.r.nd r ?_, fun r q a hr hq => h.r.dj r q a ?_ ?_⟩, fun v k c hv hk hc => ?_, fun v k w l c hv hk hw hl h1 h2 => ?_, h.o.ks, h.o.kw, ⟨h.k.in_, h.k.fl, h.k.ln, h.k.ft, h.k.sep⟩, fun v hv => ⟨h.f.h1 v hv, h.f.here v hv, h.f.com v hv⟩, fun v hv => ⟨(h.v v hv).yr, (h.v v hv).yl, (h.v v hv).yi, (h.v v hv).yin⟩⟩
  · rcases hr with e | ⟨v, hv, e⟩
    · exact Or.inr (Or.inl e)
    · exact Or.inr (Or.inr ⟨v, hv, Or.inl e⟩)
  · rcases hr with e | ⟨v, hv, e⟩
    · exact Or.inr (Or.inl e)
    · exact Or.inr (Or.inr ⟨v, hv, Or.inl e⟩)
  · rcases hr with e | ⟨v, hv, e⟩
    · exact Or.inr (Or.inl e)
    · exact Or.inr (Or.inr ⟨v, hv, Or.inl e⟩)
  · rcases hq with e | ⟨v, hv, e⟩
    · exact Or.inr (Or.inl e)
    · exact Or.inr (Or.inr ⟨v, hv, Or.inl e⟩)
  · obtain ⟨l, e⟩ := sl v k c hv hk hc
    rw [e]
    exact ⟨h.o.kp _ (by omega) l, h.o.sp _ (by omega) l, fun w hw => h.w.nP h.p (by omega) l hw⟩
  · obtain ⟨q1, e1⟩ := sl v k c hv hk h1
    obtain ⟨q2, e2⟩ := sl w l c hw hl h2
    have := h.p.inj (by omega) (by omega) q1 q2 (e1.symm.trans e2)
    omega
theorem k_emptyAll (h : EP s x B H Y m rt K) (k : ∀ t rt', ET B m s t → EM t x B H Y m rt' K → Q none t) : fx_M mm_Torus_emptyAll [vR 10 (some x)] s Q := by
  obtain ⟨hS, hQ, h1, h2, h3, h4, hK, hH, hY⟩ := h
  have hin := hS.c.in_
  have m64 := hS.c.m64
  refine xx_i ml103 ?_
  refine xx_j ee103_0 rfl trivial ?_
  refine xx_gr ee103_1 hS.a.mail rfl rfl ?_
  refine xx_c ee103_4 rfl (k_rclear ?_)
  have q1 := z_rcl (r := x + 13) hQ
  have T1 : ET B m s (cm_rcl s (x + 13)) := by
    refine ⟨rfl, rfl, rfl, rfl, rfl, rfl, fun f a hf => ?_, fun f a hf => ?_, fun _ _ => rfl⟩
    · exact fi_ne (fun q => by rw [q.1] at hf; exact absurd hf (by decide))
    · exact (fr_ne (fun q => by rw [q.1] at hf; exact absurd hf (by decide))).trans (fr_ne (fun q => by rw [q.1] at hf; exact absurd hf (by decide)))
  have a1 : fx_ar (cm_rcl s (x + 13)) = fx_ar s := rfl
  generalize cm_rcl s (x + 13) = t1 at *
  refine xx_k ee103_7 0 rfl ?_
  refine xx_j ee103_8 rfl trivial ?_
  have loop : ∀ d i t rt', i + d = m → ET B m s t → RQ t (fun r => r = x + 13 ∨ r = x + 14 ∨ (∃ v, v < m ∧ r = B v + 2) ∨ ∃ v, v < i ∧ (r = B v + 3 ∨ r = B v + 6)) rt' → rt' (x + 13) = [] → (∀ v, v < i → rt' (B v + 2) = [] ∧ rt' (B v + 3) = [] ∧ rt' (B v + 6) = []) → (∀ v, i ≤ v → v < m → rt' (B v + 2) = rt (B v + 2)) → (∀ c, c ∈ rt' (x + 14) → c ∈ rt (x + 14) ∨ (∃ v, v < i ∧ c ∈ rt (B v + 2)) ∨ ∃ v k, v < i ∧ k < 8 ∧ fx_ar s (B v + 4) k = some c) → (∀ v, v < i → ES t (B v)) → (∀ v, i ≤ v → v < m → fx_ar t (B v + 4) = fx_ar s (B v + 4)) → fx_W 103 9 [some (vR 10 (some x)), some (vI (nI i))] [] t Q := by
    intro d
    induction d with
    | zero =>
      intro i t rt' hi T q w1 w2 w3 w4 w5 w6
      have hSt := hS.et T
      refine xx_j ee103_9 rfl trivial ?_
      refine xx_j ee103_10 rfl trivial ?_
      refine xx_gi ee103_11 hSt.c.made rfl rfl ?_
      refine xx_ge ee103_14 (by omega) (by omega) (fun _ => ?_) (fun q => by omega)
      have him : i = m := by omega
      subst him
      have isr : ∀ r, ISR x B i r → r = x + 13 ∨ r = x + 14 ∨ (∃ v, v < i ∧ r = B v + 2) ∨ ∃ v, v < i ∧ (r = B v + 3 ∨ r = B v + 6) := by
        intro r hr
        rcases hr with e | e | ⟨v, hv, e | e⟩
        · exact Or.inl e
        · exact Or.inr (Or.inl e)
        · exact Or.inr (Or.inr (Or.inl ⟨v, hv, e⟩))
        · exact Or.inr (Or.inr (Or.inr ⟨v, hv, e⟩))
      refine xx_rv ee103_36 (k t rt' T ⟨hSt, w5, ⟨fun r hr => q.1 r (isr r hr), fun r hr => q.2.1 r (isr r hr), fun r p a hr hp => q.2.2 r p a (isr r hr) (isr p hp)⟩, fun r hr hne => ?_, fun a ha => ?_, hK.et T, fun v hv => (hH v hv).et T, fun v hv => (hY v hv).et T hS.c hv⟩)
      · rcases hr with e | e | ⟨v, hv, e | e | e⟩
        · rw [e]; exact w1
        · exact absurd e hne
        · rw [e]; exact (w2 v hv).1
        · rw [e]; exact (w2 v hv).2.1
        · rw [e]; exact (w2 v hv).2.2
      · rcases w4 a ha with z | ⟨v, hv, z⟩ | ⟨v, j, hv, hj, z⟩
        · exact h3 a z
        · exact h4 v a hv z
        · exact (h1 v j a hv hj z).1
    | succ d ih =>
      intro i t rt' hi T q w1 w2 w3 w4 w5 w6
      have him : i < m := by omega
      have hSt := hS.et T
      have hb := hin i him
      refine xx_j ee103_9 rfl trivial ?_
      refine xx_j ee103_10 rfl trivial ?_
      refine xx_gi ee103_11 hSt.c.made rfl rfl ?_
      refine xx_ge ee103_14 (by omega) (by omega) (fun q => by omega) (fun _ => ?_)
      refine xx_j ee103_17 rfl trivial ?_
      refine xx_gr ee103_18 hSt.a.nodes rfl rfl ?_
      refine xx_j ee103_21 rfl trivial ?_
      refine xx_rl ee103_22 hSt.a.lnod (by omega) (by decide) (hSt.b i him).at rfl ?_
      refine xx_j ee103_23 rfl trivial ?_
      refine xx_gr ee103_24 hSt.a.spare rfl rfl ?_
      refine xx_c ee103_27 rfl (k_nclear (by omega) (hSt.b i him) ((hH i him).et T) q (Or.inr (Or.inr (Or.inl ⟨i, him, rfl⟩))) (Or.inr (Or.inl rfl)) ?_ (o := fun k => fx_ar s (B i + 4) k) (fun k hk => by rw [w6 i (Nat.le_refl _) him]) (fun k c hk hc r hr hin' => ?_) (fun k l c hk hl g1 g2 => (h2 i k i l c him hk him hl g1 g2).2) (fun t2 rt2 m2 q2 y2 y3 y6 yo ym ye => ?_))
      · intro z
        rcases z with e | e | ⟨v, hv, e⟩ | ⟨v, hv, e⟩
        · omega
        · omega
        · by_cases ev : i = v
          · rw [ev] at e; omega
          · have := hS.c.dis him hv ev; omega
        · have := hS.c.dis him (show v < m by omega) (by omega); omega
      · obtain ⟨kc, n14, nw⟩ := h1 i k c him hk hc
        rcases hr with e | e | ⟨v, hv, e⟩ | ⟨v, hv, e⟩
        · rw [e, w1] at hin'; cases hin'
        · rw [e] at hin'
          rcases w4 c hin' with z | ⟨v, hv, z⟩ | ⟨v, j, hv, hj, z⟩
          · exact n14 z
          · exact nw v (by omega) z
          · have := (h2 i k v j c him hk (by omega) hj hc z).1; omega
        · rw [e] at hin'
          by_cases q : v < i
          · rw [(w2 v q).1] at hin'; cases hin'
          · rw [w3 v (by omega) hv] at hin'; exact nw v hv hin'
        · rcases e with e | e
          · rw [e, (w2 v hv).2.1] at hin'; cases hin'
          · rw [e, (w2 v hv).2.2] at hin'; cases hin'
      · first | refine xx_inc ee103_30 rfl ?_ | refine xx_j ee103_30 rfl trivial ?_
        refine xx_j ee103_33 rfl trivial ?_
        have dis : ∀ v, v < m → v ≠ i → B v + 20 ≤ B i ∨ B i + 20 ≤ B v := fun v hv hn => hS.c.dis hv him hn
        refine ih (i + 1) t2 rt2 (by omega) (T.tr (m2.et him)) (q2.sub (fun r hr => ?_) (fun _ _ => rfl)) ?_ (fun v hv => ?_) (fun v hv hv2 => ?_) (fun c hc => ?_) (fun v hv => ?_) (fun v hv hv2 => ?_)
        · rcases hr with e | e | e | ⟨v, hv, e⟩
          · exact Or.inl (Or.inl (Or.inl e))
          · exact Or.inl (Or.inl (Or.inr (Or.inl e)))
          · exact Or.inl (Or.inl (Or.inr (Or.inr (Or.inl e))))
          · by_cases ev : v = i
            · rw [ev] at e
              rcases e with e | e
              · exact Or.inl (Or.inr e)
              · exact Or.inr e
            · exact Or.inl (Or.inl (Or.inr (Or.inr (Or.inr ⟨v, by omega, e⟩))))
        · rw [yo _ (by omega) (by omega) (by omega) (by omega)]; exact w1
        · by_cases ev : v = i
          · rw [ev]; exact ⟨y2, y3, y6⟩
          · have := dis v (by omega) ev
            have := hin v (by omega)
            rw [yo _ (by omega) (by omega) (by omega) (by omega), yo _ (by omega) (by omega) (by omega) (by omega), yo _ (by omega) (by omega) (by omega) (by omega)]
            exact w2 v (by omega)
        · have := dis v hv2 (by omega)
          have := hin v hv2
          rw [yo _ (by omega) (by omega) (by omega) (by omega)]
          exact w3 v (by omega) hv2
        · rcases ym c hc with z | z | ⟨j, hj, z⟩
          · rcases w4 c z with z | ⟨v, hv, z⟩ | ⟨v, j, hv, hj, z⟩
            · exact Or.inl z
            · exact Or.inr (Or.inl ⟨v, by omega, z⟩)
            · exact Or.inr (Or.inr ⟨v, j, by omega, hj, z⟩)
          · rw [w3 i (Nat.le_refl _) him] at z
            exact Or.inr (Or.inl ⟨i, by omega, z⟩)
          · exact Or.inr (Or.inr ⟨i, j, by omega, hj, z⟩)
        · by_cases ev : v = i
          · rw [ev]; exact ye
          · have := dis v (by omega) ev
            have := hin v (by omega)
            exact (w5 v (by omega)).sm m2 (by omega) (by omega)
        · have := dis v hv2 (by omega)
          rw [m2.ar _ (by omega) (by omega) (by omega)]
          exact w6 v (by omega) hv2
  refine loop m 0 t1 (fn_up rt (x + 13) []) (by omega) T1 (q1.sub (fun r hr => ?_) (fun _ _ => rfl)) fn_same (fun v hv => by omega) (fun v _ hv => ?_) (fun c hc => ?_) (fun v hv => by omega) (fun v _ hv => by rw [a1])
  · rcases hr with e | e | e | ⟨v, hv, e⟩
    · exact Or.inr e
    · exact Or.inl (Or.inl e)
    · exact Or.inl (Or.inr e)
    · omega
  · have := hin v hv
    rw [fn_ne (by omega)]
  · rw [fn_ne (by omega)] at hc; exact Or.inl hc
end
