section
variable {s t u : fx_S} {Q : fx_Q} {x b v i m : Nat} {rt : Nat → List Nat} {B H P : Nat → Nat} {Y : Nat → Nat → Nat} {Z : Nat → Nat} {K : Nat → Prop} {M : rf_M}
/-- what a new node leaves as it was -/
def HF (x i b : Nat) (s t : fx_S) : Prop := (∀ f a, a < b → (f ≠ 4 ∨ a ≠ x) → fx_fi t f a = fx_fi s f a) ∧ (∀ f a, a < b → fx_fr t f a = fx_fr s f a) ∧ (∀ a, a < b → fx_ln t a = fx_ln s a) ∧ (∀ a, a < b → a ≠ x + 12 → fx_ar t a = fx_ar s a) ∧ ∀ j, j ≠ i → fx_ar t (x + 12) j = fx_ar s (x + 12) j
theorem HF.fi {f a : Nat} (g : HF x i b s t) (h : a < b) (hf : f ≠ 4 ∨ a ≠ x) : fx_fi t f a = fx_fi s f a := g.1 f a h hf
theorem HF.fr {f a : Nat} (g : HF x i b s t) (h : a < b) : fx_fr t f a = fx_fr s f a := g.2.1 f a h
theorem HF.ln {a : Nat} (g : HF x i b s t) (h : a < b) : fx_ln t a = fx_ln s a := g.2.2.1 a h
theorem HF.ar {a : Nat} (g : HF x i b s t) (h : a < b) (hx : a ≠ x + 12) : fx_ar t a = fx_ar s a := g.2.2.2.1 a h hx
theorem HF.at {j : Nat} (g : HF x i b s t) (h : j ≠ i) : fx_ar t (x + 12) j = fx_ar s (x + 12) j := g.2.2.2.2 j h
theorem SK1.hf (h : SK1 s x) (g : HF x i b s t) (hx : x + 15 ≤ b) : SK1 t x := by
  obtain ⟨a1, a2, a3, a4, a5, a6, a7, a8, a9, a10, a11, a12, a13, a14, a15, a16, a17, a18, a19, a20, a21, a22, a23, a24, a25⟩ := h
  unfold SK1
  rw [g.fr (by omega), g.fr (by omega), g.fr (by omega), g.fr (by omega), g.fr (by omega), g.fr (by omega), g.fr (by omega), g.fr (by omega), g.fr (by omega), g.fr (by omega), g.fr (by omega), g.fr (by omega), g.fr (by omega), g.fr (by omega), g.fr (by omega), g.fr (by omega), g.ln (by omega), g.ln (by omega), g.ln (by omega), g.ln (by omega), g.ln (by omega), g.ln (by omega), g.ln (by omega), g.ln (by omega), g.ln (by omega)]
  exact ⟨a1, a2, a3, a4, a5, a6, a7, a8, a9, a10, a11, a12, a13, a14, a15, a16, a17, a18, a19, a20, a21, a22, a23, a24, a25⟩
theorem SK2.hf {c : Nat} (h : SK2 s x v c) (g : HF x i b s t) (hx : x + 15 ≤ c) (hb : c + 20 ≤ b) (hv : v ≠ i) : SK2 t x v c := by
  obtain ⟨a1, a2, a3, a4, a5, a6, a7, a8, a9, a10, a11, a12, a13, a14, a15, a16⟩ := h
  refine ⟨by rw [g.at hv]; exact a1, by rw [g.fi (by omega) (Or.inl (by decide))]; exact a2, by rw [g.fr (by omega)]; exact a3, by rw [g.fr (by omega)]; exact a4, by rw [g.fr (by omega)]; exact a5, by rw [g.fr (by omega)]; exact a6, by rw [g.fr (by omega)]; exact a7, by rw [g.fr (by omega)]; exact a8, by rw [g.fr (by omega)]; exact a9, by rw [g.fr (by omega)]; exact a10, by rw [g.ln (by omega)]; exact a11, by rw [g.ln (by omega)]; exact a12, by rw [g.ln (by omega)]; exact a13, by rw [g.ln (by omega)]; exact a14, by rw [g.ln (by omega)]; exact a15, fun i hi => by rw [g.ar (by omega) (by omega)]; exact a16 i hi⟩
theorem ES.hf {c : Nat} (h : ES s c) (g : HF x i b s t) (hx : x + 15 ≤ c) (hb : c + 20 ≤ b) : ES t c := by
  obtain ⟨h1, h2, h3, h4, h5, h6, h7, h8, h9, h10⟩ := h
  exact ⟨by rw [g.fi (by omega) (Or.inl (by decide))]; exact h1, by rw [g.fi (by omega) (Or.inl (by decide))]; exact h2, by rw [g.fr (by omega)]; exact h3, fun k hk => by rw [g.ar (by omega) (by omega)]; exact h4 k hk, by rw [g.fi (by omega) (Or.inl (by decide))]; exact h5, fun k hk => by rw [g.ar (by omega) (by omega)]; exact h6 k hk, fun k hk => by rw [g.ar (by omega) (by omega)]; exact h7 k hk, by rw [g.fi (by omega) (Or.inl (by decide))]; exact h8, by rw [g.fi (by omega) (Or.inl (by decide))]; exact h9, fun i hi => by rw [g.fr (by omega)]; exact h10 i hi⟩
theorem LL.hf {c h : Nat} (hl : LL s c h) (g : HF x i b s t) (hb : c + 20 ≤ b) : LL t c h := ⟨hl.1, by rw [g.fr (by omega)]; exact hl.2.1, by rw [g.fr (by omega)]; exact hl.2.2⟩
theorem YY.hf {c : Nat} (hl : YY s c Z) (g : HF x i b s t) (hx : x + 15 ≤ c) (hb : c + 20 ≤ b) : YY t c Z := ⟨fun i hi => by rw [g.ar (by omega) (by omega)]; exact hl.1 i hi, by rw [g.fr (by omega)]; exact hl.2.1, hl.2.2⟩
theorem EM.node (h : EM u x B H Y i rt K) (hb : fx_nx u = b) (g : HF x i b u t) (hn : fx_nx t = b + 20) (hm : fx_fi t ff_Torus_nodesMade x = nI (i + 1)) (i64 : i < 64) (n1 : SK2 t x i b) (n2 : ES t b) (n3 : LL t b 18) (n4 : YY t b Z) (r2 : RL t (b + 2) []) (r3 : RL t (b + 3) []) (r6 : RL t (b + 6) []) : EM t x (fn_up B i b) (fn_up H i 18) (fn_up Y i Z) (i + 1) (fn_up (fn_up (fn_up rt (b + 2) []) (b + 3) []) (b + 6) []) K := by
  obtain ⟨hS, hE, hR, hz, hk, hK, hH, hY⟩ := h
  have hx := hS.c.x15
  have hin := hS.c.in_
  rw [hb] at hx
  have hin' : ∀ v, v < i → x + 15 ≤ B v ∧ B v + 20 ≤ b := fun v hv => by rw [← hb]; exact hin v hv
  have bn : ∀ v, v < i → fn_up B i b v = B v := fun v hv => fn_ne (by omega)
  have isr : ∀ r, ISR x (fn_up B i b) (i + 1) r → (ISR x B i r ∧ r < b) ∨ r = b + 2 ∨ r = b + 3 ∨ r = b + 6 := by
    intro r hr
    rcases hr with e | e | ⟨v, hv, e⟩
    · exact Or.inl ⟨Or.inl e, by omega⟩
    · exact Or.inl ⟨Or.inr (Or.inl e), by omega⟩
    · by_cases q : v = i
      · rw [q, fn_same] at e; exact Or.inr e
      · rw [bn v (by omega)] at e
        have := hin' v (by omega)
        exact Or.inl ⟨Or.inr (Or.inr ⟨v, by omega, e⟩), by rcases e with e | e | e <;> omega⟩
  have ro : ∀ r, r < b → fn_up (fn_up (fn_up rt (b + 2) []) (b + 3) []) (b + 6) [] r = rt r := fun r hr => by rw [fn_ne (by omega), fn_ne (by omega), fn_ne (by omega)]
  have re : ∀ r, r = b + 2 ∨ r = b + 3 ∨ r = b + 6 → fn_up (fn_up (fn_up rt (b + 2) []) (b + 3) []) (b + 6) [] r = [] := by
    intro r hr
    rcases hr with e | e | e
    · rw [e, fn_ne (by omega), fn_ne (by omega), fn_same]
    · rw [e, fn_ne (by omega), fn_same]
    · rw [e, fn_same]
  have rk : ∀ r, ISR x B i r → ∀ a, a ∈ rt r → a + 1 < b := by
    intro r hr a ha
    by_cases e : r = x + 14
    · rw [e] at ha
      have := (hK.1 a (hk a ha)).2.1
      omega
    · rw [hz r hr e] at ha; cases ha
  refine ⟨⟨hS.a.hf g hx, fun v hv => ?_, by omega, hm, fun v hv => ?_, fun v w hv hw => ?_, by omega⟩, fun v hv => ?_, ⟨fun r hr => ?_, fun r hr => ?_, fun r q a hr hq h1 h2 => ?_⟩, fun r hr hne => ?_, fun a ha => ?_, ⟨fun a ha => ?_, fun a ha => ?_, fun a ha => ?_, fun a c F ha hc hF => ?_, hK.2.2.2.2⟩, fun v hv => ?_, fun v hv => ?_⟩
  · by_cases q : v = i
    · rw [q, fn_same]; exact n1
    · rw [bn v (by omega)]
      exact (hS.b v (by omega)).hf g (hin' v (by omega)).1 (hin' v (by omega)).2 q
  · by_cases q : v = i
    · rw [q, fn_same]; omega
    · rw [bn v (by omega)]
      have := hin' v (by omega)
      omega
  · by_cases q : w = i
    · rw [q, fn_same, bn v (by omega)]
      have := hin' v (by omega)
      omega
    · rw [bn v (by omega), bn w (by omega)]
      exact hS.c.ord v w hv (by omega)
  · by_cases q : v = i
    · rw [q, fn_same]; exact n2
    · rw [bn v (by omega)]
      exact (hE v (by omega)).hf g (hin' v (by omega)).1 (hin' v (by omega)).2
  · rcases isr r hr with ⟨q1, q2⟩ | q
    · rw [ro r q2]
      obtain ⟨e1, e2, e3, e4⟩ := hR.row r q1
      exact ⟨by rw [g.fr q2]; exact e1, by rw [g.fr q2]; exact e2, by rw [g.fi q2 (Or.inl (by decide))]; exact e3, e4.frame (fun a ha => g.fr (by have := rk r q1 a ha; omega))⟩
    · rw [re r q]
      rcases q with q | q | q <;> rw [q] <;> assumption
  · rcases isr r hr with ⟨q1, q2⟩ | q
    · rw [ro r q2]; exact hR.nd r q1
    · rw [re r q]; exact List.nodup_nil
  · rcases isr r hr with ⟨q1, q2⟩ | q1
    · rcases isr q hq with ⟨q3, q4⟩ | q3
      · rw [ro r q2] at h1
        rw [ro q q4] at h2
        exact hR.dj r q a q1 q3 h1 h2
      · rw [re q q3] at h2; cases h2
    · rw [re r q1] at h1; cases h1
  · rcases isr r hr with ⟨q1, q2⟩ | q
    · rw [ro r q2]; exact hz r q1 hne
    · rw [re r q]
  · rw [ro _ (by omega)] at ha; exact hk a ha
  · obtain ⟨k1, k2, k3⟩ := hK.1 a ha
    refine ⟨k1, by omega, fun v hv => ?_⟩
    by_cases q : v = i
    · rw [q, fn_same]; omega
    · rw [bn v (by omega)]; exact k3 v (by omega)
  · have := (hK.1 a ha).2.1
    rw [g.fr (by omega)]; exact hK.2.1 a ha
  · have := (hK.1 a ha).2.1
    rw [g.ln (by omega)]; exact hK.2.2.1 a ha
  · have k2 := (hK.1 a ha).2
    have := (hK.1 a ha).1
    rw [g.ar (by omega) (by omega)] at hF
    obtain ⟨f1, f2, f3⟩ := hK.2.2.2.1 a c F ha hc hF
    exact ⟨by rw [g.fr (by omega)]; exact f1, by rw [g.fi (by omega) (Or.inl (by decide))]; exact f2, by omega⟩
  · by_cases q : v = i
    · rw [q, fn_same, fn_same]; exact n3
    · rw [bn v (by omega), fn_ne q]
      exact (hH v (by omega)).hf g (hin' v (by omega)).2
  · by_cases q : v = i
    · rw [q, fn_same, fn_same]; exact n4
    · rw [bn v (by omega), fn_ne q]
      exact (hY v (by omega)).hf g (hin' v (by omega)).1 (hin' v (by omega)).2
/-- one node more -/
theorem EM.more (h : EM (fx_sfi s ff_Torus_nodesMade x (nI i)) x B H Y i rt K) (hb : fx_nx s = b) (i64 : i < 64) : ∃ B' H' Y' rt', EM (fx_sfi (fx_sar (cm_nod (nwo s b 14 6) b (nI i)) (x + 12) i (some b)) ff_Torus_nodesMade x (nI (i + 1))) x B' H' Y' (i + 1) rt' K := by
  have hx := h.1.c.x15
  have hx' : x + 15 ≤ b := by rw [← hb]; exact hx
  have g := nod_g (y := nI i) hb
  obtain ⟨a1, a2, a3, a4, a5, a6⟩ := nod_a (s := s) (b := b) (y := nI i)
  obtain ⟨b1, b2, b3, b4, b5, b6, b7, b8, b9, b10, b11, b12⟩ := nod_b (s := s) (b := b) (y := nI i)
  have c1 := nod_c (s := s) (b := b) (y := nI i) ff_Row_first (Or.inl rfl)
  have c2 := nod_c (s := s) (b := b) (y := nI i) ff_Row_last (Or.inr rfl)
  have d1 := nod_d (s := s) (b := b) (y := nI i)
  obtain ⟨e1, e2, e3, e4, e5, e6, e7, e8⟩ := nod_e (s := s) (b := b) (y := nI i)
  have f1 := nod_f (s := s) (b := b) (y := nI i)
  have n1 := (nod_i (s := s) (b := b) (y := nI i)).1
  generalize cm_nod (nwo s b 14 6) b (nI i) = t at *
  have ar : ∀ c, c ≠ x + 12 → fx_ar (fx_sfi (fx_sar t (x + 12) i (some b)) ff_Torus_nodesMade x (nI (i + 1))) c = fx_ar t c := fun c hc => fx_up_off _ hc
  have fi : ∀ f c, (f ≠ 4 ∨ c ≠ x) → fx_fi (fx_sfi (fx_sar t (x + 12) i (some b)) ff_Torus_nodesMade x (nI (i + 1))) f c = fx_fi t f c := fun f c hc => fi_ne (fun q => by rcases hc with z | z; exact z q.1; exact z q.2)
  refine ⟨_, _, _, _, h.node (b := b) (Z := fun j => if j < 4 then b + 14 + j else b + 7) hb ⟨fun f a ha hf => ?_, fun f a ha => g.fr (by omega), fun a ha => g.ln (by omega), fun a ha hne => ?_, fun j hj => ?_⟩ n1 fi_same i64 ⟨?_, ?_, a1, a2, b1, b2, b3, e1, e2, e3, b7, e5, e6, b9, b10, fun j hj => ?_⟩ ⟨?_, ?_, b6, fun k hk => ?_, ?_, fun k hk => ?_, fun k hk => ?_, ?_, ?_, fun j hj => (f1 j hj).2.2⟩ ⟨Or.inl rfl, a5, a6⟩ ⟨fun j hj => ?_, e4, fun p q hp hq => ?_, fun p hp => ?_⟩ ⟨c1.1, c2.1, ?_, trivial⟩ ⟨c1.2.1, c2.2.1, ?_, trivial⟩ ⟨c1.2.2, c2.2.2, ?_, trivial⟩⟩
  · rw [fi f a hf, g.fi (by omega), fi_ne (fun q => by rcases hf with z | z; exact z q.1; exact z q.2)]
  · rw [ar a hne, g.ar (by omega)]; rfl
  · have : fx_ar (fx_sar t (x + 12) i (some b)) (x + 12) j = fx_ar t (x + 12) j := ar_ne (fun q => hj q.2)
    show fx_ar (fx_sar t (x + 12) i (some b)) (x + 12) j = _
    rw [this, g.ar (by omega)]; rfl
  · exact ar_same
  · rw [fi _ _ (Or.inl (by decide))]; exact a3
  · rw [ar _ (by omega)]; exact (f1 j hj).1
  · rw [fi _ _ (Or.inl (by decide))]; exact b4
  · rw [fi _ _ (Or.inl (by decide))]; exact b5
  · rw [ar _ (by omega)]; exact b8 k
  · rw [fi _ _ (Or.inl (by decide))]; exact a4
  · rw [ar _ (by omega)]; exact b11 k
  · rw [ar _ (by omega)]; exact b12 k
  · rw [fi _ _ (Or.inl (by decide))]; exact e7
  · rw [fi _ _ (Or.inl (by decide))]; exact e8
  · rw [ar _ (by omega), (f1 j hj).2.1]
    dsimp only
    rw [if_pos hj]
  · dsimp only
    intro e
    by_cases h1 : p < 4 <;> by_cases h2 : q < 4
    · rw [if_pos h1, if_pos h2] at e; omega
    · rw [if_pos h1, if_neg h2] at e; omega
    · rw [if_neg h1, if_pos h2] at e; omega
    · omega
  · dsimp only
    by_cases h1 : p < 4
    · rw [if_pos h1]; omega
    · rw [if_neg h1]; omega
  · rw [fi _ _ (Or.inl (by decide))]; exact d1.1
  · rw [fi _ _ (Or.inl (by decide))]; exact d1.2.1
  · rw [fi _ _ (Or.inl (by decide))]; exact d1.2.2
end
