/-! THE CLASS: rows, of which some are known -/
def RQ (s : fx_S) (S : Nat → Prop) (rt : Nat → List Nat) : Prop := (∀ r, S r → RL s r (rt r)) ∧ (∀ r, S r → (rt r).Nodup) ∧ ∀ r q a, S r → S q → a ∈ rt r → a ∈ rt q → r = q
/-- only rows, senders, receivers and lines of the node at b change, and the spare row -/
def SM (x b : Nat) (s t : fx_S) : Prop := fx_kd t = fx_kd s ∧ fx_ln t = fx_ln s ∧ fx_ai t = fx_ai s ∧ fx_al t = fx_al s ∧ fx_nx t = fx_nx s ∧ fx_sl t = fx_sl s ∧
  (∀ f a, f ≠ 641 → f ≠ 706 → f ≠ 707 → f ≠ 513 → f ≠ 515 → f ≠ 261 → fx_fi t f a = fx_fi s f a) ∧ (∀ f a, f ≠ 331 → f ≠ 640 → f ≠ 642 → f ≠ 709 → f ≠ 384 → fx_fr t f a = fx_fr s f a) ∧
  (∀ a, a ≠ b + 4 → a ≠ b + 18 → a ≠ b + 19 → fx_ar t a = fx_ar s a) ∧ (∀ f a, (a < b ∨ b + 20 ≤ a) → a ≠ x + 14 → fx_fi t f a = fx_fi s f a) ∧ (∀ f a, f ≠ 331 → (a < b ∨ b + 20 ≤ a) → a ≠ x + 14 → fx_fr t f a = fx_fr s f a)
section
variable {s t u : fx_S} {Q : fx_Q} {x b r a : Nat} {S : Nat → Prop} {rt : Nat → List Nat}
theorem SM.rf : SM x b s s := ⟨rfl, rfl, rfl, rfl, rfl, rfl, fun _ _ _ _ _ _ _ _ => rfl, fun _ _ _ _ _ _ _ => rfl, fun _ _ _ _ => rfl, fun _ _ _ _ => rfl, fun _ _ _ _ _ => rfl⟩
theorem SM.tr (h : SM x b s t) (g : SM x b t u) : SM x b s u := by
  obtain ⟨h1, h2, h3, h4, h5, h6, h7, h8, h9, h10, h11⟩ := h
  obtain ⟨g1, g2, g3, g4, g5, g6, g7, g8, g9, g10, g11⟩ := g
  exact ⟨g1.trans h1, g2.trans h2, g3.trans h3, g4.trans h4, g5.trans h5, g6.trans h6, fun f a q1 q2 q3 q4 q5 q6 => (g7 f a q1 q2 q3 q4 q5 q6).trans (h7 f a q1 q2 q3 q4 q5 q6), fun f a q1 q2 q3 q4 q5 => (g8 f a q1 q2 q3 q4 q5).trans (h8 f a q1 q2 q3 q4 q5), fun a q1 q2 q3 => (g9 a q1 q2 q3).trans (h9 a q1 q2 q3), fun f a q1 q2 => (g10 f a q1 q2).trans (h10 f a q1 q2), fun f a q1 q2 q3 => (g11 f a q1 q2 q3).trans (h11 f a q1 q2 q3)⟩
theorem SM.sfi {f : Nat} {y : Int32} (h : SM x b s t) (hf : f = 641 ∨ f = 706 ∨ f = 707 ∨ f = 513 ∨ f = 515 ∨ f = 261) (ha : (b ≤ a ∧ a < b + 20) ∨ a = x + 14) : SM x b s (fx_sfi t f a y) := h.tr ⟨rfl, rfl, rfl, rfl, rfl, rfl, fun g c q1 q2 q3 q4 q5 q6 => fi_ne (fun q => by omega), fun _ _ _ _ _ _ _ => rfl, fun _ _ _ _ => rfl, fun g c q1 q2 => fi_ne (fun q => by omega), fun _ _ _ _ _ => rfl⟩
theorem SM.sfr {f : Nat} {y : Option Nat} (h : SM x b s t) (hf : f = 331 ∨ ((f = 640 ∨ f = 642 ∨ f = 709 ∨ f = 384) ∧ ((b ≤ a ∧ a < b + 20) ∨ a = x + 14))) : SM x b s (fx_sfr t f a y) := h.tr ⟨rfl, rfl, rfl, rfl, rfl, rfl, fun _ _ _ _ _ _ _ _ => rfl, fun g c q1 q2 q3 q4 q5 => fr_ne (fun q => by omega), fun _ _ _ _ => rfl, fun _ _ _ _ => rfl, fun g c q1 q2 q3 => fr_ne (fun q => by omega)⟩
theorem SM.sar {i : Nat} {y : Option Nat} (h : SM x b s t) (ha : a = b + 4 ∨ a = b + 18 ∨ a = b + 19) : SM x b s (fx_sar t a i y) := h.tr ⟨rfl, rfl, rfl, rfl, rfl, rfl, fun _ _ _ _ _ _ _ _ => rfl, fun _ _ _ _ _ _ _ => rfl, fun c q1 q2 q3 => fx_up_off _ (by omega), fun _ _ _ _ => rfl, fun _ _ _ _ _ => rfl⟩
theorem SM.app (h : SM x b s t) (hr : (b ≤ r ∧ r < b + 20) ∨ r = x + 14) : SM x b s (cm_app t r a) := by
  unfold cm_app
  cases fx_fr t ff_Row_last r with
  | none => exact (((h.sfr (Or.inl rfl)).sfr (Or.inr ⟨by decide, hr⟩)).sfr (Or.inr ⟨by decide, hr⟩)).sfi (by decide) hr
  | some c => exact (((h.sfr (Or.inl rfl)).sfr (Or.inl rfl)).sfr (Or.inr ⟨by decide, hr⟩)).sfi (by decide) hr
theorem SM.rmf (h : SM x b s t) (hr : (b ≤ r ∧ r < b + 20) ∨ r = x + 14) : SM x b s (cm_rmf t r a) := by
  unfold cm_rmf
  cases fx_fr t ff_Packet_next a with
  | none => exact (((h.sfr (Or.inr ⟨by decide, hr⟩)).sfr (Or.inr ⟨by decide, hr⟩)).sfr (Or.inl rfl)).sfi (by decide) hr
  | some c => exact ((h.sfr (Or.inr ⟨by decide, hr⟩)).sfr (Or.inl rfl)).sfi (by decide) hr
theorem SM.rcl (h : SM x b s t) (hr : (b ≤ r ∧ r < b + 20) ∨ r = x + 14) : SM x b s (cm_rcl t r) := ((h.sfr (Or.inr ⟨by decide, hr⟩)).sfr (Or.inr ⟨by decide, hr⟩)).sfi (by decide) hr
theorem z_app (h : RQ s S rt) (hr : S r) (ha : ∀ q, S q → a ∉ rt q) : RQ (cm_app s r a) S (fn_up rt r (rt r ++ [a])) := by
  obtain ⟨h1, h2, h3⟩ := h
  obtain ⟨a1, a2⟩ := (h1 r hr).app (h2 r hr) (ha r hr)
  refine ⟨fun q hq => ?_, fun q hq => ?_, fun q p c hq hp g1 g2 => ?_⟩
  · by_cases e : q = r
    · rw [e, fn_same]; exact a1
    · rw [fn_ne e]; exact a2 q (rt q) e (ha q hq) (fun c hb hb2 => e (h3 q r c hq hr hb hb2)) (h1 q hq)
  · by_cases e : q = r
    · rw [e, fn_same]
      exact List.nodup_append.mpr ⟨h2 r hr, by simp, fun b hb c hc => by
        have : c = a := by simpa using hc
        intro z
        exact ha r hr (by rw [← this, ← z]; exact hb)⟩
    · rw [fn_ne e]; exact h2 q hq
  · have aux : ∀ q b, S q → b ∈ fn_up rt r (rt r ++ [a]) q → b ∈ rt q ∨ (b = a ∧ q = r) := by
      intro q b hq hb
      by_cases e : q = r
      · rw [e, fn_same] at hb
        rcases List.mem_append.mp hb with z | z
        · rw [e]; exact Or.inl z
        · exact Or.inr ⟨by simpa using z, e⟩
      · rw [fn_ne e] at hb; exact Or.inl hb
    rcases aux q c hq g1 with z1 | z1
    · rcases aux p c hp g2 with z2 | z2
      · exact h3 q p c hq hp z1 z2
      · exact absurd (z2.1 ▸ z1) (ha q hq)
    · rcases aux p c hp g2 with z2 | z2
      · exact absurd (z1.1 ▸ z2) (ha p hp)
      · rw [z1.2, z2.2]
theorem z_rmf {l : List Nat} (h : RQ s S rt) (hr : S r) (ht : rt r = a :: l) : RQ (cm_rmf s r a) S (fn_up rt r l) ∧ ∀ q, S q → a ∉ fn_up rt r l q := by
  obtain ⟨h1, h2, h3⟩ := h
  have hrow := h1 r hr
  have hnd := h2 r hr
  rw [ht] at hrow hnd
  have hnd' := List.nodup_cons.mp hnd
  obtain ⟨a1, a2⟩ := hrow.rmf hnd'.1
  have sub : ∀ q b, b ∈ fn_up rt r l q → b ∈ rt q := by
    intro q b hb
    by_cases e : q = r
    · rw [e, fn_same] at hb
      rw [e, ht]; exact List.mem_cons_of_mem _ hb
    · rw [fn_ne e] at hb; exact hb
  refine ⟨⟨fun q hq => ?_, fun q hq => ?_, fun q p b hq hp g1 g2 => h3 q p b hq hp (sub q b g1) (sub p b g2)⟩, fun q hq hin => ?_⟩
  · by_cases e : q = r
    · rw [e, fn_same]; exact a1
    · rw [fn_ne e]; exact a2 q (rt q) e (fun z => e (h3 q r a hq hr z (by rw [ht]; simp))) (h1 q hq)
  · by_cases e : q = r
    · rw [e, fn_same]; exact hnd'.2
    · rw [fn_ne e]; exact h2 q hq
  · by_cases e : q = r
    · rw [e, fn_same] at hin
      exact hnd'.1 hin
    · rw [fn_ne e] at hin
      exact e (h3 q r a hq hr hin (by rw [ht]; simp))
theorem z_rcl (h : RQ s S rt) : RQ (cm_rcl s r) (fun q => S q ∨ q = r) (fn_up rt r []) := by
  obtain ⟨h1, h2, h3⟩ := h
  have sub : ∀ q b, (S q ∨ q = r) → b ∈ fn_up rt r [] q → b ∈ rt q ∧ S q := by
    intro q b hq hb
    by_cases e : q = r
    · rw [e, fn_same] at hb; cases hb
    · rw [fn_ne e] at hb; exact ⟨hb, by rcases hq with z | z; exact z; exact absurd z e⟩
  refine ⟨fun q hq => ?_, fun q hq => ?_, fun q p b hq hp g1 g2 => h3 q p b (sub q b hq g1).2 (sub p b hp g2).2 (sub q b hq g1).1 (sub p b hp g2).1⟩
  · by_cases e : q = r
    · rw [e, fn_same]; exact (RL.rcl (l := [])).1
    · rw [fn_ne e]
      exact RL.rcl.2 q e (h1 q (by rcases hq with z | z; exact z; exact absurd z e))
  · by_cases e : q = r
    · rw [e, fn_same]; exact List.nodup_nil
    · rw [fn_ne e]; exact h2 q (by rcases hq with z | z; exact z; exact absurd z e)
/-- what RQ reads -/
theorem RQ.frame (h : RQ s S rt) (h1 : ∀ r, S r → fx_fr t ff_Row_first r = fx_fr s ff_Row_first r ∧ fx_fr t ff_Row_last r = fx_fr s ff_Row_last r ∧ fx_fi t ff_Row_size r = fx_fi s ff_Row_size r) (h2 : ∀ r a, S r → a ∈ rt r → fx_fr t ff_Packet_next a = fx_fr s ff_Packet_next a) : RQ t S rt := by
  refine ⟨fun r hr => ?_, h.2.1, h.2.2⟩
  obtain ⟨g1, g2, g3, g4⟩ := h.1 r hr
  obtain ⟨e1, e2, e3⟩ := h1 r hr
  exact ⟨e1.trans g1, e2.trans g2, e3.trans g3, g4.frame (fun a ha => h2 r a hr ha)⟩
theorem RQ.sub {S' : Nat → Prop} {rt' : Nat → List Nat} (h : RQ s S rt) (hs : ∀ r, S' r → S r) (he : ∀ r, S' r → rt' r = rt r) : RQ s S' rt' := ⟨fun r hr => by rw [he r hr]; exact h.1 r (hs r hr), fun r hr => by rw [he r hr]; exact h.2.1 r (hs r hr), fun r q a hr hq h1 h2 => h.2.2 r q a (hs r hr) (hs q hq) (by rw [← he r hr]; exact h1) (by rw [← he q hq]; exact h2)⟩
theorem k_sclear {o : Nat → Option Nat} (hx : x + 14 < b) (e1 : fx_fr s ff_Sender_waiting (b + 1) = some (b + 2)) (e2 : fx_fr s ff_Sender_again (b + 1) = some (b + 3)) (e3 : fx_fr s ff_Sender_slots (b + 1) = some (b + 4)) (e4 : fx_ln s (b + 4) = 8) (hq : RQ s S rt) (s2 : S (b + 2)) (s14 : S (x + 14)) (n3 : ¬ S (b + 3)) (ho : ∀ k, k < 8 → fx_ar s (b + 4) k = o k) (hP : ∀ k c, k < 8 → o k = some c → ∀ q, S q → c ∉ rt q) (hi : ∀ k l c, k < 8 → l < 8 → o k = some c → o l = some c → k = l)
    (k : ∀ t rt', SM x b s t → RQ t (fun q => S q ∨ q = b + 3) rt' → rt' (b + 2) = [] → rt' (b + 3) = [] → (∀ q, q ≠ b + 2 → q ≠ b + 3 → q ≠ x + 14 → rt' q = rt q) → (∀ c, c ∈ rt' (x + 14) → c ∈ rt (x + 14) ∨ c ∈ rt (b + 2) ∨ ∃ k, k < 8 ∧ o k = some c) → fx_fi t ff_Sender_slotsUsed (b + 1) = nI 0 → fx_fi t ff_Sender_hungryCycles (b + 1) = nI 0 → fx_fr t ff_Sender_underWay (b + 1) = none → (∀ k, k < 8 → fx_ar t (b + 4) k = none) → (∀ c, fx_fr t ff_Place_packet c = fx_fr s ff_Place_packet c) → (∀ c, c ≠ b + 4 → fx_ar t c = fx_ar s c) → (∀ c, fx_fi t ff_Receiver_readyCount c = fx_fi s ff_Receiver_readyCount c) → Q none t) : fx_M mm_Sender_clear [vR 21 (some (b + 1)), vR 20 (some (x + 14))] s Q := by
  refine xx_i ml66 ?_
  refine xx_j ee66_0 rfl trivial ?_
  refine xx_gr ee66_1 e2 rfl rfl ?_
  refine xx_c ee66_4 rfl (k_rclear ?_)
  have hq1 := z_rcl (r := b + 3) hq
  have m1 : SM x b s (cm_rcl s (b + 3)) := SM.rf.rcl (Or.inl (by omega))
  have x1 : ∀ c, fx_fr (cm_rcl s (b + 3)) ff_Place_packet c = fx_fr s ff_Place_packet c := fun c => rfl
  have x2 : fx_ar (cm_rcl s (b + 3)) = fx_ar s := rfl
  have x3 : ∀ c, fx_fi (cm_rcl s (b + 3)) ff_Receiver_readyCount c = fx_fi s ff_Receiver_readyCount c := fun c => rfl
  generalize cm_rcl s (b + 3) = t1 at *
  refine xx_j ee66_7 rfl trivial ?_
  refine xx_j ee66_8 rfl trivial ?_
  first | refine xx_pr ee66_9 rfl rfl (Or.inl rfl) ?_ | refine xx_pr ee66_9 rfl rfl (Or.inr rfl) ?_
  have f1 : fx_fr (fx_sfr t1 ff_Sender_underWay (b + 1) none) ff_Sender_waiting (b + 1) = some (b + 2) := by rw [fr_ne (fun q => absurd q.1 (by decide)), m1.2.2.2.2.2.2.2.1 _ _ (by decide) (by decide) (by decide) (by decide) (by decide)]; exact e1
  have hq2 : RQ (fx_sfr t1 ff_Sender_underWay (b + 1) none) (fun q => S q ∨ q = b + 3) (fn_up rt (b + 3) []) := hq1.frame (fun r hr => ⟨rfl, rfl, rfl⟩) (fun r a hr ha => rfl)
  have m2 : SM x b s (fx_sfr t1 ff_Sender_underWay (b + 1) none) := m1.sfr (Or.inr ⟨by decide, Or.inl (by omega)⟩)
  have u2 : fx_fr (fx_sfr t1 ff_Sender_underWay (b + 1) none) ff_Sender_underWay (b + 1) = none := fr_same
  have x1' : ∀ c, fx_fr (fx_sfr t1 ff_Sender_underWay (b + 1) none) ff_Place_packet c = fx_fr s ff_Place_packet c := x1
  have x2' : fx_ar (fx_sfr t1 ff_Sender_underWay (b + 1) none) = fx_ar s := x2
  have x3' : ∀ c, fx_fi (fx_sfr t1 ff_Sender_underWay (b + 1) none) ff_Receiver_readyCount c = fx_fi s ff_Receiver_readyCount c := x3
  generalize fx_sfr t1 ff_Sender_underWay (b + 1) none = t2 at *
  clear hq1 m1 x1 x2 x3
  have s2' : S (b + 2) ∨ b + 2 = b + 3 := Or.inl s2
  have s14' : S (x + 14) ∨ x + 14 = b + 3 := Or.inl s14
  -- the slots
  have slots : ∀ d j t rt', j + d = 8 → SM x b s t → RQ t (fun q => S q ∨ q = b + 3) rt' → rt' (b + 2) = [] → rt' (b + 3) = [] → (∀ q, q ≠ b + 2 → q ≠ b + 3 → q ≠ x + 14 → rt' q = rt q) → (∀ c, c ∈ rt' (x + 14) → c ∈ rt (x + 14) ∨ c ∈ rt (b + 2) ∨ ∃ k, k < j ∧ o k = some c) → fx_fr t ff_Sender_underWay (b + 1) = none → (∀ k, k < j → fx_ar t (b + 4) k = none) → (∀ k, j ≤ k → k < 8 → fx_ar t (b + 4) k = o k) → (∀ c, fx_fr t ff_Place_packet c = fx_fr s ff_Place_packet c) → (∀ c, c ≠ b + 4 → fx_ar t c = fx_ar s c) → (∀ c, fx_fi t ff_Receiver_readyCount c = fx_fi s ff_Receiver_readyCount c) → fx_W 66 42 [some (vR 21 (some (b + 1))), some (vR 20 (some (x + 14))), some (vR 0 none), some (vI (nI j))] [] t Q := by
    intro d
    induction d with
    | zero =>
      intro j t rt' hj m hQ w2 w3 wo wm hu hn hr y1 y2 y3
      refine xx_j ee66_42 rfl trivial ?_
      refine xx_kb ee66_43 8 rfl ?_
      refine xx_ge ee66_45 (by omega) (by omega) (fun _ => ?_) (fun q => by omega)
      refine xx_j ee66_80 rfl trivial ?_
      refine xx_k ee66_81 0 rfl ?_
      refine xx_pi ee66_82 rfl ?_
      refine xx_j ee66_85 rfl trivial ?_
      refine xx_k ee66_86 0 rfl ?_
      refine xx_pi ee66_87 rfl ?_
      refine xx_rv ee66_90 (k _ rt' ((m.sfi (by decide) (Or.inl (by omega))).sfi (by decide) (Or.inl (by omega))) (hQ.frame (fun r hr => ⟨rfl, rfl, rfl⟩) (fun r a hr ha => rfl)) w2 w3 wo (fun c hc => ?_) ?_ fi_same hu (fun k hk => hn k (by omega)) y1 y2 y3)
      · rcases wm c hc with z | z | ⟨i, i1, i2⟩
        · exact Or.inl z
        · exact Or.inr (Or.inl z)
        · exact Or.inr (Or.inr ⟨i, by omega, i2⟩)
      · rw [fi_ne (fun q => absurd q.1 (by decide)), fi_same]
    | succ d ih =>
      intro j t rt' hj m hQ w2 w3 wo wm hu hn hr y1 y2 y3
      have g3 : fx_fr t ff_Sender_slots (b + 1) = some (b + 4) := by rw [m.2.2.2.2.2.2.2.1 _ _ (by decide) (by decide) (by decide) (by decide) (by decide)]; exact e3
      have g4 : fx_ln t (b + 4) = 8 := by rw [m.2.1]; exact e4
      refine xx_j ee66_42 rfl trivial ?_
      refine xx_kb ee66_43 8 rfl ?_
      refine xx_ge ee66_45 (by omega) (by omega) (fun q => by omega) (fun _ => ?_)
      refine xx_j ee66_48 rfl trivial ?_
      refine xx_gr ee66_49 g3 rfl rfl ?_
      refine xx_j ee66_52 rfl trivial ?_
      refine xx_rl ee66_53 g4 (by omega) (by decide) (hr j (Nat.le_refl _) (by omega)) rfl ?_
      refine xx_nu ee66_54 (fun hn0 => ?_) (fun c hc => ?_)
      · first | refine xx_inc ee66_74 rfl ?_ | refine xx_j ee66_74 rfl trivial ?_
        refine xx_j ee66_77 rfl trivial ?_
        refine ih (j + 1) t rt' (by omega) m hQ w2 w3 wo (fun c hc => ?_) hu (fun k hk => ?_) (fun k h1 h2 => hr k (by omega) h2) y1 y2 y3
        · rcases wm c hc with z | z | ⟨i, i1, i2⟩
          · exact Or.inl z
          · exact Or.inr (Or.inl z)
          · exact Or.inr (Or.inr ⟨i, by omega, i2⟩)
        · by_cases e : k = j
          · rw [e, hr j (Nat.le_refl _) (by omega), hn0]
          · exact hn k (by omega)
      · have hcn : ∀ q, (S q ∨ q = b + 3) → c ∉ rt' q := by
          intro q hSq hin
          by_cases q1 : q = b + 2
          · rw [q1, w2] at hin; cases hin
          · by_cases q2 : q = b + 3
            · rw [q2, w3] at hin; cases hin
            · have hS : S q := by rcases hSq with z | z; exact z; exact absurd z q2
              by_cases q3 : q = x + 14
              · rw [q3] at hin
                rcases wm c hin with z | z | ⟨i, i1, i2⟩
                · exact hP j c (by omega) hc _ s14 z
                · exact hP j c (by omega) hc _ s2 z
                · have := hi j i c (by omega) (by omega) hc i2
                  omega
              · rw [wo q q1 q2 q3] at hin
                exact hP j c (by omega) hc q hS hin
        refine xx_j ee66_57 rfl trivial ?_
        refine xx_j ee66_58 rfl trivial ?_
        refine xx_gr ee66_59 g3 rfl rfl ?_
        refine xx_j ee66_62 rfl trivial ?_
        refine xx_rl ee66_63 g4 (by omega) (by decide) ((hr j (Nat.le_refl _) (by omega)).trans hc) rfl ?_
        refine xx_c ee66_64 rfl (k_append ?_)
        have hQ1 := z_app hQ s14' hcn
        have m1 : SM x b s (cm_app t (x + 14) c) := m.app (Or.inr rfl)
        have a1 : fx_ar (cm_app t (x + 14) c) = fx_ar t := by
          rw [app_eq]; rfl
        have a2 : fx_fr (cm_app t (x + 14) c) ff_Sender_underWay (b + 1) = none := by
          rw [app_eq]; exact hu
        have a3 : ∀ c', fx_fr (cm_app t (x + 14) c) ff_Place_packet c' = fx_fr s ff_Place_packet c' := fun c' => by
          rw [app_eq]; exact y1 c'
        have a4 : ∀ c', fx_fi (cm_app t (x + 14) c) ff_Receiver_readyCount c' = fx_fi s ff_Receiver_readyCount c' := fun c' => by
          rw [app_eq]; exact y3 c'
        generalize cm_app t (x + 14) c = t1 at *
        have g3' : fx_fr t1 ff_Sender_slots (b + 1) = some (b + 4) := by rw [m1.2.2.2.2.2.2.2.1 _ _ (by decide) (by decide) (by decide) (by decide) (by decide)]; exact e3
        have g4' : fx_ln t1 (b + 4) = 8 := by rw [m1.2.1]; exact e4
        refine xx_j ee66_67 rfl trivial ?_
        refine xx_gr ee66_68 g3' rfl rfl ?_
        refine xx_j ee66_71 rfl trivial ?_
        refine xx_j ee66_72 rfl trivial ?_
        first | refine xx_rs ee66_73 g4' (by omega) (by decide) rfl (Or.inl rfl) ?_ | refine xx_rs ee66_73 g4' (by omega) (by decide) rfl (Or.inr rfl) ?_
        first | refine xx_inc ee66_74 rfl ?_ | refine xx_j ee66_74 rfl trivial ?_
        refine xx_j ee66_77 rfl trivial ?_
        refine ih (j + 1) _ (fn_up rt' (x + 14) (rt' (x + 14) ++ [c])) (by omega) (m1.sar (Or.inl rfl)) (hQ1.frame (fun r hr => ⟨rfl, rfl, rfl⟩) (fun r a hr ha => rfl)) (by rw [fn_ne (by omega)]; exact w2) (by rw [fn_ne (by omega)]; exact w3) (fun q q1 q2 q3 => by rw [fn_ne q3]; exact wo q q1 q2 q3) (fun z hz => ?_) a2 (fun i hi2 => ?_) (fun i h1 h2 => ?_) a3 (fun z hz => ?_) a4
        · rw [fn_same] at hz
          rcases List.mem_append.mp hz with z1 | z1
          · rcases wm z z1 with z2 | z2 | ⟨i, i1, i2⟩
            · exact Or.inl z2
            · exact Or.inr (Or.inl z2)
            · exact Or.inr (Or.inr ⟨i, by omega, i2⟩)
          · have : z = c := by simpa using z1
            rw [this]
            exact Or.inr (Or.inr ⟨j, by omega, hc⟩)
        · by_cases e : i = j
          · rw [e, ar_same]
          · rw [ar_ne (fun q => e q.2), a1]; exact hn i (by omega)
        · rw [ar_ne (fun q => by omega), a1]; exact hr i (by omega) h2
        · have : fx_ar (fx_sar t1 (b + 4) j none) z = fx_ar t1 z := fx_up_off _ hz
          rw [this, a1]; exact y2 z hz
  -- those that wait
  have wait : ∀ n t rt' st' l2, n = (rt' (b + 2)).length → SM x b s t → RQ t (fun q => S q ∨ q = b + 3) rt' → rt' (b + 3) = [] → (∀ q, q ≠ b + 2 → q ≠ b + 3 → q ≠ x + 14 → rt' q = rt q) → (∀ c, c ∈ rt' (x + 14) ∨ c ∈ rt' (b + 2) → c ∈ rt (x + 14) ∨ c ∈ rt (b + 2)) → fx_fr t ff_Sender_underWay (b + 1) = none → (∀ c, fx_fr t ff_Place_packet c = fx_fr s ff_Place_packet c) → fx_ar t = fx_ar s → (∀ c, fx_fi t ff_Receiver_readyCount c = fx_fi s ff_Receiver_readyCount c) → (st' = 16 ∨ st' = 33) → fx_W 66 st' [some (vR 21 (some (b + 1))), some (vR 20 (some (x + 14))), l2, none] [vR 20 (some (b + 2))] t Q := by
    intro n
    induction n with
    | zero =>
      intro t rt' st' l2 hn m hQ w3 wo wm hu y1 y2 y3 hst
      have w2 : rt' (b + 2) = [] := List.length_eq_zero_iff.mp hn.symm
      have fin : fx_W 66 40 [some (vR 21 (some (b + 1))), some (vR 20 (some (x + 14))), some (vR 0 none), none] [] t Q := by
        refine xx_k ee66_40 0 rfl ?_
        refine xx_j ee66_41 rfl trivial ?_
        refine slots 8 0 t rt' (by omega) m hQ w2 w3 wo (fun c hc => ?_) hu (fun k hk => by omega) (fun k _ hk => by rw [y2]; exact ho k hk) y1 (fun c _ => by rw [y2]) y3
        rcases wm c (Or.inl hc) with z | z
        · exact Or.inl z
        · exact Or.inr (Or.inl z)
      rcases hst with e | e
      · subst e
        refine xx_c ee66_16 rfl (k_removeFirst (hQ.1 _ s2').1 (fun _ => ?_) (fun a l ht => by rw [w2] at ht; cases ht))
        refine xx_j ee66_19 rfl trivial ?_
        refine xx_j ee66_20 rfl trivial ?_
        exact xx_nu ee66_21 (fun _ => fin) (fun c q => by cases q)
      · subst e
        refine xx_c ee66_33 rfl (k_removeFirst (hQ.1 _ s2').1 (fun _ => ?_) (fun a l ht => by rw [w2] at ht; cases ht))
        refine xx_j ee66_36 rfl trivial ?_
        refine xx_j ee66_37 rfl trivial ?_
        refine xx_j ee66_20 rfl trivial ?_
        exact xx_nu ee66_21 (fun _ => fin) (fun c q => by cases q)
    | succ n ih =>
      intro t rt' st' l2 hn m hQ w3 wo wm hu y1 y2 y3 hst
      have one : ∀ c l, rt' (b + 2) = c :: l → fx_W 66 20 [some (vR 21 (some (b + 1))), some (vR 20 (some (x + 14))), some (vR 15 (some c)), none] [] (cm_rmf t (b + 2) c) Q := by
        intro c l ht
        obtain ⟨hQ1, hout⟩ := z_rmf hQ s2' ht
        have m1 : SM x b s (cm_rmf t (b + 2) c) := m.rmf (Or.inl (by omega))
        have a1 : fx_ar (cm_rmf t (b + 2) c) = fx_ar t := by
          rw [rmf_eq]; rfl
        have a2 : fx_fr (cm_rmf t (b + 2) c) ff_Sender_underWay (b + 1) = none := by
          rw [rmf_eq]; exact hu
        have a3 : ∀ c', fx_fr (cm_rmf t (b + 2) c) ff_Place_packet c' = fx_fr s ff_Place_packet c' := fun c' => by
          rw [rmf_eq]; exact y1 c'
        have a4 : ∀ c', fx_fi (cm_rmf t (b + 2) c) ff_Receiver_readyCount c' = fx_fi s ff_Receiver_readyCount c' := fun c' => by
          rw [rmf_eq]; exact y3 c'
        generalize cm_rmf t (b + 2) c = t1 at *
        refine xx_j ee66_20 rfl trivial ?_
        refine xx_nu ee66_21 (fun q => by cases q) (fun _ _ => ?_)
        refine xx_j ee66_24 rfl trivial ?_
        refine xx_j ee66_25 rfl trivial ?_
        refine xx_c ee66_26 rfl (k_append ?_)
        have hQ2 := z_app hQ1 s14' hout
        have m2 : SM x b s (cm_app t1 (x + 14) c) := m1.app (Or.inr rfl)
        have b1 : fx_ar (cm_app t1 (x + 14) c) = fx_ar s := by
          rw [app_eq]; exact a1.trans y2
        have b2 : fx_fr (cm_app t1 (x + 14) c) ff_Sender_underWay (b + 1) = none := by
          rw [app_eq]; exact a2
        have b3 : ∀ c', fx_fr (cm_app t1 (x + 14) c) ff_Place_packet c' = fx_fr s ff_Place_packet c' := fun c' => by
          rw [app_eq]; exact a3 c'
        have b4 : ∀ c', fx_fi (cm_app t1 (x + 14) c) ff_Receiver_readyCount c' = fx_fi s ff_Receiver_readyCount c' := fun c' => by
          rw [app_eq]; exact a4 c'
        generalize cm_app t1 (x + 14) c = t3 at *
        have g1 : fx_fr t3 ff_Sender_waiting (b + 1) = some (b + 2) := by rw [m2.2.2.2.2.2.2.2.1 _ _ (by decide) (by decide) (by decide) (by decide) (by decide)]; exact e1
        refine xx_j ee66_29 rfl trivial ?_
        refine xx_gr ee66_30 g1 rfl rfl ?_
        refine ih t3 _ 33 _ ?_ m2 hQ2 ?_ (fun q q1 q2 q3 => ?_) (fun z hz => ?_) b2 b3 b1 b4 (Or.inr rfl)
        · rw [fn_ne (by omega), fn_same]
          rw [ht] at hn
          simpa using hn
        · rw [fn_ne (by omega), fn_ne (by omega)]; exact w3
        · rw [fn_ne q3, fn_ne q1]; exact wo q q1 q2 q3
        · have key : z ∈ rt' (x + 14) ∨ z ∈ rt' (b + 2) := by
            rcases hz with q | q
            · rw [fn_same, fn_ne (by omega)] at q
              rcases List.mem_append.mp q with q | q
              · exact Or.inl q
              · have : z = c := by simpa using q
                rw [this, ht]; exact Or.inr (by simp)
            · rw [fn_ne (by omega), fn_same] at q
              rw [ht]; exact Or.inr (List.mem_cons_of_mem _ q)
          exact wm z key
      rcases hst with e | e
      · subst e
        refine xx_c ee66_16 rfl (k_removeFirst (hQ.1 _ s2').1 (fun w2 => ?_) (fun a l ht => ?_))
        · rw [w2] at hn; cases hn
        · refine xx_j ee66_19 rfl trivial ?_
          exact one a l ht
      · subst e
        refine xx_c ee66_33 rfl (k_removeFirst (hQ.1 _ s2').1 (fun w2 => ?_) (fun a l ht => ?_))
        · rw [w2] at hn; cases hn
        · refine xx_j ee66_36 rfl trivial ?_
          refine xx_j ee66_37 rfl trivial ?_
          exact one a l ht
  refine xx_j ee66_12 rfl trivial ?_
  refine xx_gr ee66_13 f1 rfl rfl ?_
  refine wait _ t2 _ 16 none rfl m2 hq2 fn_same (fun q q1 q2 q3 => fn_ne q2) (fun c hc => ?_) u2 x1' x2' x3' (Or.inl rfl)
  rw [fn_ne (by omega), fn_ne (by omega)] at hc
  exact hc
end
