section
variable {s t u : fx_S} {Q : fx_Q} {x b r a h v m : Nat} {S : Nat → Prop} {rt : Nat → List Nat} {B : Nat → Nat} {K : Nat → Prop}
/-- a node's lines -/
def LL (s : fx_S) (b h : Nat) : Prop := (h = 18 ∨ h = 19) ∧ fx_fr s ff_Node_here b = some (b + h) ∧ fx_fr s ff_Node_coming b = some (b + (37 - h))
/-- a node's arrivals -/
def YY (s : fx_S) (b : Nat) (Z : Nat → Nat) : Prop := (∀ i, i < 4 → fx_ar s (b + 9) i = some (Z i)) ∧ fx_fr s ff_Receiver_last (b + 5) = some (Z 4) ∧ (∀ i j, i < 5 → j < 5 → Z i = Z j → i = j) ∧ ∀ i, i < 5 → b ≤ Z i ∧ Z i < b + 20
/-- the packets that are known -/
def KK (s : fx_S) (x : Nat) (B : Nat → Nat) (m : Nat) (K : Nat → Prop) : Prop := (∀ a, K a → x + 15 ≤ a ∧ a + 1 < fx_nx s ∧ ∀ v, v < m → a + 1 < B v ∨ B v + 20 ≤ a) ∧ (∀ a, K a → fx_fr s ff_Packet_flits a = some (a + 1)) ∧ (∀ a, K a → fx_ln s (a + 1) = 8) ∧ (∀ a b F, K a → b < 8 → fx_ar s (a + 1) b = some F → fx_fr s ff_Flit_packet F = some a ∧ fx_fi s ff_Flit_number F = nI b ∧ F < fx_nx s) ∧ ∀ a c, K a → K c → a ≠ c + 1
/-- an emptied node -/
def ES (s : fx_S) (b : Nat) : Prop := fx_fi s ff_Sender_slotsUsed (b + 1) = nI 0 ∧ fx_fi s ff_Sender_hungryCycles (b + 1) = nI 0 ∧ fx_fr s ff_Sender_underWay (b + 1) = none ∧ (∀ k, k < 8 → fx_ar s (b + 4) k = none) ∧ fx_fi s ff_Node_wentOut b = nI 0 ∧ (∀ l, l < 4 → fx_ar s (b + 18) l = none) ∧ (∀ l, l < 4 → fx_ar s (b + 19) l = none) ∧ fx_fi s ff_Receiver_readyCount (b + 5) = nI 0 ∧ fx_fi s ff_Receiver_hasHandedOver (b + 5) = fx_bit false ∧ ∀ i, i < 4 → fx_fr s ff_Place_packet (b + 10 + i) = none
theorem SM.kd (h : SM x b s t) : fx_kd t = fx_kd s := h.1
theorem SM.ln (h : SM x b s t) : fx_ln t = fx_ln s := h.2.1
theorem SM.ai (h : SM x b s t) : fx_ai t = fx_ai s := h.2.2.1
theorem SM.al (h : SM x b s t) : fx_al t = fx_al s := h.2.2.2.1
theorem SM.nx (h : SM x b s t) : fx_nx t = fx_nx s := h.2.2.2.2.1
theorem SM.sl (h : SM x b s t) : fx_sl t = fx_sl s := h.2.2.2.2.2.1
theorem SM.fi (h : SM x b s t) : ∀ f a, f ≠ 641 → f ≠ 706 → f ≠ 707 → f ≠ 513 → f ≠ 515 → f ≠ 261 → fx_fi t f a = fx_fi s f a := h.2.2.2.2.2.2.1
theorem SM.fr (h : SM x b s t) : ∀ f a, f ≠ 331 → f ≠ 640 → f ≠ 642 → f ≠ 709 → f ≠ 384 → fx_fr t f a = fx_fr s f a := h.2.2.2.2.2.2.2.1
theorem SM.ar (h : SM x b s t) : ∀ a, a ≠ b + 4 → a ≠ b + 18 → a ≠ b + 19 → fx_ar t a = fx_ar s a := h.2.2.2.2.2.2.2.2.1
theorem SM.oi (h : SM x b s t) : ∀ f a, (a < b ∨ b + 20 ≤ a) → a ≠ x + 14 → fx_fi t f a = fx_fi s f a := h.2.2.2.2.2.2.2.2.2.1
theorem SM.or_ (h : SM x b s t) : ∀ f a, f ≠ 331 → (a < b ∨ b + 20 ≤ a) → a ≠ x + 14 → fx_fr t f a = fx_fr s f a := h.2.2.2.2.2.2.2.2.2.2
theorem SM.dfr {f : Nat} (h : SM x b s t) (hf : (Nat.beq f 331 || Nat.beq f 640 || Nat.beq f 642 || Nat.beq f 709 || Nat.beq f 384) = false) : fx_fr t f a = fx_fr s f a := by
  refine h.fr f a ?_ ?_ ?_ ?_ ?_ <;> (intro q; rw [q] at hf; exact absurd hf (by decide))
theorem SM.dfi {f : Nat} (h : SM x b s t) (hf : (Nat.beq f 641 || Nat.beq f 706 || Nat.beq f 707 || Nat.beq f 513 || Nat.beq f 515 || Nat.beq f 261) = false) : fx_fi t f a = fx_fi s f a := by
  refine h.fi f a ?_ ?_ ?_ ?_ ?_ ?_ <;> (intro q; rw [q] at hf; exact absurd hf (by decide))
theorem k_rvclear (e1 : fx_fr s ff_Receiver_asked (b + 5) = some (b + 6)) (e2 : fx_fr s ff_Receiver_places (b + 5) = some (b + 8)) (e3 : fx_ln s (b + 8) = 4) (e4 : ∀ i, i < 4 → fx_ar s (b + 8) i = some (b + 10 + i)) (hq : RQ s S rt)
    (k : ∀ t, SM x b s t → RQ t (fun q => S q ∨ q = b + 6) (fn_up rt (b + 6) []) → fx_fi t ff_Receiver_readyCount (b + 5) = nI 0 → fx_fi t ff_Receiver_hasHandedOver (b + 5) = fx_bit false → (∀ i, i < 4 → fx_fr t ff_Place_packet (b + 10 + i) = none) → (∀ c, fx_fi t ff_Sender_slotsUsed c = fx_fi s ff_Sender_slotsUsed c) → (∀ c, fx_fi t ff_Sender_hungryCycles c = fx_fi s ff_Sender_hungryCycles c) → (∀ c, fx_fr t ff_Sender_underWay c = fx_fr s ff_Sender_underWay c) → fx_ar t = fx_ar s → Q none t) : fx_M mm_Receiver_clear [vR 18 (some (b + 5))] s Q := by
  refine xx_i ml62 ?_
  refine xx_j ee62_0 rfl trivial ?_
  refine xx_gr ee62_1 e1 rfl rfl ?_
  refine xx_c ee62_4 rfl (k_rclear ?_)
  have hq1 := z_rcl (r := b + 6) hq
  have m1 : SM x b s (cm_rcl s (b + 6)) := SM.rf.rcl (Or.inl (by omega))
  have x1 : ∀ c, fx_fi (cm_rcl s (b + 6)) ff_Sender_slotsUsed c = fx_fi s ff_Sender_slotsUsed c := fun c => rfl
  have x2 : ∀ c, fx_fi (cm_rcl s (b + 6)) ff_Sender_hungryCycles c = fx_fi s ff_Sender_hungryCycles c := fun c => rfl
  have x3 : ∀ c, fx_fr (cm_rcl s (b + 6)) ff_Sender_underWay c = fx_fr s ff_Sender_underWay c := fun c => rfl
  have x4 : fx_ar (cm_rcl s (b + 6)) = fx_ar s := rfl
  generalize cm_rcl s (b + 6) = t1 at *
  refine xx_j ee62_7 rfl trivial ?_
  refine xx_k ee62_8 0 rfl ?_
  refine xx_pi ee62_9 rfl ?_
  refine xx_j ee62_12 rfl trivial ?_
  refine xx_k ee62_13 0 rfl ?_
  first | refine xx_pz ee62_14 rfl ?_ | refine xx_t fx_bit_t (xx_pz ee62_14 rfl ?_) | refine xx_t fx_bit_f (xx_pz ee62_14 rfl ?_)
  refine xx_k ee62_17 0 rfl ?_
  refine xx_j ee62_18 rfl trivial ?_
  have loop : ∀ d j t, j + d = 4 → SM x b s t → RQ t (fun q => S q ∨ q = b + 6) (fn_up rt (b + 6) []) → fx_fi t ff_Receiver_readyCount (b + 5) = nI 0 → fx_fi t ff_Receiver_hasHandedOver (b + 5) = fx_bit false → (∀ i, i < j → fx_fr t ff_Place_packet (b + 10 + i) = none) → (∀ c, fx_fi t ff_Sender_slotsUsed c = fx_fi s ff_Sender_slotsUsed c) → (∀ c, fx_fi t ff_Sender_hungryCycles c = fx_fi s ff_Sender_hungryCycles c) → (∀ c, fx_fr t ff_Sender_underWay c = fx_fr s ff_Sender_underWay c) → fx_ar t = fx_ar s → fx_W 62 19 [some (vR 18 (some (b + 5))), some (vI (nI j))] [] t Q := by
    intro d
    induction d with
    | zero =>
      intro j t hj m1 w1 w2 w3 w4 w5 w6 w7 w8
      refine xx_j ee62_19 rfl trivial ?_
      refine xx_k ee62_20 4 rfl ?_
      refine xx_ge ee62_21 (by omega) (by omega) (fun _ => ?_) (fun q => by omega)
      exact xx_rv ee62_39 (k t m1 w1 w2 w3 (fun i hi => w4 i (by omega)) w5 w6 w7 w8)
    | succ d ih =>
      intro j t hj m1 w1 w2 w3 w4 w5 w6 w7 w8
      have g2 : fx_fr t ff_Receiver_places (b + 5) = some (b + 8) := by rw [m1.dfr rfl]; exact e2
      have g3 : fx_ln t (b + 8) = 4 := by rw [m1.ln]; exact e3
      have g4 : fx_ar t (b + 8) j = some (b + 10 + j) := by rw [w8]; exact e4 j (by omega)
      refine xx_j ee62_19 rfl trivial ?_
      refine xx_k ee62_20 4 rfl ?_
      refine xx_ge ee62_21 (by omega) (by omega) (fun q => by omega) (fun _ => ?_)
      refine xx_j ee62_24 rfl trivial ?_
      refine xx_gr ee62_25 g2 rfl rfl ?_
      refine xx_j ee62_28 rfl trivial ?_
      refine xx_rl ee62_29 g3 (by omega) (by decide) g4 rfl ?_
      refine xx_c ee62_30 rfl (k_pclear ?_)
      first | refine xx_inc ee62_33 rfl ?_ | refine xx_j ee62_33 rfl trivial ?_
      refine xx_j ee62_36 rfl trivial ?_
      refine ih (j + 1) _ (by omega) (m1.sfr (Or.inr ⟨by decide, Or.inl (by omega)⟩)) (w1.frame (fun r hr => ⟨rfl, rfl, rfl⟩) (fun r a hr ha => rfl)) w2 w3 (fun i hi => ?_) w5 w6 w7 w8
      by_cases e : i = j
      · rw [e, fr_same]
      · rw [fr_ne (fun q => by omega)]; exact w4 i (by omega)
  refine loop 4 0 _ (by omega) ((m1.sfi (by decide) (Or.inl (by omega))).sfi (by decide) (Or.inl (by omega))) (hq1.frame (fun r hr => ⟨rfl, rfl, rfl⟩) (fun r a hr ha => rfl)) ?_ fi_same (fun i hi => by omega) x1 x2 x3 x4
  rw [fi_ne (fun q => absurd q.1 (by decide)), fi_same]
theorem SK2.sm {c : Nat} (h : SK2 s x v c) (m : SM x b s t) (hx : x + 14 < b) (hc : c = b ∨ c + 20 ≤ b ∨ b + 20 ≤ c) : SK2 t x v c := by
  refine ⟨by rw [m.ar _ (by omega) (by omega) (by omega)]; exact h.at, by rw [m.dfi rfl]; exact h.num, by rw [m.dfr rfl]; exact h.snd, by rw [m.dfr rfl]; exact h.rcv, by rw [m.dfr rfl]; exact h.wait, by rw [m.dfr rfl]; exact h.again, by rw [m.dfr rfl]; exact h.slots, by rw [m.dfr rfl]; exact h.asked, by rw [m.dfr rfl]; exact h.places, by rw [m.dfr rfl]; exact h.ready, by rw [m.ln]; exact h.lslots, by rw [m.ln]; exact h.lpl, by rw [m.ln]; exact h.lrd, by rw [m.ln]; exact h.lh, by rw [m.ln]; exact h.lc, fun i hi => by rw [m.ar _ (by omega) (by omega) (by omega)]; exact h.pl i hi⟩
theorem LL.sm {c : Nat} (hl : LL s c h) (m : SM x b s t) : LL t c h := ⟨hl.1, by rw [m.dfr rfl]; exact hl.2.1, by rw [m.dfr rfl]; exact hl.2.2⟩
theorem YY.sm {c : Nat} {Z : Nat → Nat} (hl : YY s c Z) (m : SM x b s t) (hc : c = b ∨ c + 20 ≤ b ∨ b + 20 ≤ c) : YY t c Z := ⟨fun i hi => by rw [m.ar _ (by omega) (by omega) (by omega)]; exact hl.1 i hi, by rw [m.dfr rfl]; exact hl.2.1, hl.2.2⟩
theorem ES.sm {c : Nat} (h : ES s c) (m : SM x b s t) (hc : c + 20 ≤ b ∨ b + 20 ≤ c) (hx : x + 14 < c) : ES t c := by
  obtain ⟨h1, h2, h3, h4, h5, h6, h7, h8, h9, h10⟩ := h
  exact ⟨by rw [m.oi _ _ (by omega) (by omega)]; exact h1, by rw [m.oi _ _ (by omega) (by omega)]; exact h2, by rw [m.or_ _ _ (by decide) (by omega) (by omega)]; exact h3, fun k hk => by rw [m.ar _ (by omega) (by omega) (by omega)]; exact h4 k hk, by rw [m.oi _ _ (by omega) (by omega)]; exact h5, fun k hk => by rw [m.ar _ (by omega) (by omega) (by omega)]; exact h6 k hk, fun k hk => by rw [m.ar _ (by omega) (by omega) (by omega)]; exact h7 k hk, by rw [m.oi _ _ (by omega) (by omega)]; exact h8, by rw [m.oi _ _ (by omega) (by omega)]; exact h9, fun i hi => by rw [m.or_ _ _ (by decide) (by omega) (by omega)]; exact h10 i hi⟩
theorem k_nclear {o : Nat → Option Nat} (hx : x + 14 < b) (hK : SK2 s x v b) (hH : LL s b h) (hq : RQ s S rt) (s2 : S (b + 2)) (s14 : S (x + 14)) (n3 : ¬ S (b + 3)) (ho : ∀ k, k < 8 → fx_ar s (b + 4) k = o k) (hP : ∀ k c, k < 8 → o k = some c → ∀ q, S q → c ∉ rt q) (hi : ∀ k l c, k < 8 → l < 8 → o k = some c → o l = some c → k = l)
    (k : ∀ t rt', SM x b s t → RQ t (fun q => (S q ∨ q = b + 3) ∨ q = b + 6) rt' → rt' (b + 2) = [] → rt' (b + 3) = [] → rt' (b + 6) = [] → (∀ q, q ≠ b + 2 → q ≠ b + 3 → q ≠ b + 6 → q ≠ x + 14 → rt' q = rt q) → (∀ c, c ∈ rt' (x + 14) → c ∈ rt (x + 14) ∨ c ∈ rt (b + 2) ∨ ∃ k, k < 8 ∧ o k = some c) → ES t b → Q none t) : fx_M mm_Node_clear [vR 14 (some b), vR 20 (some (x + 14))] s Q := by
  refine xx_i ml89 ?_
  refine xx_j ee89_0 rfl trivial ?_
  refine xx_gr ee89_1 hK.snd rfl rfl ?_
  refine xx_j ee89_4 rfl trivial ?_
  refine xx_c ee89_5 rfl (k_sclear hx hK.wait hK.again hK.slots hK.lslots hq s2 s14 n3 ho hP hi (fun t rt' m1 q1 w2 w3 wo wm f1 f2 f3 f4 f5 f6 f7 => ?_))
  have hK1 := hK.sm m1 hx (Or.inl rfl)
  refine xx_j ee89_8 rfl trivial ?_
  refine xx_gr ee89_9 hK1.rcv rfl rfl ?_
  refine xx_c ee89_12 rfl (k_rvclear (x := x) hK1.asked hK1.places hK1.lpl hK1.pl q1 (fun u m2 q2 g1 g2 g3 g4 g5 g6 g7 => ?_))
  have m3 := m1.tr m2
  have hH1 := hH.sm m3
  have hK2 := hK.sm m3 hx (Or.inl rfl)
  have hh := hH.1
  refine xx_k ee89_15 0 rfl ?_
  refine xx_j ee89_16 rfl trivial ?_
  have loop : ∀ d j u', j + d = 4 → SM x b u u' → fx_fi u' = fx_fi u → fx_fr u' = fx_fr u → (∀ c, c ≠ b + 18 → c ≠ b + 19 → fx_ar u' c = fx_ar u c) → (∀ i, i < j → fx_ar u' (b + 18) i = none) → (∀ i, i < j → fx_ar u' (b + 19) i = none) → fx_W 89 17 [some (vR 14 (some b)), some (vR 20 (some (x + 14))), some (vI (nI j))] [] u' Q := by
    intro d
    induction d with
    | zero =>
      intro j u' hj m4 y1 y2 y3 y4 y5
      refine xx_j ee89_17 rfl trivial ?_
      refine xx_k ee89_18 4 rfl ?_
      refine xx_ge ee89_19 (by omega) (by omega) (fun _ => ?_) (fun q => by omega)
      refine xx_j ee89_42 rfl trivial ?_
      refine xx_k ee89_43 0 rfl ?_
      refine xx_pi ee89_44 rfl ?_
      refine xx_rv ee89_47 (k _ _ ((m3.tr m4).sfi (by decide) (Or.inl (by omega))) (q2.frame (fun r hr => ?_) (fun r a hr ha => ?_)) ?_ ?_ fn_same (fun q q1 q2 q3 q4 => ?_) (fun c hc => ?_) ⟨?_, ?_, ?_, fun i hi => ?_, fi_same, fun i hi => ?_, fun i hi => ?_, ?_, ?_, fun i hi => ?_⟩)
      · refine ⟨?_, ?_, ?_⟩
        · show fx_fr u' _ _ = _; rw [y2]
        · show fx_fr u' _ _ = _; rw [y2]
        · rw [fi_ne (fun q => absurd q.1 (by decide)), y1]
      · show fx_fr u' _ _ = _; rw [y2]
      · rw [fn_ne (by omega)]; exact w2
      · rw [fn_ne (by omega)]; exact w3
      · rw [fn_ne q3]; exact wo q q1 q2 q4
      · rw [fn_ne (by omega)] at hc; exact wm c hc
      · rw [fi_ne (fun q => absurd q.1 (by decide)), y1, g4]; exact f1
      · rw [fi_ne (fun q => absurd q.1 (by decide)), y1, g5]; exact f2
      · show fx_fr u' _ _ = _; rw [y2, g6]; exact f3
      · show fx_ar u' _ _ = _; rw [y3 _ (by omega) (by omega), g7]; exact f4 i hi
      · exact y4 i (by omega)
      · exact y5 i (by omega)
      · rw [fi_ne (fun q => absurd q.1 (by decide)), y1]; exact g1
      · rw [fi_ne (fun q => absurd q.1 (by decide)), y1]; exact g2
      · show fx_fr u' _ _ = _; rw [y2]; exact g3 i hi
    | succ d ih =>
      intro j u' hj m4 y1 y2 y3 y4 y5
      have hH2 := hH1.sm m4
      have hK3 := hK2.sm m4 hx (Or.inl rfl)
      have l1 : fx_ln u' (b + h) = 4 := by
        rcases hh with e | e <;> rw [e]
        · exact hK3.lh
        · exact hK3.lc
      have l2 : fx_ln u' (b + (37 - h)) = 4 := by
        rcases hh with e | e <;> rw [e]
        · exact hK3.lc
        · exact hK3.lh
      refine xx_j ee89_17 rfl trivial ?_
      refine xx_k ee89_18 4 rfl ?_
      refine xx_ge ee89_19 (by omega) (by omega) (fun q => by omega) (fun _ => ?_)
      refine xx_j ee89_22 rfl trivial ?_
      refine xx_gr ee89_23 hH2.2.1 rfl rfl ?_
      refine xx_j ee89_26 rfl trivial ?_
      refine xx_j ee89_27 rfl trivial ?_
      first | refine xx_rs ee89_28 l1 (by omega) (by decide) rfl (Or.inl rfl) ?_ | refine xx_rs ee89_28 l1 (by omega) (by decide) rfl (Or.inr rfl) ?_
      have c1 : fx_fr (fx_sar u' (b + h) j none) ff_Node_coming b = some (b + (37 - h)) := hH2.2.2
      have l3 : fx_ln (fx_sar u' (b + h) j none) (b + (37 - h)) = 4 := l2
      refine xx_j ee89_29 rfl trivial ?_
      refine xx_gr ee89_30 c1 rfl rfl ?_
      refine xx_j ee89_33 rfl trivial ?_
      refine xx_j ee89_34 rfl trivial ?_
      first | refine xx_rs ee89_35 l3 (by omega) (by decide) rfl (Or.inl rfl) ?_ | refine xx_rs ee89_35 l3 (by omega) (by decide) rfl (Or.inr rfl) ?_
      first | refine xx_inc ee89_36 rfl ?_ | refine xx_j ee89_36 rfl trivial ?_
      refine xx_j ee89_39 rfl trivial ?_
      refine ih (j + 1) _ (by omega) ((m4.sar (by omega)).sar (by omega)) y1 y2 (fun c c1 c2 => ?_) (fun i hi => ?_) (fun i hi => ?_)
      · have z1 : fx_ar (fx_sar (fx_sar u' (b + h) j none) (b + (37 - h)) j none) c = fx_ar (fx_sar u' (b + h) j none) c := fx_up_off _ (by omega)
        have z2 : fx_ar (fx_sar u' (b + h) j none) c = fx_ar u' c := fx_up_off _ (by omega)
        rw [z1, z2]; exact y3 c c1 c2
      · by_cases e : i = j
        · rcases hh with e1 | e1
          · rw [ar_ne (fun q => by omega), e, e1, ar_same]
          · rw [e, e1, ar_same]
        · rw [ar_ne (fun q => e q.2), ar_ne (fun q => e q.2)]; exact y4 i (by omega)
      · by_cases e : i = j
        · rcases hh with e1 | e1
          · rw [e, e1, ar_same]
          · rw [ar_ne (fun q => by omega), e, e1, ar_same]
        · rw [ar_ne (fun q => e q.2), ar_ne (fun q => e q.2)]; exact y5 i (by omega)
  exact loop 4 0 u (by omega) SM.rf rfl rfl (fun c _ _ => rfl) (fun i hi => by omega) (fun i hi => by omega)
end
