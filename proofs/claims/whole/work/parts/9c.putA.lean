/-! THE CLASS: a packet that nobody uses -/
/-- the int fields of packets -/
def fx_spf (s : fx_S) (I : Nat → Nat → Int32) : fx_S := (s.1, fun f a => if Nat.ble 320 f && Nat.blt f 331 then I f a else fx_fi s f a, s.2.2)
def NU (x : Nat) (B P : Nat → Nat) (m : Nat) (rt : Nat → List Nat) (K : Nat → Prop) (M : rf_M) (a : Nat) : Prop := K a ∧ (∀ q, ISR x B m q → a ∉ rt q) ∧ ∀ p, p < 512 → 0 < rn M ff_Mod_lengths p → P p ≠ a
section
variable {s t : fx_S} {Q : fx_Q} {x m a : Nat} {B H P : Nat → Nat} {C : Nat → Nat → Option Nat} {Y : Nat → Nat → Nat} {rt : Nat → List Nat} {K : Nat → Prop} {L : List Nat} {M N M6 : rf_M} {lv : Nat → Prop}
theorem spf_fi {I : Nat → Nat → Int32} {f b : Nat} {y : Int32} (hf : (Nat.ble 320 f && Nat.blt f 331) = true) : fx_sfi (fx_spf s I) f b y = fx_spf s (fx_up I f b y) := by
  refine Prod.ext rfl (Prod.ext ?_ rfl)
  funext g c
  show fx_up (fun f a => if (Nat.ble 320 f && Nat.blt f 331) = true then I f a else fx_fi s f a) f b y g c = if (Nat.ble 320 g && Nat.blt g 331) = true then fx_up I f b y g c else fx_fi s g c
  by_cases e : g = f ∧ c = b
  · obtain ⟨c1, c2⟩ := e
    subst c1; subst c2
    rw [fx_up_same, fx_up_same, if_pos hf]
  · rw [fx_up_ne e]
    by_cases d : (Nat.ble 320 g && Nat.blt g 331) = true
    · rw [if_pos d, if_pos d, fx_up_ne e]
    · rw [if_neg d, if_neg d]
theorem spf_id : fx_spf s (fx_fi s) = s := by
  refine Prod.ext rfl (Prod.ext ?_ rfl)
  funext g c
  show (if (Nat.ble 320 g && Nat.blt g 331) = true then fx_fi s g c else fx_fi s g c) = _
  split <;> rfl
theorem spf_get {I : Nat → Nat → Int32} {f b : Nat} (hf : (Nat.ble 320 f && Nat.blt f 331) = true) : fx_fi (fx_spf s I) f b = I f b := by
  show (if (Nat.ble 320 f && Nat.blt f 331) = true then I f b else fx_fi s f b) = _
  rw [if_pos hf]
theorem RA.spf {I : Nat → Nat → Int32} (h : RA s x B H C Y P m rt K L M) (hn : NU x B P m rt K M a) (hI : ∀ f b, b ≠ a → I f b = fx_fi s f b) : RA (fx_spf s I) x B H C Y P m rt K L M := by
  obtain ⟨n1, n2, n3⟩ := hn
  have e : ∀ f b, b ≠ a → fx_fi (fx_spf s I) f b = fx_fi s f b := fun f b hb => by
    show (if (Nat.ble 320 f && Nat.blt f 331) = true then I f b else fx_fi s f b) = _
    rw [hI f b hb]
    split <;> rfl
  refine ⟨h.sk, h.t, h.g, h.s, fun p hp lp => ?_, fun v hv => ⟨(h.w v hv).1, fun i b hi => ?_⟩, h.r, h.x, ⟨h.m.row, fun k hk => ?_, fun k hk => ?_⟩, h.o, h.k, h.f, h.v, h.nm⟩
  · have := n3 p hp lp
    unfold RP1
    rw [e _ _ this, e _ _ this, e _ _ this, e _ _ this, e _ _ this, e _ _ this, e _ _ this, e _ _ this, e _ _ this]
    exact h.p p hp lp
  · have : b ≠ a := fun q => n2 _ (ISR.w hv) (q ▸ List.mem_of_getElem? hi)
    unfold RW1
    rw [e _ _ this, e _ _ this, e _ _ this, e _ _ this, e _ _ this, e _ _ this, e _ _ this, e _ _ this, e _ _ this]
    exact (h.w v hv).2 i b hi
  · rw [e _ _ (fun q => n2 _ (Or.inl rfl) (by rw [h.m.row]; exact List.mem_map.mpr ⟨k, hk, q⟩))]
    exact h.m.dn k hk
  · rw [e _ _ (fun q => n2 _ (Or.inl rfl) (by rw [h.m.row]; exact List.mem_map.mpr ⟨k, hk, q⟩))]
    exact h.m.du k hk
/-- it gets a flit -/
theorem RA.afl {i F : Nat} (h : RA s x B H C Y P m rt K L M) (hJ : JV M lv) (hn : NU x B P m rt K M a) (h1 : fx_fr s ff_Flit_packet F = some a) (h2 : fx_fi s ff_Flit_number F = nI i) (h3 : F < fx_nx s) : RA (fx_sar s (a + 1) i (some F)) x B H C Y P m rt K L M := by
  obtain ⟨n1, n2, n3⟩ := hn
  have hin := h.sk.c.in_
  obtain ⟨k1, k2, k3⟩ := h.k.in_ a n1
  refine ⟨h.sk.sar (by omega) (fun v hv q => by have := k3 v hv; omega), h.t, h.g, h.s.sar (fun v hv q => by have := k3 v hv; omega), h.p, h.w, h.r, h.x, h.m, h.o, ⟨h.k.in_, h.k.fl, h.k.ln, fun c b G hc hb hG => ?_, fun p b hp hb => ?_, fun v j c b hv hj hb => ?_, h.k.sep⟩, h.f.sar (fun v hv q => by have := k3 v hv; have := h.f.h1 v hv; omega) (fun f hf q => ?_) (fun v hv q => by have := k3 v hv; have := h.f.h1 v hv; omega), h.v.sar (fun v hv q => by have := k3 v hv; omega), h.nm⟩
  · by_cases e : c + 1 = a + 1 ∧ b = i
    · obtain ⟨e1, e2⟩ := e
      have e1' : c = a := by omega
      subst e1'; subst e2
      rw [ar_same] at hG
      cases hG
      exact ⟨h1, h2, h3⟩
    · rw [ar_ne e] at hG
      exact h.k.ft c b G hc hb hG
  · by_cases e : P p + 1 = a + 1 ∧ b = i
    · rw [e.1, e.2, ar_same]
      exact fun q => by cases q
    · rw [ar_ne e]; exact h.k.fp p b hp hb
  · by_cases e : c + 1 = a + 1 ∧ b = i
    · rw [e.1, e.2, ar_same]
      exact fun q => by cases q
    · rw [ar_ne e]; exact h.k.fw v j c b hv hj hb
  · exact n3 _ (hJ.j2 f hf).2.2.1 (hJ.j2 f hf).1 (by omega)
theorem k_flitI {F i : Nat} (k : Q none (fx_sfi (fx_sfr s ff_Flit_packet F (some a)) ff_Flit_number F (nI i))) : fx_M mm_Flit_init [vR 12 (some F), vR 15 (some a), vI (nI i)] s Q := by
  refine xx_i ml52 ?_
  refine xx_j ee52_0 rfl trivial ?_
  refine xx_j ee52_1 rfl trivial ?_
  refine xx_j ee52_4 rfl trivial ?_
  refine xx_j ee52_5 rfl trivial ?_
  first | refine xx_pr ee52_6 rfl rfl (Or.inl rfl) ?_ | refine xx_pr ee52_6 rfl rfl (Or.inr rfl) ?_
  refine xx_j ee52_9 rfl trivial ?_
  refine xx_j ee52_10 rfl trivial ?_
  refine xx_pi ee52_11 rfl ?_
  exact xx_rv ee52_14 k
theorem k_makeFlits {l : Nat} (h : RA s x B H C Y P m rt K L M) (hJ : JV M lv) (hL : ∀ k, k ∈ L → lv k) (hn : NU x B P m rt K M a) (hl : fx_fi s ff_Packet_length a = nI l) (hl8 : l ≤ 8) (k : ∀ t, RA t x B H C Y P m rt K L M → CF x s t → (∀ f, fx_fi t f a = fx_fi s f a) → (∀ b, b < l → fx_ar t (a + 1) b ≠ none) → fx_nx t ≤ fx_nx s + 8 → fx_sl t ≤ fx_sl s + 32 → Q none t) : fx_M mm_Packet_makeFlits [vR 15 (some a)] s Q := by
  refine xx_i ml90 ?_
  refine xx_k ee90_0 0 rfl ?_
  refine xx_j ee90_1 rfl trivial ?_
  have key : ∀ d j t, j + d = l → RA t x B H C Y P m rt K L M → CF x s t → (∀ f, fx_fi t f a = fx_fi s f a) → (∀ b, b < j → fx_ar t (a + 1) b ≠ none) → fx_nx t ≤ fx_nx s + j → fx_sl t ≤ fx_sl s + 4 * j → fx_W 90 2 [some (vR 15 (some a)), some (vI (nI j))] [] t Q := by
    intro d
    induction d with
    | zero =>
      intro j t hj hA hF hfi har hx hs
      refine xx_j ee90_2 rfl trivial ?_
      refine xx_j ee90_3 rfl trivial ?_
      refine xx_gi ee90_4 ((hfi _).trans hl) rfl rfl ?_
      refine xx_ge ee90_7 (by omega) (by omega) (fun _ => ?_) (fun h => by omega)
      exact xx_rv ee90_46 (k t hA hF hfi (fun b hb => har b (by omega)) (by omega) (by omega))
    | succ d ih =>
      intro j t hj hA hF hfi har hx hs
      obtain ⟨k1, k2, k3⟩ := hA.k.in_ a hn.1
      refine xx_j ee90_2 rfl trivial ?_
      refine xx_j ee90_3 rfl trivial ?_
      refine xx_gi ee90_4 ((hfi _).trans hl) rfl rfl ?_
      refine xx_ge ee90_7 (by omega) (by omega) (fun h => by omega) (fun _ => ?_)
      refine xx_j ee90_10 rfl trivial ?_
      refine xx_kb ee90_11 8 rfl ?_
      refine xx_ge ee90_13 (by omega) (by omega) (fun h => by omega) (fun _ => ?_)
      refine xx_j ee90_16 rfl trivial ?_
      refine xx_gr ee90_17 (hA.k.fl a hn.1) rfl rfl ?_
      refine xx_j ee90_20 rfl trivial ?_
      refine xx_rl ee90_21 (hA.k.ln a hn.1) (by omega) (by decide) rfl rfl ?_
      refine xx_nn ee90_22 (fun b hb => ?_) (fun hb => ?_)
      · first | refine xx_inc ee90_40 rfl ?_ | refine xx_j ee90_40 rfl trivial ?_
        refine xx_j ee90_43 rfl trivial ?_
        refine ih (j + 1) t (by omega) hA hF hfi (fun c hc => ?_) (by omega) (by omega)
        by_cases e : c = j
        · rw [e, hb]; exact fun q => by cases q
        · exact har c (by omega)
      · refine xx_j ee90_25 rfl trivial ?_
        refine xx_gr ee90_26 (hA.k.fl a hn.1) rfl rfl ?_
        refine xx_j ee90_29 rfl trivial ?_
        refine xx_j ee90_30 rfl trivial ?_
        refine xx_j ee90_33 rfl trivial ?_
        refine xx_j ee90_34 rfl trivial ?_
        refine xx_j ee90_35 rfl trivial ?_
        refine xx_c ee90_36 rfl (k_flitI ?_)
        have g0 : GR t (fx_sfi (fx_sfr (fx_new t 12 4) ff_Flit_packet (fx_nx t) (some a)) ff_Flit_number (fx_nx t) (nI j)) := (GR.new.sfr (Nat.le_refl _)).sfi (Nat.le_refl _)
        have hA1 := hA.growJ hJ hL g0
        have hF1 : CF x s (fx_sfi (fx_sfr (fx_new t 12 4) ff_Flit_packet (fx_nx t) (some a)) ff_Flit_number (fx_nx t) (nI j)) := (hF.new.sfr (by decide)).sfi (by decide)
        have q1 : fx_fr (fx_sfi (fx_sfr (fx_new t 12 4) ff_Flit_packet (fx_nx t) (some a)) ff_Flit_number (fx_nx t) (nI j)) ff_Flit_packet (fx_nx t) = some a := fr_same
        have q2 : fx_fi (fx_sfi (fx_sfr (fx_new t 12 4) ff_Flit_packet (fx_nx t) (some a)) ff_Flit_number (fx_nx t) (nI j)) ff_Flit_number (fx_nx t) = nI j := fi_same
        have q3 : fx_nx (fx_sfi (fx_sfr (fx_new t 12 4) ff_Flit_packet (fx_nx t) (some a)) ff_Flit_number (fx_nx t) (nI j)) = fx_nx t + 1 := rfl
        have q4 : fx_sl (fx_sfi (fx_sfr (fx_new t 12 4) ff_Flit_packet (fx_nx t) (some a)) ff_Flit_number (fx_nx t) (nI j)) = fx_sl t + 4 := rfl
        generalize fx_sfi (fx_sfr (fx_new t 12 4) ff_Flit_packet (fx_nx t) (some a)) ff_Flit_number (fx_nx t) (nI j) = t1 at *
        have hA2 := hA1.afl hJ hn q1 q2 (by omega)
        first | refine xx_rs ee90_39 (hA1.k.ln a hn.1) (by omega) (by decide) rfl (Or.inl rfl) ?_ | refine xx_rs ee90_39 (hA1.k.ln a hn.1) (by omega) (by decide) rfl (Or.inr rfl) ?_
        first | refine xx_inc ee90_40 rfl ?_ | refine xx_j ee90_40 rfl trivial ?_
        refine xx_j ee90_43 rfl trivial ?_
        refine ih (j + 1) _ (by omega) hA2 hF1.sar (fun f => ?_) (fun c hc => ?_) (by show fx_nx t1 ≤ _; omega) (by show fx_sl t1 ≤ _; omega)
        · show fx_fi t1 f a = _
          rw [g0.fi (by omega)]; exact hfi f
        · by_cases e : c = j
          · rw [e, ar_same]; exact fun q => by cases q
          · rw [ar_ne (fun q => e q.2), g0.ar k2]; exact har c (by omega)
  exact key l 0 s (by omega) h (CF.rf x s) (fun _ => rfl) (fun b hb => by omega) (by omega) (by omega)
end
