/-! THE CLASS: flits arrive -/
def fx_sarr (s : fx_S) (F A : Nat → Nat → Option Nat) : fx_S := (s.1, s.2.1, fun f a => if Nat.ble 259 f && Nat.blt f 261 then F f a else fx_fr s f a, s.2.2.2.1, s.2.2.2.2.1, A, s.2.2.2.2.2.2)
section
variable {s : fx_S} {Q : fx_Q} {x m : Nat} {B H P : Nat → Nat} {C : Nat → Nat → Option Nat} {Y : Nat → Nat → Nat} {rt : Nat → List Nat} {K : Nat → Prop} {L : List Nat} {M N : rf_M} {lv : Nat → Prop}
theorem sarr_fr {F A : Nat → Nat → Option Nat} {f b : Nat} {o : Option Nat} (hf : (Nat.ble 259 f && Nat.blt f 261) = true) : fx_sfr (fx_sarr s F A) f b o = fx_sarr s (fx_up F f b o) A := by
  refine Prod.ext rfl (Prod.ext rfl (Prod.ext ?_ rfl))
  funext g a
  show fx_up (fun f a => if (Nat.ble 259 f && Nat.blt f 261) = true then F f a else fx_fr s f a) f b o g a = if (Nat.ble 259 g && Nat.blt g 261) = true then fx_up F f b o g a else fx_fr s g a
  by_cases c : g = f ∧ a = b
  · obtain ⟨c1, c2⟩ := c
    subst c1; subst c2
    rw [fx_up_same, fx_up_same, if_pos hf]
  · rw [fx_up_ne c]
    by_cases d : (Nat.ble 259 g && Nat.blt g 261) = true
    · rw [if_pos d, if_pos d, fx_up_ne c]
    · rw [if_neg d, if_neg d]
theorem sarr_ar {F A : Nat → Nat → Option Nat} {z i : Nat} {o : Option Nat} : fx_sar (fx_sarr s F A) z i o = fx_sarr s F (fx_up A z i o) := rfl
theorem sarr_id : fx_sarr s (fx_fr s) (fx_ar s) = s := by
  refine Prod.ext rfl (Prod.ext rfl (Prod.ext ?_ rfl))
  funext g a
  show (if (Nat.ble 259 g && Nat.blt g 261) = true then fx_fr s g a else fx_fr s g a) = _
  split <;> rfl
/-- arrays of nodes that are not lines -/
theorem RA.arr {F A : Nat → Nat → Option Nat} {H' : Nat → Nat} {C' : Nat → Nat → Option Nat} (h : RA s x B H C Y P m rt K L M) (hA : ∀ a, (∀ u, u < m → a ≠ B u + 18 ∧ a ≠ B u + 19) → A a = fx_ar s a) (hF : RF (fx_sarr s F A) B H' C' P m M) : RA (fx_sarr s F A) x B H' C' Y P m rt K L M := by
  have hin := h.sk.c.in_
  have aB : ∀ v c, v < m → c < 18 → A (B v + c) = fx_ar s (B v + c) := fun v c hv hc => hA _ (fun u hu => ⟨fun q => by have := h.sk.ap hv hu (by omega) (by omega) q; omega, fun q => by have := h.sk.ap hv hu (by omega) (by omega) q; omega⟩)
  have aX : A (x + 12) = fx_ar s (x + 12) := hA _ (fun u hu => by have := hin u hu; omega)
  have aK : ∀ a, K a → A (a + 1) = fx_ar s (a + 1) := fun a ha => hA _ (fun u hu => by have := (h.k.in_ a ha).2.2 u hu; omega)
  refine ⟨⟨h.sk.a, fun v hv => ?_, h.sk.c⟩, h.t, h.g, ⟨h.s.used, h.s.hun, h.s.uw, fun v k hv hk => ?_, h.s.went⟩, h.p, h.w, h.r, h.x, h.m, h.o, ⟨h.k.in_, h.k.fl, h.k.ln, fun a b G ha hb hG => ?_, fun p b hp hb => ?_, fun v i a b hv hi hb => ?_, h.k.sep⟩, hF, fun v hv => ?_, h.nm⟩
  · obtain ⟨a1, a2, a3, a4, a5, a6, a7, a8, a9, a10, a11, a12, a13, a14, a15, a16⟩ := h.sk.b v hv
    refine ⟨?_, a2, a3, a4, a5, a6, a7, a8, a9, a10, a11, a12, a13, a14, a15, fun j hj => ?_⟩
    · show A (x + 12) v = _
      rw [aX]; exact a1
    · show A (B v + 8) j = _
      rw [aB v 8 hv (by omega)]; exact a16 j hj
  · show A (B v + 4) k = _
    rw [aB v 4 hv (by omega)]; exact h.s.sl v k hv hk
  · have hG' : A (a + 1) b = some G := hG
    rw [aK a ha] at hG'
    exact h.k.ft a b G ha hb hG'
  · show A (P p + 1) b ≠ none
    rw [aK _ (h.o.kp p hp (by omega))]; exact h.k.fp p b hp hb
  · show A (a + 1) b ≠ none
    rw [aK a (h.o.kw v a hv (List.mem_of_getElem? hi))]; exact h.k.fw v i a b hv hi hb
  · obtain ⟨a1, a2, a3, a4, a5, a6⟩ := h.v v hv
    refine ⟨a1, a2, a3, a4, fun j hj => ?_, a6⟩
    show A (B v + 9) j = _
    rw [aB v 9 hv (by omega)]; exact a5 j hj
/-- what the arrival of the first j nodes does -/
def ARV (s t : fx_S) (B H : Nat → Nat) (m j : Nat) : Prop := ∃ F A, t = fx_sarr s F A ∧ (∀ v, v < m → F ff_Node_here (B v) = some (B v + (if v < j then 37 - H v else H v)) ∧ F ff_Node_coming (B v) = some (B v + (if v < j then H v else 37 - H v))) ∧ (∀ v i, v < j → v < m → i < 4 → A (B v + H v) i = none) ∧ ∀ a, (∀ v, v < j → v < m → a ≠ B v + H v) → A a = fx_ar s a
theorem k_arrive {t : fx_S} {v : Nat} (h : RA s x B H C Y P m rt K L M) (hv : v < m) (ha : ARV s t B H m v) (k : ∀ t', ARV s t' B H m (v + 1) → CK x t t' → Q none t') : fx_M mm_Node_arrive [vR 14 (some (B v))] t Q := by
  obtain ⟨F, A, rfl, f1, f2, f3⟩ := ha
  obtain ⟨g1, g2⟩ := f1 v hv
  rw [if_neg (by omega)] at g1 g2
  have hH := h.f.h1 v hv
  have nd := h.sk.b v hv
  have hl : ∀ F A, fx_ln (fx_sarr s F A) (B v + H v) = 4 := by
    intro F A
    rcases hH with q | q
    · rw [q]; exact nd.lh
    · rw [q]; exact nd.lc
  refine xx_i ml9 ?_
  refine xx_j ee9_0 rfl trivial ?_
  refine xx_gr ee9_1 g1 rfl rfl ?_
  refine xx_j ee9_4 rfl trivial ?_
  refine xx_j ee9_5 rfl trivial ?_
  refine xx_j ee9_6 rfl trivial ?_
  refine xx_gr ee9_7 g2 rfl rfl ?_
  first | refine xx_pr ee9_10 rfl rfl (Or.inl rfl) ?_ | refine xx_pr ee9_10 rfl rfl (Or.inr rfl) ?_
  refine xx_j ee9_13 rfl trivial ?_
  refine xx_j ee9_14 rfl trivial ?_
  first | refine xx_pr ee9_15 rfl rfl (Or.inl rfl) ?_ | refine xx_pr ee9_15 rfl rfl (Or.inr rfl) ?_
  rw [sarr_fr (by decide), sarr_fr (by decide)]
  refine xx_k ee9_18 0 rfl ?_
  refine xx_j ee9_19 rfl trivial ?_
  have hBne : ∀ u, u < m → u ≠ v → B u ≠ B v := fun u hu hne q => hne (h.sk.ap (c := 0) (d := 0) hu hv (by omega) (by omega) (by rw [q])).1
  have loop : ∀ d j A', j + d = 4 → (∀ i, i < j → A' (B v + H v) i = none) → (∀ a, a ≠ B v + H v → A' a = A a) → fx_W 9 20 [some (vR 14 (some (B v))), some (vR 42 (some (B v + H v))), some (vI (nI j))] [] (fx_sarr s (fx_up (fx_up F ff_Node_here (B v) (some (B v + (37 - H v)))) ff_Node_coming (B v) (some (B v + H v))) A') Q := by
    intro d
    induction d with
    | zero =>
      intro j A' hj h1 h2
      refine xx_j ee9_20 rfl trivial ?_
      refine xx_k ee9_21 4 rfl ?_
      refine xx_ge ee9_22 (by omega) (by omega) (fun _ => ?_) (fun h => by omega)
      refine xx_rv ee9_35 (k _ ⟨_, A', rfl, fun u hu => ?_, fun u i hu hum hi => ?_, fun a ha => ?_⟩ ?_)
      · by_cases c : u = v
        · subst c
          rw [if_pos (by omega), if_pos (by omega)]
          refine ⟨?_, ?_⟩
          · rw [fx_up_ne (fun q => absurd q.1 (by decide)), fx_up_same]
          · rw [fx_up_same]
        · rw [fx_up_ne (fun q => absurd q.1 (by decide)), fx_up_ne (fun q => hBne u hu c q.2), fx_up_ne (fun q => hBne u hu c q.2), fx_up_ne (fun q => absurd q.1 (by decide))]
          obtain ⟨z1, z2⟩ := f1 u hu
          refine ⟨?_, ?_⟩
          · rw [z1]
            by_cases d : u < v
            · rw [if_pos d, if_pos (by omega)]
            · rw [if_neg d, if_neg (by omega)]
          · rw [z2]
            by_cases d : u < v
            · rw [if_pos d, if_pos (by omega)]
            · rw [if_neg d, if_neg (by omega)]
      · by_cases c : u = v
        · subst c; exact h1 i (by omega)
        · have hHu := h.f.h1 u hum
          rw [h2 _ (fun q => c (h.sk.ap hum hv (by omega) (by omega) q).1)]
          exact f2 u i (by omega) hum hi
      · rw [h2 a (ha v (by omega) hv)]
        exact f3 a (fun u hu hum => ha u (by omega) hum)
      · refine ⟨⟨fun f a hf _ => ⟨rfl, ?_⟩, fun a _ => ⟨rfl, rfl, rfl, fun _ => rfl⟩, Nat.le_refl _⟩, fun f a _ _ => rfl⟩
        show (if (Nat.ble 259 f && Nat.blt f 261) = true then _ else fx_fr s f a) = (if (Nat.ble 259 f && Nat.blt f 261) = true then _ else fx_fr s f a)
        have c : ¬ (Nat.ble 259 f && Nat.blt f 261) = true := by
          simp only [Bool.and_eq_true, Nat.ble_eq, Nat.blt_eq]
          omega
        rw [if_neg c, if_neg c]
    | succ d ih =>
      intro j A' hj h1 h2
      refine xx_j ee9_20 rfl trivial ?_
      refine xx_k ee9_21 4 rfl ?_
      refine xx_ge ee9_22 (by omega) (by omega) (fun h => by omega) (fun _ => ?_)
      refine xx_j ee9_25 rfl trivial ?_
      refine xx_j ee9_26 rfl trivial ?_
      refine xx_j ee9_27 rfl trivial ?_
      first | refine xx_rs ee9_28 (hl _ _) (by omega) (by decide) rfl (Or.inl rfl) ?_ | refine xx_rs ee9_28 (hl _ _) (by omega) (by decide) rfl (Or.inr rfl) ?_
      rw [sarr_ar]
      first | refine xx_inc ee9_29 rfl ?_ | refine xx_j ee9_29 rfl trivial ?_
      refine xx_j ee9_32 rfl trivial ?_
      refine ih (j + 1) _ (by omega) (fun i hi => ?_) (fun a ha => ?_)
      · by_cases c : i = j
        · rw [c, fx_up_same]
        · rw [fx_up_ne (fun q => c q.2)]; exact h1 i (by omega)
      · rw [← h2 a ha]
        exact fx_up_off _ ha
  exact loop 4 0 A (by omega) (fun i hi => by omega) (fun _ _ => rfl)
theorem RA.now {y : Int32} (h : RA s x B H C Y P m rt K L M) : RA (fx_sfi s ff_Torus_now x y) x B H C Y P m rt K L (fx_up M ff_Mod_cycle 0 y) := by
  refine ⟨h.sk, ⟨h.t.mode, h.t.pat, ?_, h.t.turn, h.t.fin, h.t.dfl, h.t.rec, h.t.ask, h.t.pks⟩, h.g, h.s, h.p, h.w, h.r, h.x, h.m, h.o, h.k, h.f, h.v, h.nm⟩
  rw [fi_same, fx_up_same]
theorem RA.fl0 (h : RA s x B H C Y P m rt K L M) : ∀ j, RA s x B H C Y P m rt K L (om_fl M [ff_Mod_way] j fx_neg)
  | 0 => by rw [om_fl_0]; exact h
  | j + 1 => by
    rw [← om_fl_1]
    exact (RA.fl0 h j).way
theorem RA.w0 (h : RA s x B H C Y P m rt K L M) : RA s x B H C Y P m rt K L (om_w0 M) := h.fl0 _
theorem RA.t0 (h : RA s x B H C Y P m rt K L M) : RA s x B H C Y P m rt K L (om_t0 M) := ⟨h.sk, h.t, h.g, h.s, h.p, h.w, h.r, h.x, h.m, h.o, h.k, h.f, h.v, h.nm⟩
/-- other places of the flits -/
def om_mal (M N : rf_M) : rf_M := fun g i => if Nat.ble 779 g && Nat.blt g 781 then N g i else M g i
theorem mal_o {g i : Nat} (h : (Nat.ble 779 g && Nat.blt g 781) = false) : om_mal M N g i = M g i := by
  unfold om_mal
  rw [h]
  rfl
theorem mal_spk {f : Nat} : spk (om_mal M N) f = spk M f := by
  unfold spk
  rw [rn_eq (mal_o (by decide)), rn_eq (mal_o (by decide))]
theorem RA.mal {F A : Nat → Nat → Option Nat} {H' : Nat → Nat} {C' : Nat → Nat → Option Nat} (h : RA s x B H C Y P m rt K L M) (hF : RF s B H' C' P m (om_mal M N)) : RA s x B H' C' Y P m rt K L (om_mal M N) := by
  refine ⟨h.sk, h.t, h.g, h.s, fun p hp lp => ?_, h.w, h.r, h.x, h.m, h.o, h.k, hF, h.v, h.nm⟩
  have lp' : 0 < rn M ff_Mod_lengths p := by rw [rn_eq (mal_o (by decide))] at lp; exact lp
  obtain ⟨r1, r2, r3, r4, r5, r6, r7, r8, r9⟩ := h.p p hp lp'
  refine ⟨r1, r2, r3, r4, r5, r6, r7, r8, ?_⟩
  rw [rn_eq (M := M) (M' := om_mal M N) (mal_o (by decide)), sp_cnt_congr ((rn M ff_Mod_flits 0)) (fun i _ => by rw [mal_spk])]
  exact r9
end
