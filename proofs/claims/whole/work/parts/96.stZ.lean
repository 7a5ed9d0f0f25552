/-! THE CLASS: after the moving -/
section
variable {s : fx_S} {Q : fx_Q} {x m : Nat} {B H P : Nat → Nat} {C : Nat → Nat → Option Nat} {Y : Nat → Nat → Nat} {rt : Nat → List Nat} {K : Nat → Prop} {L : List Nat} {M N : rf_M} {lv : Nat → Prop}
theorem cnt_lt_s {a : Nat → Nat} {p : Nat → Bool} {v : Nat} : ∀ n, sp_cnt (fun f => decide (a f < v + 1) && p f) n = sp_cnt (fun f => decide (a f < v) && p f) n + sp_cnt (fun f => a f == v && p f) n
  | 0 => rfl
  | n + 1 => by
    have ih := cnt_lt_s (a := a) (p := p) (v := v) n
    show sp_cnt _ n + (bif decide (a n < v + 1) && p n then 1 else 0) = sp_cnt _ n + (bif decide (a n < v) && p n then 1 else 0) + (sp_cnt _ n + (bif a n == v && p n then 1 else 0))
    rw [ih]
    cases p n with
    | false => simp
    | true =>
      rw [Bool.and_true, Bool.and_true, Bool.and_true]
      by_cases c : a n < v
      · rw [decide_eq_true (show a n < v + 1 by omega), decide_eq_true c, beq_eq_false_iff_ne.mpr (show a n ≠ v by omega), cond_true, cond_false]; omega
      · rw [decide_eq_false c]
        by_cases d : a n = v
        · rw [decide_eq_true (show a n < v + 1 by omega), beq_iff_eq.mpr d, cond_true, cond_false]; omega
        · rw [decide_eq_false (show ¬ a n < v + 1 by omega), beq_eq_false_iff_ne.mpr d, cond_false]; omega
/-- deflected and gone from the nodes before v -/
def sdl (M : rf_M) (v : Nat) : Nat := sp_cnt (fun f => decide (rn M ff_Mod_at f < v) && !swant M (rn M ff_Mod_at f) (rn M ff_Mod_way f) (sg M f)) ((rn M ff_Mod_flits 0))
def sml (M : rf_M) (v : Nat) : Nat := sp_cnt (fun f => decide (rn M ff_Mod_at f < v) && true) ((rn M ff_Mod_flits 0))
theorem sml_0 : sml M 0 = 0 := (sp_cnt_zero _).mpr (fun f _ => by simp)
theorem sdl_0 : sdl M 0 = 0 := (sp_cnt_zero _).mpr (fun f _ => by simp)
theorem sml_s {v : Nat} : sml M (v + 1) = sml M v + sfa M v := by
  unfold sml sfa
  rw [cnt_lt_s]
  congr 1
  exact sp_cnt_congr _ (fun f _ => by rw [Bool.and_true])
theorem sdl_s {v : Nat} : sdl M (v + 1) = sdl M v + sdv M v := by
  unfold sdl sdv
  rw [cnt_lt_s]
  congr 1
  refine sp_cnt_congr _ (fun f _ => ?_)
  by_cases c : rn M ff_Mod_at f = v
  · rw [c]
  · rw [beq_eq_false_iff_ne.mpr c, Bool.false_and, Bool.false_and]
theorem sml_all (h : ∀ f, f < (rn M ff_Mod_flits 0) → rn M ff_Mod_at f < (rn M ff_Mod_all 0)) : sml M ((rn M ff_Mod_all 0)) = (rn M ff_Mod_flits 0) := by
  have key : ∀ n, n ≤ (rn M ff_Mod_flits 0) → sp_cnt (fun f => decide (rn M ff_Mod_at f < (rn M ff_Mod_all 0)) && true) n = n := by
    intro n
    induction n with
    | zero => intro _; rfl
    | succ n ih =>
      intro hn
      show sp_cnt _ n + (bif decide (rn M ff_Mod_at n < (rn M ff_Mod_all 0)) && true then 1 else 0) = _
      rw [ih (by omega), decide_eq_true (h n (by omega))]
      rfl
  exact key _ (Nat.le_refl _)
theorem sdl_all (h : ∀ f, f < (rn M ff_Mod_flits 0) → rn M ff_Mod_at f < (rn M ff_Mod_all 0)) : sdl M ((rn M ff_Mod_all 0)) = sdf M ((rn M ff_Mod_flits 0)) := by
  unfold sdl sdf
  refine sp_cnt_congr _ (fun f hf => ?_)
  rw [decide_eq_true (h f hf), Bool.true_and]
theorem sdl_wx {v : Nat} {M' : rf_M} (h : WX v M M') : sdl M' v = sdl M v := by
  unfold sdl
  rw [h.en (by decide)]
  refine sp_cnt_congr _ (fun f hf => ?_)
  have e1 : rn M' ff_Mod_at f = rn M ff_Mod_at f := h.en (by decide)
  have e2 : sg M' f = sg M f := by unfold sg; rw [h.en (by decide), h.en (by decide), h.en (by decide)]
  have e3 : ∀ a w g, swant M' a w g = swant M a w g := fun a w g => by unfold swant; rw [h.ez (by decide), h.en (by decide), h.en (by decide), h.en (by decide)]
  rw [e1, e2, e3]
  by_cases c : rn M ff_Mod_at f < v
  · have e4 : rn M' ff_Mod_way f = rn M ff_Mod_way f := rn_eq (h _ _ (fun q => by omega))
    rw [e4]
  · rw [decide_eq_false c, Bool.false_and, Bool.false_and]
theorem sml_wx {v u : Nat} {M' : rf_M} (h : WX v M M') : sml M' u = sml M u := by
  unfold sml
  rw [h.en (by decide)]
  refine sp_cnt_congr _ (fun f hf => ?_)
  have e1 : rn M' ff_Mod_at f = rn M ff_Mod_at f := h.en (by decide)
  rw [e1]
theorem sfa_wx {v u : Nat} {M' : rf_M} (h : WX v M M') : sfa M' u = sfa M u := by
  unfold sfa
  rw [h.en (by decide)]
  refine sp_cnt_congr _ (fun f hf => ?_)
  have e1 : rn M' ff_Mod_at f = rn M ff_Mod_at f := h.en (by decide)
  rw [e1]
theorem mdw_swc {j e u w : Nat} : swc (om_mdw M N) j e u w = swc M j e u w := by
  unfold swc
  rw [mdw_rn (by decide), mdw_rn (by decide)]
  exact sp_first_congr _ _ (fun f _ _ => by rw [mdw_rn (by decide), mdw_o (by decide)])
theorem CM.mdw {j e : Nat} (h : CM s B H P m M j e) : CM s B H P m (om_mdw M N) j e := fun u w hu hw => by
  rw [mdw_swc, mdw_fob]; exact h u w hu hw
theorem CM.unmdw {j e : Nat} (h : CM s B H P m (om_mdw M N) j e) : CM s B H P m M j e := fun u w hu hw => by
  rw [← mdw_swc (N := N), ← mdw_fob (N := N)]; exact h u w hu hw
theorem mdw_sfa {v : Nat} : sfa (om_mdw M N) v = sfa M v := by
  unfold sfa
  rw [mdw_rn (by decide)]
  exact sp_cnt_congr _ (fun f _ => by rw [mdw_rn (by decide)])
theorem mdw_sdv {v : Nat} : sdv (om_mdw M N) v = sdv M v := by
  unfold sdv
  rw [mdw_rn (by decide)]
  exact sp_cnt_congr _ (fun f _ => by rw [mdw_rn (by decide), mdw_rn (by decide), mdw_sg, mdw_want])
theorem mdw_upy {f i : Nat} {y : Int32} (h : (Nat.ble 815 f && Nat.blt f 817) = true) : fx_up (om_mdw M N) f i y = om_mdw M (fx_up N f i y) := by
  funext g j
  by_cases d : g = f ∧ j = i
  · rw [d.1, d.2, fx_up_same, mdw_y h, fx_up_same]
  · rw [fx_up_ne d]
    by_cases c : (Nat.ble 815 g && Nat.blt g 817) = true
    · rw [mdw_y c, mdw_y c, fx_up_ne d]
    · rw [Bool.not_eq_true] at c
      rw [mdw_o c, mdw_o c]
/-- what the counts are before node v sends -/
def NV (M N : rf_M) (v : Nat) : Prop := (∀ i, N ff_Mod_went i = if i < v then nI (rn M ff_Mod_went i + sfa M i) else M ff_Mod_went i) ∧ N ff_Mod_deflected 0 = nI (rn M ff_Mod_deflected 0 + sdl M v) ∧ ∀ i, i ≠ 0 → N ff_Mod_deflected i = M ff_Mod_deflected i
theorem NV.zero (hJ : JV M lv) : NV M M 0 := ⟨fun i => by rw [if_neg (by omega)], by rw [sdl_0, Nat.add_zero]; exact hJ.ri.f ff_Mod_deflected rfl (by decide), fun _ _ => rfl⟩
theorem NV.step {v : Nat} {M' : rf_M} (h : NV M N v) (hx : WX v M M') : NV M' (fx_up (fx_up N ff_Mod_deflected 0 (nI (rn M ff_Mod_deflected 0 + sdl M v + sdv M' v))) ff_Mod_went v (nI (rn M ff_Mod_went v + sfa M v))) (v + 1) := by
  obtain ⟨h1, h2, h3⟩ := h
  refine ⟨fun i => ?_, ?_, fun i hi => ?_⟩
  · rw [sfa_wx hx, hx.en (by decide), hx _ _ (fun q => absurd q.1 (by decide))]
    by_cases c : i = v
    · rw [c, fx_up_same, if_pos (by omega)]
    · rw [fx_up_ne (fun q => c q.2), fx_up_ne (fun q => absurd q.1 (by decide)), h1 i]
      by_cases d : i < v
      · rw [if_pos d, if_pos (by omega)]
      · rw [if_neg d, if_neg (by omega)]
  · rw [fx_up_ne (fun q => absurd q.1 (by decide)), fx_up_same, sdl_s, sdl_wx hx, hx.en (by decide), Nat.add_assoc]
  · rw [fx_up_ne (fun q => absurd q.1 (by decide)), fx_up_ne (fun q => hi q.2), h3 i hi, hx _ _ (fun q => absurd q.1 (by decide))]
theorem sp_cnt_and_le {p q : Nat → Bool} : ∀ n, sp_cnt (fun f => p f && q f) n ≤ n := fun n => sp_cnt_le _ _
theorem JI.nv {v : Nat} (h : JI M) (hn : NV M N v) (hv : v ≤ (rn M ff_Mod_all 0)) (hw : ∀ i, i < 64 → rn M ff_Mod_went i + 300 < 10000000) (hd : rn M ff_Mod_deflected 0 + 300 < 10000000) : JI (om_mdw M N) := by
  have h257 := h.1.ri.fNl
  refine h.mdw (fun i hi => ?_) ⟨_, hn.2.1, ?_⟩
  · rw [hn.1 i]
    have := hw i hi
    have h2 : sfa M i ≤ (rn M ff_Mod_flits 0) := sp_cnt_le _ _
    by_cases c : i < v
    · rw [if_pos c]; exact ⟨_, rfl, by omega⟩
    · rw [if_neg c]; exact ⟨_, h.1.ri.e ff_Mod_went i (n := 64) rfl hi (by decide), by omega⟩
  · have h2 : sdl M v ≤ (rn M ff_Mod_flits 0) := sp_cnt_le _ _
    omega
/-- what goes out of no node stays -/
theorem mv_w64 {i : Nat} (hi : 64 ≤ i) : ∀ (d f : Nat) (M : rf_M), (∀ j, f ≤ j → j < f + d → rn M ff_Mod_at j < 64) → om_mv d f M ff_Mod_went i = M ff_Mod_went i
  | 0, _, _, _ => rfl
  | d + 1, f, M, h => by
    have h0 := h f (by omega) (by omega)
    show om_mv d (f + 1) (om_mv1 M f) ff_Mod_went i = _
    rw [mv_w64 hi d (f + 1) (om_mv1 M f) (fun j h1 h2 => by
      have e : rn (om_mv1 M f) ff_Mod_at j = rn M ff_Mod_at j := by
        unfold om_mv1
        rw [rn_ne (fun q => absurd q.1 (by decide)), rn_ne (fun q => by omega), rn_ne (fun q => absurd q.1 (by decide))]
      rw [e]
      exact h j (by omega) (by omega))]
    unfold om_mv1
    rw [fx_up_ne (fun q => absurd q.1 (by decide)), fx_up_ne (fun q => absurd q.1 (by decide)), fx_up_ne (fun q => by omega)]
/-- other places of the flits, and other arrays -/
theorem RA.arm {F A : Nat → Nat → Option Nat} {H' : Nat → Nat} {C' : Nat → Nat → Option Nat} (h : RA s x B H C Y P m rt K L M) (hA : ∀ a, (∀ u, u < m → a ≠ B u + 18 ∧ a ≠ B u + 19) → A a = fx_ar s a) (hF : RF (fx_sarr s F A) B H' C' P m (om_mal M N)) : RA (fx_sarr s F A) x B H' C' Y P m rt K L (om_mal M N) := by
  have hin := h.sk.c.in_
  have aB : ∀ v c, v < m → c < 18 → A (B v + c) = fx_ar s (B v + c) := fun v c hv hc => hA _ (fun u hu => ⟨fun q => by have := h.sk.ap hv hu (by omega) (by omega) q; omega, fun q => by have := h.sk.ap hv hu (by omega) (by omega) q; omega⟩)
  have aX : A (x + 12) = fx_ar s (x + 12) := hA _ (fun u hu => by have := hin u hu; omega)
  have aK : ∀ a, K a → A (a + 1) = fx_ar s (a + 1) := fun a ha => hA _ (fun u hu => by have := (h.k.in_ a ha).2.2 u hu; omega)
  refine ⟨⟨h.sk.a, fun v hv => ?_, h.sk.c⟩, h.t, h.g, ⟨h.s.used, h.s.hun, h.s.uw, fun v k hv hk => ?_, h.s.went⟩, fun p hp lp => ?_, h.w, h.r, h.x, h.m, h.o, ⟨h.k.in_, h.k.fl, h.k.ln, fun a b G ha hb hG => ?_, fun p b hp hb => ?_, fun v i a b hv hi hb => ?_, h.k.sep⟩, hF, fun v hv => ?_, h.nm⟩
  · obtain ⟨a1, a2, a3, a4, a5, a6, a7, a8, a9, a10, a11, a12, a13, a14, a15, a16⟩ := h.sk.b v hv
    refine ⟨?_, a2, a3, a4, a5, a6, a7, a8, a9, a10, a11, a12, a13, a14, a15, fun j hj => ?_⟩
    · show A (x + 12) v = _
      rw [aX]; exact a1
    · show A (B v + 8) j = _
      rw [aB v 8 hv (by omega)]; exact a16 j hj
  · show A (B v + 4) k = _
    rw [aB v 4 hv (by omega)]; exact h.s.sl v k hv hk
  · have lp' : 0 < rn M ff_Mod_lengths p := by rw [rn_eq (mal_o (by decide))] at lp; exact lp
    obtain ⟨r1, r2, r3, r4, r5, r6, r7, r8, r9⟩ := h.p p hp lp'
    refine ⟨r1, r2, r3, r4, r5, r6, r7, r8, ?_⟩
    rw [rn_eq (M := M) (M' := om_mal M N) (mal_o (by decide)), sp_cnt_congr ((rn M ff_Mod_flits 0)) (fun i _ => by rw [mal_spk])]
    exact r9
  · have hG' : A (a + 1) b = some G := hG
    rw [aK a ha] at hG'
    exact h.k.ft a b G ha hb hG'
  · show A (P p + 1) b ≠ none
    rw [rn_eq (M := M) (M' := om_mal M N) (mal_o (by decide))] at hb
    rw [aK _ (h.o.kp p hp (by omega))]; exact h.k.fp p b hp hb
  · show A (a + 1) b ≠ none
    rw [rn_eq (M := M) (M' := om_mal M N) (mal_o (by decide))] at hb
    rw [aK a (h.o.kw v a hv (List.mem_of_getElem? hi))]; exact h.k.fw v i a b hv hi hb
  · obtain ⟨a1, a2, a3, a4, a5, a6⟩ := h.v v hv
    refine ⟨a1, a2, a3, a4, fun j hj => ?_, a6⟩
    show A (B v + 9) j = _
    rw [aB v 9 hv (by omega)]; exact a5 j hj
end
