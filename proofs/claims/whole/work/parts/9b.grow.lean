/-! THE HEAP GROWS -/
/-- what was there is there -/
def GR (s t : fx_S) : Prop := (∀ f a, a < fx_nx s → fx_fi t f a = fx_fi s f a) ∧ (∀ f a, a < fx_nx s → fx_fr t f a = fx_fr s f a) ∧ (∀ a, a < fx_nx s → fx_ln t a = fx_ln s a) ∧ (∀ a, a < fx_nx s → fx_ai t a = fx_ai s a) ∧ (∀ a, a < fx_nx s → fx_ar t a = fx_ar s a) ∧ fx_nx s ≤ fx_nx t
section
variable {s t : fx_S} {f a : Nat}
theorem GR.fi (g : GR s t) (h : a < fx_nx s) : fx_fi t f a = fx_fi s f a := g.1 f a h
theorem GR.fr (g : GR s t) (h : a < fx_nx s) : fx_fr t f a = fx_fr s f a := g.2.1 f a h
theorem GR.ln (g : GR s t) (h : a < fx_nx s) : fx_ln t a = fx_ln s a := g.2.2.1 a h
theorem GR.ai (g : GR s t) (h : a < fx_nx s) : fx_ai t a = fx_ai s a := g.2.2.2.1 a h
theorem GR.ar (g : GR s t) (h : a < fx_nx s) : fx_ar t a = fx_ar s a := g.2.2.2.2.1 a h
theorem GR.nx (g : GR s t) : fx_nx s ≤ fx_nx t := g.2.2.2.2.2
theorem GR.rf (s : fx_S) : GR s s := ⟨fun _ _ _ => rfl, fun _ _ _ => rfl, fun _ _ => rfl, fun _ _ => rfl, fun _ _ => rfl, Nat.le_refl _⟩
theorem GR.tr {u : fx_S} (g : GR s t) (h : GR t u) : GR s u := ⟨fun _ _ q => (h.fi (Nat.lt_of_lt_of_le q g.nx)).trans (g.fi q), fun _ _ q => (h.fr (Nat.lt_of_lt_of_le q g.nx)).trans (g.fr q), fun _ q => (h.ln (Nat.lt_of_lt_of_le q g.nx)).trans (g.ln q), fun _ q => (h.ai (Nat.lt_of_lt_of_le q g.nx)).trans (g.ai q), fun _ q => (h.ar (Nat.lt_of_lt_of_le q g.nx)).trans (g.ar q), Nat.le_trans g.nx h.nx⟩
theorem GR.new {c n : Nat} : GR s (fx_new s c n) := by
  refine ⟨fun f a h => ?_, fun f a h => ?_, fun _ _ => rfl, fun _ _ => rfl, fun _ _ => rfl, Nat.le_succ _⟩
  · show fx_col (fx_fi s) (fx_nx s) 0 f a = _
    unfold fx_col
    rw [if_neg (by omega)]
  · show fx_col (fx_fr s) (fx_nx s) none f a = _
    unfold fx_col
    rw [if_neg (by omega)]
theorem GR.newa {c n : Nat} : GR s (fx_newa s c n) := by
  refine ⟨fun _ _ _ => rfl, fun _ _ _ => rfl, fun a h => ?_, fun a h => ?_, fun a h => ?_, Nat.le_succ _⟩
  · show fx_at (fx_ln s) (fx_nx s) n a = _
    unfold fx_at
    rw [if_neg (by omega)]
  · show fx_at (fx_ai s) (fx_nx s) (fun _ => 0) a = _
    unfold fx_at
    rw [if_neg (by omega)]
  · show fx_at (fx_ar s) (fx_nx s) (fun _ => none) a = _
    unfold fx_at
    rw [if_neg (by omega)]
theorem GR.sfi {s0 : fx_S} {x : Int32} (g : GR s0 s) (h : fx_nx s0 ≤ a) : GR s0 (fx_sfi s f a x) := ⟨fun _ _ q => by rw [fi_ne (fun e => by omega)]; exact g.fi q, g.2.1, g.2.2.1, g.2.2.2.1, g.2.2.2.2.1, g.nx⟩
theorem GR.sfr {s0 : fx_S} {x : Option Nat} (g : GR s0 s) (h : fx_nx s0 ≤ a) : GR s0 (fx_sfr s f a x) := ⟨g.1, fun _ _ q => by rw [fr_ne (fun e => by omega)]; exact g.fr q, g.2.2.1, g.2.2.2.1, g.2.2.2.2.1, g.nx⟩
theorem GR.sar {s0 : fx_S} {i : Nat} {x : Option Nat} (g : GR s0 s) (h : fx_nx s0 ≤ a) : GR s0 (fx_sar s a i x) := ⟨g.1, g.2.1, g.2.2.1, g.2.2.2.1, fun b q => by
  have e : fx_ar (fx_sar s a i x) b = fx_ar s b := fx_up_off _ (by omega)
  rw [e]; exact g.ar q, g.nx⟩
theorem CF.new {x : Nat} {s0 : fx_S} {c n : Nat} (h : CF x s0 s) : CF x s0 (fx_new s c n) := h.tr ⟨fun f a _ q => ⟨GR.new.fi q, GR.new.fr q⟩, fun a q => ⟨by
  show fx_at (fx_kd s) (fx_nx s) c a = _
  unfold fx_at
  rw [if_neg (by omega)], rfl, rfl, fun _ => rfl⟩, Nat.le_succ _⟩
theorem CF.newa {x : Nat} {s0 : fx_S} {c n : Nat} (h : CF x s0 s) : CF x s0 (fx_newa s c n) := h.tr ⟨fun f a _ q => ⟨rfl, rfl⟩, fun a q => ⟨by
  show fx_at (fx_kd s) (fx_nx s) c a = _
  unfold fx_at
  rw [if_neg (by omega)], GR.newa.ln q, by
  show fx_at (fx_al s) (fx_nx s) (fun _ => 0) a = _
  unfold fx_at
  rw [if_neg (by omega)], fun _ => GR.newa.ai q⟩, Nat.le_succ _⟩
end
section
variable {s t : fx_S} {Q : fx_Q} {x m : Nat} {B H P : Nat → Nat} {C : Nat → Nat → Option Nat} {Y : Nat → Nat → Nat} {rt : Nat → List Nat} {K : Nat → Prop} {L : List Nat} {M N M6 : rf_M} {lv : Nat → Prop}
theorem SK1.grow (h : SK1 s x) (g : GR s t) (hx : x + 15 ≤ fx_nx s) : SK1 t x := by
  obtain ⟨a1, a2, a3, a4, a5, a6, a7, a8, a9, a10, a11, a12, a13, a14, a15, a16, a17, a18, a19, a20, a21, a22, a23, a24, a25⟩ := h
  unfold SK1
  rw [g.fr (by omega), g.fr (by omega), g.fr (by omega), g.fr (by omega), g.fr (by omega), g.fr (by omega), g.fr (by omega), g.fr (by omega), g.fr (by omega), g.fr (by omega), g.fr (by omega), g.fr (by omega), g.fr (by omega), g.fr (by omega), g.fr (by omega), g.fr (by omega), g.ln (by omega), g.ln (by omega), g.ln (by omega), g.ln (by omega), g.ln (by omega), g.ln (by omega), g.ln (by omega), g.ln (by omega), g.ln (by omega)]
  exact ⟨a1, a2, a3, a4, a5, a6, a7, a8, a9, a10, a11, a12, a13, a14, a15, a16, a17, a18, a19, a20, a21, a22, a23, a24, a25⟩
theorem SK2.grow {v b : Nat} (h : SK2 s x v b) (g : GR s t) (hx : x + 15 ≤ fx_nx s) (hb : b + 20 ≤ fx_nx s) : SK2 t x v b := by
  obtain ⟨a1, a2, a3, a4, a5, a6, a7, a8, a9, a10, a11, a12, a13, a14, a15, a16⟩ := h
  refine ⟨by rw [g.ar (by omega)]; exact a1, by rw [g.fi (by omega)]; exact a2, by rw [g.fr (by omega)]; exact a3, by rw [g.fr (by omega)]; exact a4, by rw [g.fr (by omega)]; exact a5, by rw [g.fr (by omega)]; exact a6, by rw [g.fr (by omega)]; exact a7, by rw [g.fr (by omega)]; exact a8, by rw [g.fr (by omega)]; exact a9, by rw [g.fr (by omega)]; exact a10, by rw [g.ln (by omega)]; exact a11, by rw [g.ln (by omega)]; exact a12, by rw [g.ln (by omega)]; exact a13, by rw [g.ln (by omega)]; exact a14, by rw [g.ln (by omega)]; exact a15, fun i hi => by rw [g.ar (by omega)]; exact a16 i hi⟩
theorem SK.grow (h : SK s x B m) (g : GR s t) : SK t x B m := by
  have hx := h.c.x15
  have hn := g.nx
  refine ⟨h.a.grow g hx, fun v hv => (h.b v hv).grow g hx (h.c.in_ v hv).2, h.c.m64, by rw [g.fi (by omega)]; exact h.c.made, fun v hv => ⟨(h.c.in_ v hv).1, by have := h.c.in_ v hv; omega⟩, h.c.ord, by omega⟩
theorem RT.grow (h : RT s x M) (g : GR s t) (hx : x + 15 ≤ fx_nx s) : RT t x M := by
  unfold RT
  rw [g.fi (by omega), g.fi (by omega), g.fi (by omega), g.fi (by omega), g.fi (by omega), g.fi (by omega), g.fi (by omega), g.fi (by omega), g.fi (by omega)]
  exact h
theorem RG.grow (h : RG s x M) (g : GR s t) (hx : x + 15 ≤ fx_nx s) : RG t x M := by
  have e1 : fx_fi t ff_Grid_size (x + 3) = fx_fi s ff_Grid_size (x + 3) := g.fi (by omega)
  have e2 : fx_fi t ff_Grid_greatest (x + 3) = fx_fi s ff_Grid_greatest (x + 3) := g.fi (by omega)
  have e4 : fx_ai t (x + 4) = fx_ai s (x + 4) := g.ai (by omega)
  have e5 : fx_ai t (x + 5) = fx_ai s (x + 5) := g.ai (by omega)
  have e6 : fx_ai t (x + 6) = fx_ai s (x + 6) := g.ai (by omega)
  have e7 : fx_ai t (x + 7) = fx_ai s (x + 7) := g.ai (by omega)
  unfold RG RGa RGb CD at h ⊢
  rw [e1, e2, e4, e5, e6, e7]
  exact h
theorem RS.grow (h : RS s B P m M) (g : GR s t) (hb : ∀ v, v < m → B v + 20 ≤ fx_nx s) : RS t B P m M := by
  refine ⟨fun v hv => ?_, fun v hv => ?_, fun v hv => ?_, fun v k hv hk => ?_, fun v hv => ?_⟩ <;> have := hb v hv
  · rw [g.fi (by omega)]; exact h.used v hv
  · rw [g.fi (by omega)]; exact h.hun v hv
  · rw [g.fr (by omega)]; exact h.uw v hv
  · rw [g.ar (by omega)]; exact h.sl v k hv hk
  · rw [g.fi (by omega)]; exact h.went v hv
theorem RP1.grow {a p : Nat} (h : RP1 s a p M) (g : GR s t) (ha : a < fx_nx s) : RP1 t a p M := by
  unfold RP1
  rw [g.fi ha, g.fi ha, g.fi ha, g.fi ha, g.fi ha, g.fi ha, g.fi ha, g.fi ha, g.fi ha]
  exact h
theorem RW1.grow {a v i : Nat} (h : RW1 s a v i M) (g : GR s t) (ha : a < fx_nx s) : RW1 t a v i M := by
  unfold RW1
  rw [g.fi ha, g.fi ha, g.fi ha, g.fi ha, g.fi ha, g.fi ha, g.fi ha, g.fi ha, g.fi ha]
  exact h
theorem RL.grow {r : Nat} {l : List Nat} (h : RL s r l) (g : GR s t) (hr : r < fx_nx s) (hl : ∀ a, a ∈ l → a < fx_nx s) : RL t r l := by
  refine ⟨by rw [g.fr hr]; exact h.1, by rw [g.fr hr]; exact h.2.1, by rw [g.fi hr]; exact h.2.2.1, h.2.2.2.frame (fun a ha => g.fr (hl a ha))⟩
theorem RV1.grow {b v : Nat} {Z : Nat → Nat} (h : RV1 s b Z P v M) (g : GR s t) (hb : b + 20 ≤ fx_nx s) (h5 : rn M ff_Mod_readySize v < 5) : RV1 t b Z P v M := by
  have hy := h.yin
  refine ⟨by rw [g.fi (by omega)]; exact h.cnt, fun i hi => by rw [g.fr (by omega)]; exact h.pk i hi, fun i hi hw => by rw [g.fi (by omega)]; exact h.pa i hi hw, fun i hi hw => by rw [g.fi (by omega)]; exact h.pj i hi hw, fun i hi => by rw [g.ar (by omega)]; exact h.yr i hi, by rw [g.fr (by omega)]; exact h.yl, h.yi, h.yin, fun i hi => ?_, fun i hi => ?_, fun i hi => ?_, fun i hi => ?_, ?_⟩
  · have := hy i (by omega)
    rw [g.fi (by omega)]; exact h.rs i hi
  · have := hy i (by omega)
    rw [g.fi (by omega)]; exact h.rl i hi
  · have := hy i (by omega)
    rw [g.fi (by omega)]; exact h.rt i hi
  · have := hy i (by omega)
    rw [g.fi (by omega)]; exact h.rg i hi
  · obtain ⟨z, z1, z2, z3⟩ := h.hh
    have := hy 4 (by omega)
    refine ⟨z, by rw [g.fi (by omega)]; exact z1, z2, fun q => ?_⟩
    rw [g.fi (by omega), g.fi (by omega), g.fi (by omega)]
    exact z3 q
/-- RA where the heap grows -/
theorem RA.grow (h : RA s x B H C Y P m rt K L M) (g : GR s t) (hr : ∀ r, ISR x B m r → ∀ a, a ∈ rt r → a < fx_nx s) (hf : ∀ f, f < (rn M ff_Mod_flits 0) → K (P (spk M f)) ∧ rn M ff_Mod_number f < 8) (h5 : ∀ v, v < m → rn M ff_Mod_readySize v < 5) : RA t x B H C Y P m rt K L M := by
  have hx := h.sk.c.x15
  have hin := h.sk.c.in_
  have hb : ∀ v, v < m → B v + 20 ≤ fx_nx s := fun v hv => (hin v hv).2
  have hn := g.nx
  have hK : ∀ a, K a → a + 1 < fx_nx s := fun a ha => (h.k.in_ a ha).2.1
  have eK : ∀ a b, K a → fx_ar t (a + 1) b = fx_ar s (a + 1) b := fun a b ha => by rw [g.ar (hK a ha)]
  have hm : ∀ k, k ∈ L → P (rn M ff_Mod_noteSlot k) < fx_nx s := fun k hk => hr (x + 13) (Or.inl rfl) _ (by rw [h.m.row]; exact List.mem_map.mpr ⟨k, hk, rfl⟩)
  refine ⟨h.sk.grow g, h.t.grow g hx, h.g.grow g hx, h.s.grow g hb, fun p hp lp => (h.p p hp lp).grow g (by have := hK _ (h.o.kp p hp lp); omega), fun v hv => ⟨(h.w v hv).1, fun i a hi => ((h.w v hv).2 i a hi).grow g (by have := hK _ (h.o.kw v a hv (List.mem_of_getElem? hi)); omega)⟩, ⟨fun r hq => (h.r.row r hq).grow g ?_ (hr r hq), h.r.nd, h.r.dj⟩, h.x, ⟨h.m.row, fun k hk => by rw [g.fi (hm k hk)]; exact h.m.dn k hk, fun k hk => by rw [g.fi (hm k hk)]; exact h.m.du k hk⟩, h.o, ⟨fun a ha => ⟨(h.k.in_ a ha).1, by have := hK a ha; omega, (h.k.in_ a ha).2.2⟩, fun a ha => by rw [g.fr (by have := hK a ha; omega)]; exact h.k.fl a ha, fun a ha => by rw [g.ln (hK a ha)]; exact h.k.ln a ha, fun a b F ha hb hF => ?_, fun p b hp hb => ?_, fun v i a b hv hi hb => ?_, h.k.sep⟩, ⟨h.f.h1, fun v hv => by rw [g.fr (by have := hb v hv; omega)]; exact h.f.here v hv, fun v hv => by rw [g.fr (by have := hb v hv; omega)]; exact h.f.com v hv, fun v l hv hl => ?_, fun f F hq hF => ?_, fun f F hq hF => ?_, fun v l hv hl => ?_⟩, fun v hv => (h.v v hv).grow g (hb v hv) (h5 v hv), h.nm⟩
  · rcases hq with e | e | ⟨v, hv, e⟩
    · omega
    · omega
    · have := hb v hv
      rcases e with e | e | e <;> omega
  · rw [eK a b ha] at hF
    obtain ⟨f1, f2, f3⟩ := h.k.ft a b F ha hb hF
    exact ⟨by rw [g.fr f3]; exact f1, by rw [g.fi f3]; exact f2, by omega⟩
  · rw [eK _ b (h.o.kp p hp (by omega))]; exact h.k.fp p b hp hb
  · rw [eK a b (h.o.kw v a hv (List.mem_of_getElem? hi))]; exact h.k.fw v i a b hv hi hb
  · have := hb v hv
    have hh := h.f.h1 v hv
    rw [g.ar (by omega), h.f.fl v l hv hl]
    cases hs : sol M v l with
    | none => rw [ob_none, ob_none]
    | some f => rw [ob_some, ob_some, eK _ _ (hf f (sol_some hs).1).1]
  · rw [eK _ _ (hf f hq).1] at hF
    rw [g.fi (h.k.ft _ _ F (hf f hq).1 (hf f hq).2 hF).2.2]
    exact h.f.ent f F hq hF
  · rw [eK _ _ (hf f hq).1] at hF
    rw [g.fi (h.k.ft _ _ F (hf f hq).1 (hf f hq).2 hF).2.2]
    exact h.f.att f F hq hF
  · have := hb v hv
    have hh := h.f.h1 v hv
    rw [g.ar (by omega)]
    exact h.f.cm v l hv hl
/-- what is in the rows is known -/
theorem RA.rows (h : RA s x B H C Y P m rt K L M) (hJ : JV M lv) (hL : ∀ k, k ∈ L → lv k) : ∀ r, ISR x B m r → ∀ a, a ∈ rt r → K a := by
  have h64 := hJ.all64
  intro q hq a hin
  rcases hq with e | e | ⟨v, hv, e⟩
  · rw [e, h.m.row] at hin
    obtain ⟨k, k1, k2⟩ := List.mem_map.mp hin
    rw [← k2]
    exact h.o.kp _ (hJ.nSl (hL k k1)) (hJ.j10 k (hL k k1)).2.1
  · rw [e] at hin
    exact h.o.ks a hin
  · by_cases hvA : v < (rn M ff_Mod_all 0)
    · rcases e with e | e | e
      · rw [e] at hin
        exact h.o.kw v a hv hin
      · rw [e, h.x.ag v hv hvA] at hin
        obtain ⟨i, i1, i2⟩ := List.mem_map.mp hin
        have i1' := List.mem_range.mp i1
        have h9 := hJ.ri.aNl (v := v) (by omega)
        rw [← i2]
        exact h.o.kp _ (hJ.ri.aRl (by omega)) (hJ.j11 v i hvA i1').2.1
      · rw [e, h.x.ak v hv hvA] at hin
        obtain ⟨i, i1, i2⟩ := List.mem_map.mp hin
        have i1' := List.mem_range.mp i1
        rw [← i2]
        exact h.o.kp _ (hJ.rRl hvA i1') (hJ.j9 v i hvA i1').1
    · obtain ⟨z1, z2⟩ := h.x.z v hv (by omega)
      rcases e with e | e | e
      · rw [e] at hin
        exact h.o.kw v a hv hin
      · rw [e, z1] at hin; cases hin
      · rw [e, z2] at hin; cases hin
theorem RA.growJ (h : RA s x B H C Y P m rt K L M) (hJ : JV M lv) (hL : ∀ k, k ∈ L → lv k) (g : GR s t) : RA t x B H C Y P m rt K L M := by
  have h257 := hJ.ri.fNl
  refine h.grow g (fun r hr a ha => by have := (h.k.in_ a (h.rows hJ hL r hr a ha)).2.1; omega) (fun f hf => ⟨h.o.kp _ (hJ.j2 f hf).2.2.1 (hJ.j2 f hf).1, ?_⟩) (fun v hv => hJ.ri.yNl (by have := h.sk.c.m64; omega))
  exact hJ.ri.l ff_Mod_number f 8 (n := 300) rfl (by omega) rfl (by omega)
end
