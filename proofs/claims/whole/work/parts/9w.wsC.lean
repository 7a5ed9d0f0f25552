section
variable {s t u : fx_S} {Q : fx_Q} {x o m c b L w n0 l0 : Nat} {xs : Nat → Int32} {A : Nat → Nat} {M M' : rf_M}
/-- both are made -/
theorem ws_init (hx : fx_nx s = x) (hb : b < x) (hL : fx_ln s b = L) (hxs : ∀ j, j < L → fx_ai s b j = xs j) : fx_M mm_Torus_init [vR 10 (some x)] (fx_new s 10 16) (fun r t => r = none ∧ RO2 (fx_nx s + 60) (fx_sl s + 54500) 0 t ∧ x < fx_nx t ∧ fx_nx t + 50 ≤ fx_nx s + 1400 ∧ fx_M mm_Mod_init [vR 22 (some (fx_nx t))] (fx_new t 22 51) (fun r2 u => r2 = none ∧ RO2 (fx_nx s + 60) (fx_sl s + 54500) 0 u ∧ RO2 (fx_nx s + 60) (fx_sl s + 54500) 0 (fx_newa u 72 1) ∧ ∃ A, WS (fx_nx s + 60) (fx_sl s + 54500) x (fx_nx t) A b L (fx_nx u) xs 0 (fx_newa u 72 1))) := by
  rw [nwo_eq hx]
  refine k_torusI hx (fun t B H Y m rt hE hm hz g e1 e2 => ?_)
  have m64 := hE.1.c.m64
  have x15 := hE.1.c.x15
  refine ⟨rfl, ⟨by omega, by omega⟩, by omega, by omega, ?_⟩
  refine q_init (o := fx_nx t) rfl (fun f => if_pos rfl) (fun u A M' j hM hR hA hf => ?_)
  obtain ⟨f1, f2, f3⟩ := hf
  have f1' : fx_nx u = fx_nx t + 1 + 38 := f1
  have f2' : fx_sl u = fx_sl t + 51 + 49540 := f2
  obtain ⟨z, j1, j2, j3⟩ := rst_ok hM (by omega) (by omega)
  have ha := RZ.ra (P := fun _ => 0) hE hz z (by omega) hm
  have eN : (rn M' ff_Mod_notes 0) = 0 := rn_of z.2.2.2.2.2.2.2.2.2.2.1 (by omega)
  have eL : List.range ((rn M' ff_Mod_notes 0)) = [] := by rw [eN]; rfl
  rw [← eL] at ha
  have g1 : GR t (fx_new t 22 51) := GR.new
  have g2 : GR t (fx_newa u 72 1) := by
    have hq : ∀ a, a < fx_nx t → a < fx_nx (fx_new t 22 51) := fun a h => Nat.lt_succ_of_lt h
    have gn : GR u (fx_newa u 72 1) := GR.newa
    have lt : ∀ a, a < fx_nx t → a < fx_nx u := fun a h => by omega
    refine ⟨fun f a h => ?_, fun f a h => ?_, fun a h => ?_, fun a h => ?_, fun a h => ?_, ?_⟩
    · rw [gn.fi (lt a h), ((f3 a (hq a h)).2.2.2.2.2 f (Or.inr (by omega))).1, g1.fi h]
    · rw [gn.fr (lt a h), ((f3 a (hq a h)).2.2.2.2.2 f (Or.inr (by omega))).2, g1.fr h]
    · rw [gn.ln (lt a h), (f3 a (hq a h)).2.1, g1.ln h]
    · rw [gn.ai (lt a h), (f3 a (hq a h)).2.2.1, g1.ai h]
    · rw [gn.ar (lt a h), (f3 a (hq a h)).2.2.2.1, g1.ar h]
    · show fx_nx t ≤ fx_nx u + 1
      omega
  have hra := ha.growJ j1.1 (fun k hk => List.mem_range.mp hk) g2
  have rf2 : rf_ok (fx_newa u 72 1) (fx_nx t) A M' := by
    obtain ⟨r1, r2, r3⟩ := hR
    have gn : GR u (fx_newa u 72 1) := GR.newa
    refine ⟨fun f hf => ?_, r2, r3⟩
    obtain ⟨q1, q2, q3⟩ := r1 f hf
    obtain ⟨p1, p2⟩ := hA f hf
    exact ⟨q1, by rw [gn.ln p2]; exact q2, fun i hi => by rw [gn.ai p2]; exact q3 i hi⟩
  have bc := g.2.1 b (by omega)
  refine ⟨rfl, ⟨by omega, by omega⟩, ⟨by show fx_nx u + 1 ≤ _; omega, by show fx_sl u + 1 ≤ _; omega⟩, A, B, H, Y, _, m, rt, _, M', hra, rf2, j1, j2, j3 0, ⟨by omega, by show fx_nx t < fx_nx u + 1; omega, fun f hf => ?_, hb, by omega, by show fx_nx u < fx_nx u + 1; omega, ?_, fun j hj => ?_, ?_⟩, by show fx_nx u + 1 ≤ _; omega, by show fx_sl u + 1 ≤ _; omega⟩
  · obtain ⟨p1, p2⟩ := hA f hf
    have p1' : fx_nx t + 1 ≤ A f := p1
    exact ⟨by omega, by show A f < fx_nx u + 1; omega, by omega⟩
  · rw [g2.ln (by omega), bc.2.1]; exact hL
  · rw [g2.ai (by omega), bc.2.2.2 (Or.inl (by omega))]; exact hxs j hj
  · exact if_pos rfl
end
