section
variable {s t u : fx_S} {Q : fx_Q} {x o m c b L w n0 l0 : Nat} {xs : Nat → Int32} {A : Nat → Nat} {rt : Nat → List Nat} {B H P : Nat → Nat} {C : Nat → Nat → Option Nat} {Y : Nat → Nat → Nat} {K : Nat → Prop} {M M' : rf_M}
/-- where the reference, the script and the law's own array lie -/
def PL (s : fx_S) (x o : Nat) (A : Nat → Nat) (b L w : Nat) (xs : Nat → Int32) : Prop := x + 15 ≤ o ∧ o < fx_nx s ∧ (∀ f, rf_len f ≠ 0 → x + 15 ≤ A f ∧ A f < fx_nx s ∧ A f ≠ w) ∧ b < x ∧ x + 15 ≤ w ∧ w < fx_nx s ∧ fx_ln s b = L ∧ (∀ j, j < L → fx_ai s b j = xs j) ∧ fx_ln s w = 1
theorem PL.cf (h : PL s x o A b L w xs) (g : CF x s t) : PL t x o A b L w xs := by
  obtain ⟨h1, h2, h3, h4, h5, h6, h7, h8, h9⟩ := h
  have hn := g.2.2
  refine ⟨h1, by omega, fun f hf => ⟨(h3 f hf).1, by have := (h3 f hf).2.1; omega, (h3 f hf).2.2⟩, h4, h5, by omega, ?_, fun j hj => ?_, ?_⟩
  · rw [(g.2.1 b (by omega)).2.1]; exact h7
  · rw [(g.2.1 b (by omega)).2.2.2 (Or.inl (by omega))]; exact h8 j hj
  · rw [(g.2.1 w h6).2.1]; exact h9
theorem PL.rf (h : PL s x o A b L w xs) (g : rf_fr o A s t) : PL t x o A b L w xs := by
  obtain ⟨h1, h2, h3, h4, h5, h6, h7, h8, h9⟩ := h
  obtain ⟨g1, g2, g3, g4, g5, g6, g7, g8, g9⟩ := g
  refine ⟨h1, by rw [g6]; exact h2, fun f hf => by rw [g6]; exact h3 f hf, h4, h5, by rw [g6]; exact h6, by rw [g3]; exact h7, fun j hj => ?_, by rw [g3]; exact h9⟩
  rw [g9 b (fun f hf => by have := (h3 f hf).1; omega)]; exact h8 j hj
theorem rf_len_ge {f : Nat} (h : rf_len f ≠ 0) : 768 ≤ f := by
  cases q : Nat.ble 768 f with
  | true => exact Nat.le_of_ble_eq_true q
  | false =>
    unfold rf_len at h
    rw [q] at h
    exact absurd rfl h
theorem rf_int_ge {f : Nat} (h : rf_int f = true) : 768 ≤ f := by
  unfold rf_int at h
  simp only [Bool.and_eq_true] at h
  exact Nat.le_of_ble_eq_true h.1.1
theorem rf_ok.cf (h : rf_ok s o A M) (p : PL s x o A b L w xs) (g : CF x s t) : rf_ok t o A M := by
  obtain ⟨h1, h2, h3⟩ := h
  obtain ⟨p1, p2, p3, -⟩ := p
  refine ⟨fun f hf => ?_, fun f hf => ?_, h3⟩
  · obtain ⟨a1, a2, a3⟩ := h1 f hf
    obtain ⟨q1, q2, -⟩ := p3 f hf
    refine ⟨?_, ?_, fun i hi => ?_⟩
    · rw [(g.1 f o (rf_len_ge hf) p2).2]; exact a1
    · rw [(g.2.1 _ q2).2.1]; exact a2
    · rw [(g.2.1 _ q2).2.2.2 (Or.inr (by omega))]; exact a3 i hi
  · rw [(g.1 f o (rf_int_ge hf) p2).1]; exact h2 f hf
theorem RA.rf (h : RA s x B H C Y P m rt K (List.range ((rn M ff_Mod_notes 0))) M) (p : PL s x o A b L w xs) (g : rf_fr o A s t) : RA t x B H C Y P m rt K (List.range ((rn M ff_Mod_notes 0))) M := by
  obtain ⟨g1, g2, g3, g4, g5, g6, g7, g8, g9⟩ := g
  exact h.same g2 g3 g4 g6 (fun f a hf => g8 f a (Or.inl hf)) (fun a h1 h2 => g9 a (fun f hf => by have := (p.2.2.1 f hf).1; omega))
/-- the state between two calls -/
def WS (n0 l0 : Nat) (x o : Nat) (A : Nat → Nat) (b L w : Nat) (xs : Nat → Int32) (c : Nat) (s : fx_S) : Prop := ∃ (B H : Nat → Nat) (Y : Nat → Nat → Nat) (P : Nat → Nat) (m : Nat) (rt : Nat → List Nat) (K : Nat → Prop) (M : rf_M), RA s x B H (fun _ _ => none) Y P m rt K (List.range ((rn M ff_Mod_notes 0))) M ∧ rf_ok s o A M ∧ JI M ∧ JN M ∧ JC M c ∧ PL s x o A b L w xs ∧ fx_nx s ≤ n0 + 10 * c + 20 * m ∧ fx_sl s ≤ l0 + 60 * c + 83 * m
def RO2 (n0 l0 c : Nat) (s : fx_S) : Prop := fx_nx s ≤ n0 + 10 * (c + 1) + 1280 ∧ fx_sl s ≤ l0 + 60 * (c + 1) + 5312
theorem WS.room (h : WS n0 l0 x o A b L w xs c s) : RO2 n0 l0 c s := by
  obtain ⟨B, H, Y, P, m, rt, K, M, h1, -, -, -, -, -, h2, h3⟩ := h
  have := h1.sk.c.m64
  exact ⟨by omega, by omega⟩
theorem WS.pl (h : WS n0 l0 x o A b L w xs c s) : PL s x o A b L w xs := by
  obtain ⟨B, H, Y, P, m, rt, K, M, h1, -, -, -, -, h2, -, -⟩ := h
  exact h2
theorem WS.next (p : PL s x o A b L w xs) (g : CF x s t) (h : RA t x B H (fun _ _ => none) Y P m rt K (List.range ((rn M ff_Mod_notes 0))) M) (f : rf_fr o A t u) (r : rf_ok u o A M) (j1 : JI M) (j2 : JN M) (j3 : JC M (c + 1)) (h1 : fx_nx t ≤ n0 + 10 * (c + 1) + 20 * m) (h2 : fx_sl t ≤ l0 + 60 * (c + 1) + 83 * m) : WS n0 l0 x o A b L w xs (c + 1) u := by
  have p2 := p.cf g
  refine ⟨B, H, Y, P, m, rt, K, M, h.rf p2 f, r, j1, j2, j3, p2.rf f, ?_, ?_⟩
  · rw [f.2.2.2.2.2.1]; exact h1
  · rw [f.2.2.2.2.2.2.1]; exact h2
/-- two runs, the class's and the reference's, answer the same -/
def W2 (n0 l0 : Nat) (x o : Nat) (A : Nat → Nat) (b L w : Nat) (xs : Nat → Int32) (c : Nat) (m1 m2 : Nat) (as : List fx_V) (s : fx_S) : Prop := fx_M m1 (vR 10 (some x) :: as) s (fun r t => RO2 n0 l0 c t ∧ PL t x o A b L w xs ∧ ∃ y, r = some (vI y) ∧ fx_M m2 (vR 22 (some o) :: as) t (fun r2 u => r2 = some (vI y) ∧ WS n0 l0 x o A b L w xs (c + 1) u))
theorem ws_taken {v y : Int32} (h : WS n0 l0 x o A b L w xs c s) : W2 n0 l0 x o A b L w xs c mm_Torus_taken mm_Mod_taken [vI v, vI y] s := by
  have hr := h.room
  obtain ⟨B, H, Y, P, m, rt, K, M, h1, h2, h3, h4, h5, h6, h7, h8⟩ := h
  exact k_taken h1 h3.1 ⟨hr, h6, _, rfl, q_taken h2 h3.1.ri (fun u hu hf => ⟨rfl, WS.next h6 (CF.rf x s) (h1.th (k := 0)) hf hu h3.th h4.th h5.th (by omega) (by omega)⟩)⟩
theorem ws_count {v : Int32} (h : WS n0 l0 x o A b L w xs c s) : W2 n0 l0 x o A b L w xs c mm_Torus_count mm_Mod_count [vI v] s := by
  have hr := h.room
  obtain ⟨B, H, Y, P, m, rt, K, M, h1, h2, h3, h4, h5, h6, h7, h8⟩ := h
  exact k_tcount h1 ⟨hr, h6, _, rfl, q_count h2 (fun u hu hf => ⟨rfl, WS.next h6 (CF.rf x s) (h1.th (k := 0)) hf hu h3.th h4.th h5.th (by omega) (by omega)⟩)⟩
theorem ws_node {v y : Int32} (h : WS n0 l0 x o A b L w xs c s) : W2 n0 l0 x o A b L w xs c mm_Torus_node mm_Mod_node [vI v, vI y] s := by
  have hr := h.room
  obtain ⟨B, H, Y, P, m, rt, K, M, h1, h2, h3, h4, h5, h6, h7, h8⟩ := h
  exact k_node h1 h3.1 ⟨hr, h6, _, rfl, q_node h2 h3.1.ri (fun u hu hf => ⟨rfl, WS.next h6 (CF.rf x s) (h1.th (k := 0)) hf hu h3.th h4.th h5.th (by omega) (by omega)⟩)⟩
theorem ws_flit {v l y : Int32} (h : WS n0 l0 x o A b L w xs c s) : W2 n0 l0 x o A b L w xs c mm_Torus_flit mm_Mod_flit [vI v, vI l, vI y] s := by
  have hr := h.room
  obtain ⟨B, H, Y, P, m, rt, K, M, h1, h2, h3, h4, h5, h6, h7, h8⟩ := h
  exact k_flit h1 h3.1 ⟨hr, h6, _, rfl, q_flit h2 h3.1.ri (fun u hu hf => ⟨rfl, WS.next h6 (CF.rf x s) (h1.th (k := 0)) hf hu h3.th h4.th h5.th (by omega) (by omega)⟩)⟩
theorem ro_eq (hr : RO2 n0 l0 c s) (e1 : fx_nx t = fx_nx s) (e2 : fx_sl t = fx_sl s) : RO2 n0 l0 c t := by
  unfold RO2 at hr ⊢
  rw [e1, e2]; exact hr
theorem ws_golden {v : Int32} (h : WS n0 l0 x o A b L w xs c s) : W2 n0 l0 x o A b L w xs c mm_Torus_golden mm_Mod_golden [vI v] s := by
  have hr := h.room
  obtain ⟨B, H, Y, P, m, rt, K, M, h1, h2, h3, h4, h5, h6, h7, h8⟩ := h
  refine na_M rfl (k_golden h1 h3.1 h4 (fun t g ha e1 e2 => ⟨ro_eq hr e1 e2, h6.cf g, _, rfl, q_golden (h2.cf h6 g) h3.1.ri h3.1.all0 (fun u hu hf => ⟨rfl, WS.next h6 g (ha.th (k := 0)) hf hu h3.th h4.th h5.th (by omega) (by omega)⟩)⟩))
theorem ws_distance {v y : Int32} (h : WS n0 l0 x o A b L w xs c s) : W2 n0 l0 x o A b L w xs c mm_Torus_distance mm_Mod_distance [vI v, vI y] s := by
  have hr := h.room
  obtain ⟨B, H, Y, P, m, rt, K, M, h1, h2, h3, h4, h5, h6, h7, h8⟩ := h
  refine na_M rfl (k_distance h1 h3.1 h4 (fun t g ha e1 e2 => ⟨ro_eq hr e1 e2, h6.cf g, _, rfl, q_distance (h2.cf h6 g) h3.1.ri (fun u hu hf => ⟨rfl, WS.next h6 g (ha.th (k := 0)) hf hu h3.th h4.th h5.th (by omega) (by omega)⟩)⟩))
theorem ws_cycle (hc : c < 2000) (h : WS n0 l0 x o A b L w xs c s) : W2 n0 l0 x o A b L w xs c mm_Torus_cycle mm_Mod_cycle [] s := by
  have hr := h.room
  obtain ⟨B, H, Y, P, m, rt, K, M, h1, h2, h3, h4, h5, h6, h7, h8⟩ := h
  obtain ⟨-, -, -, -, -, -, -, -, -, -, -, -, c1, c2, c3⟩ := cyc_ok h3 h4 h5 hc
  refine na_M rfl (k_cycle h1 h3 h4 h5 hc (fun t H' P' rt' g ha e1 e2 => ⟨ro_eq hr e1 e2, h6.cf g, _, rfl, q_cycle (h2.cf h6 g) h3 h4 h5 hc (fun u hu hf => ⟨rfl, WS.next h6 g ha hf hu c1 c2 c3 (by omega) (by omega)⟩)⟩))
end
