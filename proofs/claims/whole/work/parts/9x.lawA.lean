/-! THE LAW'S OWN FRAME: rows -/
def fx_G (p : Program) (l : Launch) (e : Env) (R : Room) (u : State) (m : MethodId) (args : Array Value) (below : List Frame) (meth : Method) (c : Code) (Qf : State → Prop) (D : va_G) (dA : Nat → ClassId) (scr : Cell) (sz0 nS lS : Nat) (mi pc : Nat) (ls : fx_L) (st : List fx_V) (s : fx_S) : Prop := ls.length = fx_ml mi → fx_inv s ls st → fx_Sd p l e R u m args below meth c Qf D dA scr sz0 nS lS pc ls st s
section
variable {p : Program} {l : Launch} {e : Env} {R : Room} {u : State} {m : MethodId} {args : Array Value} {below : List Frame} {meth : Method} {c : Code} {Qf : State → Prop} {D : va_G} {dA : Nat → ClassId} {scr : Cell} {sz0 nS lS : Nat} {mi pc np r1 r2 : Nat} {i : Instr} {ls : fx_L} {st : List fx_V} {s : fx_S}
theorem gg_j (I : fx_in mi p R u m args meth c D dA scr) (ht : fx_tab mi pc = some (i, np, r1, r2)) {C : Prop} {pc' : Nat} {ls' : fx_L} {st' : List fx_V} {s' : fx_S} (ha : fx_act mi pc i np r1 r2 ls st s = fx_J C pc' ls' st' s') (hC : C) (hn : fx_nx s' - nS ≤ R.cells) (hs : fx_sl s' - lS ≤ R.slots) (k : fx_G p l e R u m args below meth c Qf D dA scr sz0 nS lS mi pc' ls' st' s') : fx_G p l e R u m args below meth c Qf D dA scr sz0 nS lS mi pc ls st s := by
  intro hl hv
  obtain ⟨w, hok, -, -⟩ := fx_entry ht
  simp only [fx_okE, Bool.and_eq_true, decide_eq_true_eq] at hok
  have hk := fx_keeps (mi := mi) (pc := pc) (np := np) hok.1.1 hv
  rw [ha] at hk
  obtain ⟨g1, g2, g3⟩ := hk hC
  exact fx_stepJ I ht hl hv ha hC hn hs (k (g3.trans hl) g1)
theorem gg_b (I : fx_in mi p R u m args meth c D dA scr) (ht : fx_tab mi pc = some (i, np, r1, r2)) {C : Prop} {p1 p2 : Nat} {ls' : fx_L} {st' : List fx_V} {s' : fx_S} (ha : fx_act mi pc i np r1 r2 ls st s = fx_B C p1 p2 ls' st' s') (k1 : C → fx_G p l e R u m args below meth c Qf D dA scr sz0 nS lS mi p1 ls' st' s') (k2 : ¬ C → fx_G p l e R u m args below meth c Qf D dA scr sz0 nS lS mi p2 ls' st' s') : fx_G p l e R u m args below meth c Qf D dA scr sz0 nS lS mi pc ls st s := by
  intro hl hv
  obtain ⟨w, hok, -, -⟩ := fx_entry ht
  simp only [fx_okE, Bool.and_eq_true, decide_eq_true_eq] at hok
  have hk := fx_keeps (mi := mi) (pc := pc) (np := np) hok.1.1 hv
  rw [ha] at hk
  obtain ⟨e1, e2, e3, e4, e5, e6⟩ := hk
  subst e1; subst e3
  exact fx_stepB I ht ha (fun q => k1 q hl ⟨hv.1, hv.2.1, hv.2.2.1, e5⟩) (fun q => k2 q hl ⟨hv.1, hv.2.1, hv.2.2.1, e5⟩)
/-- a call of a method that the pure machine runs -/
theorem gg_k (I : fx_in mi p R u m args meth c D dA scr) (ht : fx_tab mi pc = some (i, np, r1, r2)) {m2 pc' : Nat} {as : List fx_V} {ls' : fx_L} {st' : List fx_V} {s' : fx_S} (ha : fx_act mi pc i np r1 r2 ls st s = fx_K m2 as pc' ls' st' s') (hm : m2 < 132) (hT : m2 ≠ mm_Torus_take) (hlen : as.length ≤ fx_ml m2) (h : fx_M m2 as s' (fun r s1 => fx_nx s1 - nS ≤ R.cells ∧ fx_sl s1 - lS ≤ R.slots ∧ fx_G p l e R u m args below meth c Qf D dA scr sz0 nS lS mi pc' ls' (r.toList ++ st') s1)) : fx_G p l e R u m args below meth c Qf D dA scr sz0 nS lS mi pc ls st s := by
  intro hl hv
  obtain ⟨w, hok, -, -⟩ := fx_entry ht
  simp only [fx_okE, Bool.and_eq_true, decide_eq_true_eq] at hok
  have hk := fx_keeps (mi := mi) (pc := pc) (np := np) hok.1.1 hv
  rw [ha] at hk
  obtain ⟨e1, e2, xs, e3, e4⟩ := hk
  subst e1; subst e2
  obtain ⟨n, h⟩ := h
  obtain ⟨q1, s1, ⟨b1, b2, h1⟩, h2⟩ := fx_one _ _ _ _ _ _ _ h
  have hts2 := hv.2.2.2
  rw [e4] at hts2
  obtain ⟨g1, g2⟩ := fx_ts_rev hts2
  rw [← e3] at g1
  obtain ⟨f1, f2, f3, f4⟩ := fx_pres _ _ _ _ _ _ _ _ h2 ⟨hv.1, hv.2.1, fx_tl_pad g1, fun v hv => by cases hv⟩
  have hinv1 : fx_inv s1 ls' (q1.toList ++ st') := ⟨f1, f2, hv.2.2.1.ext f3, fx_ts_res f4 (g2.ext f3)⟩
  obtain ⟨-, -, -, -, -, -, hnol, -⟩ := fx_K_inv ha
  have hM := fx_met (scr := scr) (sz0 := sz0) (l := l) (D := D) (dA := dA) (fx_main l D dA scr sz0 n) hm (Or.inl hT) h2 hv.1 hv.2.1 g1 hlen hnol
  exact fx_stepK I ht hl hv ha hm hM f3 b1 b2 (h1 hl hinv1)
theorem gg_t {x y : Int32} (h : x = y) (k : fx_G p l e R u m args below meth c Qf D dA scr sz0 nS lS mi pc ls (.inl y :: st) s) : fx_G p l e R u m args below meth c Qf D dA scr sz0 nS lS mi pc ls (.inl x :: st) s := by rw [h]; exact k
end
