/-! WHERE A METHOD STANDS -/
def fx_val : fx_V → Value
  | .inl x => .int x
  | .inr (.inl (_, o)) => va_rf o
  | .inr (.inr x) => .long x
def fx_pairs : Nat → fx_L → List (Nat × Value)
  | _, [] => []
  | k, none :: l => fx_pairs (k + 1) l
  | k, some v :: l => (k, fx_val v) :: fx_pairs (k + 1) l
theorem fx_pairs_mem : ∀ (ls : fx_L) (k : Nat) (q : Nat × Value), q ∈ fx_pairs k ls ↔ ∃ i v, q = (k + i, fx_val v) ∧ fx_get ls i = some v
  | [], k, q => by simp [fx_pairs, fx_get]
  | none :: l, k, q => by
    simp only [fx_pairs]
    rw [fx_pairs_mem l (k + 1) q]
    constructor
    · rintro ⟨i, v, h1, h2⟩
      exact ⟨i + 1, v, by rw [h1]; congr 1; omega, by simpa [fx_get] using h2⟩
    · rintro ⟨i, v, h1, h2⟩
      cases i with
      | zero => simp [fx_get] at h2
      | succ i => exact ⟨i, v, by rw [h1]; congr 1; omega, by simpa [fx_get] using h2⟩
  | some w :: l, k, q => by
    simp only [fx_pairs, List.mem_cons]
    rw [fx_pairs_mem l (k + 1) q]
    constructor
    · rintro (h | ⟨i, v, h1, h2⟩)
      · exact ⟨0, w, by rw [h]; rfl, by simp [fx_get]⟩
      · exact ⟨i + 1, v, by rw [h1]; congr 1; omega, by simpa [fx_get] using h2⟩
    · rintro ⟨i, v, h1, h2⟩
      cases i with
      | zero => simp [fx_get] at h2; subst h2; exact Or.inl h1
      | succ i => exact Or.inr ⟨i, v, by rw [h1]; congr 1; omega, by simpa [fx_get] using h2⟩
/-- the locals: none of them a long -/
def fx_lo (ls : fx_L) (LS : Array Slot) : Prop := lv_has LS ls.length (fx_pairs 0 ls) ∧ ∀ i v, fx_get ls i = some v → (fx_val v).category = 1
theorem fx_lo.at {ls : fx_L} {LS : Array Slot} (h : fx_lo ls LS) {i : Nat} {v : fx_V} (hv : fx_get ls i = some v) : LS[i]? = some (.val (fx_val v)) := h.1.2.2 (i, fx_val v) ((fx_pairs_mem ls 0 _).mpr ⟨i, v, by simp, hv⟩)
theorem fx_get_set_self : ∀ (ls : fx_L) (i : Nat) (v : fx_V), i < ls.length → fx_get (fx_set ls i v) i = some v
  | [], i, v, h => by simp at h
  | x :: l, 0, v, h => rfl
  | x :: l, i + 1, v, h => by simpa [fx_set, fx_get] using fx_get_set_self l i v (by simpa using h)
theorem fx_get_set_ne : ∀ (ls : fx_L) (i j : Nat) (v : fx_V), i ≠ j → fx_get (fx_set ls i v) j = fx_get ls j
  | [], i, j, v, h => rfl
  | x :: l, 0, 0, v, h => absurd rfl h
  | x :: l, 0, j + 1, v, h => rfl
  | x :: l, i + 1, 0, v, h => rfl
  | x :: l, i + 1, j + 1, v, h => by simpa [fx_set, fx_get] using fx_get_set_ne l i j v (fun e => h (by rw [e]))
theorem fx_lo.set {ls : fx_L} {LS LS' : Array Slot} (h : fx_lo ls LS) {i : Nat} {v : fx_V} (hi : i < ls.length) (hc : (fx_val v).category = 1) (h' : lv_has LS' ls.length ((i, fx_val v) :: (fx_pairs 0 ls).filter (fun q => !(q.1 == i) && !(q.1 + 1 == i && q.2.category == 2)))) : fx_lo (fx_set ls i v) LS' := by
  refine ⟨⟨by rw [fx_set_len]; exact h'.1, h'.2.1, fun q hq => ?_⟩, fun j w hw => ?_⟩
  · obtain ⟨j, w, e1, e2⟩ := (fx_pairs_mem _ 0 q).mp hq
    rw [Nat.zero_add] at e1
    subst e1
    by_cases e : i = j
    · subst e
      rw [fx_get_set_self ls i v hi] at e2
      cases e2
      exact h'.2.2 _ List.mem_cons_self
    · rw [fx_get_set_ne ls i j v e] at e2
      refine h'.2.2 _ (List.mem_cons_of_mem _ (List.mem_filter.mpr ⟨(fx_pairs_mem ls 0 _).mpr ⟨j, w, by simp, e2⟩, ?_⟩))
      have c1 := h.2 j w e2
      have e' : ¬ j = i := fun q => e q.symm
      simp [e', c1]
  · by_cases e : i = j
    · subst e
      rw [fx_get_set_self ls i v hi] at hw
      cases hw
      exact hc
    · rw [fx_get_set_ne ls i j v e] at hw
      exact h.2 j w hw
def fx_tys (dA : Nat → ClassId) : List (ClassId × FieldType) := [(dA 70, .int), (dA 71, .boolean), (dA 72, .long), (dA 41, .object fx_R1), (dA 42, .object fx_R2), (dA 44, .object fx_R4), (dA 45, .object fx_R5), (dA 46, .object fx_R6)]
/-- the place of an array's kind among them, by its tag, and the class of its elements -/
theorem fx_tys_ia (dA : Nat → ClassId) {c : Nat} (h : fx_ia c = true) : ∃ (t : Nat) (r : vw_C), (fx_tys dA)[t]? = some (dA c, .object r.1) ∧ fx_cl[c - 40]? = some r := by
  simp only [fx_ia, Bool.or_eq_true, beq_iff_eq] at h
  rcases h with (((h | h) | h) | h) | h <;> subst h
  · exact ⟨3, _, rfl, rfl⟩
  · exact ⟨4, _, rfl, rfl⟩
  · exact ⟨5, _, rfl, rfl⟩
  · exact ⟨6, _, rfl, rfl⟩
  · exact ⟨7, _, rfl, rfl⟩
def fx_ctx (D : va_G) (dA : Nat → ClassId) (scr : Cell) (U : State) : Prop := va_K D fx_cl (fx_tys dA) U ∧ (∀ own idx y, Cond.methodLinkNest own idx y "FlitTorus" ∈ lw_tbl → va_Nw (.methodLinkNest own idx y "FlitTorus") U) ∧ (∀ C, Cond.arrayOver (.object C) ∈ lw_tbl → va_AO C U) ∧ U.isArrayOf scr .int
theorem fx_ctx.warm {D : va_G} {dA : Nat → ClassId} {scr : Cell} {u U : State} (hW : u.WarmedH U.vm) (h : fx_ctx D dA scr u) : fx_ctx D dA scr U :=
  ⟨va_K.moved hW.alike h.1, fun own idx y hw => va_Nw.warmM hW (h.2.1 own idx y hw), fun C hC => va_AO.moved hW.alike (h.2.2.1 C hC), State.isArrayOf_alike hW.alike h.2.2.2⟩
def fx_in (mi : Nat) (p : Program) (R : Room) (u : State) (m : MethodId) (args : Array Value) (meth : Method) (c : Code) (D : va_G) (dA : Nat → ClassId) (scr : Cell) : Prop :=
  p.tables.exec = Jvm.exec ∧ c.code = fx_cc mi ∧ c.maxLocals = fx_ml mi ∧ u.vm.findClass (fx_yy mi).cls = some m.cls ∧ (∀ w ∈ fx_T1, w.before args u = true) ∧ meth.name = (fx_yy mi).name ∧ fx_rk mi ≤ R.frames ∧ fx_lw mi ≤ R.locals ∧ fx_ctx D dA scr u
/-- from here the machine goes on -/
def fx_Sd (p : Program) (l : Launch) (e : Env) (R : Room) (u : State) (m : MethodId) (args : Array Value) (below : List Frame) (meth : Method) (c : Code) (Qf : State → Prop) (D : va_G) (dA : Nat → ClassId) (scr : Cell) (sz0 nS lS : Nat) (pc : Nat) (ls : fx_L) (st : List fx_V) (s : fx_S) : Prop :=
  nS ≤ fx_nx s → lS ≤ fx_sl s → ∀ (H : Heap) (locs : List Loc) (LS : Array Slot), fx_rep D dA scr sz0 s H → fx_lo ls LS → va_S (fun q => sz0 ≤ q) u.heap H locs → W p l e R u m args below meth c H locs (fx_nx s - nS) (fx_sl s - lS) Qf (F0 m pc LS (st.map fx_val))
theorem fx_J_inj {C C' : Prop} {pc pc' : Nat} {ls ls' : fx_L} {st st' : List fx_V} {s s' : fx_S} (h : fx_J C pc ls st s = fx_J C' pc' ls' st' s') : C = C' ∧ pc = pc' ∧ ls = ls' ∧ st = st' ∧ s = s' := by
  simp only [fx_J, Option.some.injEq, Sum.inl.injEq, Prod.mk.injEq] at h
  exact h
