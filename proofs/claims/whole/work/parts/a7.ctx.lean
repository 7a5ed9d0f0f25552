/-! WHAT THE START GIVES stays while the run goes on -/
def ex_ls (a : Cond) : Bool := match a with
  | .laysStatic "java/lang/Throwable" "UNASSIGNED_STACK" "[Ljava/lang/StackTraceElement;" => true
  | .laysStatic "java/lang/Throwable" "SUPPRESSED_SENTINEL" "Ljava/util/List;" => true
  | _ => false
def ex_go (a : Cond) : Bool := a.onTables && a.keepsFace
theorem ex_cl1 : ∀ a ∈ ex_ow 1, ex_go a = true ∨ ex_st a = true ∨ ex_ls a = true := by decide +kernel
theorem ex_cl2 : ∀ a ∈ ex_ow 2, ex_go a = true ∨ ex_st a = true ∨ ex_ls a = true := by decide +kernel
/-- later than u0: warmer tables, the old cells untouched -/
def CX (u0 U : State) : Prop := u0.WarmedH U.vm ∧ ∀ q : Nat, q < u0.heap.size → U.heap[q]? = u0.heap[q]?
theorem CX.rf (u0 : State) : CX u0 u0 := ⟨State.WarmedH.refl u0, fun _ _ => rfl⟩
theorem xs_word {u0 U : State} {A A' : Array Value} {w : Cond} (h : CX u0 U) (hg : goodWord w = true) (hw : w.before A u0 = true) : w.before A' U = true := word_at h.1 (good_of_word hg) hw
theorem xs_face {u0 U : State} {A A' : Array Value} {w : Cond} (h : CX u0 U) (hg : ex_go w = true) (hw : w.before A u0 = true) : w.before A' U = true := by
  unfold ex_go at hg
  rw [Bool.and_eq_true] at hg
  have h1 : w.before A (u0.setVm U.vm) = true := Cond.before_shiftedFace (State.Shifted.of_warmed h.1) w hg.2 hw
  rw [Cond.onTables_vm (A' := A') (U' := U) U.vm w hg.1, State.setVm_self] at h1
  exact h1
theorem xs_at {u0 U : State} {A : Array Value} {O f d : String} (h : CX u0 U) (hl : (Cond.laysStatic O f d).before A u0 = true) : ∃ c k i fd a cell, U.vm.findClass O = some c ∧ U.fieldFound? O f d = some (c, k, i, fd) ∧ fd.isStatic = true ∧ k.statics = some a ∧ U.heap[a]? = some cell ∧ u0.heap[a]? = some cell ∧ cell.vm.isStatics = true ∧ cell.cls = c ∧ fd.slot < cell.slots.size ∧ k.staticTypes[fd.slot]? = some fd.type ∧ ∃ k0, u0.fieldFound? O f d = some (c, k0, i, fd) ∧ k0.statics = some a := by
  obtain ⟨c, k, i, fd, a, cell, hc, hf, hst, hsta, hcell, hiss, hcls, hlt, hty⟩ := Cond.laysStatic_spec hl
  obtain ⟨k', hf', hek⟩ := State.fieldFound?_setVm h.1.alike hf
  have hf2 : U.fieldFound? O f d = some (c, k', i, fd) := hf'
  have hlt2 : a < u0.heap.size := (Array.getElem?_eq_some_iff.mp hcell).1
  exact ⟨c, k', i, fd, a, cell, (h.1.alike.findClass _ _).trans hc, hf2, hst, by rw [hek]; exact hsta, (h.2 a hlt2).trans hcell, hcell, hiss, hcls, hlt, by rw [hek]; exact hty, k, hf, hsta⟩
theorem xs_lays {u0 U : State} {A A' : Array Value} {O f d : String} (h : CX u0 U) (hl : (Cond.laysStatic O f d).before A u0 = true) : (Cond.laysStatic O f d).before A' U = true := by
  obtain ⟨c, k, i, fd, a, cell, h1, h2, h3, h4, h5, -, h6, h7, h8, h9, -⟩ := xs_at h hl
  exact Cond.laysStatic_of h1 h2 h3 h4 h5 h6 h7 h8 h9
theorem xs_ref {u0 U : State} {A A' : Array Value} {O f d : String} (h : CX u0 U) (hl : (Cond.laysStatic O f d).before A u0 = true) (hr : (Cond.isRef (.static O f d)).before A u0 = true) : (Cond.isRef (.static O f d)).before A' U = true := by
  obtain ⟨c, k, i, fd, a, cell, h1, h2, h3, h4, h5, h5', h6, h7, h8, h9, k0, g1, g2⟩ := xs_at h hl
  obtain ⟨u, hu⟩ := Cond.staticRefV (args := A) (first := u0) (o := none) (idx := []) g1 h3 g2 h5' h6 hr
  have he : (Term.static O f d).eval A' U none [] U = some u.v := Term.static_eval h2 h3 h4 h5 h6 hu
  simp only [Cond.before, Cond.holds, Cond.value, he]
  obtain ⟨v, hv⟩ := u
  cases v <;> simp [Value.isRef] at hv <;> rfl
/-- what the law's start gives -/
def BX (u0 : State) (A : Array Value) : Prop := (∀ w ∈ lw_tbl, w.before A u0 = true) ∧ (∃ q, vk_R "FlitTorus" 161 "no such node" q u0) ∧ (∃ q, vk_R "FlitTorus" 177 "no packet is ready" q u0) ∧ (∀ a, ex_st a = true → a.before A u0 = true) ∧ (Cond.not (Cond.castable "java/lang/IllegalStateException" "java/lang/IllegalArgumentException")).before A u0 = true
theorem BX.own {u0 U : State} {A A' : Array Value} {k : Nat} (h : BX u0 A) (x : CX u0 U) (hk : k = 1 ∨ k = 2) : ∀ a ∈ ex_ow k, a.before A' U = true := by
  intro a ha
  have h1 : a ∈ lw_tbl ∨ ex_st a = true := by
    rcases hk with e | e <;> subst e
    · exact ex_ow1 a ha
    · exact ex_ow2 a ha
  have h2 : ex_go a = true ∨ ex_st a = true ∨ ex_ls a = true := by
    rcases hk with e | e <;> subst e
    · exact ex_cl1 a ha
    · exact ex_cl2 a ha
  have ls : ∀ b, ex_ls b = true → b ∈ ex_ow 1 → b.before A u0 = true := fun b hb hm => by
    rcases ex_ow1 b hm with q | q
    · exact h.1 b q
    · exact h.2.2.2.1 b q
  have m1 : Cond.laysStatic "java/lang/Throwable" "UNASSIGNED_STACK" "[Ljava/lang/StackTraceElement;" ∈ ex_ow 1 := by decide +kernel
  have m2 : Cond.laysStatic "java/lang/Throwable" "SUPPRESSED_SENTINEL" "Ljava/util/List;" ∈ ex_ow 1 := by decide +kernel
  rcases h2 with g | g | g
  · rcases h1 with q | q
    · exact xs_face x g (h.1 a q)
    · exact xs_face x g (h.2.2.2.1 a q)
  · have hr := h.2.2.2.1 a g
    unfold ex_st at g
    split at g
    · exact xs_ref x (ls _ rfl m1) hr
    · exact xs_ref x (ls _ rfl m2) hr
    · cases g
  · unfold ex_ls at g
    split at g
    · exact xs_lays x (ls _ rfl m1)
    · exact xs_lays x (ls _ rfl m2)
    · cases g
