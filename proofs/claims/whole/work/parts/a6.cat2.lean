section
variable {p : Program} {l : Launch} {e : Env} {R : Room} {s : State} {m : MethodId} {args : Array Value} {below : List Frame} {meth : Method} {c : Code} {T : State} {locs : List Loc} {cells slots : Nat}
/-- the search ends at a handler, with these tables -/
def ct_to (e : Env) (s : State) (f : JFrame) (a : Addr) (pc : Nat) (vm' : Vm) : Prop := ∀ (Q : Handler → Pre) (E : CtlPost) (d : Bool) (acts : List Action), wp (findHandler f a) Q E e d acts s ↔ Q (.found pc) d acts (s.setVm vm')
theorem ct_step {s : State} {a : Addr} {f : JFrame} {r : List Frame} {pc : Nat} {vm' : Vm} (h : ct_to e s f a pc vm') : (stepThrowing e s a (.java f :: r)).Is ((s.setVm vm').setFrames (.java { f with pc := pc, stack := [.ref a] } :: r)) [] := by
  simp only [stepThrowing, searchFrame, vmDo]
  generalize hr : Sem.go _ e false [] s = res
  obtain ⟨as, rfl, ha⟩ := Sem.eq_ok_of hr (a := Handler.found pc) (s' := s.setVm vm') (acts' := []) (by simp [h _ _ _ _])
  exact ⟨rfl, ha⟩
theorem ct_steps {tb : Tables} {s target : State} {g : JFrame} {a : Addr} (h : At s g.method c below) {pc : Nat} {vm' : Vm} (hf : ct_to e ((s.setTop g).pushFrame (.throwing a)) g a pc vm') (hr : Steps tb e below ((s.setVm vm').setTop { g with pc := pc, stack := [.ref a] }) target) : Steps tb e below ((s.setTop g).pushFrame (.throwing a)) target := by
  obtain ⟨h1, h2⟩ := h.throwing a
  refine Steps.head h1 h2 ?_
  rw [stepThread_throwing (frames_entered h.top _), (ct_step (s := (s.setTop g).pushFrame (.throwing a)) hf).1]
  obtain ⟨g₀, hg⟩ := Option.isSome_iff_exists.mp h.top
  obtain ⟨r, q⟩ := State.topJava?_eq_some.mp hg
  have q' : (s.setVm vm').frames = .java g₀ :: r := q
  have sw : ∀ (u : State) (v : Vm) (F G : List Frame), ((u.setFrames F).setVm v).setFrames G = (u.setVm v).setFrames G := fun u v F G => by
    have : (u.setFrames F).setVm v = (u.setVm v).setFrames F := rfl
    rw [this, State.setFrames_setFrames]
  rw [State.setTop_of_frames _ q'] at hr
  rw [q, List.tail_cons, State.pushFrame, sw, State.setTop_of_frames _ q, sw]
  exact hr
/-- the law's own take catches -/
theorem ct_catch {g : JFrame} {own N1 N2 : String} {x : Addr} {cell : Cell} {c1 c2 : ClassId} {k : Nat} (X : Stand p l e R s m args below meth c T locs cells slots) (hg : g.method = m) (hown : s.vm.findClass own = some m.cls) (hcell : T.heap[x]? = some cell) (hobj : cell.vm.isStatics = false) (tb : c.exceptionTable.toList.map (fun h => (h.startPc, h.endPc, h.handlerPc, h.catchType)) = [(0, 9, 12, 13), (0, 9, 15, 15)]) (hpc : g.pc < 9)
    (l1 : (Cond.classLink own 13 N1).before args s = true) (l2 : (Cond.classLink own 15 N2).before args s = true) (f1 : s.vm.findClass N1 = some c1) (f2 : s.vm.findClass N2 = some c2) (hk0 : ∃ k, s.vm.classes[cell.cls]? = some k) (hk : (k = 1 ∧ s.vm.assignable cell.cls c1 = true) ∨ (k = 2 ∧ s.vm.assignable cell.cls c1 = false ∧ s.vm.assignable cell.cls c2 = true)) :
    ∃ vm', Stand p l e R s m args below meth c (T.setVm vm') locs cells slots ∧ ∀ target, Steps p.tables e below ((T.setVm vm').setTop { g with pc := if k = 1 then 12 else 15, stack := [.ref x] }) target → Steps p.tables e below ((T.setTop g).pushFrame (.throwing x)) target := by
  have hpl : e.platform.magicAccessors = ({} : Platform).magicAccessors := by rw [X.admits.platform]
  obtain ⟨d1, e1, hl1⟩ := Cond.classLink_spec hown l1 e.platform hpl
  obtain ⟨d2, e2, hl2⟩ := Cond.classLink_spec hown l2 e.platform hpl
  cases f1.symm.trans e1
  cases f2.symm.trans e2
  obtain ⟨x1, t1, h1, g1, h2⟩ := List.map_eq_cons_iff.mp tb
  obtain ⟨x2, t2, h3, g2, h4⟩ := List.map_eq_cons_iff.mp h2
  have h5 : t2 = [] := by simpa using h4
  subst h5
  subst h3
  simp only [Prod.mk.injEq] at g1 g2
  obtain ⟨a1, a2, a3, a4⟩ := g1
  obtain ⟨b1, b2, b3, b4⟩ := g2
  have cv1 : covers x1 g.pc = true := by simp [covers, a1, a2, hpc]
  have cv2 : covers x2 g.pc = true := by simp [covers, b1, b2, hpc]
  obtain ⟨k0, hk0⟩ := hk0
  obtain ⟨k0', hk0', -⟩ := X.warmed.alike.2.2 _ _ hk0
  obtain ⟨dk1, _, _, kt1, hd1, _, _, _, _, hkt1, _, ho1⟩ := hl1.here
  obtain ⟨dk2, _, _, kt2, hd2, _, _, _, _, hkt2, _, ho2⟩ := hl2.here
  obtain ⟨kt1', hkt1', -⟩ := X.warmed.alike.2.2 _ _ hkt1
  have W1 : s.WarmedH (T.vm.noted m.cls 13 (.cls c1)) := X.warmed.noted hd1 ho1 (State.rightAt_cls hl1)
  have W2 : s.WarmedH ((T.vm.noted m.cls 13 (.cls c1)).noted m.cls 15 (.cls c2)) := W1.noted hd2 ho2 (State.rightAt_cls hl2)
  have hob := VmData.ne_statics_of hobj
  subst hg
  rcases hk with ⟨rfl, hf⟩ | ⟨rfl, hn, hf⟩
  · refine ⟨_, X.noted W1, fun target hr => ct_steps X.here (pc := 12) (fun Q E d acts => ?_) hr⟩
    rw [W.findHandler_eq (s := (T.setTop g).pushFrame (.throwing x)) (meth := meth) (code := c) X.method' X.code, h1]
    have := ct_go (Q := Q) (E := E) (e := e) (d := d) (acts := acts) (s := (T.setTop g).pushFrame (.throwing x)) (f := g) (a := x) (x := x1) (t := [x2]) (c := c1) (cell := cell) cv1 (by rw [a4]; decide) (by rw [a4]; exact X.warmed.classLinks hl1) hcell hob ⟨k0', hk0'⟩ ⟨kt1', hkt1'⟩ (b := true) (by rw [← hf]; exact X.warmed.alike.assignable _ _)
    rw [this, if_pos rfl, a3]
    unfold ct_vm
    rw [a4]
    exact Iff.rfl
  · refine ⟨_, X.noted W2, fun target hr => ct_steps X.here (pc := 15) (fun Q E d acts => ?_) hr⟩
    obtain ⟨k0'', hk0'', -⟩ := W1.alike.2.2 _ _ hk0
    obtain ⟨kt2', hkt2', -⟩ := W1.alike.2.2 _ _ hkt2
    rw [W.findHandler_eq (s := (T.setTop g).pushFrame (.throwing x)) (meth := meth) (code := c) X.method' X.code, h1]
    have := ct_go (Q := Q) (E := E) (e := e) (d := d) (acts := acts) (s := (T.setTop g).pushFrame (.throwing x)) (f := g) (a := x) (x := x1) (t := [x2]) (c := c1) (cell := cell) cv1 (by rw [a4]; decide) (by rw [a4]; exact X.warmed.classLinks hl1) hcell hob ⟨k0', hk0'⟩ ⟨kt1', hkt1'⟩ (b := false) (by rw [← hn]; exact X.warmed.alike.assignable _ _)
    rw [this, if_neg (by decide)]
    have e3 : ct_vm ((T.setTop g).pushFrame (.throwing x)) g x1 c1 = ((T.setTop g).pushFrame (.throwing x)).setVm (T.vm.noted g.method.cls 13 (.cls c1)) := by
      unfold ct_vm
      rw [a4]; rfl
    rw [e3]
    have := ct_go (Q := Q) (E := E) (e := e) (d := d) (acts := acts) (s := ((T.setTop g).pushFrame (.throwing x)).setVm (T.vm.noted g.method.cls 13 (.cls c1))) (f := g) (a := x) (x := x2) (t := []) (c := c2) (cell := cell) cv2 (by rw [b4]; decide) (by rw [b4]; exact W1.classLinks hl2) hcell hob ⟨k0'', hk0''⟩ ⟨kt2', hkt2'⟩ (b := true) (by rw [← hf]; exact W1.alike.assignable _ _)
    rw [this, if_pos rfl, b3]
    unfold ct_vm
    rw [b4]
    exact Iff.rfl
end
