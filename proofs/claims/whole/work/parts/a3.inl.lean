/-! A CALL whose callee is walked in place -/
section
variable {p : Program} {l : Launch} {e : Env} {R R' : Room} {s : State} {m : MethodId} {args : Array Value} {below : List Frame} {meth : Method} {c : Code} {H : Heap} {locs : List Loc} {cells slots : Nat} {Q : State → Prop}
variable {own : String} {index maxL pc : Nat} {y : MethodName} {bytes cc : ByteArray} {ret : Option FieldType} {hh : List (Nat × Nat × Nat × Nat)} {LS : Array Slot} {As rest : List Value}
theorem st_low {tb : Tables} {A B : State} {g : JFrame} (h : Steps tb e (.java g :: below) A B) : Steps tb e below A B := by
  obtain ⟨n, h1, h2⟩ := h
  refine ⟨n, h1, fun k hk => ?_⟩
  obtain ⟨ab, e1, e2, e3⟩ := h2 k hk
  refine ⟨ab ++ [.java g], by rw [e1]; simp, by simp, fun a q => ?_⟩
  cases ab with
  | nil => exact e2 rfl
  | cons y ys => simp at q
/-- what a callee that is walked in place begins with -/
def InB (s sk : State) (y : MethodName) (bytes : ByteArray) (maxL : Nat) (ret : Option FieldType) (hh : List (Nat × Nat × Nat × Nat)) (H : Heap) (mk : MethodId) (methk : Method) (ck : Code) : Prop := sk.heap = H ∧ s.WarmedH sk.vm ∧ sk.vm.findClass y.cls = some mk.cls ∧ ck.code = bytes ∧ ck.maxLocals = maxL ∧ methk.sig.returnType = ret ∧ methk.locks = false ∧ methk.name = y.name ∧ ck.exceptionTable.toList.map (fun h => (h.startPc, h.endPc, h.handlerPc, h.catchType)) = hh
theorem in_S {Qc : Array Value → State → Outcome → State → Prop} {mc ms : Nat} {free : Addr → Prop} (hx : p.tables.exec = Jvm.exec) (hb : c.code = cc) (hown : s.vm.findClass own = some m.cls) (hlink : (Cond.methodLink own index y).before args s = true) (hstat : (Cond.static y).before args s = true) (hinit : (Cond.initialized y.cls).before args s = true) (hcode : (Cond.codeWith y bytes maxL ret hh).before args s = true) (hy : plainName y.cls = true) (hy2 : y.cls ≠ "java/lang/invoke/MethodHandle" ∧ y.cls ≠ "java/lang/invoke/VarHandle")
    (hlen : (parseMethodDescriptor y.desc).map (fun d => d.parameters.length) = some As.length) (hsz : LS.size = c.maxLocals) (hdg : decode cc pc = .ok (.invokestatic index, 3)) (hfr : R'.frames + 1 ≤ R.frames) (hlo : (rest.map fun v => v.category).sum + (maxL + 11) + R'.locals ≤ R.locals) (hc : cells + R'.cells ≤ R.cells) (hs : slots + R'.slots ≤ R.slots)
    (body : ∀ (sk : State) (mk : MethodId) (methk : Method) (ck : Code) (bel : List Frame), InB s sk y bytes maxL ret hh H mk methk ck → W p l e R' sk mk As.toArray bel methk ck H [] 0 0 (MQ bel Qc As.toArray sk mc ms free) (entryFrame mk As.toArray maxL))
    (cont : ∀ (v : Option Value) (H1 : Heap) (L : List Loc), (∃ sk t : State, sk.heap = H ∧ t.heap = H1 ∧ Qc As.toArray sk (.returned v) t) → (∀ q ∈ L, free q.base) → W p l e R s m args below meth c H1 (locs ++ L) (cells + mc) (slots + ms) Q (F0 m (pc + 3) LS (v.toList ++ rest))) : W p l e R s m args below meth c H locs cells slots Q (F0 m pc LS (As.reverse ++ rest)) := by
  intro T hT X
  obtain ⟨mk, methM, cM, hnamed, hmethM, hcM, hbM, hmlM, hhM, hretM, hlockM, hsigM⟩ := Cond.codeWith_spec hcode
  have hstatic : methM.isStatic = true := Cond.static_spec hnamed hmethM hstat
  obtain ⟨kP, hkP, hnP⟩ := className_of_methodNamed hnamed
  have hinitP : kP.init = .initialized := Cond.initialized_spec (findClass_of_methodNamed hnamed) hkP hinit
  have hlen' : As.length = methM.sig.parameters.length := by
    rw [hsigM] at hlen
    exact (Option.some.inj hlen).symm
  obtain ⟨vm₁, X₁, hstep₁⟩ := X.invokestatic hx hown hlink hnamed hmethM hstatic hkP hinitP hy2 (g := F0 m pc LS (As.reverse ++ rest)) rfl (argsL := As) (rest := rest) hlen' rfl (by rw [hb]; exact hdg)
  have hm1 : (T.setVm vm₁).vm.method? mk = some methM := by rw [X₁.warmed.alike.method?]; exact hmethM
  have hpk : (T.setVm vm₁).plainMethod mk := X₁.warmed.plainAt (fun k hk => by
    cases hkP.symm.trans hk
    rw [hnP]; exact hy)
  obtain ⟨Xk, hin⟩ := X₁.into (g := F0 m pc LS rest) rfl hsz (by rw [hb]; exact hdg) (mk := mk) As.toArray (R' := R') hm1 hcM hlockM hpk hfr (by rw [hmlM]; simpa using hlo) hc hs
  have hInB : InB s ((T.setVm vm₁).calling (F0 m pc LS rest) mk As.toArray) y bytes maxL ret hh H mk methM cM := ⟨hT, X₁.warmed, (by
    have := findClass_of_methodNamed hnamed
    exact (X₁.warmed.alike.findClass _ _).trans this), hbM, hmlM, hretM, hlockM, (name_of_methodNamed hnamed hmethM).1, hhM⟩
  obtain ⟨t, a1, o, b1, b2, b3, L, ⟨⟨v, ov⟩, b5, b6⟩, b7⟩ := body _ mk methM cM _ hInB (((T.setVm vm₁).setTop (F0 m pc LS rest)).pushFrame (.java (entryFrame mk As.toArray cM.maxLocals))) (by rw [← hT]; simp [State.pushFrame, State.setFrames, State.setTop, State.modifyTopJava]) Xk
  subst ov
  obtain ⟨T', X2, hW2, hS2, ht⟩ := X₁.outOf (g := F0 m pc LS rest) rfl (by rw [hb]; exact hdg) b2 b5 b6
  have hh1 : t.heap = T'.heap := by rw [ht]; rfl
  obtain ⟨t2, c1, c2⟩ := cont v T'.heap L ⟨(T.setVm vm₁).calling (F0 m pc LS rest) mk As.toArray, t, hT, hh1, b3⟩ b7 T' rfl X2
  refine ⟨t2, hstep₁ _ (fun acts => ?_), c2⟩
  rw [hin acts]
  rw [← hmlM] at a1
  refine Steps.trans (st_low a1) ?_
  rw [ht]
  exact c1
end
