section
variable {p : Program} {l : Launch} {e : Env} {R R' : Room} {s : State} {m : MethodId} {args : Array Value} {below : List Frame} {meth : Method} {c : Code} {H : Heap} {locs : List Loc} {cells slots : Nat} {Q : State → Prop} {T : State}
variable {own : String} {index maxL pc : Nat} {y : MethodName} {bytes cc : ByteArray} {ret : Option FieldType} {LS : Array Slot} {As rest : List Value}
/-- a callee that threw -/
def TQ (bel : List Frame) (sk : State) (mc ms : Nat) (free : Addr → Prop) (THQ : Addr → Heap → Prop) : State → Prop := fun t => ∃ x, t.status = .running ∧ Ended t bel (.threw x) ∧ sk.WarmedH t.vm ∧ ∃ L, sk.sameButNew ({ t with vm := sk.vm } : State) L mc ms ∧ (∀ q ∈ L, free q.base) ∧ THQ x t.heap
theorem in_VT {C : String} {b : Addr} {cellB : Cell} {THQ : Addr → Heap → Prop} {mc ms : Nat} {free : Addr → Prop} (hx : p.tables.exec = Jvm.exec) (hb : c.code = cc) (hown : s.vm.findClass own = some m.cls) (hlink : (Cond.methodLink own index y).before args s = true) (hinst : (Cond.instanceMethod y).before args s = true) (hsel : (Cond.selects C y y).before args s = true) (hcode : (Cond.code y bytes maxL ret).before args s = true) (hy : plainName y.cls = true) (hy2 : y.cls ≠ "java/lang/invoke/MethodHandle" ∧ y.cls ≠ "java/lang/invoke/VarHandle")
    (hcB : H[b]? = some cellB) (hoB : cellB.vm.isStatics = false) (hclB : s.vm.findClass C = some cellB.cls)
    (hlen : (parseMethodDescriptor y.desc).map (fun d => d.parameters.length) = some As.length) (hsz : LS.size = c.maxLocals) (hdg : decode cc pc = .ok (.invokevirtual index, 3)) (hfr : R'.frames + 1 ≤ R.frames) (hlo : (rest.map fun v => v.category).sum + (maxL + 11) + R'.locals ≤ R.locals) (hc : cells + R'.cells ≤ R.cells) (hs : slots + R'.slots ≤ R.slots)
    (body : ∀ (sk : State) (mk : MethodId) (methk : Method) (ck : Code) (bel : List Frame), InB s sk y bytes maxL ret [] H mk methk ck → W p l e R' sk mk (Value.ref b :: As).toArray bel methk ck H [] 0 0 (TQ bel sk mc ms free THQ) (entryFrame mk (Value.ref b :: As).toArray maxL))
    (cont : ∀ (x : Addr) (L : List Loc) (T' : State), THQ x T'.heap → (∀ q ∈ L, free q.base) → Stand p l e R s m args below meth c T' (locs ++ L) (cells + mc) (slots + ms) → ∃ t, Steps p.tables e below ((T'.setTop (F0 m pc LS rest)).pushFrame (.throwing x)) t ∧ Q t) : W p l e R s m args below meth c H locs cells slots Q (F0 m pc LS (As.reverse ++ .ref b :: rest)) := by
  intro T hT X
  have hcode' : (Cond.codeWith y bytes maxL ret []).before args s = true := by
    unfold Cond.before Cond.holds at hcode ⊢
    rw [← Cond.code_iff_codeWith_nil]
    exact hcode
  obtain ⟨mk, methM, cM, hnamed, hmethM, hcM, hbM, hmlM, hhM, hretM, hlockM, hsigM⟩ := Cond.codeWith_spec hcode'
  obtain ⟨mk2, methM2, hnamed2, hmethM2, hstM, habM⟩ := Cond.instanceMethod_spec hinst
  cases hnamed.symm.trans hnamed2
  cases hmethM.symm.trans hmethM2
  obtain ⟨c2, r2, m2, q1, q2, q3, q4, kP, hkP, hkPi⟩ := Cond.selects_spec hsel
  cases hclB.symm.trans q1
  cases (State.methodFound?_of_named hnamed hy2).symm.trans q2
  cases hnamed.symm.trans q3
  have hselP : selectMethod e.platform s.vm cellB.cls mk = .method mk := by rw [Launch.admits_selectMethod X.admits]; exact q4
  obtain ⟨kN, hkN, hnN⟩ := className_of_methodNamed hnamed
  have hlen' : As.length = methM.sig.parameters.length := by
    rw [hsigM] at hlen
    exact (Option.some.inj hlen).symm
  obtain ⟨vm₁, X₁, hstep₁⟩ := X.invokevirtual hx hown hlink hnamed hmethM hstM hkP hkPi hy2 (a := b) (cell := cellB) (by rw [hT]; exact hcB) (fun z h => by rw [h] at hoB; cases hoB) hselP hmethM habM hkP hkPi (g := F0 m pc LS (As.reverse ++ .ref b :: rest)) rfl (argsL := As) (rest := rest) hlen' rfl (by rw [hb]; exact hdg)
  have hm1 : (T.setVm vm₁).vm.method? mk = some methM := by rw [X₁.warmed.alike.method?]; exact hmethM
  have hpk : (T.setVm vm₁).plainMethod mk := X₁.warmed.plainAt (fun k hk => by
    cases hkN.symm.trans hk
    rw [hnN]; exact hy)
  obtain ⟨Xk, hin⟩ := X₁.into (g := F0 m pc LS rest) rfl hsz (by rw [hb]; exact hdg) (mk := mk) (Value.ref b :: As).toArray (R' := R') hm1 hcM hlockM hpk hfr (by rw [hmlM]; simpa using hlo) hc hs
  have hInB : InB s ((T.setVm vm₁).calling (F0 m pc LS rest) mk (Value.ref b :: As).toArray) y bytes maxL ret [] H mk methM cM := ⟨hT, X₁.warmed, (by
    have := findClass_of_methodNamed hnamed
    exact (X₁.warmed.alike.findClass _ _).trans this), hbM, hmlM, hretM, hlockM, (name_of_methodNamed hnamed hmethM).1, hhM⟩
  obtain ⟨t, a1, x, b1, b2, b5, L, b6, b7, b8⟩ := body _ mk methM cM _ hInB (((T.setVm vm₁).setTop (F0 m pc LS rest)).pushFrame (.java (entryFrame mk (Value.ref b :: As).toArray cM.maxLocals))) (by rw [← hT]; simp [State.pushFrame, State.setFrames, State.setTop, State.modifyTopJava]) Xk
  obtain ⟨T', X2, hW2, hS2, ht⟩ := X₁.outOfThrown (g := F0 m pc LS rest) rfl b2 b5 b6
  have hh1 : t.heap = T'.heap := by rw [ht]; exact Stand.throwing_heap T' (F0 m pc LS rest) x
  obtain ⟨t2, c1, c2⟩ := cont x L T' (by rw [← hh1]; exact b8) b7 X2
  refine ⟨t2, hstep₁ _ (fun acts => ?_), c2⟩
  rw [hin acts]
  rw [← hmlM] at a1
  refine Steps.trans (st_low a1) ?_
  rw [ht]
  exact c1
end
