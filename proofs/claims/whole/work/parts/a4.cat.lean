/-! AN EXCEPTION IS CAUGHT, its class looked up then -/
section
variable {Q : Handler → Pre} {E : CtlPost} {e : Env} {d : Bool} {acts : List Action} {s : State} {f : JFrame} {a : Addr} {x : ExceptionTableEntry} {t : List ExceptionTableEntry} {c : ClassId} {cell : Cell}
def ct_vm (s : State) (f : JFrame) (x : ExceptionTableEntry) (c : ClassId) : State := s.setVm (s.vm.noted f.method.cls x.catchType (.cls c))
theorem ct_go (hx : covers x f.pc = true) (h0 : x.catchType ≠ 0) (hl : s.vm.ClassLinks e.platform f.method.cls x.catchType c) (hcell : s.heap[a]? = some cell) (hobj : ∀ k, cell.vm ≠ .statics k) (hk : ∃ k, s.vm.classes[cell.cls]? = some k) (hc : ∃ k, s.vm.classes[c]? = some k) {b : Bool} (hfit : s.vm.assignable cell.cls c = b) :
    wp (findHandler.go f a (x :: t)) Q E e d acts s ↔ if b = true then Q (.found x.handlerPc) d acts (ct_vm s f x c) else wp (findHandler.go f a t) Q E e d acts (ct_vm s f x c) := by
  obtain ⟨ha, ht⟩ := (resolveClass_links e.toSetting hl).op (op := VmOp.resolveClass f.method.cls x.catchType) rfl
  have al : s.vm.Alike (s.vm.noted f.method.cls x.catchType (.cls c)) := (Vm.Alike.refl s.vm).noted _ _ _
  obtain ⟨k1, q1⟩ := hk
  obtain ⟨k2, q2⟩ := hc
  obtain ⟨k1', q1', -⟩ := al.2.2 _ _ q1
  obtain ⟨k2', q2', -⟩ := al.2.2 _ _ q2
  have hf : (s.vm.noted f.method.cls x.catchType (.cls c)).assignable cell.cls c = b := by rw [al.assignable]; exact hfit
  simp only [covers] at hx
  unfold ct_vm
  cases b <;> simp [findHandler.go, hx, h0, ha, ht, hcell, hobj, q1', q2', hf, VmOp.dirties, VmOp.acts]
end
