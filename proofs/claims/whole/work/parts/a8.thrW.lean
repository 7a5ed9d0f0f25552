/-! take THROWS: new, dup, ldc, <init>, athrow -/
def tk_pc (k : Nat) : Nat := if k = 1 then 11 else 38
def tk_ci (k : Nat) : Nat := if k = 1 then 159 else 175
def tk_si (k : Nat) : Nat := if k = 1 then 161 else 177
def tk_ii (k : Nat) : Nat := if k = 1 then 163 else 179
def tk_cl (k : Nat) : String := if k = 1 then "java/lang/IllegalArgumentException" else "java/lang/IllegalStateException"
def tk_tx (k : Nat) : String := if k = 1 then "no such node" else "no packet is ready"
theorem tk_d : ∀ k, k < 3 → 1 ≤ k → decode (fx_cc mm_Torus_take) (tk_pc k) = .ok (.new (tk_ci k), 3) ∧ decode (fx_cc mm_Torus_take) (tk_pc k + 3) = .ok (.dup, 1) ∧ decode (fx_cc mm_Torus_take) (tk_pc k + 4) = .ok (.ldc (tk_si k), 2) ∧ decode (fx_cc mm_Torus_take) (tk_pc k + 6) = .ok (.invokespecial (tk_ii k), 3) ∧ decode (fx_cc mm_Torus_take) (tk_pc k + 9) = .ok (.athrow, 1) := by
  intro k h3 h1
  have h : k = 1 ∨ k = 2 := by omega
  rcases h with e | e <;> subst e
  · exact ⟨by decide +kernel, by decide +kernel, by decide +kernel, by decide +kernel, by decide +kernel⟩
  · exact ⟨by decide +kernel, by decide +kernel, by decide +kernel, by decide +kernel, by decide +kernel⟩
theorem tk_w : ∀ k, k < 3 → 1 ≤ k → (Cond.classLink "FlitTorus" (tk_ci k) (tk_cl k) ∈ lw_tbl ∧ Cond.instantiable (tk_cl k) 6 ∈ lw_tbl ∧ Cond.initialized (tk_cl k) ∈ lw_tbl) ∧ goodWord (Cond.classLink "FlitTorus" (tk_ci k) (tk_cl k)) = true ∧ goodWord (Cond.instantiable (tk_cl k) 6) = true ∧ goodWord (Cond.initialized (tk_cl k)) = true ∧ Jvm.Bundle.fit (tk_cl k) = true ∧ Jvm.Bundle.fit "java/lang/RuntimeException" = true ∧ Jvm.Bundle.fit "java/lang/Exception" = true := by
  intro k h3 h1
  have h : k = 1 ∨ k = 2 := by omega
  rcases h with e | e <;> subst e
  · exact ⟨⟨by decide +kernel, by decide +kernel, by decide +kernel⟩, by decide +kernel, by decide +kernel, by decide +kernel, by decide +kernel, by decide +kernel, by decide +kernel⟩
  · exact ⟨⟨by decide +kernel, by decide +kernel, by decide +kernel⟩, by decide +kernel, by decide +kernel, by decide +kernel, by decide +kernel, by decide +kernel, by decide +kernel⟩
theorem tk_ow {k : Nat} : ex_ow k = Jvm.Bundle.ownAtoms "FlitTorus" (tk_ii k) (tk_cl k) ["java/lang/RuntimeException", "java/lang/Exception"] := rfl
theorem cell_ext {c c' : Cell} (h1 : c' = { c with slots := c'.slots }) (h2 : ∀ i : Nat, c'.slots[i]? = c.slots[i]?) : c' = c := by
  have : c'.slots = c.slots := Array.ext_getElem? h2
  rw [h1, this]
section
variable {p : Program} {l : Launch} {e : Env} {R : Room} {s u0 : State} {m : MethodId} {args A : Array Value} {below : List Frame} {meth : Method} {c : Code} {H : Heap} {locs : List Loc} {cells slots : Nat} {LS : Array Slot}
set_option maxHeartbeats 1000000 in
theorem thr_W {k : Nat} {free : Addr → Prop} {THQ : Addr → Heap → Prop} (hk : k = 1 ∨ k = 2) (hx : p.tables.exec = Jvm.exec) (hb : c.code = fx_cc mm_Torus_take) (htr : e.platform.stackTraces = false) (hlocks : meth.locks = false) (hown : s.vm.findClass "FlitTorus" = some m.cls) (hB : BX u0 A) (hcx : ∀ U : State, U.heap = H → s.WarmedH U.vm → CX u0 U) (htab : c.exceptionTable.toList.map (fun h => (h.startPc, h.endPc, h.handlerPc, h.catchType)) = []) (hsz : LS.size = c.maxLocals) (hc : cells + 1 ≤ R.cells) (hs : slots + 6 ≤ R.slots) (hfr : 5 < R.frames) (hlo : 83 ≤ R.locals) (hfree : ∀ q ∈ locs, free q.base)
    (hT : ∀ H1 : Heap, H1.size = H.size + 1 → (∀ q : Nat, q < H.size → H1[q]? = H[q]?) → (∃ ce, H1[H.size]? = some ce ∧ ce.vm = .none ∧ u0.vm.findClass (tk_cl k) = some ce.cls) → THQ H.size H1) : W p l e R s m args below meth c H locs cells slots (TQ below s (cells + 1) (slots + 6) free THQ) (F0 m (tk_pc k) LS []) := by
  intro T hTh X
  have k3 : k < 3 ∧ 1 ≤ k := by omega
  obtain ⟨d1, d2, d3, d4, d5⟩ := tk_d k k3.1 k3.2
  obtain ⟨⟨w1, w2, w3⟩, g1, g2, g3, f1, f2, f3⟩ := tk_w k k3.1 k3.2
  have X0 := re_stand X (by omega) (by omega)
  have cx : CX u0 (re_st T m args below) := hcx (re_st T m args below) hTh X.warmed
  have hown' : (re_st T m args below).vm.findClass "FlitTorus" = some m.cls := (X.warmed.alike.findClass _ _).trans hown
  have htab' : c.exceptionTable.toList = [] := by simpa using htab
  obtain ⟨q, hq⟩ : ∃ q, vk_R "FlitTorus" (tk_si k) (tk_tx k) q (re_st T m args below) := by
    rcases hk with e | e <;> subst e
    · obtain ⟨q, hq⟩ := hB.2.1
      exact ⟨q, vk_R.warm cx.1 hq⟩
    · obtain ⟨q, hq⟩ := hB.2.2.1
      exact ⟨q, vk_R.warm cx.1 hq⟩
  have key : W p l e (re_rm R cells slots) (re_st T m args below) m args below meth c T.heap [] 0 0 (fun U => U.status = .running ∧ Ended U below (.threw T.heap.size) ∧ (re_st T m args below).WarmedH U.vm ∧ (re_st T m args below).sameButNew ({ U with vm := (re_st T m args below).vm } : State) [] 1 6 ∧ ∃ ce, U.heap[T.heap.size]? = some ce ∧ Jvm.Bundle.OwnCell args (re_st T m args below) (tk_cl k) T.heap.size (.ref q) ce) (F0 m (tk_pc k) LS []) := by
    refine W.newc hx hb hown' (xs_word cx g1 (hB.1 _ w1)) (xs_word cx g2 (hB.1 _ w2)) (xs_word cx g3 (hB.1 _ w3)) rfl d1 (by show 0 + 1 ≤ R.cells - cells; omega) (by show 0 + 6 ≤ R.slots - slots; omega) (fun cC kC h1 h2 h3 h4 => ?_)
    refine lv_dup hx hb d2 rfl ?_
    refine va_ldcS hx hb hown' hq d3 ?_
    intro T2 hT2 X2
    have hcell : T2.heap[T.heap.size]? = some (freshCell cC kC) := by
      rw [hT2]
      simp [freshCell]
    obtain ⟨U, a1, a2, a3, a4, a5, ce, a6, a7⟩ := X2.ctorThrowS hx htr hown' f1 (fun n hn => by
        rcases List.mem_cons.mp hn with q | q
        · rw [q]; exact f2
        · rw [List.mem_singleton.mp q]; exact f3) (ic := tk_ii k) (hB.own cx hk) (fun x hx => by cases hx) h1 h2 hcell (Nat.le_refl _) (msg := .ref q) rfl (g := F0 m (tk_pc k + 6) LS [.ref q, .ref T.heap.size, .ref T.heap.size]) rfl hsz rfl rfl (rest := []) rfl (by rw [hb]; exact d4) (by rw [hb]; exact d5) (fun x hx => by rw [htab'] at hx; cases hx) (by show 2 + 3 < R.frames; omega) (by show 2 * 0 + 1 + (13 * (2 + 1) + 42) ≤ R.locals; omega) hlocks
    exact ⟨U, a1, a2, a3, a4, a5, ce, a6, a7⟩
  obtain ⟨U, a1, a2, a3, a4, a5, ce, a6, a7⟩ := key T rfl X0
  obtain ⟨b1, b2⟩ := re_same X a4 a5
  obtain ⟨-, s2, s3, -, -, s6⟩ := a5
  have s2' : T.heap.size ≤ U.heap.size := s2
  have s3' : U.heap.size ≤ T.heap.size + 1 := s3
  have s4 : T.heap.size < U.heap.size := (Array.getElem?_eq_some_iff.mp a6).1
  refine ⟨U, a1, T.heap.size, a2, a3, b1, locs, b2, hfree, ?_⟩
  rw [hTh]
  rw [hTh] at s2' s3' s4 a6
  refine hT U.heap (by omega) (fun z hz => ?_) ⟨ce, a6, a7.vm, ?_⟩
  · have hz2 : z < T.heap.size := by rw [hTh]; exact hz
    have hc0 : (re_st T m args below).heap[z]? = some T.heap[z] := Array.getElem?_eq_getElem hz2
    obtain ⟨c', q1, q2, -, q4⟩ := s6 z T.heap[z] hc0
    have : c' = T.heap[z] := cell_ext q2 (fun i => q4 i (by simp))
    have q1' : U.heap[z]? = some c' := q1
    rw [q1', this, ← hTh]
    exact hc0.symm
  · have := a7.cls
    exact ((cx.1.alike.findClass _ _).symm.trans this)
end
