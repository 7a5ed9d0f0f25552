/-! THE LAW'S OWN take, walked in place -/
def lt_hh : List (Nat × Nat × Nat × Nat) := [(0, 9, 12, 13), (0, 9, 15, 15)]
theorem lt_w1 : Cond.methodLink "FlitTorusLaw" 41 (fx_yy 132) ∈ lw_tbl := by decide +kernel
theorem lt_w2 : Cond.static (fx_yy 132) ∈ lw_tbl := by decide +kernel
theorem lt_w3 : Cond.initialized "FlitTorusLaw" ∈ lw_tbl := by decide +kernel
theorem lt_w4 : Cond.codeWith (fx_yy 132) (fx_cc 132) 4 (some .int) lt_hh ∈ lw_tbl := by decide +kernel
theorem lt_w5 : Cond.methodLink "FlitTorusLaw" 7 (fx_yy mm_Torus_take) ∈ lw_tbl := by decide +kernel
theorem lt_w6 : Cond.instanceMethod (fx_yy mm_Torus_take) ∈ lw_tbl := by decide +kernel
theorem lt_w7 : Cond.selects "FlitTorus" (fx_yy mm_Torus_take) (fx_yy mm_Torus_take) ∈ lw_tbl := by decide +kernel
theorem lt_w8 : Cond.code (fx_yy mm_Torus_take) (fx_cc mm_Torus_take) (fx_ml mm_Torus_take) (fx_re mm_Torus_take) ∈ lw_tbl := by decide +kernel
theorem lt_w9 : Cond.classLink "FlitTorusLaw" 13 "java/lang/IllegalArgumentException" ∈ lw_tbl := by decide +kernel
theorem lt_w10 : Cond.classLink "FlitTorusLaw" 15 "java/lang/IllegalStateException" ∈ lw_tbl := by decide +kernel
theorem lt_w11 : Cond.castable "java/lang/IllegalArgumentException" "java/lang/IllegalArgumentException" ∈ ex_ow 1 := by decide +kernel
theorem lt_w12 : Cond.castable "java/lang/IllegalStateException" "java/lang/IllegalStateException" ∈ ex_ow 2 := by decide +kernel
theorem lt_d0 : decode (fx_cc 132) 0 = .ok (.aload_n 2, 1) := by decide +kernel
theorem lt_d1 : decode (fx_cc 132) 1 = .ok (.iconst 0, 1) := by decide +kernel
theorem lt_d2 : decode (fx_cc 132) 2 = .ok (.aload_n 0, 1) := by decide +kernel
theorem lt_d3 : decode (fx_cc 132) 3 = .ok (.iload_n 1, 1) := by decide +kernel
theorem lt_d4 : decode (fx_cc 132) 4 = .ok (.invokevirtual 7, 3) := by decide +kernel
theorem lt_d12 : decode (fx_cc 132) 12 = .ok (.astore_n 3, 1) := by decide +kernel
theorem lt_d13 : decode (fx_cc 132) 13 = .ok (.iconst 1, 1) := by decide +kernel
theorem lt_d14 : decode (fx_cc 132) 14 = .ok (.ireturn, 1) := by decide +kernel
theorem lt_d15 : decode (fx_cc 132) 15 = .ok (.astore_n 3, 1) := by decide +kernel
theorem lt_d16 : decode (fx_cc 132) 16 = .ok (.iconst 2, 1) := by decide +kernel
theorem lt_d17 : decode (fx_cc 132) 17 = .ok (.ireturn, 1) := by decide +kernel
theorem lt_len : (parseMethodDescriptor (fx_yy mm_Torus_take).desc).map (fun d => d.parameters.length) = some 1 := by decide +kernel
theorem lt_len2 : (parseMethodDescriptor (fx_yy 132).desc).map (fun d => d.parameters.length) = some 3 := by decide +kernel
/-- what the law's take leaves -/
def LQ (D : va_G) (dA : Nat → ClassId) (scr : Cell) (sz0 : Nat) (s1 : fx_S) (y : Int32) (H0 : Heap) : Array Value → State → Outcome → State → Prop := fun _ _ o t => o = .returned (some (.int y)) ∧ fx_rep D dA scr sz0 s1 t.heap ∧ ∀ q : Nat, q < sz0 → t.heap[q]? = H0[q]?
section
variable {p : Program} {l : Launch} {e : Env} {R : Room} {u0 sk : State} {mk : MethodId} {A : Array Value} {bel : List Frame} {methk : Method} {ck : Code} {H : Heap} {D : va_G} {dA : Nat → ClassId} {scr : Cell} {sz0 k x w : Nat} {v : Int32} {s : fx_S}
def lt_R1 : Room := { frames := 8, cells := 1, slots := 6, locals := 311 }
set_option maxHeartbeats 1000000 in
theorem lt_thrown (hk : k = 1 ∨ k = 2) (hm : TKm k x v s) (hx : p.tables.exec = Jvm.exec) (htr : e.platform.stackTraces = false) (hB : BX u0 A) (hcx : CX u0 sk) (hz : u0.heap.size = sz0) (hin : InB u0 sk (fx_yy 132) (fx_cc 132) 4 (some .int) lt_hh H mk methk ck) (hrep : fx_rep D dA scr sz0 s H) (hctx : fx_ctx D dA scr sk) (hf : fx_fresh s) (hw : fx_wt s) (hts : fx_ts s [vR 10 (some x), vI v]) (hfr : 9 ≤ R.frames) (hlo : 329 ≤ R.locals) (hc : 1 ≤ R.cells) (hs : 6 ≤ R.slots) : W p l e R sk mk [Value.ref x, Value.int v, Value.ref w].toArray bel methk ck H [] 0 0 (MQ bel (LQ D dA scr sz0 (fx_gap s 1 6) (nI k) H) [Value.ref x, Value.int v, Value.ref w].toArray sk 1 6 (fun q => sz0 ≤ q)) (entryFrame mk [Value.ref x, Value.int v, Value.ref w].toArray 4) := by
  obtain ⟨i1, i2, i3, i4, i5, i6, i7, i8, i9⟩ := hin
  have wd : ∀ {c : Cond} {A' : Array Value}, c ∈ lw_tbl → goodWord c = true → c.before A' sk = true := fun hc hg => xs_word hcx hg (hB.1 _ hc)
  have hka : fx_kd s x = 10 := (hts _ (List.mem_cons_self)).1
  obtain ⟨cell, g1, g2, g3, -⟩ := (hrep.2.2.2 x).1 0 _ hka rfl
  have hcl : sk.vm.findClass "FlitTorus" = some cell.cls := by
    have := (hctx.1.1 0 _ rfl).2.1
    rw [g2]; exact this
  have hl := lv_entry ([.ref x, .int v, .ref w]) (n := 4) (Nat.le_of_ble_eq_true rfl)
  rw [lg_entry_eq]
  generalize (lg_sl ([.ref x, .int v, .ref w]) ++ List.replicate (4 - (lg_sl ([.ref x, .int v, .ref w])).length) Slot.unset).toArray = LS at hl ⊢
  have hl : lv_has LS 4 [(0, .ref x), (1, .int v), (2, .ref w)] := hl
  refine lv_aload_n hx i4 lt_d0 rfl (lv_at hl 2 rfl) ?_
  refine lv_iconst (v := 0) hx i4 lt_d1 (by decide) ?_
  refine lv_aload_n hx i4 lt_d2 rfl (lv_at hl 0 rfl) ?_
  refine lv_iload_n hx i4 lt_d3 rfl (lv_at hl 1 rfl) ?_
  refine in_VT (As := [.int v]) (rest := [.int 0, .ref w]) (R' := lt_R1) (mc := 1) (ms := 6) (free := fun q => sz0 ≤ q) (THQ := TH D dA scr sz0 s u0 k H) hx i4 (own := "FlitTorusLaw") i3 (wd lt_w5 rfl) (wd lt_w6 rfl) (wd lt_w7 rfl) (wd lt_w8 rfl) (by decide) (by decide) g1 (by rw [g3]; rfl) hcl lt_len (by rw [i5]; exact hl.1) lt_d4 hfr (by
    have : fx_ml mm_Torus_take = 5 := ml121
    show 2 + (fx_ml mm_Torus_take + 11) + 311 ≤ R.locals
    omega) (by show 0 + 1 ≤ R.cells; omega) (by show 0 + 6 ≤ R.slots; omega) (fun sk2 mk2 methk2 ck2 bel2 hin2 => ?_) (fun xx L T' hTH hL X => ?_)
  · have cx2 : CX u0 sk2 := ⟨hcx.1.trans hin2.2.1, fun q hq => by rw [hin2.1, ← i1]; exact hcx.2 q hq⟩
    exact tk_body hk hm hx htr hB cx2 hz hin2 hrep (hctx.warm hin2.2.1) hf hw hts (Nat.le_refl 8) (by show 280 ≤ 311; omega) (Nat.le_refl 1) (Nat.le_refl 6)
  · obtain ⟨t1, t2, ce, t3, t4, t5⟩ := hTH
    have own1 := hB.own (A' := A) hcx (Or.inl rfl : (1 : Nat) = 1 ∨ (1 : Nat) = 2)
    have own2 := hB.own (A' := A) hcx (Or.inr rfl : (2 : Nat) = 1 ∨ (2 : Nat) = 2)
    obtain ⟨c1, c1', e1, e1', e1''⟩ := Cond.castable_spec (own1 _ lt_w11)
    obtain ⟨c2, c2', e2, e2', e2''⟩ := Cond.castable_spec (own2 _ lt_w12)
    cases e1.symm.trans e1'
    cases e2.symm.trans e2'
    have hno : sk.vm.assignable c2 c1 = false := by
      have h := hB.2.2.2.2
      have h1 := Cond.castAtom_setVm (args := A) (s := u0) (vm' := sk.vm) hcx.1.alike _ rfl h
      simp only [Cond.before, Cond.holds, Cond.value] at h1
      have f1 : (u0.setVm sk.vm).vm.findClass "java/lang/IllegalStateException" = some c2 := e2
      have f2 : (u0.setVm sk.vm).vm.findClass "java/lang/IllegalArgumentException" = some c1 := e1
      rw [f1, f2] at h1
      have f3 : (u0.setVm sk.vm).vm = sk.vm := rfl
      rw [f3] at h1
      cases q : sk.vm.assignable c2 c1 with
      | false => rfl
      | true => simp [q] at h1
    have hcls : sk.vm.findClass (tk_cl k) = some ce.cls := (hcx.1.alike.findClass _ _).trans t5
    have hob : ce.vm.isStatics = false := by rw [t4]; rfl
    have hk2 : (k = 1 ∧ sk.vm.assignable ce.cls c1 = true) ∨ (k = 2 ∧ sk.vm.assignable ce.cls c1 = false ∧ sk.vm.assignable ce.cls c2 = true) := by
      rcases hk with e | e <;> subst e
      · left
        have : ce.cls = c1 := Option.some.inj (hcls.symm.trans e1)
        rw [this]; exact ⟨rfl, e1''⟩
      · right
        have : ce.cls = c2 := Option.some.inj (hcls.symm.trans e2)
        rw [this]; exact ⟨rfl, hno, e2''⟩
    have hk0 : ∃ k, sk.vm.classes[ce.cls]? = some k := by
      rcases hk with e | e <;> subst e
      · obtain ⟨c3, k3, q1, q2, -⟩ := Cond.instantiable_spec (wd (A' := A) (tk_w 1 (by omega) (by omega)).1.2.1 rfl)
        have : ce.cls = c3 := Option.some.inj (hcls.symm.trans q1)
        rw [this]; exact ⟨k3, q2⟩
      · obtain ⟨c3, k3, q1, q2, -⟩ := Cond.instantiable_spec (wd (A' := A) (tk_w 2 (by omega) (by omega)).1.2.1 rfl)
        have : ce.cls = c3 := Option.some.inj (hcls.symm.trans q1)
        rw [this]; exact ⟨k3, q2⟩
    obtain ⟨vm', X', hst⟩ := ct_catch (g := F0 mk 4 LS [.int 0, .ref w]) (k := k) X rfl (own := "FlitTorusLaw") i3 t3 hob i9 (by show 4 < 9; omega) (wd lt_w9 rfl) (wd lt_w10 rfl) e1 e2 hk0 hk2
    have fin : W p l e R sk mk [Value.ref x, Value.int v, Value.ref w].toArray bel methk ck T'.heap ([] ++ L) (0 + 1) (0 + 6) (MQ bel (LQ D dA scr sz0 (fx_gap s 1 6) (nI k) H) [Value.ref x, Value.int v, Value.ref w].toArray sk 1 6 (fun q => sz0 ≤ q)) (F0 mk (if k = 1 then 12 else 15) LS [.ref xx]) := by
      have hq : ∀ t : State, t.heap = T'.heap → sk.WarmedH t.vm → LQ D dA scr sz0 (fx_gap s 1 6) (nI k) H [Value.ref x, Value.int v, Value.ref w].toArray sk (.returned (some (.int (nI k)))) t := fun t e1 _ => ⟨rfl, by rw [e1]; exact t1, fun q hq => by rw [e1]; exact t2 q hq⟩
      have hL' : ∀ q ∈ [] ++ L, sz0 ≤ q.base := fun q hq => hL q (by simpa using hq)
      rcases hk with e | e <;> subst e
      · refine lv_astore_n (lv' := [(3, .ref xx), (0, .ref x), (1, .int v), (2, .ref w)]) hx i4 lt_d12 rfl hl (by decide) rfl (fun ls hl => ?_)
        refine lv_iconst (v := nI 1) hx i4 lt_d13 (by decide) ?_
        exact W.iret hx i4 i6 hq hL' lt_d14 i7
      · refine lv_astore_n (lv' := [(3, .ref xx), (0, .ref x), (1, .int v), (2, .ref w)]) hx i4 lt_d15 rfl hl (by decide) rfl (fun ls hl => ?_)
        refine lv_iconst (v := nI 2) hx i4 lt_d16 (by decide) ?_
        exact W.iret hx i4 i6 hq hL' lt_d17 i7
    obtain ⟨t, st, qt⟩ := fin (T'.setVm vm') rfl X'
    exact ⟨t, hst t st, qt⟩
end
