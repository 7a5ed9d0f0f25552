/-! take WALKED IN PLACE, to its throw -/
theorem rep_gap {D : va_G} {dA : Nat → ClassId} {scr : Cell} {sz0 : Nat} {s : fx_S} {H H1 : Heap} {n : Nat} (h : fx_rep D dA scr sz0 s H) (hf : fx_fresh s) (hz : H1.size = H.size + 1) (ho : ∀ q : Nat, q < H.size → H1[q]? = H[q]?) : fx_rep D dA scr sz0 (fx_gap s 1 n) H1 := by
  obtain ⟨h1, h2, h3, h4⟩ := h
  refine ⟨by rw [hz, h1]; rfl, Nat.le_trans h2 (Nat.le_add_right _ _), h3, fun a => ?_⟩
  rcases Nat.lt_or_ge a H.size with q | q
  · exact (h4 a).cong (s1 := fx_gap s 1 n) rfl (fun _ => rfl) (fun _ => rfl) rfl rfl rfl rfl (ho a q)
  · have k0 : fx_kd (fx_gap s 1 n) a = 0 := hf a (by rw [← h1]; exact q)
    unfold fx_cellok
    rw [k0]
    exact ⟨fun ci r g _ => by omega, fun g => by omega, fun g => by omega, fun g => by omega, fun g => absurd g (by decide), fun g => by omega⟩
/-- what a thrown take leaves -/
def TH (D : va_G) (dA : Nat → ClassId) (scr : Cell) (sz0 : Nat) (s : fx_S) (u0 : State) (k : Nat) (H0 : Heap) (xx : Addr) (H1 : Heap) : Prop := fx_rep D dA scr sz0 (fx_gap s 1 6) H1 ∧ (∀ q : Nat, q < sz0 → H1[q]? = H0[q]?) ∧ ∃ ce, H1[xx]? = some ce ∧ ce.vm = .none ∧ u0.vm.findClass (tk_cl k) = some ce.cls
section
variable {p : Program} {l : Launch} {e : Env} {R : Room} {u u0 sk : State} {mk : MethodId} {A : Array Value} {bel : List Frame} {methk : Method} {ck : Code} {H : Heap} {D : va_G} {dA : Nat → ClassId} {scr : Cell} {sz0 k x : Nat} {v : Int32} {s : fx_S}
theorem in_of {mi : Nat} {args : Array Value} (hin : InB u sk (fx_yy mi) (fx_cc mi) (fx_ml mi) (fx_re mi) [] H mk methk ck ∨ ∃ hh, InB u sk (fx_yy mi) (fx_cc mi) (fx_ml mi) (fx_re mi) hh H mk methk ck) (hx : p.tables.exec = Jvm.exec) (hB : BX u0 A) (hcx : CX u0 sk) (hctx : fx_ctx D dA scr sk) (hfr : fx_rk mi ≤ R.frames) (hlo : fx_lw mi ≤ R.locals) : fx_in mi p R sk mk args methk ck D dA scr := by
  have hin' : ∃ hh, InB u sk (fx_yy mi) (fx_cc mi) (fx_ml mi) (fx_re mi) hh H mk methk ck := by
    rcases hin with h | h
    · exact ⟨_, h⟩
    · exact h
  obtain ⟨hh, i1, i2, i3, i4, i5, i6, i7, i8, i9⟩ := hin'
  exact ⟨hx, i4, i5, i3, fun w hw => xs_word hcx (fx_T1_good hw).2 (hB.1 w (fx_T1_good hw).1), i8, hfr, hlo, hctx⟩
set_option maxHeartbeats 1000000 in
theorem tk_body (hk : k = 1 ∨ k = 2) (hm : TKm k x v s) (hx : p.tables.exec = Jvm.exec) (htr : e.platform.stackTraces = false) (hB : BX u0 A) (hcx : CX u0 sk) (hz : u0.heap.size = sz0) (hin : InB u sk (fx_yy mm_Torus_take) (fx_cc mm_Torus_take) (fx_ml mm_Torus_take) (fx_re mm_Torus_take) [] H mk methk ck) (hrep : fx_rep D dA scr sz0 s H) (hctx : fx_ctx D dA scr sk) (hf : fx_fresh s) (hw : fx_wt s) (hts : fx_ts s [vR 10 (some x), vI v]) (hfr : 8 ≤ R.frames) (hlo : 280 ≤ R.locals) (hc : 1 ≤ R.cells) (hs : 6 ≤ R.slots) : W p l e R sk mk [Value.ref x, Value.int v].toArray bel methk ck H [] 0 0 (TQ bel sk 1 6 (fun q => sz0 ≤ q) (TH D dA scr sz0 s u0 k H)) (entryFrame mk [Value.ref x, Value.int v].toArray (fx_ml mm_Torus_take)) := by
  have rk : fx_rk mm_Torus_take ≤ 8 := by decide +kernel
  have lw : fx_lw mm_Torus_take ≤ 280 := by decide +kernel
  have I : fx_in mm_Torus_take p R sk mk [Value.ref x, Value.int v].toArray methk ck D dA scr := in_of (Or.inl hin) hx hB hcx hctx (by omega) (by omega)
  obtain ⟨i1, i2, i3, i4, i5, i6, i7, i8, i9⟩ := hin
  have hn : fx_nx s - fx_nx s ≤ R.cells := by omega
  have hs0 : fx_sl s - fx_sl s ≤ R.slots := by omega
  have fin : ∀ ls, fx_G p l e R sk mk [Value.ref x, Value.int v].toArray bel methk ck (TQ bel sk 1 6 (fun q => sz0 ≤ q) (TH D dA scr sz0 s u0 k H)) D dA scr sz0 (fx_nx s) (fx_sl s) mm_Torus_take (tk_pc k) ls [] s := by
    intro ls hl hv hn1 hl1 H' locs LS hrep' hlo' hS'
    rw [Nat.sub_self, Nat.sub_self]
    have hHs : H.size = fx_nx s := hrep.1
    have hHs' : H'.size = fx_nx s := hrep'.1
    have hz1 := hrep.2.1
    have hold : ∀ q : Nat, q < sz0 → H'[q]? = H[q]? := fun q hq => by
      rw [hS'.2.1 q (by rw [i1]; omega) (by omega), i1]
    refine thr_W (u0 := u0) (A := A) (cells := 0) (slots := 0) hk hx i4 htr i7 i3 hB (fun U hU hW => ⟨hcx.1.trans hW, fun q hq => ?_⟩) i9 (by rw [i5, ← hl]; exact hlo'.1.1) (by omega) (by omega) (by omega) (by omega) (fun q hq => hS'.2.2 q hq) (fun H1 z1 z2 z3 => ⟨rep_gap hrep' hf z1 z2, fun q hq => ?_, z3⟩)
    · rw [hU, hold q (by omega), ← i1]; exact hcx.2 q hq
    · rw [z2 q (by omega), hold q hq]
  have G0 : fx_G p l e R sk mk [Value.ref x, Value.int v].toArray bel methk ck (TQ bel sk 1 6 (fun q => sz0 ≤ q) (TH D dA scr sz0 s u0 k H)) D dA scr sz0 (fx_nx s) (fx_sl s) mm_Torus_take 0 (fx_pad (fx_ml mm_Torus_take) [vR 10 (some x), vI v]) [] s := by
    rw [ml121]
    obtain ⟨g, hg, hm⟩ := hm
    refine gg_j I ee121_0 rfl trivial hn hs0 ?_
    refine gg_j I ee121_1 rfl trivial hn hs0 ?_
    rw [hg]
    refine gg_j I ee121_4 rfl trivial hn hs0 ?_
    rcases hm with ⟨ek, hM⟩ | ⟨ek, hM, N, a, B, r, n1, n2, n3, n4, n5, n6, n7⟩
    · refine gg_k I ee121_5 rfl (by decide) (by decide) (by rw [ml5]; exact Nat.le_of_ble_eq_true rfl) (xx_q hM (fun r t h => ?_))
      obtain ⟨rfl, rfl⟩ := h
      refine ⟨hn, hs0, ?_⟩
      refine gg_b I ee121_8 rfl (fun q => absurd (by decide) q) (fun _ => ?_)
      subst ek
      exact fin _
    · refine gg_k I ee121_5 rfl (by decide) (by decide) (by rw [ml5]; exact Nat.le_of_ble_eq_true rfl) (xx_q hM (fun r t h => ?_))
      obtain ⟨rfl, rfl⟩ := h
      refine ⟨hn, hs0, ?_⟩
      refine gg_b I ee121_8 rfl (fun _ => ?_) (fun q => absurd (fun z => absurd z (by decide)) q)
      refine gg_j I ee121_21 rfl trivial hn hs0 ?_
      refine gg_j I ee121_22 rfl trivial hn hs0 ?_
      rw [n1]
      refine gg_j I ee121_25 rfl trivial hn hs0 ?_
      have hca : v.toNatClampNeg = a := by rw [n3]; exact nI_clamp (by omega)
      refine gg_j (C := vp_in v (fx_ln t N)) I ee121_26 rfl (by rw [n2, n3]; exact vp_in_nI n4 (by omega)) hn hs0 ?_
      rw [hca, n5]
      refine gg_j I ee121_27 rfl trivial hn hs0 ?_
      rw [n6]
      refine gg_j I ee121_30 rfl trivial hn hs0 ?_
      refine gg_j I ee121_31 rfl trivial hn hs0 ?_
      refine gg_j I ee121_32 rfl trivial hn hs0 ?_
      rw [n7]
      refine gg_b I ee121_35 rfl (fun q => absurd (by decide) q) (fun _ => ?_)
      subst ek
      exact fin _
  have k := G0 (fx_pad_len _ _ (by rw [ml121]; exact Nat.le_of_ble_eq_true rfl)) ⟨hf, hw, fx_tl_pad hts, fun v hv => by cases hv⟩ (Nat.le_refl _) (Nat.le_refl _) H [] _ hrep (fx_entryLo (by rw [ml121]; exact Nat.le_of_ble_eq_true rfl) rfl) (by rw [i1]; exact va_S.rf)
  rw [Nat.sub_self, Nat.sub_self] at k
  rw [lg_entry_eq]
  exact k
end
