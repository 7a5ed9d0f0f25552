/-! THE LAW'S OWN take, when it answers; and its call -/
section
variable {p : Program} {l : Launch} {e : Env} {R : Room} {u0 sk u : State} {m mk : MethodId} {A args : Array Value} {below bel : List Frame} {meth methk : Method} {c ck : Code} {H : Heap} {D : va_G} {dA : Nat → ClassId} {scr : Cell} {sz0 nS lS k x w : Nat} {v y : Int32} {s t : fx_S} {Qf : State → Prop} {mi pc np r1 r2 : Nat} {i : Instr} {ls : fx_L} {st : List fx_V}
/-- a call of which the run is known -/
theorem gg_k3 (I : fx_in mi p R u m args meth c D dA scr) (ht : fx_tab mi pc = some (i, np, r1, r2)) {m2 pc' n : Nat} {as : List fx_V} {ls' : fx_L} {st' : List fx_V} {s' s1 : fx_S} {r : Option fx_V} (ha : fx_act mi pc i np r1 r2 ls st s = fx_K m2 as pc' ls' st' s') (hm : m2 < 132) (hT : m2 ≠ mm_Torus_take ∨ ∃ x, r = some (.inl x)) (hlen : as.length ≤ fx_ml m2) (h2 : fx_wp n m2 0 (fx_pad (fx_ml m2) as) [] s' (fx_eq r s1)) (b1 : fx_nx s1 - nS ≤ R.cells) (b2 : fx_sl s1 - lS ≤ R.slots) (h1 : fx_G p l e R u m args below meth c Qf D dA scr sz0 nS lS mi pc' ls' (r.toList ++ st') s1) : fx_G p l e R u m args below meth c Qf D dA scr sz0 nS lS mi pc ls st s := by
  intro hl hv
  obtain ⟨w, hok, -, -⟩ := fx_entry ht
  simp only [fx_okE, Bool.and_eq_true, decide_eq_true_eq] at hok
  have hk := fx_keeps (mi := mi) (pc := pc) (np := np) hok.1.1 hv
  rw [ha] at hk
  obtain ⟨e1, e2, xs, e3, e4⟩ := hk
  subst e1; subst e2
  have hts2 := hv.2.2.2
  rw [e4] at hts2
  obtain ⟨g1, g2⟩ := fx_ts_rev hts2
  rw [← e3] at g1
  obtain ⟨f1, f2, f3, f4⟩ := fx_pres _ _ _ _ _ _ _ _ h2 ⟨hv.1, hv.2.1, fx_tl_pad g1, fun v hv => by cases hv⟩
  have hinv1 : fx_inv s1 ls' (r.toList ++ st') := ⟨f1, f2, hv.2.2.1.ext f3, fx_ts_res f4 (g2.ext f3)⟩
  obtain ⟨-, -, -, -, -, -, hnol, -⟩ := fx_K_inv ha
  have hM := fx_met (scr := scr) (sz0 := sz0) (l := l) (D := D) (dA := dA) (fx_main l D dA scr sz0 n) hm hT h2 hv.1 hv.2.1 g1 hlen hnol
  exact fx_stepK I ht hl hv ha hm hM f3 b1 b2 (h1 hl hinv1)
set_option maxHeartbeats 1000000 in
theorem lt_back {n : Nat} (hx : p.tables.exec = Jvm.exec) (hB : BX u0 A) (hcx : CX u0 sk) (hz : u0.heap.size = sz0) (hin : InB u0 sk (fx_yy 132) (fx_cc 132) 4 (some .int) lt_hh H mk methk ck) (hrep : fx_rep D dA scr sz0 s H) (hctx : fx_ctx D dA scr sk) (hf : fx_fresh s) (hw : fx_wt s) (hts : fx_ts s [vR 10 (some x), vI v, vR 72 (some w)]) (h2 : fx_wp n mm_Torus_take 0 (fx_pad (fx_ml mm_Torus_take) [vR 10 (some x), vI v]) [] s (fx_eq (some (vI y)) t)) (hw1 : fx_ln t w = 1) (hfr : 9 ≤ R.frames) (hlo : 315 ≤ R.locals) (hc : fx_nx t - fx_nx s ≤ R.cells) (hs : fx_sl t - fx_sl s ≤ R.slots) : W p l e R sk mk [Value.ref x, Value.int v, Value.ref w].toArray bel methk ck H [] 0 0 (MQ bel (LQ D dA scr sz0 (fx_sal t w 0 y.toInt64) (nI 0) H) [Value.ref x, Value.int v, Value.ref w].toArray sk (fx_nx t - fx_nx s) (fx_sl t - fx_sl s) (fun q => sz0 ≤ q)) (entryFrame mk [Value.ref x, Value.int v, Value.ref w].toArray 4) := by
  have rk : fx_rk 132 ≤ 9 := by decide +kernel
  have lw : fx_lw 132 ≤ 315 := by decide +kernel
  have m4 : fx_ml 132 = 4 := by decide +kernel
  have re : fx_re 132 = some .int := by decide +kernel
  have hin' : InB u0 sk (fx_yy 132) (fx_cc 132) (fx_ml 132) (fx_re 132) lt_hh H mk methk ck := by rw [m4, re]; exact hin
  have I : fx_in 132 p R sk mk [Value.ref x, Value.int v, Value.ref w].toArray methk ck D dA scr := in_of (Or.inr ⟨_, hin'⟩) hx hB hcx hctx (by omega) (by omega)
  obtain ⟨i1, i2, i3, i4, i5, i6, i7, i8, i9⟩ := hin
  have hn0 : fx_nx s - fx_nx s ≤ R.cells := by omega
  have hs0 : fx_sl s - fx_sl s ≤ R.slots := by omega
  have G0 : fx_G p l e R sk mk [Value.ref x, Value.int v, Value.ref w].toArray bel methk ck (MQ bel (LQ D dA scr sz0 (fx_sal t w 0 y.toInt64) (nI 0) H) [Value.ref x, Value.int v, Value.ref w].toArray sk (fx_nx t - fx_nx s) (fx_sl t - fx_sl s) (fun q => sz0 ≤ q)) D dA scr sz0 (fx_nx s) (fx_sl s) 132 0 (fx_pad 4 [vR 10 (some x), vI v, vR 72 (some w)]) [] s := by
    refine gg_j I ee132_0 rfl trivial hn0 hs0 ?_
    refine gg_j I ee132_1 rfl trivial hn0 hs0 ?_
    refine gg_j I ee132_2 rfl trivial hn0 hs0 ?_
    refine gg_j I ee132_3 rfl trivial hn0 hs0 ?_
    refine gg_k3 I ee132_4 rfl (by decide) (Or.inr ⟨y, rfl⟩) (by rw [ml121]; exact Nat.le_of_ble_eq_true rfl) h2 hc hs ?_
    refine gg_j I ee132_7 rfl trivial hc hs ?_
    have c0 : (fx_ic 0).toNatClampNeg = 0 := by decide
    refine gg_j (C := vp_in (fx_ic 0) (fx_ln t w)) (s' := fx_sal t w (fx_ic 0).toNatClampNeg y.toInt64) I ee132_8 rfl (by rw [hw1]; exact vp_in_nI (n := 0) (by omega) (by omega)) hc hs ?_
    rw [c0]
    refine gg_j I ee132_9 rfl trivial hc hs ?_
    refine gg_j I ee132_18 rfl trivial hc hs ?_
    intro hl hv hn1 hl1 H' locs LS hrep' hlo' hS'
    have d19 : decode (fx_cc 132) 19 = .ok (.ireturn, 1) := by decide +kernel
    have hz1 := hrep.2.1
    have hHs : H.size = fx_nx s := hrep.1
    exact W.iret hx i4 i6 (fun t' e1 _ => ⟨rfl, by rw [e1]; exact hrep', fun q hq => by rw [e1, hS'.2.1 q (by rw [i1]; omega) (by omega), i1]⟩) (fun q hq => hS'.2.2 q hq) d19 i7
  have k := G0 (by rw [m4]; rfl) ⟨hf, hw, fx_tl_pad hts, fun v hv => by cases hv⟩ (Nat.le_refl _) (Nat.le_refl _) H [] _ hrep (fx_entryLo (n := 4) (as := [vR 10 (some x), vI v, vR 72 (some w)]) (Nat.le_of_ble_eq_true rfl) rfl) (by rw [i1]; exact va_S.rf)
  rw [Nat.sub_self, Nat.sub_self] at k
  rw [lg_entry_eq]
  exact k
end
