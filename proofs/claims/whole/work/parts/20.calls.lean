/-! CALLS -/
def fx_Pc (D : va_G) (dA : Nat → ClassId) (scr : Cell) (sz0 : Nat) (as : List fx_V) (s : fx_S) : Array Value → State → Prop := fun v U => v = (as.map fx_val).toArray ∧ fx_rep D dA scr sz0 s U.heap ∧ fx_ctx D dA scr U
def fx_Qc (D : va_G) (dA : Nat → ClassId) (scr : Cell) (sz0 : Nat) (r : Option fx_V) (s1 : fx_S) : Array Value → State → Outcome → State → Prop := fun _ st o t => o = .returned (r.map fx_val) ∧ fx_rep D dA scr sz0 s1 t.heap ∧ va_F (fun q => sz0 ≤ q) st t
def fx_ws (m2 : Nat) : List Cond := Cond.code (fx_yy m2) (fx_cc m2) (fx_ml m2) (fx_re m2) :: fx_T1
def fx_rm (m2 : Nat) (s s1 : fx_S) : Room := { frames := fx_rk m2, cells := fx_nx s1 - fx_nx s, slots := fx_sl s1 - fx_sl s, locals := fx_lw m2 }
def fx_Met (l : Launch) (D : va_G) (dA : Nat → ClassId) (scr : Cell) (sz0 : Nat) (m2 : Nat) (as : List fx_V) (s : fx_S) (r : Option fx_V) (s1 : fx_S) : Prop := Met l (fx_yy m2) (fx_ws m2) (fx_rm m2 s s1) (fx_Pc D dA scr sz0 as s) (fx_Qc D dA scr sz0 r s1) (fx_nx s1 - fx_nx s) (fx_sl s1 - fx_sl s) (fun q => sz0 ≤ q)
theorem fx_codeIn {m2 : Nat} (h : m2 < 132) : Cond.code (fx_yy m2) (fx_cc m2) (fx_ml m2) (fx_re m2) ∈ fx_T1 := List.mem_filter.mpr ⟨fx_cwIn h, rfl⟩
theorem fx_goodws {m2 : Nat} (h : m2 < 132) : GoodIn fx_T1 (fx_ws m2) := by
  intro w hw
  have h1 : w ∈ fx_T1 := by
    rcases List.mem_cons.mp hw with e | e
    · rw [e]; exact fx_codeIn h
    · exact e
  exact ⟨h1, good_of_word (fx_T1_good h1).2⟩
theorem fx_blind {D : va_G} {dA : Nat → ClassId} {scr : Cell} {sz0 : Nat} {as : List fx_V} {s : fx_S} : FrameBlind (fx_Pc D dA scr sz0 as s) := by
  intro a U g mk h
  exact ⟨h.1, h.2.1, fx_ctx.warm (u := U) (U := U.calling g mk a) (State.WarmedH.refl U) h.2.2⟩
theorem fx_sub3 {a b c : Nat} (h1 : c ≤ a) (h2 : a ≤ b) : a - c + (b - a) = b - c := by omega
theorem fx_okC_spec {mi idx m2 n w : Nat} (h : fx_okC mi idx m2 n w = true) : fx_rk m2 < fx_rk mi ∧ 19 + fx_ml m2 + fx_lw m2 ≤ fx_lw mi ∧ (parseMethodDescriptor (fx_yy m2).desc).map (fun d => d.parameters.length) = some n ∧ (Cond.methodLink (fx_yy mi).cls idx (fx_yy m2) ∈ fx_T1 ∨ Cond.methodLinkNest (fx_yy mi).cls idx (fx_yy m2) "FlitTorus" ∈ lw_tbl) := by
  simp only [fx_okC, Bool.and_eq_true, Nat.blt_eq, decide_eq_true_eq, fx_lk, Bool.or_eq_true] at h
  obtain ⟨⟨⟨⟨-, h1⟩, h2⟩, h3⟩, h4⟩ := h
  refine ⟨h1, Nat.le_of_ble_eq_true h2, h3, ?_⟩
  rcases h4 with h4 | h4
  · exact Or.inl (fx_wd_in h4)
  · exact Or.inr (List.mem_of_getElem? h4)
theorem fx_notS {mi : Nat} (h : fx_isI mi = true) (g : fx_isS mi = true) : False := by
  simp only [fx_isI, fx_isS, fx_wd, Bool.and_eq_true, decide_eq_true_eq] at h g
  have := h.1.symm.trans g.1
  cases this
section
variable {p : Program} {l : Launch} {e : Env} {R : Room} {u : State} {m : MethodId} {args : Array Value} {below : List Frame} {meth : Method} {c : Code} {Qf : State → Prop} {D : va_G} {dA : Nat → ClassId} {scr : Cell} {sz0 nS lS : Nat} {mi pc np r1 r2 : Nat} {i : Instr} {ls : fx_L} {st : List fx_V} {s : fx_S} {H : Heap} {locs : List Loc} {cells slots mc ms : Nat} {LS : Array Slot}
theorem fx_cont {r : Option fx_V} {s1 : fx_S} {a0 : Array Value} {st0 rest : List Value} (hr : va_Run p l e R u m args below meth c H locs cells slots mc ms (F0 m pc LS st0) rest (fx_Qc D dA scr sz0 r s1 a0) (fun q => sz0 ≤ q)) (hS : va_S (fun q => sz0 ≤ q) u.heap H locs)
    (k : ∀ (H1 : Heap) (locs1 : List Loc), fx_rep D dA scr sz0 s1 H1 → va_S (fun q => sz0 ≤ q) u.heap H1 locs1 → W p l e R u m args below meth c H1 locs1 (cells + mc) (slots + ms) Qf (F0 m (pc + 3) LS ((r.map fx_val).toList ++ rest))) : W p l e R u m args below meth c H locs cells slots Qf (F0 m pc LS st0) := by
  intro T hT X
  obtain ⟨v, st₀, t, T', L, h0, X', hL, e1, e2, ⟨hv, hrep, hz, hk⟩, st⟩ := hr T hT X
  cases hv
  rw [h0] at hz hk
  obtain ⟨t2, a1, b1⟩ := k T'.heap (locs ++ L) (by rw [e1]; exact hrep) ⟨Nat.le_trans hS.1 (by rw [e1]; exact hz), fun q h1 h2 => by rw [e1, hk q (Nat.lt_of_lt_of_le h1 hS.1) h2]; exact hS.2.1 q h1 h2, fun q hq => by
      rcases List.mem_append.mp hq with h | h
      · exact hS.2.2 q h
      · exact hL q h⟩ T' rfl X'
  exact ⟨t2, st t2 a1, b1⟩
theorem fx_mapres (r : Option fx_V) (st : List fx_V) : (r.map fx_val).toList ++ st.map fx_val = (r.toList ++ st).map fx_val := by cases r <;> rfl
/-- a call, by the callee's contract -/
theorem fx_stepK (I : fx_in mi p R u m args meth c D dA scr) (ht : fx_tab mi pc = some (i, np, r1, r2)) (hl : ls.length = fx_ml mi) (hv : fx_inv s ls st) {m2 pc' : Nat} {as : List fx_V} {ls' : fx_L} {st' : List fx_V} {s' : fx_S} (ha : fx_act mi pc i np r1 r2 ls st s = fx_K m2 as pc' ls' st' s') (hm2 : m2 < 132) {r : Option fx_V} {s1 : fx_S} (hM : fx_Met l D dA scr sz0 m2 as s r s1) (he : fx_ext s s1) (hcells : fx_nx s1 - nS ≤ R.cells) (hslots : fx_sl s1 - lS ≤ R.slots)
    (k : fx_Sd p l e R u m args below meth c Qf D dA scr sz0 nS lS pc' ls' (r.toList ++ st') s1) : fx_Sd p l e R u m args below meth c Qf D dA scr sz0 nS lS pc ls st s := by
  intro hn1 hl1 H locs LS hrep hlo hS
  obtain ⟨z1, z2, z3, z4, hst4, ⟨xs, hxs, hst, hxl⟩, hnol, hkind⟩ := fx_K_inv ha
  have z1 := z1.symm
  have z2 := z2.symm
  have z3 := z3.symm
  have z4 := z4.symm
  subst z1; subst z2; subst z3; subst z4
  obtain ⟨w, hok, hkd, -⟩ := fx_entry ht
  have hMok := fx_meth hm2
  have I' := I
  obtain ⟨hx, hb, hml, hown, hts, hnm, hfr, hlw, hctx⟩ := I
  simp only [fx_okE, Bool.and_eq_true, decide_eq_true_eq] at hok
  obtain ⟨⟨-, hd⟩, hok⟩ := hok
  simp only [fx_okM, Bool.and_eq_true, Bool.not_eq_true', Bool.or_eq_true, beq_iff_eq, beq_eq_false_iff_ne] at hMok
  obtain ⟨⟨⟨⟨⟨wn, hpl⟩, hmh⟩, hvh⟩, hrt⟩, hcls⟩ := hMok
  have hini := hts _ (fx_wd_in wn)
  have hcat := fx_cat st'
  have hroom : 2 * (F0 m pc LS (st.map fx_val)).monitorRoom + ((st'.map fx_val).map fun v => v.category).sum ≤ 8 := lv_room (by omega)
  have e1 := he.1
  have e2 := he.2.1
  have hsz : LS.size = fx_ml mi := by rw [← hl]; exact hlo.1.1
  have hPre : ∀ U : State, U.heap = H → u.WarmedH U.vm → fx_Pc D dA scr sz0 as s (as.map fx_val).toArray U := fun U hU hW => ⟨rfl, by rw [hU]; exact hrep, hctx.warm hW⟩
  have hgo : ∀ {a0 : Array Value}, va_Run p l e R u m args below meth c H locs (fx_nx s - nS) (fx_sl s - lS) (fx_nx s1 - fx_nx s) (fx_sl s1 - fx_sl s) (F0 m pc LS (st.map fx_val)) (st'.map fx_val) (fx_Qc D dA scr sz0 r s1 a0) (fun q => sz0 ≤ q) → np = pc + 3 → W p l e R u m args below meth c H locs (fx_nx s - nS) (fx_sl s - lS) Qf (F0 m pc LS (st.map fx_val)) := by
    intro a0 hr hpc
    refine fx_cont hr hS fun H1 locs1 g1 g2 => ?_
    have kk := k (by omega) (by omega) H1 locs1 LS g1 hlo g2
    rw [hpc, ← fx_mapres] at kk
    rw [fx_sub3 hn1 e1, fx_sub3 hl1 e2]
    exact kk
  have hf : fx_nx s - nS + (fx_nx s1 - fx_nx s) ≤ R.cells ∧ fx_sl s - lS + (fx_sl s1 - fx_sl s) ≤ R.slots := ⟨by omega, by omega⟩
  have stk : ∀ (v : fx_V) (as' : List fx_V), as = v :: as' → st.map fx_val = (as'.map fx_val).reverse ++ fx_val v :: st'.map fx_val := by
    intro v as' h
    have hx2 : xs = as'.reverse ++ [v] := by
      have := congrArg List.reverse (hxs.symm.trans h)
      simpa using this
    rw [hst, hx2]
    simp
  have recv : ∀ (tg a : Nat) (as' : List fx_V), as = .inr (.inl (tg, some a)) :: as' → tg = r2 / 16 → r2 / 16 = 10 + fx_ci r1 → (fx_yy r1).cls = fx_Cn (fx_ci r1) ∧ fx_ci r1 < 13 → ∃ cell : Cell, H[a]? = some cell ∧ cell.vm.isStatics = false ∧ u.vm.findClass (fx_yy r1).cls = some cell.cls := by
    intro tg a as' h1 h2 h3 h4
    have hka : fx_kd s a = 10 + fx_ci r1 := by
      have hmem : (.inr (.inl (tg, some a)) : fx_V) ∈ st := by
        rw [hst]
        refine List.mem_append_left _ ?_
        have : (.inr (.inl (tg, some a)) : fx_V) ∈ xs.reverse := by rw [← hxs, h1]; exact List.mem_cons_self
        exact List.mem_reverse.mp this
      have := (hv.2.2.2 _ hmem).1
      omega
    obtain ⟨q, hq⟩ := fx_cls_ex h4.2
    obtain ⟨cell, q1, q2, q3, -⟩ := (hrep.2.2.2 a).1 _ q hka hq
    exact ⟨cell, q1, by rw [q3]; rfl, by rw [h4.1, (fx_Cn_eq hq).1, q2]; exact (hctx.1.1 _ q hq).2.1⟩
  rcases hkind with ⟨idx, tg, a, as', rfl, h1000, has, hcc⟩ | ⟨idx, tg, a, as', rfl, has, hcc⟩ | ⟨idx, rfl, h1001⟩
  · have h9 : (r1 == 1000) = false := by simpa using h1000
    simp only [h9, cond_false, Bool.and_eq_true, beq_iff_eq] at hok
    obtain ⟨hnp, ⟨⟨hname, h16⟩, h1⟩, hC⟩ := hok
    simp only [fx_kindE, h9, Bool.false_or, Bool.and_eq_true] at hkd
    rw [hnp, show pc + 3 - pc = 3 by omega] at hd
    obtain ⟨c1, c2, c3, c4⟩ := fx_okC_spec hC
    have hre : fx_re r1 = none := by
      have := List.all_eq_true.mp fx_inits r1 (List.mem_range.mpr hm2)
      simp only [hname, beq_self_eq_true, Bool.not_true, Bool.false_or, decide_eq_true_eq] at this
      exact this
    have hi := hts _ (fx_wd_in hkd.1.1)
    have hn : (as'.map fx_val).length = r2 % 16 - 1 := by
      have := congrArg List.length hxs
      rw [has] at this
      simp only [List.length_cons, List.length_reverse] at this
      simp only [List.length_map]
      omega
    have hMM : Met l (fx_yy r1) (Cond.code (fx_yy r1) (fx_cc r1) (fx_ml r1) none :: fx_T1) (fx_rm r1 s s1) (fx_Pc D dA scr sz0 as s) (fx_Qc D dA scr sz0 r s1) (fx_nx s1 - fx_nx s) (fx_sl s1 - fx_sl s) (fun q => sz0 ≤ q) := by
      rw [← hre]; exact hM
    have hG : GoodIn fx_T1 (Cond.code (fx_yy r1) (fx_cc r1) (fx_ml r1) none :: fx_T1) := by
      rw [← hre]; exact fx_goodws hm2
    have hstk := stk _ _ has
    subst has
    rcases c4 with c4 | c4
    · exact hgo (va_runI (As := as'.map fx_val) (b := a) ⟨hx, hb, hml, hown, hts⟩ hMM ⟨callB_of _ hts hG rfl rfl rfl hini (hts _ c4) ⟨hmh, hvh, c3⟩ ⟨by show fx_rk r1 + 1 ≤ _; omega, by show _ + fx_lw r1 ≤ _; omega⟩, hname, hi⟩ ⟨fx_blind, hPre⟩ rfl hn hsz hstk hroom hd hf) hnp
    · exact hgo (va_runIN (As := as'.map fx_val) (b := a) ⟨hx, hb, hml, hown, hts⟩ hMM ⟨va_cnB _ hts hG rfl rfl rfl (hctx.2.1 _ _ _ c4) hini ⟨hmh, hvh, c3⟩ ⟨by show fx_rk r1 + 1 ≤ _; omega, by show _ + fx_lw r1 ≤ _; omega⟩, hname, hi⟩ ⟨fx_blind, hPre⟩ rfl hn hsz hstk hroom hd hf) hnp
  · simp only [Bool.and_eq_true, beq_iff_eq] at hok
    obtain ⟨⟨⟨hnp, h16⟩, h1⟩, hC⟩ := hok
    simp only [fx_kindE, fx_isV, Bool.and_eq_true] at hkd
    rw [hnp, show pc + 3 - pc = 3 by omega] at hd
    obtain ⟨c1, c2, c3, c4⟩ := fx_okC_spec hC
    have hi := hts _ (fx_wd_in hkd.1.1.1)
    have hse := hts _ (fx_wd_in hkd.1.1.2)
    have hcl : (fx_yy r1).cls = fx_Cn (fx_ci r1) ∧ fx_ci r1 < 13 := by
      rcases hcls with q | q
      · exact ⟨q.1, by simpa [Nat.blt_eq] using q.2⟩
      · exact absurd (fx_wd_in q) (fun _ => fx_notS hkd.1.1.1 q)
    have hrc := recv tg a as' has hcc h16 hcl
    have hn : (as'.map fx_val).length = r2 % 16 - 1 := by
      have := congrArg List.length hxs
      rw [has] at this
      simp only [List.length_cons, List.length_reverse] at this
      simp only [List.length_map]
      omega
    have hstk := stk _ _ has
    subst has
    rcases c4 with c4 | c4
    · exact hgo (va_runV (As := as'.map fx_val) (b := a) (C := (fx_yy r1).cls) ⟨hx, hb, hml, hown, hts⟩ hM ⟨callB_of _ hts (fx_goodws hm2) rfl rfl rfl hini (hts _ c4) ⟨hmh, hvh, c3⟩ ⟨by show fx_rk r1 + 1 ≤ _; omega, by show _ + fx_lw r1 ≤ _; omega⟩, hi, hse⟩ ⟨fx_blind, hrc, hPre⟩ rfl hn hsz hstk hroom hd hf) hnp
    · exact hgo (va_runVN (As := as'.map fx_val) (b := a) (C := (fx_yy r1).cls) ⟨hx, hb, hml, hown, hts⟩ hM ⟨va_cnB _ hts (fx_goodws hm2) rfl rfl rfl (hctx.2.1 _ _ _ c4) hini ⟨hmh, hvh, c3⟩ ⟨by show fx_rk r1 + 1 ≤ _; omega, by show _ + fx_lw r1 ≤ _; omega⟩, hi, hse⟩ ⟨fx_blind, hrc, hPre⟩ rfl hn hsz hstk hroom hd hf) hnp
  · have h9 : (r1 == 1001) = false := by simpa using h1001
    simp only [h9, cond_false, Bool.and_eq_true, beq_iff_eq] at hok
    obtain ⟨hnp, hC⟩ := hok
    simp only [fx_kindE, h9, Bool.false_or, Bool.and_eq_true] at hkd
    rw [hnp, show pc + 3 - pc = 3 by omega] at hd
    obtain ⟨c1, c2, c3, c4⟩ := fx_okC_spec hC
    have hi := hts _ (fx_wd_in hkd.1.1)
    have hn : (as.map fx_val).length = r2 % 16 := by
      rw [hxs]
      simp [hxl]
    have hstk : st.map fx_val = (as.map fx_val).reverse ++ st'.map fx_val := by
      rw [hst, hxs]
      simp
    rcases c4 with c4 | c4
    · exact hgo (va_runS (As := as.map fx_val) ⟨hx, hb, hml, hown, hts⟩ hM ⟨callB_of _ hts (fx_goodws hm2) rfl rfl rfl hini (hts _ c4) ⟨hmh, hvh, c3⟩ ⟨by show fx_rk r1 + 1 ≤ _; omega, by show _ + fx_lw r1 ≤ _; omega⟩, hi⟩ ⟨fx_blind, hPre⟩ rfl hn hsz hstk hroom hd hf) hnp
    · exact hgo (va_runSN (As := as.map fx_val) ⟨hx, hb, hml, hown, hts⟩ hM ⟨va_cnB _ hts (fx_goodws hm2) rfl rfl rfl (hctx.2.1 _ _ _ c4) hini ⟨hmh, hvh, c3⟩ ⟨by show fx_rk r1 + 1 ≤ _; omega, by show _ + fx_lw r1 ≤ _; omega⟩, hi, trivial⟩ ⟨fx_blind, hPre⟩ rfl hn hsz hstk hroom hd hf) hnp
end
