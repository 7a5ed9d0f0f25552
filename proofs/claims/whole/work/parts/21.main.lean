/-! THE PURE MACHINE'S RUNS ARE THE MACHINE'S -/
def fx_retE (mi : Nat) (e : fx_E) : Bool := match e with
  | (_, (i, _, _, _), _) => match i with
    | .ireturn => fx_rt mi == 1 || fx_rt mi == 2
    | .areturn => fx_rt mi == 3
    | .return_ => fx_rt mi == 0
    | _ => true
theorem fx_rets : fx_cs.zipIdx.all (fun q => q.1.all (fx_retE q.2)) = true := by decide +kernel
theorem fx_entryR {mi pc : Nat} {i : fx_I} (h : fx_tab mi pc = some i) : ∃ w, fx_retE mi (pc, i, w) = true := by
  obtain ⟨w, hw⟩ := fx_look_mem _ h
  refine ⟨w, ?_⟩
  unfold fx_code at hw
  rw [List.getD_eq_getElem?_getD] at hw
  cases hc : fx_cs[mi]? with
  | none => rw [hc] at hw; simp at hw
  | some l =>
    rw [hc] at hw
    have hz : (l, mi) ∈ fx_cs.zipIdx := by
      rw [List.mem_iff_getElem?]
      exact ⟨mi, by rw [List.getElem?_zipIdx, hc]; simp⟩
    exact List.all_eq_true.mp (List.all_eq_true.mp fx_rets _ hz) _ hw
theorem fx_subR {a b c n : Nat} (h : a ≤ b) (g : b - c ≤ n) : a - c ≤ n := by omega
theorem fx_nol_cat : ∀ (as : List fx_V), fx_nol as = true → ∀ v ∈ as, (fx_val v).category = 1
  | [], _, v, hv => by cases hv
  | .inl x :: l, h, v, hv => by
    rcases List.mem_cons.mp hv with e | e
    · subst e; rfl
    · exact fx_nol_cat l h v e
  | .inr (.inl (t, o)) :: l, h, v, hv => by
    rcases List.mem_cons.mp hv with e | e
    · subst e; cases o <;> rfl
    · exact fx_nol_cat l h v e
  | .inr (.inr x) :: l, h, v, hv => by cases h
theorem fx_sl_len : ∀ (vs : List Value), (∀ v ∈ vs, v.category = 1) → (lg_sl vs).length = vs.length
  | [], _ => rfl
  | v :: l, h => by
    have h1 : ¬ v.category = 2 := by rw [h v List.mem_cons_self]; decide
    have := fx_sl_len l (fun w hw => h w (List.mem_cons_of_mem _ hw))
    unfold lg_sl at this ⊢
    simp [List.flatMap_cons, h1, this]
theorem fx_args_mem : ∀ (as : List fx_V) (k i : Nat) (v : fx_V), (∀ v ∈ as, (fx_val v).category = 1) → as[i]? = some v → (k + i, fx_val v) ∈ lv_args k (as.map fx_val)
  | [], k, i, v, _, h => by simp at h
  | a :: l, k, 0, v, _, h => by
    simp at h
    subst h
    simp [lv_args]
  | a :: l, k, i + 1, v, hc, h => by
    have h1 : ¬ (fx_val a).category = 2 := by rw [hc a List.mem_cons_self]; decide
    have := fx_args_mem l (k + 1) i v (fun w hw => hc w (List.mem_cons_of_mem _ hw)) (by simpa using h)
    simp only [List.map_cons, lv_args, h1, if_false, List.mem_cons]
    right
    rw [show k + (i + 1) = k + 1 + i by omega]
    exact this
theorem fx_entryLo {n : Nat} {as : List fx_V} (hl : as.length ≤ n) (hn : fx_nol as = true) : fx_lo (fx_pad n as) ((lg_sl (as.map fx_val) ++ List.replicate (n - (lg_sl (as.map fx_val)).length) Slot.unset).toArray) := by
  have hc := fx_nol_cat as hn
  have hlen : (lg_sl (as.map fx_val)).length ≤ n := by
    rw [fx_sl_len _ (fun v hv => by obtain ⟨w, hw, rfl⟩ := List.mem_map.mp hv; exact hc w hw), List.length_map]
    exact hl
  have h1 := lv_entry (as.map fx_val) hlen
  refine ⟨⟨by rw [fx_pad_len n as hl]; exact h1.1, h1.2.1, fun q hq => ?_⟩, fun i v hv => hc v (List.mem_of_getElem? (fx_get_pad n as i v hv))⟩
  obtain ⟨i, v, e1, e2⟩ := (fx_pairs_mem _ 0 q).mp hq
  subst e1
  exact h1.2.2 _ (fx_args_mem as 0 i v hc (fx_get_pad n as i v e2))
def fx_P (l : Launch) (D : va_G) (dA : Nat → ClassId) (scr : Cell) (sz0 n : Nat) : Prop := ∀ mi pc ls st s r0 s0, mi < 132 → (mi ≠ mm_Torus_take ∨ ∃ x, r0 = some (.inl x)) → fx_wp n mi pc ls st s (fx_eq r0 s0) → ls.length = fx_ml mi → fx_inv s ls st →
  ∀ p e R u m args below meth c nS lS, fx_in mi p R u m args meth c D dA scr → meth.sig.returnType = fx_re mi → meth.locks = false → fx_nx s0 - nS ≤ R.cells → fx_sl s0 - lS ≤ R.slots →
  fx_Sd p l e R u m args below meth c (MQ below (fx_Qc D dA scr sz0 r0 s0) args u (fx_nx s0 - nS) (fx_sl s0 - lS) (fun q => sz0 ≤ q)) D dA scr sz0 nS lS pc ls st s
theorem fx_met {l : Launch} {D : va_G} {dA : Nat → ClassId} {scr : Cell} {sz0 n : Nat} (ih : fx_P l D dA scr sz0 n) {m2 : Nat} {as : List fx_V} {s s1 : fx_S} {r : Option fx_V} (hm : m2 < 132) (ht : m2 ≠ mm_Torus_take ∨ ∃ x, r = some (.inl x)) (hw : fx_wp n m2 0 (fx_pad (fx_ml m2) as) [] s (fx_eq r s1)) (hf : fx_fresh s) (hwt : fx_wt s) (has : fx_ts s as) (hl : as.length ≤ fx_ml m2) (hn : fx_nol as = true) : fx_Met l D dA scr sz0 m2 as s r s1 := by
  have hMok := fx_meth hm
  simp only [fx_okM, Bool.and_eq_true] at hMok
  refine Met.ofW (cc := fx_cc m2) (maxL := fx_ml m2) (ret := fx_re m2) hMok.1.1.1.1.2 rfl ?_
  intro p e u m args below meth c s₁ B hml hP
  obtain ⟨rfl, hrep, hctx⟩ := hP
  have hts := atoms_spec (ws := fx_ws m2) B.pre
  have I : fx_in m2 p (headSpec (fx_ws m2) (fx_rm m2 s s1)).room u m (as.map fx_val).toArray meth c D dA scr := ⟨B.exec, B.bytes, hml, findClass_of_methodNamed B.named, fun w hw => hts w (List.mem_cons_of_mem _ hw), (name_of_methodNamed B.named B.method).1, Nat.le_refl _, Nat.le_refl _, hctx⟩
  rw [lg_entry_eq]
  have k := ih m2 0 (fx_pad (fx_ml m2) as) [] s r s1 hm ht hw (fx_pad_len _ _ hl) ⟨hf, hwt, fx_tl_pad has, fun v hv => by cases hv⟩ p e _ u m _ below meth c (fx_nx s) (fx_sl s) I B.returns B.notSynchronized (Nat.le_refl _) (Nat.le_refl _) (Nat.le_refl _) (Nat.le_refl _) u.heap [] _ hrep (fx_entryLo hl hn) va_S.rf
  rw [Nat.sub_self, Nat.sub_self] at k
  exact k
set_option maxHeartbeats 4000000 in
theorem fx_main (l : Launch) (D : va_G) (dA : Nat → ClassId) (scr : Cell) (sz0 : Nat) : ∀ n, fx_P l D dA scr sz0 n := by
  intro n
  induction n with
  | zero => intro mi pc ls st s r0 s0 _ _ h; exact h.elim
  | succ n ih =>
    intro mi pc ls st s r0 s0 hmi htk h hl hv p e R u m args below meth c nS lS I hret hlocks hcells hslots
    simp only [fx_wp] at h
    cases ht : fx_tab mi pc with
    | none => rw [ht] at h; exact h.elim
    | some ent =>
      obtain ⟨i, np, r1, r2⟩ := ent
      rw [ht] at h
      dsimp only at h
      obtain ⟨w, hok, hkd, hex⟩ := fx_entry ht
      have hok' := hok
      simp only [fx_okE, Bool.and_eq_true, decide_eq_true_eq] at hok
      have hk := fx_keeps (mi := mi) (pc := pc) (np := np) hok.1.1 hv
      cases ha : fx_act mi pc i np r1 r2 ls st s with
      | none => rw [ha] at h; exact h.elim
      | some a =>
        rw [ha] at h hk
        match a, h, hk, ha with
        | .inl (C, pc', ls', st', s'), h, hk, ha =>
          obtain ⟨g1, g2, g3⟩ := hk h.1
          obtain ⟨-, -, f3, -⟩ := fx_pres _ _ _ _ _ _ _ _ h.2 g1
          have f1 := f3.1
          have f2 := f3.2.1
          exact fx_stepJ I ht hl hv ha h.1 (by omega) (by omega) (ih mi pc' ls' st' s' r0 s0 hmi htk h.2 (g3.trans hl) g1 p e R u m args below meth c nS lS I hret hlocks hcells hslots)
        | .inr (.inl (C, (p1, l1, t1, s1), (p2, l2, t2, s2))), h, hk, ha =>
          obtain ⟨e1, e2, e3, e4, e5, e6⟩ := hk
          subst e1; subst e2; subst e3; subst e4
          have e7 : t1 = t2 := by
            have := ha
            exact fx_B_same this
          subst e7
          exact fx_stepB I ht ha (fun q => ih mi p1 _ _ _ r0 s0 hmi htk (h.1 q) hl ⟨hv.1, hv.2.1, hv.2.2.1, e5⟩ p e R u m args below meth c nS lS I hret hlocks hcells hslots) (fun q => ih mi p2 _ _ _ r0 s0 hmi htk (h.2 q) hl ⟨hv.1, hv.2.1, hv.2.2.1, e6⟩ p e R u m args below meth c nS lS I hret hlocks hcells hslots)
        | .inr (.inr (.inl (C, r, s'))), h, hk, ha =>
          obtain ⟨hC, e3, e4⟩ := h
          subst e3; subst e4
          intro hn1 hl1 H locs LS hrep hlo hS
          obtain ⟨e5, hT⟩ := fx_T_inv ha
          subst e5
          obtain ⟨hx, hb, hml, hown, hts, hnm, hfr, hlw, hctx⟩ := I
          obtain ⟨w2, hre⟩ := fx_entryR ht
          have hMok := fx_meth hmi
          simp only [fx_okM, Bool.and_eq_true] at hMok
          have hrt := hMok.1.2
          rcases hT with ⟨rfl, x, rfl, rfl, rfl⟩ | ⟨rfl, v, rfl, rfl⟩ | ⟨rfl, rfl, rfl⟩ | ⟨k, rfl, h9, rfl⟩
          · have hd := hok.1.2
            have h1 : np = pc + 1 := by simpa using hok.2
            rw [h1, show pc + 1 - pc = 1 by omega] at hd
            have hq : ∀ t : State, t.heap = H → u.WarmedH t.vm → fx_Qc D dA scr sz0 (some (.inl x)) s' args u (.returned (some (.int x))) t := fun t e1 _ => ⟨rfl, by rw [e1]; exact hrep, hS.F e1⟩
            simp only [fx_retE, Bool.or_eq_true, beq_iff_eq] at hre
            rcases hre with hre | hre
            · have hr2 : meth.sig.returnType = some .int := by
                rw [hret]
                simp only [fx_rtok, hre] at hrt
                split at hrt <;> simp_all
              exact W.iret hx hb hr2 hq hS.2.2 hd
            · have hr2 : meth.sig.returnType = some .boolean := by
                rw [hret]
                simp only [fx_rtok, hre] at hrt
                split at hrt <;> simp_all
              have hnar : narrow .boolean (.int x) = .int x := by rcases hC hre with q | q <;> subst q <;> decide
              exact W.zret hx hb hr2 hnar hq hS.2.2 hd
          · have hd := hok.1.2
            have h1 : np = pc + 1 := by simpa using hok.2
            rw [h1, show pc + 1 - pc = 1 by omega] at hd
            simp only [fx_retE, beq_iff_eq] at hre
            obtain ⟨tg, o⟩ := v
            have hq : ∀ t : State, t.heap = H → u.WarmedH t.vm → fx_Qc D dA scr sz0 (some (.inr (.inl (tg, o)))) s' args u (.returned (some (va_rf o))) t := fun t e1 _ => ⟨rfl, by rw [e1]; exact hrep, hS.F e1⟩
            have hr2 : ∃ q, fx_re mi = some (.object q) := by
              simp only [fx_rtok, hre] at hrt
              split at hrt <;> simp_all
            obtain ⟨q, hr2⟩ := hr2
            exact W.aret hx hb (hret.trans hr2) (Or.inl ⟨q, rfl⟩) (va_rf_or o) hq hS.2.2 hd
          · have hd := hok.1.2
            have h1 : np = pc + 1 := by simpa using hok.2
            rw [h1, show pc + 1 - pc = 1 by omega] at hd
            simp only [fx_retE, beq_iff_eq] at hre
            have hr2 : meth.sig.returnType = none := by
              rw [hret]
              simp only [fx_rtok, hre] at hrt
              split at hrt <;> simp_all
            exact W.vret hx hb hr2 (fun t e1 _ => ⟨rfl, by rw [e1]; exact hrep, hS.F e1⟩) hS.2.2 hd
          · exfalso
            rcases htk with q | ⟨x, q⟩
            · simp only [fx_exE, Bool.or_eq_true, beq_iff_eq, Nat.blt_eq] at hex
              rcases hex with hex | hex
              · omega
              · exact q hex
            · cases q
        | .inr (.inr (.inr (C, m2, as, pc', ls', st', s'))), h, hk, ha =>
          obtain ⟨e1, e2, xs, e3, e4⟩ := hk
          subst e1; subst e2
          have hC : C = True := fx_K_true ha
          subst hC
          obtain ⟨q1, s1, h1, h2⟩ := fx_one _ _ _ _ _ _ _ h.2
          have hts2 := hv.2.2.2
          rw [e4] at hts2
          obtain ⟨g1, g2⟩ := fx_ts_rev hts2
          rw [← e3] at g1
          obtain ⟨f1, f2, f3, f4⟩ := fx_pres _ _ _ _ _ _ _ _ h2 ⟨hv.1, hv.2.1, fx_tl_pad g1, fun v hv => by cases hv⟩
          have hinv1 : fx_inv s1 ls' (q1.toList ++ st') := ⟨f1, f2, hv.2.2.1.ext f3, fx_ts_res f4 (g2.ext f3)⟩
          obtain ⟨-, -, f7, -⟩ := fx_pres _ _ _ _ _ _ _ _ h1 hinv1
          have j1 := f7.1
          have j2 := f7.2.1
          obtain ⟨-, -, -, hm2, -, ⟨ys, hys, -, hyl⟩, hnol, hkind⟩ := fx_K_inv ha
          have hasl : as.length = r2 % 16 := by rw [hys]; simp [hyl]
          have hcal : m2 < 132 ∧ m2 ≠ mm_Torus_take ∧ r2 % 16 ≤ fx_ml m2 := by
            subst hm2
            rcases hkind with ⟨k, tg, a, as', rfl, h10, -, -⟩ | ⟨k, tg, a, as', rfl, -, -⟩ | ⟨k, rfl, h10⟩
            · have h9 : (m2 == 1000) = false := by simpa using h10
              simp only [fx_kindE, h9, Bool.false_or, Bool.and_eq_true, Nat.blt_eq] at hkd
              simp only [fx_exE, Bool.not_eq_true', beq_eq_false_iff_ne] at hex
              exact ⟨hkd.1.2, hex, Nat.le_of_ble_eq_true hkd.2⟩
            · simp only [fx_kindE, Bool.and_eq_true, Nat.blt_eq] at hkd
              simp only [fx_exE, Bool.or_eq_true, Bool.not_eq_true', beq_eq_false_iff_ne, beq_iff_eq] at hex
              exact ⟨hkd.1.2, hex.resolve_right (by omega), Nat.le_of_ble_eq_true hkd.2⟩
            · have h9 : (m2 == 1001) = false := by simpa using h10
              simp only [fx_kindE, h9, Bool.false_or, Bool.and_eq_true] at hkd
              simp only [fx_exE, Bool.or_eq_true, Bool.and_eq_true, Bool.not_eq_true', beq_eq_false_iff_ne, beq_iff_eq] at hex
              have := Nat.le_of_ble_eq_true hkd.1.2
              have := hex.2.resolve_right (by omega)
              exact ⟨by omega, hex.1, Nat.le_of_ble_eq_true hkd.2⟩
          have hM := fx_met (scr := scr) (sz0 := sz0) (l := l) (D := D) (dA := dA) ih hcal.1 (Or.inl hcal.2.1) h2 hv.1 hv.2.1 g1 (by omega) hnol
          exact fx_stepK I ht hl hv ha hcal.1 hM f3 (fx_subR j1 hcells) (fx_subR j2 hslots) (ih mi pc' ls' (q1.toList ++ st') s1 r0 s0 hmi htk h1 hl hinv1 p e R u m args below meth c nS lS I hret hlocks hcells hslots)
