/-! A RUN OF take THAT THROWS: up to the mark -/
theorem fx_mainX (l : Launch) (D : va_G) (dA : Nat → ClassId) (scr : Cell) (sz0 : Nat) {k : Nat} {s0 : fx_S} {p : Program} {e : Env} {R : Room} {u : State} {m : MethodId} {args : Array Value} {below : List Frame} {meth : Method} {c : Code} {Qf : State → Prop} {nS lS : Nat} (I : fx_in mm_Torus_take p R u m args meth c D dA scr) (hcells : fx_nx s0 - nS ≤ R.cells) (hslots : fx_sl s0 - lS ≤ R.slots)
    (kk : ∀ pc ls st idx np r2, fx_tab mm_Torus_take pc = some (.new idx, np, 900 + k, r2) → ls.length = fx_ml mm_Torus_take → fx_inv s0 ls st → fx_Sd p l e R u m args below meth c Qf D dA scr sz0 nS lS pc ls st s0) :
    ∀ n pc ls st s, fx_wp n mm_Torus_take pc ls st s (fx_eq (some (vR (900 + k) none)) s0) → ls.length = fx_ml mm_Torus_take → fx_inv s ls st → fx_Sd p l e R u m args below meth c Qf D dA scr sz0 nS lS pc ls st s := by
  intro n
  induction n with
  | zero => intro pc ls st s h; exact h.elim
  | succ n ih =>
    intro pc ls st s h hl hv
    simp only [fx_wp] at h
    cases ht : fx_tab mm_Torus_take pc with
    | none => rw [ht] at h; exact h.elim
    | some ent =>
      obtain ⟨i, np, r1, r2⟩ := ent
      rw [ht] at h
      dsimp only at h
      obtain ⟨w, hok, hkd, hex⟩ := fx_entry ht
      simp only [fx_okE, Bool.and_eq_true, decide_eq_true_eq] at hok
      have hk := fx_keeps (mi := mm_Torus_take) (pc := pc) (np := np) hok.1.1 hv
      cases ha : fx_act mm_Torus_take pc i np r1 r2 ls st s with
      | none => rw [ha] at h; exact h.elim
      | some a =>
        rw [ha] at h hk
        match a, h, hk, ha with
        | .inl (C, pc', ls', st', s'), h, hk, ha =>
          obtain ⟨g1, g2, g3⟩ := hk h.1
          obtain ⟨-, -, f3, -⟩ := fx_pres _ _ _ _ _ _ _ _ h.2 g1
          have f1 := f3.1
          have f2 := f3.2.1
          exact fx_stepJ I ht hl hv ha h.1 (by omega) (by omega) (ih pc' ls' st' s' h.2 (g3.trans hl) g1)
        | .inr (.inl (C, (p1, l1, t1, s1), (p2, l2, t2, s2))), h, hk, ha =>
          obtain ⟨e1, e2, e3, e4, e5, e6⟩ := hk
          subst e1; subst e2; subst e3; subst e4
          have e7 : t1 = t2 := fx_B_same ha
          subst e7
          exact fx_stepB I ht ha (fun q => ih p1 _ _ _ (h.1 q) hl ⟨hv.1, hv.2.1, hv.2.2.1, e5⟩) (fun q => ih p2 _ _ _ (h.2 q) hl ⟨hv.1, hv.2.1, hv.2.2.1, e6⟩)
        | .inr (.inr (.inl (C, r, s'))), h, hk, ha =>
          obtain ⟨hC, e3, e4⟩ := h
          obtain ⟨e5, hT⟩ := fx_T_inv ha
          obtain ⟨w2, hre⟩ := fx_entryR ht
          have hrt : fx_rt mm_Torus_take = 1 := by decide +kernel
          rcases hT with ⟨rfl, x, rfl, rfl, -⟩ | ⟨rfl, v, rfl, rfl⟩ | ⟨rfl, rfl, rfl⟩ | ⟨q, rfl, h9, rfl⟩
          · cases e3
          · simp only [fx_retE, beq_iff_eq, hrt] at hre
            cases hre
          · cases e3
          · have e6 : r1 = 900 + k := by
              have := congrArg (fun o => match o with | some (.inr (.inl (t, _))) => t | _ => 0) e3
              exact this
            subst e6
            have e7 : s = s0 := e5.symm.trans e4
            have hv' : fx_inv s0 ls st := by rw [← e7]; exact hv
            rw [e7]
            exact kk pc ls st _ np r2 ht hl hv'
        | .inr (.inr (.inr (C, m2, as, pc', ls', st', s'))), h, hk, ha =>
          obtain ⟨e1, e2, xs, e3, e4⟩ := hk
          subst e1; subst e2
          have hC : C = True := fx_K_true ha
          subst hC
          obtain ⟨q1, s1, h1, h2⟩ := fx_one _ _ _ _ _ _ _ h.2
          have hts2 := hv.2.2.2
          rw [e4] at hts2
          obtain ⟨g1, g2⟩ := fx_ts_rev hts2
          rw [← e3] at g1
          obtain ⟨f1, f2, f3, f4⟩ := fx_pres _ _ _ _ _ _ _ _ h2 ⟨hv.1, hv.2.1, fx_tl_pad g1, fun v hv => by cases hv⟩
          have hinv1 : fx_inv s1 ls' (q1.toList ++ st') := ⟨f1, f2, hv.2.2.1.ext f3, fx_ts_res f4 (g2.ext f3)⟩
          obtain ⟨-, -, f7, -⟩ := fx_pres _ _ _ _ _ _ _ _ h1 hinv1
          have j1 := f7.1
          have j2 := f7.2.1
          obtain ⟨-, -, -, hm2, -, ⟨ys, hys, -, hyl⟩, hnol, hkind⟩ := fx_K_inv ha
          have hasl : as.length = r2 % 16 := by rw [hys]; simp [hyl]
          have hcal : m2 < 132 ∧ m2 ≠ mm_Torus_take ∧ r2 % 16 ≤ fx_ml m2 := by
            subst hm2
            rcases hkind with ⟨k, tg, a, as', rfl, h10, -, -⟩ | ⟨k, tg, a, as', rfl, -, -⟩ | ⟨k, rfl, h10⟩
            · have h9 : (m2 == 1000) = false := by simpa using h10
              simp only [fx_kindE, h9, Bool.false_or, Bool.and_eq_true, Nat.blt_eq] at hkd
              simp only [fx_exE, Bool.not_eq_true', beq_eq_false_iff_ne] at hex
              exact ⟨hkd.1.2, hex, Nat.le_of_ble_eq_true hkd.2⟩
            · simp only [fx_kindE, Bool.and_eq_true, Nat.blt_eq] at hkd
              simp only [fx_exE, Bool.or_eq_true, Bool.not_eq_true', beq_eq_false_iff_ne, beq_iff_eq] at hex
              exact ⟨hkd.1.2, hex.resolve_right (by decide), Nat.le_of_ble_eq_true hkd.2⟩
            · have h9 : (m2 == 1001) = false := by simpa using h10
              simp only [fx_kindE, h9, Bool.false_or, Bool.and_eq_true] at hkd
              simp only [fx_exE, Bool.or_eq_true, Bool.and_eq_true, Bool.not_eq_true', beq_eq_false_iff_ne, beq_iff_eq] at hex
              have := Nat.le_of_ble_eq_true hkd.1.2
              have := hex.2.resolve_right (by decide)
              exact ⟨by omega, hex.1, Nat.le_of_ble_eq_true hkd.2⟩
          have hM := fx_met (scr := scr) (sz0 := sz0) (l := l) (D := D) (dA := dA) (fx_main l D dA scr sz0 n) hcal.1 (Or.inl hcal.2.1) h2 hv.1 hv.2.1 g1 (by omega) hnol
          exact fx_stepK I ht hl hv ha hcal.1 hM f3 (fx_subR j1 hcells) (fx_subR j2 hslots) (ih pc' ls' (q1.toList ++ st') s1 h1 hl hinv1)
