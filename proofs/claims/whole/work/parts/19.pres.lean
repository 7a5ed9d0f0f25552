/-- a run keeps the types -/
theorem fx_tl_pad {s : fx_S} {n : Nat} {as : List fx_V} (h : fx_ts s as) : fx_tl s (fx_pad n as) := fun i v hv => h v (List.mem_of_getElem? (fx_get_pad n as i v hv))
theorem fx_ts_rev {s : fx_S} {xs st' : List fx_V} (h : fx_ts s (xs ++ st')) : fx_ts s xs.reverse ∧ fx_ts s st' := ⟨fun v hv => h v (List.mem_append_left _ (List.mem_reverse.mp hv)), fun v hv => h v (List.mem_append_right _ hv)⟩
theorem fx_ts_res {s : fx_S} {r : Option fx_V} {st : List fx_V} (h : ∀ v, r = some v → fx_tv s v) (g : fx_ts s st) : fx_ts s (r.toList ++ st) := by
  cases r with
  | none => exact g
  | some v => exact g.cons (h v rfl)
theorem fx_pres : ∀ n mi pc ls st s r0 s0, fx_wp n mi pc ls st s (fx_eq r0 s0) → fx_inv s ls st → fx_fresh s0 ∧ fx_wt s0 ∧ fx_ext s s0 ∧ (∀ v, r0 = some v → fx_tv s0 v) := by
  intro n
  induction n with
  | zero => intro mi pc ls st s r0 s0 h; exact h.elim
  | succ n ih =>
    intro mi pc ls st s r0 s0 h hv
    simp only [fx_wp] at h
    cases ht : fx_tab mi pc with
    | none => rw [ht] at h; exact h.elim
    | some e =>
      obtain ⟨i, np, r1, r2⟩ := e
      rw [ht] at h
      dsimp only at h
      obtain ⟨w, hok, -, -⟩ := fx_entry ht
      simp only [fx_okE, Bool.and_eq_true] at hok
      have hk := fx_keeps (mi := mi) (pc := pc) (np := np) hok.1.1 hv
      generalize fx_act mi pc i np r1 r2 ls st s = a at h hk
      match a, h, hk with
      | none, h, _ => exact h.elim
      | some (.inl (_, _, _, _, _)), h, hk =>
        obtain ⟨g1, g2, -⟩ := hk h.1
        obtain ⟨f1, f2, f3, f4⟩ := ih _ _ _ _ _ _ _ h.2 g1
        exact ⟨f1, f2, g2.tr f3, f4⟩
      | some (.inr (.inl (C, (_, l1, t1, s1), (_, l2, t2, s2)))), h, hk =>
        obtain ⟨e1, e2, e3, e4, e5, e6⟩ := hk
        subst e1; subst e2; subst e3; subst e4
        by_cases c : C
        · exact ih _ _ _ _ _ _ _ (h.1 c) ⟨hv.1, hv.2.1, hv.2.2.1, e5⟩
        · exact ih _ _ _ _ _ _ _ (h.2 c) ⟨hv.1, hv.2.1, hv.2.2.1, e6⟩
      | some (.inr (.inr (.inl (_, r, s')))), h, hk =>
        obtain ⟨e1, e2⟩ := hk
        obtain ⟨-, e3, e4⟩ := h
        subst e1; subst e4; subst e3
        exact ⟨hv.1, hv.2.1, fx_ext.rf _, e2⟩
      | some (.inr (.inr (.inr (_, m2, as, pc', ls', st', s')))), h, hk =>
        obtain ⟨e1, e2, xs, e3, e4⟩ := hk
        subst e1; subst e2; subst e3; subst e4
        obtain ⟨q1, s1, h1, h2⟩ := fx_one _ _ _ _ _ _ _ h.2
        obtain ⟨g1, g2⟩ := fx_ts_rev hv.2.2.2
        obtain ⟨f1, f2, f3, f4⟩ := ih _ _ _ _ _ _ _ h2 ⟨hv.1, hv.2.1, fx_tl_pad g1, fun v hv => by cases hv⟩
        obtain ⟨f5, f6, f7, f8⟩ := ih _ _ _ _ _ _ _ h1 ⟨f1, f2, hv.2.2.1.ext f3, fx_ts_res f4 (g2.ext f3)⟩
        exact ⟨f5, f6, f3.tr f7, f8⟩
