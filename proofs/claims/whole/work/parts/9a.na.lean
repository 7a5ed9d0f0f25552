/-! METHODS THAT MAKE NOTHING -/
/-- the methods that may make objects or arrays -/
def na_al : List Nat := [53, 58, 90, 93, 94, 96, 108, 109, 113, 118, 119, 128, 130, 132, 133]
def na_I (i : Instr) (r1 : Nat) : Bool := match i with
  | .new _ => Nat.ble 900 r1
  | .newarray _ => false
  | .anewarray _ => false
  | .invokespecial _ => !na_al.contains r1
  | .invokevirtual _ => !na_al.contains r1
  | .invokestatic _ => !na_al.contains r1
  | _ => true
theorem na_all : fx_cs.zipIdx.all (fun e => na_al.contains e.2 || e.1.all (fun z => na_I z.2.1.1 z.2.1.2.2.1)) = true := by decide +kernel
theorem na_ent {mi pc np r1 r2 : Nat} {i : Instr} (hm : na_al.contains mi = false) (h : fx_tab mi pc = some (i, np, r1, r2)) : na_I i r1 = true := by
  obtain ⟨w, hw⟩ := fx_look_mem _ h
  unfold fx_code at hw
  rw [List.getD_eq_getElem?_getD] at hw
  cases hc : fx_cs[mi]? with
  | none => rw [hc] at hw; simp at hw
  | some l =>
    rw [hc] at hw
    have hz : (l, mi) ∈ fx_cs.zipIdx := by
      rw [List.mem_iff_getElem?]
      exact ⟨mi, by rw [List.getElem?_zipIdx, hc]; simp⟩
    have h2 := List.all_eq_true.mp na_all _ hz
    have h3 : (na_al.contains mi || l.all (fun z => na_I z.2.1.1 z.2.1.2.2.1)) = true := h2
    rw [hm, Bool.false_or] at h3
    exact List.all_eq_true.mp h3 _ hw
def na_P (s : fx_S) : Option fx_A → Prop
  | none => True
  | some (.inl (_, _, _, _, s')) => fx_nx s' = fx_nx s ∧ fx_sl s' = fx_sl s
  | some (.inr (.inl (_, (_, _, _, s1), (_, _, _, s2)))) => s1 = s ∧ s2 = s
  | some (.inr (.inr (.inl (_, _, s')))) => s' = s
  | some (.inr (.inr (.inr (_, m2, _, _, _, _, s')))) => s' = s ∧ na_al.contains m2 = false
theorem na_c {s : fx_S} {b : Bool} {a1 a2 : Option fx_A} (h1 : b = true → na_P s a1) (h2 : b = false → na_P s a2) : na_P s (bif b then a1 else a2) := by
  cases b
  · exact h2 rfl
  · exact h1 rfl
theorem na_act {mi pc np r1 r2 : Nat} {i : Instr} {ls : fx_L} {st : List fx_V} {s : fx_S} (h : na_I i r1 = true) : na_P s (fx_act mi pc i np r1 r2 ls st s) := by
  have hc : (!na_al.contains r1) = true → na_al.contains r1 = false := fun q => by simpa using q
  unfold fx_act
  split
  all_goals first
    | exact ⟨rfl, rfl⟩
    | (repeat' (first | exact trivial | exact ⟨rfl, rfl⟩ | exact rfl | exact ⟨rfl, hc h⟩ | refine na_c (fun _ => ?_) (fun _ => ?_) | split | (exfalso; cases h; done) | (exfalso; rename_i q _; have h' : Nat.ble 900 r1 = true := h; rw [h'] at q; cases q)))
theorem fx_na : ∀ n mi pc ls st s r0 s0, na_al.contains mi = false → fx_wp n mi pc ls st s (fx_eq r0 s0) → fx_nx s0 = fx_nx s ∧ fx_sl s0 = fx_sl s := by
  intro n
  induction n with
  | zero => intro mi pc ls st s r0 s0 _ h; exact h.elim
  | succ n ih =>
    intro mi pc ls st s r0 s0 hm h
    simp only [fx_wp] at h
    cases ht : fx_tab mi pc with
    | none => rw [ht] at h; exact h.elim
    | some e =>
      obtain ⟨i, np, r1, r2⟩ := e
      rw [ht] at h
      dsimp only at h
      have hk := na_act (mi := mi) (pc := pc) (np := np) (r2 := r2) (ls := ls) (st := st) (s := s) (na_ent hm ht)
      generalize fx_act mi pc i np r1 r2 ls st s = a at h hk
      match a, h, hk with
      | none, h, _ => exact h.elim
      | some (.inl (_, _, _, _, _)), h, hk =>
        obtain ⟨f1, f2⟩ := ih _ _ _ _ _ _ _ hm h.2
        exact ⟨f1.trans hk.1, f2.trans hk.2⟩
      | some (.inr (.inl (C, (_, l1, t1, s1), (_, l2, t2, s2)))), h, hk =>
        obtain ⟨e1, e2⟩ := hk
        subst e1; subst e2
        by_cases c : C
        · exact ih _ _ _ _ _ _ _ hm (h.1 c)
        · exact ih _ _ _ _ _ _ _ hm (h.2 c)
      | some (.inr (.inr (.inl (_, r, s')))), h, hk =>
        obtain ⟨-, e3, e4⟩ := h
        have hk' : s' = s := hk
        subst hk'
        rw [← e4]
        exact ⟨rfl, rfl⟩
      | some (.inr (.inr (.inr (_, m2, as, pc', ls', st', s')))), h, hk =>
        obtain ⟨e1, e2⟩ := hk
        subst e1
        obtain ⟨q1, s1, h1, h2⟩ := fx_one _ _ _ _ _ _ _ h.2
        obtain ⟨f1, f2⟩ := ih _ _ _ _ _ _ _ e2 h2
        obtain ⟨f5, f6⟩ := ih _ _ _ _ _ _ _ hm h1
        exact ⟨f5.trans f1, f6.trans f2⟩
/-- a method that makes nothing -/
theorem na_M {mi : Nat} {as : List fx_V} {s : fx_S} {Q : fx_Q} (hm : na_al.contains mi = false) (h : fx_M mi as s (fun r t => fx_nx t = fx_nx s → fx_sl t = fx_sl s → Q r t)) : fx_M mi as s Q := by
  obtain ⟨n, h⟩ := h
  obtain ⟨r, s', h1, h2⟩ := fx_one _ _ _ _ _ _ _ h
  obtain ⟨f1, f2⟩ := fx_na _ _ _ _ _ _ _ _ hm h2
  refine ⟨n, fx_mono _ _ _ _ _ _ _ _ (fun r2 s2 h5 => ?_) h2⟩
  obtain ⟨e1, e2⟩ := h5
  subst e1; subst e2
  exact h1 f1 f2
