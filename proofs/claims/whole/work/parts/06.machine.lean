/-! A PURE MACHINE: values (int | reference: tag and address or null | long), a heap as functions (kinds, int fields, reference fields, lengths, contents), and what one instruction does. -/
abbrev fx_V : Type := Int32 ⊕ (Nat × Option Nat) ⊕ Int64
abbrev fx_L : Type := List (Option fx_V)
/-- kinds, int fields, reference fields, lengths, ints of arrays, references of arrays, longs of arrays, next address, slots made -/
abbrev fx_S : Type := (Nat → Nat) × (Nat → Nat → Int32) × (Nat → Nat → Option Nat) × (Nat → Nat) × (Nat → Nat → Int32) × (Nat → Nat → Option Nat) × (Nat → Nat → Int64) × Nat × Nat
def fx_kd (s : fx_S) : Nat → Nat := s.1
def fx_fi (s : fx_S) : Nat → Nat → Int32 := s.2.1
def fx_fr (s : fx_S) : Nat → Nat → Option Nat := s.2.2.1
def fx_ln (s : fx_S) : Nat → Nat := s.2.2.2.1
def fx_ai (s : fx_S) : Nat → Nat → Int32 := s.2.2.2.2.1
def fx_ar (s : fx_S) : Nat → Nat → Option Nat := s.2.2.2.2.2.1
def fx_al (s : fx_S) : Nat → Nat → Int64 := s.2.2.2.2.2.2.1
def fx_nx (s : fx_S) : Nat := s.2.2.2.2.2.2.2.1
def fx_sl (s : fx_S) : Nat := s.2.2.2.2.2.2.2.2
def fx_up {α : Type} (f : Nat → Nat → α) (g a : Nat) (v : α) : Nat → Nat → α := fun h b => if h = g then if b = a then v else f h b else f h b
def fx_sfi (s : fx_S) (f a : Nat) (v : Int32) : fx_S := (s.1, fx_up s.2.1 f a v, s.2.2)
def fx_sfr (s : fx_S) (f a : Nat) (v : Option Nat) : fx_S := (s.1, s.2.1, fx_up s.2.2.1 f a v, s.2.2.2)
def fx_sai (s : fx_S) (a i : Nat) (v : Int32) : fx_S := (s.1, s.2.1, s.2.2.1, s.2.2.2.1, fx_up s.2.2.2.2.1 a i v, s.2.2.2.2.2)
def fx_sar (s : fx_S) (a i : Nat) (v : Option Nat) : fx_S := (s.1, s.2.1, s.2.2.1, s.2.2.2.1, s.2.2.2.2.1, fx_up s.2.2.2.2.2.1 a i v, s.2.2.2.2.2.2)
def fx_sal (s : fx_S) (a i : Nat) (v : Int64) : fx_S := (s.1, s.2.1, s.2.2.1, s.2.2.2.1, s.2.2.2.2.1, s.2.2.2.2.2.1, fx_up s.2.2.2.2.2.2.1 a i v, s.2.2.2.2.2.2.2)
def fx_at {α : Type} (f : Nat → α) (a : Nat) (v : α) : Nat → α := fun b => if b = a then v else f b
def fx_col {α : Type} (f : Nat → Nat → α) (a : Nat) (v : α) : Nat → Nat → α := fun g b => if b = a then v else f g b
def fx_new (s : fx_S) (tag n : Nat) : fx_S := (fx_at s.1 (fx_nx s) tag, fx_col s.2.1 (fx_nx s) 0, fx_col s.2.2.1 (fx_nx s) none, s.2.2.2.1, s.2.2.2.2.1, s.2.2.2.2.2.1, s.2.2.2.2.2.2.1, fx_nx s + 1, fx_sl s + n)
def fx_newa (s : fx_S) (tag n : Nat) : fx_S := (fx_at s.1 (fx_nx s) tag, s.2.1, s.2.2.1, fx_at s.2.2.2.1 (fx_nx s) n, fx_at s.2.2.2.2.1 (fx_nx s) (fun _ => 0), fx_at s.2.2.2.2.2.1 (fx_nx s) (fun _ => none), fx_at s.2.2.2.2.2.2.1 (fx_nx s) (fun _ => 0), fx_nx s + 1, fx_sl s + n)
def fx_get : fx_L → Nat → Option fx_V
  | [], _ => none
  | x :: _, 0 => x
  | _ :: l, n + 1 => fx_get l n
def fx_set : fx_L → Nat → fx_V → fx_L
  | [], _, _ => []
  | _ :: l, 0, v => some v :: l
  | x :: l, n + 1, v => x :: fx_set l n v
def fx_pad : Nat → List fx_V → fx_L
  | n, [] => List.replicate n none
  | n, v :: l => some v :: fx_pad (n - 1) l
def fx_pop : Nat → List fx_V → List fx_V → Option (List fx_V × List fx_V)
  | 0, acc, st => some (acc, st)
  | _ + 1, _, [] => none
  | n + 1, acc, v :: st => fx_pop n (v :: acc) st
def fx_ic (n : Int) : Int32 := match n with
  | .ofNat k => nI k
  | .negSucc k => Int32.ofInt (.negSucc k)
def fx_cz (c : Jvm.ClassFile.Cond) (x : Int32) : Prop := match c with
  | .eq => x = 0
  | .ne => ¬ x = 0
  | .lt => x < 0
  | .ge => 0 ≤ x
  | .gt => 0 < x
  | .le => x ≤ 0
def fx_cc2 (c : Jvm.ClassFile.Cond) (x y : Int32) : Prop := match c with
  | .eq => x = y
  | .ne => ¬ x = y
  | .lt => x < y
  | .ge => y ≤ x
  | .gt => y < x
  | .le => x ≤ y
abbrev fx_N : Type := Nat × fx_L × List fx_V × fx_S
/-- what an instruction does: it goes on, if a condition holds | it branches | it leaves | it calls -/
abbrev fx_A : Type := (Prop × fx_N) ⊕ (Prop × fx_N × fx_N) ⊕ (Prop × Option fx_V × fx_S) ⊕ (Prop × Nat × List fx_V × fx_N)
def fx_J (C : Prop) (pc : Nat) (ls : fx_L) (st : List fx_V) (s : fx_S) : Option fx_A := some (.inl (C, pc, ls, st, s))
def fx_B (C : Prop) (p1 p2 : Nat) (ls : fx_L) (st : List fx_V) (s : fx_S) : Option fx_A := some (.inr (.inl (C, (p1, ls, st, s), (p2, ls, st, s))))
def fx_T (C : Prop) (r : Option fx_V) (s : fx_S) : Option fx_A := some (.inr (.inr (.inl (C, r, s))))
def fx_K (m : Nat) (as : List fx_V) (pc : Nat) (ls : fx_L) (st : List fx_V) (s : fx_S) : Option fx_A := some (.inr (.inr (.inr (True, m, as, pc, ls, st, s))))
def fx_sw (pc : Nat) (d lo hi : Int) (offs : Array Int) (x : Int32) : Nat := ((pc : Int) + (if x.toInt < lo ∨ hi < x.toInt then d else (offs[(x.toInt - lo).toNat]?).getD d)).toNat
/-- the tags of the arrays of references that are made: Arrival, Flit, Node, Packet, Place -/
def fx_ia (c : Nat) : Bool := c == 41 || c == 42 || c == 44 || c == 45 || c == 46
/-- no long among the arguments -/
def fx_nol : List fx_V → Bool
  | [] => true
  | .inr (.inr _) :: _ => false
  | _ :: l => fx_nol l
/-- one instruction at pc, the next one at np; r1, r2: what the constant pool says -/
def fx_act (mi pc : Nat) (i : Instr) (np r1 r2 : Nat) (ls : fx_L) (st : List fx_V) (s : fx_S) : Option fx_A := match i with
  | .iconst n => fx_J True np ls (.inl (fx_ic n) :: st) s
  | .bipush n => fx_J True np ls (.inl (fx_ic n) :: st) s
  | .sipush n => fx_J True np ls (.inl (fx_ic n) :: st) s
  | .ldc _ => fx_J True np ls (.inl (nI r1) :: st) s
  | .aconst_null => fx_J True np ls (.inr (.inl (0, none)) :: st) s
  | .iload_n _ => match fx_get ls r1 with
    | some (.inl x) => fx_J True np ls (.inl x :: st) s
    | _ => none
  | .iload _ => match fx_get ls r1 with
    | some (.inl x) => fx_J True np ls (.inl x :: st) s
    | _ => none
  | .aload_n _ => match fx_get ls r1 with
    | some (.inr (.inl v)) => fx_J True np ls (.inr (.inl v) :: st) s
    | _ => none
  | .aload _ => match fx_get ls r1 with
    | some (.inr (.inl v)) => fx_J True np ls (.inr (.inl v) :: st) s
    | _ => none
  | .istore_n _ => match st with
    | .inl x :: st' => fx_J True np (fx_set ls r1 (.inl x)) st' s
    | _ => none
  | .istore _ => match st with
    | .inl x :: st' => fx_J True np (fx_set ls r1 (.inl x)) st' s
    | _ => none
  | .astore_n _ => match st with
    | .inr (.inl v) :: st' => fx_J True np (fx_set ls r1 (.inr (.inl v))) st' s
    | _ => none
  | .astore _ => match st with
    | .inr (.inl v) :: st' => fx_J True np (fx_set ls r1 (.inr (.inl v))) st' s
    | _ => none
  | .iinc _ c => match fx_get ls r1 with
    | some (.inl x) => fx_J True np (fx_set ls r1 (.inl (x + fx_ic c))) st s
    | _ => none
  | .iadd => match st with
    | .inl y :: .inl x :: st' => fx_J True np ls (.inl (x + y) :: st') s
    | _ => none
  | .isub => match st with
    | .inl y :: .inl x :: st' => fx_J True np ls (.inl (x - y) :: st') s
    | _ => none
  | .imul => match st with
    | .inl y :: .inl x :: st' => fx_J True np ls (.inl (x * y) :: st') s
    | _ => none
  | .idiv => match st with
    | .inl y :: .inl x :: st' => fx_J (¬ y = 0) np ls (.inl (x / y) :: st') s
    | _ => none
  | .irem => match st with
    | .inl y :: .inl x :: st' => fx_J (¬ y = 0) np ls (.inl (x - x / y * y) :: st') s
    | _ => none
  | .iand => match st with
    | .inl y :: .inl x :: st' => fx_J True np ls (.inl (x &&& y) :: st') s
    | _ => none
  | .ior => match st with
    | .inl y :: .inl x :: st' => fx_J True np ls (.inl (x ||| y) :: st') s
    | _ => none
  | .ixor => match st with
    | .inl y :: .inl x :: st' => fx_J True np ls (.inl (x ^^^ y) :: st') s
    | _ => none
  | .ishl => match st with
    | .inl y :: .inl x :: st' => fx_J True np ls (.inl (x <<< (y &&& 31)) :: st') s
    | _ => none
  | .i2l => match st with
    | .inl x :: st' => fx_J True np ls (.inr (.inr x.toInt64) :: st') s
    | _ => none
  | .lcmp => match st with
    | .inr (.inr y) :: .inr (.inr x) :: st' => fx_J True np ls (.inl (lg_cmp x y) :: st') s
    | _ => none
  | .dup => match st with
    | .inl x :: st' => fx_J True np ls (.inl x :: .inl x :: st') s
    | .inr (.inl v) :: st' => fx_J True np ls (.inr (.inl v) :: .inr (.inl v) :: st') s
    | _ => none
  | .dup2 => match st with
    | .inl x :: .inr (.inl v) :: st' => fx_J True np ls (.inl x :: .inr (.inl v) :: .inl x :: .inr (.inl v) :: st') s
    | _ => none
  | .pop => match st with
    | .inl _ :: st' => fx_J True np ls st' s
    | .inr (.inl _) :: st' => fx_J True np ls st' s
    | _ => none
  | .goto _ => fx_J True r1 ls st s
  | .ifCond c _ => match st with
    | .inl x :: st' => fx_B (fx_cz c x) r1 np ls st' s
    | _ => none
  | .if_icmp c _ => match st with
    | .inl y :: .inl x :: st' => fx_B (fx_cc2 c x y) r1 np ls st' s
    | _ => none
  | .ifnull _ => match st with
    | .inr (.inl (_, o)) :: st' => fx_B (o = none) r1 np ls st' s
    | _ => none
  | .ifnonnull _ => match st with
    | .inr (.inl (_, o)) :: st' => fx_B (o = none) np r1 ls st' s
    | _ => none
  | .if_acmp .eq _ => match st with
    | .inr (.inl (_, o)) :: .inr (.inl (_, q)) :: st' => fx_B (q = o) r1 np ls st' s
    | _ => none
  | .if_acmp .ne _ => match st with
    | .inr (.inl (_, o)) :: .inr (.inl (_, q)) :: st' => fx_B (q = o) np r1 ls st' s
    | _ => none
  | .tableswitch d lo hi offs => match st with
    | .inl x :: st' => fx_J True (fx_sw pc d lo hi offs x) ls st' s
    | _ => none
  | .getfield _ => match st with
    | .inr (.inl (c, some a)) :: st' => bif c == 10 + r1 / 64 then (bif Nat.ble r2 1 then fx_J True np ls (.inl (fx_fi s r1 a) :: st') s else fx_J True np ls (.inr (.inl (r2, fx_fr s r1 a)) :: st') s) else none
    | _ => none
  | .putfield _ => match st with
    | .inl x :: .inr (.inl (c, some a)) :: st' => bif c == 10 + r1 / 64 && Nat.ble r2 1 then fx_J (r2 = 1 → x = 0 ∨ x = 1) np ls st' (fx_sfi s r1 a x) else none
    | .inr (.inl (c2, v)) :: .inr (.inl (c, some a)) :: st' => bif c == 10 + r1 / 64 && Nat.ble 2 r2 then fx_J (c2 = r2 ∨ v = none) np ls st' (fx_sfr s r1 a v) else none
    | _ => none
  | .new _ => bif Nat.ble 900 r1 then fx_T True (some (.inr (.inl (r1, none)))) s else bif Nat.ble r1 12 then fx_J True np ls (.inr (.inl (10 + r1, some (fx_nx s))) :: st) (fx_new s (10 + r1) r2) else none
  | .newarray _ => match st with
    | .inl x :: st' => bif Nat.ble 70 r1 && Nat.ble r1 72 then fx_J (¬ x < 0 ∧ x.toNatClampNeg ≤ 40000) np ls (.inr (.inl (r1, some (fx_nx s))) :: st') (fx_newa s r1 x.toNatClampNeg) else none
    | _ => none
  | .anewarray _ => match st with
    | .inl x :: st' => bif fx_ia (40 + r1) then fx_J (¬ x < 0 ∧ x.toNatClampNeg ≤ 40000) np ls (.inr (.inl (40 + r1, some (fx_nx s))) :: st') (fx_newa s (40 + r1) x.toNatClampNeg) else none
    | _ => none
  | .arraylength => match st with
    | .inr (.inl (c, some a)) :: st' => bif c == 73 then fx_J True np ls (.inl (nI (fx_ln s a)) :: st') s else none
    | _ => none
  | .iaload => match st with
    | .inl i :: .inr (.inl (c, some a)) :: st' => bif c == 70 || c == 73 then fx_J (vp_in i (fx_ln s a)) np ls (.inl (fx_ai s a i.toNatClampNeg) :: st') s else none
    | _ => none
  | .baload => match st with
    | .inl i :: .inr (.inl (c, some a)) :: st' => bif c == 71 then fx_J (vp_in i (fx_ln s a)) np ls (.inl (fx_ai s a i.toNatClampNeg) :: st') s else none
    | _ => none
  | .laload => match st with
    | .inl i :: .inr (.inl (c, some a)) :: st' => bif c == 72 then fx_J (vp_in i (fx_ln s a)) np ls (.inr (.inr (fx_al s a i.toNatClampNeg)) :: st') s else none
    | _ => none
  | .aaload => match st with
    | .inl i :: .inr (.inl (c, some a)) :: st' => bif fx_ia c then fx_J (vp_in i (fx_ln s a)) np ls (.inr (.inl (c - 30, fx_ar s a i.toNatClampNeg)) :: st') s else none
    | _ => none
  | .iastore => match st with
    | .inl x :: .inl i :: .inr (.inl (c, some a)) :: st' => bif c == 70 then fx_J (vp_in i (fx_ln s a)) np ls st' (fx_sai s a i.toNatClampNeg x) else none
    | _ => none
  | .bastore => match st with
    | .inl x :: .inl i :: .inr (.inl (c, some a)) :: st' => bif c == 71 then fx_J (vp_in i (fx_ln s a) ∧ (x = 0 ∨ x = 1)) np ls st' (fx_sai s a i.toNatClampNeg x) else none
    | _ => none
  | .lastore => match st with
    | .inr (.inr x) :: .inl i :: .inr (.inl (c, some a)) :: st' => bif c == 72 then fx_J (vp_in i (fx_ln s a)) np ls st' (fx_sal s a i.toNatClampNeg x) else none
    | _ => none
  | .aastore => match st with
    | .inr (.inl (c2, v)) :: .inl i :: .inr (.inl (c, some a)) :: st' => bif fx_ia c then fx_J (vp_in i (fx_ln s a) ∧ (c2 = c - 30 ∨ v = none)) np ls st' (fx_sar s a i.toNatClampNeg v) else none
    | _ => none
  | .ireturn => match st with
    | [.inl x] => fx_T (fx_rt mi = 2 → x = 0 ∨ x = 1) (some (.inl x)) s
    | _ => none
  | .areturn => match st with
    | [.inr (.inl v)] => fx_T True (some (.inr (.inl v))) s
    | _ => none
  | .return_ => match st with
    | [] => fx_T True none s
    | _ => none
  | .invokespecial _ => bif r1 == 1000 then (match st with
    | .inr (.inl (_, some _)) :: st' => bif Nat.ble st'.length 4 then fx_J True np ls st' s else none
    | _ => none) else match fx_pop (r2 % 16) [] st with
    | some (.inr (.inl (c, some a)) :: as, st') => bif c == r2 / 16 && Nat.ble st'.length 4 && fx_nol as then fx_K r1 (.inr (.inl (c, some a)) :: as) np ls st' s else none
    | _ => none
  | .invokevirtual _ => match fx_pop (r2 % 16) [] st with
    | some (.inr (.inl (c, some a)) :: as, st') => bif c == r2 / 16 && Nat.ble st'.length 4 && fx_nol as then fx_K r1 (.inr (.inl (c, some a)) :: as) np ls st' s else none
    | _ => none
  | .invokestatic _ => bif r1 == 1001 then (match st with
    | .inl y :: .inl x :: st' => bif Nat.ble st'.length 4 then fx_J True np ls (.inl (if x < y then y else x) :: st') s else none
    | _ => none) else match fx_pop (r2 % 16) [] st with
    | some (as, st') => bif Nat.ble st'.length 4 && fx_nol as then fx_K r1 as np ls st' s else none
    | _ => none
  | _ => none
abbrev fx_Q : Type := Option fx_V → fx_S → Prop
def fx_go (X : Nat → Nat → fx_L → List fx_V → fx_S → fx_Q → Prop) (mi : Nat) (Q : fx_Q) : Option fx_A → Prop
  | none => False
  | some (.inl (C, pc, ls, st, s)) => C ∧ X mi pc ls st s Q
  | some (.inr (.inl (C, (p1, l1, t1, s1), (p2, l2, t2, s2)))) => (C → X mi p1 l1 t1 s1 Q) ∧ (¬ C → X mi p2 l2 t2 s2 Q)
  | some (.inr (.inr (.inl (C, r, s)))) => C ∧ Q r s
  | some (.inr (.inr (.inr (C, m2, as, pc, ls, st, s)))) => C ∧ X m2 0 (fx_pad (fx_ml m2) as) [] s (fun r s1 => X mi pc ls (r.toList ++ st) s1 Q)
def fx_wp : Nat → Nat → Nat → fx_L → List fx_V → fx_S → fx_Q → Prop
  | 0, _, _, _, _, _, _ => False
  | n + 1, mi, pc, ls, st, s, Q => match fx_tab mi pc with
    | none => False
    | some (i, np, r1, r2) => fx_go (fx_wp n) mi Q (fx_act mi pc i np r1 r2 ls st s)
theorem fx_go_mono {X X' : Nat → Nat → fx_L → List fx_V → fx_S → fx_Q → Prop} (hX : ∀ mi pc ls st s Q Q', (∀ r s, Q r s → Q' r s) → X mi pc ls st s Q → X' mi pc ls st s Q') {mi : Nat} {Q Q' : fx_Q} (hQ : ∀ r s, Q r s → Q' r s) : ∀ a, fx_go X mi Q a → fx_go X' mi Q' a
  | none, h => h
  | some (.inl (_, _, _, _, _)), h => ⟨h.1, hX _ _ _ _ _ _ _ hQ h.2⟩
  | some (.inr (.inl (_, (_, _, _, _), (_, _, _, _)))), h => ⟨fun c => hX _ _ _ _ _ _ _ hQ (h.1 c), fun c => hX _ _ _ _ _ _ _ hQ (h.2 c)⟩
  | some (.inr (.inr (.inl (_, _, _)))), h => ⟨h.1, hQ _ _ h.2⟩
  | some (.inr (.inr (.inr (_, _, _, _, _, _, _)))), h => ⟨h.1, hX _ _ _ _ _ _ _ (fun _ _ h2 => hX _ _ _ _ _ _ _ hQ h2) h.2⟩
theorem fx_mono : ∀ n mi pc ls st s Q Q', (∀ r s, Q r s → Q' r s) → fx_wp n mi pc ls st s Q → fx_wp n mi pc ls st s Q' := by
  intro n
  induction n with
  | zero => intro mi pc ls st s Q Q' _ h; exact h
  | succ n ih =>
    intro mi pc ls st s Q Q' hQ h
    simp only [fx_wp] at h ⊢
    cases ht : fx_tab mi pc with
    | none => rw [ht] at h; exact h
    | some e => obtain ⟨i, np, r1, r2⟩ := e; rw [ht] at h; exact fx_go_mono ih hQ _ h
theorem fx_fuel : ∀ n mi pc ls st s Q, fx_wp n mi pc ls st s Q → fx_wp (n + 1) mi pc ls st s Q := by
  intro n
  induction n with
  | zero => intro mi pc ls st s Q h; exact h.elim
  | succ n ih =>
    intro mi pc ls st s Q h
    rw [fx_wp] at h ⊢
    cases ht : fx_tab mi pc with
    | none => rw [ht] at h; exact h
    | some e => obtain ⟨i, np, r1, r2⟩ := e; rw [ht] at h; exact fx_go_mono (X := fx_wp n) (X' := fx_wp (n + 1)) (fun mi pc ls st s Q Q' hQ h => fx_mono _ _ _ _ _ _ _ _ hQ (ih _ _ _ _ _ _ h)) (fun _ _ h => h) _ h
theorem fx_le {n k mi pc : Nat} {ls : fx_L} {st : List fx_V} {s : fx_S} {Q : fx_Q} (hk : n ≤ k) (h : fx_wp n mi pc ls st s Q) : fx_wp k mi pc ls st s Q := by
  induction hk with
  | refl => exact h
  | step _ ih => exact fx_fuel _ _ _ _ _ _ _ ih
/-- a run has one end -/
def fx_eq (r : Option fx_V) (s : fx_S) : fx_Q := fun r1 s1 => r1 = r ∧ s1 = s
theorem fx_one : ∀ n mi pc ls st s Q, fx_wp n mi pc ls st s Q → ∃ r s', Q r s' ∧ fx_wp n mi pc ls st s (fx_eq r s') := by
  intro n
  induction n with
  | zero => intro mi pc ls st s Q h; exact h.elim
  | succ n ih =>
    intro mi pc ls st s Q h
    simp only [fx_wp] at h ⊢
    cases ht : fx_tab mi pc with
    | none => rw [ht] at h; exact h.elim
    | some e =>
      obtain ⟨i, np, r1, r2⟩ := e
      rw [ht] at h
      dsimp only at h ⊢
      generalize fx_act mi pc i np r1 r2 ls st s = a at h ⊢
      match a, h with
      | none, h => exact h.elim
      | some (.inl (_, _, _, _, _)), h =>
        obtain ⟨r, s', h1, h2⟩ := ih _ _ _ _ _ _ h.2
        exact ⟨r, s', h1, h.1, h2⟩
      | some (.inr (.inl (C, (_, _, _, _), (_, _, _, _)))), h =>
        by_cases c : C
        · obtain ⟨r, s', h1, h2⟩ := ih _ _ _ _ _ _ (h.1 c)
          exact ⟨r, s', h1, fun _ => h2, fun q => absurd c q⟩
        · obtain ⟨r, s', h1, h2⟩ := ih _ _ _ _ _ _ (h.2 c)
          exact ⟨r, s', h1, fun q => absurd q c, fun _ => h2⟩
      | some (.inr (.inr (.inl (_, r, s')))), h => exact ⟨r, s', h.2, h.1, rfl, rfl⟩
      | some (.inr (.inr (.inr (_, _, _, _, _, _, _)))), h =>
        obtain ⟨r1, s1, h1, h2⟩ := ih _ _ _ _ _ _ h.2
        obtain ⟨r, s', h3, h4⟩ := ih _ _ _ _ _ _ h1
        refine ⟨r, s', h3, h.1, fx_mono _ _ _ _ _ _ _ _ (fun r2 s2 h5 => ?_) h2⟩
        obtain ⟨e1, e2⟩ := h5
        subst e1; subst e2
        exact h4
/-- THE WORDS OF THE PURE WALK -/
def fx_W (mi pc : Nat) (ls : fx_L) (st : List fx_V) (s : fx_S) (Q : fx_Q) : Prop := ∃ n, fx_wp n mi pc ls st s Q
def fx_M (mi : Nat) (as : List fx_V) (s : fx_S) (Q : fx_Q) : Prop := fx_W mi 0 (fx_pad (fx_ml mi) as) [] s Q
section
variable {mi pc np r1 r2 : Nat} {i : Instr} {ls : fx_L} {st : List fx_V} {s : fx_S} {Q : fx_Q}
theorem xx_j {C : Prop} {pc' : Nat} {ls' : fx_L} {st' : List fx_V} {s' : fx_S} (ht : fx_tab mi pc = some (i, np, r1, r2)) (ha : fx_act mi pc i np r1 r2 ls st s = fx_J C pc' ls' st' s') (hC : C) (k : fx_W mi pc' ls' st' s' Q) : fx_W mi pc ls st s Q := by
  obtain ⟨n, h⟩ := k
  refine ⟨n + 1, ?_⟩
  simp only [fx_wp, ht, ha]
  exact ⟨hC, h⟩
theorem xx_b {C : Prop} {p1 p2 : Nat} {ls' : fx_L} {st' : List fx_V} {s' : fx_S} (ht : fx_tab mi pc = some (i, np, r1, r2)) (ha : fx_act mi pc i np r1 r2 ls st s = fx_B C p1 p2 ls' st' s') (k1 : C → fx_W mi p1 ls' st' s' Q) (k2 : ¬ C → fx_W mi p2 ls' st' s' Q) : fx_W mi pc ls st s Q := by
  by_cases c : C
  · obtain ⟨n, h⟩ := k1 c
    refine ⟨n + 1, ?_⟩
    simp only [fx_wp, ht, ha]
    exact ⟨fun _ => h, fun q => absurd c q⟩
  · obtain ⟨n, h⟩ := k2 c
    refine ⟨n + 1, ?_⟩
    simp only [fx_wp, ht, ha]
    exact ⟨fun q => absurd q c, fun _ => h⟩
theorem xx_r {C : Prop} {r : Option fx_V} {s' : fx_S} (ht : fx_tab mi pc = some (i, np, r1, r2)) (ha : fx_act mi pc i np r1 r2 ls st s = fx_T C r s') (hC : C) (k : Q r s') : fx_W mi pc ls st s Q := by
  refine ⟨1, ?_⟩
  simp only [fx_wp, ht, ha]
  exact ⟨hC, k⟩
theorem xx_c {m2 pc' : Nat} {as : List fx_V} {ls' : fx_L} {st' : List fx_V} {s' : fx_S} (ht : fx_tab mi pc = some (i, np, r1, r2)) (ha : fx_act mi pc i np r1 r2 ls st s = fx_K m2 as pc' ls' st' s') (k : fx_M m2 as s' (fun r s1 => fx_W mi pc' ls' (r.toList ++ st') s1 Q)) : fx_W mi pc ls st s Q := by
  obtain ⟨n, h⟩ := k
  obtain ⟨r, s1, ⟨n2, h1⟩, h2⟩ := fx_one _ _ _ _ _ _ _ h
  refine ⟨max n n2 + 1, ?_⟩
  simp only [fx_wp, ht, ha]
  refine ⟨trivial, fx_mono _ _ _ _ _ _ _ _ (fun r2 s2 h5 => ?_) (fx_le (Nat.le_max_left n n2) h2)⟩
  obtain ⟨e1, e2⟩ := h5
  subst e1; subst e2
  exact fx_le (Nat.le_max_right n n2) h1
theorem xx_q {Q' : fx_Q} (h : fx_W mi pc ls st s Q') (hQ : ∀ r s, Q' r s → Q r s) : fx_W mi pc ls st s Q := by
  obtain ⟨n, h⟩ := h
  exact ⟨n, fx_mono _ _ _ _ _ _ _ _ hQ h⟩
theorem xx_i {as : List fx_V} {n : Nat} (hn : fx_ml mi = n) (h : fx_W mi 0 (fx_pad n as) [] s Q) : fx_M mi as s Q := by
  subst hn
  exact h
end
