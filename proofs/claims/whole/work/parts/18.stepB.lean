theorem fx_B_inj {C C' : Prop} {p1 p2 p1' p2' : Nat} {ls ls' : fx_L} {st st' : List fx_V} {s s' : fx_S} (h : fx_B C p1 p2 ls st s = fx_B C' p1' p2' ls' st' s') : C = C' ∧ p1 = p1' ∧ p2 = p2' ∧ ls = ls' ∧ st = st' ∧ s = s' := by
  simp only [fx_B, Option.some.injEq, Sum.inr.injEq, Sum.inl.injEq, Prod.mk.injEq] at h
  exact ⟨h.1, h.2.1.1, h.2.2.1, h.2.1.2.1, h.2.1.2.2.1, h.2.1.2.2.2⟩
theorem fx_T_inj {C C' : Prop} {r r' : Option fx_V} {s s' : fx_S} (h : fx_T C r s = fx_T C' r' s') : C = C' ∧ r = r' ∧ s = s' := by
  simp only [fx_T, Option.some.injEq, Sum.inr.injEq, Sum.inl.injEq, Prod.mk.injEq] at h
  exact h
theorem fx_K_inj {m m' : Nat} {as as' : List fx_V} {pc pc' : Nat} {ls ls' : fx_L} {st st' : List fx_V} {s s' : fx_S} (h : fx_K m as pc ls st s = fx_K m' as' pc' ls' st' s') : m = m' ∧ as = as' ∧ pc = pc' ∧ ls = ls' ∧ st = st' ∧ s = s' := by
  simp only [fx_K, Option.some.injEq, Sum.inr.injEq, Prod.mk.injEq] at h
  exact h.2
section
variable {p : Program} {l : Launch} {e : Env} {R : Room} {u : State} {m : MethodId} {args : Array Value} {below : List Frame} {meth : Method} {c : Code} {Qf : State → Prop} {D : va_G} {dA : Nat → ClassId} {scr : Cell} {sz0 nS lS : Nat} {mi pc np r1 r2 : Nat} {i : Instr} {ls : fx_L} {st : List fx_V} {s : fx_S}
set_option maxHeartbeats 8000000 in
theorem fx_stepB (I : fx_in mi p R u m args meth c D dA scr) (ht : fx_tab mi pc = some (i, np, r1, r2)) {C : Prop} {p1 p2 : Nat} {ls' : fx_L} {st' : List fx_V} {s' : fx_S} (ha : fx_act mi pc i np r1 r2 ls st s = fx_B C p1 p2 ls' st' s')
    (k1 : C → fx_Sd p l e R u m args below meth c Qf D dA scr sz0 nS lS p1 ls' st' s') (k2 : ¬ C → fx_Sd p l e R u m args below meth c Qf D dA scr sz0 nS lS p2 ls' st' s') : fx_Sd p l e R u m args below meth c Qf D dA scr sz0 nS lS pc ls st s := by
  intro hn1 hl1 H locs LS hrep hlo hS
  obtain ⟨w, hok, -, -⟩ := fx_entry ht
  obtain ⟨hx, hb, hml, hown, hts, hnm, hfr, hlw, hctx⟩ := I
  simp only [fx_okE, Bool.and_eq_true, decide_eq_true_eq] at hok
  obtain ⟨⟨hokT, hd⟩, hok⟩ := hok
  unfold fx_act at ha
  split at ha
  case h_30 =>
    rename_i cnd off
    simp only [Bool.and_eq_true, beq_iff_eq, decide_eq_true_eq] at hok
    obtain ⟨h1, h2⟩ := hok
    rw [h1, show pc + 3 - pc = 3 by omega] at hd
    split at ha
    · rename_i x st'
      obtain ⟨rfl, rfl, rfl, rfl, rfl, rfl⟩ := fx_B_inj ha
      rw [h1] at k2
      have g1 := fun q => k1 q hn1 hl1 H locs LS hrep hlo hS
      have g2 := fun q => k2 q hn1 hl1 H locs LS hrep hlo hS
      cases cnd
      · exact lv_if_eq hx hb hd h2 g1 g2
      · exact lv_if_ne hx hb hd h2 g1 (fun q => g2 (fun hn => hn q))
      · exact lv_if_lt hx hb hd h2 g1 g2
      · exact lv_if_ge hx hb hd h2 g1 g2
      · exact lv_if_gt hx hb hd h2 g1 g2
      · exact lv_if_le hx hb hd h2 g1 g2
    · exact absurd ha (by simp [fx_B])
  case h_31 =>
    rename_i cnd off
    simp only [Bool.and_eq_true, beq_iff_eq, decide_eq_true_eq] at hok
    obtain ⟨h1, h2⟩ := hok
    rw [h1, show pc + 3 - pc = 3 by omega] at hd
    split at ha
    · rename_i y x st'
      obtain ⟨rfl, rfl, rfl, rfl, rfl, rfl⟩ := fx_B_inj ha
      rw [h1] at k2
      have g1 := fun q => k1 q hn1 hl1 H locs LS hrep hlo hS
      have g2 := fun q => k2 q hn1 hl1 H locs LS hrep hlo hS
      cases cnd
      · exact lv_icmp_eq hx hb hd h2 g1 g2
      · exact lv_icmp_ne hx hb hd h2 g1 (fun q => g2 (fun hn => hn q))
      · exact lv_icmp_lt hx hb hd h2 g1 g2
      · exact lv_icmp_ge hx hb hd h2 g1 g2
      · exact lv_icmp_gt hx hb hd h2 g1 g2
      · exact lv_icmp_le hx hb hd h2 g1 g2
    · exact absurd ha (by simp [fx_B])
  case h_32 =>
    simp only [Bool.and_eq_true, beq_iff_eq, decide_eq_true_eq] at hok
    obtain ⟨h1, h2⟩ := hok
    rw [h1, show pc + 3 - pc = 3 by omega] at hd
    split at ha
    · rename_i tg o st'
      obtain ⟨rfl, rfl, rfl, rfl, rfl, rfl⟩ := fx_B_inj ha
      rw [h1] at k2
      cases o with
      | none => exact lv_ifnullN hx hb hd h2 (k1 rfl hn1 hl1 H locs LS hrep hlo hS)
      | some y => exact lv_ifnull hx hb hd (k2 (fun q => by cases q) hn1 hl1 H locs LS hrep hlo hS)
    · exact absurd ha (by simp [fx_B])
  case h_33 =>
    simp only [Bool.and_eq_true, beq_iff_eq, decide_eq_true_eq] at hok
    obtain ⟨h1, h2⟩ := hok
    rw [h1, show pc + 3 - pc = 3 by omega] at hd
    split at ha
    · rename_i tg o st'
      obtain ⟨rfl, rfl, rfl, rfl, rfl, rfl⟩ := fx_B_inj ha
      rw [h1] at k1
      cases o with
      | none => exact lv_ifnonnullN hx hb hd (k1 rfl hn1 hl1 H locs LS hrep hlo hS)
      | some y => exact lv_ifnonnull hx hb hd h2 (k2 (fun q => by cases q) hn1 hl1 H locs LS hrep hlo hS)
    · exact absurd ha (by simp [fx_B])
  case h_34 =>
    simp only [Bool.and_eq_true, beq_iff_eq, decide_eq_true_eq] at hok
    obtain ⟨h1, h2⟩ := hok
    rw [h1, show pc + 3 - pc = 3 by omega] at hd
    split at ha
    · rename_i t1 o t2 q st'
      obtain ⟨rfl, rfl, rfl, rfl, rfl, rfl⟩ := fx_B_inj ha
      rw [h1] at k2
      exact lv_acmp_eq hx hb hd h2 (fun g => k1 g hn1 hl1 H locs LS hrep hlo hS) (fun g => k2 g hn1 hl1 H locs LS hrep hlo hS)
    · exact absurd ha (by simp [fx_B])
  case h_35 =>
    simp only [Bool.and_eq_true, beq_iff_eq, decide_eq_true_eq] at hok
    obtain ⟨h1, h2⟩ := hok
    rw [h1, show pc + 3 - pc = 3 by omega] at hd
    split at ha
    · rename_i t1 o t2 q st'
      obtain ⟨rfl, rfl, rfl, rfl, rfl, rfl⟩ := fx_B_inj ha
      rw [h1] at k1
      exact lv_acmp_ne hx hb hd h2 (fun g => k2 g hn1 hl1 H locs LS hrep hlo hS) (fun g => k1 g hn1 hl1 H locs LS hrep hlo hS)
    · exact absurd ha (by simp [fx_B])
  all_goals (exfalso; clear hok hd hokT k1 k2; (try simp only [Bool.cond_eq_ite] at ha); (repeat' split at ha) <;> simp [fx_J, fx_B, fx_T, fx_K] at ha)
end
/-- what leaves -/
theorem fx_T_inv {mi pc np r1 r2 : Nat} {i : Instr} {ls : fx_L} {st : List fx_V} {s : fx_S} {C : Prop} {r : Option fx_V} {s' : fx_S} (ha : fx_act mi pc i np r1 r2 ls st s = fx_T C r s') :
    s' = s ∧ ((i = .ireturn ∧ ∃ x, st = [.inl x] ∧ r = some (.inl x) ∧ C = (fx_rt mi = 2 → x = 0 ∨ x = 1)) ∨ (i = .areturn ∧ ∃ v, st = [.inr (.inl v)] ∧ r = some (.inr (.inl v))) ∨ (i = .return_ ∧ st = [] ∧ r = none) ∨ (∃ k, i = .new k ∧ 900 ≤ r1 ∧ r = some (.inr (.inl (r1, none))))) := by
  unfold fx_act at ha
  split at ha
  case h_39 =>
    rename_i k
    cases h9 : Nat.ble 900 r1
    · rw [h9] at ha
      cases h8 : Nat.ble r1 12 <;> rw [h8] at ha <;> exact absurd ha (by simp [fx_J, fx_T])
    · rw [h9] at ha
      obtain ⟨rfl, rfl, rfl⟩ := fx_T_inj ha
      exact ⟨rfl, Or.inr (Or.inr (Or.inr ⟨k, rfl, Nat.le_of_ble_eq_true h9, rfl⟩))⟩
  case h_51 =>
    split at ha
    · rename_i x
      obtain ⟨rfl, rfl, rfl⟩ := fx_T_inj ha
      exact ⟨rfl, Or.inl ⟨rfl, x, rfl, rfl, rfl⟩⟩
    · exact absurd ha (by simp [fx_T])
  case h_52 =>
    split at ha
    · rename_i v
      obtain ⟨rfl, rfl, rfl⟩ := fx_T_inj ha
      exact ⟨rfl, Or.inr (Or.inl ⟨rfl, v, rfl, rfl⟩)⟩
    · exact absurd ha (by simp [fx_T])
  case h_53 =>
    split at ha
    · obtain ⟨rfl, rfl, rfl⟩ := fx_T_inj ha
      exact ⟨rfl, Or.inr (Or.inr (Or.inl ⟨rfl, rfl, rfl⟩))⟩
    · exact absurd ha (by simp [fx_T])
  all_goals (exfalso; (try simp only [Bool.cond_eq_ite] at ha); (repeat' split at ha) <;> simp [fx_J, fx_B, fx_T, fx_K] at ha)
/-- what calls -/
theorem fx_K_inv {mi pc np r1 r2 : Nat} {i : Instr} {ls : fx_L} {st : List fx_V} {s : fx_S} {m2 pc' : Nat} {as : List fx_V} {ls' : fx_L} {st' : List fx_V} {s' : fx_S} (ha : fx_act mi pc i np r1 r2 ls st s = fx_K m2 as pc' ls' st' s') :
    pc' = np ∧ ls' = ls ∧ s' = s ∧ m2 = r1 ∧ st'.length ≤ 4 ∧ (∃ xs : List fx_V, as = xs.reverse ∧ st = xs ++ st' ∧ xs.length = r2 % 16) ∧ fx_nol as = true ∧ ((∃ k c a as', i = .invokespecial k ∧ r1 ≠ 1000 ∧ as = .inr (.inl (c, some a)) :: as' ∧ c = r2 / 16) ∨ (∃ k c a as', i = .invokevirtual k ∧ as = .inr (.inl (c, some a)) :: as' ∧ c = r2 / 16) ∨ (∃ k, i = .invokestatic k ∧ r1 ≠ 1001)) := by
  unfold fx_act at ha
  split at ha
  case h_54 =>
    rename_i k
    cases h9 : (r1 == 1000)
    · rw [h9] at ha
      dsimp only [cond] at ha
      split at ha
      · rename_i c' a as1 st1 hp
        cases hq : (c' == r2 / 16 && Nat.ble st1.length 4 && fx_nol as1)
        · rw [hq] at ha; exact absurd ha (by simp [fx_K])
        · rw [hq] at ha
          simp only [Bool.and_eq_true, beq_iff_eq] at hq
          obtain ⟨rfl, rfl, rfl, rfl, rfl, rfl⟩ := fx_K_inj ha
          obtain ⟨xs, g1, g2, g3⟩ := fx_pop_spec _ [] _ _ _ hp
          exact ⟨rfl, rfl, rfl, rfl, Nat.le_of_ble_eq_true hq.1.2, ⟨xs, by simpa using g1, g2, g3⟩, hq.2, Or.inl ⟨k, c', a, as1, rfl, by simpa using h9, rfl, hq.1.1⟩⟩
      · exact absurd ha (by simp [fx_K])
    · rw [h9] at ha
      dsimp only [cond] at ha
      split at ha
      · rename_i c' a st1
        cases h8 : Nat.ble st1.length 4 <;> rw [h8] at ha <;> exact absurd ha (by simp [fx_K, fx_J])
      · exact absurd ha (by simp [fx_K])
  case h_55 =>
    rename_i k
    split at ha
    · rename_i c' a as1 st1 hp
      cases hq : (c' == r2 / 16 && Nat.ble st1.length 4 && fx_nol as1)
      · rw [hq] at ha; exact absurd ha (by simp [fx_K])
      · rw [hq] at ha
        simp only [Bool.and_eq_true, beq_iff_eq] at hq
        obtain ⟨rfl, rfl, rfl, rfl, rfl, rfl⟩ := fx_K_inj ha
        obtain ⟨xs, g1, g2, g3⟩ := fx_pop_spec _ [] _ _ _ hp
        exact ⟨rfl, rfl, rfl, rfl, Nat.le_of_ble_eq_true hq.1.2, ⟨xs, by simpa using g1, g2, g3⟩, hq.2, Or.inr (Or.inl ⟨k, c', a, as1, rfl, rfl, hq.1.1⟩)⟩
    · exact absurd ha (by simp [fx_K])
  case h_56 =>
    rename_i k
    cases h9 : (r1 == 1001)
    · rw [h9] at ha
      dsimp only [cond] at ha
      split at ha
      · rename_i as1 st1 hp
        cases hq : (Nat.ble st1.length 4 && fx_nol as1)
        · rw [hq] at ha; exact absurd ha (by simp [fx_K])
        · rw [hq] at ha
          simp only [Bool.and_eq_true] at hq
          obtain ⟨rfl, rfl, rfl, rfl, rfl, rfl⟩ := fx_K_inj ha
          obtain ⟨xs, g1, g2, g3⟩ := fx_pop_spec _ [] _ _ _ hp
          exact ⟨rfl, rfl, rfl, rfl, Nat.le_of_ble_eq_true hq.1, ⟨xs, by simpa using g1, g2, g3⟩, hq.2, Or.inr (Or.inr ⟨k, rfl, by simpa using h9⟩)⟩
      · exact absurd ha (by simp [fx_K])
    · rw [h9] at ha
      dsimp only [cond] at ha
      split at ha
      · rename_i y x st1
        cases h8 : Nat.ble st1.length 4 <;> rw [h8] at ha <;> exact absurd ha (by simp [fx_K, fx_J])
      · exact absurd ha (by simp [fx_K])
  all_goals (exfalso; (try simp only [Bool.cond_eq_ite] at ha); (repeat' split at ha) <;> simp [fx_J, fx_B, fx_T, fx_K] at ha)
theorem fx_B_same {mi pc np r1 r2 : Nat} {i : Instr} {ls : fx_L} {st : List fx_V} {s : fx_S} {C : Prop} {p1 p2 : Nat} {l1 l2 : fx_L} {t1 t2 : List fx_V} {s1 s2 : fx_S} (ha : fx_act mi pc i np r1 r2 ls st s = some (.inr (.inl (C, (p1, l1, t1, s1), (p2, l2, t2, s2))))) : t1 = t2 := by
  unfold fx_act at ha
  split at ha
  all_goals ((try simp only [Bool.cond_eq_ite] at ha); (repeat' split at ha) <;> simp [fx_J, fx_B, fx_T, fx_K] at ha)
  all_goals (obtain ⟨-, ⟨-, -, h1, -⟩, -, -, h2, -⟩ := ha; exact h1.symm.trans h2)
theorem fx_K_true {mi pc np r1 r2 : Nat} {i : Instr} {ls : fx_L} {st : List fx_V} {s : fx_S} {C : Prop} {m2 pc' : Nat} {as : List fx_V} {ls' : fx_L} {st' : List fx_V} {s' : fx_S} (ha : fx_act mi pc i np r1 r2 ls st s = some (.inr (.inr (.inr (C, m2, as, pc', ls', st', s'))))) : C = True := by
  unfold fx_act at ha
  split at ha
  all_goals ((try simp only [Bool.cond_eq_ite] at ha); (repeat' split at ha) <;> simp [fx_J, fx_B, fx_T, fx_K] at ha)
  all_goals (exact eq_true ha.1)
