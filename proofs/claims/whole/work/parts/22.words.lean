/-! ROWS OF THE PURE WALK by kinds -/
section
variable {mi pc np f t idx a b n j : Nat} {ls : fx_L} {st : List fx_V} {s : fx_S} {Q : fx_Q} {x y : Int32}
/-- a field: its value under a name -/
theorem xx_gi {c : Nat} (ht : fx_tab mi pc = some (.getfield idx, np, f, t)) (hv : fx_fi s f a = x) (hc : (c == 10 + f / 64) = true) (h2 : Nat.ble t 1 = true) (k : fx_W mi np ls (.inl x :: st) s Q) : fx_W mi pc ls (.inr (.inl (c, some a)) :: st) s Q :=
  xx_j ht (by simp only [fx_act, hc, h2, cond_true]; rfl) trivial (by rw [hv]; exact k)
theorem xx_gr {c : Nat} {o : Option Nat} (ht : fx_tab mi pc = some (.getfield idx, np, f, t)) (hv : fx_fr s f a = o) (hc : (c == 10 + f / 64) = true) (h2 : Nat.ble t 1 = false) (k : fx_W mi np ls (.inr (.inl (t, o)) :: st) s Q) : fx_W mi pc ls (.inr (.inl (c, some a)) :: st) s Q :=
  xx_j ht (by simp only [fx_act, hc, h2, cond_true, cond_false]; rfl) trivial (by rw [hv]; exact k)
theorem xx_k {n : Int} {r1 r2 : Nat} (ht : fx_tab mi pc = some (.iconst n, np, r1, r2)) (v : Nat) (hv : fx_ic n = nI v) (k : fx_W mi np ls (.inl (nI v) :: st) s Q) : fx_W mi pc ls st s Q := xx_j ht rfl trivial (by rw [hv]; exact k)
theorem xx_kb {n : Int} {r1 r2 : Nat} (ht : fx_tab mi pc = some (.bipush n, np, r1, r2)) (v : Nat) (hv : fx_ic n = nI v) (k : fx_W mi np ls (.inl (nI v) :: st) s Q) : fx_W mi pc ls st s Q := xx_j ht rfl trivial (by rw [hv]; exact k)
theorem xx_ks {n : Int} {r1 r2 : Nat} (ht : fx_tab mi pc = some (.sipush n, np, r1, r2)) (v : Nat) (hv : fx_ic n = nI v) (k : fx_W mi np ls (.inl (nI v) :: st) s Q) : fx_W mi pc ls st s Q := xx_j ht rfl trivial (by rw [hv]; exact k)
/-- minus one -/
def fx_neg : Int32 := -1
theorem xx_km {n : Int} {r1 r2 : Nat} (ht : fx_tab mi pc = some (.iconst n, np, r1, r2)) (hv : fx_ic n = fx_neg) (k : fx_W mi np ls (.inl fx_neg :: st) s Q) : fx_W mi pc ls st s Q := xx_j ht rfl trivial (by rw [hv]; exact k)
/-- the top of the stack is renamed -/
theorem xx_t (h : x = y) (k : fx_W mi pc ls (.inl y :: st) s Q) : fx_W mi pc ls (.inl x :: st) s Q := by rw [h]; exact k
theorem xx_s {s' : fx_S} (h : s = s') (k : fx_W mi pc ls st s' Q) : fx_W mi pc ls st s Q := by rw [h]; exact k
theorem xx_add {r1 r2 : Nat} (ht : fx_tab mi pc = some (.iadd, np, r1, r2)) (k : fx_W mi np ls (.inl (nI (a + b)) :: st) s Q) : fx_W mi pc ls (.inl (nI b) :: .inl (nI a) :: st) s Q :=
  xx_j ht rfl trivial (by rw [nI_add]; exact k)
theorem xx_mul {r1 r2 : Nat} (ht : fx_tab mi pc = some (.imul, np, r1, r2)) (k : fx_W mi np ls (.inl (nI (a * b)) :: st) s Q) : fx_W mi pc ls (.inl (nI b) :: .inl (nI a) :: st) s Q :=
  xx_j ht rfl trivial (by rw [pk_mul]; exact k)
theorem xx_sub {r1 r2 : Nat} (ht : fx_tab mi pc = some (.isub, np, r1, r2)) (h : b ≤ a) (k : fx_W mi np ls (.inl (nI (a - b)) :: st) s Q) : fx_W mi pc ls (.inl (nI b) :: .inl (nI a) :: st) s Q :=
  xx_j ht rfl trivial (by rw [pk_sub h]; exact k)
theorem xx_div {r1 r2 : Nat} (ht : fx_tab mi pc = some (.idiv, np, r1, r2)) (ha : a < 2 ^ 31) (h0 : 0 < b) (hb : b < 2 ^ 31) (k : fx_W mi np ls (.inl (nI (a / b)) :: st) s Q) : fx_W mi pc ls (.inl (nI b) :: .inl (nI a) :: st) s Q :=
  xx_j ht rfl (nI_ne0 h0 hb) (by rw [pk_div ha h0 hb]; exact k)
theorem xx_rem {r1 r2 : Nat} (ht : fx_tab mi pc = some (.irem, np, r1, r2)) (ha : a < 2 ^ 31) (h0 : 0 < b) (hb : b < 2 ^ 31) (k : fx_W mi np ls (.inl (nI (a % b)) :: st) s Q) : fx_W mi pc ls (.inl (nI b) :: .inl (nI a) :: st) s Q :=
  xx_j ht rfl (nI_ne0 h0 hb) (by rw [pk_rem ha h0 hb]; exact k)
theorem xx_inc {r1 r2 : Nat} (ht : fx_tab mi pc = some (.iinc r1 1, np, r1, r2)) (hg : fx_get ls r1 = some (.inl (nI a))) (k : fx_W mi np (fx_set ls r1 (.inl (nI (a + 1)))) st s Q) : fx_W mi pc ls st s Q :=
  xx_j (ls' := fx_set ls r1 (.inl (nI a + fx_ic 1))) ht (by simp only [fx_act, hg]; rfl) trivial (by
    rw [show nI a + fx_ic 1 = nI (a + 1) from nI_1 a]; exact k)
/-- branches on numbers -/
theorem xx_ge {r1 r2 : Nat} {off : Int} (ht : fx_tab mi pc = some (.if_icmp .ge off, np, r1, r2)) (ha : a < 2 ^ 31) (hb : b < 2 ^ 31) (k1 : b ≤ a → fx_W mi r1 ls st s Q) (k2 : a < b → fx_W mi np ls st s Q) : fx_W mi pc ls (.inl (nI b) :: .inl (nI a) :: st) s Q :=
  xx_b ht rfl (fun h => k1 ((nI_leI hb ha).mp h)) (fun h => k2 (Nat.lt_of_not_le fun q => h ((nI_leI hb ha).mpr q)))
theorem xx_lt {r1 r2 : Nat} {off : Int} (ht : fx_tab mi pc = some (.if_icmp .lt off, np, r1, r2)) (ha : a < 2 ^ 31) (hb : b < 2 ^ 31) (k1 : a < b → fx_W mi r1 ls st s Q) (k2 : b ≤ a → fx_W mi np ls st s Q) : fx_W mi pc ls (.inl (nI b) :: .inl (nI a) :: st) s Q :=
  xx_b ht rfl (fun h => k1 ((nI_ltI ha hb).mp h)) (fun h => k2 (Nat.le_of_not_lt fun q => h ((nI_ltI ha hb).mpr q)))
theorem xx_gt {r1 r2 : Nat} {off : Int} (ht : fx_tab mi pc = some (.if_icmp .gt off, np, r1, r2)) (ha : a < 2 ^ 31) (hb : b < 2 ^ 31) (k1 : b < a → fx_W mi r1 ls st s Q) (k2 : a ≤ b → fx_W mi np ls st s Q) : fx_W mi pc ls (.inl (nI b) :: .inl (nI a) :: st) s Q :=
  xx_b ht rfl (fun h => k1 ((nI_ltI hb ha).mp h)) (fun h => k2 (Nat.le_of_not_lt fun q => h ((nI_ltI hb ha).mpr q)))
theorem xx_le {r1 r2 : Nat} {off : Int} (ht : fx_tab mi pc = some (.if_icmp .le off, np, r1, r2)) (ha : a < 2 ^ 31) (hb : b < 2 ^ 31) (k1 : a ≤ b → fx_W mi r1 ls st s Q) (k2 : b < a → fx_W mi np ls st s Q) : fx_W mi pc ls (.inl (nI b) :: .inl (nI a) :: st) s Q :=
  xx_b ht rfl (fun h => k1 ((nI_leI ha hb).mp h)) (fun h => k2 (Nat.lt_of_not_le fun q => h ((nI_leI ha hb).mpr q)))
theorem xx_eq {r1 r2 : Nat} {off : Int} (ht : fx_tab mi pc = some (.if_icmp .eq off, np, r1, r2)) (ha : a < 2 ^ 31) (hb : b < 2 ^ 31) (k1 : a = b → fx_W mi r1 ls st s Q) (k2 : a ≠ b → fx_W mi np ls st s Q) : fx_W mi pc ls (.inl (nI b) :: .inl (nI a) :: st) s Q :=
  xx_b ht rfl (fun h => k1 ((nI_eq ha hb).mp h)) (fun h => k2 fun q => h ((nI_eq ha hb).mpr q))
theorem xx_ne {r1 r2 : Nat} {off : Int} (ht : fx_tab mi pc = some (.if_icmp .ne off, np, r1, r2)) (ha : a < 2 ^ 31) (hb : b < 2 ^ 31) (k1 : a ≠ b → fx_W mi r1 ls st s Q) (k2 : a = b → fx_W mi np ls st s Q) : fx_W mi pc ls (.inl (nI b) :: .inl (nI a) :: st) s Q :=
  xx_b ht rfl (fun h => k1 fun q => h ((nI_eq ha hb).mpr q)) (fun h => k2 ((nI_eq ha hb).mp (Classical.byContradiction fun q => h q)))
/-- a flag: 0 or 1 -/
def fx_bit (p : Bool) : Int32 := bif p then 1 else 0
theorem fx_bit01 (p : Bool) : fx_bit p = 0 ∨ fx_bit p = 1 := by cases p <;> simp [fx_bit]
theorem xx_z {r1 r2 : Nat} {off : Int} {p : Bool} (ht : fx_tab mi pc = some (.ifCond .eq off, np, r1, r2)) (k1 : p = false → fx_W mi r1 ls st s Q) (k2 : p = true → fx_W mi np ls st s Q) : fx_W mi pc ls (.inl (fx_bit p) :: st) s Q :=
  xx_b ht rfl (fun h => k1 (by cases p; rfl; exact absurd (show fx_bit true = 0 from h) (by decide))) (fun h => k2 (by cases p; exact absurd rfl h; rfl))
theorem xx_nz {r1 r2 : Nat} {off : Int} {p : Bool} (ht : fx_tab mi pc = some (.ifCond .ne off, np, r1, r2)) (k1 : p = true → fx_W mi r1 ls st s Q) (k2 : p = false → fx_W mi np ls st s Q) : fx_W mi pc ls (.inl (fx_bit p) :: st) s Q :=
  xx_b ht rfl (fun h => k1 (by cases p; exact absurd rfl h; rfl)) (fun h => k2 (by cases p; rfl; exact absurd (show ¬ fx_bit true = 0 by decide) h))
/-- arrays by numbers -/
theorem xx_al {r1 r2 c : Nat} (ht : fx_tab mi pc = some (.iaload, np, r1, r2)) (hl : fx_ln s a = n) (hj : j < n) (hn : n < 2 ^ 31) (hx : fx_ai s a j = x) (hc : (c == 70 || c == 73) = true) (k : fx_W mi np ls (.inl x :: st) s Q) : fx_W mi pc ls (.inl (nI j) :: .inr (.inl (c, some a)) :: st) s Q :=
  xx_j (C := vp_in (nI j) (fx_ln s a)) (st' := .inl (fx_ai s a (nI j).toNatClampNeg) :: st) ht (by simp only [fx_act, hc, cond_true]; rfl) (by rw [hl]; exact vp_in_nI hj hn) (by rw [nI_clamp (by omega), hx]; exact k)
theorem xx_zl {r1 r2 : Nat} (ht : fx_tab mi pc = some (.baload, np, r1, r2)) (hl : fx_ln s a = n) (hj : j < n) (hn : n < 2 ^ 31) (hx : fx_ai s a j = x) (k : fx_W mi np ls (.inl x :: st) s Q) : fx_W mi pc ls (.inl (nI j) :: .inr (.inl (71, some a)) :: st) s Q :=
  xx_j (C := vp_in (nI j) (fx_ln s a)) (st' := .inl (fx_ai s a (nI j).toNatClampNeg) :: st) ht rfl (by rw [hl]; exact vp_in_nI hj hn) (by rw [nI_clamp (by omega), hx]; exact k)
theorem xx_rl {r1 r2 c : Nat} {o : Option Nat} (ht : fx_tab mi pc = some (.aaload, np, r1, r2)) (hl : fx_ln s a = n) (hj : j < n) (hn : n < 2 ^ 31) (hx : fx_ar s a j = o) (hc : fx_ia c = true) (k : fx_W mi np ls (.inr (.inl (c - 30, o)) :: st) s Q) : fx_W mi pc ls (.inl (nI j) :: .inr (.inl (c, some a)) :: st) s Q :=
  xx_j (C := vp_in (nI j) (fx_ln s a)) (st' := .inr (.inl (c - 30, fx_ar s a (nI j).toNatClampNeg)) :: st) ht (by simp only [fx_act, hc, cond_true]; rfl) (by rw [hl]; exact vp_in_nI hj hn) (by rw [nI_clamp (by omega), hx]; exact k)
theorem xx_as {r1 r2 : Nat} (ht : fx_tab mi pc = some (.iastore, np, r1, r2)) (hl : fx_ln s a = n) (hj : j < n) (hn : n < 2 ^ 31) (k : fx_W mi np ls st (fx_sai s a j x) Q) : fx_W mi pc ls (.inl x :: .inl (nI j) :: .inr (.inl (70, some a)) :: st) s Q :=
  xx_j (C := vp_in (nI j) (fx_ln s a)) (s' := fx_sai s a (nI j).toNatClampNeg x) ht rfl (by rw [hl]; exact vp_in_nI hj hn) (by rw [nI_clamp (by omega)]; exact k)
theorem xx_zs {r1 r2 : Nat} {p : Bool} (ht : fx_tab mi pc = some (.bastore, np, r1, r2)) (hl : fx_ln s a = n) (hj : j < n) (hn : n < 2 ^ 31) (k : fx_W mi np ls st (fx_sai s a j (fx_bit p)) Q) : fx_W mi pc ls (.inl (fx_bit p) :: .inl (nI j) :: .inr (.inl (71, some a)) :: st) s Q :=
  xx_j (C := vp_in (nI j) (fx_ln s a) ∧ (fx_bit p = 0 ∨ fx_bit p = 1)) (s' := fx_sai s a (nI j).toNatClampNeg (fx_bit p)) ht rfl ⟨by rw [hl]; exact vp_in_nI hj hn, fx_bit01 p⟩ (by rw [nI_clamp (by omega)]; exact k)
theorem xx_rs {r1 r2 c c2 : Nat} {o : Option Nat} (ht : fx_tab mi pc = some (.aastore, np, r1, r2)) (hl : fx_ln s a = n) (hj : j < n) (hn : n < 2 ^ 31) (hc : fx_ia c = true) (ho : c2 = c - 30 ∨ o = none) (k : fx_W mi np ls st (fx_sar s a j o) Q) : fx_W mi pc ls (.inr (.inl (c2, o)) :: .inl (nI j) :: .inr (.inl (c, some a)) :: st) s Q :=
  xx_j (C := vp_in (nI j) (fx_ln s a) ∧ (c2 = c - 30 ∨ o = none)) (s' := fx_sar s a (nI j).toNatClampNeg o) ht (by simp only [fx_act, hc, cond_true]; rfl) ⟨by rw [hl]; exact vp_in_nI hj hn, ho⟩ (by rw [nI_clamp (by omega)]; exact k)
/-- results -/
theorem xx_rz {r1 r2 : Nat} {p : Bool} (ht : fx_tab mi pc = some (.ireturn, np, r1, r2)) (k : Q (some (.inl (fx_bit p))) s) : fx_W mi pc ls [.inl (fx_bit p)] s Q := xx_r ht rfl (fun _ => fx_bit01 p) k
theorem xx_ri {r1 r2 : Nat} (ht : fx_tab mi pc = some (.ireturn, np, r1, r2)) (hr : fx_rt mi ≠ 2) (k : Q (some (.inl x)) s) : fx_W mi pc ls [.inl x] s Q := xx_r ht rfl (fun h => absurd h hr) k
theorem fx_bit_t : nI 1 = fx_bit true := by decide
theorem fx_bit_f : nI 0 = fx_bit false := by decide
end
