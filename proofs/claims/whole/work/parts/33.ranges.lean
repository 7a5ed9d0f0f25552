/-! RANGES of what the reference holds -/
def rn (M : rf_M) (f i : Nat) : Nat := (M f i).toNatClampNeg
def rb (M : rf_M) (f i b : Nat) : Prop := M f i = nI (rn M f i) ∧ rn M f i < b
/-- bounds of the numbers in fields and arrays (0: none) -/
def ri_L : List Nat := [0, 9, 65, 2, 1001, 1000000, 64, 2, 1001, 1001, 257, 64, 4, 64, 8, 8, 1000000, 1000, 0, 5, 64, 9, 0, 64, 9, 0, 1000, 9, 2, 9, 512, 0, 1000, 256, 513, 512, 5, 0, 64, 9, 1000, 0, 1001, 512, 2, 2000000, 1000000, 10000000, 10000000, 10000000, 10000000]
def ri_b (f : Nat) : Nat := bif Nat.ble 768 f then ri_L.getD (f - 768) 0 else 0
def ri_n (f : Nat) : Nat := bif rf_len f == 0 then 1 else rf_len f
def RI (M : rf_M) : Prop := (∀ f i, ri_b f ≠ 0 → i < ri_n f → rb M f i (ri_b f)) ∧ (∀ i, i < 256 → M ff_Mod_whose i = fx_neg ∨ rb M ff_Mod_whose i 512) ∧ (∀ i, i < 300 → M ff_Mod_way i = fx_neg ∨ rb M ff_Mod_way i 4)
theorem rn_of {M : rf_M} {f i x : Nat} (h : M f i = nI x) (hx : x < 2 ^ 31) : rn M f i = x := by
  unfold rn
  rw [h, nI_clamp hx]
theorem rb_of {M : rf_M} {f i x b : Nat} (h : M f i = nI x) (hx : x < b) (hb : b ≤ 2 ^ 31) : rb M f i b := by
  have := rn_of h (Nat.lt_of_lt_of_le hx hb)
  exact ⟨by rw [this]; exact h, by rw [this]; exact hx⟩
theorem RI.e {M : rf_M} (h : RI M) (f i : Nat) {n : Nat} (hn : ri_n f = n) (hi : i < n) (hb : ri_b f ≠ 0) : M f i = nI (rn M f i) := (h.1 f i hb (hn ▸ hi)).1
theorem RI.l {M : rf_M} (h : RI M) (f i b : Nat) {n : Nat} (hn : ri_n f = n) (hi : i < n) (hb : ri_b f = b) (hb0 : b ≠ 0) : rn M f i < b := by
  subst hb
  exact (h.1 f i hb0 (hn ▸ hi)).2
theorem RI.f {M : rf_M} (h : RI M) (f : Nat) (hn : ri_n f = 1) (hb : ri_b f ≠ 0) : M f 0 = nI (rn M f 0) := h.e f 0 hn (by omega) hb
/-- a flag -/
def rz (M : rf_M) (f i : Nat) : Bool := rn M f i == 1
theorem RI.z {M : rf_M} (h : RI M) (f i : Nat) {n : Nat} (hn : ri_n f = n) (hi : i < n) (hb : ri_b f = 2) : M f i = fx_bit (rz M f i) := by
  have h1 := h.e f i hn hi (by omega)
  have h2 := h.l f i 2 hn hi hb (by omega)
  unfold rz
  rcases (show rn M f i = 0 ∨ rn M f i = 1 by omega) with e | e <;> rw [h1, e] <;> decide
/-- a number or -1 -/
def oI : Option Nat → Int32
  | none => fx_neg
  | some k => nI k
theorem oI_ne {k : Nat} (h : k < 2 ^ 31) : nI k ≠ fx_neg := by
  intro q
  have := nI_toInt h
  rw [q] at this
  have h2 : fx_neg.toInt = -1 := by decide
  omega
section
variable {mi pc np r1 r2 : Nat} {off : Int} {ls : fx_L} {st : List fx_V} {s : fx_S} {Q : fx_Q} {b : Option Nat}
theorem xx_oeq (ht : fx_tab mi pc = some (.if_icmp .eq off, np, r1, r2)) (hb : ∀ k, b = some k → k < 2 ^ 31) (k1 : b = none → fx_W mi r1 ls st s Q) (k2 : ∀ k, b = some k → fx_W mi np ls st s Q) : fx_W mi pc ls (.inl fx_neg :: .inl (oI b) :: st) s Q := by
  refine xx_b ht rfl (fun h => ?_) (fun h => ?_)
  · cases b with
    | none => exact k1 rfl
    | some k => exact absurd h (oI_ne (hb k rfl))
  · cases b with
    | none => exact absurd rfl h
    | some k => exact k2 k rfl
theorem xx_one (ht : fx_tab mi pc = some (.if_icmp .ne off, np, r1, r2)) (hb : ∀ k, b = some k → k < 2 ^ 31) (k1 : ∀ k, b = some k → fx_W mi r1 ls st s Q) (k2 : b = none → fx_W mi np ls st s Q) : fx_W mi pc ls (.inl fx_neg :: .inl (oI b) :: st) s Q := by
  refine xx_b ht rfl (fun h => ?_) (fun h => ?_)
  · cases b with
    | none => exact absurd rfl h
    | some k => exact k1 k rfl
  · cases b with
    | none => exact k2 rfl
    | some k => exact absurd (oI_ne (hb k rfl)) h
end
