/-! TYPES, purely: addresses on the stack, in locals and in cells have the kinds that their tags say. -/
def fx_fresh (s : fx_S) : Prop := ∀ a, fx_nx s ≤ a → fx_kd s a = 0
def fx_wt (s : fx_S) : Prop := (∀ a f b, fx_kd s a = 10 + f / 64 → 2 ≤ fx_ft f → fx_fr s f a = some b → fx_kd s b = fx_ft f) ∧ (∀ a j b, fx_ia (fx_kd s a) = true → fx_ar s a j = some b → fx_kd s b = fx_kd s a - 30)
def fx_tv (s : fx_S) : fx_V → Prop
  | .inr (.inl (c, some b)) => fx_kd s b = c ∧ c ≠ 0
  | _ => True
def fx_tl (s : fx_S) (ls : fx_L) : Prop := ∀ i v, fx_get ls i = some v → fx_tv s v
def fx_ts (s : fx_S) (st : List fx_V) : Prop := ∀ v ∈ st, fx_tv s v
def fx_ext (s t : fx_S) : Prop := fx_nx s ≤ fx_nx t ∧ fx_sl s ≤ fx_sl t ∧ ∀ a, fx_kd s a ≠ 0 → fx_kd t a = fx_kd s a
theorem fx_ext.rf (s : fx_S) : fx_ext s s := ⟨Nat.le_refl _, Nat.le_refl _, fun _ _ => rfl⟩
theorem fx_ext.tr {s t u : fx_S} (h : fx_ext s t) (g : fx_ext t u) : fx_ext s u := ⟨Nat.le_trans h.1 g.1, Nat.le_trans h.2.1 g.2.1, fun a ha => by
  have e := h.2.2 a ha
  rw [g.2.2 a (by rw [e]; exact ha), e]⟩
theorem fx_tv.ext {s t : fx_S} (h : fx_ext s t) : ∀ {v : fx_V}, fx_tv s v → fx_tv t v
  | .inl _, _ => trivial
  | .inr (.inr _), _ => trivial
  | .inr (.inl (_, none)), _ => trivial
  | .inr (.inl (_, some b)), g => ⟨(h.2.2 b (by rw [g.1]; exact g.2)).trans g.1, g.2⟩
theorem fx_ts.ext {s t : fx_S} (h : fx_ext s t) {st : List fx_V} (g : fx_ts s st) : fx_ts t st := fun v hv => (g v hv).ext h
theorem fx_tl.ext {s t : fx_S} (h : fx_ext s t) {ls : fx_L} (g : fx_tl s ls) : fx_tl t ls := fun i v hv => (g i v hv).ext h
def fx_okT (i : Instr) (r1 r2 : Nat) : Bool := match i with
  | .getfield _ => fx_ft r1 == r2
  | .putfield _ => fx_ft r1 == r2
  | _ => true
theorem fx_get_set : ∀ (ls : fx_L) (i j : Nat) (v w : fx_V), fx_get (fx_set ls i v) j = some w → w = v ∨ fx_get ls j = some w
  | [], _, _, _, _, h => by simp [fx_set, fx_get] at h
  | _ :: l, 0, 0, v, w, h => by simp [fx_set, fx_get] at h; exact Or.inl h.symm
  | _ :: l, 0, j + 1, v, w, h => by simp [fx_set, fx_get] at h; exact Or.inr (by simpa [fx_get] using h)
  | x :: l, i + 1, 0, v, w, h => by simp [fx_set, fx_get] at h; exact Or.inr (by simpa [fx_get] using h)
  | x :: l, i + 1, j + 1, v, w, h => by
    simp [fx_set, fx_get] at h
    simpa [fx_get] using fx_get_set l i j v w h
theorem fx_set_len : ∀ (ls : fx_L) (i : Nat) (v : fx_V), (fx_set ls i v).length = ls.length
  | [], _, _ => rfl
  | _ :: _, 0, _ => rfl
  | _ :: l, i + 1, v => by simp [fx_set, fx_set_len l i v]
theorem fx_pop_spec : ∀ (n : Nat) (acc st as st' : List fx_V), fx_pop n acc st = some (as, st') → ∃ xs : List fx_V, as = xs.reverse ++ acc ∧ st = xs ++ st' ∧ xs.length = n
  | 0, acc, st, as, st', h => by simp [fx_pop] at h; exact ⟨[], by simp [h.1], by simp [h.2], rfl⟩
  | n + 1, acc, [], as, st', h => by simp [fx_pop] at h
  | n + 1, acc, v :: st, as, st', h => by
    simp only [fx_pop] at h
    obtain ⟨xs, h1, h2, h3⟩ := fx_pop_spec n (v :: acc) st as st' h
    exact ⟨v :: xs, by simp [h1], by simp [h2], by simp [h3]⟩
theorem fx_get_rep : ∀ (n i : Nat) (v : fx_V), fx_get (List.replicate n none) i = some v → False
  | 0, i, v, h => by simp [fx_get] at h
  | n + 1, 0, v, h => by simp [List.replicate_succ, fx_get] at h
  | n + 1, i + 1, v, h => fx_get_rep n i v (by simpa [List.replicate_succ, fx_get] using h)
theorem fx_get_pad : ∀ (n : Nat) (as : List fx_V) (i : Nat) (v : fx_V), fx_get (fx_pad n as) i = some v → as[i]? = some v
  | n, [], i, v, h => (fx_get_rep n i v h).elim
  | n, a :: l, 0, v, h => by simpa [fx_pad, fx_get] using h
  | n, a :: l, i + 1, v, h => by
    have := fx_get_pad (n - 1) l i v (by simpa [fx_pad, fx_get] using h)
    simpa using this
theorem fx_pad_len : ∀ (n : Nat) (as : List fx_V), as.length ≤ n → (fx_pad n as).length = n
  | n, [], _ => by simp [fx_pad]
  | n, a :: l, h => by
    have h1 : l.length + 1 ≤ n := h
    simp only [fx_pad, List.length_cons, fx_pad_len (n - 1) l (by omega)]
    omega
def fx_inv (s : fx_S) (ls : fx_L) (st : List fx_V) : Prop := fx_fresh s ∧ fx_wt s ∧ fx_tl s ls ∧ fx_ts s st
theorem fx_ts.hd {s : fx_S} {v : fx_V} {st : List fx_V} (h : fx_ts s (v :: st)) : fx_tv s v := h v List.mem_cons_self
theorem fx_ts.tl {s : fx_S} {v : fx_V} {st : List fx_V} (h : fx_ts s (v :: st)) : fx_ts s st := fun w hw => h w (List.mem_cons_of_mem _ hw)
theorem fx_ts.cons {s : fx_S} {v : fx_V} {st : List fx_V} (h : fx_ts s st) (g : fx_tv s v) : fx_ts s (v :: st) := fun w hw => by
  rcases List.mem_cons.mp hw with e | e
  · rw [e]; exact g
  · exact h w e
theorem fx_tl.set {s : fx_S} {v : fx_V} {ls : fx_L} {i : Nat} (h : fx_tl s ls) (g : fx_tv s v) : fx_tl s (fx_set ls i v) := fun j w hw => by
  rcases fx_get_set ls i j v w hw with e | e
  · rw [e]; exact g
  · exact h j w e
theorem fx_ext_sfi (s : fx_S) (f a : Nat) (v : Int32) : fx_ext s (fx_sfi s f a v) := ⟨Nat.le_refl _, Nat.le_refl _, fun _ _ => rfl⟩
theorem fx_ext_sfr (s : fx_S) (f a : Nat) (v : Option Nat) : fx_ext s (fx_sfr s f a v) := ⟨Nat.le_refl _, Nat.le_refl _, fun _ _ => rfl⟩
theorem fx_ext_sai (s : fx_S) (f a : Nat) (v : Int32) : fx_ext s (fx_sai s f a v) := ⟨Nat.le_refl _, Nat.le_refl _, fun _ _ => rfl⟩
theorem fx_ext_sar (s : fx_S) (f a : Nat) (v : Option Nat) : fx_ext s (fx_sar s f a v) := ⟨Nat.le_refl _, Nat.le_refl _, fun _ _ => rfl⟩
theorem fx_ext_sal (s : fx_S) (f a : Nat) (v : Int64) : fx_ext s (fx_sal s f a v) := ⟨Nat.le_refl _, Nat.le_refl _, fun _ _ => rfl⟩
theorem fx_at_ext {s t : fx_S} {tag n : Nat} (hf : fx_fresh s) (h1 : fx_kd t = fx_at (fx_kd s) (fx_nx s) tag) (h2 : fx_nx t = fx_nx s + 1) (h3 : fx_sl t = fx_sl s + n) : fx_ext s t := by
  refine ⟨by omega, by omega, fun a ha => ?_⟩
  rw [h1]
  have : a ≠ fx_nx s := fun e => ha (hf a (by omega))
  simp [fx_at, this]
theorem fx_ext_new {s : fx_S} (tag n : Nat) (hf : fx_fresh s) : fx_ext s (fx_new s tag n) := fx_at_ext (tag := tag) (n := n) hf rfl rfl rfl
theorem fx_ext_newa {s : fx_S} (tag n : Nat) (hf : fx_fresh s) : fx_ext s (fx_newa s tag n) := fx_at_ext (tag := tag) (n := n) hf rfl rfl rfl
theorem fx_fresh_at {s t : fx_S} {tag : Nat} (hf : fx_fresh s) (h1 : fx_kd t = fx_at (fx_kd s) (fx_nx s) tag) (h2 : fx_nx t = fx_nx s + 1) : fx_fresh t := by
  intro a ha
  rw [h1]
  have : a ≠ fx_nx s := by omega
  simp only [fx_at, this, if_false]
  exact hf a (by omega)
theorem fx_wt_new {s : fx_S} (tag n : Nat) (ht : fx_ia tag = false) (hf : fx_fresh s) (h : fx_wt s) : fx_wt (fx_new s tag n) := by
  have he := fx_ext_new tag n hf
  refine ⟨fun a f b h1 h2 h3 => ?_, fun a j b h1 h3 => ?_⟩
  · have h3' : fx_col (fx_fr s) (fx_nx s) none f a = some b := h3
    have h1' : fx_at (fx_kd s) (fx_nx s) tag a = 10 + f / 64 := h1
    by_cases e : a = fx_nx s
    · simp [fx_col, e] at h3'
    · simp only [fx_col, e, if_false] at h3'
      simp only [fx_at, e, if_false] at h1'
      have := h.1 a f b h1' h2 h3'
      rw [he.2.2 b (by rw [this]; omega)]
      exact this
  · have h1' : fx_ia (fx_at (fx_kd s) (fx_nx s) tag a) = true := h1
    have hk : fx_kd (fx_new s tag n) a = fx_at (fx_kd s) (fx_nx s) tag a := rfl
    have h3' : fx_ar s a j = some b := h3
    by_cases e : a = fx_nx s
    · simp [fx_at, e, ht] at h1'
    · rw [hk]
      simp only [fx_at, e, if_false] at h1' ⊢
      have := h.2 a j b h1' h3'
      have h5 : 41 ≤ fx_kd s a := by
        simp only [fx_ia, Bool.or_eq_true, beq_iff_eq] at h1'
        omega
      rw [he.2.2 b (by rw [this]; omega)]
      exact this
theorem fx_ft_lt {f : Nat} (h : 2 ≤ fx_ft f) : f / 64 < 13 := by
  rcases Nat.lt_or_ge (f / 64) 13 with g | g
  · exact g
  · exfalso
    have h1 : fx_ftL.length ≤ f / 64 := g
    simp only [fx_ft, List.getD_eq_getElem?_getD, List.getElem?_eq_none h1] at h
    simp at h
theorem fx_wt_newa {s : fx_S} (tag n : Nat) (ht : 40 ≤ tag) (hf : fx_fresh s) (h : fx_wt s) : fx_wt (fx_newa s tag n) := by
  have he := fx_ext_newa tag n hf
  refine ⟨fun a f b h1 h2 h3 => ?_, fun a j b h1 h3 => ?_⟩
  · have h3' : fx_fr s f a = some b := h3
    have h1' : fx_at (fx_kd s) (fx_nx s) tag a = 10 + f / 64 := h1
    by_cases e : a = fx_nx s
    · have := fx_ft_lt h2
      simp only [fx_at, e, if_true] at h1'
      omega
    · simp only [fx_at, e, if_false] at h1'
      have := h.1 a f b h1' h2 h3'
      rw [he.2.2 b (by rw [this]; omega)]
      exact this
  · have h1' : fx_ia (fx_at (fx_kd s) (fx_nx s) tag a) = true := h1
    have hk : fx_kd (fx_newa s tag n) a = fx_at (fx_kd s) (fx_nx s) tag a := rfl
    have h3' : fx_at (fx_ar s) (fx_nx s) (fun _ => none) a j = some b := h3
    by_cases e : a = fx_nx s
    · simp [fx_at, e] at h3'
    · rw [hk]
      simp only [fx_at, e, if_false] at h1' h3' ⊢
      have := h.2 a j b h1' h3'
      have h5 : 41 ≤ fx_kd s a := by
        simp only [fx_ia, Bool.or_eq_true, beq_iff_eq] at h1'
        omega
      rw [he.2.2 b (by rw [this]; omega)]
      exact this
theorem fx_up_same {α : Type} (f : Nat → Nat → α) (g a : Nat) (v : α) : fx_up f g a v g a = v := by simp [fx_up]
theorem fx_wt_sfr {s : fx_S} {f a : Nat} {v : Option Nat} (h : fx_wt s) (hv : ∀ b, v = some b → fx_kd s b = fx_ft f) : fx_wt (fx_sfr s f a v) := by
  refine ⟨fun x g b h1 h2 h3 => ?_, h.2⟩
  have h3' : fx_up (fx_fr s) f a v g x = some b := h3
  by_cases e : g = f ∧ x = a
  · obtain ⟨e1, e2⟩ := e
    subst e1; subst e2
    rw [fx_up_same] at h3'
    exact hv b h3'
  · have : fx_up (fx_fr s) f a v g x = fx_fr s g x := by
      unfold fx_up
      by_cases e1 : g = f
      · have e2 : ¬ x = a := fun q => e ⟨e1, q⟩
        simp [e1, e2]
      · simp [e1]
    rw [this] at h3'
    exact h.1 x g b h1 h2 h3'
theorem fx_wt_sar {s : fx_S} {a j : Nat} {v : Option Nat} (h : fx_wt s) (hv : ∀ b, v = some b → fx_kd s b = fx_kd s a - 30) : fx_wt (fx_sar s a j v) := by
  refine ⟨h.1, fun x k b h1 h3 => ?_⟩
  have h3' : fx_up (fx_ar s) a j v x k = some b := h3
  by_cases e : x = a ∧ k = j
  · obtain ⟨e1, e2⟩ := e
    subst e1; subst e2
    rw [fx_up_same] at h3'
    exact hv b h3'
  · have : fx_up (fx_ar s) a j v x k = fx_ar s x k := by
      unfold fx_up
      by_cases e1 : x = a
      · have e2 : ¬ k = j := fun q => e ⟨e1, q⟩
        simp [e1, e2]
      · simp [e1]
    rw [this] at h3'
    exact h.2 x k b h1 h3'
/-- what an action keeps -/
def fx_kept (s : fx_S) (ls : fx_L) (st : List fx_V) : Option fx_A → Prop
  | none => True
  | some (.inl (C, _, ls', st', s')) => C → fx_inv s' ls' st' ∧ fx_ext s s' ∧ ls'.length = ls.length
  | some (.inr (.inl (_, (_, l1, t1, s1), (_, l2, t2, s2)))) => s1 = s ∧ s2 = s ∧ l1 = ls ∧ l2 = ls ∧ fx_ts s t1 ∧ fx_ts s t2
  | some (.inr (.inr (.inl (_, r, s')))) => s' = s ∧ ∀ v, r = some v → fx_tv s v
  | some (.inr (.inr (.inr (_, _, as, _, ls', st', s')))) => s' = s ∧ ls' = ls ∧ (∃ xs : List fx_V, as = xs.reverse ∧ st = xs ++ st')
