/-! THE CLASS: rows and grid as views of the rest -/
/-- the heap with other rows -/
def fx_srow (s : fx_S) (nx fi la : Nat → Option Nat) (sz : Nat → Int32) : fx_S := (s.1, fun f b => if f = ff_Row_size then sz b else fx_fi s f b, fun f b => if f = ff_Packet_next then nx b else if f = ff_Row_first then fi b else if f = ff_Row_last then la b else fx_fr s f b, s.2.2.2)
/-- the heap with another grid -/
def fx_sgrd (s : fx_S) (gi ai : Nat → Nat → Int32) : fx_S := (s.1, fun f a => if Nat.ble 192 f && Nat.blt f 199 then gi f a else fx_fi s f a, s.2.2.1, s.2.2.2.1, ai, s.2.2.2.2.2)
theorem srow_eq {s t : fx_S} (h1 : fx_kd t = fx_kd s) (h2 : ∀ f b, f ≠ ff_Row_size → fx_fi t f b = fx_fi s f b) (h3 : ∀ f b, f ≠ ff_Packet_next → f ≠ ff_Row_first → f ≠ ff_Row_last → fx_fr t f b = fx_fr s f b) (h4 : t.2.2.2 = s.2.2.2) : t = fx_srow s (fx_fr t ff_Packet_next) (fx_fr t ff_Row_first) (fx_fr t ff_Row_last) (fx_fi t ff_Row_size) := by
  obtain ⟨a, b, c, d⟩ := t
  obtain ⟨a', b', c', d'⟩ := s
  have e1 : a = a' := h1
  have e4 : d = d' := h4
  subst e1; subst e4
  unfold fx_srow
  have e2 : b = fun f x => if f = ff_Row_size then fx_fi (a, b, c, d) ff_Row_size x else fx_fi (a, b', c', d) f x := by
    funext f x
    by_cases q : f = ff_Row_size
    · rw [if_pos q, q]; rfl
    · rw [if_neg q]; exact h2 f x q
  have e3 : c = fun f x => if f = ff_Packet_next then fx_fr (a, b, c, d) ff_Packet_next x else if f = ff_Row_first then fx_fr (a, b, c, d) ff_Row_first x else if f = ff_Row_last then fx_fr (a, b, c, d) ff_Row_last x else fx_fr (a, b', c', d) f x := by
    funext f x
    by_cases q1 : f = ff_Packet_next
    · rw [if_pos q1, q1]; rfl
    · rw [if_neg q1]
      by_cases q2 : f = ff_Row_first
      · rw [if_pos q2, q2]; rfl
      · rw [if_neg q2]
        by_cases q3 : f = ff_Row_last
        · rw [if_pos q3, q3]; rfl
        · rw [if_neg q3]; exact h3 f x q1 q2 q3
  exact Prod.ext rfl (Prod.ext e2 (Prod.ext e3 rfl))
theorem GF.eq {x : Nat} {s t : fx_S} (h : GF x s t) : t = fx_sgrd s (fx_fi t) (fx_ai t) := by
  obtain ⟨h1, h2, h3, h4, h5, h6, h7, h8, h9⟩ := h
  obtain ⟨a, b, c, d, e, f, g, i, j⟩ := t
  obtain ⟨a', b', c', d', e', f', g', i', j'⟩ := s
  have e1 : a = a' := h1
  have e2 : c = c' := h2
  have e3 : d = d' := h3
  have e4 : f = f' := h4
  have e5 : g = g' := h5
  have e6 : i = i' := h6
  have e7 : j = j' := h7
  subst e1; subst e2; subst e3; subst e4; subst e5; subst e6; subst e7
  unfold fx_sgrd
  have e8 : b = fun f1 x1 => if (Nat.ble 192 f1 && Nat.blt f1 199) = true then fx_fi (a, b, c, d, e, f, g, i, j) f1 x1 else fx_fi (a, b', c, d, e', f, g, i, j) f1 x1 := by
    funext f1 x1
    by_cases q : (Nat.ble 192 f1 && Nat.blt f1 199) = true
    · rw [if_pos q]; rfl
    · rw [if_neg q]
      refine h8 f1 x1 ?_
      simp only [Bool.and_eq_true, Nat.ble_eq, Nat.blt_eq] at q
      omega
  exact Prod.ext rfl (Prod.ext e8 rfl)
section
variable {s : fx_S} {Q : fx_Q} {x m r a : Nat} {B : Nat → Nat} {rt : Nat → List Nat}
theorem RL.len {s : fx_S} {r : Nat} {l : List Nat} (h : RL s r l) : fx_fi s ff_Row_size r = nI l.length := h.2.2.1
theorem app_eq : cm_app s r a = fx_srow s (fx_fr (cm_app s r a) ff_Packet_next) (fx_fr (cm_app s r a) ff_Row_first) (fx_fr (cm_app s r a) ff_Row_last) (fx_fi (cm_app s r a) ff_Row_size) := by
  unfold cm_app
  cases fx_fr s ff_Row_last r with
  | none =>
    exact srow_eq rfl (fun f b h => by rw [fi_ne (fun q => h q.1)]; rfl) (fun f b h1 h2 h3 => by
      show fx_fr (fx_sfr (fx_sfr (fx_sfr s ff_Packet_next a none) ff_Row_first r (some a)) ff_Row_last r (some a)) f b = _
      rw [fr_ne (fun q => h3 q.1), fr_ne (fun q => h2 q.1), fr_ne (fun q => h1 q.1)]) rfl
  | some c =>
    exact srow_eq rfl (fun f b h => by rw [fi_ne (fun q => h q.1)]; rfl) (fun f b h1 h2 h3 => by
      show fx_fr (fx_sfr (fx_sfr (fx_sfr s ff_Packet_next a none) ff_Packet_next c (some a)) ff_Row_last r (some a)) f b = _
      rw [fr_ne (fun q => h3 q.1), fr_ne (fun q => h1 q.1), fr_ne (fun q => h1 q.1)]) rfl
theorem rmf_eq : cm_rmf s r a = fx_srow s (fx_fr (cm_rmf s r a) ff_Packet_next) (fx_fr (cm_rmf s r a) ff_Row_first) (fx_fr (cm_rmf s r a) ff_Row_last) (fx_fi (cm_rmf s r a) ff_Row_size) := by
  unfold cm_rmf
  cases fx_fr s ff_Packet_next a with
  | none =>
    exact srow_eq rfl (fun f b h => by rw [fi_ne (fun q => h q.1)]; rfl) (fun f b h1 h2 h3 => by
      show fx_fr (fx_sfr (fx_sfr (fx_sfr s ff_Row_first r none) ff_Row_last r none) ff_Packet_next a none) f b = _
      rw [fr_ne (fun q => h1 q.1), fr_ne (fun q => h3 q.1), fr_ne (fun q => h2 q.1)]) rfl
  | some c =>
    exact srow_eq rfl (fun f b h => by rw [fi_ne (fun q => h q.1)]; rfl) (fun f b h1 h2 h3 => by
      show fx_fr (fx_sfr (fx_sfr s ff_Row_first r (some c)) ff_Packet_next a none) f b = _
      rw [fr_ne (fun q => h1 q.1), fr_ne (fun q => h2 q.1)]) rfl
theorem rcl_eq : cm_rcl s r = fx_srow s (fx_fr (cm_rcl s r) ff_Packet_next) (fx_fr (cm_rcl s r) ff_Row_first) (fx_fr (cm_rcl s r) ff_Row_last) (fx_fi (cm_rcl s r) ff_Row_size) := by
  unfold cm_rcl
  exact srow_eq rfl (fun f b h => by rw [fi_ne (fun q => h q.1)]; rfl) (fun f b h1 h2 h3 => by
    show fx_fr (fx_sfr (fx_sfr s ff_Row_first r none) ff_Row_last r none) f b = _
    rw [fr_ne (fun q => h3 q.1), fr_ne (fun q => h2 q.1)]) rfl
theorem head_none {l : List Nat} (h : l.getLast? = none) : l = [] := by
  cases l with
  | nil => rfl
  | cons b t => simp at h
theorem RL.app {l : List Nat} (h : RL s r l) (hd : l.Nodup) (ha : a ∉ l) : RL (cm_app s r a) r (l ++ [a]) ∧ ∀ q k, q ≠ r → a ∉ k → (∀ b, b ∈ k → b ∉ l) → RL s q k → RL (cm_app s r a) q k := by
  obtain ⟨h1, h2, h3, h4⟩ := h
  have sz : fx_fi s ff_Row_size r + nI 1 = nI (l ++ [a]).length := by rw [h3, nI_add]; simp
  unfold cm_app
  cases hl : fx_fr s ff_Row_last r with
  | none =>
    rw [hl] at h2
    have hnil := head_none h2.symm
    subst hnil
    refine ⟨⟨?_, ?_, ?_, ?_⟩, fun q k hq hak hkl hk => ?_⟩
    · show fx_fr (fx_sfr (fx_sfr (fx_sfr s ff_Packet_next a none) ff_Row_first r (some a)) ff_Row_last r (some a)) ff_Row_first r = _
      rw [fr_ne (fun q => absurd q.1 (by decide)), fr_same]; rfl
    · show fx_fr (fx_sfr (fx_sfr (fx_sfr s ff_Packet_next a none) ff_Row_first r (some a)) ff_Row_last r (some a)) ff_Row_last r = _
      rw [fr_same]; rfl
    · rw [fi_same]; exact sz
    · show fx_fr (fx_sfr (fx_sfr (fx_sfr s ff_Packet_next a none) ff_Row_first r (some a)) ff_Row_last r (some a)) ff_Packet_next a = none
      rw [fr_ne (fun q => absurd q.1 (by decide)), fr_ne (fun q => absurd q.1 (by decide)), fr_same]
    · obtain ⟨k1, k2, k3, k4⟩ := hk
      refine ⟨?_, ?_, ?_, k4.frame (fun b hb => ?_)⟩
      · show fx_fr (fx_sfr (fx_sfr (fx_sfr s ff_Packet_next a none) ff_Row_first r (some a)) ff_Row_last r (some a)) ff_Row_first q = _
        rw [fr_ne (fun z => hq z.2), fr_ne (fun z => hq z.2), fr_ne (fun z => absurd z.1 (by decide))]; exact k1
      · show fx_fr (fx_sfr (fx_sfr (fx_sfr s ff_Packet_next a none) ff_Row_first r (some a)) ff_Row_last r (some a)) ff_Row_last q = _
        rw [fr_ne (fun z => hq z.2), fr_ne (fun z => hq z.2), fr_ne (fun z => absurd z.1 (by decide))]; exact k2
      · rw [fi_ne (fun z => hq z.2)]; exact k3
      · show fx_fr (fx_sfr (fx_sfr (fx_sfr s ff_Packet_next a none) ff_Row_first r (some a)) ff_Row_last r (some a)) ff_Packet_next b = _
        rw [fr_ne (fun q => absurd q.1 (by decide)), fr_ne (fun q => absurd q.1 (by decide)), fr_ne (fun z => hak (by rw [← z.2]; exact hb))]
  | some c =>
    rw [hl] at h2
    have hc : c ∈ l := List.mem_of_getLast? h2.symm
    have hca : c ≠ a := fun q => ha (q ▸ hc)
    have nxe : ∀ b, fx_fr (fx_sfr (fx_sfr (fx_sfr s ff_Packet_next a none) ff_Packet_next c (some a)) ff_Row_last r (some a)) ff_Packet_next b = if b = c then some a else if b = a then none else fx_fr s ff_Packet_next b := by
      intro b
      rw [fr_ne (fun q => absurd q.1 (by decide))]
      by_cases e1 : b = c
      · rw [if_pos e1, e1, fr_same]
      · rw [if_neg e1, fr_ne (fun q => e1 q.2)]
        by_cases e2 : b = a
        · rw [if_pos e2, e2, fr_same]
        · rw [if_neg e2, fr_ne (fun q => e2 q.2)]
    refine ⟨⟨?_, ?_, ?_, ?_⟩, fun q k hq hak hkl hk => ?_⟩
    · show fx_fr (fx_sfr (fx_sfr (fx_sfr s ff_Packet_next a none) ff_Packet_next c (some a)) ff_Row_last r (some a)) ff_Row_first r = _
      rw [fr_ne (fun q => absurd q.1 (by decide)), fr_ne (fun q => absurd q.1 (by decide)), fr_ne (fun q => absurd q.1 (by decide)), h1]
      cases l with
      | nil => cases hc
      | cons b t => rfl
    · show fx_fr (fx_sfr (fx_sfr (fx_sfr s ff_Packet_next a none) ff_Packet_next c (some a)) ff_Row_last r (some a)) ff_Row_last r = _
      rw [fr_same]; simp
    · rw [fi_same]; exact sz
    · refine h4.app hd ha ?_ (fun b hb hne => ?_) (fun b hb => ?_)
      · show fx_fr (fx_sfr (fx_sfr (fx_sfr s ff_Packet_next a none) ff_Packet_next c (some a)) ff_Row_last r (some a)) ff_Packet_next a = none
        rw [nxe, if_neg hca.symm, if_pos rfl]
      · show fx_fr (fx_sfr (fx_sfr (fx_sfr s ff_Packet_next a none) ff_Packet_next c (some a)) ff_Row_last r (some a)) ff_Packet_next b = _
        have y1 : b ≠ c := fun q => hne (by rw [q, ← h2])
        have y2 : b ≠ a := fun q => ha (q ▸ hb)
        rw [nxe, if_neg y1, if_neg y2]
      · show fx_fr (fx_sfr (fx_sfr (fx_sfr s ff_Packet_next a none) ff_Packet_next c (some a)) ff_Row_last r (some a)) ff_Packet_next b = _
        rw [← h2] at hb
        cases hb
        rw [nxe, if_pos rfl]
    · obtain ⟨k1, k2, k3, k4⟩ := hk
      refine ⟨?_, ?_, ?_, k4.frame (fun b hb => ?_)⟩
      · show fx_fr (fx_sfr (fx_sfr (fx_sfr s ff_Packet_next a none) ff_Packet_next c (some a)) ff_Row_last r (some a)) ff_Row_first q = _
        rw [fr_ne (fun z => hq z.2), fr_ne (fun z => absurd z.1 (by decide)), fr_ne (fun z => absurd z.1 (by decide))]; exact k1
      · show fx_fr (fx_sfr (fx_sfr (fx_sfr s ff_Packet_next a none) ff_Packet_next c (some a)) ff_Row_last r (some a)) ff_Row_last q = _
        rw [fr_ne (fun z => hq z.2), fr_ne (fun z => absurd z.1 (by decide)), fr_ne (fun z => absurd z.1 (by decide))]; exact k2
      · rw [fi_ne (fun z => hq z.2)]; exact k3
      · show fx_fr (fx_sfr (fx_sfr (fx_sfr s ff_Packet_next a none) ff_Packet_next c (some a)) ff_Row_last r (some a)) ff_Packet_next b = _
        have y1 : b ≠ c := fun z => hkl b hb (z ▸ hc)
        have y2 : b ≠ a := fun z => hak (z ▸ hb)
        rw [nxe, if_neg y1, if_neg y2]
theorem RL.rmf {t : List Nat} (h : RL s r (a :: t)) (ha : a ∉ t) : RL (cm_rmf s r a) r t ∧ ∀ q k, q ≠ r → a ∉ k → RL s q k → RL (cm_rmf s r a) q k := by
  obtain ⟨h1, h2, h3, h4⟩ := h
  obtain ⟨n1, n2⟩ := h4.head
  have sz : fx_fi s ff_Row_size r - nI 1 = nI t.length := by rw [h3, pk_sub (by simp)]; simp
  unfold cm_rmf
  cases hn : fx_fr s ff_Packet_next a with
  | none =>
    rw [hn] at n1
    have hnil : t = [] := by
      cases t with
      | nil => rfl
      | cons b t => cases n1
    subst hnil
    refine ⟨⟨?_, ?_, ?_, trivial⟩, fun q k hq hak hk => ?_⟩
    · show fx_fr (fx_sfr (fx_sfr (fx_sfr s ff_Row_first r none) ff_Row_last r none) ff_Packet_next a none) ff_Row_first r = _
      rw [fr_ne (fun q => absurd q.1 (by decide)), fr_ne (fun q => absurd q.1 (by decide)), fr_same]; rfl
    · show fx_fr (fx_sfr (fx_sfr (fx_sfr s ff_Row_first r none) ff_Row_last r none) ff_Packet_next a none) ff_Row_last r = _
      rw [fr_ne (fun q => absurd q.1 (by decide)), fr_same]; rfl
    · rw [fi_same]; exact sz
    · obtain ⟨k1, k2, k3, k4⟩ := hk
      refine ⟨?_, ?_, ?_, k4.frame (fun b hb => ?_)⟩
      · show fx_fr (fx_sfr (fx_sfr (fx_sfr s ff_Row_first r none) ff_Row_last r none) ff_Packet_next a none) ff_Row_first q = _
        rw [fr_ne (fun q => absurd q.1 (by decide)), fr_ne (fun z => hq z.2), fr_ne (fun z => hq z.2)]; exact k1
      · show fx_fr (fx_sfr (fx_sfr (fx_sfr s ff_Row_first r none) ff_Row_last r none) ff_Packet_next a none) ff_Row_last q = _
        rw [fr_ne (fun q => absurd q.1 (by decide)), fr_ne (fun z => hq z.2), fr_ne (fun z => hq z.2)]; exact k2
      · rw [fi_ne (fun z => hq z.2)]; exact k3
      · show fx_fr (fx_sfr (fx_sfr (fx_sfr s ff_Row_first r none) ff_Row_last r none) ff_Packet_next a none) ff_Packet_next b = _
        have y2 : b ≠ a := fun z => hak (z ▸ hb)
        rw [fr_ne (fun z => y2 z.2), fr_ne (fun q => absurd q.1 (by decide)), fr_ne (fun q => absurd q.1 (by decide))]
  | some c =>
    rw [hn] at n1
    have nxe : ∀ b, b ≠ a → fx_fr (fx_sfr (fx_sfr s ff_Row_first r (some c)) ff_Packet_next a none) ff_Packet_next b = fx_fr s ff_Packet_next b := by
      intro b hb
      rw [fr_ne (fun q => hb q.2), fr_ne (fun q => absurd q.1 (by decide))]
    refine ⟨⟨?_, ?_, ?_, n2.frame (fun b hb => ?_)⟩, fun q k hq hak hk => ?_⟩
    · show fx_fr (fx_sfr (fx_sfr s ff_Row_first r (some c)) ff_Packet_next a none) ff_Row_first r = _
      rw [fr_ne (fun q => absurd q.1 (by decide)), fr_same]; exact n1
    · show fx_fr (fx_sfr (fx_sfr s ff_Row_first r (some c)) ff_Packet_next a none) ff_Row_last r = _
      rw [fr_ne (fun q => absurd q.1 (by decide)), fr_ne (fun q => absurd q.1 (by decide)), h2]
      cases t with
      | nil => cases n1
      | cons b t => simp [List.getLast?_cons_cons]
    · rw [fi_same]; exact sz
    · exact nxe b (fun q => ha (q ▸ hb))
    · obtain ⟨k1, k2, k3, k4⟩ := hk
      refine ⟨?_, ?_, ?_, k4.frame (fun b hb => ?_)⟩
      · show fx_fr (fx_sfr (fx_sfr s ff_Row_first r (some c)) ff_Packet_next a none) ff_Row_first q = _
        rw [fr_ne (fun q => absurd q.1 (by decide)), fr_ne (fun z => hq z.2)]; exact k1
      · show fx_fr (fx_sfr (fx_sfr s ff_Row_first r (some c)) ff_Packet_next a none) ff_Row_last q = _
        rw [fr_ne (fun q => absurd q.1 (by decide)), fr_ne (fun z => absurd z.1 (by decide))]; exact k2
      · rw [fi_ne (fun z => hq z.2)]; exact k3
      · exact nxe b (fun q => hak (q ▸ hb))
theorem RL.rcl {l : List Nat} : RL (cm_rcl s r) r [] ∧ ∀ q, q ≠ r → RL s q l → RL (cm_rcl s r) q l := by
  unfold cm_rcl
  refine ⟨⟨?_, ?_, ?_, trivial⟩, fun q hq hk => ?_⟩
  · show fx_fr (fx_sfr (fx_sfr s ff_Row_first r none) ff_Row_last r none) ff_Row_first r = _
    rw [fr_ne (fun q => absurd q.1 (by decide)), fr_same]; rfl
  · show fx_fr (fx_sfr (fx_sfr s ff_Row_first r none) ff_Row_last r none) ff_Row_last r = _
    rw [fr_same]; rfl
  · rw [fi_same]; rfl
  · obtain ⟨k1, k2, k3, k4⟩ := hk
    refine ⟨?_, ?_, ?_, k4⟩
    · show fx_fr (fx_sfr (fx_sfr s ff_Row_first r none) ff_Row_last r none) ff_Row_first q = _
      rw [fr_ne (fun z => absurd z.1 (by decide)), fr_ne (fun z => hq z.2)]; exact k1
    · show fx_fr (fx_sfr (fx_sfr s ff_Row_first r none) ff_Row_last r none) ff_Row_last q = _
      rw [fr_ne (fun z => hq z.2), fr_ne (fun z => absurd z.1 (by decide))]; exact k2
    · rw [fi_ne (fun z => hq z.2)]; exact k3
/-- a packet that is in no row is appended -/
theorem k_app (h : RR s x B m rt) (hr : ISR x B m r) (ha : ∀ q, ISR x B m q → a ∉ rt q) (k : ∀ nx fi la sz, RR (fx_srow s nx fi la sz) x B m (fn_up rt r (rt r ++ [a])) → Q none (fx_srow s nx fi la sz)) : fx_M mm_Row_append [vR 20 (some r), vR 15 (some a)] s Q := by
  refine k_append ?_
  rw [app_eq]
  refine k _ _ _ _ ?_
  rw [← app_eq]
  obtain ⟨a1, a2⟩ := (h.row r hr).app (h.nd r hr) (ha r hr)
  refine ⟨fun q hq => ?_, fun q hq => ?_, fun q p b hq hp h1 h2 => ?_⟩
  · by_cases e : q = r
    · rw [e, fn_same]; exact a1
    · rw [fn_ne e]; exact a2 q (rt q) e (ha q hq) (fun b hb hb2 => e (h.dj q r b hq hr hb hb2)) (h.row q hq)
  · by_cases e : q = r
    · rw [e, fn_same]
      exact List.nodup_append.mpr ⟨h.nd r hr, by simp, fun b hb c hc => by
        have : c = a := by simpa using hc
        intro z
        exact ha r hr (by rw [← this, ← z]; exact hb)⟩
    · rw [fn_ne e]; exact h.nd q hq
  · have aux : ∀ q b, ISR x B m q → b ∈ fn_up rt r (rt r ++ [a]) q → b ∈ rt q ∨ (b = a ∧ q = r) := by
      intro q b hq hb
      by_cases e : q = r
      · rw [e, fn_same] at hb
        rcases List.mem_append.mp hb with z | z
        · rw [e]; exact Or.inl z
        · exact Or.inr ⟨by simpa using z, e⟩
      · rw [fn_ne e] at hb; exact Or.inl hb
    rcases aux q b hq h1 with z1 | z1
    · rcases aux p b hp h2 with z2 | z2
      · exact h.dj q p b hq hp z1 z2
      · exact absurd (z2.1 ▸ z1) (ha q hq)
    · rcases aux p b hp h2 with z2 | z2
      · exact absurd (z1.1 ▸ z2) (ha p hp)
      · rw [z1.2, z2.2]
/-- the first one is taken out -/
theorem k_rmf (h : RR s x B m rt) (hr : ISR x B m r) (k1 : rt r = [] → Q (some (vR 0 none)) s) (k2 : ∀ a t nx fi la sz, rt r = a :: t → RR (fx_srow s nx fi la sz) x B m (fn_up rt r t) → (∀ q, ISR x B m q → a ∉ fn_up rt r t q) → Q (some (vR 15 (some a))) (fx_srow s nx fi la sz)) : fx_M mm_Row_removeFirst [vR 20 (some r)] s Q := by
  refine k_removeFirst (h.row r hr).1 k1 (fun a t ht => ?_)
  rw [rmf_eq]
  have hout : ∀ q, ISR x B m q → a ∉ fn_up rt r t q := by
    have hnd0 := h.nd r hr
    rw [ht] at hnd0
    intro q hq hin
    by_cases e : q = r
    · rw [e, fn_same] at hin
      exact (List.nodup_cons.mp hnd0).1 hin
    · rw [fn_ne e] at hin
      exact e (h.dj q r a hq hr hin (by rw [ht]; simp))
  refine k2 a t _ _ _ _ ht ?_ hout
  rw [← rmf_eq]
  have hrow := h.row r hr
  have hnd := h.nd r hr
  rw [ht] at hrow hnd
  have hnd' := List.nodup_cons.mp hnd
  obtain ⟨a1, a2⟩ := hrow.rmf hnd'.1
  have sub : ∀ q b, b ∈ fn_up rt r t q → b ∈ rt q := by
    intro q b hb
    by_cases e : q = r
    · rw [e, fn_same] at hb
      rw [e, ht]; exact List.mem_cons_of_mem _ hb
    · rw [fn_ne e] at hb; exact hb
  refine ⟨fun q hq => ?_, fun q hq => ?_, fun q p b hq hp h1 h2 => h.dj q p b hq hp (sub q b h1) (sub p b h2)⟩
  · by_cases e : q = r
    · rw [e, fn_same]; exact a1
    · rw [fn_ne e]; exact a2 q (rt q) e (fun z => e (h.dj q r a hq hr z (by rw [ht]; simp))) (h.row q hq)
  · by_cases e : q = r
    · rw [e, fn_same]; exact hnd'.2
    · rw [fn_ne e]; exact h.nd q hq
theorem k_rcl (h : RR s x B m rt) (hr : ISR x B m r) (k : ∀ nx fi la sz, RR (fx_srow s nx fi la sz) x B m (fn_up rt r []) → Q none (fx_srow s nx fi la sz)) : fx_M mm_Row_clear [vR 20 (some r)] s Q := by
  refine k_rclear ?_
  rw [rcl_eq]
  refine k _ _ _ _ ?_
  rw [← rcl_eq]
  have sub : ∀ q b, b ∈ fn_up rt r [] q → b ∈ rt q := by
    intro q b hb
    by_cases e : q = r
    · rw [e, fn_same] at hb; cases hb
    · rw [fn_ne e] at hb; exact hb
  refine ⟨fun q hq => ?_, fun q hq => ?_, fun q p b hq hp h1 h2 => h.dj q p b hq hp (sub q b h1) (sub p b h2)⟩
  · by_cases e : q = r
    · rw [e, fn_same]; exact (RL.rcl (l := [])).1
    · rw [fn_ne e]; exact RL.rcl.2 q e (h.row q hq)
  · by_cases e : q = r
    · rw [e, fn_same]; exact List.nodup_nil
    · rw [fn_ne e]; exact h.nd q hq
end
