/-! THE CLASS AND THE REFERENCE: other receivers, other notes -/
def fx_srv (s : fx_S) (I : Nat → Nat → Int32) (R : Nat → Nat → Option Nat) : fx_S := (s.1, fun f a => if (Nat.ble 64 f && Nat.blt f 68) || Nat.beq f 385 || Nat.beq f 386 || Nat.beq f 513 || Nat.beq f 515 then I f a else fx_fi s f a, fun f a => if Nat.beq f 384 || Nat.beq f 514 then R f a else fx_fr s f a, s.2.2.2)
theorem srv_eq {s t : fx_S} (h1 : fx_kd t = fx_kd s) (h2 : ∀ f b, ¬ (64 ≤ f ∧ f < 68) → f ≠ 385 → f ≠ 386 → f ≠ 513 → f ≠ 515 → fx_fi t f b = fx_fi s f b) (h3 : ∀ f b, f ≠ 384 → f ≠ 514 → fx_fr t f b = fx_fr s f b) (h4 : t.2.2.2 = s.2.2.2) : t = fx_srv s (fx_fi t) (fx_fr t) := by
  obtain ⟨a, b, c, d⟩ := t
  obtain ⟨a', b', c', d'⟩ := s
  have e1 : a = a' := h1
  have e4 : d = d' := h4
  subst e1; subst e4
  unfold fx_srv
  have e2 : b = fun f y => if (Nat.ble 64 f && Nat.blt f 68) || Nat.beq f 385 || Nat.beq f 386 || Nat.beq f 513 || Nat.beq f 515 then fx_fi (a, b, c, d) f y else fx_fi (a, b', c', d) f y := by
    funext f y
    by_cases q : ((Nat.ble 64 f && Nat.blt f 68) || Nat.beq f 385 || Nat.beq f 386 || Nat.beq f 513 || Nat.beq f 515) = true
    · rw [if_pos q]; rfl
    · rw [if_neg q]
      simp only [Bool.or_eq_true, Bool.and_eq_true, Nat.ble_eq, Nat.blt_eq, Nat.beq_eq] at q
      exact h2 f y (by omega) (by omega) (by omega) (by omega) (by omega)
  have e3 : c = fun f y => if Nat.beq f 384 || Nat.beq f 514 then fx_fr (a, b, c, d) f y else fx_fr (a, b', c', d) f y := by
    funext f y
    by_cases q : (Nat.beq f 384 || Nat.beq f 514) = true
    · rw [if_pos q]; rfl
    · rw [if_neg q]
      simp only [Bool.or_eq_true, Nat.beq_eq] at q
      exact h3 f y (by omega) (by omega)
  exact Prod.ext rfl (Prod.ext e2 (Prod.ext e3 rfl))
def om_mrv (M N : rf_M) : rf_M := fun g i => if (Nat.ble 799 g && Nat.blt g 802) || (Nat.ble 804 g && Nat.blt g 810) then N g i else M g i
theorem mrv_eq {M N : rf_M} (h : ∀ g i, ¬ (799 ≤ g ∧ g < 802) → ¬ (804 ≤ g ∧ g < 810) → N g i = M g i) : N = om_mrv M N := by
  funext g i
  unfold om_mrv
  by_cases c : ((Nat.ble 799 g && Nat.blt g 802) || (Nat.ble 804 g && Nat.blt g 810)) = true
  · rw [if_pos c]
  · rw [if_neg c]
    simp only [Bool.or_eq_true, Bool.and_eq_true, Nat.ble_eq, Nat.blt_eq] at c
    exact h g i (by omega) (by omega)
def fx_snt (s : fx_S) (I : Nat → Nat → Int32) : fx_S := (s.1, fun f a => if Nat.beq f 329 || Nat.beq f 330 then I f a else fx_fi s f a, s.2.2)
theorem snt_eq {s t : fx_S} (h1 : fx_kd t = fx_kd s) (h2 : ∀ f b, f ≠ 329 → f ≠ 330 → fx_fi t f b = fx_fi s f b) (h4 : t.2.2 = s.2.2) : t = fx_snt s (fx_fi t) := by
  obtain ⟨a, b, d⟩ := t
  obtain ⟨a', b', d'⟩ := s
  have e1 : a = a' := h1
  have e4 : d = d' := h4
  subst e1; subst e4
  unfold fx_snt
  have e2 : b = fun f y => if Nat.beq f 329 || Nat.beq f 330 then fx_fi (a, b, d) f y else fx_fi (a, b', d) f y := by
    funext f y
    by_cases q : (Nat.beq f 329 || Nat.beq f 330) = true
    · rw [if_pos q]; rfl
    · rw [if_neg q]
      simp only [Bool.or_eq_true, Nat.beq_eq] at q
      exact h2 f y (by omega) (by omega)
  exact Prod.ext rfl (Prod.ext e2 rfl)
def om_mnt (M N : rf_M) : rf_M := fun g i => if Nat.ble 810 g && Nat.blt g 814 then N g i else M g i
theorem mnt_eq {M N : rf_M} (h : ∀ g i, ¬ (810 ≤ g ∧ g < 814) → N g i = M g i) : N = om_mnt M N := by
  funext g i
  unfold om_mnt
  by_cases c : (Nat.ble 810 g && Nat.blt g 814) = true
  · rw [if_pos c]
  · rw [if_neg c]
    simp only [Bool.and_eq_true, Nat.ble_eq, Nat.blt_eq] at c
    exact h g i (by omega)
/-! bits -/
theorem pcn_or {h b : Nat} (hb : b < 8) (hf : h.testBit b = false) : pcn (h ||| 2 ^ b) = pcn h + 1 := by
  unfold pcn
  have e : (h ||| 2 ^ b).testBit b = true := by rw [Nat.testBit_or, Nat.testBit_two_pow]; simp
  rw [sp_cnt_pos hb e]
  congr 1
  refine sp_cnt_congr _ (fun i _ => ?_)
  by_cases c : i = b
  · simp [c, hf]
  · rw [Nat.testBit_or, Nat.testBit_two_pow]
    have c' : ¬ b = i := fun q => c q.symm
    simp [c, c']
theorem pcn_pow {b : Nat} (hb : b < 8) : pcn (2 ^ b) = 1 := by
  have := pcn_or (h := 0) hb (by simp)
  rw [Nat.zero_or] at this
  rw [this]
  decide
theorem pcn_full {h n : Nat} (hn : n < 9) (hh : h < 2 ^ n) : n ≤ pcn h ↔ h = 2 ^ n - 1 := by
  have hi : ∀ i, n ≤ i → h.testBit i = false := fun i q => Nat.testBit_lt_two_pow (Nat.lt_of_lt_of_le hh (Nat.pow_le_pow_right (by omega) q))
  constructor
  · intro hc
    have all : ∀ i, i < n → h.testBit i = true := by
      intro i q
      cases hb : h.testBit i with
      | true => rfl
      | false =>
        exfalso
        have : sp_cnt (fun b => h.testBit b) 8 ≤ sp_cnt (fun b => decide (b < n) && !(b == i)) n := by
          refine cnt_inj (φ := fun b => b) 8 _ (fun b _ hp => ?_) (fun _ _ _ _ _ _ e => e)
          have hbn : b < n := Nat.lt_of_not_le (fun z => by rw [hi b z] at hp; cases hp)
          have hbi : b ≠ i := fun z => by rw [z, hb] at hp; cases hp
          exact ⟨hbn, by simp [hbn, hbi]⟩
        have h2 := sp_cnt_pos (P := fun b => decide (b < n)) (K := n) (c := i) q (by simpa using q)
        have h3 := sp_cnt_le (fun b => decide (b < n)) n
        unfold pcn at hc
        omega
    refine Nat.eq_of_testBit_eq (fun i => ?_)
    by_cases q : i < n
    · rw [all i q, two_full q]
    · rw [hi i (by omega), Nat.testBit_lt_two_pow]
      have : 2 ^ n ≤ 2 ^ i := Nat.pow_le_pow_right (by omega) (by omega)
      have : 0 < 2 ^ n := Nat.two_pow_pos n
      omega
  · intro e
    have : sp_cnt (fun _ => true) n ≤ sp_cnt (fun b => h.testBit b) 8 := by
      refine cnt_inj (φ := fun b => b) n _ (fun b hb _ => ⟨by omega, ?_⟩) (fun _ _ _ _ _ _ e => e)
      rw [e]
      exact two_full hb
    rw [sp_cnt_true] at this
    exact this
section
variable {s : fx_S} {Q : fx_Q} {x m : Nat} {B H P : Nat → Nat} {C : Nat → Nat → Option Nat} {Y : Nat → Nat → Nat} {rt : Nat → List Nat} {K : Nat → Prop} {L : List Nat} {M : rf_M} {lv : Nat → Prop}
theorem RA.rv {N : rf_M} {I : Nat → Nat → Int32} {R : Nat → Nat → Option Nat} {Y' : Nat → Nat → Nat} (h : RA s x B H C Y P m rt K L M) (hv : RV (fx_srv s I R) B Y' P m (om_mrv M N)) : RA (fx_srv s I R) x B H C Y' P m rt K L (om_mrv M N) := ⟨h.sk, h.t, h.g, h.s, h.p, h.w, h.r, h.x, h.m, h.o, h.k, h.f, hv, h.nm⟩
theorem RA.nt {N : rf_M} {I : Nat → Nat → Int32} {nx fi la : Nat → Option Nat} {sz : Nat → Int32} {rt' : Nat → List Nat} {L' : List Nat} (h : RA s x B H C Y P m rt K L M) (hR : RR (fx_srow (fx_snt s I) nx fi la sz) x B m rt') (ho : ∀ q, q ≠ x + 13 → rt' q = rt q) (hm : RM (fx_srow (fx_snt s I) nx fi la sz) x P rt' L' (om_mnt M N)) : RA (fx_srow (fx_snt s I) nx fi la sz) x B H C Y P m rt' K L' (om_mnt M N) := by
  have hin := h.sk.c.in_
  have e2 : ∀ v, v < m → rt' (B v + 2) = rt (B v + 2) := fun v hv => ho _ (by have := hin v hv; omega)
  have e3 : ∀ v, v < m → rt' (B v + 3) = rt (B v + 3) := fun v hv => ho _ (by have := hin v hv; omega)
  have e6 : ∀ v, v < m → rt' (B v + 6) = rt (B v + 6) := fun v hv => ho _ (by have := hin v hv; omega)
  have es : rt' (x + 14) = rt (x + 14) := ho _ (by omega)
  exact ⟨h.sk, h.t, h.g, h.s, h.p, h.w.rts e2, hR, h.x.rts e3 e6, hm, ⟨fun q hq hq0 => by rw [es]; exact h.o.sp q hq hq0, h.o.kp, fun v a hv ha => h.o.kw v a hv (by rw [e2 v hv] at ha; exact ha), fun a ha => h.o.ks a (by rw [es] at ha; exact ha)⟩, h.k.rts e2, h.f, h.v, h.nm⟩
/-- a packet that is in no row -/
theorem RA.out {p : Nat} (h : RA s x B H C Y P m rt K L M) (hJ : JV M lv) (hL : ∀ k, k ∈ L → lv k) (hp : p < 512) (lp : 0 < rn M ff_Mod_lengths p) (h1 : ∀ v i, v < (rn M ff_Mod_all 0) → i < rn M ff_Mod_agains v → rn M ff_Mod_again (8 * v + i) ≠ p) (h2 : ∀ v i, v < (rn M ff_Mod_all 0) → i < rn M ff_Mod_rowSize v → rn M ff_Mod_row (512 * v + i) ≠ p) (h3 : ∀ k, k ∈ L → rn M ff_Mod_noteSlot k ≠ p) : ∀ q, ISR x B m q → P p ∉ rt q := by
  have h64 := hJ.all64
  intro q hq hin
  rcases hq with e | e | ⟨v, hv, e⟩
  · rw [e, h.m.row] at hin
    obtain ⟨k, k1, k2⟩ := List.mem_map.mp hin
    exact h3 k k1 (h.p.inj (hJ.nSl (hL k k1)) hp (hJ.j10 k (hL k k1)).2.1 lp k2)
  · rw [e] at hin
    exact h.o.sp p hp lp hin
  · by_cases hvA : v < (rn M ff_Mod_all 0)
    · rcases e with e | e | e
      · rw [e] at hin
        exact h.w.nP h.p hp lp hv hin
      · rw [e, h.x.ag v hv hvA] at hin
        obtain ⟨i, i1, i2⟩ := List.mem_map.mp hin
        have i1' := List.mem_range.mp i1
        have h9 := hJ.ri.aNl (v := v) (by omega)
        exact h1 v i hvA i1' (h.p.inj (hJ.ri.aRl (by omega)) hp (hJ.j11 v i hvA i1').2.1 lp i2)
      · rw [e, h.x.ak v hv hvA] at hin
        obtain ⟨i, i1, i2⟩ := List.mem_map.mp hin
        have i1' := List.mem_range.mp i1
        exact h2 v i hvA i1' (h.p.inj (hJ.rRl hvA i1') hp (hJ.j9 v i hvA i1').1 lp i2)
    · obtain ⟨z1, z2⟩ := h.x.z v hv (by omega)
      rcases e with e | e | e
      · rw [e] at hin
        exact h.w.nP h.p hp lp hv hin
      · rw [e, z1] at hin; cases hin
      · rw [e, z2] at hin; cases hin
/-- a note is sent -/
theorem RA.note {p v : Nat} {d : Bool} {y : Int32} {nx fi la : Nat → Option Nat} {sz : Nat → Int32} (h : RA s x B H C Y P m rt K (List.range ((rn M ff_Mod_notes 0))) M) (hp : p < 512) (lp : 0 < rn M ff_Mod_lengths p) (hn : (rn M ff_Mod_notes 0) < 1000) (hne : ∀ k, k < (rn M ff_Mod_notes 0) → P (rn M ff_Mod_noteSlot k) ≠ P p) (hy : y = nI (rn M ff_Mod_cycle 0 + rn M ff_Mod_away (64 * v + p / 8)))
    (hR : RR (fx_srow (fx_sfi (fx_sfi s ff_Packet_noteIsDone (P p) (fx_bit d)) ff_Packet_noteDue (P p) y) nx fi la sz) x B m (fn_up rt (x + 13) (rt (x + 13) ++ [P p]))) :
    RA (fx_srow (fx_sfi (fx_sfi s ff_Packet_noteIsDone (P p) (fx_bit d)) ff_Packet_noteDue (P p) y) nx fi la sz) x B H C Y P m (fn_up rt (x + 13) (rt (x + 13) ++ [P p])) K (List.range ((rn (om_note M v p d) ff_Mod_notes 0))) (om_note M v p d) := by
  have eS : ∀ k, rn (om_note M v p d) ff_Mod_noteSlot k = if k = (rn M ff_Mod_notes 0) then p else rn M ff_Mod_noteSlot k := by
    intro k
    unfold om_note
    rw [rn_pe (by decide), rn_pe (by decide), rn_pe (by decide)]
    by_cases e : k = (rn M ff_Mod_notes 0)
    · rw [if_pos e, e, rn_same (by omega)]
    · rw [if_neg e, rn_ne (fun q => e q.2)]
  have eD : ∀ k, om_note M v p d ff_Mod_noteDone k = if k = (rn M ff_Mod_notes 0) then fx_bit d else M ff_Mod_noteDone k := by
    intro k
    unfold om_note
    rw [fx_up_ne (fun q => absurd q.1 (by decide)), fx_up_ne (fun q => absurd q.1 (by decide))]
    by_cases e : k = (rn M ff_Mod_notes 0)
    · rw [if_pos e, e, fx_up_same]
    · rw [if_neg e, fx_up_ne (fun q => e q.2), fx_up_ne (fun q => absurd q.1 (by decide))]
  have eU : ∀ k, om_note M v p d ff_Mod_noteDue k = if k = (rn M ff_Mod_notes 0) then y else M ff_Mod_noteDue k := by
    intro k
    unfold om_note
    rw [fx_up_ne (fun q => absurd q.1 (by decide))]
    by_cases e : k = (rn M ff_Mod_notes 0)
    · rw [if_pos e, e, fx_up_same, hy]
    · rw [if_neg e, fx_up_ne (fun q => e q.2), fx_up_ne (fun q => absurd q.1 (by decide)), fx_up_ne (fun q => absurd q.1 (by decide))]
  have eN : (rn (om_note M v p d) ff_Mod_notes 0) = (rn M ff_Mod_notes 0) + 1 := by
    unfold om_note
    rw [rn_same (by omega)]
  have eM : om_note M v p d = om_mnt M (om_note M v p d) := mnt_eq (fun g i hg => by
    have key : ∀ f, 810 ≤ f → f < 814 → g ≠ f := by omega
    unfold om_note
    rw [fx_up_ne (fun q => key _ (by decide) (by decide) q.1), fx_up_ne (fun q => key _ (by decide) (by decide) q.1), fx_up_ne (fun q => key _ (by decide) (by decide) q.1), fx_up_ne (fun q => key _ (by decide) (by decide) q.1)])
  rw [eN]
  have eH : fx_sfi (fx_sfi s ff_Packet_noteIsDone (P p) (fx_bit d)) ff_Packet_noteDue (P p) y = fx_snt s (fx_fi (fx_sfi (fx_sfi s ff_Packet_noteIsDone (P p) (fx_bit d)) ff_Packet_noteDue (P p) y)) := snt_eq rfl (fun f b h1 h2 => by rw [fi_ne (fun q => h2 q.1), fi_ne (fun q => h1 q.1)]) rfl
  have fD : ∀ a, fx_fi (fx_sfi (fx_sfi s ff_Packet_noteIsDone (P p) (fx_bit d)) ff_Packet_noteDue (P p) y) ff_Packet_noteIsDone a = if a = P p then fx_bit d else fx_fi s ff_Packet_noteIsDone a := by
    intro a
    rw [fi_ne (fun q => absurd q.1 (by decide))]
    by_cases c : a = P p
    · rw [if_pos c, c, fi_same]
    · rw [if_neg c, fi_ne (fun q => c q.2)]
  have fU : ∀ a, fx_fi (fx_sfi (fx_sfi s ff_Packet_noteIsDone (P p) (fx_bit d)) ff_Packet_noteDue (P p) y) ff_Packet_noteDue a = if a = P p then y else fx_fi s ff_Packet_noteDue a := by
    intro a
    by_cases c : a = P p
    · rw [if_pos c, c, fi_same]
    · rw [if_neg c, fi_ne (fun q => c q.2), fi_ne (fun q => c q.2)]
  generalize fx_fi (fx_sfi (fx_sfi s ff_Packet_noteIsDone (P p) (fx_bit d)) ff_Packet_noteDue (P p) y) = I at *
  rw [eH] at hR ⊢
  obtain ⟨N, hN⟩ : ∃ N, om_note M v p d = om_mnt M N := ⟨_, eM⟩
  simp only [hN] at eS eD eU
  rw [hN]
  refine h.nt hR (fun q hq => fn_ne hq) ⟨?_, fun k hk => ?_, fun k hk => ?_⟩
  · rw [fn_same, h.m.row, List.range_succ, List.map_append]
    congr 1
    · refine List.map_congr_left (fun k hk => ?_)
      have := List.mem_range.mp hk
      rw [eS, if_neg (by omega)]
    · simp [eS]
  · have hk' := List.mem_range.mp hk
    show I ff_Packet_noteIsDone (P (rn (om_mnt M N) ff_Mod_noteSlot k)) = _
    rw [eS, eD, fD]
    by_cases c : k = (rn M ff_Mod_notes 0)
    · rw [if_pos c, if_pos c, if_pos rfl]
    · rw [if_neg c, if_neg c, if_neg (hne k (by omega))]
      exact h.m.dn k (List.mem_range.mpr (by omega))
  · have hk' := List.mem_range.mp hk
    show I ff_Packet_noteDue (P (rn (om_mnt M N) ff_Mod_noteSlot k)) = _
    rw [eS, eU, fU]
    by_cases c : k = (rn M ff_Mod_notes 0)
    · rw [if_pos c, if_pos c, if_pos rfl]
    · rw [if_neg c, if_neg c, if_neg (hne k (by omega))]
      exact h.m.du k (List.mem_range.mpr (by omega))
end
