/-! THE CLASS AND THE REFERENCE: a packet is ready; the next one is asked for -/
/-- the row loses its first one -/
def om_unr (M : rf_M) (v : Nat) : rf_M := om_sh (fx_up M ff_Mod_rowSize v (nI (rn M ff_Mod_rowSize v - 1))) ff_Mod_row (512 * v) (rn M ff_Mod_rowSize v - 1)
def om_mro (M N : rf_M) : rf_M := fun g i => if Nat.ble 802 g && Nat.blt g 804 then N g i else M g i
theorem mro_o {M N : rf_M} {g i : Nat} (h : (Nat.ble 802 g && Nat.blt g 804) = false) : om_mro M N g i = M g i := by
  unfold om_mro
  rw [h]
  rfl
theorem mro_y {M N : rf_M} {g i : Nat} (h : (Nat.ble 802 g && Nat.blt g 804) = true) : om_mro M N g i = N g i := by
  unfold om_mro
  exact if_pos h
theorem mro_eq {M N : rf_M} (h : ∀ g i, ¬ (802 ≤ g ∧ g < 804) → N g i = M g i) : N = om_mro M N := by
  funext g i
  unfold om_mro
  by_cases c : (Nat.ble 802 g && Nat.blt g 804) = true
  · rw [if_pos c]
  · rw [if_neg c]
    simp only [Bool.and_eq_true, Nat.ble_eq, Nat.blt_eq] at c
    exact h g i (by omega)
section
variable {s : fx_S} {Q : fx_Q} {x m : Nat} {B H P : Nat → Nat} {C : Nat → Nat → Option Nat} {Y : Nat → Nat → Nat} {rt : Nat → List Nat} {K : Nat → Prop} {L : List Nat} {M : rf_M} {lv : Nat → Prop}
theorem unr_N {v u : Nat} (h : rn M ff_Mod_rowSize v < 513) : rn (om_unr M v) ff_Mod_rowSize u = if u = v then rn M ff_Mod_rowSize v - 1 else rn M ff_Mod_rowSize u := by
  unfold om_unr rn
  rw [om_sh_ne (by decide)]
  by_cases e : u = v
  · rw [if_pos e, e, fx_up_same]
    exact nI_clamp (by have e : (M ff_Mod_rowSize v).toNatClampNeg = rn M ff_Mod_rowSize v := rfl; omega)
  · rw [if_neg e, fx_up_ne (fun w => e w.2)]
theorem unr_R {v u i : Nat} (hi : i < if u = v then rn M ff_Mod_rowSize v - 1 else rn M ff_Mod_rowSize u) (h9 : rn M ff_Mod_rowSize v < 513) (hu9 : rn M ff_Mod_rowSize u < 513) : rn (om_unr M v) ff_Mod_row (512 * u + i) = if u = v then rn M ff_Mod_row (512 * v + (i + 1)) else rn M ff_Mod_row (512 * u + i) := by
  unfold om_unr rn
  have ev : (M ff_Mod_rowSize v).toNatClampNeg = rn M ff_Mod_rowSize v := rfl
  by_cases e : u = v
  · rw [if_pos e] at hi ⊢
    subst e
    rw [om_sh_in (by omega) (by omega), fx_up_ne (fun q => absurd q.1 (by decide))]
    rfl
  · rw [if_neg e] at hi ⊢
    rw [om_sh_out (by omega), fx_up_ne (fun q => absurd q.1 (by decide))]
theorem RA.unr {v : Nat} {t : List Nat} {nx fi la : Nat → Option Nat} {sz : Nat → Int32} (h : RA s x B H C Y P m rt K L M) (hI : RI M) (hv : v < (rn M ff_Mod_all 0)) (hr : 0 < rn M ff_Mod_rowSize v) (ht : rt (B v + 6) = P (rn M ff_Mod_row (512 * v)) :: t) (hR : RR (fx_srow s nx fi la sz) x B m (fn_up rt (B v + 6) t)) : RA (fx_srow s nx fi la sz) x B H C Y P m (fn_up rt (B v + 6) t) K L (om_unr M v) := by
  have h64 := h.sk.c.m64
  have hvm : v < m := Nat.lt_of_lt_of_le hv h.nm
  have hin := h.sk.c.in_
  have h9 := hI.rNl (v := v) (by omega)
  have e2 : ∀ u, u < m → fn_up rt (B v + 6) t (B u + 2) = rt (B u + 2) := fun u hu => fn_ne (fun q => by have := h.sk.ap hu hvm (by omega) (by omega) q; omega)
  have e3 : ∀ u, u < m → fn_up rt (B v + 6) t (B u + 3) = rt (B u + 3) := fun u hu => fn_ne (fun q => by have := h.sk.ap hu hvm (by omega) (by omega) q; omega)
  have em : fn_up rt (B v + 6) t (x + 13) = rt (x + 13) := fn_ne (by have := hin _ hvm; omega)
  have es : fn_up rt (B v + 6) t (x + 14) = rt (x + 14) := fn_ne (by have := hin _ hvm; omega)
  have eN := fun u => unr_N (M := M) (v := v) (u := u) h9
  have eR := fun u i hi hu => unr_R (M := M) (v := v) (u := u) (i := i) hi h9 hu
  have eM : om_unr M v = om_mro M (om_unr M v) := mro_eq (fun g i hg => by
    unfold om_unr
    rw [om_sh_ne (fun q => hg (by rw [q]; decide)), fx_up_ne (fun q => hg (by rw [q.1]; decide))])
  generalize om_unr M v = N at *
  rw [eM]
  have eN' : ∀ u, rn (om_mro M N) ff_Mod_rowSize u = rn N ff_Mod_rowSize u := fun u => rn_eq (mro_y (by decide))
  have eR' : ∀ u, rn (om_mro M N) ff_Mod_row u = rn N ff_Mod_row u := fun u => rn_eq (mro_y (by decide))
  have hak := h.x.ak v hvm hv
  refine ⟨h.sk, h.t, h.g, h.s, h.p, h.w.rts e2, hR, ⟨fun u hu huA => by rw [e3 u hu]; exact h.x.ag u hu huA, fun u hu huA => ?_, fun u hu huA => ?_⟩, ⟨by rw [em]; exact h.m.row, h.m.dn, h.m.du⟩, ⟨fun q hq hq0 => by rw [es]; exact h.o.sp q hq hq0, h.o.kp, fun u a hu ha => h.o.kw u a hu (by rw [e2 u hu] at ha; exact ha), fun a ha => h.o.ks a (by rw [es] at ha; exact ha)⟩, h.k.rts e2, h.f, h.v, h.nm⟩
  · have huA' : u < (rn M ff_Mod_all 0) := huA
    have hu9 := hI.rNl (v := u) (by omega)
    rw [eN', eN]
    by_cases e : u = v
    · rw [e, fn_same, if_pos rfl]
      rw [ht] at hak
      have hr1 : rn M ff_Mod_rowSize v = (rn M ff_Mod_rowSize v - 1) + 1 := by omega
      rw [hr1, List.range_succ_eq_map, List.map_cons, List.map_map] at hak
      have hak2 := (List.cons.inj hak).2
      rw [hak2]
      refine List.map_congr_left (fun i hi => ?_)
      have hi' := List.mem_range.mp hi
      show P (rn M ff_Mod_row (512 * v + (i + 1))) = _
      rw [eR', eR v i (by rw [if_pos rfl]; exact hi') h9, if_pos rfl]
    · rw [fn_ne (fun q => e (h.sk.ap hu hvm (by omega) (by omega) q).1), if_neg e, h.x.ak u hu huA']
      refine List.map_congr_left (fun i hi => ?_)
      have hi' := List.mem_range.mp hi
      rw [eR', eR u i (by rw [if_neg e]; exact hi') hu9, if_neg e]
  · have huA' : (rn M ff_Mod_all 0) ≤ u := huA
    rw [e3 u hu, fn_ne (fun q => by have := (h.sk.ap hu hvm (by omega) (by omega) q).1; omega)]
    exact h.x.z u hu huA'
/-- the packet of place i becomes ready, its place is empty -/
def om_rd0 (M : rf_M) (v k p : Nat) : rf_M := fx_up (fx_up (fx_up (fx_up (fx_up (fx_up M ff_Mod_readyTag (4 * v + rn M ff_Mod_readySize v) (M ff_Mod_tags p)) ff_Mod_readySource (4 * v + rn M ff_Mod_readySize v) (nI (p / 8))) ff_Mod_readyLength (4 * v + rn M ff_Mod_readySize v) (nI (rn M ff_Mod_lengths p))) ff_Mod_readyTry (4 * v + rn M ff_Mod_readySize v) (nI (rn M ff_Mod_whichTry k))) ff_Mod_readySize v (nI (rn M ff_Mod_readySize v + 1))) ff_Mod_whose k fx_neg
theorem fx_up_comm {f g i j : Nat} {y z : Int32} (h : f ≠ g) : fx_up (fx_up M f i y) g j z = fx_up (fx_up M g j z) f i y := by
  funext k l
  by_cases c1 : k = g ∧ l = j
  · obtain ⟨e1, e2⟩ := c1
    subst e1; subst e2
    rw [fx_up_same, fx_up_ne (fun q => h q.1.symm), fx_up_same]
  · rw [fx_up_ne c1]
    by_cases c2 : k = f ∧ l = i
    · obtain ⟨e1, e2⟩ := c2
      subst e1; subst e2
      rw [fx_up_same, fx_up_same]
    · rw [fx_up_ne c2, fx_up_ne c2, fx_up_ne c1]
theorem note_whose {v p k : Nat} {d : Bool} {y : Int32} : om_note (fx_up M ff_Mod_whose k y) v p d = fx_up (om_note M v p d) ff_Mod_whose k y := by
  unfold om_note
  rw [rn_pe (by decide), rn_pe (by decide), rn_pe (by decide), fx_up_comm (f := ff_Mod_whose) (g := ff_Mod_noteSlot) (by decide), fx_up_comm (f := ff_Mod_whose) (g := ff_Mod_noteDone) (by decide), fx_up_comm (f := ff_Mod_whose) (g := ff_Mod_noteDue) (by decide), fx_up_comm (f := ff_Mod_whose) (g := ff_Mod_notes) (by decide)]
theorem ready_rd0 {v k p : Nat} : om_ready M v k p = om_note (om_rd0 M v k p) v p true := by
  unfold om_rd0
  rw [note_whose]
  rfl
theorem RA.mkr {v i p w : Nat} {y1 y2 y3 y4 y5 : Int32} (h : RA s x B H C Y P m rt K L M) (hI : RI M) (hv : v < m) (hi : i < 4) (hy4 : rn M ff_Mod_readySize v < 4) (hw : Y v (rn M ff_Mod_readySize v) = w) (e1 : y1 = nI (p / 8)) (e2 : y2 = nI (rn M ff_Mod_lengths p)) (e3 : y3 = nI (rn M ff_Mod_whichTry (4 * v + i))) (e4 : y4 = M ff_Mod_tags p) (e5 : y5 = nI (rn M ff_Mod_readySize v + 1)) : RA (fx_sfr (fx_sfi (fx_sfi (fx_sfi (fx_sfi (fx_sfi s ff_Arrival_source w y1) ff_Arrival_length w y2) ff_Arrival_attempt w y3) ff_Arrival_tag w y4) ff_Receiver_readyCount (B v + 5) y5) ff_Place_packet (B v + 10 + i) none) x B H C Y P m rt K L (om_rd0 M v (4 * v + i) p) := by
  have h64 := h.sk.c.m64
  generalize hT : fx_sfr (fx_sfi (fx_sfi (fx_sfi (fx_sfi (fx_sfi s ff_Arrival_source w y1) ff_Arrival_length w y2) ff_Arrival_attempt w y3) ff_Arrival_tag w y4) ff_Receiver_readyCount (B v + 5) y5) ff_Place_packet (B v + 10 + i) none = T
  have f1 : ∀ a, fx_fi T ff_Arrival_source a = if a = w then y1 else fx_fi s ff_Arrival_source a := by
    intro a
    rw [← hT]
    show fx_fi (fx_sfi s ff_Arrival_source w y1) ff_Arrival_source a = _
    by_cases c : a = w
    · rw [if_pos c, c, fi_same]
    · rw [if_neg c, fi_ne (fun q => c q.2)]
  have f2 : ∀ a, fx_fi T ff_Arrival_length a = if a = w then y2 else fx_fi s ff_Arrival_length a := by
    intro a
    rw [← hT]
    show fx_fi (fx_sfi (fx_sfi s ff_Arrival_source w y1) ff_Arrival_length w y2) ff_Arrival_length a = _
    by_cases c : a = w
    · rw [if_pos c, c, fi_same]
    · rw [if_neg c, fi_ne (fun q => c q.2), fi_ne (fun q => c q.2)]
  have f3 : ∀ a, fx_fi T ff_Arrival_attempt a = if a = w then y3 else fx_fi s ff_Arrival_attempt a := by
    intro a
    rw [← hT]
    show fx_fi (fx_sfi (fx_sfi (fx_sfi s ff_Arrival_source w y1) ff_Arrival_length w y2) ff_Arrival_attempt w y3) ff_Arrival_attempt a = _
    by_cases c : a = w
    · rw [if_pos c, c, fi_same]
    · rw [if_neg c, fi_ne (fun q => c q.2), fi_ne (fun q => c q.2), fi_ne (fun q => c q.2)]
  have f4 : ∀ a, fx_fi T ff_Arrival_tag a = if a = w then y4 else fx_fi s ff_Arrival_tag a := by
    intro a
    rw [← hT]
    show fx_fi (fx_sfi (fx_sfi (fx_sfi (fx_sfi s ff_Arrival_source w y1) ff_Arrival_length w y2) ff_Arrival_attempt w y3) ff_Arrival_tag w y4) ff_Arrival_tag a = _
    by_cases c : a = w
    · rw [if_pos c, c, fi_same]
    · rw [if_neg c, fi_ne (fun q => c q.2), fi_ne (fun q => c q.2), fi_ne (fun q => c q.2), fi_ne (fun q => c q.2)]
  have f5 : ∀ a, fx_fi T ff_Receiver_readyCount a = if a = B v + 5 then y5 else fx_fi s ff_Receiver_readyCount a := by
    intro a
    rw [← hT]
    show fx_fi (fx_sfi (fx_sfi (fx_sfi (fx_sfi (fx_sfi s ff_Arrival_source w y1) ff_Arrival_length w y2) ff_Arrival_attempt w y3) ff_Arrival_tag w y4) ff_Receiver_readyCount (B v + 5) y5) ff_Receiver_readyCount a = _
    by_cases c : a = B v + 5
    · rw [if_pos c, c, fi_same]
    · rw [if_neg c, fi_ne (fun q => c q.2), fi_ne (fun q => absurd q.1 (by decide)), fi_ne (fun q => absurd q.1 (by decide)), fi_ne (fun q => absurd q.1 (by decide)), fi_ne (fun q => absurd q.1 (by decide))]
  have f6 : ∀ f a, (f = ff_Receiver_hasHandedOver ∨ f = ff_Place_attempt ∨ f = ff_Place_joined) → fx_fi T f a = fx_fi s f a := by
    intro f a hf
    rw [← hT]
    rcases hf with e | e | e <;> subst e <;> rfl
  have f7 : ∀ a, fx_fr T ff_Place_packet a = if a = B v + 10 + i then none else fx_fr s ff_Place_packet a := by
    intro a
    rw [← hT]
    by_cases c : a = B v + 10 + i
    · rw [if_pos c, c, fr_same]
    · rw [if_neg c, fr_ne (fun q => c q.2)]; rfl
  have f8 : ∀ a, fx_fr T ff_Receiver_last a = fx_fr s ff_Receiver_last a := by
    intro a
    rw [← hT, fr_ne (fun q => absurd q.1 (by decide))]; rfl
  have f9 : fx_ar T = fx_ar s := by rw [← hT]; rfl
  have eH : T = fx_srv s (fx_fi T) (fx_fr T) := srv_eq (by rw [← hT]; rfl) (fun f b h1 h2 h3 h4 h5 => by
    rw [← hT]
    show fx_fi (fx_sfi (fx_sfi (fx_sfi (fx_sfi (fx_sfi s ff_Arrival_source w y1) ff_Arrival_length w y2) ff_Arrival_attempt w y3) ff_Arrival_tag w y4) ff_Receiver_readyCount (B v + 5) y5) f b = _
    rw [fi_ne (fun q => h4 q.1), fi_ne (fun q => h1 (by rw [q.1]; decide)), fi_ne (fun q => h1 (by rw [q.1]; decide)), fi_ne (fun q => h1 (by rw [q.1]; decide)), fi_ne (fun q => h1 (by rw [q.1]; decide))]) (fun f b h1 h2 => by rw [← hT, fr_ne (fun q => h1 q.1)]; rfl) (by rw [← hT]; rfl)
  -- the numbers
  generalize hk : 4 * v + i = k
  have g1 : ∀ j, om_rd0 M v k p ff_Mod_readySource j = if j = 4 * v + rn M ff_Mod_readySize v then y1 else M ff_Mod_readySource j := by
    intro j
    unfold om_rd0
    rw [fx_up_ne (fun q => absurd q.1 (by decide)), fx_up_ne (fun q => absurd q.1 (by decide)), fx_up_ne (fun q => absurd q.1 (by decide)), fx_up_ne (fun q => absurd q.1 (by decide))]
    by_cases c : j = 4 * v + rn M ff_Mod_readySize v
    · rw [if_pos c, c, fx_up_same, e1]
    · rw [if_neg c, fx_up_ne (fun q => c q.2), fx_up_ne (fun q => c q.2)]
  have g2 : ∀ j, om_rd0 M v k p ff_Mod_readyLength j = if j = 4 * v + rn M ff_Mod_readySize v then y2 else M ff_Mod_readyLength j := by
    intro j
    unfold om_rd0
    rw [fx_up_ne (fun q => absurd q.1 (by decide)), fx_up_ne (fun q => absurd q.1 (by decide)), fx_up_ne (fun q => absurd q.1 (by decide))]
    by_cases c : j = 4 * v + rn M ff_Mod_readySize v
    · rw [if_pos c, c, fx_up_same, e2]
    · rw [if_neg c, fx_up_ne (fun q => c q.2), fx_up_ne (fun q => c q.2), fx_up_ne (fun q => c q.2)]
  have g3 : ∀ j, om_rd0 M v k p ff_Mod_readyTry j = if j = 4 * v + rn M ff_Mod_readySize v then y3 else M ff_Mod_readyTry j := by
    intro j
    unfold om_rd0
    rw [fx_up_ne (fun q => absurd q.1 (by decide)), fx_up_ne (fun q => absurd q.1 (by decide))]
    by_cases c : j = 4 * v + rn M ff_Mod_readySize v
    · rw [if_pos c, c, fx_up_same, e3, hk]
    · rw [if_neg c, fx_up_ne (fun q => c q.2), fx_up_ne (fun q => c q.2), fx_up_ne (fun q => c q.2), fx_up_ne (fun q => c q.2)]
  have g4 : ∀ j, om_rd0 M v k p ff_Mod_readyTag j = if j = 4 * v + rn M ff_Mod_readySize v then y4 else M ff_Mod_readyTag j := by
    intro j
    unfold om_rd0
    rw [fx_up_ne (fun q => absurd q.1 (by decide)), fx_up_ne (fun q => absurd q.1 (by decide)), fx_up_ne (fun q => absurd q.1 (by decide)), fx_up_ne (fun q => absurd q.1 (by decide)), fx_up_ne (fun q => absurd q.1 (by decide))]
    by_cases c : j = 4 * v + rn M ff_Mod_readySize v
    · rw [if_pos c, c, fx_up_same, e4]
    · rw [if_neg c, fx_up_ne (fun q => c q.2)]
  have g5 : ∀ u, om_rd0 M v k p ff_Mod_readySize u = if u = v then y5 else M ff_Mod_readySize u := by
    intro u
    unfold om_rd0
    rw [fx_up_ne (fun q => absurd q.1 (by decide))]
    by_cases c : u = v
    · rw [if_pos c, c, fx_up_same, e5]
    · rw [if_neg c, fx_up_ne (fun q => c q.2), fx_up_ne (fun q => absurd q.1 (by decide)), fx_up_ne (fun q => absurd q.1 (by decide)), fx_up_ne (fun q => absurd q.1 (by decide)), fx_up_ne (fun q => absurd q.1 (by decide))]
  have g6 : ∀ j, om_rd0 M v k p ff_Mod_whose j = if j = k then fx_neg else M ff_Mod_whose j := by
    intro j
    unfold om_rd0
    by_cases c : j = k
    · rw [if_pos c, c, fx_up_same]
    · rw [if_neg c, fx_up_ne (fun q => c q.2), fx_up_ne (fun q => absurd q.1 (by decide)), fx_up_ne (fun q => absurd q.1 (by decide)), fx_up_ne (fun q => absurd q.1 (by decide)), fx_up_ne (fun q => absurd q.1 (by decide)), fx_up_ne (fun q => absurd q.1 (by decide))]
  have g7 : ∀ g j, (g = ff_Mod_whichTry ∨ g = ff_Mod_has ∨ g = ff_Mod_taken) → om_rd0 M v k p g j = M g j := by
    intro g j hg
    have n : g ≠ 799 ∧ g ≠ 804 ∧ g ≠ 805 ∧ g ≠ 806 ∧ g ≠ 807 ∧ g ≠ 808 := by rcases hg with e | e | e <;> (rw [e]; decide)
    unfold om_rd0
    rw [fx_up_ne (fun q => n.1 q.1), fx_up_ne (fun q => n.2.1 q.1), fx_up_ne (fun q => n.2.2.2.2.2 q.1), fx_up_ne (fun q => n.2.2.2.2.1 q.1), fx_up_ne (fun q => n.2.2.2.1 q.1), fx_up_ne (fun q => n.2.2.1 q.1)]
  have eM : om_rd0 M v k p = om_mrv M (om_rd0 M v k p) := mrv_eq (fun g j h1 h2 => by
    have n : g ≠ 799 ∧ g ≠ 804 ∧ g ≠ 805 ∧ g ≠ 806 ∧ g ≠ 807 ∧ g ≠ 808 := by omega
    unfold om_rd0
    rw [fx_up_ne (fun q => n.1 q.1), fx_up_ne (fun q => n.2.1 q.1), fx_up_ne (fun q => n.2.2.2.2.2 q.1), fx_up_ne (fun q => n.2.2.2.2.1 q.1), fx_up_ne (fun q => n.2.2.2.1 q.1), fx_up_ne (fun q => n.2.2.1 q.1)])
  clear hT
  generalize om_rd0 M v k p = N at *
  have rv : RV T B Y P m N := by
    intro u hu
    obtain ⟨a1, a2, a3, a4, a5, a6, a7, a8, a9, a10, a11, a12, hh, b1, b2, b3⟩ := h.v u hu
    have hyu : u ≠ v → rn N ff_Mod_readySize u = rn M ff_Mod_readySize u := fun c => rn_eq (by rw [g5, if_neg c])
    have hyv : rn N ff_Mod_readySize v = rn M ff_Mod_readySize v + 1 := by
      unfold rn
      rw [g5, if_pos rfl, e5]
      exact nI_clamp (by have : (M ff_Mod_readySize v).toNatClampNeg = rn M ff_Mod_readySize v := rfl; omega)
    have Yw : ∀ j, j < 5 → (Y u j = w ↔ u = v ∧ j = rn M ff_Mod_readySize v) := by
      intro j hj
      have q1 := a8 j hj
      have q2 := (h.v v hv).yin (rn M ff_Mod_readySize v) (by omega)
      constructor
      · intro e
        rw [← hw] at e
        have huv := (h.sk.ap (c := Y u j - B u) (d := Y v (rn M ff_Mod_readySize v) - B v) hu hv (by omega) (by omega) (by omega)).1
        subst huv
        exact ⟨rfl, a7 j _ hj (by omega) e⟩
      · rintro ⟨c1, c2⟩; rw [c1, c2]; exact hw
    have lst : ∀ j, j < rn N ff_Mod_readySize u → (u = v ∧ j = rn M ff_Mod_readySize v) ∨ (j < rn M ff_Mod_readySize u ∧ ¬ (u = v ∧ j = rn M ff_Mod_readySize v)) := by
      intro j hj
      by_cases c : u = v
      · subst c
        rw [hyv] at hj
        by_cases d : j = rn M ff_Mod_readySize u
        · exact Or.inl ⟨rfl, d⟩
        · exact Or.inr ⟨by omega, fun q => d q.2⟩
      · rw [hyu c] at hj
        exact Or.inr ⟨hj, fun q => c q.1⟩
    have y5u := hI.yNl (v := u) (by omega)
    have idx : ∀ j, j < rn M ff_Mod_readySize u → ¬ (u = v ∧ j = rn M ff_Mod_readySize v) → 4 * u + j ≠ 4 * v + rn M ff_Mod_readySize v := fun j hj c e => c ⟨by omega, by omega⟩
    refine ⟨?_, fun j hj => ?_, fun j hj hne => ?_, fun j hj hne => ?_, fun j hj => ?_, ?_, a7, a8, fun j hj => ?_, fun j hj => ?_, fun j hj => ?_, fun j hj => ?_, hh, ?_, fun q j hj => ?_, fun q => ?_⟩
    · rw [f5, g5]
      by_cases c : u = v
      · rw [if_pos (by rw [c]), if_pos c]
      · rw [if_neg (fun e => c (h.sk.ap hu hv (by omega) (by omega) e).1), if_neg c]; exact a1
    · rw [f7, g6]
      by_cases c : u = v ∧ j = i
      · rw [if_pos (by rw [c.1, c.2]), if_pos (by rw [c.1, c.2]; exact hk), oz_neg]; rfl
      · rw [if_neg (fun e => c (by have := h.sk.ap (c := 10 + j) (d := 10 + i) hu hv (by omega) (by omega) (by omega); omega)), if_neg (by omega)]; exact a2 j hj
    · rw [g6] at hne
      have c : ¬ 4 * u + j = k := fun e => by rw [if_pos e, oz_neg] at hne; exact hne rfl
      rw [if_neg c] at hne
      rw [f6 _ _ (by simp), g7 _ _ (by simp)]; exact a3 j hj hne
    · rw [g6] at hne
      have c : ¬ 4 * u + j = k := fun e => by rw [if_pos e, oz_neg] at hne; exact hne rfl
      rw [if_neg c] at hne
      rw [f6 _ _ (by simp), rn_eq (g7 ff_Mod_has (4 * u + j) (by simp))]; exact a4 j hj hne
    · rw [f9]; exact a5 j hj
    · rw [f8]; exact a6
    · rcases lst j hj with c | ⟨c1, c2⟩
      · rw [f1, g1, if_pos ((Yw j (by omega)).mpr c), if_pos (by rw [c.1, c.2])]
      · rw [f1, g1, if_neg (fun e => c2 ((Yw j (by omega)).mp e)), if_neg (idx j c1 c2)]; exact a9 j c1
    · rcases lst j hj with c | ⟨c1, c2⟩
      · rw [f2, g2, if_pos ((Yw j (by omega)).mpr c), if_pos (by rw [c.1, c.2])]
      · rw [f2, g2, if_neg (fun e => c2 ((Yw j (by omega)).mp e)), if_neg (idx j c1 c2)]; exact a10 j c1
    · rcases lst j hj with c | ⟨c1, c2⟩
      · rw [f3, g3, if_pos ((Yw j (by omega)).mpr c), if_pos (by rw [c.1, c.2])]
      · rw [f3, g3, if_neg (fun e => c2 ((Yw j (by omega)).mp e)), if_neg (idx j c1 c2)]; exact a11 j c1
    · rcases lst j hj with c | ⟨c1, c2⟩
      · rw [f4, g4, if_pos ((Yw j (by omega)).mpr c), if_pos (by rw [c.1, c.2])]
      · rw [f4, g4, if_neg (fun e => c2 ((Yw j (by omega)).mp e)), if_neg (idx j c1 c2)]; exact a12 j c1
    · rw [f6 _ _ (by simp)]; exact b1
    · rw [g7 _ _ (by simp)]; exact b2 q j hj
    · have n4 : Y u 4 ≠ w := fun e => by have := (Yw 4 (by omega)).mp e; omega
      rw [f1, f2, f3, if_neg n4, if_neg n4, if_neg n4, g7 _ _ (by simp), g7 _ _ (by simp), g7 _ _ (by simp)]; exact b3 q
  rw [eH] at rv ⊢
  rw [eM] at rv ⊢
  exact h.rv rv
theorem k_sendNote {p v : Nat} {d : Bool} (h : RA s x B H C Y P m rt K (List.range ((rn M ff_Mod_notes 0))) M) (hI : RI M) (hN : JN M) (hn2 : 2 ≤ rn M ff_Mod_n 0) (hNN : (rn M ff_Mod_all 0) = rn M ff_Mod_n 0 * rn M ff_Mod_n 0) (hp : p < 512) (lp : 0 < rn M ff_Mod_lengths p) (hpA : p / 8 < (rn M ff_Mod_all 0)) (hv : v < (rn M ff_Mod_all 0)) (hg : rn M ff_Mod_goals p = v) (hn : (rn M ff_Mod_notes 0) < 1000) (hout : ∀ q, ISR x B m q → P p ∉ rt q) (k : ∀ s' rt', CF x s s' → RA s' x B H C Y P m rt' K (List.range ((rn (om_note M v p d) ff_Mod_notes 0))) (om_note M v p d) → (∀ q, q ≠ x + 13 → rt' q = rt q) → (∀ b f, 384 ≤ f → f < 387 → fx_fi s' f b = fx_fi s f b) → fx_fr s' ff_Place_packet = fx_fr s ff_Place_packet → (∀ b, fx_fi s' ff_Rank_goldenNumber b = fx_fi s ff_Rank_goldenNumber b ∧ fx_fi s' ff_Rank_goldenSlot b = fx_fi s ff_Rank_goldenSlot b ∧ fx_fi s' ff_Rank_goldenSource b = fx_fi s ff_Rank_goldenSource b) → Q none s') : fx_M mm_Torus_sendNote [vR 10 (some x), vR 15 (some (P p)), vI (fx_bit d)] s Q := by
  have n9 := RN.n8 hI
  have hN64 : (rn M ff_Mod_all 0) ≤ 64 := by rw [hNN]; exact RN.sq hI
  have rp := h.p p hp lp
  have eg : M ff_Mod_goals p = nI v := by rw [hI.e ff_Mod_goals p (n := 512) rfl hp (by decide), hg]
  have ec := hI.f ff_Mod_cycle rfl (by decide)
  refine xx_i ml84 ?_
  refine xx_j ee84_0 rfl trivial ?_
  refine xx_j ee84_1 rfl trivial ?_
  first | refine xx_pz ee84_2 rfl ?_ | refine xx_t fx_bit_t (xx_pz ee84_2 rfl ?_) | refine xx_t fx_bit_f (xx_pz ee84_2 rfl ?_)
  refine xx_j ee84_5 rfl trivial ?_
  refine xx_j ee84_6 rfl trivial ?_
  refine xx_gi ee84_7 (h.t.now.trans ec) rfl rfl ?_
  refine xx_j ee84_10 rfl trivial ?_
  refine xx_gr ee84_11 h.sk.a.grid rfl rfl ?_
  refine xx_j ee84_14 rfl trivial ?_
  refine xx_gi ee84_15 (rp.goal.trans eg) rfl rfl ?_
  refine xx_j ee84_18 rfl trivial ?_
  refine xx_gi ee84_19 rp.src rfl rfl ?_
  have hS1 : SK1 (fx_sfi s ff_Packet_noteIsDone (P p) (fx_bit d)) x := h.sk.a
  have hA1 : RGa (fx_sfi s ff_Packet_noteIsDone (P p) (fx_bit d)) x (rz M ff_Mod_closed) (rn M ff_Mod_n 0) ((rn M ff_Mod_all 0)) := h.g.a
  have hB1 : RGb (fx_sfi s ff_Packet_noteIsDone (P p) (fx_bit d)) x (rz M ff_Mod_closed) (rn M ff_Mod_n 0) ((rn M ff_Mod_all 0)) := h.g.b
  refine xx_c ee84_22 rfl (k_steps hS1 hA1 hB1 hn2 n9 hNN hN64 hN.co hpA hv (fun t e a1 a2 a3 a4 a5 a6 a7 => ?_))
  have hd : e = rn M ff_Mod_away (64 * v + p / 8) := LST.eq (a7.sym hn2 n9 hNN hN.1 hpA hv) (hN.lst hv hpA)
  -- the grid's counts, put under the note's own field
  obtain ⟨gi, ai, rfl⟩ : ∃ gi ai, t = fx_sgrd (fx_sfi s ff_Packet_noteIsDone (P p) (fx_bit d)) gi ai := ⟨_, _, a1.eq⟩
  have hA : RA (fx_sgrd s gi ai) x B H C Y P m rt K (List.range ((rn M ff_Mod_notes 0))) M := ⟨h.sk, h.t, ⟨a3, a4⟩, h.s, h.p, h.w, h.r, h.x, h.m, h.o, h.k, h.f, h.v, h.nm⟩
  have es : fx_sgrd (fx_sfi s ff_Packet_noteIsDone (P p) (fx_bit d)) gi ai = fx_sfi (fx_sgrd s gi ai) ff_Packet_noteIsDone (P p) (fx_bit d) := by
    refine Prod.ext rfl (Prod.ext ?_ rfl)
    funext f b
    show (if (Nat.ble 192 f && Nat.blt f 199) = true then gi f b else fx_up (fx_fi s) ff_Packet_noteIsDone (P p) (fx_bit d) f b) = fx_up (fx_fi (fx_sgrd s gi ai)) ff_Packet_noteIsDone (P p) (fx_bit d) f b
    by_cases c : f = ff_Packet_noteIsDone ∧ b = P p
    · obtain ⟨c1, c2⟩ := c
      subst c1; subst c2
      rw [fx_up_same, fx_up_same]; rfl
    · rw [fx_up_ne c, fx_up_ne c]; rfl
  rw [es]
  first | refine xx_add ee84_25 ?_ | refine xx_j ee84_25 rfl trivial ?_
  refine xx_pi ee84_26 rfl ?_
  refine xx_j ee84_29 rfl trivial ?_
  refine xx_gr ee84_30 hA.sk.a.mail rfl rfl ?_
  refine xx_j ee84_33 rfl trivial ?_
  have hR0 : RR (fx_sfi (fx_sfi (fx_sgrd s gi ai) ff_Packet_noteIsDone (P p) (fx_bit d)) ff_Packet_noteDue (P p) (nI (rn M ff_Mod_cycle 0 + e))) x B m rt := hA.r
  refine xx_c ee84_34 rfl (k_app hR0 ISR.ml hout (fun nx fi la sz hR => ?_))
  refine xx_rv ee84_37 ?_
  have hne : ∀ k, k < (rn M ff_Mod_notes 0) → P (rn M ff_Mod_noteSlot k) ≠ P p := fun k hk q => hout _ ISR.ml (by rw [h.m.row, ← q]; exact List.mem_map.mpr ⟨k, List.mem_range.mpr hk, rfl⟩)
  refine k _ _ ?_ (hA.note (v := v) hp lp hn hne (by rw [hd]) hR) (fun q hq => fn_ne hq) (fun b f h1 h2 => ?_) rfl (fun b => ⟨rfl, rfl, rfl⟩)
  · have c1 : CF x s (fx_sgrd (fx_sfi s ff_Packet_noteIsDone (P p) (fx_bit d)) gi ai) := ((CF.rf x s).sfi (by decide)).gf a1
    rw [es] at c1
    exact (c1.sfi (by decide)).srow
  · show (if f = ff_Row_size then _ else fx_up (fx_up (fx_fi (fx_sgrd s gi ai)) ff_Packet_noteIsDone (P p) (fx_bit d)) ff_Packet_noteDue (P p) (nI (rn M ff_Mod_cycle 0 + e)) f b) = _
    rw [if_neg (by have : ff_Row_size = 641 := rfl; omega), fx_up_ne (fun q => by have : ff_Packet_noteDue = 330 := rfl; omega), fx_up_ne (fun q => by have : ff_Packet_noteIsDone = 329 := rfl; omega)]
    show (if (Nat.ble 192 f && Nat.blt f 199) = true then gi f b else fx_fi s f b) = _
    rw [if_neg (by simp; omega)]
end
