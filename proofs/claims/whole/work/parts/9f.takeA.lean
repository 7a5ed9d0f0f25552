/-! THE CLASS: the first ready one is handed over -/
def fx_stk (s : fx_S) (I : Nat → Nat → Int32) (R A : Nat → Nat → Option Nat) : fx_S := (s.1, fun f a => if Nat.beq f 513 || Nat.beq f 515 then I f a else fx_fi s f a, fun f a => if Nat.beq f 514 then R f a else fx_fr s f a, s.2.2.2.1, s.2.2.2.2.1, A, s.2.2.2.2.2.2)
section
variable {s t : fx_S} {Q : fx_Q} {x m a : Nat} {B H P : Nat → Nat} {C : Nat → Nat → Option Nat} {Y : Nat → Nat → Nat} {rt : Nat → List Nat} {K : Nat → Prop} {L : List Nat} {M N M6 : rf_M} {lv : Nat → Prop}
theorem stk_eq {T : fx_S} (h1 : fx_kd T = fx_kd s) (h2 : ∀ f b, f ≠ 513 → f ≠ 515 → fx_fi T f b = fx_fi s f b) (h3 : ∀ f b, f ≠ 514 → fx_fr T f b = fx_fr s f b) (h4 : fx_ln T = fx_ln s) (h5 : fx_ai T = fx_ai s) (h6 : T.2.2.2.2.2.2 = s.2.2.2.2.2.2) : T = fx_stk s (fx_fi T) (fx_fr T) (fx_ar T) := by
  obtain ⟨a, b, c, d, e, f, g⟩ := T
  obtain ⟨a', b', c', d', e', f', g'⟩ := s
  have q1 : a = a' := h1
  have q4 : d = d' := h4
  have q5 : e = e' := h5
  have q6 : g = g' := h6
  subst q1; subst q4; subst q5; subst q6
  unfold fx_stk
  have e2 : b = fun k y => if Nat.beq k 513 || Nat.beq k 515 then fx_fi (a, b, c, d, e, f, g) k y else fx_fi (a, b', c', d, e, f', g) k y := by
    funext k y
    by_cases q : (Nat.beq k 513 || Nat.beq k 515) = true
    · rw [if_pos q]; rfl
    · rw [if_neg q]
      simp only [Bool.or_eq_true, Nat.beq_eq] at q
      exact h2 k y (by omega) (by omega)
  have e3 : c = fun k y => if Nat.beq k 514 then fx_fr (a, b, c, d, e, f, g) k y else fx_fr (a, b', c', d, e, f', g) k y := by
    funext k y
    by_cases q : Nat.beq k 514 = true
    · rw [if_pos q]; rfl
    · rw [if_neg q]
      simp only [Nat.beq_eq] at q
      exact h3 k y q
  exact Prod.ext rfl (Prod.ext e2 (Prod.ext e3 rfl))
theorem RA.ho {v : Nat} {I : Nat → Nat → Int32} {R A : Nat → Nat → Option Nat} {Y' : Nat → Nat → Nat} (h : RA s x B H C Y P m rt K L M) (hJ : JV M lv) (hv : v < m) (hA : ∀ a, a ≠ B v + 9 → A a = fx_ar s a) (hV : RV (fx_stk s I R A) B Y' P m (om_mrv M N)) : RA (fx_stk s I R A) x B H C Y' P m rt K L (om_mrv M N) := by
  have hin := h.sk.c.in_
  have aB : ∀ u c, u < m → c < 20 → c ≠ 9 → A (B u + c) = fx_ar s (B u + c) := fun u c hu hc h9 => hA _ (fun q => by have := h.sk.ap hu hv hc (by omega) q; omega)
  have aX : A (x + 12) = fx_ar s (x + 12) := hA _ (by have := hin v hv; omega)
  have aK : ∀ a, K a → A (a + 1) = fx_ar s (a + 1) := fun a ha => hA _ (by have := (h.k.in_ a ha).2.2 v hv; omega)
  have aF : ∀ f, f < (rn M ff_Mod_flits 0) → A (P (spk M f) + 1) = fx_ar s (P (spk M f) + 1) := fun f hf => aK _ (h.o.kp _ (hJ.j2 f hf).2.2.1 (hJ.j2 f hf).1)
  refine ⟨⟨h.sk.a, fun u hu => ?_, h.sk.c⟩, h.t, h.g, ⟨h.s.used, h.s.hun, h.s.uw, fun u k hu hk => ?_, h.s.went⟩, h.p, h.w, h.r, h.x, h.m, h.o, ⟨h.k.in_, h.k.fl, h.k.ln, fun a b G ha hb hG => ?_, fun p b hp hb => ?_, fun u i a b hu hi hb => ?_, h.k.sep⟩, ⟨h.f.h1, h.f.here, h.f.com, fun u l hu hl => ?_, fun f F hf hF => ?_, fun f F hf hF => ?_, fun u l hu hl => ?_⟩, hV, h.nm⟩
  · obtain ⟨a1, a2, a3, a4, a5, a6, a7, a8, a9, a10, a11, a12, a13, a14, a15, a16⟩ := h.sk.b u hu
    refine ⟨?_, a2, a3, a4, a5, a6, a7, a8, a9, a10, a11, a12, a13, a14, a15, fun j hj => ?_⟩
    · show A (x + 12) u = _
      rw [aX]; exact a1
    · show A (B u + 8) j = _
      rw [aB u 8 hu (by omega) (by omega)]; exact a16 j hj
  · show A (B u + 4) k = _
    rw [aB u 4 hu (by omega) (by omega)]; exact h.s.sl u k hu hk
  · have hG' : A (a + 1) b = some G := hG
    rw [aK a ha] at hG'
    exact h.k.ft a b G ha hb hG'
  · show A (P p + 1) b ≠ none
    rw [aK _ (h.o.kp p hp (Nat.lt_of_le_of_lt (Nat.zero_le _) hb))]; exact h.k.fp p b hp hb
  · show A (a + 1) b ≠ none
    rw [aK a (h.o.kw u a hu (List.mem_of_getElem? hi))]; exact h.k.fw u i a b hu hi hb
  · have hH := h.f.h1 u hu
    show A (B u + H u) l = (sol M u l).bind (fun f => A (P (spk M f) + 1) (rn M ff_Mod_number f))
    rw [aB u (H u) hu (by omega) (by omega), h.f.fl u l hu hl]
    cases hs : sol M u l with
    | none => rw [ob_none, ob_none]
    | some f => rw [ob_some, ob_some, aF f (sol_some hs).1]
  · have hf' : f < (rn M ff_Mod_flits 0) := hf
    have hF' : A (P (spk M f) + 1) (rn M ff_Mod_number f) = some F := hF
    rw [aF f hf'] at hF'
    exact h.f.ent f F hf' hF'
  · have hf' : f < (rn M ff_Mod_flits 0) := hf
    have hF' : A (P (spk M f) + 1) (rn M ff_Mod_number f) = some F := hF
    rw [aF f hf'] at hF'
    exact h.f.att f F hf' hF'
  · have hH := h.f.h1 u hu
    show A (B u + (37 - H u)) l = _
    rw [aB u (37 - H u) hu (by omega) (by omega)]
    exact h.f.cm u l hu hl
/-- where the arrivals are then -/
def yro (Y : Nat → Nat → Nat) (v : Nat) : Nat → Nat → Nat := fun u i => if u = v then (if i < 3 then Y v (i + 1) else if i = 3 then Y v 4 else Y v 0) else Y u i
theorem yro_v {v i : Nat} : yro Y v v i = if i < 3 then Y v (i + 1) else if i = 3 then Y v 4 else Y v 0 := if_pos rfl
theorem yro_o {u v i : Nat} (h : u ≠ v) : yro Y v u i = Y u i := if_neg h
theorem take_sh {v j : Nat} (g : Nat) (hg : g = ff_Mod_readyTag ∨ g = ff_Mod_readySource ∨ g = ff_Mod_readyLength ∨ g = ff_Mod_readyTry) : om_take M v g j = if 4 * v ≤ j ∧ j < 4 * v + (rn M ff_Mod_readySize v - 1) then M g (j + 1) else M g j := by
  have nn : ∀ (f : Nat) i, f = ff_Mod_readyTag ∨ f = ff_Mod_readySource ∨ f = ff_Mod_readyLength ∨ f = ff_Mod_readyTry → (fx_up (fx_up (fx_up (fx_up M ff_Mod_taken (3 * v) (M ff_Mod_readySource (4 * v))) ff_Mod_taken (3 * v + 1) (M ff_Mod_readyLength (4 * v))) ff_Mod_taken (3 * v + 2) (M ff_Mod_readyTry (4 * v))) ff_Mod_readySize v (nI (rn M ff_Mod_readySize v - 1))) f i = M f i := by
    intro f i hf
    have n : f ≠ 804 ∧ f ≠ 809 := by rcases hf with e | e | e | e <;> (rw [e]; decide)
    rw [fx_up_ne (fun q => n.1 q.1), fx_up_ne (fun q => n.2 q.1), fx_up_ne (fun q => n.2 q.1), fx_up_ne (fun q => n.2 q.1)]
  unfold om_take
  try dsimp only
  generalize hX : fx_up (fx_up (fx_up (fx_up M ff_Mod_taken (3 * v) (M ff_Mod_readySource (4 * v))) ff_Mod_taken (3 * v + 1) (M ff_Mod_readyLength (4 * v))) ff_Mod_taken (3 * v + 2) (M ff_Mod_readyTry (4 * v))) ff_Mod_readySize v (nI (rn M ff_Mod_readySize v - 1)) = X at *
  rcases hg with e | e | e | e
  · subst e
    rw [om_sh_ne (by decide), om_sh_ne (by decide), om_sh_ne (by decide)]
    by_cases c : 4 * v ≤ j ∧ j < 4 * v + (rn M ff_Mod_readySize v - 1)
    · rw [if_pos c, om_sh_in c.1 c.2, nn _ _ (by simp)]
    · rw [if_neg c, om_sh_out (by omega), nn _ _ (by simp)]
  · subst e
    rw [om_sh_ne (by decide), om_sh_ne (by decide)]
    by_cases c : 4 * v ≤ j ∧ j < 4 * v + (rn M ff_Mod_readySize v - 1)
    · rw [if_pos c, om_sh_in c.1 c.2, om_sh_ne (by decide), nn _ _ (by simp)]
    · rw [if_neg c, om_sh_out (by omega), om_sh_ne (by decide), nn _ _ (by simp)]
  · subst e
    rw [om_sh_ne (by decide)]
    by_cases c : 4 * v ≤ j ∧ j < 4 * v + (rn M ff_Mod_readySize v - 1)
    · rw [if_pos c, om_sh_in c.1 c.2, om_sh_ne (by decide), om_sh_ne (by decide), nn _ _ (by simp)]
    · rw [if_neg c, om_sh_out (by omega), om_sh_ne (by decide), om_sh_ne (by decide), nn _ _ (by simp)]
  · subst e
    by_cases c : 4 * v ≤ j ∧ j < 4 * v + (rn M ff_Mod_readySize v - 1)
    · rw [if_pos c, om_sh_in c.1 c.2, om_sh_ne (by decide), om_sh_ne (by decide), om_sh_ne (by decide), nn _ _ (by simp)]
    · rw [if_neg c, om_sh_out (by omega), om_sh_ne (by decide), om_sh_ne (by decide), om_sh_ne (by decide), nn _ _ (by simp)]
theorem take_o {v g j : Nat} (h1 : g < 804 ∨ 809 < g) : om_take M v g j = M g j := by
  have key : ∀ f, 804 ≤ f → f < 810 → g ≠ f := by omega
  unfold om_take
  try dsimp only
  rw [om_sh_ne (key _ (by decide) (by decide)), om_sh_ne (key _ (by decide) (by decide)), om_sh_ne (key _ (by decide) (by decide)), om_sh_ne (key _ (by decide) (by decide)), fx_up_ne (fun q => key _ (by decide) (by decide) q.1), fx_up_ne (fun q => key _ (by decide) (by decide) q.1), fx_up_ne (fun q => key _ (by decide) (by decide) q.1), fx_up_ne (fun q => key _ (by decide) (by decide) q.1)]
theorem take_sz {v u : Nat} : om_take M v ff_Mod_readySize u = if u = v then nI (rn M ff_Mod_readySize v - 1) else M ff_Mod_readySize u := by
  unfold om_take
  try dsimp only
  rw [om_sh_ne (by decide), om_sh_ne (by decide), om_sh_ne (by decide), om_sh_ne (by decide)]
  by_cases c : u = v
  · rw [if_pos c, c, fx_up_same]
  · rw [if_neg c, fx_up_ne (fun q => c q.2), fx_up_ne (fun q => absurd q.1 (by decide)), fx_up_ne (fun q => absurd q.1 (by decide)), fx_up_ne (fun q => absurd q.1 (by decide))]
theorem take_tk {v j : Nat} : om_take M v ff_Mod_taken j = if j = 3 * v then M ff_Mod_readySource (4 * v) else if j = 3 * v + 1 then M ff_Mod_readyLength (4 * v) else if j = 3 * v + 2 then M ff_Mod_readyTry (4 * v) else M ff_Mod_taken j := by
  unfold om_take
  try dsimp only
  rw [om_sh_ne (by decide), om_sh_ne (by decide), om_sh_ne (by decide), om_sh_ne (by decide), fx_up_ne (fun q => absurd q.1 (by decide))]
  by_cases c0 : j = 3 * v
  · rw [if_pos c0, c0, fx_up_ne (fun q => by omega), fx_up_ne (fun q => by omega), fx_up_same]
  · rw [if_neg c0]
    by_cases c1 : j = 3 * v + 1
    · rw [if_pos c1, c1, fx_up_ne (fun q => by omega), fx_up_same]
    · rw [if_neg c1]
      by_cases c2 : j = 3 * v + 2
      · rw [if_pos c2, c2, fx_up_same]
      · rw [if_neg c2, fx_up_ne (fun q => c2 q.2), fx_up_ne (fun q => c1 q.2), fx_up_ne (fun q => c0 q.2)]
/-- the heap behind handOver -/
def cm_ho (s : fx_S) (b : Nat) (Z : Nat → Nat) (n : Nat) : fx_S := fx_sfi (fx_sfi (fx_sfr (fx_sar (fx_sar (fx_sar (fx_sar s (b + 9) 0 (some (Z 1))) (b + 9) 1 (some (Z 2))) (b + 9) 2 (some (Z 3))) (b + 9) 3 (some (Z 4))) ff_Receiver_last (b + 5) (some (Z 0))) ff_Receiver_hasHandedOver (b + 5) (fx_bit true)) ff_Receiver_readyCount (b + 5) (nI (n - 1))
theorem RA.take {v : Nat} (h : RA s x B H C Y P m rt K L M) (hJ : JV M lv) (hv : v < (rn M ff_Mod_all 0)) (hy : 0 < rn M ff_Mod_readySize v) : RA (cm_ho s (B v) (Y v) (rn M ff_Mod_readySize v)) x B H C (yro Y v) P m rt K L (om_take M v) := by
  have h64 := hJ.all64
  have hm64 := h.sk.c.m64
  have hvm : v < m := Nat.lt_of_lt_of_le hv h.nm
  have hy5 := hJ.ri.yNl (v := v) (by omega)
  generalize hT : cm_ho s (B v) (Y v) (rn M ff_Mod_readySize v) = T
  have fA : ∀ f a, f ≠ 513 → f ≠ 515 → fx_fi T f a = fx_fi s f a := by
    intro f a h1 h2
    rw [← hT]
    unfold cm_ho
    rw [fi_ne (fun q => h1 q.1), fi_ne (fun q => h2 q.1)]; rfl
  have fB : ∀ a, fx_fi T ff_Receiver_readyCount a = if a = B v + 5 then nI (rn M ff_Mod_readySize v - 1) else fx_fi s ff_Receiver_readyCount a := by
    intro a
    rw [← hT]
    unfold cm_ho
    by_cases c : a = B v + 5
    · rw [if_pos c, c, fi_same]
    · rw [if_neg c, fi_ne (fun q => c q.2), fi_ne (fun q => absurd q.1 (by decide))]; rfl
  have fC : ∀ a, fx_fi T ff_Receiver_hasHandedOver a = if a = B v + 5 then fx_bit true else fx_fi s ff_Receiver_hasHandedOver a := by
    intro a
    rw [← hT]
    unfold cm_ho
    rw [fi_ne (fun q => absurd q.1 (by decide))]
    by_cases c : a = B v + 5
    · rw [if_pos c, c, fi_same]
    · rw [if_neg c, fi_ne (fun q => c q.2)]; rfl
  have fD : ∀ a, fx_fr T ff_Receiver_last a = if a = B v + 5 then some (Y v 0) else fx_fr s ff_Receiver_last a := by
    intro a
    rw [← hT]
    show fx_fr (fx_sfr (fx_sar (fx_sar (fx_sar (fx_sar s (B v + 9) 0 (some (Y v 1))) (B v + 9) 1 (some (Y v 2))) (B v + 9) 2 (some (Y v 3))) (B v + 9) 3 (some (Y v 4))) ff_Receiver_last (B v + 5) (some (Y v 0))) ff_Receiver_last a = _
    by_cases c : a = B v + 5
    · rw [if_pos c, c, fr_same]
    · rw [if_neg c, fr_ne (fun q => c q.2)]; rfl
  have fE : ∀ f a, f ≠ 514 → fx_fr T f a = fx_fr s f a := by
    intro f a h1
    rw [← hT]
    show fx_fr (fx_sfr (fx_sar (fx_sar (fx_sar (fx_sar s (B v + 9) 0 (some (Y v 1))) (B v + 9) 1 (some (Y v 2))) (B v + 9) 2 (some (Y v 3))) (B v + 9) 3 (some (Y v 4))) ff_Receiver_last (B v + 5) (some (Y v 0))) f a = _
    rw [fr_ne (fun q => h1 q.1)]; rfl
  have fF : ∀ a, a ≠ B v + 9 → fx_ar T a = fx_ar s a := by
    intro a ha
    rw [← hT]
    funext j
    show fx_ar (fx_sar (fx_sar (fx_sar (fx_sar s (B v + 9) 0 (some (Y v 1))) (B v + 9) 1 (some (Y v 2))) (B v + 9) 2 (some (Y v 3))) (B v + 9) 3 (some (Y v 4))) a j = _
    rw [ar_ne (fun q => ha q.1), ar_ne (fun q => ha q.1), ar_ne (fun q => ha q.1), ar_ne (fun q => ha q.1)]
  have fG : ∀ j, j < 4 → fx_ar T (B v + 9) j = some (yro Y v v j) := by
    intro j hj
    rw [← hT]
    show fx_ar (fx_sar (fx_sar (fx_sar (fx_sar s (B v + 9) 0 (some (Y v 1))) (B v + 9) 1 (some (Y v 2))) (B v + 9) 2 (some (Y v 3))) (B v + 9) 3 (some (Y v 4))) (B v + 9) j = _
    rw [yro_v]
    obtain rfl | rfl | rfl | rfl : j = 0 ∨ j = 1 ∨ j = 2 ∨ j = 3 := by omega
    · rw [ar_ne (fun q => by omega), ar_ne (fun q => by omega), ar_ne (fun q => by omega), ar_same, if_pos (by omega)]
    · rw [ar_ne (fun q => by omega), ar_ne (fun q => by omega), ar_same, if_pos (by omega)]
    · rw [ar_ne (fun q => by omega), ar_same, if_pos (by omega)]
    · rw [ar_same, if_neg (by omega), if_pos rfl]
  have eT : T = fx_stk s (fx_fi T) (fx_fr T) (fx_ar T) := stk_eq (by rw [← hT]; rfl) fA (fun f b hf => fE f b hf) (by rw [← hT]; rfl) (by rw [← hT]; rfl) (by rw [← hT]; rfl)
  have eM : om_take M v = om_mrv M (om_take M v) := mrv_eq (fun g i h1 h2 => take_o (by omega))
  have tw : ∀ i, om_take M v ff_Mod_whose i = M ff_Mod_whose i := fun i => take_o (by decide)
  have tt : ∀ i, om_take M v ff_Mod_whichTry i = M ff_Mod_whichTry i := fun i => take_o (by decide)
  have th : ∀ i, om_take M v ff_Mod_has i = M ff_Mod_has i := fun i => take_o (by decide)
  have ts := fun g (hg : g = ff_Mod_readyTag ∨ g = ff_Mod_readySource ∨ g = ff_Mod_readyLength ∨ g = ff_Mod_readyTry) j => take_sh (M := M) (v := v) (j := j) g hg
  have tz := fun u => take_sz (M := M) (v := v) (u := u)
  have tk := fun j => take_tk (M := M) (v := v) (j := j)
  clear hT
  generalize om_take M v = N at *
  have hyN : ∀ u, rn N ff_Mod_readySize u = if u = v then rn M ff_Mod_readySize v - 1 else rn M ff_Mod_readySize u := by
    intro u
    by_cases c : u = v
    · rw [if_pos c]; exact rn_of (by rw [tz, if_pos c]) (by omega)
    · rw [if_neg c]; exact rn_eq (by rw [tz, if_neg c])
  have rv : RV T B (yro Y v) P m N := by
    intro u hu
    obtain ⟨a1, a2, a3, a4, a5, a6, a7, a8, a9, a10, a11, a12, hh, b1, b2, b3⟩ := h.v u hu
    have y5u := hJ.ri.yNl (v := u) (by omega)
    by_cases c : u = v
    · subst c
      have yl : ∀ i, i < rn M ff_Mod_readySize u - 1 → yro Y u u i = Y u (i + 1) := fun i hi => by rw [yro_v, if_pos (by omega)]
      have y4 : yro Y u u 4 = Y u 0 := by rw [yro_v, if_neg (by omega), if_neg (by omega)]
      have sh : ∀ g (hg : g = ff_Mod_readyTag ∨ g = ff_Mod_readySource ∨ g = ff_Mod_readyLength ∨ g = ff_Mod_readyTry) i, i < rn M ff_Mod_readySize u - 1 → N g (4 * u + i) = M g (4 * u + (i + 1)) := fun g hg i hi => by rw [ts g hg, if_pos (by omega), Nat.add_assoc]
      refine ⟨?_, fun j hj => ?_, fun j hj hne => ?_, fun j hj hne => ?_, fun j hj => ?_, ?_, fun i j hi hj e => ?_, fun i hi => ?_, fun i hi => ?_, fun i hi => ?_, fun i hi => ?_, fun i hi => ?_, true, ?_, fun q => (by cases q), fun _ => ?_⟩
      · rw [fB, if_pos rfl, tz, if_pos rfl]
      · rw [fE _ _ (by decide), tw]; exact a2 j hj
      · rw [tw] at hne; rw [fA _ _ (by decide) (by decide), tt]; exact a3 j hj hne
      · rw [tw] at hne; rw [fA _ _ (by decide) (by decide), rn_eq (th _)]; exact a4 j hj hne
      · exact fG j hj
      · rw [fD, if_pos rfl, y4]
      · rw [yro_v, yro_v] at e
        have key : ∀ k, k < 5 → (if k < 3 then Y u (k + 1) else if k = 3 then Y u 4 else Y u 0) = Y u (if k < 3 then k + 1 else if k = 3 then 4 else 0) := fun k hk => by
          by_cases d : k < 3
          · rw [if_pos d, if_pos d]
          · rw [if_neg d, if_neg d]
            by_cases d2 : k = 3
            · rw [if_pos d2, if_pos d2]
            · rw [if_neg d2, if_neg d2]
        rw [key i hi, key j hj] at e
        have e2 := a7 _ _ (by split <;> (try split) <;> omega) (by split <;> (try split) <;> omega) e
        split at e2 <;> split at e2 <;> (try split at e2) <;> (try split at e2) <;> omega
      · rw [yro_v]
        split
        · exact a8 _ (by omega)
        · split
          · exact a8 _ (by omega)
          · exact a8 _ (by omega)
      · rw [hyN, if_pos rfl] at hi
        rw [yl i hi, fA _ _ (by decide) (by decide), sh _ (by simp) i hi]; exact a9 (i + 1) (by omega)
      · rw [hyN, if_pos rfl] at hi
        rw [yl i hi, fA _ _ (by decide) (by decide), sh _ (by simp) i hi]; exact a10 (i + 1) (by omega)
      · rw [hyN, if_pos rfl] at hi
        rw [yl i hi, fA _ _ (by decide) (by decide), sh _ (by simp) i hi]; exact a11 (i + 1) (by omega)
      · rw [hyN, if_pos rfl] at hi
        rw [yl i hi, fA _ _ (by decide) (by decide), sh _ (by simp) i hi]; exact a12 (i + 1) (by omega)
      · rw [fC, if_pos rfl]
      · have q1 := a9 0 hy
        have q2 := a10 0 hy
        have q3 := a11 0 hy
        rw [Nat.add_zero] at q1 q2 q3
        rw [y4, fA _ _ (by decide) (by decide), fA _ _ (by decide) (by decide), fA _ _ (by decide) (by decide), tk, if_pos rfl, tk, if_neg (by omega), if_pos rfl, tk, if_neg (by omega), if_neg (by omega), if_pos rfl]
        exact ⟨q1, q2, q3⟩
    · have yo : ∀ i, yro Y v u i = Y u i := fun i => yro_o c
      have n5 : B u + 5 ≠ B v + 5 := fun e => c (h.sk.ap hu hvm (by omega) (by omega) e).1
      have n9 : B u + 9 ≠ B v + 9 := fun e => c (h.sk.ap hu hvm (by omega) (by omega) e).1
      have e4 : yro Y v u = Y u := funext yo
      have sh : ∀ g (hg : g = ff_Mod_readyTag ∨ g = ff_Mod_readySource ∨ g = ff_Mod_readyLength ∨ g = ff_Mod_readyTry) i, i < rn M ff_Mod_readySize u → N g (4 * u + i) = M g (4 * u + i) := fun g hg i hi => by rw [ts g hg, if_neg (by omega)]
      have nt : ∀ j, j < 3 → N ff_Mod_taken (3 * u + j) = M ff_Mod_taken (3 * u + j) := fun j hj => by rw [tk, if_neg (by omega), if_neg (by omega), if_neg (by omega)]
      rw [e4]
      refine ⟨?_, fun j hj => ?_, fun j hj hne => ?_, fun j hj hne => ?_, fun j hj => ?_, ?_, a7, a8, fun i hi => ?_, fun i hi => ?_, fun i hi => ?_, fun i hi => ?_, hh, ?_, fun q j hj => ?_, fun q => ?_⟩
      · rw [fB, if_neg n5, tz, if_neg c]; exact a1
      · rw [fE _ _ (by decide), tw]; exact a2 j hj
      · rw [tw] at hne; rw [fA _ _ (by decide) (by decide), tt]; exact a3 j hj hne
      · rw [tw] at hne; rw [fA _ _ (by decide) (by decide), rn_eq (th _)]; exact a4 j hj hne
      · rw [fF _ n9]; exact a5 j hj
      · rw [fD, if_neg n5]; exact a6
      · rw [hyN, if_neg c] at hi
        rw [fA _ _ (by decide) (by decide), sh _ (by simp) i hi]; exact a9 i hi
      · rw [hyN, if_neg c] at hi
        rw [fA _ _ (by decide) (by decide), sh _ (by simp) i hi]; exact a10 i hi
      · rw [hyN, if_neg c] at hi
        rw [fA _ _ (by decide) (by decide), sh _ (by simp) i hi]; exact a11 i hi
      · rw [hyN, if_neg c] at hi
        rw [fA _ _ (by decide) (by decide), sh _ (by simp) i hi]; exact a12 i hi
      · rw [fC, if_neg n5]; exact b1
      · rw [nt j hj]; exact b2 q j hj
      · have := nt 0 (by omega)
        rw [Nat.add_zero] at this
        rw [fA _ _ (by decide) (by decide), fA _ _ (by decide) (by decide), fA _ _ (by decide) (by decide), this, nt 1 (by omega), nt 2 (by omega)]; exact b3 q
  rw [eT] at rv ⊢
  rw [eM] at rv ⊢
  exact h.ho hJ hvm fF rv
end
