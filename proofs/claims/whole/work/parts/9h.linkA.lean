/-! LINKS: what stays joined -/
section
variable {cl : Nat → Bool} {n N a b : Nat}
theorem lst_of : ∀ (k c : Nat), WK cl n a k c → ∃ d, LST cl n a c d := by
  intro k
  induction k using Nat.strongRecOn with
  | _ k ih =>
    intro c h
    by_cases q : ∃ j, j < k ∧ WK cl n a j c
    · obtain ⟨j, j1, j2⟩ := q
      exact ih j j1 c j2
    · exact ⟨k, h, fun j hj => by
        by_cases e : j < k
        · exact absurd ⟨j, e, hj⟩ q
        · omega⟩
theorem wk_path : ∀ (d c : Nat), WK cl n a d c → ∃ φ : Nat → Nat, ∀ i, i ≤ d → WK cl n a i (φ i) ∧ WK cl n (φ i) (d - i) c
  | 0, c, h => ⟨fun _ => c, fun i hi => by
    obtain rfl : i = 0 := by omega
    exact ⟨h, rfl⟩⟩
  | d + 1, c, h => by
    obtain ⟨e, w, h1, h2, h3, h4⟩ := h
    obtain ⟨φ, hφ⟩ := wk_path d e h1
    refine ⟨fun i => if i ≤ d then φ i else c, fun i hi => ?_⟩
    dsimp only
    by_cases q : i ≤ d
    · rw [if_pos q]
      obtain ⟨g1, g2⟩ := hφ i q
      refine ⟨g1, ?_⟩
      rw [show d + 1 - i = (d - i) + 1 by omega]
      exact ⟨e, w, g2, h2, h3, h4⟩
    · rw [if_neg q, show i = d + 1 by omega, Nat.sub_self]
      exact ⟨⟨e, w, h1, h2, h3, h4⟩, rfl⟩
theorem lst_lt {d c : Nat} (hn : 0 < n) (hN : N = n * n) (ha : a < N) (h : LST cl n a c d) : d < N := by
  obtain ⟨φ, hφ⟩ := wk_path d c h.1
  have := pigeon (N := d + 1) (K := N) φ (fun i hi => WK_lt hn hN ha i _ (hφ i (by omega)).1) (fun i j hi hj e => by
    have key : ∀ i j, i ≤ d → j ≤ d → φ i = φ j → i ≤ j := by
      intro i j hi hj e
      have h1 := (hφ j hj).1
      rw [← e] at h1
      have := h.2 _ (WK_app h1 (hφ i hi).2)
      omega
    have a1 := key i j (by omega) (by omega) e
    have a2 := key j i (by omega) (by omega) e.symm
    omega)
  omega
/-- both ends of a link -/
def lk2 (cl : Nat → Bool) (n a b : Nat) (q : Bool) : Nat → Bool := fn_up (fn_up cl (4 * a + b) q) (4 * nb n a b + wb b) q
theorem lk2_eq {q : Bool} {i : Nat} : lk2 cl n a b q i = if i = 4 * a + b ∨ i = 4 * nb n a b + wb b then q else cl i := by
  unfold lk2
  by_cases c : i = 4 * nb n a b + wb b
  · rw [if_pos (Or.inr c), c, fn_same]
  · rw [fn_ne c]
    by_cases d : i = 4 * a + b
    · rw [if_pos (Or.inl d), d, fn_same]
    · rw [if_neg (fun w => by rcases w with w | w; exact d w; exact c w), fn_ne d]
theorem lk_end {v w : Nat} (hn2 : 2 ≤ n) (hn9 : n < 9) (hN : N = n * n) (ha : a < N) (hb : b < 4) (hv : v < N) (hw : w < 4) : (4 * nb n v w + wb w = 4 * nb n a b + wb b ↔ 4 * v + w = 4 * a + b) ∧ (4 * nb n v w + wb w = 4 * a + b ↔ 4 * v + w = 4 * nb n a b + wb b) := by
  have w1 := wb_lt hw
  have w2 := wb_lt hb
  have e1 := nb_back hn2 (n := n) (v := v) (w := w) (hn := hn9) (by rw [← hN]; exact hv) hw
  have e2 := nb_back hn2 (n := n) (v := a) (w := b) (hn := hn9) (by rw [← hN]; exact ha) hb
  have e3 := wb_wb w hw
  have e4 := wb_wb b hb
  refine ⟨⟨fun h => ?_, fun h => ?_⟩, ⟨fun h => ?_, fun h => ?_⟩⟩
  · have q1 : nb n v w = nb n a b := by omega
    have q2 : wb w = wb b := by omega
    rw [q1, q2, e2] at e1
    rw [q2, e4] at e3
    omega
  · have q1 : v = a := by omega
    have q2 : w = b := by omega
    rw [q1, q2]
  · have q1 : nb n v w = a := by omega
    have q2 : wb w = b := by omega
    rw [q1, q2] at e1
    rw [q2] at e3
    omega
  · have q1 : v = nb n a b := by omega
    have q2 : w = wb b := by omega
    rw [q1, q2, e2, e4]
theorem lk_cs {q : Bool} (hn2 : 2 ≤ n) (hn9 : n < 9) (hN : N = n * n) (hc : CS cl n N) (ha : a < N) (hb : b < 4) : CS (lk2 cl n a b q) n N := by
  intro v w hv hw
  obtain ⟨e1, e2⟩ := lk_end hn2 hn9 hN ha hb hv hw
  rw [lk2_eq, lk2_eq]
  by_cases c : 4 * v + w = 4 * a + b ∨ 4 * v + w = 4 * nb n a b + wb b
  · rw [if_pos c, if_pos (by
      rcases c with c | c
      · exact Or.inr (e1.mpr c)
      · exact Or.inl (e2.mpr c))]
  · rw [if_neg c, if_neg (fun w => by
      rcases w with w | w
      · exact c (Or.inr (e2.mp w))
      · exact c (Or.inl (e1.mp w)))]
    exact hc v w hv hw
theorem wk_mono {cl' : Nat → Bool} (h : ∀ i, cl i = false → cl' i = false) : ∀ (k c : Nat), WK cl n a k c → WK cl' n a k c
  | 0, c, g => g
  | k + 1, c, g => by
    obtain ⟨e, w, h1, h2, h3, h4⟩ := g
    exact ⟨e, w, wk_mono h k e h1, h2, h _ h3, h4⟩
theorem co_close (hn2 : 2 ≤ n) (hn9 : n < 9) (hN : N = n * n) (hc : CS cl n N) (ha : a < N) (hb : b < 4) (hC : CO cl n N) {k : Nat} (hw : WK (lk2 cl n a b true) n (nb n a b) k a) : CO (lk2 cl n a b true) n N := by
  have hnb : nb n a b < N := by rw [hN]; exact nb_lt (by omega) (by rw [← hN]; exact ha)
  have hw' := WK_sym hn2 hn9 hN (lk_cs (q := true) hn2 hn9 hN hc ha hb) hnb hw
  have key : ∀ u j c, u < N → WK cl n u j c → ∃ i, WK (lk2 cl n a b true) n u i c := by
    intro u j
    induction j with
    | zero => intro c hu h; exact ⟨0, h⟩
    | succ j ih =>
      intro c hu h
      obtain ⟨e, w, h1, h2, h3, h4⟩ := h
      obtain ⟨i, hi⟩ := ih e hu h1
      have he := WK_lt (by omega) hN hu j e h1
      by_cases q : 4 * e + w = 4 * a + b
      · have q1 : e = a := by omega
        have q2 : w = b := by omega
        subst q1; subst q2
        rw [← h4]
        exact ⟨_, WK_app hi hw'⟩
      · by_cases r : 4 * e + w = 4 * nb n a b + wb b
        · have w2 := wb_lt hb
          have q1 : e = nb n a b := by omega
          have q2 : w = wb b := by omega
          have hca : c = a := by
            rw [← h4, q1, q2]
            exact nb_back hn9 hn2 (by rw [← hN]; exact ha) hb
          rw [hca]
          rw [q1] at hi
          exact ⟨_, WK_app hi hw⟩
        · exact ⟨i + 1, e, w, hi, h2, by rw [lk2_eq, if_neg (fun z => by rcases z with z | z; exact q z; exact r z)]; exact h3, h4⟩
  intro u v hu hv
  obtain ⟨j, hj⟩ := hC u v hu hv
  exact key u j v hu hj
theorem lk_back (h1 : cl (4 * a + b) = false) (h2 : cl (4 * nb n a b + wb b) = false) : lk2 (lk2 cl n a b true) n a b false = cl := by
  funext i
  rw [lk2_eq]
  by_cases c : i = 4 * a + b ∨ i = 4 * nb n a b + wb b
  · rw [if_pos c]
    rcases c with c | c
    · rw [c, h1]
    · rw [c, h2]
  · rw [if_neg c, lk2_eq, if_neg c]
/-- the open ways of both ends -/
theorem lk_ow {v w : Nat} (hw : w < 4) (h : cl (4 * v + w) = false) {cl' : Nat → Bool} (h' : cl' (4 * v + w) = true) (ho : ∀ j, j < 4 → j ≠ w → cl' (4 * v + j) = cl (4 * v + j)) : fx_ow cl' v 4 + 1 = fx_ow cl v 4 := by
  unfold fx_ow fx_ow fx_ow fx_ow fx_ow
  obtain rfl | rfl | rfl | rfl : w = 0 ∨ w = 1 ∨ w = 2 ∨ w = 3 := by omega
  · rw [h, h', ho 1 (by omega) (by omega), ho 2 (by omega) (by omega), ho 3 (by omega) (by omega), cond_true, cond_false]; omega
  · rw [h, h', ho 0 (by omega) (by omega), ho 2 (by omega) (by omega), ho 3 (by omega) (by omega), cond_true, cond_false]; omega
  · rw [h, h', ho 0 (by omega) (by omega), ho 1 (by omega) (by omega), ho 3 (by omega) (by omega), cond_true, cond_false]; omega
  · rw [h, h', ho 0 (by omega) (by omega), ho 1 (by omega) (by omega), ho 2 (by omega) (by omega), cond_true, cond_false]
end
section
variable {M M2 : rf_M} {lv : Nat → Prop}
theorem cl_rz {a b i : Nat} {q : Bool} : rz (om_cl M a b q) ff_Mod_closed i = lk2 (rz M ff_Mod_closed) (rn M ff_Mod_n 0) a b q i := by
  rw [lk2_eq]
  unfold om_cl
  by_cases c : i = 4 * nb (rn M ff_Mod_n 0) a b + wb b
  · rw [if_pos (Or.inr c), c, rz_same]
  · rw [rz_ne (fun w => c w.2)]
    by_cases d : i = 4 * a + b
    · rw [if_pos (Or.inl d), d, rz_same]
    · rw [rz_ne (fun w => d w.2), if_neg (fun w => by rcases w with w | w; exact d w; exact c w)]
theorem MS.jn {X : rf_M} {M' : rf_M} {j : Bool} (h : MS X M' j) (hc : CS (rz X ff_Mod_closed) (rn X ff_Mod_n 0) ((rn X ff_Mod_all 0))) (hj : j = true) : JN M' := by
  obtain ⟨m1, m2, m3, m4, m5, m6⟩ := h
  have e1 : rz M' ff_Mod_closed = rz X ff_Mod_closed := funext (fun i => sx_rz m1 (by decide) (by decide))
  have e2 : rn M' ff_Mod_n 0 = rn X ff_Mod_n 0 := sx_rn m1 (by decide) (by decide)
  have e3 : (rn M' ff_Mod_all 0) = (rn X ff_Mod_all 0) := sx_rn m1 (by decide) (by decide)
  unfold JN
  rw [e1, e2, e3]
  exact ⟨hc, m3, m4.mp hj, m5, m6⟩
/-- all nodes stay joined where the walks are there -/
theorem MS.joined {X : rf_M} {M' : rf_M} {j : Bool} (h : MS X M' j) (hn2 : 2 ≤ rn X ff_Mod_n 0) (hn9 : rn X ff_Mod_n 0 < 9) (hN : (rn X ff_Mod_all 0) = rn X ff_Mod_n 0 * rn X ff_Mod_n 0) (hC : CO (rz X ff_Mod_closed) (rn X ff_Mod_n 0) ((rn X ff_Mod_all 0))) : j = true := by
  refine h.2.2.2.1.mpr (fun a b ha hb => ?_)
  obtain ⟨k, hk⟩ := hC a b ha hb
  obtain ⟨d, hd⟩ := lst_of k b hk
  have h64 : (rn X ff_Mod_all 0) ≤ 64 := by
    rw [hN]
    have : rn X ff_Mod_n 0 * rn X ff_Mod_n 0 ≤ 8 * 8 := Nat.mul_le_mul (by omega) (by omega)
    omega
  have h1 := lst_lt (by omega) hN ha hd
  have h2 := (h.2.2.1 a ha b hb).2.2 d hd.1
  omega
/-- nothing is under way -/
theorem sq_eq (h : JV M (fun k => k < (rn M ff_Mod_notes 0))) : sq M ((rn M ff_Mod_all 0)) = (spks M ((rn M ff_Mod_all 0)) == 0) := by
  have key : ∀ N, sq M N = (((rn M ff_Mod_notes 0) == 0) && ((rn M ff_Mod_flits 0) == 0) && (spks M N == 0)) := by
    intro N
    induction N with
    | zero =>
      unfold sq spks sp_sum
      simp
    | succ N ih =>
      have e : spks M (N + 1) = spks M N + (rn M ff_Mod_waits N + suse M N) := rfl
      unfold sq
      rw [ih, e]
      have e2 : sp_cnt (fun j => decide (0 < rn M ff_Mod_lengths (8 * N + j))) 8 = suse M N := rfl
      rw [e2, Bool.eq_iff_iff]
      simp only [Bool.and_eq_true, beq_iff_eq]
      omega
  rw [key]
  by_cases c : spks M ((rn M ff_Mod_all 0)) = 0
  · have hs : ∀ N, spks M N = 0 → ∀ v, v < N → suse M v = 0 := by
      intro N
      induction N with
      | zero => intro _ v hv; omega
      | succ N ih =>
        intro h0 v hv
        have e : spks M (N + 1) = spks M N + (rn M ff_Mod_waits N + suse M N) := rfl
        by_cases d : v = N
        · rw [d]; omega
        · exact ih (by omega) v (by omega)
    have dead : ∀ p, p < 512 → ¬ 0 < rn M ff_Mod_lengths p := by
      intro p hp lp
      obtain ⟨-, -, -, -, q5⟩ := h.j6 p hp lp
      have z := hs _ c (p / 8) q5
      have := (sp_cnt_zero _).mp z (p % 8) (by omega)
      rw [show 8 * (p / 8) + p % 8 = p by omega] at this
      simp at this
      omega
    have f0 : (rn M ff_Mod_flits 0) = 0 := by
      rcases Nat.eq_zero_or_pos ((rn M ff_Mod_flits 0)) with q | q
      · exact q
      · exact absurd (h.j2 0 q).1 (dead _ (h.j2 0 q).2.2.1)
    have n0 : (rn M ff_Mod_notes 0) = 0 := by
      rcases Nat.eq_zero_or_pos ((rn M ff_Mod_notes 0)) with q | q
      · exact q
      · exact absurd (h.j10 0 q).2.1 (dead _ (h.nSl (k := 0) q))
    rw [f0, n0, c]
    rfl
  · have : (spks M ((rn M ff_Mod_all 0)) == 0) = false := beq_eq_false_iff_ne.mpr c
    rw [this, Bool.and_false]
/-- other links, other steps -/
def om_mlk (M N : rf_M) : rf_M := fun g i => if Nat.beq g 768 || (Nat.ble 775 g && Nat.blt g 778) then N g i else M g i
theorem mlk_eq {N : rf_M} (h : ∀ g i, g ≠ 768 → g ≠ 775 → g ≠ 776 → g ≠ 777 → N g i = M g i) : N = om_mlk M N := by
  funext g i
  unfold om_mlk
  by_cases c : (Nat.beq g 768 || (Nat.ble 775 g && Nat.blt g 778)) = true
  · rw [if_pos c]
  · rw [if_neg c]
    simp only [Bool.or_eq_true, Nat.beq_eq, Bool.and_eq_true, Nat.ble_eq, Nat.blt_eq] at c
    exact h g i (by omega) (by omega) (by omega) (by omega)
theorem JI.mlk {N : rf_M} (h : JI M) (hI : RI (om_mlk M N)) (h5 : J5 (om_mlk M N)) (h14 : J14 (om_mlk M N)) : JI (om_mlk M N) := ⟨⟨hI, h.1.net, h.1.j2, h.1.j3, h.1.j4, h5, h.1.j6, h.1.j7, h.1.j8, h.1.j8u, h.1.j9, h.1.j9u, h.1.j10, h.1.j10u, h.1.j11, h.1.j11u, h.1.j13, h14⟩, h.2⟩
theorem JC.mlk {N : rf_M} {c : Nat} (h : JC M c) : JC (om_mlk M N) (c + 1) := ⟨Nat.le_succ_of_le h.1, fun v hv => Nat.le_succ_of_le (h.2.1 v hv), fun v hv => Nat.le_trans (h.2.2.1 v hv) (by omega), Nat.le_trans h.2.2.2.1 (by omega), Nat.le_trans h.2.2.2.2.1 (by omega), Nat.le_trans h.2.2.2.2.2 (by omega)⟩
end
section
variable {s t : fx_S} {Q : fx_Q} {x m a : Nat} {B H P : Nat → Nat} {C : Nat → Nat → Option Nat} {Y : Nat → Nat → Nat} {rt : Nat → List Nat} {K : Nat → Prop} {L : List Nat} {M N M6 : rf_M} {lv : Nat → Prop}
theorem RA.mlk (h : RA s x B H C Y P m rt K L M) (hg : GF x s t) (h1 : RGa t x (rz (om_mlk M N) ff_Mod_closed) (rn M ff_Mod_n 0) ((rn M ff_Mod_all 0))) (h2 : RGb t x (rz (om_mlk M N) ff_Mod_closed) (rn M ff_Mod_n 0) ((rn M ff_Mod_all 0))) : RA t x B H C Y P m rt K L (om_mlk M N) := by
  have e := hg.eq
  generalize fx_fi t = gi at e
  generalize fx_ai t = ai at e
  subst e
  exact ⟨h.sk, h.t, ⟨h1, h2⟩, h.s, h.p, h.w, h.r, h.x, h.m, h.o, h.k, h.f, h.v, h.nm⟩
end
