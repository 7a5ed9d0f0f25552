section
variable {s t u : fx_S} {Q : fx_Q} {x o m c b L w n0 l0 : Nat} {xs : Nat → Int32} {A : Nat → Nat} {M M' : rf_M}
theorem nI_same {p q : Nat} (hp : p < 2 ^ 31) (hq : q < 2 ^ 31) (e : nI p = nI q) : q = p := by
  have := congrArg Int32.toNatClampNeg e
  rw [nI_clamp hp, nI_clamp hq] at this
  exact this.symm
theorem sput_th {k : Nat} {v g l : Int32} : sput (om_th M k) v g l = sput M v g l := by
  unfold sput om_th
  rw [rn_pe (by decide), rn_pe (by decide)]
theorem stno_th {k : Nat} {v : Int32} : st_no (om_th M k) v = st_no M v := by
  unfold st_no om_th
  rw [rn_pe (by decide), rn_pe (by decide)]
theorem ws_put {v g l y : Int32} (h : WS n0 l0 x o A b L w xs c s) : W2 n0 l0 x o A b L w xs c mm_Torus_put mm_Mod_put [vI v, vI g, vI l, vI y] s := by
  have hr := h.room
  obtain ⟨B, H, Y, P, m, rt, K, M, h1, h2, h3, h4, h5, h6, h7, h8⟩ := h
  have m64 := h1.sk.c.m64
  have hL : ∀ k, k ∈ List.range ((rn (om_th M 0) ff_Mod_notes 0)) → k < (rn (om_th M 0) ff_Mod_notes 0) := fun k hk => List.mem_range.mp hk
  refine k_put (h1.th (k := 0)) (h3.th (k := 0)).1 hL (fun hs => ?_) (fun hs t rt' K' g2 ha e1 e2 => ?_)
  · rw [sput_th] at hs
    refine ⟨hr, h6, _, rfl, q_put h2 h3.1.ri (fun _ u hu hf => ⟨rfl, WS.next h6 (CF.rf x s) (h1.th (k := 0)) hf hu h3.th h4.th h5.th (by omega) (by omega)⟩) (fun q => ?_)⟩
    rw [q] at hs; cases hs
  · rw [sput_th] at hs
    refine ⟨⟨by omega, by omega⟩, h6.cf g2, _, rfl, q_put (h2.cf h6 g2) h3.1.ri (fun q => ?_) (fun _ u hu hf => ⟨rfl, ?_⟩)⟩
    · rw [q] at hs; cases hs
    · have eN : (rn (om_put (om_th M 0) v.toNatClampNeg g l y) ff_Mod_notes 0) = (rn (om_th M 0) ff_Mod_notes 0) := rn_eq (put_o (by decide))
      rw [← eN] at ha
      have e5 : JC (om_th M 0) c := by
        obtain ⟨a1, a2, a3, a4, a5, a6⟩ := h5
        exact ⟨a1, a2, a3, a4, a5, a6⟩
      obtain ⟨p1, p2, p3⟩ := put_ok (t := y) (h3.th (k := 0)) (h4.th (k := 0)) e5 (by rw [sput_th]; exact hs)
      exact WS.next h6 g2 ha hf hu p1 p2 p3 (by omega) (by omega)
theorem ws_reset {v g l : Int32} (h : WS n0 l0 x o A b L w xs c s) : W2 n0 l0 x o A b L w xs c mm_Torus_reset mm_Mod_reset [vI v, vI g, vI l] s := by
  have hr := h.room
  obtain ⟨B, H, Y, P, m, rt, K, M, h1, h2, h3, h4, h5, h6, h7, h8⟩ := h
  refine k_reset h1.ep (fun hs => ?_) (fun a d e ea ed ee ha1 ha2 hd he1 he2 hs t B' H' Y' m' rt' hE hm hm2 hz g en el => ?_)
  · refine ⟨hr, h6, _, rfl, q_reset h2 h3.1.ri (fun _ u hu hf => ⟨rfl, WS.next h6 (CF.rf x s) (h1.th (k := 0)) hf hu h3.th h4.th h5.th (by omega) (by omega)⟩) (fun _ _ _ _ _ _ _ _ _ _ _ q => ?_)⟩
    rw [q] at hs; cases hs
  · have m64 := hE.1.c.m64
    refine ⟨⟨by omega, by omega⟩, h6.cf g, _, rfl, q_reset (h2.cf h6 g) h3.1.ri (fun q => ?_) (fun a' d' e' ea' ed' ee' ha1' ha2' hd' he1' he2' _ M' j hM u hu hf => ⟨rfl, ?_⟩)⟩
    · rw [q] at hs; cases hs
    · have q1 := nI_same (by omega) (by omega) (ea.symm.trans ea')
      have q2 := nI_same (by omega) (by omega) (ed.symm.trans ed')
      have q3 := nI_same (by omega) (by omega) (ee.symm.trans ee')
      subst q1
      subst q2
      subst q3
      obtain ⟨z, j1, j2, j3⟩ := rst_ok hM ha1' ha2'
      have ha := RZ.ra (P := P) hE hz z ha2 hm
      have eN : (rn M' ff_Mod_notes 0) = 0 := rn_of z.2.2.2.2.2.2.2.2.2.2.1 (by omega)
      have eL : List.range ((rn M' ff_Mod_notes 0)) = [] := by rw [eN]; rfl
      rw [← eL] at ha
      exact WS.next h6 g ha hf hu j1 j2 (j3 _) (by omega) (by omega)
theorem mlk_o {N : rf_M} {f i : Nat} (h : (Nat.beq f 768 || (Nat.ble 775 f && Nat.blt f 778)) = false) : om_mlk M N f i = M f i := by
  unfold om_mlk
  rw [h]; rfl
theorem ws_link {v g : Int32} {p : Bool} (h : WS n0 l0 x o A b L w xs c s) : W2 n0 l0 x o A b L w xs c mm_Torus_link mm_Mod_link [vI v, vI g, vI (fx_bit p)] s := by
  have hr := h.room
  obtain ⟨B, H, Y, P, m, rt, K, M, h1, h2, h3, h4, h5, h6, h7, h8⟩ := h
  have h64 := h3.1.all64
  have nx : ∀ {t}, GF x s t → fx_nx t = fx_nx s := fun q => q.2.2.2.2.2.1
  have sl : ∀ {t}, GF x s t → fx_sl t = fx_sl s := fun q => q.2.2.2.2.2.2.1
  have go : ∀ {t u} {N : rf_M}, GF x s t → RGa t x (rz N ff_Mod_closed) (rn M ff_Mod_n 0) ((rn M ff_Mod_all 0)) → RGb t x (rz N ff_Mod_closed) (rn M ff_Mod_n 0) ((rn M ff_Mod_all 0)) → rf_ok u o A N → rf_fr o A t u → JI N → JN N → N = om_mlk M N → WS n0 l0 x o A b L w xs (c + 1) u := by
    intro t u N gf ga gb hu hf j1 j2 e
    have e1 := nx gf
    have e2 := sl gf
    have ez : rz (om_mlk M N) ff_Mod_closed = rz N ff_Mod_closed := by rw [← e]
    have ha := h1.mlk (N := N) gf (by rw [ez]; exact ga) (by rw [ez]; exact gb)
    have eN : (rn N ff_Mod_notes 0) = (rn M ff_Mod_notes 0) := by
      rw [e]
      exact rn_eq (mlk_o rfl)
    have jc := h5.mlk (N := N)
    rw [← e] at ha jc
    rw [← eN] at ha
    exact WS.next h6 ((CF.rf x s).gf gf) ha hf hu j1 j2 jc (by omega) (by omega)
  refine k_link h1 h3 h4 (fun hs => ?_) (fun a d ea ed ha hd hs hk t gf ga gb => ?_) (fun a d ea ed ha hd hs hk t gf ga gb => ?_)
  · refine ⟨hr, h6, _, rfl, q_link h2 h3.1.ri h3.1.net (fun _ u hu hf => ⟨rfl, WS.next h6 (CF.rf x s) (h1.th (k := 0)) hf hu h3.th h4.th h5.th (by omega) (by omega)⟩) (fun _ _ _ _ _ _ q => ?_) (fun _ _ _ _ _ _ q => ?_)⟩
    · rw [q] at hs; cases hs
    · rw [q] at hs; cases hs
  · have g := (CF.rf x s).gf gf
    refine ⟨ro_eq hr (nx gf) (sl gf), h6.cf g, _, rfl, q_link (h2.cf h6 g) h3.1.ri h3.1.net (fun q => ?_) (fun a' d' ea' ed' ha' hd' _ M2 j hM hy u hu hf => ⟨rfl, ?_⟩) (fun a' d' ea' ed' ha' hd' _ M2 j hM hy => ?_)⟩
    · rw [q] at hs; cases hs
    · have q1 := nI_same (by omega) (by omega) (ea.symm.trans ea')
      have q2 := nI_same (by omega) (by omega) (ed.symm.trans ed')
      subst q1
      subst q2
      rw [ea, ed] at hs
      obtain ⟨l1, l2, l3⟩ := link_ok h3 h4 ha hd hs hM
      obtain ⟨j1, j2, e, ez⟩ := l2 hk
      exact go gf (by rw [ez]; exact ga) (by rw [ez]; exact gb) hu hf j1 j2 e
    · have q1 := nI_same (by omega) (by omega) (ea.symm.trans ea')
      have q2 := nI_same (by omega) (by omega) (ed.symm.trans ed')
      subst q1
      subst q2
      rw [ea, ed] at hs
      have := (link_ok h3 h4 ha hd hs hM).1.mpr hk
      rw [this] at hy; cases hy
  · have g := (CF.rf x s).gf gf
    refine ⟨ro_eq hr (nx gf) (sl gf), h6.cf g, _, rfl, q_link (h2.cf h6 g) h3.1.ri h3.1.net (fun q => ?_) (fun a' d' ea' ed' ha' hd' _ M2 j hM hy => ?_) (fun a' d' ea' ed' ha' hd' _ M2 j hM hy M4 j4 hM4 u hu hf => ⟨rfl, ?_⟩)⟩
    · rw [q] at hs; cases hs
    · have q1 := nI_same (by omega) (by omega) (ea.symm.trans ea')
      have q2 := nI_same (by omega) (by omega) (ed.symm.trans ed')
      subst q1
      subst q2
      rw [ea, ed] at hs
      exact absurd ((link_ok h3 h4 ha hd hs hM).1.mp hy) hk
    · have q1 := nI_same (by omega) (by omega) (ea.symm.trans ea')
      have q2 := nI_same (by omega) (by omega) (ed.symm.trans ed')
      subst q1
      subst q2
      rw [ea, ed] at hs
      obtain ⟨l1, l2, l3⟩ := link_ok h3 h4 ha hd hs hM
      obtain ⟨j1, j2, e, ez⟩ := l3 M4 j4 hM4
      exact go gf (by rw [ez]; exact ga) (by rw [ez]; exact gb) hu hf j1 j2 e
/-- what is made besides: cells that nobody of ours sees -/
def fx_gap (s : fx_S) (g n : Nat) : fx_S := (s.1, s.2.1, s.2.2.1, s.2.2.2.1, s.2.2.2.2.1, s.2.2.2.2.2.1, s.2.2.2.2.2.2.1, fx_nx s + g, fx_sl s + n)
theorem gap_gr {g n : Nat} : GR s (fx_gap s g n) := ⟨fun _ _ _ => rfl, fun _ _ _ => rfl, fun _ _ => rfl, fun _ _ => rfl, fun _ _ => rfl, Nat.le_add_right _ _⟩
theorem gap_cf {g n : Nat} : CF x s (fx_gap s g n) := ⟨fun _ _ _ _ => ⟨rfl, rfl⟩, fun _ _ => ⟨rfl, rfl, rfl, fun _ => rfl⟩, Nat.le_add_right _ _⟩
theorem stno_c (v : Int32) : st_no M v = 0 ∨ st_no M v = 1 ∨ st_no M v = 2 := by
  unfold st_no
  cases fx_isN (rn M ff_Mod_all 0) v <;> cases rn M ff_Mod_readySize v.toNatClampNeg == 0 <;> simp
theorem q_takeN {v : Int32} {s0 : fx_S} (hR : rf_ok s0 o A M) (hI : RI M) (hs : st_no M v ≠ 0) (k1 : ∀ s', rf_ok s' o A (om_th M (st_no M v)) → rf_fr o A s0 s' → Q (some (vI (nI 0))) s') : fx_M mm_Mod_take [vR 22 (some o), vI v] s0 Q := by
  have hF := rf_fr.rf o A s0
  have hA := hI.l ff_Mod_all 0 65 (n := 1) rfl (by omega) rfl (by omega)
  refine xx_i ml102 ?_
  have bad : ∀ t, t ≠ 0 → st_no M v = t → t < 3 → fx_W 102 27 [some (vR 22 (some o)), some (vI v), none, none] [vI (nI t), vR 22 (some o)] s0 Q := by
    intro t ht h h3
    refine rr_pf hR hF ee102_27 rfl rfl (fun s hR hF => ?_)
    refine xx_j ee102_30 rfl trivial ?_
    refine rr_fi hR ee102_31 rfl rfl rfl ?_
    refine xx_keq ee102_34 (by omega) (fun h => absurd h ht) (fun _ => ?_)
    refine xx_k ee102_37 0 rfl ?_
    refine xx_ri ee102_38 rt102 ?_
    subst h
    exact k1 _ hR hF
  refine xx_j ee102_0 rfl trivial ?_
  refine xx_j ee102_1 rfl trivial ?_
  refine xx_j ee102_2 rfl trivial ?_
  refine xx_c ee102_3 rfl (q_isNode hR hI ?_)
  refine xx_nz ee102_6 (fun hv => ?_) (fun h => ?_)
  · obtain ⟨a, ea, ha⟩ := fx_isN_nI (by omega) hv
    subst ea
    have hc : (nI a).toNatClampNeg = a := nI_clamp (by omega)
    have e1 := hI.e ff_Mod_readySize a (n := 64) rfl (by omega) (by decide)
    have r1 := hI.l ff_Mod_readySize a 5 (n := 64) rfl (by omega) rfl (by omega)
    refine xx_j ee102_13 rfl trivial ?_
    refine rr_fa hR ee102_14 (by decide) rfl rfl ?_
    refine xx_j ee102_17 rfl trivial ?_
    refine rr_al 64 hR ee102_18 rfl (by omega) ?_
    refine xx_t e1 ?_
    refine xx_kne ee102_19 (by omega) (fun h => ?_) (fun h => ?_)
    · exfalso
      apply hs
      unfold st_no
      have : (rn M ff_Mod_readySize a == 0) = false := beq_eq_false_iff_ne.mpr h
      rw [hv, hc, this]; rfl
    · refine xx_k ee102_22 2 rfl ?_
      refine xx_j ee102_23 rfl trivial ?_
      exact bad 2 (by omega) (by simp [st_no, hv, hc, h]) (by omega)
  · refine xx_k ee102_9 1 rfl ?_
    refine xx_j ee102_10 rfl trivial ?_
    exact bad 1 (by omega) (by simp [st_no, h]) (by omega)
/-- why take throws -/
def TKm (k x : Nat) (v : Int32) (s : fx_S) : Prop := ∃ g, fx_fr s ff_Torus_grid x = some g ∧ ((k = 1 ∧ fx_M mm_Grid_hasNode [vR 13 (some g), vI v] s (fun r t => r = some (vI (fx_bit false)) ∧ t = s)) ∨ (k = 2 ∧ fx_M mm_Grid_hasNode [vR 13 (some g), vI v] s (fun r t => r = some (vI (fx_bit true)) ∧ t = s) ∧ ∃ N a B r, fx_fr s ff_Torus_nodes x = some N ∧ fx_ln s N = 64 ∧ v = nI a ∧ a < 64 ∧ fx_ar s N a = some B ∧ fx_fr s ff_Node_receiver B = some r ∧ fx_fi s ff_Receiver_readyCount r = nI 0))
/-- take: thrown, or an answer -/
theorem ws_take {v : Int32} (h : WS n0 l0 x o A b L w xs c s) :
    (∃ k, (k = 1 ∨ k = 2) ∧ TKm k x v s ∧ ∀ g n, g ≤ 10 → n ≤ 60 → RO2 n0 l0 c (fx_gap s g n) ∧ PL (fx_gap s g n) x o A b L w xs ∧ fx_M mm_Mod_take [vR 22 (some o), vI v] (fx_gap s g n) (fun r2 u => (∃ y, r2 = some (vI y)) ∧ WS n0 l0 x o A b L w xs (c + 1) u ∧ fx_M mm_Mod_thrown [vR 22 (some o)] u (fun r3 u3 => r3 = some (vI (nI k)) ∧ u3 = u))) ∨
    ∃ y, fx_M mm_Torus_take [vR 10 (some x), vI v] s (fun r t => r = some (vI y) ∧ RO2 n0 l0 c t ∧ PL t x o A b L w xs ∧ ∀ z, fx_M mm_Mod_take [vR 22 (some o), vI v] (fx_sal t w 0 z) (fun r2 u => r2 = some (vI y) ∧ fx_al u w 0 = z ∧ WS n0 l0 x o A b L w xs (c + 1) u ∧ fx_M mm_Mod_thrown [vR 22 (some o)] u (fun r3 u3 => r3 = some (vI (nI 0)) ∧ u3 = u))) := by
  have hr := h.room
  obtain ⟨B, H, Y, P, m, rt, K, M, h1, h2, h3, h4, h5, h6, h7, h8⟩ := h
  have m64 := h1.sk.c.m64
  have hA64 := h3.1.all64
  have eth : ∀ k, om_th M k ff_Mod_thrown 0 = nI k := fun k => fx_up_same _ _ _ _
  by_cases hs : st_no M v = 0
  · right
    obtain ⟨a, ea, ha, hy⟩ : ∃ a, v = nI a ∧ a < (rn M ff_Mod_all 0) ∧ 0 < rn M ff_Mod_readySize a := by
      unfold st_no at hs
      cases q : fx_isN (rn M ff_Mod_all 0) v with
      | false => rw [q] at hs; cases hs
      | true =>
        obtain ⟨a, ea, ha⟩ := fx_isN_nI hA64 q
        rw [q, ea, nI_clamp (by omega)] at hs
        refine ⟨a, ea, ha, ?_⟩
        cases q2 : rn M ff_Mod_readySize a == 0 with
        | true => rw [q2] at hs; cases hs
        | false => have := beq_eq_false_iff_ne.mp q2; omega
    have h1' := h1.th (k := 0)
    refine ⟨om_th M 0 ff_Mod_readyTag (4 * a), na_M rfl (k_take h1' h3.th h4.th (fun q => ?_) (fun q => ?_) (fun a' ea' ha' hy' hs' t Y' rt' g hra e1 e2 => ⟨?_, ro_eq hr e1 e2, h6.cf g, fun z => ?_⟩))⟩
    · rw [stno_th, hs] at q; cases q
    · rw [stno_th, hs] at q; cases q
    · have hA' : (rn (om_th M 0) ff_Mod_all 0) = (rn M ff_Mod_all 0) := rn_pe (by decide)
      rw [nI_same (by omega) (by omega) (ea.symm.trans ea')]
    · have hA' : (rn (om_th M 0) ff_Mod_all 0) = (rn M ff_Mod_all 0) := rn_pe (by decide)
      have q1 := nI_same (by omega) (by omega) (ea.symm.trans ea')
      subst q1
      have p2' : PL t x o A b L w xs := h6.cf g
      have p2 : PL (fx_sal t w 0 z) x o A b L w xs := p2'
      have r2' : rf_ok t o A M := h2.cf h6 g
      have r2 : rf_ok (fx_sal t w 0 z) o A M := r2'
      have ra2 := hra.same (t := fx_sal t w 0 z) rfl rfl rfl rfl (fun _ _ _ => rfl) (fun _ _ _ => rfl)
      have hn : rn M ff_Mod_notes 0 + rn M ff_Mod_rowSize v.toNatClampNeg < 600 := by
        rw [ea, nI_clamp (by omega)]
        have := h3.1.nr512 ha; omega
      have e5 : JC (om_th M 0) c := by
        obtain ⟨a1, a2, a3, a4, a5, a6⟩ := h5
        exact ⟨a1, a2, a3, a4, a5, a6⟩
      refine q_take r2 h3.1.ri hn (fun q => absurd hs q) (fun a2 ea2 ha2 hy2 u hu hf => ?_)
      have q2 := nI_same (by omega) (by omega) (ea.symm.trans ea2)
      subst q2
      obtain ⟨j1, j2, j3⟩ := tak_ok (h3.th (k := 0)) (h4.th (k := 0)) e5 (by rw [hA']; exact ha) hy'
      have e0 : om_th M 0 = om_t0 M := rfl
      refine ⟨rfl, ?_, WS.next p2 (CF.rf x _) ra2 hf hu j1 j2 j3 (by show fx_nx t ≤ _; omega) (by show fx_sl t ≤ _; omega), q_thrown hu ⟨?_, rfl⟩⟩
      · rw [hf.2.2.2.2.1]
        show fx_up (fx_al t) w 0 z w 0 = z
        exact fx_up_same _ _ _ _
      · have o1 : om_settle (om_take (om_t0 M) a2) a2 ff_Mod_thrown 0 = nI 0 := by
          obtain ⟨-, h2'⟩ := JI.take (h3.th (k := 0)) (by rw [hA']; exact ha) hy'
          rw [← e0, h2']
          cases sp_first (pfull (om_take (om_th M 0) a2)) (4 * a2) 4 with
          | none => exact (take_o (by decide)).trans (eth 0)
          | some k => exact ((fin_o (by decide)).trans (take_o (by decide))).trans (eth 0)
        rw [o1]
  · left
    refine ⟨st_no M v, ?_, ?_, fun g n hg hn' => ?_⟩
    · rcases stno_c (M := M) v with q | q | q
      · exact absurd q hs
      · exact Or.inl q
      · exact Or.inr q
    · refine ⟨x + 3, h1.sk.a.grid, ?_⟩
      have hS := h1.g.a.1
      cases q : fx_isN (rn M ff_Mod_all 0) v with
      | false =>
        left
        refine ⟨?_, k_hasNode (by omega) hS ⟨by rw [q], rfl⟩⟩
        unfold st_no
        rw [q, cond_false]
      | true =>
        right
        obtain ⟨a, ea, ha⟩ := fx_isN_nI hA64 q
        have ham : a < m := Nat.lt_of_lt_of_le ha h1.nm
        have nd := h1.sk.b a ham
        have rv := h1.v a ham
        have hca : v.toNatClampNeg = a := by rw [ea]; exact nI_clamp (by omega)
        have z : rn M ff_Mod_readySize a = 0 := by
          unfold st_no at hs
          rw [q, cond_true, hca] at hs
          cases q2 : rn M ff_Mod_readySize a == 0 with
          | true => exact beq_iff_eq.mp q2
          | false => rw [q2] at hs; exact absurd rfl hs
        have eY : fx_fi s ff_Receiver_readyCount (B a + 5) = nI (rn M ff_Mod_readySize a) := rv.cnt.trans (h3.1.ri.e ff_Mod_readySize a (n := 64) rfl (by omega) (by decide))
        refine ⟨?_, k_hasNode (by omega) hS ⟨by rw [q], rfl⟩, x + 12, a, B a, B a + 5, h1.sk.a.nodes, h1.sk.a.lnod, ea, by omega, nd.at, nd.rcv, by rw [eY, z]⟩
        unfold st_no
        rw [q, cond_true, hca, z]; rfl
    · have g1 : CF x s (fx_gap s g n) := gap_cf
      have hra := h1.growJ h3.1 (fun k hk => List.mem_range.mp hk) (gap_gr (g := g) (n := n))
      refine ⟨⟨by show fx_nx s + g ≤ _; omega, by show fx_sl s + n ≤ _; omega⟩, h6.cf g1, q_takeN (h2.cf h6 g1) h3.1.ri hs (fun u hu hf => ⟨⟨_, rfl⟩, WS.next h6 g1 hra.th hf hu h3.th h4.th h5.th (by show fx_nx s + g ≤ _; omega) (by show fx_sl s + n ≤ _; omega), q_thrown hu ⟨by rw [eth], rfl⟩⟩)⟩
end
