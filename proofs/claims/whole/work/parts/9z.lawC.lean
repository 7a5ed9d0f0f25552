section
variable {ok : fx_S → Prop} {G : Nat → fx_L → List fx_V → fx_S → Prop} {n0 l0 x o b L w c i : Nat} {A : Nat → Nat} {xs : Nat → Int32} {s : fx_S} {st : List fx_V} {l5 l6 : Option fx_V}
theorem WS.more (h : WS n0 l0 x o A b L w xs c s) : WS n0 l0 x o A b L w xs (c + 1) s := by
  obtain ⟨B, H, Y, P, m, rt, K, M, h1, h2, h3, h4, h5, h6, h7, h8⟩ := h
  exact ⟨B, H, Y, P, m, rt, K, M, h1, h2, h3, h4, h5.to (fun _ _ _ => rfl), h6, by omega, by omega⟩
def lw_of : Array Int := #[57, 106, 171, 232, 245, 301, 338, 363, 400, 425, 474]
def lw_go : List Nat := [96, 145, 210, 271, 284, 340, 377, 402, 439, 464, 513, 550, 550, 550, 550, 550]
theorem lw_sw : ∀ j, j < 16 → fx_sw 39 511 0 10 lw_of (nI j) = lw_go.getD j 0 := by decide +kernel
/-- the law's loop -/
theorem lw_loop (hJ : LJ ok G) (hB : LB G) (hK : LK ok G) (hT : LT ok G) (hok : ∀ c t, c ≤ 1000 → RO2 n0 l0 c t → ok t) (hR : ∀ ls t, ok t → G 557 ls [.inl (fx_ic 1)] t) (hL : L ≤ 2560) : ∀ d i c s l5 l6, L + 5 ≤ i + d + 5 → i = 5 * c → c ≤ 600 → WS n0 l0 x o A b L w xs c s → G 23 (lw_ls b x o w i l5 l6) [] s := by
  intro d
  induction d with
  | zero =>
    intro i c s l5 l6 hd hi hc hW
    have hs := hok c s (by omega) hW.room
    refine hJ _ _ _ _ _ _ _ _ _ _ _ _ _ ee133_23 rfl trivial hs ?_
    refine hJ _ _ _ _ _ _ _ _ _ _ _ _ _ ee133_25 rfl trivial hs ?_
    refine hJ _ _ _ _ _ _ _ _ _ _ _ _ _ ee133_26 rfl trivial hs ?_
    refine hJ _ _ _ _ _ _ _ _ _ _ _ _ _ ee133_27 rfl trivial hs ?_
    refine hJ _ _ _ _ _ _ _ _ _ _ _ _ _ ee133_28 rfl trivial hs ?_
    have e1 : fx_ln s b = L := hW.pl.2.2.2.2.2.2.1
    have e5 : fx_ic 5 = nI 5 := by decide
    refine hB _ _ _ _ _ _ _ _ (nI (fx_ln s b) - fx_ic 5 < nI i) _ _ _ _ _ ee133_29 rfl (fun _ => ?_) (fun q => absurd ?_ q)
    · refine hJ _ _ _ _ _ _ _ _ _ _ _ _ _ ee133_556 rfl trivial hs ?_
      exact hR _ _ hs
    · rw [e1, e5, Int32.lt_iff_toInt_lt, pk_sub_toInt (by omega) (by omega), nI_toInt (by omega)]
      omega
  | succ d ih =>
    intro i c s l5 l6 hd hi hc hW
    have hs := hok c s (by omega) hW.room
    have e1 : fx_ln s b = L := hW.pl.2.2.2.2.2.2.1
    have e5 : fx_ic 5 = nI 5 := by decide
    refine hJ _ _ _ _ _ _ _ _ _ _ _ _ _ ee133_23 rfl trivial hs ?_
    refine hJ _ _ _ _ _ _ _ _ _ _ _ _ _ ee133_25 rfl trivial hs ?_
    refine hJ _ _ _ _ _ _ _ _ _ _ _ _ _ ee133_26 rfl trivial hs ?_
    refine hJ _ _ _ _ _ _ _ _ _ _ _ _ _ ee133_27 rfl trivial hs ?_
    refine hJ _ _ _ _ _ _ _ _ _ _ _ _ _ ee133_28 rfl trivial hs ?_
    refine hB _ _ _ _ _ _ _ _ (nI (fx_ln s b) - fx_ic 5 < nI i) _ _ _ _ _ ee133_29 rfl (fun _ => ?_) (fun q => ?_)
    · refine hJ _ _ _ _ _ _ _ _ _ _ _ _ _ ee133_556 rfl trivial hs ?_
      exact hR _ _ hs
    · have hi4 : i + 4 < L := by
        rw [e1, e5, Int32.lt_iff_toInt_lt, pk_sub_toInt (by omega) (by omega), nI_toInt (by omega)] at q
        omega
      have kk : ∀ t l5 l6, WS n0 l0 x o A b L w xs (c + 1) t → G 550 (lw_ls b x o w i l5 l6) [] t := by
        intro t l5 l6 h
        have ht := hok c t (by omega) h.room1
        refine hJ _ _ _ _ _ _ _ _ _ _ _ _ _ ee133_550 rfl trivial ht ?_
        refine hJ _ _ _ _ _ _ _ _ _ _ _ _ _ ee133_553 rfl trivial ht ?_
        have e : nI i + fx_ic 5 = nI (i + 5) := by rw [e5, nI_add]
        show G 23 [some (vR 73 (some b)), some (vR 10 (some x)), some (vR 22 (some o)), some (vR 72 (some w)), some (vI (nI i + fx_ic 5)), l5, l6] [] t
        rw [e]
        exact ih (i + 5) (c + 1) t l5 l6 (by omega) (by omega) (by omega) h
      refine hJ _ _ _ _ _ _ _ _ _ _ _ _ _ ee133_32 rfl trivial hs ?_
      refine hJ _ _ _ _ _ _ _ _ _ _ _ _ _ ee133_33 rfl trivial hs ?_
      refine hJ _ _ _ _ _ _ _ _ (vp_in (nI i) (fx_ln s b)) _ _ _ _ ee133_35 rfl (by rw [e1]; exact vp_in_nI (by omega) (by omega)) hs ?_
      refine hJ _ _ _ _ _ _ _ _ _ _ _ _ _ ee133_36 rfl trivial hs ?_
      refine hJ _ _ _ _ _ _ _ _ _ _ _ _ _ ee133_38 rfl trivial hs ?_
      refine hJ _ _ _ _ _ _ _ _ _ _ _ _ _ ee133_39 rfl trivial hs ?_
      obtain ⟨j, hj, ej⟩ := pk_andE (fx_ai s b (nI i).toNatClampNeg) (m := fx_ic 15) 4 (by decide)
      rw [ej]
      have hj' : j < 16 := hj
      have sw := lw_sw j hj'
      unfold lw_of at sw
      rw [sw]
      have hok' := fun t h => hok c t (by omega) h
      have k1 : ∀ t, WS n0 l0 x o A b L w xs (c + 1) t → G 550 (lw_ls b x o w i l5 l6) [] t := fun t h => kk t l5 l6 h
      have hc2 : c < 2000 := by omega
      have h16 : j = 0 ∨ j = 1 ∨ j = 2 ∨ j = 3 ∨ j = 4 ∨ j = 5 ∨ j = 6 ∨ j = 7 ∨ j = 8 ∨ j = 9 ∨ j = 10 ∨ 11 ≤ j := by omega
      rcases h16 with e | e | e | e | e | e | e | e | e | e | e | e
      · rw [e]; exact lc_reset hJ hB hK hok' hW hi4 hL hc2 k1
      · rw [e]; exact lc_link hJ hB hK hok' hW hi4 hL k1
      · rw [e]; exact lc_put hJ hB hK hok' hW hi4 hL hc2 k1
      · rw [e]; exact lc_cycle hJ hB hK hok' hW hi4 hL hc2 k1
      · rw [e]; exact lc_take hJ hB hK hT hok' hW hi4 hL kk
      · rw [e]; exact lc_taken hJ hB hK hok' hW hi4 hL hc2 k1
      · rw [e]; exact lc_count hJ hB hK hok' hW hi4 hL hc2 k1
      · rw [e]; exact lc_node hJ hB hK hok' hW hi4 hL hc2 k1
      · rw [e]; exact lc_golden hJ hB hK hok' hW hi4 hL hc2 k1
      · rw [e]; exact lc_flit hJ hB hK hok' hW hi4 hL hc2 k1
      · rw [e]; exact lc_distance hJ hB hK hok' hW hi4 hL hc2 k1
      · have : lw_go.getD j 0 = 550 := by
          have h5 : j = 11 ∨ j = 12 ∨ j = 13 ∨ j = 14 ∨ j = 15 := by omega
          rcases h5 with e | e | e | e | e <;> rw [e] <;> rfl
        rw [this]
        exact k1 s hW.more
/-- the law from its beginning -/
theorem lw_pure (hJ : LJ ok G) (hB : LB G) (hK : LK ok G) (hT : LT ok G) (hok : ∀ c t, c ≤ 1000 → RO2 (fx_nx s + 60) (fx_sl s + 54500) c t → ok t) (hR : ∀ ls t, ok t → G 557 ls [.inl (fx_ic 1)] t) (hL : L ≤ 2560) (hb : b < fx_nx s) (e1 : fx_ln s b = L) (e2 : ∀ j, j < L → fx_ai s b j = xs j) : G 0 [some (vR 73 (some b)), none, none, none, none, none, none] [] s := by
  have ok0 : ok (fx_new s 10 16) := hok 0 _ (by omega) ⟨by show fx_nx s + 1 ≤ _; omega, by show fx_sl s + 16 ≤ _; omega⟩
  refine hJ _ _ _ _ _ _ _ _ _ _ _ _ _ ee133_0 rfl trivial ok0 ?_
  refine hJ _ _ _ _ _ _ _ _ _ _ _ _ _ ee133_3 rfl trivial ok0 ?_
  refine hK _ _ _ _ _ _ _ _ _ _ _ _ _ _ ee133_4 rfl (by decide) (by decide) (by rw [ml130]; exact Nat.le_of_ble_eq_true rfl) (xx_q (ws_init (xs := xs) rfl hb e1 e2) (fun r t h => ?_))
  obtain ⟨rfl, h1, h2, h2', h3⟩ := h
  have ok1 := hok 0 t (by omega) h1
  have ok2 : ok (fx_new t 22 51) := hok 1 _ (by omega) ⟨by show fx_nx t + 1 ≤ _; have := h1.1; omega, by show fx_sl t + 51 ≤ _; have := h1.2; omega⟩
  refine ⟨ok1, ?_⟩
  refine hJ _ _ _ _ _ _ _ _ _ _ _ _ _ ee133_7 rfl trivial ok1 ?_
  refine hJ _ _ _ _ _ _ _ _ _ _ _ _ _ ee133_8 rfl trivial ok2 ?_
  refine hJ _ _ _ _ _ _ _ _ _ _ _ _ _ ee133_11 rfl trivial ok2 ?_
  refine hK _ _ _ _ _ _ _ _ _ _ _ _ _ _ ee133_12 rfl (by decide) (by decide) (by rw [ml113]; exact Nat.le_of_ble_eq_true rfl) (xx_q h3 (fun r2 u h => ?_))
  obtain ⟨rfl, g1, g2, A, hW⟩ := h
  have ok3 := hok 0 u (by omega) g1
  have ok4 := hok 0 _ (by omega) g2
  refine ⟨ok3, ?_⟩
  refine hJ _ _ _ _ _ _ _ _ _ _ _ _ _ ee133_15 rfl trivial ok3 ?_
  refine hJ _ _ _ _ _ _ _ _ _ _ _ _ _ ee133_16 rfl trivial ok3 ?_
  have c1 : (fx_ic 1).toNatClampNeg = 1 := by decide
  refine hJ _ _ _ _ _ _ _ _ (¬ fx_ic 1 < 0 ∧ (fx_ic 1).toNatClampNeg ≤ 40000) _ _ _ (fx_newa u 72 (fx_ic 1).toNatClampNeg) ee133_17 rfl (by decide) (by rw [c1]; exact ok4) ?_
  rw [c1]
  refine hJ _ _ _ _ _ _ _ _ _ _ _ _ _ ee133_19 rfl trivial ok4 ?_
  refine hJ _ _ _ _ _ _ _ _ _ _ _ _ _ ee133_20 rfl trivial ok4 ?_
  refine hJ _ _ _ _ _ _ _ _ _ _ _ _ _ ee133_21 rfl trivial ok4 ?_
  exact lw_loop hJ hB hK hT hok hR hL L 0 0 _ none none (by omega) rfl (by omega) hW
end
