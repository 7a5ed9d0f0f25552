/-! THE REFERENCE: cycle, walked -/
section
variable {s : fx_S} {Q : fx_Q} {o : Nat} {A : Nat → Nat} {M : rf_M}
theorem q_cycle {c : Nat} {s0 : fx_S} (hR : rf_ok s0 o A M) (h : JI M) (hN : JN M) (hC : JC M c) (hc : c < 2000) (k : ∀ s', rf_ok s' o A (om_cy M) → rf_fr o A s0 s' → Q (some (vI (nI (rn (om_cy M) ff_Mod_flits 0)))) s') : fx_M mm_Mod_cycle [vR 22 (some o)] s0 Q := by
  have hF := rf_fr.rf o A s0
  have h64 := h.1.all64
  obtain ⟨p1, i1, i2, p3, i3, i3w, p4, i4, g4, y4, i5, i6, i7, hN7, hC7⟩ := cyc_ok h hN hC hc
  obtain ⟨C1, C2, C3, C4, C5, C6⟩ := hC
  have all1 : rn (om_c1 M) ff_Mod_all 0 = rn M ff_Mod_all 0 := by unfold rn; rw [c1_o (by decide) (by decide)]
  have all2 : rn (om_c2 M) ff_Mod_all 0 = rn M ff_Mod_all 0 := by unfold rn; rw [c2_o (by decide) (by decide)]
  have all3 : rn (om_c3 M) ff_Mod_all 0 = rn M ff_Mod_all 0 := by unfold rn; rw [c3_o (by decide) (by decide)]
  have rec1 : rn (om_c1 M) ff_Mod_received 0 = rn M ff_Mod_received 0 := by unfold rn; rw [c1_o (by decide) (by decide)]
  have los1 : rn (om_c1 M) ff_Mod_lost 0 = rn M ff_Mod_lost 0 := by unfold rn; rw [c1_o (by decide) (by decide)]
  refine xx_i ml129 ?_
  refine xx_j ee129_0 rfl trivial ?_
  refine xx_k ee129_1 0 rfl ?_
  refine rr_pf hR hF ee129_2 rfl rfl (fun s hR hF => ?_)
  replace hR : rf_ok s o A (om_t0 M) := hR
  refine xx_j ee129_5 rfl trivial ?_
  refine xx_c ee129_6 rfl (q_tellNotes hR h.t0.1.ri p1 (fun s1 hR hF2 => ?_))
  replace hR : rf_ok s1 o A (om_c1 M) := hR
  replace hF := hF.tr hF2
  clear hF2
  -- the end: cycle + 1
  have step6 : ∀ s' x1 x2 x3, rf_ok s' o A (om_c6 M) → rf_fr o A s0 s' → fx_W 129 226 [some (vR 22 (some o)), x1, x2, x3] [] s' Q := by
    intro s' x1 x2 x3 hR hF
    have e1 : om_c6 M ff_Mod_cycle 0 = nI (rn M ff_Mod_cycle 0) := by
      rw [i6.1.ri.f ff_Mod_cycle rfl (by decide)]
      have : rn (om_c6 M) ff_Mod_cycle 0 = rn M ff_Mod_cycle 0 := by
        unfold rn om_c6
        rw [mv_o (by decide) (by decide) (by decide)]
        unfold om_c5
        rw [fx_up_ne (fun q => absurd q.1 (by decide)), y4 _ _ (by decide), w0_o (by decide), c3_o (by decide) (by decide)]
      rw [this]
    refine xx_j ee129_226 rfl trivial ?_
    refine xx_j ee129_227 rfl trivial ?_
    refine rr_fi hR ee129_228 rfl rfl rfl ?_
    refine xx_t e1 ?_
    refine xx_k ee129_231 1 rfl ?_
    first | refine xx_add ee129_232 ?_ | refine xx_j ee129_232 rfl trivial ?_
    refine rr_pf hR hF ee129_233 rfl rfl (fun s hR hF => ?_)
    replace hR : rf_ok s o A (om_cy M) := hR
    refine xx_j ee129_236 rfl trivial ?_
    refine rr_fi hR ee129_237 rfl rfl rfl ?_
    refine xx_t (i7.1.ri.f ff_Mod_flits rfl (by decide)) ?_
    exact xx_ri ee129_240 rt129 (k _ hR hF)
  -- they move
  have step5 : ∀ s' x2 x3, rf_ok s' o A (om_c5 M) → rf_fr o A s0 s' → fx_W 129 163 [some (vR 22 (some o)), some (vI (nI 0)), x2, x3] [] s' Q := by
    have hf5 := i5.1.ri.fNl
    have key : ∀ d f (M' : rf_M) s' x2 x3, f + d = rn M' ff_Mod_flits 0 → rn M' ff_Mod_flits 0 ≤ 256 → RI M' → RN M' → WW M' → (∀ v, v < 64 → rn M' ff_Mod_went v + d < 10000000) → om_mv d f M' = om_c6 M → rf_ok s' o A M' → rf_fr o A s0 s' → fx_W 129 163 [some (vR 22 (some o)), some (vI (nI f)), x2, x3] [] s' Q := by
      intro d
      induction d with
      | zero =>
        intro f M' s' x2 x3 hd h256 hI hNN hW hw hm hR hF
        refine xx_j ee129_163 rfl trivial ?_
        refine xx_j ee129_164 rfl trivial ?_
        refine rr_fi hR ee129_165 rfl rfl rfl ?_
        refine xx_t (hI.f ff_Mod_flits rfl (by decide)) ?_
        refine xx_ge ee129_168 (by omega) (by omega) (fun _ => ?_) (fun h => by omega)
        have hm' : M' = om_c6 M := hm
        rw [hm'] at hR
        exact step6 _ _ _ _ hR hF
      | succ d ih =>
        intro f M' s' x2 x3 hd h256 hI hNN hW hw hm hR hF
        have hff : f < rn M' ff_Mod_flits 0 := by omega
        obtain ⟨w, w1, w2⟩ := hW f hff
        have w3 : rn M' ff_Mod_way f = w := rn_of w2 (by omega)
        have hat := hNN.2.2 f hff
        have hA64 : rn M' ff_Mod_all 0 ≤ 64 := by rw [hNN.2.1]; exact RN.sq hI
        have hwv := hw _ (show rn M' ff_Mod_at f < 64 by omega)
        have ea := hI.e ff_Mod_at f (n := 300) rfl (by omega) (by decide)
        have eg := hI.e ff_Mod_went (rn M' ff_Mod_at f) (n := 64) rfl (by omega) (by decide)
        refine xx_j ee129_163 rfl trivial ?_
        refine xx_j ee129_164 rfl trivial ?_
        refine rr_fi hR ee129_165 rfl rfl rfl ?_
        refine xx_t (hI.f ff_Mod_flits rfl (by decide)) ?_
        refine xx_ge ee129_168 (by omega) (by omega) (fun h => by omega) (fun _ => ?_)
        refine xx_j ee129_171 rfl trivial ?_
        refine rr_fa hR ee129_172 (by decide) rfl rfl ?_
        refine xx_j ee129_175 rfl trivial ?_
        refine rr_fa hR ee129_176 (by decide) rfl rfl ?_
        refine xx_j ee129_179 rfl trivial ?_
        refine rr_al 300 hR ee129_180 rfl (by omega) ?_
        refine xx_t ea ?_
        refine xx_j ee129_181 rfl trivial ?_
        refine rr_al 64 hR ee129_182 rfl (by omega) ?_
        refine xx_t eg ?_
        refine xx_k ee129_183 1 rfl ?_
        first | refine xx_add ee129_184 ?_ | refine xx_j ee129_184 rfl trivial ?_
        refine rr_as 64 hR hF ee129_185 rfl (by omega) (fun s hR hF => ?_)
        have hI1 : RI (fx_up M' ff_Mod_went (rn M' ff_Mod_at f) (nI (rn M' ff_Mod_went (rn M' ff_Mod_at f) + 1))) := hI.up (b := 10000000) rfl (by omega) (by decide) (by decide)
        refine xx_j ee129_186 rfl trivial ?_
        refine rr_fa hR ee129_187 (by decide) rfl rfl ?_
        refine xx_j ee129_190 rfl trivial ?_
        refine xx_j ee129_191 rfl trivial ?_
        refine xx_j ee129_192 rfl trivial ?_
        refine rr_fa hR ee129_193 (by decide) rfl rfl ?_
        refine xx_j ee129_196 rfl trivial ?_
        refine rr_al 300 hR ee129_197 rfl (by omega) ?_
        refine xx_t ea ?_
        refine xx_j ee129_198 rfl trivial ?_
        refine rr_fa hR ee129_199 (by decide) rfl rfl ?_
        refine xx_j ee129_202 rfl trivial ?_
        refine rr_al 300 hR ee129_203 rfl (by omega) ?_
        refine xx_t w2 ?_
        refine xx_c ee129_204 rfl (q_neighbour hR hI1 hNN w1 hat ?_)
        refine rr_as 300 hR hF ee129_207 rfl (by omega) (fun s hR hF => ?_)
        refine xx_j ee129_208 rfl trivial ?_
        refine rr_fa hR ee129_209 (by decide) rfl rfl ?_
        refine xx_j ee129_212 rfl trivial ?_
        refine xx_j ee129_213 rfl trivial ?_
        refine rr_fa hR ee129_214 (by decide) rfl rfl ?_
        refine xx_j ee129_217 rfl trivial ?_
        refine rr_al 300 hR ee129_218 rfl (by omega) ?_
        refine xx_t w2 ?_
        refine rr_as 300 hR hF ee129_219 rfl (by omega) (fun s hR hF => ?_)
        have hM1 : om_mv1 M' f = fx_up (fx_up (fx_up M' ff_Mod_went (rn M' ff_Mod_at f) (nI (rn M' ff_Mod_went (rn M' ff_Mod_at f) + 1))) ff_Mod_at f (nI (nb (rn M' ff_Mod_n 0) (rn M' ff_Mod_at f) w))) ff_Mod_line f (nI w) := by
          unfold om_mv1
          rw [w2, w3]
        replace hR : rf_ok s o A (om_mv1 M' f) := by rw [hM1]; exact hR
        have hbv : nb (rn M' ff_Mod_n 0) (rn M' ff_Mod_at f) w < rn M' ff_Mod_all 0 := by
          rw [hNN.2.1]
          exact nb_lt (by have := hNN.1; omega) (by rw [← hNN.2.1]; exact hat)
        have hI3 : RI (om_mv1 M' f) := by
          rw [hM1]
          exact (hI1.up (b := 64) rfl (by omega) (by decide) (by decide)).up (b := 4) rfl w1 (by decide) (by decide)
        first | refine xx_inc ee129_220 rfl ?_ | refine xx_j ee129_220 rfl trivial ?_
        refine xx_j ee129_223 rfl trivial ?_
        refine ih (f + 1) (om_mv1 M' f) _ _ _ (by show f + 1 + d = rn M' ff_Mod_flits 0; omega) h256 hI3 ⟨hNN.1, hNN.2.1, fun i hi => ?_⟩ hW (fun v hv => ?_) hm hR hF
        · show rn (om_mv1 M' f) ff_Mod_at i < rn M' ff_Mod_all 0
          rw [mv1_at (by rw [w3]; omega)]
          by_cases ci : i = f
          · rw [if_pos ci, w3]; exact hbv
          · rw [if_neg ci]; exact hNN.2.2 i hi
        · have := hw v hv
          rw [mv1_went (by omega)]
          split
          · omega
          · omega
    intro s' x2 x3 hR hF
    have g5 : ∀ u, u < rn (om_c5 M) ff_Mod_all 0 → WG (om_c5 M) u := fun u hu => g4 u (by
      have e1 : rn (om_c5 M) ff_Mod_all 0 = rn (om_c4 M) ff_Mod_all 0 := rfl
      have e2 : rn (om_c4 M) ff_Mod_all 0 = rn (om_c3 M) ff_Mod_all 0 := by unfold rn; rw [y4 _ _ (by decide), w0_o (by decide)]
      omega)
    refine key (rn (om_c5 M) ff_Mod_flits 0) 0 (om_c5 M) s' x2 x3 (by omega) (by omega) i5.1.ri i5.1.net (fun f hf => ?_) (fun v hv => ?_) rfl hR hF
    · obtain ⟨w, w1, w2, -⟩ := (g5 _ (i5.1.net.2.2 f hf)).1 f hf rfl
      exact ⟨w, w1, w2⟩
    · have := C3 v hv
      have e1 : rn (om_c5 M) ff_Mod_went v = rn (om_c4 M) ff_Mod_went v := rfl
      have e2 : rn (om_c4 M) ff_Mod_went v = rn M ff_Mod_went v := by unfold rn; rw [y4 _ _ (by decide), w0_o (by decide), c3_o (by decide) (by decide)]
      omega
  -- those that were deflected
  have step4 : ∀ s' x2 x3, rf_ok s' o A (om_c4 M) → rf_fr o A s0 s' → fx_W 129 119 [some (vR 22 (some o)), some (vI (nI 0)), x2, x3] [] s' Q := by
    have hf4 := i4.1.ri.fNl
    have hdf : rn (om_c4 M) ff_Mod_deflected 0 = rn M ff_Mod_deflected 0 := by unfold rn; rw [y4 _ _ (by decide), w0_o (by decide), c3_o (by decide) (by decide)]
    have n4 : rn (om_c4 M) ff_Mod_all 0 = rn M ff_Mod_all 0 := by
      have e2 : rn (om_c4 M) ff_Mod_all 0 = rn (om_c3 M) ff_Mod_all 0 := by unfold rn; rw [y4 _ _ (by decide), w0_o (by decide)]
      omega
    have key : ∀ d f s' x2 x3, f + d = rn (om_c4 M) ff_Mod_flits 0 → rf_ok s' o A (fx_up (om_c4 M) ff_Mod_deflected 0 (nI (rn (om_c4 M) ff_Mod_deflected 0 + sdf (om_c4 M) f))) → rf_fr o A s0 s' → fx_W 129 119 [some (vR 22 (some o)), some (vI (nI f)), x2, x3] [] s' Q := by
      intro d
      induction d with
      | zero =>
        intro f s' x2 x3 hd hR hF
        have hfe : f = rn (om_c4 M) ff_Mod_flits 0 := by omega
        refine xx_j ee129_119 rfl trivial ?_
        refine xx_j ee129_120 rfl trivial ?_
        refine rr_fi hR ee129_121 rfl rfl rfl ?_
        refine xx_t (i4.1.ri.f ff_Mod_flits rfl (by decide)) ?_
        refine xx_ge ee129_124 (by omega) (by omega) (fun _ => ?_) (fun h => by omega)
        rw [hfe] at hR
        refine xx_k ee129_161 0 rfl ?_
        refine xx_j ee129_162 rfl trivial ?_
        exact step5 _ _ _ hR hF
      | succ d ih =>
        intro f s' x2 x3 hd hR hF
        have hff : f < rn (om_c4 M) ff_Mod_flits 0 := by omega
        have hs : sdf (om_c4 M) f ≤ f := sp_cnt_le _ _
        obtain ⟨w, w1, w2, -⟩ := (g4 _ (by rw [← n4]; exact i4.1.net.2.2 f hff)).1 f hff rfl
        have w3 : rn (om_c4 M) ff_Mod_way f = w := rn_of w2 (by omega)
        have hI1 : RI (fx_up (om_c4 M) ff_Mod_deflected 0 (nI (rn (om_c4 M) ff_Mod_deflected 0 + sdf (om_c4 M) f))) := i4.1.ri.up (b := 10000000) rfl (by omega) (by decide) (by decide)
        have nxt : ∀ (b : Bool) s' x2 x3, swant (om_c4 M) (rn (om_c4 M) ff_Mod_at f) w (sg (om_c4 M) f) = b → rf_ok s' o A (fx_up (om_c4 M) ff_Mod_deflected 0 (nI (rn (om_c4 M) ff_Mod_deflected 0 + sdf (om_c4 M) f))) → rf_fr o A s0 s' → fx_W 129 151 [some (vR 22 (some o)), some (vI (nI f)), x2, x3] [vI (nI (bif b then 0 else 1)), vI (nI (rn (om_c4 M) ff_Mod_deflected 0 + sdf (om_c4 M) f)), vR 22 (some o)] s' Q := by
          intro b s' x2 x3 hb hR hF
          first | refine xx_add ee129_151 ?_ | refine xx_j ee129_151 rfl trivial ?_
          refine rr_pf hR hF ee129_152 rfl rfl (fun s hR hF => ?_)
          have e : sdf (om_c4 M) (f + 1) = sdf (om_c4 M) f + (bif b then 0 else 1) := by
            show sdf (om_c4 M) f + (bif !swant (om_c4 M) (rn (om_c4 M) ff_Mod_at f) (rn (om_c4 M) ff_Mod_way f) (sg (om_c4 M) f) then 1 else 0) = _
            rw [w3, hb]
            cases b <;> rfl
          rw [Nat.add_assoc, ← e] at hR
          replace hR : rf_ok s o A (fx_up (om_c4 M) ff_Mod_deflected 0 (nI (rn (om_c4 M) ff_Mod_deflected 0 + sdf (om_c4 M) (f + 1)))) := by
            refine hR.to (fun g i hg hi => ?_) (fun g hg => ?_)
            · rw [fx_up_ne (fun q => by rw [q.1] at hg; exact absurd rfl hg), fx_up_ne (fun q => by rw [q.1] at hg; exact absurd rfl hg), fx_up_ne (fun q => by rw [q.1] at hg; exact absurd rfl hg)]
            · by_cases cg : g = ff_Mod_deflected
              · subst cg
                rw [fx_up_same, fx_up_same]
              · rw [fx_up_ne (fun q => cg q.1), fx_up_ne (fun q => cg q.1), fx_up_ne (fun q => cg q.1)]
          first | refine xx_inc ee129_155 rfl ?_ | refine xx_j ee129_155 rfl trivial ?_
          refine xx_j ee129_158 rfl trivial ?_
          exact ih (f + 1) _ _ _ (by omega) hR hF
        refine xx_j ee129_119 rfl trivial ?_
        refine xx_j ee129_120 rfl trivial ?_
        refine rr_fi hR ee129_121 rfl rfl rfl ?_
        refine xx_t (i4.1.ri.f ff_Mod_flits rfl (by decide)) ?_
        refine xx_ge ee129_124 (by omega) (by omega) (fun h => by omega) (fun _ => ?_)
        refine xx_j ee129_127 rfl trivial ?_
        refine xx_j ee129_128 rfl trivial ?_
        refine rr_fi hR ee129_129 rfl rfl rfl ?_
        refine xx_j ee129_132 rfl trivial ?_
        refine xx_j ee129_133 rfl trivial ?_
        refine xx_j ee129_134 rfl trivial ?_
        refine rr_fa hR ee129_135 (by decide) rfl rfl ?_
        refine xx_j ee129_138 rfl trivial ?_
        refine rr_al 300 hR ee129_139 rfl (by omega) ?_
        refine xx_t w2 ?_
        refine xx_c ee129_140 rfl (q_isWanted hR hI1 i4.1.net hff w1 ?_)
        refine xx_z ee129_143 (fun hz => ?_) (fun hz => ?_)
        · refine xx_k ee129_150 1 rfl ?_
          exact nxt false _ _ _ hz hR hF
        · refine xx_k ee129_146 0 rfl ?_
          refine xx_j ee129_147 rfl trivial ?_
          exact nxt true _ _ _ hz hR hF
    intro s' x2 x3 hR hF
    refine key (rn (om_c4 M) ff_Mod_flits 0) 0 s' x2 x3 (by omega) (hR.to (fun g i hg hi => ?_) (fun g hg => ?_)) hF
    · rw [fx_up_ne (fun q => by rw [q.1] at hg; exact absurd rfl hg)]
    · by_cases cg : g = ff_Mod_deflected
      · subst cg
        rw [fx_up_same]
        exact i4.1.ri.f ff_Mod_deflected rfl (by decide)
      · rw [fx_up_ne (fun q => cg q.1)]
  -- ways are given
  have step3 : ∀ s' x2 x3, rf_ok s' o A (om_w0 (om_c3 M)) → rf_fr o A s0 s' → fx_W 129 83 [some (vR 22 (some o)), some (vI (nI 0)), x2, x3] [] s' Q := by
    have key : ∀ d v (M' : rf_M) s' x2 x3, v + d = rn M ff_Mod_all 0 → rn M' ff_Mod_all 0 = rn M ff_Mod_all 0 → JI M' → (∀ f, f < rn M' ff_Mod_flits 0 → v ≤ rn M' ff_Mod_at f → M' ff_Mod_way f = fx_neg) → om_gvs d v M' = om_c4 M → rf_ok s' o A M' → rf_fr o A s0 s' → fx_W 129 83 [some (vR 22 (some o)), some (vI (nI v)), x2, x3] [] s' Q := by
      intro d
      induction d with
      | zero =>
        intro v M' s' x2 x3 hd hA hJ h0 hm hR hF
        refine xx_j ee129_83 rfl trivial ?_
        refine xx_j ee129_84 rfl trivial ?_
        refine rr_fi hR ee129_85 rfl rfl rfl ?_
        refine xx_t (hJ.1.ri.f ff_Mod_all rfl (by decide)) ?_
        refine xx_ge ee129_88 (by omega) (by omega) (fun _ => ?_) (fun h => by omega)
        have hm' : M' = om_c4 M := hm
        rw [hm'] at hR
        refine xx_k ee129_117 0 rfl ?_
        refine xx_j ee129_118 rfl trivial ?_
        exact step4 _ _ _ hR hF
      | succ d ih =>
        intro v M' s' x2 x3 hd hA hJ h0 hm hR hF
        obtain ⟨q1, q2, q3, q4⟩ := gv_ok (v := v) hJ (by omega) (fun f hf e => h0 f hf (by omega))
        have e1 : rn (om_gv M' v) ff_Mod_all 0 = rn M' ff_Mod_all 0 := q4.en (by decide)
        have e2 : rn (om_gv M' v) ff_Mod_flits 0 = rn M' ff_Mod_flits 0 := q4.en (by decide)
        have e3 : ∀ f, rn (om_gv M' v) ff_Mod_at f = rn M' ff_Mod_at f := fun f => q4.en (by decide)
        have nxt : ∀ s' x2 x3, rf_ok s' o A (om_gv M' v) → rf_fr o A s0 s' → fx_W 129 111 [some (vR 22 (some o)), some (vI (nI v)), x2, x3] [] s' Q := by
          intro s' x2 x3 hR hF
          first | refine xx_inc ee129_111 rfl ?_ | refine xx_j ee129_111 rfl trivial ?_
          refine xx_j ee129_114 rfl trivial ?_
          refine ih (v + 1) (om_gv M' v) s' _ _ (by omega) (by omega) q2 (fun f hf e => ?_) hm hR hF
          rw [e2] at hf
          rw [e3] at e
          rw [q4 _ f (fun q => by omega)]
          exact h0 f hf (by omega)
        have hmd := hJ.1.ri.l ff_Mod_mode 0 2 (n := 1) rfl (by omega) rfl (by omega)
        refine xx_j ee129_83 rfl trivial ?_
        refine xx_j ee129_84 rfl trivial ?_
        refine rr_fi hR ee129_85 rfl rfl rfl ?_
        refine xx_t (hJ.1.ri.f ff_Mod_all rfl (by decide)) ?_
        refine xx_ge ee129_88 (by omega) (by omega) (fun h => by omega) (fun _ => ?_)
        refine xx_j ee129_91 rfl trivial ?_
        refine rr_fi hR ee129_92 rfl rfl rfl ?_
        refine xx_t (hJ.1.ri.f ff_Mod_mode rfl (by decide)) ?_
        refine xx_kne ee129_95 (by omega) (fun hm1 => ?_) (fun hm0 => ?_)
        · refine xx_j ee129_106 rfl trivial ?_
          refine xx_j ee129_107 rfl trivial ?_
          refine xx_c ee129_108 rfl (q_giveByCells hR hJ.1.ri hJ.1.net (by omega) (fun s2 hR hF2 => ?_))
          refine nxt _ _ _ ?_ (hF.tr hF2)
          unfold om_gv
          rw [if_neg hm1]
          exact hR
        · refine xx_j ee129_98 rfl trivial ?_
          refine xx_j ee129_99 rfl trivial ?_
          refine xx_c ee129_100 rfl (q_giveByRank hR hJ.1.ri hJ.1.net (by omega) (q1 hm0) (fun s2 hR hF2 => ?_))
          refine xx_j ee129_103 rfl trivial ?_
          refine nxt _ _ _ ?_ (hF.tr hF2)
          unfold om_gv
          rw [if_pos hm0]
          exact hR
    intro s' x2 x3 hR hF
    have n3w : rn (om_w0 (om_c3 M)) ff_Mod_all 0 = rn M ff_Mod_all 0 := by
      have : rn (om_w0 (om_c3 M)) ff_Mod_all 0 = rn (om_c3 M) ff_Mod_all 0 := by unfold rn; rw [w0_o (by decide)]
      omega
    have f3w : rn (om_w0 (om_c3 M)) ff_Mod_flits 0 = rn (om_c3 M) ff_Mod_flits 0 := by unfold rn; rw [w0_o (by decide)]
    exact key (rn M ff_Mod_all 0) 0 (om_w0 (om_c3 M)) s' x2 x3 (by omega) n3w i3w (fun f hf _ => w0_way (by rw [f3w] at hf; exact hf)) rfl hR hF
  -- the ways are forgotten
  have step2 : ∀ s' x1 x2 x3, rf_ok s' o A (om_c3 M) → rf_fr o A s0 s' → fx_W 129 58 [some (vR 22 (some o)), x1, x2, x3] [] s' Q := by
    have hf3 := i3.1.ri.fNl
    have key : ∀ d f s' x2 x3, f + d = rn (om_c3 M) ff_Mod_flits 0 → rf_ok s' o A (om_fl (om_c3 M) [ff_Mod_way] f fx_neg) → rf_fr o A s0 s' → fx_W 129 60 [some (vR 22 (some o)), some (vI (nI f)), x2, x3] [] s' Q := by
      intro d
      induction d with
      | zero =>
        intro f s' x2 x3 hd hR hF
        have hfe : f = rn (om_c3 M) ff_Mod_flits 0 := by omega
        refine xx_j ee129_60 rfl trivial ?_
        refine xx_j ee129_61 rfl trivial ?_
        refine rr_fi hR ee129_62 rfl rfl rfl ?_
        refine xx_t ((om_fl_ne (by decide)).trans (i3.1.ri.f ff_Mod_flits rfl (by decide))) ?_
        refine xx_ge ee129_65 (by omega) (by omega) (fun _ => ?_) (fun h => by omega)
        rw [hfe] at hR
        refine xx_k ee129_81 0 rfl ?_
        refine xx_j ee129_82 rfl trivial ?_
        exact step3 _ _ _ hR hF
      | succ d ih =>
        intro f s' x2 x3 hd hR hF
        refine xx_j ee129_60 rfl trivial ?_
        refine xx_j ee129_61 rfl trivial ?_
        refine rr_fi hR ee129_62 rfl rfl rfl ?_
        refine xx_t ((om_fl_ne (by decide)).trans (i3.1.ri.f ff_Mod_flits rfl (by decide))) ?_
        refine xx_ge ee129_65 (by omega) (by omega) (fun h => by omega) (fun _ => ?_)
        refine xx_j ee129_68 rfl trivial ?_
        refine rr_fa hR ee129_69 (by decide) rfl rfl ?_
        refine xx_j ee129_72 rfl trivial ?_
        refine xx_km ee129_73 rfl ?_
        refine rr_as 300 hR hF ee129_74 rfl (by omega) (fun s hR hF => ?_)
        rw [om_fl_1] at hR
        first | refine xx_inc ee129_75 rfl ?_ | refine xx_j ee129_75 rfl trivial ?_
        refine xx_j ee129_78 rfl trivial ?_
        exact ih (f + 1) _ _ _ (by omega) hR hF
    intro s' x1 x2 x3 hR hF
    refine xx_k ee129_58 0 rfl ?_
    refine xx_j ee129_59 rfl trivial ?_
    refine key (rn (om_c3 M) ff_Mod_flits 0) 0 s' x2 x3 (by omega) ?_ hF
    rw [om_fl_0]
    exact hR
  -- the receiving
  refine xx_k ee129_9 0 rfl ?_
  refine xx_j ee129_10 rfl trivial ?_
  have key : ∀ d v (M' : rf_M) s' x2 x3, v + d = rn M ff_Mod_all 0 → rn M' ff_Mod_all 0 = rn M ff_Mod_all 0 → JI M' → rn M' ff_Mod_received 0 + 2 * d < 9000000 → rn M' ff_Mod_lost 0 + 2 * d < 9000000 → om_rcs d v M' = om_c2 M → rf_ok s' o A M' → rf_fr o A s0 s' → fx_W 129 11 [some (vR 22 (some o)), some (vI (nI v)), x2, x3] [] s' Q := by
    intro d
    induction d with
    | zero =>
      intro v M' s' x2 x3 hd hA hJ h1 h2 hm hR hF
      refine xx_j ee129_11 rfl trivial ?_
      refine xx_j ee129_12 rfl trivial ?_
      refine rr_fi hR ee129_13 rfl rfl rfl ?_
      refine xx_t (hJ.1.ri.f ff_Mod_all rfl (by decide)) ?_
      refine xx_ge ee129_16 (by omega) (by omega) (fun _ => ?_) (fun h => by omega)
      have hm' : M' = om_c2 M := hm
      rw [hm'] at hR
      refine xx_j ee129_54 rfl trivial ?_
      refine xx_c ee129_55 rfl (q_letEnter hR i2.1.ri (by have := h.1.all0; omega) (by rw [all2]; exact p3) (fun s2 hR hF2 => ?_))
      rw [all2] at hR
      exact step2 _ _ _ _ hR (hF.tr hF2)
    | succ d ih =>
      intro v M' s' x2 x3 hd hA hJ h1 h2 hm hR hF
      have hv64 : v < 64 := by omega
      refine xx_j ee129_11 rfl trivial ?_
      refine xx_j ee129_12 rfl trivial ?_
      refine rr_fi hR ee129_13 rfl rfl rfl ?_
      refine xx_t (hJ.1.ri.f ff_Mod_all rfl (by decide)) ?_
      refine xx_ge ee129_16 (by omega) (by omega) (fun h => by omega) (fun _ => ?_)
      have one : ∀ (j : Nat) (M1 : rf_M) s1 x3, j < 2 → JI M1 → rn M1 ff_Mod_received 0 < 9000000 → rn M1 ff_Mod_lost 0 < 9000000 → rf_ok s1 o A M1 → rf_fr o A s0 s1 → (∀ s2 x3, rf_ok s2 o A (om_rc1 M1 v) → rf_fr o A s0 s2 → fx_W 129 21 [some (vR 22 (some o)), some (vI (nI v)), some (vI (nI (j + 1))), x3] [] s2 Q) → fx_W 129 21 [some (vR 22 (some o)), some (vI (nI v)), some (vI (nI j)), x3] [] s1 Q := by
        intro j M1 s1 x3 hj hJ1 r1 l1 hR hF kk
        have hfb : ∀ b, shome M1 v = some b → b < 2 ^ 31 := fun b hb => by
          have := (shome_some hb).1
          have := hJ1.1.ri.fNl
          omega
        refine xx_j ee129_21 rfl trivial ?_
        refine xx_k ee129_22 2 rfl ?_
        refine xx_ge ee129_23 (by omega) (by omega) (fun h => by omega) (fun _ => ?_)
        refine xx_j ee129_26 rfl trivial ?_
        refine xx_j ee129_27 rfl trivial ?_
        refine xx_c ee129_28 rfl (q_home hR hJ1.1.ri hJ1.1.all0 hv64 ?_)
        refine xx_j ee129_31 rfl trivial ?_
        refine xx_j ee129_32 rfl trivial ?_
        refine xx_km ee129_33 rfl ?_
        refine xx_oeq ee129_34 hfb (fun hn => ?_) (fun f hf => ?_)
        · first | refine xx_inc ee129_42 rfl ?_ | refine xx_j ee129_42 rfl trivial ?_
          refine xx_j ee129_45 rfl trivial ?_
          refine kk _ _ ?_ hF
          unfold om_rc1
          rw [hn]
          exact hR
        · obtain ⟨f1, f2, f3⟩ := shome_some hf
          obtain ⟨-, -, w3, w4, -⟩ := hJ1.receive f1 (by rw [f2, f3]) r1 l1
          rw [hf]
          refine xx_j ee129_37 rfl trivial ?_
          refine xx_j ee129_38 rfl trivial ?_
          refine xx_c ee129_39 rfl (q_receive hR hJ1.1.ri f1 w3 w4 l1 r1 (fun s2 hR hF2 => ?_))
          first | refine xx_inc ee129_42 rfl ?_ | refine xx_j ee129_42 rfl trivial ?_
          refine xx_j ee129_45 rfl trivial ?_
          refine kk _ _ ?_ (hF.tr hF2)
          unfold om_rc1
          rw [hf]
          exact hR
      obtain ⟨a1, a2, a3⟩ := hJ.rc1 (v := v) (by omega) (by omega)
      obtain ⟨b1, b2, b3⟩ := a1.rc1 (v := v) (by omega) (by omega)
      refine xx_k ee129_19 0 rfl ?_
      refine xx_j ee129_20 rfl trivial ?_
      refine one 0 M' _ _ (by omega) hJ (by omega) (by omega) hR hF (fun s2 x3 hR hF => ?_)
      refine one 1 (om_rc1 M' v) _ _ (by omega) a1 (by omega) (by omega) hR hF (fun s3 x3 hR hF => ?_)
      refine xx_j ee129_21 rfl trivial ?_
      refine xx_k ee129_22 2 rfl ?_
      refine xx_ge ee129_23 (by omega) (by omega) (fun _ => ?_) (fun h => by omega)
      first | refine xx_inc ee129_48 rfl ?_ | refine xx_j ee129_48 rfl trivial ?_
      refine xx_j ee129_51 rfl trivial ?_
      refine ih (v + 1) (om_rc1 (om_rc1 M' v) v) _ _ _ (by omega) ?_ b1 (by omega) (by omega) hm hR hF
      rw [rc1_rn (by decide), rc1_rn (by decide)]
      exact hA
  exact key (rn M ff_Mod_all 0) 0 (om_c1 M) _ _ _ (by omega) all1 i1 (by omega) (by omega) rfl hR hF
end
