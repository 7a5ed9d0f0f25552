/-! THE CLASS: ways are chosen by rank -/
section
variable {s : fx_S} {Q : fx_Q} {x m : Nat} {B H P : Nat → Nat} {C : Nat → Nat → Option Nat} {Y : Nat → Nat → Nat} {rt : Nat → List Nat} {K : Nat → Prop} {L : List Nat} {M : rf_M} {lv : Nat → Prop}
/-- the router's own arrays are nobody else's -/
theorem RA.osar {z i : Nat} {o : Option Nat} (h : RA s x B H C Y P m rt K L M) (hJ : JV M lv) (hz : z = x + 2 ∨ z = x + 10 ∨ z = x + 11) : RA (fx_sar s z i o) x B H C Y P m rt K L M := by
  have hin := h.sk.c.in_
  have zB : ∀ v, v < m → z < B v := fun v hv => by have := hin v hv; omega
  have zK : ∀ a, K a → z ≠ a + 1 := fun a ha => by have := h.k.in_ a ha; omega
  exact ⟨h.sk.sar (by omega) (fun v hv q => by have := zB v hv; omega), h.t, h.g, h.s.sar (fun v hv q => by have := zB v hv; omega), h.p, h.w, h.r, h.x, h.m, h.o, h.k.sar zK h.o.kp h.o.kw, h.f.sar (fun v hv q => by have := zB v hv; omega) (fun f hf q => zK _ (h.o.kp _ (hJ.j2 f hf).2.2.1 (hJ.j2 f hf).1) q) (fun v hv q => by have := zB v hv; omega), h.v.sar (fun v hv q => by have := zB v hv; omega), h.nm⟩
/-- the object of a flit, if there is one -/
def fob (s : fx_S) (P : Nat → Nat) (M : rf_M) (f : Option Nat) : Option Nat := f.bind (fun f => fx_ar s (P (spk M f) + 1) (rn M ff_Mod_number f))
theorem RA.fob1 {f : Nat} (h : RA s x B H C Y P m rt K L M) (hJ : JV M lv) (hf : f < (rn M ff_Mod_flits 0)) : ∃ F, fob s P M (some f) = some F ∧ FO s P M f F := by
  obtain ⟨q1, q2, q3, -⟩ := hJ.j2 f hf
  have ne := h.k.fp (spk M f) (rn M ff_Mod_number f) q3 q2
  cases hF : fx_ar s (P (spk M f) + 1) (rn M ff_Mod_number f) with
  | none => exact absurd hF ne
  | some F => exact ⟨F, hF, hf, hF⟩
theorem RA.fob_inj {f g : Option Nat} (h : RA s x B H C Y P m rt K L M) (hJ : JV M lv) (hf : ∀ a, f = some a → a < (rn M ff_Mod_flits 0)) (hg : ∀ a, g = some a → a < (rn M ff_Mod_flits 0)) (e : fob s P M f = fob s P M g) : f = g := by
  cases f with
  | none =>
    cases g with
    | none => rfl
    | some b =>
      obtain ⟨F, e1, -⟩ := h.fob1 hJ (hg b rfl)
      rw [e1] at e; cases e
  | some a =>
    cases g with
    | none =>
      obtain ⟨F, e1, -⟩ := h.fob1 hJ (hf a rfl)
      rw [e1] at e; cases e
    | some b =>
      obtain ⟨F, e1, h1⟩ := h.fob1 hJ (hf a rfl)
      obtain ⟨G, e2, h2⟩ := h.fob1 hJ (hg b rfl)
      rw [e1, e2] at e
      cases e
      have a1 := h.fo hJ h1
      have a2 := h.fo hJ h2
      have q1 := h.p.inj (hJ.j2 a h1.1).2.2.1 (hJ.j2 b h2.1).2.2.1 (hJ.j2 a h1.1).1 (hJ.j2 b h2.1).1 (Option.some.inj (a1.1.symm.trans a2.1))
      have q2 := (nI_eq (by omega) (by omega)).mp (a1.2.1.symm.trans a2.2.1)
      rw [hJ.j3 a b h1.1 h2.1 q1 q2]
/-- objects stay where they are -/
def AK (x : Nat) (s t : fx_S) : Prop := CK x s t ∧ ∀ a, a ≠ x + 2 → a ≠ x + 10 → a ≠ x + 11 → fx_ar t a = fx_ar s a
theorem AK.rf (x : Nat) (s : fx_S) : AK x s s := ⟨CK.rf x s, fun _ _ _ _ => rfl⟩
theorem AK.tr {s t u : fx_S} (h : AK x s t) (g : AK x t u) : AK x s u := ⟨h.1.tr g.1, fun a h1 h2 h3 => (g.2 a h1 h2 h3).trans (h.2 a h1 h2 h3)⟩
theorem AK.sar {s t : fx_S} {z i : Nat} {o : Option Nat} (h : AK x s t) (hz : z = x + 2 ∨ z = x + 10 ∨ z = x + 11) : AK x s (fx_sar t z i o) := ⟨h.1.sar, fun a h1 h2 h3 => by
  rw [← h.2 a h1 h2 h3]
  funext j
  exact ar_ne (fun q => by omega)⟩
theorem AK.gf {s t u : fx_S} (h : AK x s t) (g : GF x t u) : AK x s u := ⟨h.1.gf g, fun a h1 h2 h3 => by rw [g.2.2.2.1]; exact h.2 a h1 h2 h3⟩
theorem AK.fob {t : fx_S} {f : Option Nat} (h : AK x s t) (hA : RA s x B H C Y P m rt K L M) (hJ : JV M lv) (hf : ∀ a, f = some a → a < (rn M ff_Mod_flits 0)) : fob t P M f = fob s P M f := by
  cases f with
  | none => rfl
  | some a =>
    have hk := hA.k.in_ _ (hA.o.kp _ (hJ.j2 a (hf a rfl)).2.2.1 (hJ.j2 a (hf a rfl)).1)
    show fx_ar t (P (spk M a) + 1) (rn M ff_Mod_number a) = fx_ar s (P (spk M a) + 1) (rn M ff_Mod_number a)
    rw [h.2 _ (by omega) (by omega) (by omega)]
theorem k_want {v w f : Nat} (h : RA s x B H C Y P m rt K L M) (hJ : JV M lv) (hN : JN M) (hv : v < (rn M ff_Mod_all 0)) (hw : w < 4) (hf : f < (rn M ff_Mod_flits 0)) (k : ∀ t, GF x s t → RA t x B H C Y P m rt K L M → Q (some (vI (fx_bit (swant M v w (sg M f))))) t) : fx_M mm_Grid_isWanted [vR 13 (some (x + 3)), vI (nI v), vI (nI w), vI (nI (sg M f))] s Q := by
  obtain ⟨n2, n9, nn⟩ := hJ.n2
  have hg : sg M f < (rn M ff_Mod_all 0) := (hJ.j6 _ (hJ.j2 f hf).2.2.1 (hJ.j2 f hf).1).2.2.1
  exact k_isWanted h.sk.a h.g.a h.g.b n2 n9 nn hJ.all64 hN.co hg hv hw (fun d e hd he => hN.want n2 n9 nn hv hg hd he) (fun t a1 a2 a3 a4 a5 => k t a1 (h.gf a1 a3 a4))
theorem RA.gl {f F : Nat} (h : RA s x B H C Y P m rt K L M) (hJ : JV M lv) (hF : FO s P M f F) : fx_fi s ff_Packet_goal (P (spk M f)) = nI (sg M f) ∧ sg M f < 64 := by
  have a := h.fo hJ hF
  have q := (hJ.j2 f hF.1).2.2.1
  exact ⟨a.2.2.2.2.1.goal.trans (hJ.ri.e ff_Mod_goals (spk M f) (n := 512) rfl q (by decide)), hJ.ri.l ff_Mod_goals (spk M f) 64 (n := 512) rfl q rfl (by omega)⟩
theorem k_best {v f : Nat} (h : RA s x B H C Y P m rt K L M) (hJ : JV M lv) (hN : JN M) (hv : v < (rn M ff_Mod_all 0)) (hf : f < (rn M ff_Mod_flits 0)) (hat : rn M ff_Mod_at f = v) (ho : ∀ w, w < 4 → (fx_ar s (x + 2) w = none ↔ sgiv M v w = false)) (k : ∀ t, GF x s t → RA t x B H C Y P m rt K L M → Q (some (vI (oI (sgv M v f)))) t) : fx_M mm_Router_bestWayLeft [vR 19 (some (x + 1)), vI (nI v), vI (nI (sg M f))] s Q := by
  have h64 := hJ.all64
  refine xx_i ml110 ?_
  refine xx_km ee110_0 rfl ?_
  have key : ∀ d j t, j + d = 4 → GF x s t → RA t x B H C Y P m rt K L M → (∀ w, w < j → (sfree M v w && swant M v w (sg M f)) = false) → ∀ lo, (lo = none → ∀ w, w < j → sfree M v w = false) → (∀ b, lo = some b → b < j ∧ sfree M v b = true ∧ ∀ w, w < b → sfree M v w = false) → fx_W 110 5 [some (vR 19 (some (x + 1))), some (vI (nI v)), some (vI (nI (sg M f))), some (vI (oI lo)), some (vI (nI j))] [] t Q := by
    intro d
    induction d with
    | zero =>
      intro j t hj hG1 hA hno lo l1 l2
      obtain rfl : j = 4 := by omega
      refine xx_j ee110_5 rfl trivial ?_
      refine xx_k ee110_7 4 rfl ?_
      refine xx_ge ee110_8 (by omega) (by omega) (fun _ => ?_) (fun h => by omega)
      refine xx_j ee110_65 rfl trivial ?_
      refine xx_ri ee110_66 rt110 ?_
      have e1 : sp_first (fun w => sfree M v w && swant M (rn M ff_Mod_at f) w (sg M f)) 0 4 = none := sp_first_none.mpr (fun w _ hw => by rw [hat]; exact hno w (by omega))
      have e2 : sgv M v f = lo := by
        unfold sgv
        rw [e1]
        show sp_first (sfree M v) 0 4 = lo
        cases hlo : lo with
        | none => exact sp_first_none.mpr (fun w _ hw => l1 hlo w (by omega))
        | some b =>
          obtain ⟨b1, b2, b3⟩ := l2 b hlo
          exact sp_first_some.mpr ⟨by omega, by omega, b2, fun w _ hw => b3 w hw⟩
      have := k t hG1 hA
      rw [e2] at this
      exact this
    | succ d ih =>
      intro j t hj hG1 hA hno lo l1 l2
      have hot : fx_ar t (x + 2) j = fx_ar s (x + 2) j := by rw [hG1.2.2.2.1]
      have nxt : ∀ t2, GF x s t2 → RA t2 x B H C Y P m rt K L M → (sfree M v j && swant M v j (sg M f)) = false → ∀ lo2, (lo2 = none → ∀ w, w < j + 1 → sfree M v w = false) → (∀ b, lo2 = some b → b < j + 1 ∧ sfree M v b = true ∧ ∀ w, w < b → sfree M v w = false) → fx_W 110 59 [some (vR 19 (some (x + 1))), some (vI (nI v)), some (vI (nI (sg M f))), some (vI (oI lo2)), some (vI (nI j))] [] t2 Q := by
        intro t2 hG2 hA2 hn lo2 c1 c2
        first | refine xx_inc ee110_59 rfl ?_ | refine xx_j ee110_59 rfl trivial ?_
        refine xx_j ee110_62 rfl trivial ?_
        refine ih (j + 1) t2 (by omega) hG2 hA2 (fun w hw => ?_) lo2 c1 c2
        by_cases c : w = j
        · rw [c]; exact hn
        · exact hno w (by omega)
      have nof : sfree M v j = false → ∀ t2, GF x s t2 → RA t2 x B H C Y P m rt K L M → fx_W 110 59 [some (vR 19 (some (x + 1))), some (vI (nI v)), some (vI (nI (sg M f))), some (vI (oI lo)), some (vI (nI j))] [] t2 Q := by
        intro hs t2 hG2 hA2
        refine nxt t2 hG2 hA2 (by rw [hs]; rfl) lo (fun e w hw => ?_) (fun b hb => ?_)
        · by_cases c : w = j
          · rw [c]; exact hs
          · exact l1 e w (by omega)
        · obtain ⟨b1, b2, b3⟩ := l2 b hb
          exact ⟨by omega, b2, b3⟩
      refine xx_j ee110_5 rfl trivial ?_
      refine xx_k ee110_7 4 rfl ?_
      refine xx_ge ee110_8 (by omega) (by omega) (fun h => by omega) (fun _ => ?_)
      refine xx_j ee110_11 rfl trivial ?_
      refine xx_gr ee110_12 hA.sk.a.out rfl rfl ?_
      refine xx_j ee110_15 rfl trivial ?_
      refine xx_rl ee110_17 hA.sk.a.lout (by omega) (by decide) hot rfl ?_
      refine xx_nn ee110_18 (fun b hb => ?_) (fun hn => ?_)
      · refine nof ?_ t hG1 hA
        unfold sfree
        cases hg : sgiv M v j with
        | true => simp
        | false => rw [(ho j (by omega)).mpr hg] at hb; cases hb
      have hgv : sgiv M v j = false := (ho j (by omega)).mp hn
      refine xx_j ee110_21 rfl trivial ?_
      refine xx_gr ee110_22 hA.sk.a.rgrid rfl rfl ?_
      refine xx_j ee110_25 rfl trivial ?_
      refine xx_j ee110_26 rfl trivial ?_
      refine xx_c ee110_28 rfl (k_isOpen hA.sk.a hA.g.a h64 hv (by omega) ?_)
      refine xx_z ee110_31 (fun hc => nof (by unfold sfree; rw [hc]; rfl) t hG1 hA) (fun hop => ?_)
      have hfr : sfree M v j = true := by unfold sfree; rw [hop, hgv]; rfl
      refine xx_j ee110_34 rfl trivial ?_
      refine xx_gr ee110_35 hA.sk.a.rgrid rfl rfl ?_
      refine xx_j ee110_38 rfl trivial ?_
      refine xx_j ee110_39 rfl trivial ?_
      refine xx_j ee110_41 rfl trivial ?_
      refine xx_c ee110_42 rfl (k_want hA hJ hN hv (by omega) hf (fun t2 hG2 hA2 => ?_))
      refine xx_z ee110_45 (fun hw => ?_) (fun hw => ?_)
      · refine xx_j ee110_51 rfl trivial ?_
        refine xx_km ee110_52 rfl ?_
        refine xx_one ee110_53 (fun b hb => by have := (l2 b hb).1; omega) (fun b hb => ?_) (fun hn => ?_)
        · refine nxt t2 (hG1.tr hG2) hA2 (by rw [hw, Bool.and_false]) lo (fun e => by rw [hb] at e; cases e) (fun c hc => ?_)
          obtain ⟨b1, b2, b3⟩ := l2 c hc
          exact ⟨by omega, b2, b3⟩
        · refine xx_j ee110_56 rfl trivial ?_
          refine xx_j ee110_58 rfl trivial ?_
          refine nxt t2 (hG1.tr hG2) hA2 (by rw [hw, Bool.and_false]) (some j) (fun e => by cases e) (fun c hc => ?_)
          cases hc
          exact ⟨by omega, hfr, fun w hw => l1 hn w hw⟩
      · refine xx_j ee110_48 rfl trivial ?_
        refine xx_ri ee110_50 rt110 ?_
        have e1 : sp_first (fun w => sfree M v w && swant M (rn M ff_Mod_at f) w (sg M f)) 0 4 = some j := sp_first_some.mpr ⟨by omega, by omega, by rw [hat, hfr, hw]; rfl, fun w _ hw => by rw [hat]; exact hno w hw⟩
        have e2 : sgv M v f = some j := by
          unfold sgv
          rw [e1]
        have := k t2 (hG1.tr hG2) hA2
        rw [e2] at this
        exact this
  refine xx_j ee110_1 rfl trivial ?_
  refine xx_k ee110_2 0 rfl ?_
  refine xx_j ee110_3 rfl trivial ?_
  exact key 4 0 s (by omega) (GF.rf x s) h (fun w hw => by omega) none (fun _ w hw => by omega) (fun b hb => by cases hb)
/-! the sorting -/
/-- sorted, and all that lie on the first j lines -/
def SRT (M : rf_M) (v j : Nat) (l : List Nat) : Prop := l.Pairwise (fun a b => sah M a b = true) ∧ (∀ f, f ∈ l ↔ ∃ i, i < j ∧ sol M v i = some f) ∧ l.length ≤ j ∧ l.Nodup
def RKD (s : fx_S) (x : Nat) (P : Nat → Nat) (M : rf_M) (l : List Nat) : Prop := ∀ i f, l[i]? = some f → fx_ar s (x + 10) i = fob s P M (some f)
theorem SRT.ins {v j k f : Nat} {l : List Nat} (hJ : JV M lv) (h : SRT M v j l) (hf : sol M v j = some f) (h1 : ∀ g, g ∈ l.drop k → sah M f g = true) (h2 : k = 0 ∨ ∃ g, l[k - 1]? = some g ∧ sah M f g = false) (hk : k ≤ l.length) : SRT M v (j + 1) (l.take k ++ f :: l.drop k) := by
  obtain ⟨s1, s2, s3, s4⟩ := h
  have fl := sol_some hf
  have nf : ∀ g, g ∈ l → g ≠ f ∧ g < (rn M ff_Mod_flits 0) := by
    intro g hg
    obtain ⟨i, i1, i2⟩ := (s2 g).mp hg
    have := sol_some i2
    exact ⟨fun q => by rw [q] at this; omega, this.1⟩
  have before : ∀ g, g ∈ l.take k → sah M g f = true := by
    intro g hg
    rcases h2 with e | ⟨b, b1, b2⟩
    · rw [e] at hg; simp at hg
    · have hb := nf b (List.mem_of_getElem? b1)
      have hbf : sah M b f = true := by rw [sah_tot hJ hb.2 fl.1 hb.1, b2]; rfl
      by_cases c : g = b
      · rw [c]; exact hbf
      · have hgl := nf g (List.mem_of_mem_take hg)
        -- g lies before b
        obtain ⟨i, i1, i2⟩ := List.getElem_of_mem hg
        have i3 : i < k := by have := i1; rw [List.length_take] at this; omega
        have i4 : l[i]? = some g := by rw [← i2, List.getElem_take]; exact List.getElem?_eq_getElem _
        have hik : i < k - 1 := by
          by_cases q : i = k - 1
          · rw [q, b1] at i4; exact absurd (Option.some.inj i4).symm c
          · omega
        obtain ⟨q1, q2⟩ := List.getElem?_eq_some_iff.mp b1
        obtain ⟨r1, r2⟩ := List.getElem?_eq_some_iff.mp i4
        have hgb : sah M g b = true := by
          have := List.pairwise_iff_getElem.mp s1 i (k - 1) r1 q1 hik
          rw [r2, q2] at this
          exact this
        exact sah_tr hgb hbf (fun z => c (skey_inj hJ hgl.2 hb.2 z)) (fun z => hb.1 (skey_inj hJ hb.2 fl.1 z))
  refine ⟨?_, fun g => ?_, ?_, ?_⟩
  · have hs := s1
    rw [← List.take_append_drop k l] at hs
    rw [List.pairwise_append] at hs ⊢
    refine ⟨hs.1, List.pairwise_cons.mpr ⟨h1, hs.2.1⟩, fun a ha b hb => ?_⟩
    rcases List.mem_cons.mp hb with q | q
    · rw [q]; exact before a ha
    · exact hs.2.2 a ha b q
  · constructor
    · intro hg
      have : g = f ∨ g ∈ l := by
        rcases List.mem_append.mp hg with q | q
        · exact Or.inr (List.mem_of_mem_take q)
        · rcases List.mem_cons.mp q with q | q
          · exact Or.inl q
          · exact Or.inr (List.mem_of_mem_drop q)
      rcases this with q | q
      · exact ⟨j, by omega, by rw [q]; exact hf⟩
      · obtain ⟨i, i1, i2⟩ := (s2 g).mp q
        exact ⟨i, by omega, i2⟩
    · rintro ⟨i, i1, i2⟩
      by_cases c : i = j
      · rw [c, hf] at i2
        cases i2
        simp
      · have hg := (s2 g).mpr ⟨i, by omega, i2⟩
        rw [← List.take_append_drop k l] at hg
        rcases List.mem_append.mp hg with q | q
        · exact List.mem_append.mpr (Or.inl q)
        · exact List.mem_append.mpr (Or.inr (List.mem_cons_of_mem _ q))
  · simp
    omega
  · have hs := s4
    rw [← List.take_append_drop k l] at hs
    rw [List.nodup_append] at hs ⊢
    refine ⟨hs.1, List.nodup_cons.mpr ⟨fun q => (nf f (List.mem_of_mem_drop q)).1 rfl, hs.2.1⟩, fun a ha b hb => ?_⟩
    rcases List.mem_cons.mp hb with q | q
    · rw [q]; exact (nf a (List.mem_of_mem_take ha)).1
    · exact hs.2.2 a ha b q
end
