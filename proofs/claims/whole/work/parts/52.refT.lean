/-! THE REFERENCE is made -/
/-- what was there stays, but for the fields of o; k addresses and m cells are new -/
def al_fr (o : Nat) (s t : fx_S) (k m : Nat) : Prop := fx_nx t = fx_nx s + k ∧ fx_sl t = fx_sl s + m ∧ ∀ a, a < fx_nx s → fx_kd t a = fx_kd s a ∧ fx_ln t a = fx_ln s a ∧ fx_ai t a = fx_ai s a ∧ fx_ar t a = fx_ar s a ∧ fx_al t a = fx_al s a ∧ ∀ f, (f < 768 ∨ a ≠ o) → fx_fi t f a = fx_fi s f a ∧ fx_fr t f a = fx_fr s f a
def rf_in (s0 s : fx_S) (o : Nat) (A : Nat → Nat) (L : List Nat) (m : Nat) : Prop :=
  (∀ f, f ∈ L → fx_fr s f o = some (A f) ∧ fx_ln s (A f) = rf_len f ∧ (∀ i, fx_ai s (A f) i = 0) ∧ fx_nx s0 ≤ A f ∧ A f < fx_nx s) ∧
  (∀ f g, f ∈ L → g ∈ L → A f = A g → f = g) ∧ (∀ f, fx_fi s f o = 0) ∧ al_fr o s0 s L.length m
section
variable {mi pc p3 p4 o f n t idx m : Nat} {L : List Nat} {A : Nat → Nat} {ls : fx_L} {st : List fx_V} {s0 s : fx_S} {Q : fx_Q} {ty : Jvm.ClassFile.ArrayType}
theorem nw_step (hi : rf_in s0 s o A L m) (ho : o < fx_nx s0) (hfL : f ∉ L) (hf : 768 ≤ f) (hl : rf_len f = n) (hn : n ≤ 40000) (ht : t = 70 ∨ t = 71) (h3 : fx_tab mi pc = some (.newarray ty, p3, t, 0)) (h4 : fx_tab mi p3 = some (.putfield idx, p4, f, t)) (hc : (22 == 10 + f / 64) = true) (k : ∀ s' A', rf_in s0 s' o A' (f :: L) (m + n) → fx_W mi p4 ls st s' Q) : fx_W mi pc ls (.inl (nI n) :: .inr (.inl (22, some o)) :: st) s Q := by
  obtain ⟨i1, i2, i3, i4, i5, i6⟩ := hi
  have hx : (nI n).toNatClampNeg = n := nI_clamp (by omega)
  refine xx_j (C := ¬ nI n < 0 ∧ (nI n).toNatClampNeg ≤ 40000) (pc' := p3) (ls' := ls) (st' := .inr (.inl (t, some (fx_nx s))) :: .inr (.inl (22, some o)) :: st) (s' := fx_newa s t (nI n).toNatClampNeg) h3 ?_ ⟨?_, by rw [hx]; exact hn⟩ ?_
  · rcases ht with e | e <;> subst e <;> rfl
  · intro q
    have := Int32.lt_iff_toInt_lt.mp q
    rw [nI_toInt (by omega)] at this
    have e0 : (0 : Int32).toInt = 0 := by decide
    omega
  rw [hx]
  refine xx_j (C := t = t ∨ (some (fx_nx s) : Option Nat) = none) (pc' := p4) (ls' := ls) (st' := st) (s' := fx_sfr (fx_newa s t n) f o (some (fx_nx s))) h4 ?_ (Or.inl rfl) ?_
  · rcases ht with e | e <;> subst e <;> simp only [fx_act, hc] <;> rfl
  have hos : o ≠ fx_nx s := by omega
  refine k _ (fun g => if g = f then fx_nx s else A g) ⟨fun g hg => ?_, fun g h hg hh => ?_, i3, ?_, ?_, fun a ha => ?_⟩
  · rcases List.mem_cons.mp hg with e | e
    · subst e
      dsimp only
      rw [if_pos rfl]
      refine ⟨fx_up_same _ _ _ _, ?_, fun i => ?_, by omega, Nat.lt_succ_self _⟩
      · show fx_at (fx_ln s) (fx_nx s) n (fx_nx s) = _
        unfold fx_at
        rw [if_pos rfl, hl]
      · show fx_at (fx_ai s) (fx_nx s) (fun _ => 0) (fx_nx s) i = 0
        unfold fx_at
        rw [if_pos rfl]
    · have hgf : g ≠ f := fun q => hfL (q ▸ e)
      obtain ⟨j1, j2, j3, j4, j5⟩ := i1 g e
      dsimp only
      rw [if_neg hgf]
      have hne : A g ≠ fx_nx s := by omega
      refine ⟨(fx_up_ne (fun q => hgf q.1)).trans j1, ?_, fun i => ?_, j4, Nat.lt_succ_of_lt j5⟩
      · show fx_at (fx_ln s) (fx_nx s) n (A g) = _
        unfold fx_at
        rw [if_neg hne, j2]
      · show fx_at (fx_ai s) (fx_nx s) (fun _ => 0) (A g) i = 0
        unfold fx_at
        rw [if_neg hne, j3]
  · rcases List.mem_cons.mp hg with e | e <;> rcases List.mem_cons.mp hh with e' | e'
    · intro _; rw [e, e']
    · have h1 : h ≠ f := fun q => hfL (q ▸ e')
      have := (i1 h e').2.2.2.2
      dsimp only
      rw [if_pos e, if_neg h1]
      intro q; omega
    · have h1 : g ≠ f := fun q => hfL (q ▸ e)
      have := (i1 g e).2.2.2.2
      dsimp only
      rw [if_neg h1, if_pos e']
      intro q; omega
    · have h1 : g ≠ f := fun q => hfL (q ▸ e)
      have h2 : h ≠ f := fun q => hfL (q ▸ e')
      dsimp only
      rw [if_neg h1, if_neg h2]
      exact i2 g h e e'
  · show fx_nx s + 1 = _
    rw [i4, List.length_cons]
    omega
  · show fx_sl s + n = _
    rw [i5]
    omega
  · obtain ⟨q1, q2, q3, q4, q5, q6⟩ := i6 a ha
    have hne : a ≠ fx_nx s := by omega
    refine ⟨?_, ?_, ?_, ?_, ?_, fun g hg => ⟨(q6 g hg).1, ?_⟩⟩
    · show fx_at (fx_kd s) (fx_nx s) t a = _
      unfold fx_at
      rw [if_neg hne, q1]
    · show fx_at (fx_ln s) (fx_nx s) n a = _
      unfold fx_at
      rw [if_neg hne, q2]
    · show fx_at (fx_ai s) (fx_nx s) (fun _ => 0) a = _
      unfold fx_at
      rw [if_neg hne, q3]
    · show fx_at (fx_ar s) (fx_nx s) (fun _ => none) a = _
      unfold fx_at
      rw [if_neg hne, q4]
    · show fx_at (fx_al s) (fx_nx s) (fun _ => 0) a = _
      unfold fx_at
      rw [if_neg hne, q5]
    · show fx_up (fx_fr s) f o (some (fx_nx s)) g a = _
      rw [fx_up_ne (fun q => by omega)]
      exact (q6 g hg).2
theorem RI.zero : RI (fun _ _ => 0) := by
  refine ⟨fun f i hf hi => ?_, fun i hi => Or.inr ?_, fun i hi => Or.inr ?_⟩
  · have : rn (fun _ _ => 0) f i = 0 := rfl
    exact ⟨by rw [this]; rfl, by rw [this]; omega⟩
  · exact ⟨rfl, (by decide : 0 < 512)⟩
  · exact ⟨rfl, (by decide : 0 < 4)⟩
end
section
variable {s : fx_S} {Q : fx_Q} {o : Nat}
/-- the fields that hold arrays, the last one first -/
def rf_arrs : List Nat := [ff_Mod_went, ff_Mod_hungry, ff_Mod_noteDue, ff_Mod_noteDone, ff_Mod_noteSlot, ff_Mod_taken, ff_Mod_readyTry, ff_Mod_readyLength, ff_Mod_readySource, ff_Mod_readyTag, ff_Mod_readySize, ff_Mod_row, ff_Mod_rowSize, ff_Mod_has, ff_Mod_whichTry, ff_Mod_whose, ff_Mod_again, ff_Mod_agains, ff_Mod_asked, ff_Mod_entered, ff_Mod_slotTry, ff_Mod_tags, ff_Mod_lengths, ff_Mod_goals, ff_Mod_waitTag, ff_Mod_waitLength, ff_Mod_waitGoal, ff_Mod_waits, ff_Mod_way, ff_Mod_tries, ff_Mod_entry, ff_Mod_number, ff_Mod_slot, ff_Mod_source, ff_Mod_line, ff_Mod_at, ff_Mod_away, ff_Mod_closed]
theorem rf_arrs_all : ∀ f, rf_len f ≠ 0 → f ∈ rf_arrs := by
  intro f h
  have h1 : 768 ≤ f := by
    rcases Nat.lt_or_ge f 768 with q | q
    · refine absurd ?_ h
      unfold rf_len
      have : Nat.ble 768 f = false := by
        rw [← Bool.not_eq_true, Nat.ble_eq]
        omega
      rw [this, cond_false]
    · exact q
  have h2 : f < 768 + 51 := by
    rcases Nat.lt_or_ge f (768 + 51) with q | q
    · exact q
    · refine absurd ?_ h
      unfold rf_len
      cases Nat.ble 768 f
      · rfl
      · rw [cond_true, List.getD_eq_getElem?_getD, List.getElem?_eq_none (by simp [rf_lenL]; omega)]
        rfl
  have h3 : ∀ j, j < 51 → rf_len (768 + j) ≠ 0 → 768 + j ∈ rf_arrs := by decide
  have := h3 (f - 768) (by omega)
  rw [show 768 + (f - 768) = f by omega] at this
  exact this h
theorem q_init (ho : o + 1 = fx_nx s) (hz : ∀ f, fx_fi s f o = 0) (k : ∀ s' A M' j, MS (om_rst (om_t0 (fun _ _ => 0)) 2 0 1) M' j → rf_ok s' o A M' → (∀ f, rf_len f ≠ 0 → fx_nx s ≤ A f ∧ A f < fx_nx s') → al_fr o s s' 38 49540 → Q none s') : fx_M mm_Mod_init [vR 22 (some o)] s Q := by
  have hi : rf_in s s o (fun _ => 0) [] 0 := ⟨fun f h => (by cases h), fun f g h => (by cases h), hz, rfl, rfl, fun a ha => ⟨rfl, rfl, rfl, rfl, rfl, fun f _ => ⟨rfl, rfl⟩⟩⟩
  have ho' : o < fx_nx s := by omega
  obtain ⟨s0, hs0⟩ : ∃ s0, s0 = s := ⟨s, rfl⟩
  have hi : rf_in s0 s o (fun _ => 0) [] 0 := by rw [hs0]; exact hi
  rw [← hs0] at k ho'
  clear ho hz hs0
  refine xx_i ml113 ?_
  refine xx_j ee113_0 rfl trivial ?_
  refine xx_j ee113_1 rfl trivial ?_
  refine xx_j ee113_4 rfl trivial ?_
  refine xx_ks ee113_5 256 rfl ?_
  refine nw_step hi ho' (by decide) (by decide) rfl (by decide) (Or.inr rfl) ee113_8 ee113_10 rfl (fun s A hi => ?_)
  refine xx_j ee113_13 rfl trivial ?_
  refine xx_ks ee113_14 4096 rfl ?_
  refine nw_step hi ho' (by decide) (by decide) rfl (by decide) (Or.inl rfl) ee113_17 ee113_19 rfl (fun s A hi => ?_)
  refine xx_j ee113_22 rfl trivial ?_
  refine xx_ks ee113_23 300 rfl ?_
  refine nw_step hi ho' (by decide) (by decide) rfl (by decide) (Or.inl rfl) ee113_26 ee113_28 rfl (fun s A hi => ?_)
  refine xx_j ee113_31 rfl trivial ?_
  refine xx_ks ee113_32 300 rfl ?_
  refine nw_step hi ho' (by decide) (by decide) rfl (by decide) (Or.inl rfl) ee113_35 ee113_37 rfl (fun s A hi => ?_)
  refine xx_j ee113_40 rfl trivial ?_
  refine xx_ks ee113_41 300 rfl ?_
  refine nw_step hi ho' (by decide) (by decide) rfl (by decide) (Or.inl rfl) ee113_44 ee113_46 rfl (fun s A hi => ?_)
  refine xx_j ee113_49 rfl trivial ?_
  refine xx_ks ee113_50 300 rfl ?_
  refine nw_step hi ho' (by decide) (by decide) rfl (by decide) (Or.inl rfl) ee113_53 ee113_55 rfl (fun s A hi => ?_)
  refine xx_j ee113_58 rfl trivial ?_
  refine xx_ks ee113_59 300 rfl ?_
  refine nw_step hi ho' (by decide) (by decide) rfl (by decide) (Or.inl rfl) ee113_62 ee113_64 rfl (fun s A hi => ?_)
  refine xx_j ee113_67 rfl trivial ?_
  refine xx_ks ee113_68 300 rfl ?_
  refine nw_step hi ho' (by decide) (by decide) rfl (by decide) (Or.inl rfl) ee113_71 ee113_73 rfl (fun s A hi => ?_)
  refine xx_j ee113_76 rfl trivial ?_
  refine xx_ks ee113_77 300 rfl ?_
  refine nw_step hi ho' (by decide) (by decide) rfl (by decide) (Or.inl rfl) ee113_80 ee113_82 rfl (fun s A hi => ?_)
  refine xx_j ee113_85 rfl trivial ?_
  refine xx_ks ee113_86 300 rfl ?_
  refine nw_step hi ho' (by decide) (by decide) rfl (by decide) (Or.inl rfl) ee113_89 ee113_91 rfl (fun s A hi => ?_)
  refine xx_j ee113_94 rfl trivial ?_
  refine xx_kb ee113_95 64 rfl ?_
  refine nw_step hi ho' (by decide) (by decide) rfl (by decide) (Or.inl rfl) ee113_97 ee113_99 rfl (fun s A hi => ?_)
  refine xx_j ee113_102 rfl trivial ?_
  refine xx_ks ee113_103 256 rfl ?_
  refine nw_step hi ho' (by decide) (by decide) rfl (by decide) (Or.inl rfl) ee113_106 ee113_108 rfl (fun s A hi => ?_)
  refine xx_j ee113_111 rfl trivial ?_
  refine xx_ks ee113_112 256 rfl ?_
  refine nw_step hi ho' (by decide) (by decide) rfl (by decide) (Or.inl rfl) ee113_115 ee113_117 rfl (fun s A hi => ?_)
  refine xx_j ee113_120 rfl trivial ?_
  refine xx_ks ee113_121 256 rfl ?_
  refine nw_step hi ho' (by decide) (by decide) rfl (by decide) (Or.inl rfl) ee113_124 ee113_126 rfl (fun s A hi => ?_)
  refine xx_j ee113_129 rfl trivial ?_
  refine xx_ks ee113_130 512 rfl ?_
  refine nw_step hi ho' (by decide) (by decide) rfl (by decide) (Or.inl rfl) ee113_133 ee113_135 rfl (fun s A hi => ?_)
  refine xx_j ee113_138 rfl trivial ?_
  refine xx_ks ee113_139 512 rfl ?_
  refine nw_step hi ho' (by decide) (by decide) rfl (by decide) (Or.inl rfl) ee113_142 ee113_144 rfl (fun s A hi => ?_)
  refine xx_j ee113_147 rfl trivial ?_
  refine xx_ks ee113_148 512 rfl ?_
  refine nw_step hi ho' (by decide) (by decide) rfl (by decide) (Or.inl rfl) ee113_151 ee113_153 rfl (fun s A hi => ?_)
  refine xx_j ee113_156 rfl trivial ?_
  refine xx_ks ee113_157 512 rfl ?_
  refine nw_step hi ho' (by decide) (by decide) rfl (by decide) (Or.inl rfl) ee113_160 ee113_162 rfl (fun s A hi => ?_)
  refine xx_j ee113_165 rfl trivial ?_
  refine xx_ks ee113_166 512 rfl ?_
  refine nw_step hi ho' (by decide) (by decide) rfl (by decide) (Or.inl rfl) ee113_169 ee113_171 rfl (fun s A hi => ?_)
  refine xx_j ee113_174 rfl trivial ?_
  refine xx_ks ee113_175 512 rfl ?_
  refine nw_step hi ho' (by decide) (by decide) rfl (by decide) (Or.inr rfl) ee113_178 ee113_180 rfl (fun s A hi => ?_)
  refine xx_j ee113_183 rfl trivial ?_
  refine xx_kb ee113_184 64 rfl ?_
  refine nw_step hi ho' (by decide) (by decide) rfl (by decide) (Or.inl rfl) ee113_186 ee113_188 rfl (fun s A hi => ?_)
  refine xx_j ee113_191 rfl trivial ?_
  refine xx_ks ee113_192 512 rfl ?_
  refine nw_step hi ho' (by decide) (by decide) rfl (by decide) (Or.inl rfl) ee113_195 ee113_197 rfl (fun s A hi => ?_)
  refine xx_j ee113_200 rfl trivial ?_
  refine xx_ks ee113_201 256 rfl ?_
  refine nw_step hi ho' (by decide) (by decide) rfl (by decide) (Or.inl rfl) ee113_204 ee113_206 rfl (fun s A hi => ?_)
  refine xx_j ee113_209 rfl trivial ?_
  refine xx_ks ee113_210 256 rfl ?_
  refine nw_step hi ho' (by decide) (by decide) rfl (by decide) (Or.inl rfl) ee113_213 ee113_215 rfl (fun s A hi => ?_)
  refine xx_j ee113_218 rfl trivial ?_
  refine xx_ks ee113_219 256 rfl ?_
  refine nw_step hi ho' (by decide) (by decide) rfl (by decide) (Or.inl rfl) ee113_222 ee113_224 rfl (fun s A hi => ?_)
  refine xx_j ee113_227 rfl trivial ?_
  refine xx_kb ee113_228 64 rfl ?_
  refine nw_step hi ho' (by decide) (by decide) rfl (by decide) (Or.inl rfl) ee113_230 ee113_232 rfl (fun s A hi => ?_)
  refine xx_j ee113_235 rfl trivial ?_
  refine xx_j ee113_236 rfl trivial ?_
  refine nw_step hi ho' (by decide) (by decide) rfl (by decide) (Or.inl rfl) ee113_238 ee113_240 rfl (fun s A hi => ?_)
  refine xx_j ee113_243 rfl trivial ?_
  refine xx_kb ee113_244 64 rfl ?_
  refine nw_step hi ho' (by decide) (by decide) rfl (by decide) (Or.inl rfl) ee113_246 ee113_248 rfl (fun s A hi => ?_)
  refine xx_j ee113_251 rfl trivial ?_
  refine xx_ks ee113_252 256 rfl ?_
  refine nw_step hi ho' (by decide) (by decide) rfl (by decide) (Or.inl rfl) ee113_255 ee113_257 rfl (fun s A hi => ?_)
  refine xx_j ee113_260 rfl trivial ?_
  refine xx_ks ee113_261 256 rfl ?_
  refine nw_step hi ho' (by decide) (by decide) rfl (by decide) (Or.inl rfl) ee113_264 ee113_266 rfl (fun s A hi => ?_)
  refine xx_j ee113_269 rfl trivial ?_
  refine xx_ks ee113_270 256 rfl ?_
  refine nw_step hi ho' (by decide) (by decide) rfl (by decide) (Or.inl rfl) ee113_273 ee113_275 rfl (fun s A hi => ?_)
  refine xx_j ee113_278 rfl trivial ?_
  refine xx_ks ee113_279 256 rfl ?_
  refine nw_step hi ho' (by decide) (by decide) rfl (by decide) (Or.inl rfl) ee113_282 ee113_284 rfl (fun s A hi => ?_)
  refine xx_j ee113_287 rfl trivial ?_
  refine xx_ks ee113_288 192 rfl ?_
  refine nw_step hi ho' (by decide) (by decide) rfl (by decide) (Or.inl rfl) ee113_291 ee113_293 rfl (fun s A hi => ?_)
  refine xx_j ee113_296 rfl trivial ?_
  refine xx_ks ee113_297 1100 rfl ?_
  refine nw_step hi ho' (by decide) (by decide) rfl (by decide) (Or.inl rfl) ee113_300 ee113_302 rfl (fun s A hi => ?_)
  refine xx_j ee113_305 rfl trivial ?_
  refine xx_ks ee113_306 1100 rfl ?_
  refine nw_step hi ho' (by decide) (by decide) rfl (by decide) (Or.inr rfl) ee113_309 ee113_311 rfl (fun s A hi => ?_)
  refine xx_j ee113_314 rfl trivial ?_
  refine xx_ks ee113_315 1100 rfl ?_
  refine nw_step hi ho' (by decide) (by decide) rfl (by decide) (Or.inl rfl) ee113_318 ee113_320 rfl (fun s A hi => ?_)
  refine xx_j ee113_323 rfl trivial ?_
  refine xx_kb ee113_324 64 rfl ?_
  refine nw_step hi ho' (by decide) (by decide) rfl (by decide) (Or.inl rfl) ee113_326 ee113_328 rfl (fun s A hi => ?_)
  refine xx_j ee113_331 rfl trivial ?_
  refine xx_kb ee113_332 64 rfl ?_
  refine nw_step hi ho' (by decide) (by decide) rfl (by decide) (Or.inl rfl) ee113_334 ee113_336 rfl (fun s A hi => ?_)
  obtain ⟨i1, i2, i3, i4⟩ := hi
  have hR : rf_ok s o A (fun _ _ => 0) := ⟨fun f hf => ⟨(i1 f (rf_arrs_all f hf)).1, (i1 f (rf_arrs_all f hf)).2.1, fun i _ => (i1 f (rf_arrs_all f hf)).2.2.1 i⟩, fun f _ => i3 f, fun f g hf hg => i2 f g (rf_arrs_all f hf) (rf_arrs_all g hg)⟩
  refine xx_j ee113_339 rfl trivial ?_
  refine xx_k ee113_340 2 rfl ?_
  refine xx_k ee113_341 0 rfl ?_
  refine xx_k ee113_342 1 rfl ?_
  refine xx_c ee113_343 rfl (q_reset hR RI.zero (fun h => absurd h (by decide)) (fun a b c ea eb ec _ _ hb _ hc _ M' j hM s' hR' hF => ?_))
  have ha : a = 2 := ((nI_eq (by omega) (by omega)).mp ea).symm
  have hb' : b = 0 := ((nI_eq (by omega) (by omega)).mp eb).symm
  have hc' : c = 1 := ((nI_eq (by omega) (by omega)).mp ec).symm
  subst ha; subst hb'; subst hc'
  refine xx_j ee113_346 rfl trivial ?_
  refine xx_r ee113_347 rfl trivial (k s' A M' j hM hR' (fun f hf => ?_) ?_)
  · have := (i1 f (rf_arrs_all f hf)).2.2.2
    rw [hF.2.2.2.2.2.1]
    exact this
  · obtain ⟨f1, f2, f3, f4, f5, f6, f7, f8, f9⟩ := hF
    refine ⟨f6.trans i4.1, f7.trans i4.2.1, fun a ha => ?_⟩
    obtain ⟨q1, q2, q3, q4, q5, q6⟩ := i4.2.2 a ha
    refine ⟨by rw [f1]; exact q1, by rw [f3]; exact q2, ?_, by rw [f4]; exact q4, by rw [f5]; exact q5, fun f hf => ⟨(f8 f a hf).trans (q6 f hf).1, by rw [f2]; exact (q6 f hf).2⟩⟩
    rw [f9 a (fun f hf => by
      have := (i1 f (rf_arrs_all f hf)).2.2.2.1
      omega)]
    exact q3
end
