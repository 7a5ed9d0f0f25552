theorem fx_cat : ∀ st : List fx_V, ((st.map fx_val).map fun v => v.category).sum ≤ 2 * st.length
  | [] => Nat.le_refl _
  | v :: l => by
    have h1 := fx_cat l
    have h2 : (fx_val v).category ≤ 2 := by rcases lv_cat (fx_val v) with h | h <;> omega
    simp only [List.map_cons, List.sum_cons, List.length_cons]
    omega
theorem fx_maxcIn : Cond.code Lib.Math.max.name Lib.Math.max.code 2 (some .int) ∈ fx_T1 := List.mem_filter.mpr ⟨List.mem_of_getElem? fx_maxc, rfl⟩
section
variable {p : Program} {l : Launch} {e : Env} {R : Room} {u : State} {m : MethodId} {args : Array Value} {below : List Frame} {meth : Method} {c : Code} {Qf : State → Prop} {D : va_G} {dA : Nat → ClassId} {scr : Cell} {sz0 nS lS : Nat} {mi pc np r1 r2 : Nat} {i : Instr} {ls : fx_L} {st : List fx_V} {s : fx_S}
set_option maxHeartbeats 8000000 in
theorem fx_stepJ (I : fx_in mi p R u m args meth c D dA scr) (ht : fx_tab mi pc = some (i, np, r1, r2)) (hl : ls.length = fx_ml mi) (hv : fx_inv s ls st) {C : Prop} {pc' : Nat} {ls' : fx_L} {st' : List fx_V} {s' : fx_S} (ha : fx_act mi pc i np r1 r2 ls st s = fx_J C pc' ls' st' s') (hC : C) (hcells : fx_nx s' - nS ≤ R.cells) (hslots : fx_sl s' - lS ≤ R.slots)
    (k : fx_Sd p l e R u m args below meth c Qf D dA scr sz0 nS lS pc' ls' st' s') : fx_Sd p l e R u m args below meth c Qf D dA scr sz0 nS lS pc ls st s := by
  intro hn1 hl1 H locs LS hrep hlo hS
  obtain ⟨w, hok, -⟩ := fx_entry ht
  have I' := I
  obtain ⟨hx, hb, hml, hown, hts, hnm, hfr, hlw, hctx⟩ := I
  simp only [fx_okE, Bool.and_eq_true, decide_eq_true_eq] at hok
  obtain ⟨⟨hokT, hd⟩, hok⟩ := hok
  unfold fx_act at ha
  split at ha
  · -- iconst
    obtain ⟨rfl, rfl, rfl, rfl, rfl⟩ := fx_J_inj ha
    simp only [Bool.and_eq_true, beq_iff_eq, decide_eq_true_eq] at hok
    obtain ⟨h1, h2⟩ := hok
    rw [h1, show pc + 1 - pc = 1 by omega] at hd
    rw [h1] at k
    exact lv_iconst hx hb hd h2 (k hn1 hl1 H locs LS hrep hlo hS)
  · -- bipush
    obtain ⟨rfl, rfl, rfl, rfl, rfl⟩ := fx_J_inj ha
    simp only [Bool.and_eq_true, beq_iff_eq, decide_eq_true_eq] at hok
    obtain ⟨h1, h2⟩ := hok
    rw [h1, show pc + 2 - pc = 2 by omega] at hd
    rw [h1] at k
    exact lv_bipush hx hb hd h2 (k hn1 hl1 H locs LS hrep hlo hS)
  · -- sipush
    obtain ⟨rfl, rfl, rfl, rfl, rfl⟩ := fx_J_inj ha
    simp only [Bool.and_eq_true, beq_iff_eq, decide_eq_true_eq] at hok
    obtain ⟨h1, h2⟩ := hok
    rw [h1, show pc + 3 - pc = 3 by omega] at hd
    rw [h1] at k
    exact lv_sipush hx hb hd h2 (k hn1 hl1 H locs LS hrep hlo hS)
  · -- ldc
    obtain ⟨rfl, rfl, rfl, rfl, rfl⟩ := fx_J_inj ha
    simp only [Bool.and_eq_true, beq_iff_eq, decide_eq_true_eq] at hok
    obtain ⟨h1, h2⟩ := hok
    rw [h1, show pc + 2 - pc = 2 by omega] at hd
    rw [h1] at k
    exact lv_ldc hx hb hown (hts _ (fx_wd_in h2)) hd (k hn1 hl1 H locs LS hrep hlo hS)
  · -- aconst_null
    obtain ⟨rfl, rfl, rfl, rfl, rfl⟩ := fx_J_inj ha
    simp only [beq_iff_eq] at hok
    rw [hok, show pc + 1 - pc = 1 by omega] at hd
    rw [hok] at k
    exact lv_null hx hb hd (k hn1 hl1 H locs LS hrep hlo hS)
  · -- iload_n
    simp only [Bool.and_eq_true, beq_iff_eq, decide_eq_true_eq] at hok
    obtain ⟨h1, h2⟩ := hok
    rw [h1, show pc + 1 - pc = 1 by omega] at hd
    split at ha
    · rename_i x hg
      obtain ⟨rfl, rfl, rfl, rfl, rfl⟩ := fx_J_inj ha
      rw [h1] at k
      have hL := hlo.at hg
      exact lv_iload_n hx hb hd h2 hL (k hn1 hl1 H locs LS hrep hlo hS)
    · exact absurd ha (by simp [fx_J])
  · -- iload
    simp only [Bool.and_eq_true, beq_iff_eq, decide_eq_true_eq] at hok
    obtain ⟨h1, h2⟩ := hok
    rw [h1, show pc + 2 - pc = 2 by omega] at hd
    split at ha
    · rename_i x hg
      obtain ⟨rfl, rfl, rfl, rfl, rfl⟩ := fx_J_inj ha
      rw [h1] at k
      have hL := hlo.at hg
      exact lv_iload hx hb hd (by rw [h2]; exact hL) (k hn1 hl1 H locs LS hrep hlo hS)
    · exact absurd ha (by simp [fx_J])
  · -- aload_n
    simp only [Bool.and_eq_true, beq_iff_eq, decide_eq_true_eq] at hok
    obtain ⟨h1, h2⟩ := hok
    rw [h1, show pc + 1 - pc = 1 by omega] at hd
    split at ha
    · rename_i v hg
      obtain ⟨rfl, rfl, rfl, rfl, rfl⟩ := fx_J_inj ha
      rw [h1] at k
      have hL := hlo.at hg
      obtain ⟨tg, o⟩ := v
      have kk := k hn1 hl1 H locs LS hrep hlo hS
      cases o with
      | none => exact lv_aload_nN hx hb hd h2 hL kk
      | some y => exact lv_aload_n hx hb hd h2 hL kk
    · exact absurd ha (by simp [fx_J])
  · -- aload
    simp only [Bool.and_eq_true, beq_iff_eq, decide_eq_true_eq] at hok
    obtain ⟨h1, h2⟩ := hok
    rw [h1, show pc + 2 - pc = 2 by omega] at hd
    split at ha
    · rename_i v hg
      obtain ⟨rfl, rfl, rfl, rfl, rfl⟩ := fx_J_inj ha
      rw [h1] at k
      have hL := hlo.at hg
      obtain ⟨tg, o⟩ := v
      have kk := k hn1 hl1 H locs LS hrep hlo hS
      cases o with
      | none => exact lv_aloadN hx hb hd (by rw [h2]; exact hL) kk
      | some y => exact lv_aload hx hb hd (by rw [h2]; exact hL) kk
    · exact absurd ha (by simp [fx_J])
  · -- istore_n
    simp only [Bool.and_eq_true, beq_iff_eq, decide_eq_true_eq, Nat.blt_eq] at hok
    obtain ⟨⟨h1, h2⟩, h3⟩ := hok
    rw [h1, show pc + 1 - pc = 1 by omega] at hd
    split at ha
    · rename_i x st'
      obtain ⟨rfl, rfl, rfl, rfl, rfl⟩ := fx_J_inj ha
      rw [h1] at k
      refine lv_istore_n (i := r1) hx hb hd h2 hlo.1 (by rw [hl]; exact h3) rfl (fun LS' hL' => ?_)
      exact k hn1 hl1 H locs LS' hrep (hlo.set (by rw [hl]; exact h3) rfl hL') hS
    · exact absurd ha (by simp [fx_J])
  · -- istore
    simp only [Bool.and_eq_true, beq_iff_eq, decide_eq_true_eq, Nat.blt_eq] at hok
    obtain ⟨⟨h1, h2⟩, h3⟩ := hok
    rw [h1, show pc + 2 - pc = 2 by omega] at hd
    split at ha
    · rename_i x st'
      obtain ⟨rfl, rfl, rfl, rfl, rfl⟩ := fx_J_inj ha
      rw [h1] at k
      refine lv_istore (i := r1) hx hb (by rw [← h2]; exact hd) hlo.1 (by rw [hl]; exact h3) rfl (fun LS' hL' => ?_)
      exact k hn1 hl1 H locs LS' hrep (hlo.set (by rw [hl]; exact h3) rfl hL') hS
    · exact absurd ha (by simp [fx_J])
  · -- astore_n
    simp only [Bool.and_eq_true, beq_iff_eq, decide_eq_true_eq, Nat.blt_eq] at hok
    obtain ⟨⟨h1, h2⟩, h3⟩ := hok
    rw [h1, show pc + 1 - pc = 1 by omega] at hd
    split at ha
    · rename_i v st'
      obtain ⟨rfl, rfl, rfl, rfl, rfl⟩ := fx_J_inj ha
      rw [h1] at k
      obtain ⟨tg, o⟩ := v
      cases o with
      | none =>
        refine lv_astore_nN (i := r1) hx hb hd h2 hlo.1 (by rw [hl]; exact h3) rfl (fun LS' hL' => ?_)
        exact k hn1 hl1 H locs LS' hrep (hlo.set (by rw [hl]; exact h3) rfl hL') hS
      | some y =>
        refine lv_astore_n (i := r1) hx hb hd h2 hlo.1 (by rw [hl]; exact h3) rfl (fun LS' hL' => ?_)
        exact k hn1 hl1 H locs LS' hrep (hlo.set (by rw [hl]; exact h3) rfl hL') hS
    · exact absurd ha (by simp [fx_J])
  · -- astore
    simp only [Bool.and_eq_true, beq_iff_eq, decide_eq_true_eq, Nat.blt_eq] at hok
    obtain ⟨⟨h1, h2⟩, h3⟩ := hok
    rw [h1, show pc + 2 - pc = 2 by omega] at hd
    split at ha
    · rename_i v st'
      obtain ⟨rfl, rfl, rfl, rfl, rfl⟩ := fx_J_inj ha
      rw [h1] at k
      obtain ⟨tg, o⟩ := v
      cases o with
      | none =>
        refine lv_astoreN (i := r1) hx hb (by rw [← h2]; exact hd) hlo.1 (by rw [hl]; exact h3) rfl (fun LS' hL' => ?_)
        exact k hn1 hl1 H locs LS' hrep (hlo.set (by rw [hl]; exact h3) rfl hL') hS
      | some y =>
        refine lv_astore (i := r1) hx hb (by rw [← h2]; exact hd) hlo.1 (by rw [hl]; exact h3) rfl (fun LS' hL' => ?_)
        exact k hn1 hl1 H locs LS' hrep (hlo.set (by rw [hl]; exact h3) rfl hL') hS
    · exact absurd ha (by simp [fx_J])
  · -- iinc
    simp only [Bool.and_eq_true, beq_iff_eq, decide_eq_true_eq, Nat.blt_eq] at hok
    obtain ⟨⟨⟨h1, h2⟩, h3⟩, h4⟩ := hok
    rw [h1, show pc + 3 - pc = 3 by omega] at hd
    split at ha
    · rename_i x hg
      obtain ⟨rfl, rfl, rfl, rfl, rfl⟩ := fx_J_inj ha
      rw [h1] at k
      rw [h2] at hd
      obtain ⟨q, hq⟩ := List.getElem?_of_mem ((fx_pairs_mem ls 0 (r1, Value.int x)).mpr ⟨r1, .inl x, by simp [fx_val], hg⟩)
      refine lv_iinc hx hb hd hlo.1 hq (by rw [h4]) (by rw [hl]; exact h3) rfl (fun LS' hL' => ?_)
      exact k hn1 hl1 H locs LS' hrep (hlo.set (v := .inl (x + fx_ic _)) (by rw [hl]; exact h3) rfl hL') hS
    · exact absurd ha (by simp [fx_J])
  · -- iadd
    simp only [beq_iff_eq] at hok
    rw [hok, show pc + 1 - pc = 1 by omega] at hd
    split at ha
    · rename_i y x st'
      obtain ⟨rfl, rfl, rfl, rfl, rfl⟩ := fx_J_inj ha
      rw [hok] at k
      exact lv_iadd hx hb hd (k hn1 hl1 H locs LS hrep hlo hS)
    · exact absurd ha (by simp [fx_J])
  · -- isub
    simp only [beq_iff_eq] at hok
    rw [hok, show pc + 1 - pc = 1 by omega] at hd
    split at ha
    · rename_i y x st'
      obtain ⟨rfl, rfl, rfl, rfl, rfl⟩ := fx_J_inj ha
      rw [hok] at k
      exact lv_isub hx hb hd (k hn1 hl1 H locs LS hrep hlo hS)
    · exact absurd ha (by simp [fx_J])
  · -- imul
    simp only [beq_iff_eq] at hok
    rw [hok, show pc + 1 - pc = 1 by omega] at hd
    split at ha
    · rename_i y x st'
      obtain ⟨rfl, rfl, rfl, rfl, rfl⟩ := fx_J_inj ha
      rw [hok] at k
      exact lv_imul hx hb hd (k hn1 hl1 H locs LS hrep hlo hS)
    · exact absurd ha (by simp [fx_J])
  · -- idiv
    simp only [beq_iff_eq] at hok
    rw [hok, show pc + 1 - pc = 1 by omega] at hd
    split at ha
    · rename_i y x st'
      obtain ⟨rfl, rfl, rfl, rfl, rfl⟩ := fx_J_inj ha
      rw [hok] at k
      exact lv_idiv hx hb hd hC (k hn1 hl1 H locs LS hrep hlo hS)
    · exact absurd ha (by simp [fx_J])
  · -- irem
    simp only [beq_iff_eq] at hok
    rw [hok, show pc + 1 - pc = 1 by omega] at hd
    split at ha
    · rename_i y x st'
      obtain ⟨rfl, rfl, rfl, rfl, rfl⟩ := fx_J_inj ha
      rw [hok] at k
      exact lv_irem hx hb hd hC (k hn1 hl1 H locs LS hrep hlo hS)
    · exact absurd ha (by simp [fx_J])
  · -- iand
    simp only [beq_iff_eq] at hok
    rw [hok, show pc + 1 - pc = 1 by omega] at hd
    split at ha
    · rename_i y x st'
      obtain ⟨rfl, rfl, rfl, rfl, rfl⟩ := fx_J_inj ha
      rw [hok] at k
      exact lv_iand hx hb hd (k hn1 hl1 H locs LS hrep hlo hS)
    · exact absurd ha (by simp [fx_J])
  · -- ior
    simp only [beq_iff_eq] at hok
    rw [hok, show pc + 1 - pc = 1 by omega] at hd
    split at ha
    · rename_i y x st'
      obtain ⟨rfl, rfl, rfl, rfl, rfl⟩ := fx_J_inj ha
      rw [hok] at k
      exact lv_ior hx hb hd (k hn1 hl1 H locs LS hrep hlo hS)
    · exact absurd ha (by simp [fx_J])
  · -- ixor
    simp only [beq_iff_eq] at hok
    rw [hok, show pc + 1 - pc = 1 by omega] at hd
    split at ha
    · rename_i y x st'
      obtain ⟨rfl, rfl, rfl, rfl, rfl⟩ := fx_J_inj ha
      rw [hok] at k
      exact lv_ixor hx hb hd (k hn1 hl1 H locs LS hrep hlo hS)
    · exact absurd ha (by simp [fx_J])
  · -- ishl
    simp only [beq_iff_eq] at hok
    rw [hok, show pc + 1 - pc = 1 by omega] at hd
    split at ha
    · rename_i y x st'
      obtain ⟨rfl, rfl, rfl, rfl, rfl⟩ := fx_J_inj ha
      rw [hok] at k
      exact lv_ishl hx hb hd (k hn1 hl1 H locs LS hrep hlo hS)
    · exact absurd ha (by simp [fx_J])
  · -- i2l
    simp only [beq_iff_eq] at hok
    rw [hok, show pc + 1 - pc = 1 by omega] at hd
    split at ha
    · rename_i x st'
      obtain ⟨rfl, rfl, rfl, rfl, rfl⟩ := fx_J_inj ha
      rw [hok] at k
      exact lv_i2l hx hb hd rfl (k hn1 hl1 H locs LS hrep hlo hS)
    · exact absurd ha (by simp [fx_J])
  · -- lcmp
    simp only [beq_iff_eq] at hok
    rw [hok, show pc + 1 - pc = 1 by omega] at hd
    split at ha
    · rename_i y x st'
      obtain ⟨rfl, rfl, rfl, rfl, rfl⟩ := fx_J_inj ha
      rw [hok] at k
      exact W.lcmp hx hb hd (k hn1 hl1 H locs LS hrep hlo hS)
    · exact absurd ha (by simp [fx_J])
  · -- dup
    simp only [beq_iff_eq] at hok
    rw [hok, show pc + 1 - pc = 1 by omega] at hd
    split at ha
    · rename_i x st'
      obtain ⟨rfl, rfl, rfl, rfl, rfl⟩ := fx_J_inj ha
      rw [hok] at k
      exact lv_dup hx hb hd rfl (k hn1 hl1 H locs LS hrep hlo hS)
    · rename_i v st'
      obtain ⟨rfl, rfl, rfl, rfl, rfl⟩ := fx_J_inj ha
      rw [hok] at k
      obtain ⟨tg, o⟩ := v
      exact lv_dup hx hb hd (by cases o <;> rfl) (k hn1 hl1 H locs LS hrep hlo hS)
    · exact absurd ha (by simp [fx_J])
  · -- dup2
    simp only [beq_iff_eq] at hok
    rw [hok, show pc + 1 - pc = 1 by omega] at hd
    split at ha
    · rename_i x v st'
      obtain ⟨rfl, rfl, rfl, rfl, rfl⟩ := fx_J_inj ha
      rw [hok] at k
      obtain ⟨tg, o⟩ := v
      exact lv_dup2_11 hx hb hd rfl (by cases o <;> rfl) (k hn1 hl1 H locs LS hrep hlo hS)
    · exact absurd ha (by simp [fx_J])
  · -- pop
    simp only [beq_iff_eq] at hok
    rw [hok, show pc + 1 - pc = 1 by omega] at hd
    split at ha
    · rename_i x st'
      obtain ⟨rfl, rfl, rfl, rfl, rfl⟩ := fx_J_inj ha
      rw [hok] at k
      exact lv_pop hx hb hd rfl (k hn1 hl1 H locs LS hrep hlo hS)
    · rename_i v st'
      obtain ⟨rfl, rfl, rfl, rfl, rfl⟩ := fx_J_inj ha
      rw [hok] at k
      obtain ⟨tg, o⟩ := v
      exact lv_pop hx hb hd (by cases o <;> rfl) (k hn1 hl1 H locs LS hrep hlo hS)
    · exact absurd ha (by simp [fx_J])
  · -- goto
    simp only [Bool.and_eq_true, beq_iff_eq, decide_eq_true_eq] at hok
    obtain ⟨h1, h2⟩ := hok
    rw [h1, show pc + 3 - pc = 3 by omega] at hd
    obtain ⟨rfl, rfl, rfl, rfl, rfl⟩ := fx_J_inj ha
    exact lv_goto hx hb hd h2 (k hn1 hl1 H locs LS hrep hlo hS)
  · -- ifCond
    split at ha
    · exact absurd ha (by simp [fx_J, fx_B])
    · exact absurd ha (by simp [fx_J])
  · -- if_icmp
    split at ha
    · exact absurd ha (by simp [fx_J, fx_B])
    · exact absurd ha (by simp [fx_J])
  · -- ifnull
    split at ha
    · exact absurd ha (by simp [fx_J, fx_B])
    · exact absurd ha (by simp [fx_J])
  · -- ifnonnull
    split at ha
    · exact absurd ha (by simp [fx_J, fx_B])
    · exact absurd ha (by simp [fx_J])
  · -- acmpeq
    split at ha
    · exact absurd ha (by simp [fx_J, fx_B])
    · exact absurd ha (by simp [fx_J])
  · -- acmpne
    split at ha
    · exact absurd ha (by simp [fx_J, fx_B])
    · exact absurd ha (by simp [fx_J])
  · -- tableswitch
    rename_i d lo hi offs
    simp only [Bool.and_eq_true, decide_eq_true_eq] at hok
    obtain ⟨⟨h1, h2⟩, h3⟩ := hok
    split at ha
    · rename_i x st'
      obtain ⟨rfl, rfl, rfl, rfl, rfl⟩ := fx_J_inj ha
      have kk := k hn1 hl1 H locs LS hrep hlo hS
      by_cases hr : x.toInt < lo ∨ hi < x.toInt
      · exact lv_tableOut hx hb hd hr (tgt := fx_sw pc d lo hi offs x) (by simp only [fx_sw, if_pos hr]; omega) kk
      · have hlt : (x.toInt - lo).toNat < offs.size := by rw [h3]; omega
        have ho : offs[(x.toInt - lo).toNat]? = some offs[(x.toInt - lo).toNat] := Array.getElem?_eq_getElem hlt
        have h4 := List.all_eq_true.mp h2 _ (Array.getElem_mem_toList hlt)
        simp only [decide_eq_true_eq] at h4
        exact lv_tableIn hx hb hd (fun q => hr (Or.inl q)) (fun q => hr (Or.inr q)) ho (tgt := fx_sw pc d lo hi offs x) (by simp only [fx_sw, if_neg hr, ho, Option.getD_some]; omega) kk
    · exact absurd ha (by simp [fx_J])
  · -- getfield
    simp only [Bool.and_eq_true, beq_iff_eq, Nat.blt_eq] at hok
    obtain ⟨⟨⟨h1, h2⟩, h3⟩, h4⟩ := hok
    rw [h1, show pc + 3 - pc = 3 by omega] at hd
    split at ha
    · rename_i c' a st'
      cases hc : (c' == 10 + r1 / 64)
      · rw [hc] at ha; exact absurd ha (by simp [fx_J])
      · have hc' : c' = 10 + r1 / 64 := by simpa using hc
        rw [hc] at ha
        have hka := (hv.2.2.2.hd).1.trans hc'
        have hr : fx_ft r1 = r2 := by simpa [fx_okT] using hokT
        cases h5 : Nat.ble r2 1
        · rw [h5] at ha
          obtain ⟨rfl, rfl, rfl, rfl, rfl⟩ := fx_J_inj ha
          rw [h1] at k
          refine fx_getf I' hd (fx_wd_in h4) h2 h3 hka hrep ?_
          rw [fx_fv_r (by rw [hr]; exact Nat.lt_of_not_le (fun q => by rw [Nat.ble_eq_true_of_le q] at h5; cases h5))]
          exact k hn1 hl1 H locs LS hrep hlo hS
        · rw [h5] at ha
          obtain ⟨rfl, rfl, rfl, rfl, rfl⟩ := fx_J_inj ha
          rw [h1] at k
          refine fx_getf I' hd (fx_wd_in h4) h2 h3 hka hrep ?_
          rw [fx_fv_i (by rw [hr]; exact Nat.le_of_ble_eq_true h5)]
          exact k hn1 hl1 H locs LS hrep hlo hS
    · exact absurd ha (by simp [fx_J])
  · -- putfield
    simp only [Bool.and_eq_true, beq_iff_eq, Nat.blt_eq, Bool.or_eq_true, Bool.not_eq_true'] at hok
    obtain ⟨⟨⟨⟨h1, h2⟩, h3⟩, h4⟩, h5⟩ := hok
    rw [h1, show pc + 3 - pc = 3 by omega] at hd
    have hr : fx_ft r1 = r2 := by simpa [fx_okT] using hokT
    split at ha
    · rename_i x c' a st'
      cases hc : (c' == 10 + r1 / 64 && Nat.ble r2 1)
      · rw [hc] at ha; exact absurd ha (by simp [fx_J])
      · rw [hc] at ha
        simp only [Bool.and_eq_true, beq_iff_eq] at hc
        obtain ⟨rfl, rfl, rfl, rfl, rfl⟩ := fx_J_inj ha
        rw [h1] at k
        have hka := (hv.2.2.2.tl.hd).1.trans hc.1
        exact fx_puti I' hd (fx_wd_in h4) h2 h3 h5 hka hrep (by rw [hr]; exact Nat.le_of_ble_eq_true hc.2) (fun q => hC (by rw [← hr]; exact q)) hS (fun H1 locs1 g1 g2 => k hn1 hl1 H1 locs1 LS g1 hlo g2)
    · rename_i c2 v c' a st'
      cases hc : (c' == 10 + r1 / 64 && Nat.ble 2 r2)
      · rw [hc] at ha; exact absurd ha (by simp [fx_J])
      · rw [hc] at ha
        simp only [Bool.and_eq_true, beq_iff_eq] at hc
        obtain ⟨rfl, rfl, rfl, rfl, rfl⟩ := fx_J_inj ha
        rw [h1] at k
        have hka := (hv.2.2.2.tl.hd).1.trans hc.1
        exact fx_putr I' hd (fx_wd_in h4) h2 h3 h5 hka hrep (by rw [hr]; exact Nat.le_of_ble_eq_true hc.2) hS (fun H1 locs1 g1 g2 => k hn1 hl1 H1 locs1 LS g1 hlo g2)
    · exact absurd ha (by simp [fx_J])
  · -- new
    cases h9 : Nat.ble 900 r1
    · rw [h9] at ha
      cases h8 : Nat.ble r1 12
      · rw [h8] at ha; exact absurd ha (by simp [fx_J])
      · rw [h8] at ha
        obtain ⟨rfl, rfl, rfl, rfl, rfl⟩ := fx_J_inj ha
        simp only [Bool.and_eq_true, beq_iff_eq, Bool.or_eq_true, h9, Bool.false_eq_true, false_or] at hok
        obtain ⟨h1, h2, h3⟩ := hok
        rw [h1, show pc + 3 - pc = 3 by omega] at hd
        rw [h1] at k
        obtain ⟨r, hr⟩ := fx_cls_ex (ci := r1) (by have := Nat.le_of_ble_eq_true h8; omega)
        obtain ⟨e1, e2⟩ := fx_Cn_eq hr
        rw [e1] at h2
        rw [e2] at h3
        subst h3
        have a1 : fx_nx (fx_new s (10 + r1) r.2.2) = fx_nx s + 1 := rfl
        have a2 : fx_sl (fx_new s (10 + r1) r.2.2) = fx_sl s + r.2.2 := rfl
        rw [a1] at hcells
        rw [a2] at hslots
        refine fx_newo I' hr hd (fx_wd_in h2) hv.1 hrep (by omega) (by omega) hS (fun H1 g1 g2 => ?_)
        have kk := k (by rw [a1]; omega) (by rw [a2]; omega) H1 locs LS g1 hlo g2
        rw [a1, a2, show fx_nx s + 1 - nS = fx_nx s - nS + 1 by omega, show fx_sl s + r.2.2 - lS = fx_sl s - lS + r.2.2 by omega] at kk
        exact kk
    · rw [h9] at ha; exact absurd ha (by simp [fx_J, fx_T])
  · -- newarray
    rename_i atype
    split at ha
    · rename_i x st'
      cases h8 : (Nat.ble 70 r1 && Nat.ble r1 72)
      · rw [h8] at ha; exact absurd ha (by simp [fx_J])
      · rw [h8] at ha
        obtain ⟨rfl, rfl, rfl, rfl, rfl⟩ := fx_J_inj ha
        simp only [Bool.and_eq_true, beq_iff_eq] at hok
        obtain ⟨⟨h1, h2⟩, h3⟩ := hok
        rw [h1, show pc + 2 - pc = 2 by omega] at hd
        rw [h1] at k
        have a1 : fx_nx (fx_newa s r1 x.toNatClampNeg) = fx_nx s + 1 := rfl
        have a2 : fx_sl (fx_newa s r1 x.toNatClampNeg) = fx_sl s + x.toNatClampNeg := rfl
        rw [a1] at hcells
        rw [a2] at hslots
        have hk3 : ∃ t0 : Nat, (fx_tys dA)[t0]? = some (dA r1, newarray.typeOf atype) ∧ ((r1 = 70 ∧ newarray.typeOf atype = .int) ∨ (r1 = 71 ∧ newarray.typeOf atype = .boolean) ∨ (r1 = 72 ∧ newarray.typeOf atype = .long)) := by
          cases atype <;> simp at h3 <;> subst h3
          · exact ⟨1, rfl, Or.inr (Or.inl ⟨rfl, rfl⟩)⟩
          · exact ⟨0, rfl, Or.inl ⟨rfl, rfl⟩⟩
          · exact ⟨2, rfl, Or.inr (Or.inr ⟨rfl, rfl⟩)⟩
        obtain ⟨t0, g1, g2⟩ := hk3
        refine fx_newp I' g1 g2 hd (fx_wd_in h2) hv.1 hrep hC.1 hC.2 (by omega) (by omega) hS (fun H1 g1 g2 => ?_)
        have kk := k (by rw [a1]; omega) (by rw [a2]; omega) H1 locs LS g1 hlo g2
        rw [a1, a2, show fx_nx s + 1 - nS = fx_nx s - nS + 1 by omega, show fx_sl s + x.toNatClampNeg - lS = fx_sl s - lS + x.toNatClampNeg by omega] at kk
        exact kk
    · exact absurd ha (by simp [fx_J])
  · -- anewarray
    split at ha
    · rename_i x st'
      cases h8 : fx_ia (40 + r1)
      · rw [h8] at ha; exact absurd ha (by simp [fx_J])
      · rw [h8] at ha
        obtain ⟨rfl, rfl, rfl, rfl, rfl⟩ := fx_J_inj ha
        simp only [Bool.and_eq_true, beq_iff_eq, Nat.blt_eq] at hok
        obtain ⟨⟨h1, h2⟩, h3⟩ := hok
        rw [h1, show pc + 3 - pc = 3 by omega] at hd
        rw [h1] at k
        obtain ⟨r, hr⟩ := fx_cls_ex h3
        rw [(fx_Cn_eq hr).1] at h2
        have a1 : fx_nx (fx_newa s (40 + r1) x.toNatClampNeg) = fx_nx s + 1 := rfl
        have a2 : fx_sl (fx_newa s (40 + r1) x.toNatClampNeg) = fx_sl s + x.toNatClampNeg := rfl
        rw [a1] at hcells
        rw [a2] at hslots
        refine fx_newr I' hr h8 hd (fx_wd_in h2) (fx_over h8 hr) hv.1 hrep hC.1 hC.2 (by omega) (by omega) hS (fun H1 g1 g2 => ?_)
        have kk := k (by rw [a1]; omega) (by rw [a2]; omega) H1 locs LS g1 hlo g2
        rw [a1, a2, show fx_nx s + 1 - nS = fx_nx s - nS + 1 by omega, show fx_sl s + x.toNatClampNeg - lS = fx_sl s - lS + x.toNatClampNeg by omega] at kk
        exact kk
    · exact absurd ha (by simp [fx_J])
  · -- arraylength
    simp only [beq_iff_eq] at hok
    rw [hok, show pc + 1 - pc = 1 by omega] at hd
    split at ha
    · rename_i c' a st'
      cases hc : (c' == 73)
      · rw [hc] at ha; exact absurd ha (by simp [fx_J])
      · rw [hc] at ha
        obtain ⟨rfl, rfl, rfl, rfl, rfl⟩ := fx_J_inj ha
        rw [hok] at k
        have hka : fx_kd s a = 73 := (hv.2.2.2.hd).1.trans (by simpa using hc)
        obtain ⟨g1, g2, g3, g4⟩ := (hrep.2.2.2 a).2.2.2.2.2 hka
        exact W.alen (n := nI (fx_ln s a)) hx hb g1 hctx.2.2.2 (by rw [g3]; rfl) rfl rfl hd (k hn1 hl1 H locs LS hrep hlo hS)
    · exact absurd ha (by simp [fx_J])
  · -- iaload
    simp only [beq_iff_eq] at hok
    rw [hok, show pc + 1 - pc = 1 by omega] at hd
    split at ha
    · rename_i j c' a st'
      cases hc : (c' == 70 || c' == 73)
      · rw [hc] at ha; exact absurd ha (by simp [fx_J])
      · rw [hc] at ha
        obtain ⟨rfl, rfl, rfl, rfl, rfl⟩ := fx_J_inj ha
        rw [hok] at k
        have hk0 := (hv.2.2.2.tl.hd).1
        exact fx_aldI I' hd (by rw [hk0]; simpa using hc) hrep hC (k hn1 hl1 H locs LS hrep hlo hS)
    · exact absurd ha (by simp [fx_J])
  · -- baload
    simp only [beq_iff_eq] at hok
    rw [hok, show pc + 1 - pc = 1 by omega] at hd
    split at ha
    · rename_i j c' a st'
      cases hc : (c' == 71)
      · rw [hc] at ha; exact absurd ha (by simp [fx_J])
      · rw [hc] at ha
        obtain ⟨rfl, rfl, rfl, rfl, rfl⟩ := fx_J_inj ha
        rw [hok] at k
        have hk0 := (hv.2.2.2.tl.hd).1
        exact fx_aldZ I' hd (by rw [hk0]; simpa using hc) hrep hC (k hn1 hl1 H locs LS hrep hlo hS)
    · exact absurd ha (by simp [fx_J])
  · -- laload
    simp only [beq_iff_eq] at hok
    rw [hok, show pc + 1 - pc = 1 by omega] at hd
    split at ha
    · rename_i j c' a st'
      cases hc : (c' == 72)
      · rw [hc] at ha; exact absurd ha (by simp [fx_J])
      · rw [hc] at ha
        obtain ⟨rfl, rfl, rfl, rfl, rfl⟩ := fx_J_inj ha
        rw [hok] at k
        have hk0 := (hv.2.2.2.tl.hd).1
        exact fx_aldL I' hd (by rw [hk0]; simpa using hc) hrep hC (k hn1 hl1 H locs LS hrep hlo hS)
    · exact absurd ha (by simp [fx_J])
  · -- aaload
    simp only [beq_iff_eq] at hok
    rw [hok, show pc + 1 - pc = 1 by omega] at hd
    split at ha
    · rename_i j c' a st'
      cases hc : (fx_ia c')
      · rw [hc] at ha; exact absurd ha (by simp [fx_J])
      · rw [hc] at ha
        obtain ⟨rfl, rfl, rfl, rfl, rfl⟩ := fx_J_inj ha
        rw [hok] at k
        have hk0 := (hv.2.2.2.tl.hd).1
        exact fx_aldR I' hd (by rw [hk0]; exact hc) hrep hC (k hn1 hl1 H locs LS hrep hlo hS)
    · exact absurd ha (by simp [fx_J])
  · -- iastore
    simp only [beq_iff_eq] at hok
    rw [hok, show pc + 1 - pc = 1 by omega] at hd
    split at ha
    · rename_i x j c' a st'
      cases hc : (c' == 70)
      · rw [hc] at ha; exact absurd ha (by simp [fx_J])
      · rw [hc] at ha
        obtain ⟨rfl, rfl, rfl, rfl, rfl⟩ := fx_J_inj ha
        rw [hok] at k
        have hk0 := (hv.2.2.2.tl.tl.hd).1
        exact fx_astI I' hd (by rw [hk0]; simpa using hc) hrep hC hS (fun H1 locs1 g1 g2 => k hn1 hl1 H1 locs1 LS g1 hlo g2)
    · exact absurd ha (by simp [fx_J])
  · -- bastore
    simp only [beq_iff_eq] at hok
    rw [hok, show pc + 1 - pc = 1 by omega] at hd
    split at ha
    · rename_i x j c' a st'
      cases hc : (c' == 71)
      · rw [hc] at ha; exact absurd ha (by simp [fx_J])
      · rw [hc] at ha
        obtain ⟨rfl, rfl, rfl, rfl, rfl⟩ := fx_J_inj ha
        rw [hok] at k
        have hk0 := (hv.2.2.2.tl.tl.hd).1
        exact fx_astZ I' hd (by rw [hk0]; simpa using hc) hrep hC.1 hC.2 hS (fun H1 locs1 g1 g2 => k hn1 hl1 H1 locs1 LS g1 hlo g2)
    · exact absurd ha (by simp [fx_J])
  · -- lastore
    simp only [beq_iff_eq] at hok
    rw [hok, show pc + 1 - pc = 1 by omega] at hd
    split at ha
    · rename_i x j c' a st'
      cases hc : (c' == 72)
      · rw [hc] at ha; exact absurd ha (by simp [fx_J])
      · rw [hc] at ha
        obtain ⟨rfl, rfl, rfl, rfl, rfl⟩ := fx_J_inj ha
        rw [hok] at k
        have hk0 := (hv.2.2.2.tl.tl.hd).1
        exact fx_astL I' hd (by rw [hk0]; simpa using hc) hrep hC hS (fun H1 locs1 g1 g2 => k hn1 hl1 H1 locs1 LS g1 hlo g2)
    · exact absurd ha (by simp [fx_J])
  · -- aastore
    simp only [beq_iff_eq] at hok
    rw [hok, show pc + 1 - pc = 1 by omega] at hd
    split at ha
    · rename_i c2 v j c' a st'
      cases hc : fx_ia c'
      · rw [hc] at ha; exact absurd ha (by simp [fx_J])
      · rw [hc] at ha
        obtain ⟨rfl, rfl, rfl, rfl, rfl⟩ := fx_J_inj ha
        rw [hok] at k
        have hk0 := (hv.2.2.2.tl.tl.hd).1
        refine fx_astR I' hd (by rw [hk0]; exact hc) hrep hC.1 (fun b hb => ?_) hS (fun H1 locs1 g1 g2 => k hn1 hl1 H1 locs1 LS g1 hlo g2)
        subst hb
        rcases hC.2 with q | q
        · rw [hk0, ← q]; exact (hv.2.2.2.hd).1
        · cases q
    · exact absurd ha (by simp [fx_J])
  · -- ireturn
    split at ha
    · exact absurd ha (by simp [fx_J, fx_T])
    · exact absurd ha (by simp [fx_J])
  · -- areturn
    split at ha
    · exact absurd ha (by simp [fx_J, fx_T])
    · exact absurd ha (by simp [fx_J])
  · -- return_
    split at ha
    · exact absurd ha (by simp [fx_J, fx_T])
    · exact absurd ha (by simp [fx_J])
  · -- invokespecial
    cases h9 : (r1 == 1000)
    · rw [h9] at ha
      dsimp only [cond] at ha
      split at ha
      · rename_i c' a as st' hp
        cases hq : (c' == r2 / 16 && Nat.ble st'.length 4 && fx_nol as) <;> rw [hq] at ha <;> exact absurd ha (by simp [fx_J, fx_K])
      · exact absurd ha (by simp [fx_J])
    · rw [h9] at ha
      dsimp only [cond] at ha
      split at ha
      · rename_i c' a st'
        cases h8 : Nat.ble st'.length 4
        · rw [h8] at ha; exact absurd ha (by simp [fx_J])
        · rw [h8] at ha
          obtain ⟨rfl, rfl, rfl, rfl, rfl⟩ := fx_J_inj ha
          simp only [Bool.and_eq_true, beq_iff_eq, h9, cond_true] at hok
          obtain ⟨h1, ⟨h2, h3⟩, h4⟩ := hok
          rw [h1, show pc + 3 - pc = 3 by omega] at hd
          rw [h1] at k
          have h3' := Nat.le_of_ble_eq_true h3
          have h4' := Nat.le_of_ble_eq_true h4
          have h8' := Nat.le_of_ble_eq_true h8
          refine W.objInit hx hb hown (hts _ (fx_wd_in h2)) (hts _ (fx_wd_in fx_obj_i)) (hts _ (fx_wd_in fx_obj_c)) rfl (by rw [hml, ← hl]; exact hlo.1.1) rfl hd (by omega) ?_ (k hn1 hl1 H locs LS hrep hlo hS)
          have := fx_cat st'
          show 2 * 0 + _ + 12 ≤ _
          omega
      · exact absurd ha (by simp [fx_J])
  · -- invokevirtual
    split at ha
    · rename_i c' a as st' hp
      cases hq : (c' == r2 / 16 && Nat.ble st'.length 4 && fx_nol as) <;> rw [hq] at ha <;> exact absurd ha (by simp [fx_J, fx_K])
    · exact absurd ha (by simp [fx_J])
  · -- invokestatic
    cases h9 : (r1 == 1001)
    · rw [h9] at ha
      dsimp only [cond] at ha
      split at ha
      · rename_i as st' hp
        cases hq : (Nat.ble st'.length 4 && fx_nol as) <;> rw [hq] at ha <;> exact absurd ha (by simp [fx_J, fx_K])
      · exact absurd ha (by simp [fx_J])
    · rw [h9] at ha
      dsimp only [cond] at ha
      split at ha
      · rename_i y x st'
        cases h8 : Nat.ble st'.length 4
        · rw [h8] at ha; exact absurd ha (by simp [fx_J])
        · rw [h8] at ha
          obtain ⟨rfl, rfl, rfl, rfl, rfl⟩ := fx_J_inj ha
          simp only [Bool.and_eq_true, beq_iff_eq, h9, cond_true] at hok
          obtain ⟨h1, ⟨h2, h3⟩, h4⟩ := hok
          rw [h1, show pc + 3 - pc = 3 by omega] at hd
          rw [h1] at k
          have h3' := Nat.le_of_ble_eq_true h3
          have h4' := Nat.le_of_ble_eq_true h4
          have h8' := Nat.le_of_ble_eq_true h8
          have := fx_cat st'
          exact va_mmax hx hb (by rw [hml, ← hl]; exact hlo.1.1.symm) hown (hts _ (fx_wd_in h2)) (hts _ (fx_wd_in fx_maxs)) (hts _ (fx_wd_in fx_maxn)) (hts _ fx_maxcIn) (by omega) (by omega) hcells hslots hd (k hn1 hl1 H locs LS hrep hlo hS)
      · exact absurd ha (by simp [fx_J])
  · exact absurd ha (by simp [fx_J])
end
