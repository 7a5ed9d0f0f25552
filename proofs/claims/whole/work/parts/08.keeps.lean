section
variable {mi pc : Nat} {i : Instr} {np r1 r2 : Nat} {ls : fx_L} {st : List fx_V} {s : fx_S}
theorem fx_keepJ {C : Prop} {pc' : Nat} {st' : List fx_V} (h : fx_inv s ls st) (hst : C → fx_ts s st') : fx_kept s ls st (fx_J C pc' ls st' s) := fun c => ⟨⟨h.1, h.2.1, h.2.2.1, hst c⟩, fx_ext.rf s, rfl⟩
theorem fx_keepL {C : Prop} {pc' k : Nat} {st' : List fx_V} {v : fx_V} (h : fx_inv s ls st) (hv : fx_tv s v) (hst : fx_ts s st') : fx_kept s ls st (fx_J C pc' (fx_set ls k v) st' s) := fun _ => ⟨⟨h.1, h.2.1, h.2.2.1.set hv, hst⟩, fx_ext.rf s, fx_set_len _ _ _⟩
theorem fx_keepS {C : Prop} {pc' : Nat} {st' : List fx_V} {s' : fx_S} (h : fx_inv s ls st) (he : fx_ext s s') (hf : fx_fresh s') (hw : C → fx_wt s') (hst : C → fx_ts s' st') : fx_kept s ls st (fx_J C pc' ls st' s') := fun c => ⟨⟨hf, hw c, h.2.2.1.ext he, hst c⟩, he, rfl⟩
theorem fx_keepB {C : Prop} {p1 p2 : Nat} {st' : List fx_V} (hst : fx_ts s st') : fx_kept s ls st (fx_B C p1 p2 ls st' s) := ⟨rfl, rfl, rfl, rfl, hst, hst⟩
theorem fx_keepK {m2 k : Nat} {as st' : List fx_V} (hp : fx_pop k [] st = some (as, st')) : fx_kept s ls st (fx_K m2 as np ls st' s) := by
  obtain ⟨xs, h1, h2, -⟩ := fx_pop_spec k [] st as st' hp
  exact ⟨rfl, rfl, xs, by simpa using h1, h2⟩
set_option maxHeartbeats 4000000 in
theorem fx_keeps (hok : fx_okT i r1 r2 = true) (h : fx_inv s ls st) : fx_kept s ls st (fx_act mi pc i np r1 r2 ls st s) := by
  obtain ⟨hf, hw, hl, hs⟩ := id h
  unfold fx_act
  split
  all_goals try exact fx_keepJ h (fun _ => hs.cons trivial)
  all_goals try exact fx_keepJ h (fun _ => hs)
  all_goals try (split <;> first | exact trivial | exact fx_keepJ h (fun _ => hs.cons trivial) | exact fx_keepJ h (fun _ => hs.cons (hl _ _ ‹_›)) | exact fx_keepJ h (fun _ => hs.tl.tl.cons trivial) | exact fx_keepJ h (fun _ => hs.tl.cons trivial) | exact fx_keepJ h (fun _ => hs.tl) | exact fx_keepL h trivial hs.tl | exact fx_keepL h hs.hd hs.tl | exact fx_keepL h trivial hs | exact fx_keepB hs.tl | exact fx_keepB hs.tl.tl | exact fx_keepJ h (fun _ => hs.cons trivial) | exact fx_keepJ h (fun _ => hs.cons hs.hd) | exact fx_keepJ h (fun _ => (hs.cons hs.tl.hd).cons hs.hd))
  · -- getfield
    split
    · rename_i c a st' 
      cases hc : (c == 10 + r1 / 64)
      · exact trivial
      · cases h2 : Nat.ble r2 1
        · refine fx_keepJ h (fun _ => hs.tl.cons ?_)
          have hr : fx_ft r1 = r2 := by simpa [fx_okT] using hok
          have h3 : 2 ≤ r2 := by
            rcases Nat.lt_or_ge 1 r2 with q | q
            · exact q
            · rw [Nat.ble_eq_true_of_le q] at h2; cases h2
          have hk := hs.hd
          have hc' : c = 10 + r1 / 64 := by simpa using hc
          cases hb : fx_fr s r1 a with
          | none => exact trivial
          | some b => exact ⟨by rw [← hr]; exact hw.1 a r1 b (hk.1.trans hc') (by omega) hb, by omega⟩
        · exact fx_keepJ h (fun _ => hs.tl.cons trivial)
    · exact trivial
  · -- putfield
    split
    · rename_i x c a st'
      cases hc : (c == 10 + r1 / 64 && Nat.ble r2 1)
      · exact trivial
      · exact fx_keepS h (fx_ext_sfi s _ _ _) hf (fun _ => hw) (fun _ => hs.tl.tl)
    · rename_i c2 v c a st'
      cases hc : (c == 10 + r1 / 64 && Nat.ble 2 r2)
      · exact trivial
      · have hr : fx_ft r1 = r2 := by simpa [fx_okT] using hok
        refine fx_keepS h (fx_ext_sfr s _ _ _) hf (fun g => fx_wt_sfr hw (fun b hb => ?_)) (fun _ => hs.tl.tl)
        subst hb
        rcases g with g | g
        · rw [hr, ← g]; exact hs.hd.1
        · cases g
    · exact trivial
  · -- new
    cases Nat.ble 900 r1
    · cases h1 : Nat.ble r1 12
      · exact trivial
      · have h1' : r1 ≤ 12 := Nat.le_of_ble_eq_true h1
        have ht : fx_ia (10 + r1) = false := by
          simp only [fx_ia, Bool.or_eq_false_iff, beq_eq_false_iff_ne]
          omega
        have he := fx_ext_new (10 + r1) r2 hf
        refine fx_keepS h he (fx_fresh_at hf rfl rfl) (fun _ => fx_wt_new _ _ ht hf hw) (fun _ => (hs.ext he).cons ⟨?_, by omega⟩)
        show fx_at (fx_kd s) (fx_nx s) (10 + r1) (fx_nx s) = _
        simp [fx_at]
    · exact ⟨rfl, fun v hv => by cases hv; exact trivial⟩
  · -- newarray
    split
    · cases h1 : (Nat.ble 70 r1 && Nat.ble r1 72)
      · exact trivial
      · rename_i x st'
        simp only [Bool.and_eq_true] at h1
        have h1' : 70 ≤ r1 := Nat.le_of_ble_eq_true h1.1
        have he := fx_ext_newa r1 x.toNatClampNeg hf
        refine fx_keepS h he (fx_fresh_at hf rfl rfl) (fun _ => fx_wt_newa _ _ (by omega) hf hw) (fun _ => (hs.tl.ext he).cons ⟨?_, by omega⟩)
        show fx_at (fx_kd s) (fx_nx s) r1 (fx_nx s) = _
        simp [fx_at]
    · exact trivial
  · -- anewarray
    split
    · cases h1 : fx_ia (40 + r1)
      · exact trivial
      · rename_i x st'
        have he := fx_ext_newa (40 + r1) x.toNatClampNeg hf
        refine fx_keepS h he (fx_fresh_at hf rfl rfl) (fun _ => fx_wt_newa _ _ (by omega) hf hw) (fun _ => (hs.tl.ext he).cons ⟨?_, by omega⟩)
        show fx_at (fx_kd s) (fx_nx s) (40 + r1) (fx_nx s) = _
        simp [fx_at]
    · exact trivial
  · -- arraylength
    split
    · rename_i c a st'
      cases hc : (c == 73)
      · exact trivial
      · exact fx_keepJ h (fun _ => hs.tl.cons trivial)
    · exact trivial
  · -- iaload
    split
    · rename_i j c a st'
      cases hc : (c == 70 || c == 73)
      · exact trivial
      · exact fx_keepJ h (fun _ => hs.tl.tl.cons trivial)
    · exact trivial
  · -- baload
    split
    · rename_i j c a st'
      cases hc : (c == 71)
      · exact trivial
      · exact fx_keepJ h (fun _ => hs.tl.tl.cons trivial)
    · exact trivial
  · -- laload
    split
    · rename_i j c a st'
      cases hc : (c == 72)
      · exact trivial
      · exact fx_keepJ h (fun _ => hs.tl.tl.cons trivial)
    · exact trivial
  · -- aaload
    split
    · rename_i j c a st'
      cases hc : fx_ia c
      · exact trivial
      · refine fx_keepJ h (fun _ => hs.tl.tl.cons ?_)
        have hk := hs.tl.hd
        have h5 : 41 ≤ c := by
          simp only [fx_ia, Bool.or_eq_true, beq_iff_eq] at hc
          omega
        cases hb : fx_ar s a j.toNatClampNeg with
        | none => exact trivial
        | some b => exact ⟨by rw [hw.2 a _ b (by rw [hk.1]; exact hc) hb, hk.1], by omega⟩
    · exact trivial
  · -- iastore
    split
    · rename_i x j c a st'
      cases hc : (c == 70)
      · exact trivial
      · exact fx_keepS h (fx_ext_sai s _ _ _) hf (fun _ => hw) (fun _ => hs.tl.tl.tl)
    · exact trivial
  · -- bastore
    split
    · rename_i x j c a st'
      cases hc : (c == 71)
      · exact trivial
      · exact fx_keepS h (fx_ext_sai s _ _ _) hf (fun _ => hw) (fun _ => hs.tl.tl.tl)
    · exact trivial
  · -- lastore
    split
    · rename_i x j c a st'
      cases hc : (c == 72)
      · exact trivial
      · exact fx_keepS h (fx_ext_sal s _ _ _) hf (fun _ => hw) (fun _ => hs.tl.tl.tl)
    · exact trivial
  · -- aastore
    split
    · rename_i c2 v j c a st'
      cases hc : fx_ia c
      · exact trivial
      · refine fx_keepS h (fx_ext_sar s _ _ _) hf (fun g => fx_wt_sar hw (fun b hb => ?_)) (fun _ => hs.tl.tl.tl)
        subst hb
        rcases g.2 with g | g
        · rw [hs.tl.tl.hd.1, ← g]; exact hs.hd.1
        · cases g
    · exact trivial
  · -- ireturn
    split
    · exact ⟨rfl, fun v hv => by cases hv; exact trivial⟩
    · exact trivial
  · split
    · exact ⟨rfl, fun v hv => by cases hv; exact hs.hd⟩
    · exact trivial
  · split
    · exact ⟨rfl, fun v hv => by cases hv⟩
    · exact trivial
  · -- invokespecial
    cases (r1 == 1000)
    · dsimp only [cond]
      split
      · rename_i c a as st' hp
        cases (c == r2 / 16 && Nat.ble st'.length 4 && fx_nol as)
        · exact trivial
        · exact fx_keepK hp
      · exact trivial
    · dsimp only [cond]
      split
      · rename_i st'
        cases (Nat.ble st'.length 4)
        · exact trivial
        · exact fx_keepJ h (fun _ => hs.tl)
      · exact trivial
  · split
    · rename_i c a as st' hp
      cases (c == r2 / 16 && Nat.ble st'.length 4 && fx_nol as)
      · exact trivial
      · exact fx_keepK hp
    · exact trivial
  · cases (r1 == 1001)
    · dsimp only [cond]
      split
      · rename_i as st' hp
        cases (Nat.ble st'.length 4 && fx_nol as)
        · exact trivial
        · exact fx_keepK hp
      · exact trivial
    · dsimp only [cond]
      split
      · rename_i y x st'
        cases (Nat.ble st'.length 4)
        · exact trivial
        · exact fx_keepJ h (fun _ => hs.tl.tl.cons trivial)
      · exact trivial
  · exact trivial
end
