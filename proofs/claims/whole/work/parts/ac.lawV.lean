/-! THE LAW'S CALL of its own take -/
section
variable {p : Program} {l : Launch} {e : Env} {u : State} {m : MethodId} {args : Array Value} {below : List Frame} {meth : Method} {c : Code} {D : va_G} {dA : Nat → ClassId} {scr : Cell} {Qf : State → Prop}
def lw_ok (u : State) (s : fx_S) : Prop := fx_nx s ≤ u.heap.size + 500000 ∧ fx_sl s ≤ 7000000
set_option maxHeartbeats 1000000 in
theorem lw_LT (I : fx_in 133 p room_1 u m args meth c D dA scr) (htr : e.platform.stackTraces = false) (hB : BX u args) : LT (lw_ok u) (fx_G p l e room_1 u m args below meth c Qf D dA scr u.heap.size u.heap.size 0 133) := by
  have I' := I
  obtain ⟨hx, hb, hml, hown, hts, hnm, hfr, hlw, hctx⟩ := I'
  have rc : room_1.cells = 555888 := rfl
  have rs : room_1.slots = 7428442 := rfl
  have rf : room_1.frames = 10 := rfl
  have rl : room_1.locals = 344 := rfl
  have m7 : fx_ml 133 = 7 := by decide +kernel
  have d292 : decode (fx_cc 133) 292 = .ok (.invokestatic 41, 3) := by decide +kernel
  have cxk : ∀ {sk : State} {H : Heap} {locs : List Loc}, va_S (fun q => u.heap.size ≤ q) u.heap H locs → sk.heap = H → u.WarmedH sk.vm → CX u sk := fun hS e1 hW => ⟨hW, fun q hq => by rw [e1]; exact hS.2.1 q hq (by omega)⟩
  refine ⟨fun ls s x w k v hk hm hc => ?_, fun ls s x w v y hM => ?_⟩
  · obtain ⟨ok1, kk⟩ := hc 1 6 (by omega) (by omega)
    have o1 : fx_nx s + 1 ≤ u.heap.size + 500000 := ok1.1
    have o2 : fx_sl s + 6 ≤ 7000000 := ok1.2
    intro hl hv hn1 hl1 H locs LS hrep hlo hS
    have hts3 : fx_ts s [vR 10 (some x), vI v] := fun z hz => hv.2.2.2 z (by
      rcases List.mem_cons.mp hz with e | e
      · rw [e]; simp
      · rw [List.mem_singleton.mp e]; simp)
    refine in_S (As := [.ref x, .int v, .ref w]) (rest := []) (R' := { frames := 9, cells := 1, slots := 6, locals := 329 }) (Qc := LQ D dA scr u.heap.size (fx_gap s 1 6) (nI k) H) (mc := 1) (ms := 6) (free := fun q => u.heap.size ≤ q) hx hb (own := "FlitTorusLaw") hown (hB.1 _ lt_w1) (hB.1 _ lt_w2) (hB.1 _ lt_w3) (hB.1 _ lt_w4) (by decide) (by decide) lt_len2 (by rw [hml, ← hl]; exact hlo.1.1) d292 (by rw [rf]; show 9 + 1 ≤ 10; omega) (by rw [rl]; show 0 + (4 + 11) + 329 ≤ 344; omega) (by rw [rc]; show _ + 1 ≤ _; omega) (by rw [rs]; show _ + 6 ≤ _; omega) (fun sk mk methk ck bel hin => ?_) (fun vv H1 L hq hL => ?_)
    · exact lt_thrown hk hm hx htr hB (cxk hS hin.1 hin.2.1) rfl hin hrep (hctx.warm hin.2.1) hv.1 hv.2.1 hts3 (Nat.le_refl 9) (Nat.le_refl 329) (Nat.le_refl 1) (Nat.le_refl 6)
    · obtain ⟨sk, t, e1, e2, q1, q2, q3⟩ := hq
      rw [e2] at q2 q3
      cases q1
      have hv' : fx_inv (fx_gap s 1 6) ls [vI (nI k)] := ⟨fun a ha => hv.1 a (Nat.le_trans (Nat.le_add_right _ _) ha), hv.2.1, hv.2.2.1, fun z hz => by
        rw [List.mem_singleton.mp hz]; exact trivial⟩
      have hHs : H.size = fx_nx s := hrep.1
      have hH1 : H1.size = fx_nx s + 1 := q2.1
      have hz1 := hrep.2.1
      have kk := kk hl hv' (Nat.le_trans hn1 (Nat.le_add_right _ _)) (Nat.zero_le _) H1 (locs ++ L) LS q2 hlo ⟨by omega, fun q hq hn => by rw [q3 q (by omega)]; exact hS.2.1 q hq hn, fun q hq => by
        rcases List.mem_append.mp hq with z | z
        · exact hS.2.2 q z
        · exact hL q z⟩
      have f1 : fx_nx (fx_gap s 1 6) - u.heap.size = fx_nx s - u.heap.size + 1 := by
        show fx_nx s + 1 - u.heap.size = _
        omega
      have f2 : fx_sl (fx_gap s 1 6) - 0 = fx_sl s - 0 + 6 := by
        show fx_sl s + 6 - 0 = _
        omega
      rw [f1, f2] at kk
      exact kk
  · obtain ⟨n, hM⟩ := hM
    obtain ⟨r, t, ⟨rfl, ok1, hw1, kk⟩, h2⟩ := fx_one _ _ _ _ _ _ _ hM
    obtain ⟨o1, o2⟩ := ok1
    intro hl hv hn1 hl1 H locs LS hrep hlo hS
    have hts3 : fx_ts s [vR 10 (some x), vI v, vR 72 (some w)] := fun z hz => hv.2.2.2 z (by
      rcases List.mem_cons.mp hz with e | e
      · rw [e]; simp
      · rcases List.mem_cons.mp e with e | e
        · rw [e]; simp
        · rw [List.mem_singleton.mp e]; simp)
    have hts2 : fx_ts s [vR 10 (some x), vI v] := fun z hz => hts3 z (by
      rcases List.mem_cons.mp hz with e | e
      · rw [e]; simp
      · rw [List.mem_singleton.mp e]; simp)
    obtain ⟨f1, f2, f3, f4⟩ := fx_pres _ _ _ _ _ _ _ _ h2 ⟨hv.1, hv.2.1, fx_tl_pad hts2, fun v hv => by cases hv⟩
    have j1 := f3.1
    have j2 := f3.2.1
    refine in_S (As := [.ref x, .int v, .ref w]) (rest := []) (R' := { frames := 9, cells := fx_nx t - fx_nx s, slots := fx_sl t - fx_sl s, locals := 329 }) (Qc := LQ D dA scr u.heap.size (fx_sal t w 0 y.toInt64) (nI 0) H) (mc := fx_nx t - fx_nx s) (ms := fx_sl t - fx_sl s) (free := fun q => u.heap.size ≤ q) hx hb (own := "FlitTorusLaw") hown (hB.1 _ lt_w1) (hB.1 _ lt_w2) (hB.1 _ lt_w3) (hB.1 _ lt_w4) (by decide) (by decide) lt_len2 (by rw [hml, ← hl]; exact hlo.1.1) d292 (by rw [rf]; show 9 + 1 ≤ 10; omega) (by rw [rl]; show 0 + (4 + 11) + 329 ≤ 344; omega) (by rw [rc]; show _ + (fx_nx t - fx_nx s) ≤ _; omega) (by rw [rs]; show _ + (fx_sl t - fx_sl s) ≤ _; omega) (fun sk mk methk ck bel hin => ?_) (fun vv H1 L hq hL => ?_)
    · exact lt_back hx hB (cxk hS hin.1 hin.2.1) rfl hin hrep (hctx.warm hin.2.1) hv.1 hv.2.1 hts3 h2 hw1 (Nat.le_refl 9) (by show 315 ≤ 329; omega) (Nat.le_refl _) (Nat.le_refl _)
    · obtain ⟨sk, t', e1, e2, q1, q2, q3⟩ := hq
      rw [e2] at q2 q3
      cases q1
      have hv' : fx_inv (fx_sal t w 0 y.toInt64) ls [vI (nI 0)] := ⟨f1, f2, hv.2.2.1.ext f3, fun z hz => by
        rw [List.mem_singleton.mp hz]; exact trivial⟩
      have hHs : H.size = fx_nx s := hrep.1
      have hH1 : H1.size = fx_nx t := q2.1
      have hz1 := hrep.2.1
      have kk := kk hl hv' (by show u.heap.size ≤ fx_nx t; omega) (Nat.zero_le _) H1 (locs ++ L) LS q2 hlo ⟨by omega, fun q hq hn => by rw [q3 q (by omega)]; exact hS.2.1 q hq hn, fun q hq => by
        rcases List.mem_append.mp hq with z | z
        · exact hS.2.2 q z
        · exact hL q z⟩
      have f5 : fx_nx (fx_sal t w 0 y.toInt64) - u.heap.size = fx_nx s - u.heap.size + (fx_nx t - fx_nx s) := by
        show fx_nx t - u.heap.size = _
        omega
      have f6 : fx_sl (fx_sal t w 0 y.toInt64) - 0 = fx_sl s - 0 + (fx_sl t - fx_sl s) := by
        show fx_sl t - 0 = _
        omega
      rw [f5, f6] at kk
      exact kk
end
