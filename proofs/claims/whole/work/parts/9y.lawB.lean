/-! THE LAW: its walk, over any G that goes as the machine goes -/
def LJ (ok : fx_S → Prop) (G : Nat → fx_L → List fx_V → fx_S → Prop) : Prop := ∀ (pc : Nat) (i : Instr) (np r1 r2 : Nat) (ls : fx_L) (st : List fx_V) (s : fx_S) (C : Prop) (pc' : Nat) (ls' : fx_L) (st' : List fx_V) (s' : fx_S), fx_tab 133 pc = some (i, np, r1, r2) → fx_act 133 pc i np r1 r2 ls st s = fx_J C pc' ls' st' s' → C → ok s' → G pc' ls' st' s' → G pc ls st s
def LB (G : Nat → fx_L → List fx_V → fx_S → Prop) : Prop := ∀ (pc : Nat) (i : Instr) (np r1 r2 : Nat) (ls : fx_L) (st : List fx_V) (s : fx_S) (C : Prop) (p1 p2 : Nat) (ls' : fx_L) (st' : List fx_V) (s' : fx_S), fx_tab 133 pc = some (i, np, r1, r2) → fx_act 133 pc i np r1 r2 ls st s = fx_B C p1 p2 ls' st' s' → (C → G p1 ls' st' s') → (¬ C → G p2 ls' st' s') → G pc ls st s
def LK (ok : fx_S → Prop) (G : Nat → fx_L → List fx_V → fx_S → Prop) : Prop := ∀ (pc : Nat) (i : Instr) (np r1 r2 : Nat) (ls : fx_L) (st : List fx_V) (s : fx_S) (m2 pc' : Nat) (as : List fx_V) (ls' : fx_L) (st' : List fx_V) (s' : fx_S), fx_tab 133 pc = some (i, np, r1, r2) → fx_act 133 pc i np r1 r2 ls st s = fx_K m2 as pc' ls' st' s' → m2 < 132 → m2 ≠ mm_Torus_take → as.length ≤ fx_ml m2 → fx_M m2 as s' (fun r s1 => ok s1 ∧ G pc' ls' (r.toList ++ st') s1) → G pc ls st s
/-- the law's own take -/
def LT (ok : fx_S → Prop) (G : Nat → fx_L → List fx_V → fx_S → Prop) : Prop :=
  (∀ (ls : fx_L) (s : fx_S) (x w k : Nat) (v : Int32), (k = 1 ∨ k = 2) → TKm k x v s → (∀ g n, g ≤ 10 → n ≤ 60 → ok (fx_gap s g n) ∧ G 295 ls [vI (nI k)] (fx_gap s g n)) → G 292 ls [vR 72 (some w), vI v, vR 10 (some x)] s) ∧
  ∀ (ls : fx_L) (s : fx_S) (x w : Nat) (v y : Int32), fx_M mm_Torus_take [vR 10 (some x), vI v] s (fun r t => r = some (vI y) ∧ ok t ∧ fx_ln t w = 1 ∧ G 295 ls [vI (nI 0)] (fx_sal t w 0 y.toInt64)) → G 292 ls [vR 72 (some w), vI v, vR 10 (some x)] s
/-- the locals -/
def lw_ls (b x o w i : Nat) (l5 l6 : Option fx_V) : fx_L := [some (vR 73 (some b)), some (vR 10 (some x)), some (vR 22 (some o)), some (vR 72 (some w)), some (vI (nI i)), l5, l6]
section
variable {ok : fx_S → Prop} {G : Nat → fx_L → List fx_V → fx_S → Prop} {n0 l0 x o b L w c i : Nat} {A : Nat → Nat} {xs : Nat → Int32} {s : fx_S} {st : List fx_V} {l5 l6 : Option fx_V}
theorem WS.room1 {t : fx_S} (h : WS n0 l0 x o A b L w xs (c + 1) t) : RO2 n0 l0 c t := by
  obtain ⟨B, H, Y, P, m, rt, K, M, h1, -, -, -, -, -, h2, h3⟩ := h
  have := h1.sk.c.m64
  exact ⟨by omega, by omega⟩
/-- script[i + k] -/
theorem lw_ld (hJ : LJ ok G) (hs : ok s) {p0 p1 p2 p3 p4 p5 k q0 q2 r3 q3 r4 q4 r5 q5 : Nat} {n3 : Int} (h1 : fx_tab 133 p0 = some (.aload_n 0, p1, 0, q0)) (h2 : fx_tab 133 p1 = some (.iload 4, p2, 4, q2)) (h3 : fx_tab 133 p2 = some (.iconst n3, p3, r3, q3)) (hk : fx_ic n3 = nI k) (h4 : fx_tab 133 p3 = some (.iadd, p4, r4, q4)) (h5 : fx_tab 133 p4 = some (.iaload, p5, r5, q5)) (hP : PL s x o A b L w xs) (hi : i + k < L) (hL : L ≤ 2560) (kk : G p5 (lw_ls b x o w i l5 l6) (.inl (xs (i + k)) :: st) s) : G p0 (lw_ls b x o w i l5 l6) st s := by
  refine hJ _ _ _ _ _ _ _ _ _ _ _ _ _ h1 rfl trivial hs ?_
  refine hJ _ _ _ _ _ _ _ _ _ _ _ _ _ h2 rfl trivial hs ?_
  refine hJ _ _ _ _ _ _ _ _ _ _ _ _ _ h3 rfl trivial hs ?_
  refine hJ _ _ _ _ _ _ _ _ _ _ _ _ _ h4 rfl trivial hs ?_
  have e : nI i + fx_ic n3 = nI (i + k) := by rw [hk, nI_add]
  have hc : (nI (i + k)).toNatClampNeg = i + k := nI_clamp (by omega)
  have h := hP.2.2.2.2.2.2.2.1 (i + k) hi
  rw [e]
  refine hJ _ _ _ _ _ _ _ _ (vp_in (nI (i + k)) (fx_ln s b)) p5 _ (.inl (fx_ai s b (nI (i + k)).toNatClampNeg) :: st) _ h5 rfl ?_ hs ?_
  · rw [hP.2.2.2.2.2.2.1]
    exact vp_in_nI hi (by omega)
  · rw [hc, h]; exact kk

theorem lc_reset (hJ : LJ ok G) (hB : LB G) (hK : LK ok G) (hok : ∀ t, RO2 n0 l0 c t → ok t) (hW : WS n0 l0 x o A b L w xs c s) (hi : i + 4 < L) (hL : L ≤ 2560) (hc : c < 2000) (kk : ∀ t, WS n0 l0 x o A b L w xs (c + 1) t → G 550 (lw_ls b x o w i l5 l6) [] t) : G 96 (lw_ls b x o w i l5 l6) [] s := by
  have hs := hok s hW.room
  refine hJ _ _ _ _ _ _ _ _ _ _ _ _ _ ee133_96 rfl trivial hs ?_
  refine lw_ld hJ hs (k := 1) ee133_97 ee133_98 ee133_100 rfl ee133_101 ee133_102 hW.pl (by omega) hL ?_
  refine lw_ld hJ hs (k := 2) ee133_103 ee133_104 ee133_106 rfl ee133_107 ee133_108 hW.pl (by omega) hL ?_
  refine lw_ld hJ hs (k := 3) ee133_109 ee133_110 ee133_112 rfl ee133_113 ee133_114 hW.pl (by omega) hL ?_
  refine hK _ _ _ _ _ _ _ _ _ _ _ _ _ _ ee133_115 rfl (by decide) (by decide) (by rw [ml128]; exact Nat.le_of_ble_eq_true rfl) (xx_q (ws_reset hW) (fun r t h => ?_))
  obtain ⟨h1, h2, y, rfl, h3⟩ := h
  have ht := hok t h1
  refine ⟨ht, ?_⟩
  refine hJ _ _ _ _ _ _ _ _ _ _ _ _ _ ee133_118 rfl trivial ht ?_
  refine lw_ld hJ ht (k := 1) ee133_119 ee133_120 ee133_122 rfl ee133_123 ee133_124 h2 (by omega) hL ?_
  refine lw_ld hJ ht (k := 2) ee133_125 ee133_126 ee133_128 rfl ee133_129 ee133_130 h2 (by omega) hL ?_
  refine lw_ld hJ ht (k := 3) ee133_131 ee133_132 ee133_134 rfl ee133_135 ee133_136 h2 (by omega) hL ?_
  refine hK _ _ _ _ _ _ _ _ _ _ _ _ _ _ ee133_137 rfl (by decide) (by decide) (by rw [ml101]; exact Nat.le_of_ble_eq_true rfl) (xx_q h3 (fun r2 t2 h => ?_))
  obtain ⟨rfl, h4⟩ := h
  have h5 : ok t2 := hok t2 (h4.room1)
  refine ⟨h5, hB _ _ _ _ _ _ _ _ _ _ _ _ _ _ ee133_140 rfl (fun _ => kk t2 h4) (fun q => absurd rfl q)⟩
theorem lc_put (hJ : LJ ok G) (hB : LB G) (hK : LK ok G) (hok : ∀ t, RO2 n0 l0 c t → ok t) (hW : WS n0 l0 x o A b L w xs c s) (hi : i + 4 < L) (hL : L ≤ 2560) (hc : c < 2000) (kk : ∀ t, WS n0 l0 x o A b L w xs (c + 1) t → G 550 (lw_ls b x o w i l5 l6) [] t) : G 210 (lw_ls b x o w i l5 l6) [] s := by
  have hs := hok s hW.room
  refine hJ _ _ _ _ _ _ _ _ _ _ _ _ _ ee133_210 rfl trivial hs ?_
  refine lw_ld hJ hs (k := 1) ee133_211 ee133_212 ee133_214 rfl ee133_215 ee133_216 hW.pl (by omega) hL ?_
  refine lw_ld hJ hs (k := 2) ee133_217 ee133_218 ee133_220 rfl ee133_221 ee133_222 hW.pl (by omega) hL ?_
  refine lw_ld hJ hs (k := 3) ee133_223 ee133_224 ee133_226 rfl ee133_227 ee133_228 hW.pl (by omega) hL ?_
  refine lw_ld hJ hs (k := 4) ee133_229 ee133_230 ee133_232 rfl ee133_233 ee133_234 hW.pl (by omega) hL ?_
  refine hK _ _ _ _ _ _ _ _ _ _ _ _ _ _ ee133_235 rfl (by decide) (by decide) (by rw [ml119]; exact Nat.le_of_ble_eq_true rfl) (xx_q (ws_put hW) (fun r t h => ?_))
  obtain ⟨h1, h2, y, rfl, h3⟩ := h
  have ht := hok t h1
  refine ⟨ht, ?_⟩
  refine hJ _ _ _ _ _ _ _ _ _ _ _ _ _ ee133_238 rfl trivial ht ?_
  refine lw_ld hJ ht (k := 1) ee133_239 ee133_240 ee133_242 rfl ee133_243 ee133_244 h2 (by omega) hL ?_
  refine lw_ld hJ ht (k := 2) ee133_245 ee133_246 ee133_248 rfl ee133_249 ee133_250 h2 (by omega) hL ?_
  refine lw_ld hJ ht (k := 3) ee133_251 ee133_252 ee133_254 rfl ee133_255 ee133_256 h2 (by omega) hL ?_
  refine lw_ld hJ ht (k := 4) ee133_257 ee133_258 ee133_260 rfl ee133_261 ee133_262 h2 (by omega) hL ?_
  refine hK _ _ _ _ _ _ _ _ _ _ _ _ _ _ ee133_263 rfl (by decide) (by decide) (by rw [ml79]; exact Nat.le_of_ble_eq_true rfl) (xx_q h3 (fun r2 t2 h => ?_))
  obtain ⟨rfl, h4⟩ := h
  have h5 : ok t2 := hok t2 (h4.room1)
  refine ⟨h5, hB _ _ _ _ _ _ _ _ _ _ _ _ _ _ ee133_266 rfl (fun _ => kk t2 h4) (fun q => absurd rfl q)⟩
theorem lc_cycle (hJ : LJ ok G) (hB : LB G) (hK : LK ok G) (hok : ∀ t, RO2 n0 l0 c t → ok t) (hW : WS n0 l0 x o A b L w xs c s) (hi : i + 4 < L) (hL : L ≤ 2560) (hc : c < 2000) (kk : ∀ t, WS n0 l0 x o A b L w xs (c + 1) t → G 550 (lw_ls b x o w i l5 l6) [] t) : G 271 (lw_ls b x o w i l5 l6) [] s := by
  have hs := hok s hW.room
  refine hJ _ _ _ _ _ _ _ _ _ _ _ _ _ ee133_271 rfl trivial hs ?_
  refine hK _ _ _ _ _ _ _ _ _ _ _ _ _ _ ee133_272 rfl (by decide) (by decide) (by rw [ml131]; exact Nat.le_of_ble_eq_true rfl) (xx_q (ws_cycle hc hW) (fun r t h => ?_))
  obtain ⟨h1, h2, y, rfl, h3⟩ := h
  have ht := hok t h1
  refine ⟨ht, ?_⟩
  refine hJ _ _ _ _ _ _ _ _ _ _ _ _ _ ee133_275 rfl trivial ht ?_
  refine hK _ _ _ _ _ _ _ _ _ _ _ _ _ _ ee133_276 rfl (by decide) (by decide) (by rw [ml129]; exact Nat.le_of_ble_eq_true rfl) (xx_q h3 (fun r2 t2 h => ?_))
  obtain ⟨rfl, h4⟩ := h
  have h5 : ok t2 := hok t2 (h4.room1)
  refine ⟨h5, hB _ _ _ _ _ _ _ _ _ _ _ _ _ _ ee133_279 rfl (fun _ => kk t2 h4) (fun q => absurd rfl q)⟩
theorem lc_taken (hJ : LJ ok G) (hB : LB G) (hK : LK ok G) (hok : ∀ t, RO2 n0 l0 c t → ok t) (hW : WS n0 l0 x o A b L w xs c s) (hi : i + 4 < L) (hL : L ≤ 2560) (hc : c < 2000) (kk : ∀ t, WS n0 l0 x o A b L w xs (c + 1) t → G 550 (lw_ls b x o w i l5 l6) [] t) : G 340 (lw_ls b x o w i l5 l6) [] s := by
  have hs := hok s hW.room
  refine hJ _ _ _ _ _ _ _ _ _ _ _ _ _ ee133_340 rfl trivial hs ?_
  refine lw_ld hJ hs (k := 1) ee133_341 ee133_342 ee133_344 rfl ee133_345 ee133_346 hW.pl (by omega) hL ?_
  refine lw_ld hJ hs (k := 2) ee133_347 ee133_348 ee133_350 rfl ee133_351 ee133_352 hW.pl (by omega) hL ?_
  refine hK _ _ _ _ _ _ _ _ _ _ _ _ _ _ ee133_353 rfl (by decide) (by decide) (by rw [ml50]; exact Nat.le_of_ble_eq_true rfl) (xx_q (ws_taken hW) (fun r t h => ?_))
  obtain ⟨h1, h2, y, rfl, h3⟩ := h
  have ht := hok t h1
  refine ⟨ht, ?_⟩
  refine hJ _ _ _ _ _ _ _ _ _ _ _ _ _ ee133_356 rfl trivial ht ?_
  refine lw_ld hJ ht (k := 1) ee133_357 ee133_358 ee133_360 rfl ee133_361 ee133_362 h2 (by omega) hL ?_
  refine lw_ld hJ ht (k := 2) ee133_363 ee133_364 ee133_366 rfl ee133_367 ee133_368 h2 (by omega) hL ?_
  refine hK _ _ _ _ _ _ _ _ _ _ _ _ _ _ ee133_369 rfl (by decide) (by decide) (by rw [ml81]; exact Nat.le_of_ble_eq_true rfl) (xx_q h3 (fun r2 t2 h => ?_))
  obtain ⟨rfl, h4⟩ := h
  have h5 : ok t2 := hok t2 (h4.room1)
  refine ⟨h5, hB _ _ _ _ _ _ _ _ _ _ _ _ _ _ ee133_372 rfl (fun _ => kk t2 h4) (fun q => absurd rfl q)⟩
theorem lc_count (hJ : LJ ok G) (hB : LB G) (hK : LK ok G) (hok : ∀ t, RO2 n0 l0 c t → ok t) (hW : WS n0 l0 x o A b L w xs c s) (hi : i + 4 < L) (hL : L ≤ 2560) (hc : c < 2000) (kk : ∀ t, WS n0 l0 x o A b L w xs (c + 1) t → G 550 (lw_ls b x o w i l5 l6) [] t) : G 377 (lw_ls b x o w i l5 l6) [] s := by
  have hs := hok s hW.room
  refine hJ _ _ _ _ _ _ _ _ _ _ _ _ _ ee133_377 rfl trivial hs ?_
  refine lw_ld hJ hs (k := 1) ee133_378 ee133_379 ee133_381 rfl ee133_382 ee133_383 hW.pl (by omega) hL ?_
  refine hK _ _ _ _ _ _ _ _ _ _ _ _ _ _ ee133_384 rfl (by decide) (by decide) (by rw [ml0]; exact Nat.le_of_ble_eq_true rfl) (xx_q (ws_count hW) (fun r t h => ?_))
  obtain ⟨h1, h2, y, rfl, h3⟩ := h
  have ht := hok t h1
  refine ⟨ht, ?_⟩
  refine hJ _ _ _ _ _ _ _ _ _ _ _ _ _ ee133_387 rfl trivial ht ?_
  refine lw_ld hJ ht (k := 1) ee133_388 ee133_389 ee133_391 rfl ee133_392 ee133_393 h2 (by omega) hL ?_
  refine hK _ _ _ _ _ _ _ _ _ _ _ _ _ _ ee133_394 rfl (by decide) (by decide) (by rw [ml25]; exact Nat.le_of_ble_eq_true rfl) (xx_q h3 (fun r2 t2 h => ?_))
  obtain ⟨rfl, h4⟩ := h
  have h5 : ok t2 := hok t2 (h4.room1)
  refine ⟨h5, hB _ _ _ _ _ _ _ _ _ _ _ _ _ _ ee133_397 rfl (fun _ => kk t2 h4) (fun q => absurd rfl q)⟩
theorem lc_node (hJ : LJ ok G) (hB : LB G) (hK : LK ok G) (hok : ∀ t, RO2 n0 l0 c t → ok t) (hW : WS n0 l0 x o A b L w xs c s) (hi : i + 4 < L) (hL : L ≤ 2560) (hc : c < 2000) (kk : ∀ t, WS n0 l0 x o A b L w xs (c + 1) t → G 550 (lw_ls b x o w i l5 l6) [] t) : G 402 (lw_ls b x o w i l5 l6) [] s := by
  have hs := hok s hW.room
  refine hJ _ _ _ _ _ _ _ _ _ _ _ _ _ ee133_402 rfl trivial hs ?_
  refine lw_ld hJ hs (k := 1) ee133_403 ee133_404 ee133_406 rfl ee133_407 ee133_408 hW.pl (by omega) hL ?_
  refine lw_ld hJ hs (k := 2) ee133_409 ee133_410 ee133_412 rfl ee133_413 ee133_414 hW.pl (by omega) hL ?_
  refine hK _ _ _ _ _ _ _ _ _ _ _ _ _ _ ee133_415 rfl (by decide) (by decide) (by rw [ml49]; exact Nat.le_of_ble_eq_true rfl) (xx_q (ws_node hW) (fun r t h => ?_))
  obtain ⟨h1, h2, y, rfl, h3⟩ := h
  have ht := hok t h1
  refine ⟨ht, ?_⟩
  refine hJ _ _ _ _ _ _ _ _ _ _ _ _ _ ee133_418 rfl trivial ht ?_
  refine lw_ld hJ ht (k := 1) ee133_419 ee133_420 ee133_422 rfl ee133_423 ee133_424 h2 (by omega) hL ?_
  refine lw_ld hJ ht (k := 2) ee133_425 ee133_426 ee133_428 rfl ee133_429 ee133_430 h2 (by omega) hL ?_
  refine hK _ _ _ _ _ _ _ _ _ _ _ _ _ _ ee133_431 rfl (by decide) (by decide) (by rw [ml78]; exact Nat.le_of_ble_eq_true rfl) (xx_q h3 (fun r2 t2 h => ?_))
  obtain ⟨rfl, h4⟩ := h
  have h5 : ok t2 := hok t2 (h4.room1)
  refine ⟨h5, hB _ _ _ _ _ _ _ _ _ _ _ _ _ _ ee133_434 rfl (fun _ => kk t2 h4) (fun q => absurd rfl q)⟩
theorem lc_golden (hJ : LJ ok G) (hB : LB G) (hK : LK ok G) (hok : ∀ t, RO2 n0 l0 c t → ok t) (hW : WS n0 l0 x o A b L w xs c s) (hi : i + 4 < L) (hL : L ≤ 2560) (hc : c < 2000) (kk : ∀ t, WS n0 l0 x o A b L w xs (c + 1) t → G 550 (lw_ls b x o w i l5 l6) [] t) : G 439 (lw_ls b x o w i l5 l6) [] s := by
  have hs := hok s hW.room
  refine hJ _ _ _ _ _ _ _ _ _ _ _ _ _ ee133_439 rfl trivial hs ?_
  refine lw_ld hJ hs (k := 1) ee133_440 ee133_441 ee133_443 rfl ee133_444 ee133_445 hW.pl (by omega) hL ?_
  refine hK _ _ _ _ _ _ _ _ _ _ _ _ _ _ ee133_446 rfl (by decide) (by decide) (by rw [ml117]; exact Nat.le_of_ble_eq_true rfl) (xx_q (ws_golden hW) (fun r t h => ?_))
  obtain ⟨h1, h2, y, rfl, h3⟩ := h
  have ht := hok t h1
  refine ⟨ht, ?_⟩
  refine hJ _ _ _ _ _ _ _ _ _ _ _ _ _ ee133_449 rfl trivial ht ?_
  refine lw_ld hJ ht (k := 1) ee133_450 ee133_451 ee133_453 rfl ee133_454 ee133_455 h2 (by omega) hL ?_
  refine hK _ _ _ _ _ _ _ _ _ _ _ _ _ _ ee133_456 rfl (by decide) (by decide) (by rw [ml73]; exact Nat.le_of_ble_eq_true rfl) (xx_q h3 (fun r2 t2 h => ?_))
  obtain ⟨rfl, h4⟩ := h
  have h5 : ok t2 := hok t2 (h4.room1)
  refine ⟨h5, hB _ _ _ _ _ _ _ _ _ _ _ _ _ _ ee133_459 rfl (fun _ => kk t2 h4) (fun q => absurd rfl q)⟩
theorem lc_flit (hJ : LJ ok G) (hB : LB G) (hK : LK ok G) (hok : ∀ t, RO2 n0 l0 c t → ok t) (hW : WS n0 l0 x o A b L w xs c s) (hi : i + 4 < L) (hL : L ≤ 2560) (hc : c < 2000) (kk : ∀ t, WS n0 l0 x o A b L w xs (c + 1) t → G 550 (lw_ls b x o w i l5 l6) [] t) : G 464 (lw_ls b x o w i l5 l6) [] s := by
  have hs := hok s hW.room
  refine hJ _ _ _ _ _ _ _ _ _ _ _ _ _ ee133_464 rfl trivial hs ?_
  refine lw_ld hJ hs (k := 1) ee133_465 ee133_466 ee133_468 rfl ee133_469 ee133_470 hW.pl (by omega) hL ?_
  refine lw_ld hJ hs (k := 2) ee133_471 ee133_472 ee133_474 rfl ee133_475 ee133_476 hW.pl (by omega) hL ?_
  refine lw_ld hJ hs (k := 3) ee133_477 ee133_478 ee133_480 rfl ee133_481 ee133_482 hW.pl (by omega) hL ?_
  refine hK _ _ _ _ _ _ _ _ _ _ _ _ _ _ ee133_483 rfl (by decide) (by decide) (by rw [ml48]; exact Nat.le_of_ble_eq_true rfl) (xx_q (ws_flit hW) (fun r t h => ?_))
  obtain ⟨h1, h2, y, rfl, h3⟩ := h
  have ht := hok t h1
  refine ⟨ht, ?_⟩
  refine hJ _ _ _ _ _ _ _ _ _ _ _ _ _ ee133_486 rfl trivial ht ?_
  refine lw_ld hJ ht (k := 1) ee133_487 ee133_488 ee133_490 rfl ee133_491 ee133_492 h2 (by omega) hL ?_
  refine lw_ld hJ ht (k := 2) ee133_493 ee133_494 ee133_496 rfl ee133_497 ee133_498 h2 (by omega) hL ?_
  refine lw_ld hJ ht (k := 3) ee133_499 ee133_500 ee133_502 rfl ee133_503 ee133_504 h2 (by omega) hL ?_
  refine hK _ _ _ _ _ _ _ _ _ _ _ _ _ _ ee133_505 rfl (by decide) (by decide) (by rw [ml72]; exact Nat.le_of_ble_eq_true rfl) (xx_q h3 (fun r2 t2 h => ?_))
  obtain ⟨rfl, h4⟩ := h
  have h5 : ok t2 := hok t2 (h4.room1)
  refine ⟨h5, hB _ _ _ _ _ _ _ _ _ _ _ _ _ _ ee133_508 rfl (fun _ => kk t2 h4) (fun q => absurd rfl q)⟩
theorem lc_distance (hJ : LJ ok G) (hB : LB G) (hK : LK ok G) (hok : ∀ t, RO2 n0 l0 c t → ok t) (hW : WS n0 l0 x o A b L w xs c s) (hi : i + 4 < L) (hL : L ≤ 2560) (hc : c < 2000) (kk : ∀ t, WS n0 l0 x o A b L w xs (c + 1) t → G 550 (lw_ls b x o w i l5 l6) [] t) : G 513 (lw_ls b x o w i l5 l6) [] s := by
  have hs := hok s hW.room
  refine hJ _ _ _ _ _ _ _ _ _ _ _ _ _ ee133_513 rfl trivial hs ?_
  refine lw_ld hJ hs (k := 1) ee133_514 ee133_515 ee133_517 rfl ee133_518 ee133_519 hW.pl (by omega) hL ?_
  refine lw_ld hJ hs (k := 2) ee133_520 ee133_521 ee133_523 rfl ee133_524 ee133_525 hW.pl (by omega) hL ?_
  refine hK _ _ _ _ _ _ _ _ _ _ _ _ _ _ ee133_526 rfl (by decide) (by decide) (by rw [ml82]; exact Nat.le_of_ble_eq_true rfl) (xx_q (ws_distance hW) (fun r t h => ?_))
  obtain ⟨h1, h2, y, rfl, h3⟩ := h
  have ht := hok t h1
  refine ⟨ht, ?_⟩
  refine hJ _ _ _ _ _ _ _ _ _ _ _ _ _ ee133_529 rfl trivial ht ?_
  refine lw_ld hJ ht (k := 1) ee133_530 ee133_531 ee133_533 rfl ee133_534 ee133_535 h2 (by omega) hL ?_
  refine lw_ld hJ ht (k := 2) ee133_536 ee133_537 ee133_539 rfl ee133_540 ee133_541 h2 (by omega) hL ?_
  refine hK _ _ _ _ _ _ _ _ _ _ _ _ _ _ ee133_542 rfl (by decide) (by decide) (by rw [ml70]; exact Nat.le_of_ble_eq_true rfl) (xx_q h3 (fun r2 t2 h => ?_))
  obtain ⟨rfl, h4⟩ := h
  have h5 : ok t2 := hok t2 (h4.room1)
  refine ⟨h5, hB _ _ _ _ _ _ _ _ _ _ _ _ _ _ ee133_545 rfl (fun _ => kk t2 h4) (fun q => absurd rfl q)⟩
theorem lw_bool (hJ : LJ ok G) (hB : LB G) (hs : ok s) {q0 q1 q2 q3 q4 q5 z0 z1 z2 z3 z4 z5 : Nat} {f0 g0 : Int} {ls : fx_L} {y : Int32} (hb : fx_tab 133 q0 = some (.ifCond .eq f0, q1, q4, z0)) (h1 : fx_tab 133 q1 = some (.iconst 1, q2, z1, z2)) (h2 : fx_tab 133 q2 = some (.goto g0, q3, q5, z3)) (h4 : fx_tab 133 q4 = some (.iconst 0, q5, z4, z5)) (kk : G q5 ls (.inl (fx_bit (decide (y ≠ 0))) :: st) s) : G q0 ls (.inl y :: st) s := by
  have e1 : fx_ic 1 = fx_bit true := by decide
  have e0 : fx_ic 0 = fx_bit false := by decide
  refine hB _ _ _ _ _ _ _ _ (y = 0) _ _ _ _ _ hb rfl (fun h => ?_) (fun h => ?_)
  · refine hJ _ _ _ _ _ _ _ _ _ _ _ _ _ h4 rfl trivial hs ?_
    rw [e0]
    have : decide (y ≠ 0) = false := decide_eq_false (fun q => q h)
    rw [this] at kk
    exact kk
  · refine hJ _ _ _ _ _ _ _ _ _ _ _ _ _ h1 rfl trivial hs ?_
    refine hJ _ _ _ _ _ _ _ _ _ _ _ _ _ h2 rfl trivial hs ?_
    rw [e1]
    have : decide (y ≠ 0) = true := decide_eq_true h
    rw [this] at kk
    exact kk
theorem lc_link (hJ : LJ ok G) (hB : LB G) (hK : LK ok G) (hok : ∀ t, RO2 n0 l0 c t → ok t) (hW : WS n0 l0 x o A b L w xs c s) (hi : i + 4 < L) (hL : L ≤ 2560) (kk : ∀ t, WS n0 l0 x o A b L w xs (c + 1) t → G 550 (lw_ls b x o w i l5 l6) [] t) : G 145 (lw_ls b x o w i l5 l6) [] s := by
  have hs := hok s hW.room
  refine hJ _ _ _ _ _ _ _ _ _ _ _ _ _ ee133_145 rfl trivial hs ?_
  refine lw_ld hJ hs (k := 1) ee133_146 ee133_147 ee133_149 rfl ee133_150 ee133_151 hW.pl (by omega) hL ?_
  refine lw_ld hJ hs (k := 2) ee133_152 ee133_153 ee133_155 rfl ee133_156 ee133_157 hW.pl (by omega) hL ?_
  refine lw_ld hJ hs (k := 3) ee133_158 ee133_159 ee133_161 rfl ee133_162 ee133_163 hW.pl (by omega) hL ?_
  refine lw_bool hJ hB hs ee133_164 ee133_167 ee133_168 ee133_171 ?_
  refine hK _ _ _ _ _ _ _ _ _ _ _ _ _ _ ee133_172 rfl (by decide) (by decide) (by rw [ml106]; exact Nat.le_of_ble_eq_true rfl) (xx_q (ws_link hW) (fun r t h => ?_))
  obtain ⟨h1, h2, y, rfl, h3⟩ := h
  have ht := hok t h1
  refine ⟨ht, ?_⟩
  refine hJ _ _ _ _ _ _ _ _ _ _ _ _ _ ee133_175 rfl trivial ht ?_
  refine lw_ld hJ ht (k := 1) ee133_176 ee133_177 ee133_179 rfl ee133_180 ee133_181 h2 (by omega) hL ?_
  refine lw_ld hJ ht (k := 2) ee133_182 ee133_183 ee133_185 rfl ee133_186 ee133_187 h2 (by omega) hL ?_
  refine lw_ld hJ ht (k := 3) ee133_188 ee133_189 ee133_191 rfl ee133_192 ee133_193 h2 (by omega) hL ?_
  refine lw_bool hJ hB ht ee133_194 ee133_197 ee133_198 ee133_201 ?_
  refine hK _ _ _ _ _ _ _ _ _ _ _ _ _ _ ee133_202 rfl (by decide) (by decide) (by rw [ml99]; exact Nat.le_of_ble_eq_true rfl) (xx_q h3 (fun r2 t2 h => ?_))
  obtain ⟨rfl, h4⟩ := h
  have h5 : ok t2 := hok t2 (h4.room1)
  refine ⟨h5, hB _ _ _ _ _ _ _ _ _ _ _ _ _ _ ee133_205 rfl (fun _ => kk t2 h4) (fun q => absurd rfl q)⟩
theorem lc_take (hJ : LJ ok G) (hB : LB G) (hK : LK ok G) (hT : LT ok G) (hok : ∀ t, RO2 n0 l0 c t → ok t) (hW : WS n0 l0 x o A b L w xs c s) (hi : i + 4 < L) (hL : L ≤ 2560) (kk : ∀ t l5 l6, WS n0 l0 x o A b L w xs (c + 1) t → G 550 (lw_ls b x o w i l5 l6) [] t) : G 284 (lw_ls b x o w i l5 l6) [] s := by
  have hs := hok s hW.room
  refine hJ _ _ _ _ _ _ _ _ _ _ _ _ _ ee133_284 rfl trivial hs ?_
  refine lw_ld hJ hs (k := 1) ee133_285 ee133_286 ee133_288 rfl ee133_289 ee133_290 hW.pl (by omega) hL ?_
  refine hJ _ _ _ _ _ _ _ _ _ _ _ _ _ ee133_291 rfl trivial hs ?_
  rcases ws_take (v := xs (i + 1)) hW with ⟨k, hk, hM, hg⟩ | ⟨y, hM⟩
  · refine hT.1 _ s x w k (xs (i + 1)) hk hM (fun g n hg1 hn1 => ?_)
    obtain ⟨h1, h2, h3⟩ := hg g n hg1 hn1
    have ht := hok _ h1
    generalize fx_gap s g n = t at *
    have k0 : ¬ nI k = 0 := by rcases hk with e | e <;> rw [e] <;> decide
    refine ⟨ht, ?_⟩
    refine hJ _ _ _ _ _ _ _ _ _ _ _ _ _ ee133_295 rfl trivial ht ?_
    show G 297 (lw_ls b x o w i (some (vI (nI k))) l6) [] t
    refine hJ _ _ _ _ _ _ _ _ _ _ _ _ _ ee133_297 rfl trivial ht ?_
    refine lw_ld hJ ht (k := 1) ee133_298 ee133_299 ee133_301 rfl ee133_302 ee133_303 h2 (by omega) hL ?_
    refine hK _ _ _ _ _ _ _ _ _ _ _ _ _ _ ee133_304 rfl (by decide) (by decide) (by rw [ml102]; exact Nat.le_of_ble_eq_true rfl) (xx_q h3 (fun r2 t2 h => ?_))
    obtain ⟨⟨y, rfl⟩, h4, h5⟩ := h
    have ht2 : ok t2 := hok t2 (h4.room1)
    refine ⟨ht2, ?_⟩
    refine hJ _ _ _ _ _ _ _ _ _ _ _ _ _ ee133_307 rfl trivial ht2 ?_
    show G 309 (lw_ls b x o w i (some (vI (nI k))) (some (vI y))) [] t2
    refine hJ _ _ _ _ _ _ _ _ _ _ _ _ _ ee133_309 rfl trivial ht2 ?_
    refine hK _ _ _ _ _ _ _ _ _ _ _ _ _ _ ee133_310 rfl (by decide) (by decide) (by rw [ml44]; exact Nat.le_of_ble_eq_true rfl) (xx_q h5 (fun r3 t3 h => ?_))
    obtain ⟨rfl, e3⟩ := h
    subst e3
    refine ⟨ht2, ?_⟩
    refine hJ _ _ _ _ _ _ _ _ _ _ _ _ _ ee133_313 rfl trivial ht2 ?_
    refine hB _ _ _ _ _ _ _ _ _ _ _ _ _ _ ee133_315 rfl (fun _ => ?_) (fun q => absurd rfl q)
    refine hJ _ _ _ _ _ _ _ _ _ _ _ _ _ ee133_320 rfl trivial ht2 ?_
    refine hB _ _ _ _ _ _ _ _ _ _ _ _ _ _ ee133_322 rfl (fun _ => ?_) (fun q => absurd k0 q)
    refine hJ _ _ _ _ _ _ _ _ _ _ _ _ _ ee133_337 rfl trivial ht2 ?_
    exact kk _ _ _ h4
  · refine hT.2 _ s x w (xs (i + 1)) y (xx_q hM (fun r t h => ?_))
    obtain ⟨rfl, h1, h2, h3⟩ := h
    have ht := hok t h1
    have hw1 : fx_ln t w = 1 := h2.2.2.2.2.2.2.2.2
    refine ⟨rfl, ht, hw1, ?_⟩
    have h3 := h3 y.toInt64
    have ht : ok (fx_sal t w 0 y.toInt64) := hok _ h1
    have h2 : PL (fx_sal t w 0 y.toInt64) x o A b L w xs := h2
    generalize fx_sal t w 0 y.toInt64 = t1 at *
    refine hJ _ _ _ _ _ _ _ _ _ _ _ _ _ ee133_295 rfl trivial ht ?_
    show G 297 (lw_ls b x o w i (some (vI (nI 0))) l6) [] t1
    refine hJ _ _ _ _ _ _ _ _ _ _ _ _ _ ee133_297 rfl trivial ht ?_
    refine lw_ld hJ ht (k := 1) ee133_298 ee133_299 ee133_301 rfl ee133_302 ee133_303 h2 (by omega) hL ?_
    refine hK _ _ _ _ _ _ _ _ _ _ _ _ _ _ ee133_304 rfl (by decide) (by decide) (by rw [ml102]; exact Nat.le_of_ble_eq_true rfl) (xx_q h3 (fun r2 t2 h => ?_))
    obtain ⟨rfl, ha, h4, h5⟩ := h
    have ht2 : ok t2 := hok t2 (h4.room1)
    refine ⟨ht2, ?_⟩
    refine hJ _ _ _ _ _ _ _ _ _ _ _ _ _ ee133_307 rfl trivial ht2 ?_
    show G 309 (lw_ls b x o w i (some (vI (nI 0))) (some (vI y))) [] t2
    refine hJ _ _ _ _ _ _ _ _ _ _ _ _ _ ee133_309 rfl trivial ht2 ?_
    refine hK _ _ _ _ _ _ _ _ _ _ _ _ _ _ ee133_310 rfl (by decide) (by decide) (by rw [ml44]; exact Nat.le_of_ble_eq_true rfl) (xx_q h5 (fun r3 t3 h => ?_))
    obtain ⟨rfl, e3⟩ := h
    subst e3
    refine ⟨ht2, ?_⟩
    refine hJ _ _ _ _ _ _ _ _ _ _ _ _ _ ee133_313 rfl trivial ht2 ?_
    refine hB _ _ _ _ _ _ _ _ _ _ _ _ _ _ ee133_315 rfl (fun _ => ?_) (fun q => absurd rfl q)
    refine hJ _ _ _ _ _ _ _ _ _ _ _ _ _ ee133_320 rfl trivial ht2 ?_
    refine hB _ _ _ _ _ _ _ _ _ _ _ _ _ _ ee133_322 rfl (fun q => absurd (by decide) q) (fun _ => ?_)
    refine hJ _ _ _ _ _ _ _ _ _ _ _ _ _ ee133_325 rfl trivial ht2 ?_
    refine hJ _ _ _ _ _ _ _ _ _ _ _ _ _ ee133_326 rfl trivial ht2 ?_
    have w1 : fx_ln t3 w = 1 := h4.pl.2.2.2.2.2.2.2.2
    have c0 : (fx_ic 0).toNatClampNeg = 0 := by decide
    refine hJ _ _ _ _ _ _ _ _ (vp_in (fx_ic 0) (fx_ln t3 w)) _ _ _ _ ee133_327 rfl (by rw [w1]; exact vp_in_nI (n := 0) (by omega) (by omega)) ht2 ?_
    rw [c0, ha]
    refine hJ _ _ _ _ _ _ _ _ _ _ _ _ _ ee133_328 rfl trivial ht2 ?_
    refine hJ _ _ _ _ _ _ _ _ _ _ _ _ _ ee133_330 rfl trivial ht2 ?_
    refine hJ _ _ _ _ _ _ _ _ _ _ _ _ _ ee133_331 rfl trivial ht2 ?_
    have lc : lg_cmp y.toInt64 y.toInt64 = 0 := by
      unfold lg_cmp
      rw [if_neg (fun q => absurd (Int64.lt_iff_toInt_lt.mp q) (by omega)), if_pos rfl]
    rw [lc]
    refine hB _ _ _ _ _ _ _ _ _ _ _ _ _ _ ee133_332 rfl (fun _ => ?_) (fun q => absurd rfl q)
    refine hJ _ _ _ _ _ _ _ _ _ _ _ _ _ ee133_337 rfl trivial ht2 ?_
    exact kk _ _ _ h4
end
