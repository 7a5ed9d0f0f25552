/-! THE CLAIM OUT OF ONE WALK OF THE LAW'S BODY. Your part is whole_start (and what it stands on); all else here is the same for every law, but numbers. -/
def R_law : String := "FlitTorusLaw"
def lw_P (b : Addr) (xs : List Int32) (args : Array Value) (s : State) : Prop := args = #[.ref b] ∧ s.IntsAt b xs ∧ xs.length ≤ 2560 ∧ (Jvm.Cond.and given_1 narrow_1).before args s = true
def lw_Q (_ : Array Value) (s : State) (o : Outcome) (t : State) : Prop := o = .returned (some (.int 1)) ∧ Framed s o t [] 555888 7428442
def lw_Z (below : List Frame) (a : Array Value) (s : State) : State → Prop := fun t => ∃ o, t.status = .running ∧ Ended t below o ∧ lw_Q a s o t
/-- the law's own end, with 1 on the stack, nothing written that was there before, its room as the claim has it -/
theorem lw_ret {p : Program} {l : Launch} {e : Env} {s : State} {m : MethodId} {below : List Frame} {meth : Method} {c : Code} {b : Nat} (hx : p.tables.exec = Jvm.exec) (hb : c.code = code) (hr : meth.sig.returnType = ret) (hlocks : meth.locks = false) {pc : Nat} {H : Heap} {ls : Array Slot} (hdg : decode code pc = .ok (.ireturn, 1)) : W p l e room_1 s m #[Value.ref b] below meth c H [] 555888 7428442 (lw_Z below #[Value.ref b] s) (F0 m pc ls [.int 1]) := by
  intro T hT X
  obtain ⟨fs, hret, hrun, hended, hW, hframe⟩ := X.leave (v := some (.int 1)) (hlocks := hlocks) (fun h => by rw [hr] at h; cases h)
  have hmeth' : T.vm.method? m = some meth := X.method'
  refine ⟨T.setFrames fs, ?_, .returned (some (.int 1)), hrun, hended, rfl, ⟨_, rfl⟩, hW, hframe⟩
  jvm_step X.here [X.here.top, hx, hb, hdg, hmeth', hr, ret, narrow_b1]
  (try refine ⟨rfl, ?_⟩); (try refine ⟨rfl, ?_⟩)
  first | (intro acts; rw [hret _ acts rfl rfl rfl]) | rw [hret _ _ rfl rfl rfl]
  exact Steps.refl _
/-- what holds at the law's entry: the machine, the code, the tables' words (any of lw_tbl by 'hts w (by decide +kernel)'), the script of L ints xs at the cell b, what the Statement gives of the start (any of its parts by flat_of_before) -/
def lw_At (p : Program) (s : State) (m : MethodId) (meth : Method) (c : Code) (b L : Nat) (xs : Nat → Int32) : Prop :=
  p.tables.exec = Jvm.exec ∧ c.code = code ∧ meth.sig.returnType = ret ∧ c.maxLocals = 7 ∧ s.vm.findClass R_law = some m.cls ∧ (∀ w ∈ lw_tbl, w.before #[Value.ref b] s = true) ∧ va_X b L xs s s.heap ∧ b < s.heap.size ∧ meth.locks = false ∧ (Jvm.Cond.and given_1 narrow_1).before #[Value.ref b] s = true
/-- what the start gives of the exceptions -/
theorem st_BX {s : State} {b : Nat} (hts : ∀ w ∈ lw_tbl, w.before #[Value.ref b] s = true) (hgv : (Jvm.Cond.and given_1 narrow_1).before #[Value.ref b] s = true) : BX s #[Value.ref b] := by
  have hs := flat_of_before _ hgv
  have str : ∀ (k : Nat) (tx : String), Cond.stringRef "FlitTorus" k tx ∈ lw_tbl → (Cond.exactly (.string "FlitTorus" k) "java/lang/String").before #[Value.ref b] s = true → ∃ q, vk_R "FlitTorus" k tx q s := by
    intro k tx h1 h2
    obtain ⟨a, c, cA, kA, q1, -⟩ := Cond.exactly_spec (args := #[Value.ref b]) (first := s) (o := none) (s := s) (idx := []) (t := .string "FlitTorus" k) (cls := "java/lang/String") h2
    exact ⟨a, vk_R.of (hts _ h1) q1⟩
  have x1 : (Cond.exactly (.string "FlitTorus" 161) "java/lang/String").before #[Value.ref b] s = true := hs _ (by decide +kernel)
  have x2 : (Cond.exactly (.string "FlitTorus" 177) "java/lang/String").before #[Value.ref b] s = true := hs _ (by decide +kernel)
  refine ⟨hts, str 161 _ (by decide +kernel) x1, str 177 _ (by decide +kernel) x2, fun a ha => ?_, hs _ (by decide +kernel)⟩
  unfold ex_st at ha
  split at ha
  · exact hs _ (by decide +kernel)
  · exact hs _ (by decide +kernel)
  · cases ha
set_option maxHeartbeats 1000000 in
/-- from the entry, for every script of at most 2560 ints, the law comes to its end with true -/
theorem whole_start {p : Program} {e : Env} {s : State} {m : MethodId} {below : List Frame} {meth : Method} {c : Code} (l : Launch) (hfl : l.flags = flags0) (hnm : meth.name = (fx_yy 133).name) {b L : Nat} {xs : Nat → Int32} (hL : L ≤ 2560) (C0 : lw_At p s m meth c b L xs) : W p l e room_1 s m #[Value.ref b] below meth c s.heap [] 0 0 (lw_Z below #[Value.ref b] s) (entryFrame m ([Value.ref b] : List Value).toArray 7) := by
  intro T hT X
  have htr : e.platform.stackTraces = false := Launch.traces_off hfl X.admits
  obtain ⟨hx, hb, hr, hml, hown, hts, ⟨scr, r1, r2, r3, r4, r5⟩, hbl, hlocks, hgv⟩ := id C0
  have hB := st_BX hts hgv
  obtain ⟨D, dA, hctx⟩ := st_ctx hts r2
  have m7 : fx_ml 133 = 7 := by decide +kernel
  have I : fx_in 133 p room_1 s m #[Value.ref b] meth c D dA scr := ⟨hx, hb, by rw [m7]; exact hml, hown, fun w hw => hts w (fx_T1_good hw).1, hnm, by show fx_rk 133 ≤ 10; decide +kernel, by show fx_lw 133 ≤ 344; decide +kernel, hctx⟩
  have oc : ∀ {t : fx_S}, lw_ok s t → fx_nx t - s.heap.size ≤ room_1.cells := fun h => by
    have : room_1.cells = 555888 := rfl
    have := h.1
    omega
  have os : ∀ {t : fx_S}, lw_ok s t → fx_sl t - 0 ≤ room_1.slots := fun h => by
    have : room_1.slots = 7428442 := rfl
    have := h.2
    omega
  have d557 : decode code 557 = .ok (.ireturn, 1) := by decide +kernel
  have G0 := lw_pure (ok := lw_ok s) (G := fx_G p l e room_1 s m #[Value.ref b] below meth c (lw_Z below #[Value.ref b] s) D dA scr s.heap.size s.heap.size 0 133) (s := fx_s0 b L s.heap.size xs) (L := L) (b := b) (xs := xs)
    (fun pc i np r1 r2 ls st s C pc' ls' st' s' ht ha hC ok k => gg_j I ht ha hC (oc ok) (os ok) k)
    (fun pc i np r1 r2 ls st s C p1 p2 ls' st' s' ht ha k1 k2 => gg_b I ht ha k1 k2)
    (fun pc i np r1 r2 ls st s m2 pc' as ls' st' s' ht ha hm hT hlen h => gg_k I ht ha hm hT hlen (xx_q h (fun r s1 h => ⟨oc h.1, os h.1, h.2⟩)))
    (lw_LT I htr hB)
    (fun c t hc h => by
      have h1 : fx_nx t ≤ s.heap.size + 60 + 10 * (c + 1) + 1280 := h.1
      have h2 : fx_sl t ≤ 0 + 54500 + 60 * (c + 1) + 5312 := h.2
      exact ⟨by omega, by omega⟩)
    (fun ls t ok hl hv hn1 hl1 H locs LS hrep hlo hS => by
      have o1 := oc ok
      have o2 := os ok
      have e1 : fx_ic 1 = 1 := by decide
      refine va_forget (fun q hq => hS.2.2 q hq) ?_
      refine W.widen (k := 555888) (n := 7428442) o1 o2 ?_
      show W p l e room_1 s m #[Value.ref b] below meth c H [] 555888 7428442 (lw_Z below #[Value.ref b] s) (F0 m 557 LS [.int (fx_ic 1)])
      rw [e1]
      exact lw_ret hx hb hr hlocks d557) hL hbl (if_pos rfl) (fun j hj => by
        have : fx_ai (fx_s0 b L s.heap.size xs) b = xs := if_pos rfl
        rw [this])
  have hlo : fx_lo [some (vR 73 (some b)), none, none, none, none, none, none] ((lg_sl [Value.ref b] ++ List.replicate (7 - (lg_sl [Value.ref b]).length) Slot.unset).toArray) := fx_entryLo (n := 7) (as := [vR 73 (some b)]) (Nat.le_of_ble_eq_true rfl) rfl
  have k := G0 (by rw [m7]; rfl) (s0_inv hbl) (Nat.le_refl _) (Nat.zero_le _) s.heap [] _ (s0_rep r1 r3 r4 r5) hlo va_S.rf
  have k0 : fx_nx (fx_s0 b L s.heap.size xs) - s.heap.size = 0 := Nat.sub_self _
  have k1 : fx_sl (fx_s0 b L s.heap.size xs) - 0 = 0 := rfl
  rw [k0, k1] at k
  rw [lg_entry_eq]
  exact k T hT X
set_option maxHeartbeats 4000000 in
theorem lw_walk (l : Launch) (hfl : l.flags = flags0) (b : Addr) (xs : List Int32) : MetFree l x (headSpec (Jvm.Cond.code x code maxLocals ret :: tables_1) room_1) (lw_P b xs) (fun _ _ _ _ _ => True) lw_Q := by
  refine MetFree.of_bodyS (code := code) (maxLocals := maxLocals) (ret := ret) (by decide) ?_ ?_
  · intro args s m h hn
    obtain ⟨meth, c, h1, h2, h3, h4, h5, h6, -, -⟩ := Cond.code_spec hn (atoms_spec (ws := Jvm.Cond.code x code maxLocals ret :: tables_1) h _ List.mem_cons_self)
    exact ⟨meth, c, h1, h2, h3, h4, h5, h6⟩
  · intro p e s m args below meth c s₁ B hml0 hP _
    obtain ⟨rfl, hx, hbd, hgv⟩ := hP
    obtain ⟨scr, harrAt, hlist, hof, hsmall⟩ := hx
    obtain ⟨hcb, hkn, -, -⟩ := State.arrayAt?_spec harrAt
    have hown : s.vm.findClass R_law = some m.cls := findClass_of_methodNamed B.named
    have hts0 : ∀ c ∈ (Jvm.Cond.code x code maxLocals ret :: tables_1), c.before #[Value.ref b] s = true := atoms_spec (ws := Jvm.Cond.code x code maxLocals ret :: tables_1) B.pre
    have hts : ∀ w ∈ lw_tbl, w.before #[Value.ref b] s = true := k2_hts_sels lw_privs (fun w hw => hts0 w (List.mem_cons_of_mem _ hw)) lw_privs_ok
    have hml : c.maxLocals = 7 := B.maxLocals_eq (hts0 _ List.mem_cons_self)
    have X₀ : Stand p l e room_1 s m #[Value.ref b] below meth c s₁ [] 0 0 := Stand.of_body B
    have hh0 : s₁.heap = s.heap := by rw [B.state]; rfl
    have hsz : scr.slots.size = xs.length := by rw [← Array.length_toList, hlist, List.length_map]
    have hval : ∀ j : Nat, j < xs.length → scr.slots[j]? = some (.int (xs.getD j 0)) := fun j hj => by
      rw [← Array.getElem?_toList, hlist]
      simp [hj]
    have hbl : b < s.heap.size := (Array.getElem?_eq_some_iff.mp hcb).1
    have hX : va_X b xs.length (fun j => xs.getD j 0) s s.heap := ⟨scr, hcb, hof, hkn, hsz, hval⟩
    have K : W p l e room_1 s m #[Value.ref b] below meth c s₁.heap [] 0 0 (lw_Z below #[Value.ref b] s) (entryFrame m ([Value.ref b] : List Value).toArray 7) := by
      rw [hh0]
      exact whole_start l hfl (name_of_methodNamed B.named B.method).1 hbd ⟨B.exec, B.bytes, B.returns, hml, hown, hts, hX, hbl, B.notSynchronized, hgv⟩
    obtain ⟨t, a1, o, b1, b2, b3⟩ := K s₁ rfl X₀
    exact ⟨t, o, a1, b1, b2, b3⟩
theorem lw_pre_spec {args : Array Value} {s : State} (h : (Jvm.Cond.and given_1 narrow_1).before args s = true) (hr : rest_1_c.before args s = true) : ∃ (b : Addr) (xs : List Int32), lw_P b xs args s := by
  have hs := flat_of_before _ h
  have hq := flat_of_before _ hr
  have hc : (Cond.count 1).before args s = true := hs _ (by decide +kernel)
  have harr : (Cond.arrayOf (.arg 0) .int).before args s = true := hs _ (by decide +kernel)
  have hle : (Cond.le (.length (.arg 0)) (.int 2560)).before args s = true := hs _ (by decide +kernel)
  have hlen : (Cond.isInt (.length (.arg 0))).before args s = true := hq _ (by decide +kernel)
  have hall : (Cond.all (.arg 0) (.isInt (.elem (.arg 0) (.index 0)))).before args s = true := hq _ (by decide +kernel)
  obtain ⟨b, xs, hb, hx⟩ := State.ints_of_pre rfl harr hlen hall
  have hsm : xs.length < 2 ^ 31 := hx.choose_spec.2.2.2
  have hev : (Term.length (.arg 0)).eval args s none [] s = some (.int xs.length.toInt32) := hx.length_eval hb
  have hv := Cond.le_ints hev (show (Term.int 2560).eval args s none [] s = some (.int 2560) from rfl)
  have hd : xs.length.toInt32 ≤ 2560 := by
    simpa [Cond.before, Cond.holds, hv] using hle
  have hN : xs.length ≤ 2560 := (Int32.ofNat_le_ofNat hsm (by decide)).mp (show Int32.ofNat xs.length ≤ Int32.ofNat 2560 from hd)
  exact ⟨b, xs, Cond.one_arg hc (show args[0]? = some (.ref b) from hb), hx, hN, h⟩
theorem lw_comes (l : Launch) (hfl : l.flags = flags0) : Comes l x (Jvm.Cond.code x code maxLocals ret :: tables_1) room_1 (fun tb e args s => Calls_1 tb e args s ∧ rest_1 tb e args s ∧ Pre_1 tb e args s)
    (fun _ _ args s o t => lw_Q args s o t) := by
  intro p e ha hc hk s m args below hf hfit hheap happ hpre
  obtain ⟨b, xs, hP⟩ := lw_pre_spec hpre.2.2 hpre.2.1
  obtain ⟨k, o, h1, h2, h3, hQ⟩ := lw_walk l hfl b xs p e ha hc hk s m args below hf ((Spec.applies_iff_loose hf).mp happ).1 hP trivial
  exact ⟨k, o, h1, h2, h3, hQ⟩
theorem lw_frame {s t : State} {o : Outcome} {args : Array Value} (h : Framed s o t [] 555888 7428442) :
    Framed s o t (fieldLocs frame_1_writes args s ++ arrayLocs frame_1_arrays args s ++ staticLocs frame_1_statics s) 555888 7428442 := h
theorem lw_limb (L : Cond) (hL : ∀ (args : Array Value) (s t : State), L.after args s (.returned (some (.int 1))) t = true) :
    ArmFor flags0 classFile x code maxLocals ret World_1 tables_1 room_1 Calls_1 rest_1 Pre_1
      (fun tb e a s o t => postC L tb e a s o t ∧ Framed s o t (fieldLocs frame_1_writes a s ++ arrayLocs frame_1_arrays a s ++ staticLocs frame_1_statics s) 555888 7428442) := by
  intro l hfl _ _ p e ha hc hk s m args below hf hfit hheap happ hpre
  obtain ⟨k, o, h1, h2, h3, rfl, hF⟩ := lw_comes l hfl p e ha hc hk s m args below hf hfit hheap happ hpre
  exact ⟨k, _, h1, h2, h3, hL args s _, lw_frame hF⟩
theorem i_vc : Claimed_1_1 ∧ Claimed_1_2 := ⟨lw_limb limb_1_1 (fun args s t => by simp [limb_1_1, Cond.after, Cond.holds, Cond.value]), lw_limb limb_1_2 (fun args s t => Cond.after_iff.mpr (by
  first | (rw [show limb_1_2 = Cond.eq .result (.int 1) from rfl, Cond.eq_ints (x := 1) (y := 1) rfl rfl]; simp; done) | (simp [limb_1_2, Cond.value, Term.eval]; done)))⟩
