/-! THE CLASS AND THE REFERENCE: places -/
section
variable {s : fx_S} {Q : fx_Q} {x m : Nat} {B H P : Nat → Nat} {C : Nat → Nat → Option Nat} {Y : Nat → Nat → Nat} {rt : Nat → List Nat} {K : Nat → Prop} {L : List Nat} {M : rf_M} {lv : Nat → Prop}
theorem RV.place {t : fx_S} {v i : Nat} {M' : rf_M} (h : RV s B Y P m M) (hS : SK s x B m) (hv : v < m) (hi : i < 4) (t1 : ∀ f a, (f = ff_Receiver_readyCount ∨ f = ff_Receiver_hasHandedOver ∨ (64 ≤ f ∧ f < 68)) → fx_fi t f a = fx_fi s f a) (t2 : ∀ f a, (f = ff_Place_attempt ∨ f = ff_Place_joined) → a ≠ B v + 10 + i → fx_fi t f a = fx_fi s f a) (t3 : ∀ a, a ≠ B v + 10 + i → fx_fr t ff_Place_packet a = fx_fr s ff_Place_packet a) (t4 : ∀ a, fx_fr t ff_Receiver_last a = fx_fr s ff_Receiver_last a) (t5 : fx_ar t = fx_ar s)
    (m1 : ∀ g j, (g = ff_Mod_readySize ∨ g = ff_Mod_readySource ∨ g = ff_Mod_readyLength ∨ g = ff_Mod_readyTry ∨ g = ff_Mod_readyTag ∨ g = ff_Mod_taken) → M' g j = M g j) (m2 : ∀ g j, (g = ff_Mod_whose ∨ g = ff_Mod_whichTry ∨ g = ff_Mod_has) → j ≠ 4 * v + i → M' g j = M g j)
    (n1 : fx_fr t ff_Place_packet (B v + 10 + i) = (oz (M' ff_Mod_whose (4 * v + i))).map P) (n2 : oz (M' ff_Mod_whose (4 * v + i)) ≠ none → fx_fi t ff_Place_attempt (B v + 10 + i) = M' ff_Mod_whichTry (4 * v + i)) (n3 : oz (M' ff_Mod_whose (4 * v + i)) ≠ none → fx_fi t ff_Place_joined (B v + 10 + i) = nI (pcn (rn M' ff_Mod_has (4 * v + i)))) : RV t B Y P m M' := by
  intro u hu
  obtain ⟨a1, a2, a3, a4, a5, a6, a7, a8, a9, a10, a11, a12, hh, b1, b2, b3⟩ := h u hu
  have ey : rn M' ff_Mod_readySize u = rn M ff_Mod_readySize u := rn_eq (m1 _ _ (by simp))
  have ad : ∀ j, j < 4 → (B u + 10 + j = B v + 10 + i ↔ u = v ∧ j = i) := by
    intro j hj
    constructor
    · intro e
      have := hS.ap (c := 10 + j) (d := 10 + i) hu hv (by omega) (by omega) (by omega)
      omega
    · rintro ⟨e1, e2⟩; rw [e1, e2]
  refine ⟨?_, fun j hj => ?_, fun j hj hne => ?_, fun j hj hne => ?_, fun j hj => ?_, ?_, a7, a8, fun j hj => ?_, fun j hj => ?_, fun j hj => ?_, fun j hj => ?_, hh, ?_, fun q j hj => ?_, fun q => ?_⟩
  · rw [t1 _ _ (by simp), m1 _ _ (by simp)]; exact a1
  · by_cases c : u = v ∧ j = i
    · rw [c.1, c.2]; exact n1
    · rw [t3 _ (fun e => c ((ad j hj).mp e)), m2 _ _ (by simp) (by omega)]; exact a2 j hj
  · by_cases c : u = v ∧ j = i
    · rw [c.1, c.2] at hne ⊢; exact n2 hne
    · rw [m2 _ _ (by simp) (by omega)] at hne
      rw [t2 _ _ (by simp) (fun e => c ((ad j hj).mp e)), m2 _ _ (by simp) (by omega)]; exact a3 j hj hne
  · by_cases c : u = v ∧ j = i
    · rw [c.1, c.2] at hne ⊢; exact n3 hne
    · rw [m2 _ _ (by simp) (by omega)] at hne
      rw [t2 _ _ (by simp) (fun e => c ((ad j hj).mp e)), rn_eq (m2 ff_Mod_has (4 * u + j) (by simp) (by omega))]; exact a4 j hj hne
  · rw [t5]; exact a5 j hj
  · rw [t4]; exact a6
  · rw [ey] at hj
    rw [t1 _ _ (by decide), m1 _ _ (by simp)]; exact a9 j hj
  · rw [ey] at hj
    rw [t1 _ _ (by decide), m1 _ _ (by simp)]; exact a10 j hj
  · rw [ey] at hj
    rw [t1 _ _ (by decide), m1 _ _ (by simp)]; exact a11 j hj
  · rw [ey] at hj
    rw [t1 _ _ (by decide), m1 _ _ (by simp)]; exact a12 j hj
  · rw [t1 _ _ (by simp)]; exact b1
  · rw [m1 _ _ (by simp)]; exact b2 q j hj
  · rw [t1 _ _ (by decide), t1 _ _ (by decide), t1 _ _ (by decide), m1 _ _ (by simp), m1 _ _ (by simp), m1 _ _ (by simp)]; exact b3 q
/-- one more flit in place i -/
theorem RA.jk {v i b : Nat} {y : Int32} (h : RA s x B H C Y P m rt K L M) (hI : RI M) (hv : v < m) (hi : i < 4) (hb : b < 8) (hw : oz (M ff_Mod_whose (4 * v + i)) ≠ none) (hf : (rn M ff_Mod_has (4 * v + i)).testBit b = false) (hy : y = nI (pcn (rn M ff_Mod_has (4 * v + i)) + 1)) : RA (fx_sfi s ff_Place_joined (B v + 10 + i) y) x B H C Y P m rt K L (fx_up M ff_Mod_has (4 * v + i) (nI (rn M ff_Mod_has (4 * v + i) ||| 2 ^ b))) := by
  have h64 := h.sk.c.m64
  have hH8 := fx_or_lt (hI.pHl (k := 4 * v + i) (by omega)) hb
  have eH : fx_sfi s ff_Place_joined (B v + 10 + i) y = fx_srv s (fx_fi (fx_sfi s ff_Place_joined (B v + 10 + i) y)) (fx_fr (fx_sfi s ff_Place_joined (B v + 10 + i) y)) := srv_eq rfl (fun f b h1 h2 h3 h4 h5 => by rw [fi_ne (fun q => h3 q.1)]) (fun f b h1 h2 => rfl) rfl
  have eM : fx_up M ff_Mod_has (4 * v + i) (nI (rn M ff_Mod_has (4 * v + i) ||| 2 ^ b)) = om_mrv M (fx_up M ff_Mod_has (4 * v + i) (nI (rn M ff_Mod_has (4 * v + i) ||| 2 ^ b))) := mrv_eq (fun g j h1 h2 => fx_up_ne (fun q => h1 (by rw [q.1]; decide)))
  have rv : RV (fx_sfi s ff_Place_joined (B v + 10 + i) y) B Y P m (fx_up M ff_Mod_has (4 * v + i) (nI (rn M ff_Mod_has (4 * v + i) ||| 2 ^ b))) := by
    have hv1 := h.v v hv
    refine h.v.place h.sk hv hi (fun f a hf => fi_ne (fun q => by rcases hf with e | e | e <;> first | (rw [e] at q; exact absurd q.1 (by decide)) | (have : ff_Place_joined = 386 := rfl; omega))) (fun f a hf ha => fi_ne (fun q => ha q.2)) (fun a ha => rfl) (fun a => rfl) rfl (fun g j hg => fx_up_ne (fun q => by rcases hg with e | e | e | e | e | e <;> (rw [e] at q; exact absurd q.1 (by decide)))) (fun g j hg hj => fx_up_ne (fun q => hj q.2)) ?_ (fun _ => ?_) (fun _ => ?_)
    · rw [fx_up_ne (fun q => absurd q.1 (by decide))]; exact hv1.pk i hi
    · rw [fx_up_ne (fun q => absurd q.1 (by decide)), fi_ne (fun q => absurd q.1 (by decide))]; exact hv1.pa i hi hw
    · rw [fi_same, hy, rn_same (by omega), pcn_or hb hf]
  rw [eH] at rv ⊢
  rw [eM] at rv ⊢
  exact h.rv rv
/-- place i is kept for packet p -/
theorem RA.keep {v i p t j : Nat} {o : Option Nat} {y z : Int32} (h : RA s x B H C Y P m rt K L M) (hv : v < m) (hi : i < 4) (hp : p < 512) (ht : t < 1000) (hj : j < 256) (ho : o = some (P p)) (hy : y = nI t) (hz : z = nI (pcn j)) : RA (fx_sfi (fx_sfi (fx_sfr s ff_Place_packet (B v + 10 + i) o) ff_Place_attempt (B v + 10 + i) y) ff_Place_joined (B v + 10 + i) z) x B H C Y P m rt K L (fx_up (fx_up (fx_up M ff_Mod_whose (4 * v + i) (nI p)) ff_Mod_whichTry (4 * v + i) (nI t)) ff_Mod_has (4 * v + i) (nI j)) := by
  have eH : fx_sfi (fx_sfi (fx_sfr s ff_Place_packet (B v + 10 + i) o) ff_Place_attempt (B v + 10 + i) y) ff_Place_joined (B v + 10 + i) z = fx_srv s (fx_fi (fx_sfi (fx_sfi (fx_sfr s ff_Place_packet (B v + 10 + i) o) ff_Place_attempt (B v + 10 + i) y) ff_Place_joined (B v + 10 + i) z)) (fx_fr (fx_sfi (fx_sfi (fx_sfr s ff_Place_packet (B v + 10 + i) o) ff_Place_attempt (B v + 10 + i) y) ff_Place_joined (B v + 10 + i) z)) := srv_eq rfl (fun f b h1 h2 h3 h4 h5 => by rw [fi_ne (fun q => h3 q.1), fi_ne (fun q => h2 q.1)]; rfl) (fun f b h1 h2 => by
    show fx_fr (fx_sfr s ff_Place_packet (B v + 10 + i) o) f b = _
    rw [fr_ne (fun q => h1 q.1)]) rfl
  have eM : fx_up (fx_up (fx_up M ff_Mod_whose (4 * v + i) (nI p)) ff_Mod_whichTry (4 * v + i) (nI t)) ff_Mod_has (4 * v + i) (nI j) = om_mrv M (fx_up (fx_up (fx_up M ff_Mod_whose (4 * v + i) (nI p)) ff_Mod_whichTry (4 * v + i) (nI t)) ff_Mod_has (4 * v + i) (nI j)) := mrv_eq (fun g k h1 h2 => by rw [fx_up_ne (fun q => h1 (by rw [q.1]; decide)), fx_up_ne (fun q => h1 (by rw [q.1]; decide)), fx_up_ne (fun q => h1 (by rw [q.1]; decide))])
  have rv : RV (fx_sfi (fx_sfi (fx_sfr s ff_Place_packet (B v + 10 + i) o) ff_Place_attempt (B v + 10 + i) y) ff_Place_joined (B v + 10 + i) z) B Y P m (fx_up (fx_up (fx_up M ff_Mod_whose (4 * v + i) (nI p)) ff_Mod_whichTry (4 * v + i) (nI t)) ff_Mod_has (4 * v + i) (nI j)) := by
    refine h.v.place h.sk hv hi (fun f a hf => ?_) (fun f a hf ha => by rw [fi_ne (fun q => ha q.2), fi_ne (fun q => ha q.2)]; rfl) (fun a ha => ?_) (fun a => ?_) rfl (fun g k hg => ?_) (fun g k hg hk => by rw [fx_up_ne (fun q => hk q.2), fx_up_ne (fun q => hk q.2), fx_up_ne (fun q => hk q.2)]) ?_ (fun _ => ?_) (fun _ => ?_)
    · have n1 : f ≠ ff_Place_joined := by rcases hf with e | e | e <;> first | (rw [e]; decide) | (have : ff_Place_joined = 386 := rfl; omega)
      have n2 : f ≠ ff_Place_attempt := by rcases hf with e | e | e <;> first | (rw [e]; decide) | (have : ff_Place_attempt = 385 := rfl; omega)
      rw [fi_ne (fun q => n1 q.1), fi_ne (fun q => n2 q.1)]; rfl
    · show fx_fr (fx_sfr s ff_Place_packet (B v + 10 + i) o) ff_Place_packet a = _
      rw [fr_ne (fun q => ha q.2)]
    · show fx_fr (fx_sfr s ff_Place_packet (B v + 10 + i) o) ff_Receiver_last a = _
      rw [fr_ne (fun q => absurd q.1 (by decide))]
    · have n : g ≠ ff_Mod_whose ∧ g ≠ ff_Mod_whichTry ∧ g ≠ ff_Mod_has := by rcases hg with e | e | e | e | e | e <;> (rw [e]; decide)
      rw [fx_up_ne (fun q => n.2.2 q.1), fx_up_ne (fun q => n.2.1 q.1), fx_up_ne (fun q => n.1 q.1)]
    · show fx_fr (fx_sfr s ff_Place_packet (B v + 10 + i) o) ff_Place_packet (B v + 10 + i) = _
      rw [fr_same, fx_up_ne (fun q => absurd q.1 (by decide)), fx_up_ne (fun q => absurd q.1 (by decide)), fx_up_same, oz_nI (by omega), ho]; rfl
    · rw [fi_ne (fun q => absurd q.1 (by decide)), fi_same, fx_up_ne (fun q => absurd q.1 (by decide)), fx_up_same, hy]
    · rw [fi_same, rn_same (by omega), hz]
  rw [eH] at rv ⊢
  rw [eM] at rv ⊢
  exact h.rv rv
/-! a packet is asked for -/
def om_mak (M N : rf_M) : rf_M := fun g i => if (Nat.ble 796 g && Nat.blt g 797) || (Nat.ble 802 g && Nat.blt g 804) || Nat.ble 818 g then N g i else M g i
theorem mak_o {M N : rf_M} {g i : Nat} (h : ((Nat.ble 796 g && Nat.blt g 797) || (Nat.ble 802 g && Nat.blt g 804) || Nat.ble 818 g) = false) : om_mak M N g i = M g i := by
  unfold om_mak
  rw [h]
  rfl
theorem RA.jl {v p : Nat} {c : Int32} {nx fi la : Nat → Option Nat} {sz : Nat → Int32} (h : RA s x B H C Y P m rt K L M) (hJ : JV M lv) (hv : v < (rn M ff_Mod_all 0)) (hp : p < 512) (lp : 0 < rn M ff_Mod_lengths p) (hr : rn M ff_Mod_rowSize v < 512) (hc : c = nI (rn M ff_Mod_lost 0 + 1)) (hR : RR (fx_srow (fx_sfi s ff_Packet_wasAsked (P p) (fx_bit true)) nx fi la sz) x B m (fn_up rt (B v + 6) (rt (B v + 6) ++ [P p]))) : RA (fx_sfi (fx_srow (fx_sfi s ff_Packet_wasAsked (P p) (fx_bit true)) nx fi la sz) ff_Torus_packetsAsked x c) x B H C Y P m (fn_up rt (B v + 6) (rt (B v + 6) ++ [P p])) K L (om_jl M v p) := by
  have h64 := h.sk.c.m64
  have hA64 := hJ.all64
  have hvm : v < m := Nat.lt_of_lt_of_le hv h.nm
  have hin := h.sk.c.in_
  have e2 : ∀ u, u < m → fn_up rt (B v + 6) (rt (B v + 6) ++ [P p]) (B u + 2) = rt (B u + 2) := fun u hu => fn_ne (fun q => by have := h.sk.ap hu hvm (by omega) (by omega) q; omega)
  have e3 : ∀ u, u < m → fn_up rt (B v + 6) (rt (B v + 6) ++ [P p]) (B u + 3) = rt (B u + 3) := fun u hu => fn_ne (fun q => by have := h.sk.ap hu hvm (by omega) (by omega) q; omega)
  have em : fn_up rt (B v + 6) (rt (B v + 6) ++ [P p]) (x + 13) = rt (x + 13) := fn_ne (by have := hin _ hvm; omega)
  have es : fn_up rt (B v + 6) (rt (B v + 6) ++ [P p]) (x + 14) = rt (x + 14) := fn_ne (by have := hin _ hvm; omega)
  have eN : ∀ u, rn (om_jl M v p) ff_Mod_rowSize u = if u = v then rn M ff_Mod_rowSize v + 1 else rn M ff_Mod_rowSize u := by
    intro u
    unfold om_jl
    rw [rn_pe (by decide)]
    by_cases e : u = v
    · rw [if_pos e, e, rn_same (by omega)]
    · rw [if_neg e, rn_ne (fun q => e q.2), rn_pe (by decide), rn_pe (by decide)]
  have eR : ∀ j, rn (om_jl M v p) ff_Mod_row j = if j = 512 * v + rn M ff_Mod_rowSize v then p else rn M ff_Mod_row j := by
    intro j
    unfold om_jl
    rw [rn_pe (by decide), rn_pe (by decide)]
    by_cases e : j = 512 * v + rn M ff_Mod_rowSize v
    · rw [if_pos e, e, rn_same (by omega)]
    · rw [if_neg e, rn_ne (fun q => e q.2), rn_pe (by decide)]
  have eA : ∀ q, om_jl M v p ff_Mod_asked q = if q = p then fx_bit true else M ff_Mod_asked q := by
    intro q
    unfold om_jl
    rw [fx_up_ne (fun w => absurd w.1 (by decide)), fx_up_ne (fun w => absurd w.1 (by decide)), fx_up_ne (fun w => absurd w.1 (by decide))]
    by_cases e : q = p
    · rw [if_pos e, e, fx_up_same]
    · rw [if_neg e, fx_up_ne (fun w => e w.2)]
  have eL : om_jl M v p ff_Mod_lost 0 = c := by
    unfold om_jl
    rw [fx_up_same, hc]
  have ez : ∀ g i, g ≠ 796 → g ≠ 802 → g ≠ 803 → g ≠ 818 → om_jl M v p g i = M g i := by
    intro g i h1 h2 h3 h4
    unfold om_jl
    rw [fx_up_ne (fun q => h4 q.1), fx_up_ne (fun q => h2 q.1), fx_up_ne (fun q => h3 q.1), fx_up_ne (fun q => h1 q.1)]
  have hN : om_jl M v p = om_mak M (om_jl M v p) := by
    funext g i
    unfold om_mak
    by_cases q : ((Nat.ble 796 g && Nat.blt g 797) || (Nat.ble 802 g && Nat.blt g 804) || Nat.ble 818 g) = true
    · rw [if_pos q]
    · rw [if_neg q]
      simp only [Bool.or_eq_true, Bool.and_eq_true, Nat.ble_eq, Nat.blt_eq] at q
      exact ez g i (by omega) (by omega) (by omega) (by omega)
  generalize hNN : om_jl M v p = N at *
  clear hNN ez
  rw [hN]
  have eN' : ∀ u, rn (om_mak M N) ff_Mod_rowSize u = rn N ff_Mod_rowSize u := fun u => rn_eq (by unfold om_mak; exact if_pos (by decide))
  have eR' : ∀ u, rn (om_mak M N) ff_Mod_row u = rn N ff_Mod_row u := fun u => rn_eq (by unfold om_mak; exact if_pos (by decide))
  refine ⟨h.sk, ⟨h.t.mode, h.t.pat, h.t.now, h.t.turn, h.t.fin, h.t.dfl, h.t.rec, ?_, h.t.pks⟩, h.g, h.s, fun q hq lq => ?_, fun u hu => ?_, hR, ⟨fun u hu huA => by rw [e3 u hu]; exact h.x.ag u hu huA, fun u hu huA => ?_, fun u hu huA => ?_⟩, ⟨by rw [em]; exact h.m.row, h.m.dn, h.m.du⟩, ⟨fun q hq hq0 => by rw [es]; exact h.o.sp q hq hq0, h.o.kp, fun u a hu ha => h.o.kw u a hu (by rw [e2 u hu] at ha; exact ha), fun a ha => h.o.ks a (by rw [es] at ha; exact ha)⟩, h.k.rts e2, h.f, h.v, h.nm⟩
  · rw [fi_same]; exact eL.symm
  · have lq' : 0 < rn M ff_Mod_lengths q := by rw [rn_eq (mak_o (by decide))] at lq; exact lq
    obtain ⟨r1, r2, r3, r4, r5, r6, r7, r8, r9⟩ := h.p q hq lq'
    have sp : ∀ f, spk (om_mak M N) f = spk M f := fun f => by unfold spk; rw [rn_eq (mak_o (by decide)), rn_eq (mak_o (by decide))]
    have r9' : fx_fi s ff_Packet_flitsInNet (P q) = nI (sp_cnt (fun f => spk (om_mak M N) f == q) ((rn (om_mak M N) ff_Mod_flits 0))) := by
      rw [rn_eq (M := M) (M' := om_mak M N) (mak_o (by decide)), sp_cnt_congr ((rn M ff_Mod_flits 0)) (fun i _ => by rw [sp i])]
      exact r9
    refine ⟨r1, r2, r3, r4, r5, r6, r7, ?_, r9'⟩
    have em1 : om_mak M N ff_Mod_asked q = N ff_Mod_asked q := by unfold om_mak; exact if_pos (by decide)
    rw [em1]
    show fx_fi (fx_sfi s ff_Packet_wasAsked (P p) (fx_bit true)) ff_Packet_wasAsked (P q) = N ff_Mod_asked q
    rw [eA]
    by_cases e : q = p
    · rw [if_pos e, e, fi_same]
    · rw [if_neg e, fi_ne (fun w => e (h.p.inj hq hp lq' lp w.2))]; exact r8
  · rw [e2 u hu]
    refine ⟨(h.w u hu).1, fun j a ha => ?_⟩
    obtain ⟨r1, r2, r3, r4, r5, r6, r7, r8, r9⟩ := (h.w u hu).2 j a ha
    have na : a ≠ P p := fun q => h.w.nP h.p hp lp hu (by rw [← q]; exact List.mem_of_getElem? ha)
    refine ⟨r1, r2, r3, r4, r5, r6, r7, ?_, r9⟩
    show fx_fi (fx_sfi s ff_Packet_wasAsked (P p) (fx_bit true)) ff_Packet_wasAsked a = _
    rw [fi_ne (fun w => na w.2)]; exact r8
  · rw [eN', eN]
    by_cases e : u = v
    · rw [e, fn_same, if_pos rfl, h.x.ak v hvm hv, List.range_succ, List.map_append]
      congr 1
      · refine List.map_congr_left (fun i hi => ?_)
        rw [eR', eR, if_neg (by have := List.mem_range.mp hi; omega)]
      · rw [List.map_singleton, eR', eR, if_pos rfl]
    · rw [fn_ne (fun q => e (h.sk.ap hu hvm (by omega) (by omega) q).1), if_neg e, h.x.ak u hu huA]
      refine List.map_congr_left (fun i hi => ?_)
      have := List.mem_range.mp hi
      have huA' : u < (rn M ff_Mod_all 0) := huA
      have := hJ.ri.rNl (v := u) (by omega)
      rw [eR', eR, if_neg (by omega)]
  · have huA' : (rn M ff_Mod_all 0) ≤ u := huA
    rw [e3 u hu, fn_ne (fun q => by have := (h.sk.ap hu hvm (by omega) (by omega) q).1; omega)]
    exact h.x.z u hu huA'
end
