/-! THE CLASS: words, rows of packets -/
section
variable {mi pc np f t a n j idx : Nat} {ls : fx_L} {st : List fx_V} {s : fx_S} {Q : fx_Q} {x : Int32}
theorem xx_pi {c : Nat} (ht : fx_tab mi pc = some (.putfield idx, np, f, 0)) (hc : (c == 10 + f / 64) = true) (k : fx_W mi np ls st (fx_sfi s f a x) Q) : fx_W mi pc ls (.inl x :: .inr (.inl (c, some a)) :: st) s Q :=
  xx_j (C := 0 = 1 → x = 0 ∨ x = 1) ht (by simp only [fx_act, hc, Bool.true_and]; rfl) (fun q => absurd q (by decide)) k
theorem xx_pz {c : Nat} {p : Bool} (ht : fx_tab mi pc = some (.putfield idx, np, f, 1)) (hc : (c == 10 + f / 64) = true) (k : fx_W mi np ls st (fx_sfi s f a (fx_bit p)) Q) : fx_W mi pc ls (.inl (fx_bit p) :: .inr (.inl (c, some a)) :: st) s Q :=
  xx_j (C := 1 = 1 → fx_bit p = 0 ∨ fx_bit p = 1) ht (by simp only [fx_act, hc, Bool.true_and]; rfl) (fun _ => fx_bit01 p) k
theorem xx_pr {c c2 : Nat} {o : Option Nat} (ht : fx_tab mi pc = some (.putfield idx, np, f, t)) (hc : (c == 10 + f / 64) = true) (h2 : Nat.ble 2 t = true) (ho : c2 = t ∨ o = none) (k : fx_W mi np ls st (fx_sfr s f a o) Q) : fx_W mi pc ls (.inr (.inl (c2, o)) :: .inr (.inl (c, some a)) :: st) s Q :=
  xx_j (C := c2 = t ∨ o = none) ht (by simp only [fx_act, hc, h2, Bool.true_and]; rfl) ho k
theorem xx_nn {r1 r2 c : Nat} {o : Option Nat} {off : Int} (ht : fx_tab mi pc = some (.ifnonnull off, np, r1, r2)) (k1 : ∀ b, o = some b → fx_W mi r1 ls st s Q) (k2 : o = none → fx_W mi np ls st s Q) : fx_W mi pc ls (.inr (.inl (c, o)) :: st) s Q := by
  refine xx_b (C := o = none) ht rfl (fun h => k2 h) (fun h => ?_)
  cases o with
  | none => exact absurd rfl h
  | some b => exact k1 b rfl
theorem xx_nu {r1 r2 c : Nat} {o : Option Nat} {off : Int} (ht : fx_tab mi pc = some (.ifnull off, np, r1, r2)) (k1 : o = none → fx_W mi r1 ls st s Q) (k2 : ∀ b, o = some b → fx_W mi np ls st s Q) : fx_W mi pc ls (.inr (.inl (c, o)) :: st) s Q := by
  refine xx_b (C := o = none) ht rfl (fun h => k1 h) (fun h => ?_)
  cases o with
  | none => exact absurd rfl h
  | some b => exact k2 b rfl
theorem xx_an {r1 r2 c c2 : Nat} {o q : Option Nat} {off : Int} (ht : fx_tab mi pc = some (.if_acmp .ne off, np, r1, r2)) (k1 : q ≠ o → fx_W mi r1 ls st s Q) (k2 : q = o → fx_W mi np ls st s Q) : fx_W mi pc ls (.inr (.inl (c, o)) :: .inr (.inl (c2, q)) :: st) s Q :=
  xx_b (C := q = o) ht rfl k2 k1
theorem xx_ae {r1 r2 c c2 : Nat} {o q : Option Nat} {off : Int} (ht : fx_tab mi pc = some (.if_acmp .eq off, np, r1, r2)) (k1 : q = o → fx_W mi r1 ls st s Q) (k2 : q ≠ o → fx_W mi np ls st s Q) : fx_W mi pc ls (.inr (.inl (c, o)) :: .inr (.inl (c2, q)) :: st) s Q :=
  xx_b (C := q = o) ht rfl k1 k2
theorem xx_ra {r1 r2 c : Nat} {o : Option Nat} (ht : fx_tab mi pc = some (.areturn, np, r1, r2)) (k : Q (some (.inr (.inl (c, o)))) s) : fx_W mi pc ls [.inr (.inl (c, o))] s Q := xx_r ht rfl trivial k
theorem xx_rv {r1 r2 : Nat} (ht : fx_tab mi pc = some (.return_, np, r1, r2)) (k : Q none s) : fx_W mi pc ls [] s Q := xx_r ht rfl trivial k
/-- a reference is renamed -/
theorem xx_tr {c : Nat} {o q : Option Nat} (h : o = q) (k : fx_W mi pc ls (.inr (.inl (c, q)) :: st) s Q) : fx_W mi pc ls (.inr (.inl (c, o)) :: st) s Q := by rw [h]; exact k
end
section
variable {s : fx_S} {f g a b i j : Nat} {v : Option Nat} {x : Int32}
theorem fr_same : fx_fr (fx_sfr s f a v) f a = v := by
  show fx_up (fx_fr s) f a v f a = v
  exact fx_up_same _ _ _ _
theorem fr_ne (h : ¬ (g = f ∧ b = a)) : fx_fr (fx_sfr s f a v) g b = fx_fr s g b := by
  show fx_up (fx_fr s) f a v g b = _
  exact fx_up_ne h
theorem fi_same : fx_fi (fx_sfi s f a x) f a = x := by
  show fx_up (fx_fi s) f a x f a = x
  exact fx_up_same _ _ _ _
theorem fi_ne (h : ¬ (g = f ∧ b = a)) : fx_fi (fx_sfi s f a x) g b = fx_fi s g b := by
  show fx_up (fx_fi s) f a x g b = _
  exact fx_up_ne h
theorem ar_same : fx_ar (fx_sar s a i v) a i = v := by
  show fx_up (fx_ar s) a i v a i = v
  exact fx_up_same _ _ _ _
theorem ar_ne (h : ¬ (b = a ∧ j = i)) : fx_ar (fx_sar s a i v) b j = fx_ar s b j := by
  show fx_up (fx_ar s) a i v b j = _
  exact fx_up_ne h
theorem ai_same : fx_ai (fx_sai s a i x) a i = x := by
  show fx_up (fx_ai s) a i x a i = x
  exact fx_up_same _ _ _ _
theorem ai_ne (h : ¬ (b = a ∧ j = i)) : fx_ai (fx_sai s a i x) b j = fx_ai s b j := by
  show fx_up (fx_ai s) a i x b j = _
  exact fx_up_ne h
end
/-- the references from packet to packet -/
def CH (nx : Nat → Option Nat) : List Nat → Prop
  | [] => True
  | [a] => nx a = none
  | a :: b :: t => nx a = some b ∧ CH nx (b :: t)
theorem CH.frame {nx nx' : Nat → Option Nat} : ∀ {l : List Nat}, CH nx l → (∀ a, a ∈ l → nx' a = nx a) → CH nx' l
  | [], _, _ => trivial
  | [a], h, e => by
    show nx' a = none
    rw [e a (by simp)]
    exact h
  | a :: b :: t, h, e => ⟨by rw [e a (by simp)]; exact h.1, CH.frame h.2 (fun c hc => e c (List.mem_cons_of_mem _ hc))⟩
theorem CH.head {nx : Nat → Option Nat} {a : Nat} {l : List Nat} (h : CH nx (a :: l)) : nx a = l.head? ∧ CH nx l := by
  cases l with
  | nil => exact ⟨h, trivial⟩
  | cons b t => exact ⟨h.1, h.2⟩
theorem CH.app {nx nx' : Nat → Option Nat} {a : Nat} : ∀ {l : List Nat}, CH nx l → l.Nodup → a ∉ l → nx' a = none → (∀ b, b ∈ l → l.getLast? ≠ some b → nx' b = nx b) → (∀ b, l.getLast? = some b → nx' b = some a) → CH nx' (l ++ [a])
  | [], _, _, _, h, _, _ => h
  | [b], _, _, _, h, _, hl => ⟨hl b rfl, h⟩
  | b :: c :: t, h, hd, ha, hn, hk, hl => by
    have hd' := List.nodup_cons.mp hd
    have hlast : (b :: c :: t).getLast? = (c :: t).getLast? := by simp [List.getLast?_cons_cons]
    refine ⟨?_, CH.app (l := c :: t) h.2 hd'.2 (fun q => ha (List.mem_cons_of_mem _ q)) hn (fun e he hne => ?_) (fun e he => ?_)⟩
    · rw [hk b (by simp) (fun q => ?_)]
      · exact h.1
      · rw [hlast] at q
        exact hd'.1 (List.mem_of_getLast? q)
    · exact hk e (List.mem_cons_of_mem _ he) (by rw [hlast]; exact hne)
    · exact hl e (by rw [hlast]; exact he)
/-- the row at r holds the packets l -/
def RL (s : fx_S) (r : Nat) (l : List Nat) : Prop := fx_fr s ff_Row_first r = l.head? ∧ fx_fr s ff_Row_last r = l.getLast? ∧ fx_fi s ff_Row_size r = nI l.length ∧ CH (fx_fr s ff_Packet_next) l
def cm_app (s : fx_S) (r a : Nat) : fx_S := fx_sfi (fx_sfr (match fx_fr s ff_Row_last r with
    | none => fx_sfr (fx_sfr s ff_Packet_next a none) ff_Row_first r (some a)
    | some b => fx_sfr (fx_sfr s ff_Packet_next a none) ff_Packet_next b (some a)) ff_Row_last r (some a)) ff_Row_size r (fx_fi s ff_Row_size r + nI 1)
def cm_rmf (s : fx_S) (r a : Nat) : fx_S := fx_sfi (fx_sfr (match fx_fr s ff_Packet_next a with
    | none => fx_sfr (fx_sfr s ff_Row_first r none) ff_Row_last r none
    | some b => fx_sfr s ff_Row_first r (some b)) ff_Packet_next a none) ff_Row_size r (fx_fi s ff_Row_size r - nI 1)
def cm_rcl (s : fx_S) (r : Nat) : fx_S := fx_sfi (fx_sfr (fx_sfr s ff_Row_first r none) ff_Row_last r none) ff_Row_size r (nI 0)
section
variable {s : fx_S} {Q : fx_Q} {r a : Nat}
theorem k_append (k : Q none (cm_app s r a)) : fx_M mm_Row_append [vR 20 (some r), vR 15 (some a)] s Q := by
  refine xx_i ml19 ?_
  refine xx_j ee19_0 rfl trivial ?_
  refine xx_j ee19_1 rfl trivial ?_
  first | refine xx_pr ee19_2 rfl rfl (Or.inl rfl) ?_ | refine xx_pr ee19_2 rfl rfl (Or.inr rfl) ?_
  refine xx_j ee19_5 rfl trivial ?_
  refine xx_j ee19_6 rfl trivial ?_
  refine xx_nn ee19_9 (fun b hb => ?_) (fun hn => ?_)
  · refine xx_j ee19_20 rfl trivial ?_
    refine xx_gr ee19_21 hb rfl rfl ?_
    refine xx_j ee19_24 rfl trivial ?_
    first | refine xx_pr ee19_25 rfl rfl (Or.inl rfl) ?_ | refine xx_pr ee19_25 rfl rfl (Or.inr rfl) ?_
    refine xx_j ee19_28 rfl trivial ?_
    refine xx_j ee19_29 rfl trivial ?_
    first | refine xx_pr ee19_30 rfl rfl (Or.inl rfl) ?_ | refine xx_pr ee19_30 rfl rfl (Or.inr rfl) ?_
    refine xx_j ee19_33 rfl trivial ?_
    refine xx_j ee19_34 rfl trivial ?_
    refine xx_j ee19_35 rfl trivial ?_
    refine xx_k ee19_38 1 rfl ?_
    first | refine xx_add ee19_39 ?_ | refine xx_j ee19_39 rfl trivial ?_
    refine xx_pi ee19_40 rfl ?_
    refine xx_rv ee19_43 ?_
    have hb' : fx_fr s ff_Row_last r = some b := hb
    unfold cm_app at k
    rw [hb'] at k
    exact k
  · refine xx_j ee19_12 rfl trivial ?_
    refine xx_j ee19_13 rfl trivial ?_
    first | refine xx_pr ee19_14 rfl rfl (Or.inl rfl) ?_ | refine xx_pr ee19_14 rfl rfl (Or.inr rfl) ?_
    refine xx_j ee19_17 rfl trivial ?_
    refine xx_j ee19_28 rfl trivial ?_
    refine xx_j ee19_29 rfl trivial ?_
    first | refine xx_pr ee19_30 rfl rfl (Or.inl rfl) ?_ | refine xx_pr ee19_30 rfl rfl (Or.inr rfl) ?_
    refine xx_j ee19_33 rfl trivial ?_
    refine xx_j ee19_34 rfl trivial ?_
    refine xx_j ee19_35 rfl trivial ?_
    refine xx_k ee19_38 1 rfl ?_
    first | refine xx_add ee19_39 ?_ | refine xx_j ee19_39 rfl trivial ?_
    refine xx_pi ee19_40 rfl ?_
    refine xx_rv ee19_43 ?_
    have hb' : fx_fr s ff_Row_last r = none := hn
    unfold cm_app at k
    rw [hb'] at k
    exact k
theorem k_removeFirst {l : List Nat} (h : fx_fr s ff_Row_first r = l.head?) (k1 : l = [] → Q (some (vR 0 none)) s) (k2 : ∀ a t, l = a :: t → Q (some (vR 15 (some a))) (cm_rmf s r a)) : fx_M mm_Row_removeFirst [vR 20 (some r)] s Q := by
  refine xx_i ml21 ?_
  refine xx_j ee21_0 rfl trivial ?_
  refine xx_gr ee21_1 h rfl rfl ?_
  refine xx_j ee21_4 rfl trivial ?_
  refine xx_j ee21_5 rfl trivial ?_
  refine xx_nn ee21_6 (fun b hb => ?_) (fun hn => ?_)
  · obtain ⟨t, ht⟩ : ∃ t, l = b :: t := by
      cases l with
      | nil => cases hb
      | cons c t => cases hb; exact ⟨t, rfl⟩
    have k := k2 b t ht
    rw [hb]
    unfold cm_rmf at k
    refine xx_j ee21_11 rfl trivial ?_
    refine xx_j ee21_12 rfl trivial ?_
    refine xx_j ee21_13 rfl trivial ?_
    first | refine xx_pr ee21_16 rfl rfl (Or.inl rfl) ?_ | refine xx_pr ee21_16 rfl rfl (Or.inr rfl) ?_
    refine xx_j ee21_19 rfl trivial ?_
    refine xx_j ee21_20 rfl trivial ?_
    refine xx_nn ee21_23 (fun c hc => ?_) (fun hn => ?_)
    · have hc' : fx_fr s ff_Packet_next b = some c := by
        have e : fx_fr (fx_sfr s ff_Row_first r (fx_fr s ff_Packet_next b)) ff_Row_first r = some c := hc
        rw [fr_same] at e
        exact e
      rw [hc'] at k
      rw [show fx_fr s 331 b = some c from hc']
      refine xx_j ee21_31 rfl trivial ?_
      refine xx_j ee21_32 rfl trivial ?_
      first | refine xx_pr ee21_33 rfl rfl (Or.inl rfl) ?_ | refine xx_pr ee21_33 rfl rfl (Or.inr rfl) ?_
      refine xx_j ee21_36 rfl trivial ?_
      refine xx_j ee21_37 rfl trivial ?_
      refine xx_j ee21_38 rfl trivial ?_
      refine xx_k ee21_41 1 rfl ?_
      refine xx_j ee21_42 rfl trivial ?_
      refine xx_pi ee21_43 rfl ?_
      refine xx_j ee21_46 rfl trivial ?_
      exact xx_ra ee21_47 k
    · have hc' : fx_fr s ff_Packet_next b = none := by
        have e : fx_fr (fx_sfr s ff_Row_first r (fx_fr s ff_Packet_next b)) ff_Row_first r = none := hn
        rw [fr_same] at e
        exact e
      rw [hc'] at k
      rw [show fx_fr s 331 b = none from hc']
      refine xx_j ee21_26 rfl trivial ?_
      refine xx_j ee21_27 rfl trivial ?_
      first | refine xx_pr ee21_28 rfl rfl (Or.inl rfl) ?_ | refine xx_pr ee21_28 rfl rfl (Or.inr rfl) ?_
      refine xx_j ee21_31 rfl trivial ?_
      refine xx_j ee21_32 rfl trivial ?_
      first | refine xx_pr ee21_33 rfl rfl (Or.inl rfl) ?_ | refine xx_pr ee21_33 rfl rfl (Or.inr rfl) ?_
      refine xx_j ee21_36 rfl trivial ?_
      refine xx_j ee21_37 rfl trivial ?_
      refine xx_j ee21_38 rfl trivial ?_
      refine xx_k ee21_41 1 rfl ?_
      refine xx_j ee21_42 rfl trivial ?_
      refine xx_pi ee21_43 rfl ?_
      refine xx_j ee21_46 rfl trivial ?_
      exact xx_ra ee21_47 k
  · have : l = [] := by
      cases l with
      | nil => rfl
      | cons c t => cases hn
    refine xx_j ee21_9 rfl trivial ?_
    exact xx_ra ee21_10 (k1 this)
theorem k_rclear (k : Q none (cm_rcl s r)) : fx_M mm_Row_clear [vR 20 (some r)] s Q := by
  refine xx_i ml20 ?_
  refine xx_j ee20_0 rfl trivial ?_
  refine xx_j ee20_1 rfl trivial ?_
  first | refine xx_pr ee20_2 rfl rfl (Or.inl rfl) ?_ | refine xx_pr ee20_2 rfl rfl (Or.inr rfl) ?_
  refine xx_j ee20_5 rfl trivial ?_
  refine xx_j ee20_6 rfl trivial ?_
  first | refine xx_pr ee20_7 rfl rfl (Or.inl rfl) ?_ | refine xx_pr ee20_7 rfl rfl (Or.inr rfl) ?_
  refine xx_j ee20_10 rfl trivial ?_
  refine xx_k ee20_11 0 rfl ?_
  refine xx_pi ee20_12 rfl ?_
  exact xx_rv ee20_15 k
end
