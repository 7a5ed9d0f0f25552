/-! A METHOD THAT THROWS: its walk begun anew where it stands -/
section
variable {p : Program} {l : Launch} {e : Env} {R : Room} {s : State} {m : MethodId} {args : Array Value} {below : List Frame} {meth : Method} {c : Code} {T : State} {locs : List Loc} {cells slots : Nat}
def re_st (T : State) (m : MethodId) (args : Array Value) (below : List Frame) : State := T.setFrames (.invoking m args :: below)
def re_rm (R : Room) (cells slots : Nat) : Room := { R with cells := R.cells - cells, slots := R.slots - slots }
theorem re_hears {s t : State} (h : ∀ x, t.vm.method? x = s.vm.method? x) (m : MethodId) : ∀ fr, t.hears m fr = s.hears m fr := by
  intro fr
  unfold State.hears
  split
  · simp only [State.code?_eq, h]
  · rfl
  · rfl
  · rw [h]
theorem re_stand (X : Stand p l e R s m args below meth c T locs cells slots) (hc : cells ≤ R.cells) (hs : slots ≤ R.slots) : Stand p l e (re_rm R cells slots) (re_st T m args below) m args below meth c T [] 0 0 := by
  obtain ⟨g₀, hfr⟩ := X.frames_eq
  have hcur : T.cur < T.threads.size := State.cur_lt_of_frames hfr
  have hF : (re_st T m args below).frames = .invoking m args :: below := State.frames_setFrames _ hcur
  have hm : (re_st T m args below).vm.method? m = some meth := X.method'
  have hlim : e.platform.stackLimits (re_st T m args below).me = e.platform.stackLimits s.me := (State.stackLimits_setFrames e.platform T _).trans X.limits
  have hby : (re_st T m args below).me.stackBytes = s.me.stackBytes := (State.stackBytes_setFrames T _).trans X.bytes
  have hlo : (re_st T m args below).localsInUse = s.localsInUse := by
    rw [State.localsInUse_invoking hF hm X.code, State.localsInUse_invoking X.frames X.method X.code]
  have hroom : (re_st T m args below).hasRoom e.platform (re_rm R cells slots) = true := by
    have h := X.room
    have h1 := X.heapSize
    have h2 := X.used
    have h3 : (re_st T m args below).slotsTrue = true := X.book
    simp only [State.hasRoom, Bool.and_eq_true, decide_eq_true_eq] at h ⊢
    rw [hlo, hlim, hby, hF]
    rw [X.frames] at h
    obtain ⟨⟨⟨⟨a1, a2⟩, a3⟩, a4⟩, a5⟩ := h
    refine ⟨⟨⟨⟨a1, a2⟩, ?_⟩, ?_⟩, h3⟩
    · show T.heap.size + (R.cells - cells) ≤ _
      omega
    · show T.slotsUsed + (R.slots - slots) ≤ _
      omega
  have hhe : (re_st T m args below).hears m below = true := by
    rw [re_hears (s := s) (t := re_st T m args below) (fun x => X.warmed.alike.method? x) m below]
    exact X.hears
  obtain ⟨th, hth, -⟩ := State.frames_cons hF
  have hback : (re_st T m args below).setFrames T.frames = T := by
    obtain ⟨t0, ht0, -⟩ := State.frames_cons hfr
    show (T.setFrames _).setFrames T.frames = T
    rw [State.setFrames_setFrames, State.setFrames_self ht0]
  have hcur2 : (re_st T m args below).cur < (re_st T m args below).threads.size := State.cur_lt_of_frames hF
  have hsame : (re_st T m args below).sameButNew (T.setVm (re_st T m args below).vm) [] 0 0 := by
    have h := (State.sameButNew.refl (re_st T m args below) hth).setFrames T.frames hcur2
    rw [hback] at h
    exact h
  exact ⟨X.admits, X.cas, X.clock, hF, hroom, hhe, hm, X.code, X.here, X.tail, State.WarmedH.refl (re_st T m args below), hlim.symm ▸ X.limits, hby.symm ▸ X.bytes, hsame⟩
/-- what ends a walk begun anew ends the walk -/
theorem re_same {U : State} {k n : Nat} (X : Stand p l e R s m args below meth c T locs cells slots) (hW : (re_st T m args below).WarmedH U.vm) (h : (re_st T m args below).sameButNew ({ U with vm := (re_st T m args below).vm } : State) [] k n) : s.WarmedH U.vm ∧ s.sameButNew ({ U with vm := s.vm } : State) locs (cells + k) (slots + n) := by
  have hW' : T.WarmedH U.vm := hW
  refine ⟨X.warmed.trans hW', ?_⟩
  have h2 : T.sameButNew ({ U with vm := T.vm } : State) [] k n := by
    obtain ⟨h1, h2, h3, h4, h5, h6⟩ := h
    refine ⟨?_, h2, h3, h4, h5, h6⟩
    have : (re_st T m args below).setFrames U.frames = T.setFrames U.frames := State.setFrames_setFrames _ _ _
    refine Eq.trans h1 ?_
    show ({ (re_st T m args below).setFrames U.frames with heap := U.heap, slotsUsed := U.slotsUsed } : State) = _
    rw [this]
    rfl
  have h3 := X.same.trans (h2.setVm s.vm)
  rw [List.append_nil] at h3
  exact h3
end
