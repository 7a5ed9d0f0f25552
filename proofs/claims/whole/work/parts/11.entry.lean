/-- the good words -/
def fx_T1 : List Cond := lw_tbl.filter goodWord
theorem fx_wd_in {w : Nat} {c : Cond} (h : fx_wd w c = true) : c ∈ fx_T1 := by
  simp only [fx_wd, Bool.and_eq_true, decide_eq_true_eq] at h
  exact List.mem_filter.mpr ⟨List.mem_of_getElem? h.1, h.2⟩
theorem fx_T1_good {c : Cond} (h : c ∈ fx_T1) : c ∈ lw_tbl ∧ goodWord c = true := List.mem_filter.mp h
theorem fx_look_mem {pc : Nat} {i : fx_I} : ∀ (l : List fx_E), fx_look pc l = some i → ∃ w, (pc, i, w) ∈ l
  | [], h => by simp [fx_look] at h
  | (q, j, w) :: l, h => by
    simp only [fx_look] at h
    by_cases e : q = pc
    · subst e
      simp at h
      subst h
      exact ⟨w, List.mem_cons_self⟩
    · have e' : (q == pc) = false := by simpa using e
      rw [e'] at h
      obtain ⟨w', hw⟩ := fx_look_mem l h
      exact ⟨w', List.mem_cons_of_mem _ hw⟩
/-- what the checks say of an instruction -/
theorem fx_entry {mi pc : Nat} {i : fx_I} (h : fx_tab mi pc = some i) : ∃ w, fx_okE mi (pc, i, w) = true ∧ fx_kindE (pc, i, w) = true ∧ fx_exE mi (pc, i, w) = true := by
  obtain ⟨w, hw⟩ := fx_look_mem _ h
  refine ⟨w, ?_⟩
  unfold fx_code at hw
  rw [List.getD_eq_getElem?_getD] at hw
  cases hc : fx_cs[mi]? with
  | none => rw [hc] at hw; simp at hw
  | some l =>
    rw [hc] at hw
    have hl : l ∈ fx_cs := List.mem_of_getElem? hc
    have hz : (l, mi) ∈ fx_cs.zipIdx := by
      rw [List.mem_iff_getElem?]
      exact ⟨mi, by rw [List.getElem?_zipIdx, hc]; simp⟩
    refine ⟨List.all_eq_true.mp (List.all_eq_true.mp fx_oks _ hz) _ hw, List.all_eq_true.mp (List.all_eq_true.mp fx_kinds _ hl) _ hw, List.all_eq_true.mp (List.all_eq_true.mp fx_exs _ hz) _ hw⟩
theorem fx_meth {mi : Nat} (h : mi < 132) : fx_okM mi = true := List.all_eq_true.mp fx_okMs _ (List.mem_range.mpr h)
theorem fx_clsF {ci : Nat} {r : vw_C} (h : fx_cl[ci]? = some r) : fx_okF ci r = true := by
  have hz : (r, ci) ∈ fx_cl.zipIdx := by
    rw [List.mem_iff_getElem?]
    exact ⟨ci, by rw [List.getElem?_zipIdx, h]; simp⟩
  exact List.all_eq_true.mp fx_okFs _ hz
theorem fx_over {ci : Nat} {r : vw_C} (h : fx_ia (40 + ci) = true) (hr : fx_cl[ci]? = some r) : Cond.arrayOver (.object r.1) ∈ lw_tbl := by
  simp only [fx_ia, Bool.or_eq_true, beq_iff_eq] at h
  rcases (show ci = 1 ∨ ci = 2 ∨ ci = 4 ∨ ci = 5 ∨ ci = 6 by omega) with h | h | h | h | h <;> subst h <;> cases hr
  · exact List.mem_of_getElem? (i := 301) (by decide +kernel)
  · exact List.mem_of_getElem? (i := 91) (by decide +kernel)
  · exact List.mem_of_getElem? (i := 162) (by decide +kernel)
  · exact List.mem_of_getElem? (i := 245) (by decide +kernel)
  · exact List.mem_of_getElem? (i := 300) (by decide +kernel)
theorem fx_clsD {ci : Nat} {r : vw_C} (h : fx_cl[ci]? = some r) : fx_okD r = true := List.all_eq_true.mp fx_okDs _ (List.mem_of_getElem? h)
