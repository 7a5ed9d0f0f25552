/-! THE REFERENCE: writers -/
section
variable {s : fx_S} {Q : fx_Q} {o : Nat} {A : Nat → Nat} {M : rf_M}
/-- the last flit takes f's place -/
def om_rem (M : rf_M) (f : Nat) : rf_M :=
  let L := rn M ff_Mod_flits 0 - 1
  fx_up (fx_up (fx_up (fx_up (fx_up (fx_up (fx_up (fx_up (fx_up M ff_Mod_flits 0 (nI L)) ff_Mod_at f (M ff_Mod_at L)) ff_Mod_line f (M ff_Mod_line L)) ff_Mod_source f (M ff_Mod_source L)) ff_Mod_slot f (M ff_Mod_slot L)) ff_Mod_number f (M ff_Mod_number L)) ff_Mod_entry f (M ff_Mod_entry L)) ff_Mod_tries f (M ff_Mod_tries L)) ff_Mod_way f (M ff_Mod_way L)
theorem q_remove {f : Nat} (hR : rf_ok s o A M) (hI : RI M) (hf : f < rn M ff_Mod_flits 0) (k : ∀ s', rf_ok s' o A (om_rem M f) → rf_fr o A s s' → Q none s') : fx_M mm_Mod_remove [vR 22 (some o), vI (nI f)] s Q := by
  have h1 := hI.l ff_Mod_flits 0 257 (n := 1) rfl (by omega) rfl (by omega)
  have e1 := hI.f ff_Mod_flits rfl (by decide)
  have hF := rf_fr.rf o A s
  refine xx_i ml42 ?_
  refine xx_j ee42_0 rfl trivial ?_
  refine xx_j ee42_1 rfl trivial ?_
  refine rr_fi hR ee42_2 rfl rfl rfl ?_
  refine xx_t e1 ?_
  refine xx_k ee42_5 1 rfl ?_
  refine xx_sub ee42_6 (by omega) ?_
  refine rr_pf hR hF ee42_7 rfl rfl (fun s hR hF => ?_)
  refine xx_j ee42_10 rfl trivial ?_
  refine rr_fa hR ee42_11 (by decide) rfl rfl ?_
  refine xx_j ee42_14 rfl trivial ?_
  refine xx_j ee42_15 rfl trivial ?_
  refine rr_fa hR ee42_16 (by decide) rfl rfl ?_
  refine xx_j ee42_19 rfl trivial ?_
  refine rr_fi hR ee42_20 rfl rfl rfl ?_
  refine xx_t rfl ?_
  refine rr_al 300 hR ee42_23 rfl (show rn M ff_Mod_flits 0 - 1 < 300 by omega) ?_
  refine rr_as 300 hR hF ee42_24 rfl (by omega) (fun s hR hF => ?_)
  refine xx_j ee42_25 rfl trivial ?_
  refine rr_fa hR ee42_26 (by decide) rfl rfl ?_
  refine xx_j ee42_29 rfl trivial ?_
  refine xx_j ee42_30 rfl trivial ?_
  refine rr_fa hR ee42_31 (by decide) rfl rfl ?_
  refine xx_j ee42_34 rfl trivial ?_
  refine rr_fi hR ee42_35 rfl rfl rfl ?_
  refine rr_al 300 hR ee42_38 rfl (by omega) ?_
  refine rr_as 300 hR hF ee42_39 rfl (by omega) (fun s hR hF => ?_)
  refine xx_j ee42_40 rfl trivial ?_
  refine rr_fa hR ee42_41 (by decide) rfl rfl ?_
  refine xx_j ee42_44 rfl trivial ?_
  refine xx_j ee42_45 rfl trivial ?_
  refine rr_fa hR ee42_46 (by decide) rfl rfl ?_
  refine xx_j ee42_49 rfl trivial ?_
  refine rr_fi hR ee42_50 rfl rfl rfl ?_
  refine rr_al 300 hR ee42_53 rfl (by omega) ?_
  refine rr_as 300 hR hF ee42_54 rfl (by omega) (fun s hR hF => ?_)
  refine xx_j ee42_55 rfl trivial ?_
  refine rr_fa hR ee42_56 (by decide) rfl rfl ?_
  refine xx_j ee42_59 rfl trivial ?_
  refine xx_j ee42_60 rfl trivial ?_
  refine rr_fa hR ee42_61 (by decide) rfl rfl ?_
  refine xx_j ee42_64 rfl trivial ?_
  refine rr_fi hR ee42_65 rfl rfl rfl ?_
  refine rr_al 300 hR ee42_68 rfl (by omega) ?_
  refine rr_as 300 hR hF ee42_69 rfl (by omega) (fun s hR hF => ?_)
  refine xx_j ee42_70 rfl trivial ?_
  refine rr_fa hR ee42_71 (by decide) rfl rfl ?_
  refine xx_j ee42_74 rfl trivial ?_
  refine xx_j ee42_75 rfl trivial ?_
  refine rr_fa hR ee42_76 (by decide) rfl rfl ?_
  refine xx_j ee42_79 rfl trivial ?_
  refine rr_fi hR ee42_80 rfl rfl rfl ?_
  refine rr_al 300 hR ee42_83 rfl (by omega) ?_
  refine rr_as 300 hR hF ee42_84 rfl (by omega) (fun s hR hF => ?_)
  refine xx_j ee42_85 rfl trivial ?_
  refine rr_fa hR ee42_86 (by decide) rfl rfl ?_
  refine xx_j ee42_89 rfl trivial ?_
  refine xx_j ee42_90 rfl trivial ?_
  refine rr_fa hR ee42_91 (by decide) rfl rfl ?_
  refine xx_j ee42_94 rfl trivial ?_
  refine rr_fi hR ee42_95 rfl rfl rfl ?_
  refine rr_al 300 hR ee42_98 rfl (by omega) ?_
  refine rr_as 300 hR hF ee42_99 rfl (by omega) (fun s hR hF => ?_)
  refine xx_j ee42_100 rfl trivial ?_
  refine rr_fa hR ee42_101 (by decide) rfl rfl ?_
  refine xx_j ee42_104 rfl trivial ?_
  refine xx_j ee42_105 rfl trivial ?_
  refine rr_fa hR ee42_106 (by decide) rfl rfl ?_
  refine xx_j ee42_109 rfl trivial ?_
  refine rr_fi hR ee42_110 rfl rfl rfl ?_
  refine rr_al 300 hR ee42_113 rfl (by omega) ?_
  refine rr_as 300 hR hF ee42_114 rfl (by omega) (fun s hR hF => ?_)
  refine xx_j ee42_115 rfl trivial ?_
  refine rr_fa hR ee42_116 (by decide) rfl rfl ?_
  refine xx_j ee42_119 rfl trivial ?_
  refine xx_j ee42_120 rfl trivial ?_
  refine rr_fa hR ee42_121 (by decide) rfl rfl ?_
  refine xx_j ee42_124 rfl trivial ?_
  refine rr_fi hR ee42_125 rfl rfl rfl ?_
  refine rr_al 300 hR ee42_128 rfl (by omega) ?_
  refine rr_as 300 hR hF ee42_129 rfl (by omega) (fun s hR hF => ?_)
  exact xx_r ee42_130 rfl trivial (k _ hR hF)
/-- a note is sent -/
def om_note (M : rf_M) (v p : Nat) (d : Bool) : rf_M :=
  fx_up (fx_up (fx_up (fx_up M ff_Mod_noteSlot (rn M ff_Mod_notes 0) (nI p)) ff_Mod_noteDone (rn M ff_Mod_notes 0) (fx_bit d)) ff_Mod_noteDue (rn M ff_Mod_notes 0) (nI (rn M ff_Mod_cycle 0 + rn M ff_Mod_away (64 * v + p / 8)))) ff_Mod_notes 0 (nI (rn M ff_Mod_notes 0 + 1))
theorem q_note {v p : Nat} {d : Bool} (hR : rf_ok s o A M) (hI : RI M) (hv : v < 64) (hp : p < 512) (k : ∀ s', rf_ok s' o A (om_note M v p d) → rf_fr o A s s' → Q none s') : fx_M mm_Mod_note [vR 22 (some o), vI (nI v), vI (nI p), vI (fx_bit d)] s Q := by
  have h1 := hI.l ff_Mod_notes 0 1001 (n := 1) rfl (by omega) rfl (by omega)
  have e1 := hI.f ff_Mod_notes rfl (by decide)
  have e2 := hI.f ff_Mod_cycle rfl (by decide)
  have e3 := hI.e ff_Mod_away (64 * v + p / 8) (n := 4096) rfl (by omega) (by decide)
  have hF := rf_fr.rf o A s
  refine xx_i ml38 ?_
  refine xx_j ee38_0 rfl trivial ?_
  refine rr_fa hR ee38_1 (by decide) rfl rfl ?_
  refine xx_j ee38_4 rfl trivial ?_
  refine rr_fi hR ee38_5 rfl rfl rfl ?_
  refine xx_t e1 ?_
  refine xx_j ee38_8 rfl trivial ?_
  refine rr_as 1100 hR hF ee38_9 rfl (by omega) (fun s hR hF => ?_)
  refine xx_j ee38_10 rfl trivial ?_
  refine rr_fa hR ee38_11 (by decide) rfl rfl ?_
  refine xx_j ee38_14 rfl trivial ?_
  refine rr_fi hR ee38_15 rfl rfl rfl ?_
  refine xx_t e1 ?_
  refine xx_j ee38_18 rfl trivial ?_
  refine rr_zs 1100 hR hF ee38_19 rfl (by omega) (fun s hR hF => ?_)
  refine xx_j ee38_20 rfl trivial ?_
  refine rr_fa hR ee38_21 (by decide) rfl rfl ?_
  refine xx_j ee38_24 rfl trivial ?_
  refine rr_fi hR ee38_25 rfl rfl rfl ?_
  refine xx_t e1 ?_
  refine xx_j ee38_28 rfl trivial ?_
  refine rr_fi hR ee38_29 rfl rfl rfl ?_
  refine xx_t e2 ?_
  refine xx_j ee38_32 rfl trivial ?_
  refine rr_fa hR ee38_33 (by decide) rfl rfl ?_
  refine xx_kb ee38_36 64 rfl ?_
  refine xx_j ee38_38 rfl trivial ?_
  first | refine xx_mul ee38_39 ?_ | refine xx_j ee38_39 rfl trivial ?_
  refine xx_j ee38_40 rfl trivial ?_
  refine xx_kb ee38_41 8 rfl ?_
  refine xx_div ee38_43 (by omega) (by omega) (by omega) ?_
  first | refine xx_add ee38_44 ?_ | refine xx_j ee38_44 rfl trivial ?_
  refine rr_al 4096 hR ee38_45 rfl (by omega) ?_
  refine xx_t e3 ?_
  first | refine xx_add ee38_46 ?_ | refine xx_j ee38_46 rfl trivial ?_
  refine rr_as 1100 hR hF ee38_47 rfl (by omega) (fun s hR hF => ?_)
  refine xx_j ee38_48 rfl trivial ?_
  refine xx_j ee38_49 rfl trivial ?_
  refine rr_fi hR ee38_50 rfl rfl rfl ?_
  refine xx_t e1 ?_
  refine xx_k ee38_53 1 rfl ?_
  first | refine xx_add ee38_54 ?_ | refine xx_j ee38_54 rfl trivial ?_
  refine rr_pf hR hF ee38_55 rfl rfl (fun s hR hF => ?_)
  exact xx_r ee38_58 rfl trivial (k _ hR hF)
end
