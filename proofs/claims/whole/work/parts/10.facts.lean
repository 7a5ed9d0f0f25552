def fx_isS (mi : Nat) : Bool := fx_wd (fx_wi.getD mi 0) (.static (fx_yy mi))
def fx_isI (mi : Nat) : Bool := fx_wd (fx_wi.getD mi 0) (.instanceMethod (fx_yy mi))
def fx_isV (mi : Nat) : Bool := fx_isI mi && fx_wd (fx_wsl.getD mi 0) (.selects (fx_yy mi).cls (fx_yy mi) (fx_yy mi))
def fx_kindE (e : fx_E) : Bool := match e with
  | (_, (i, _, r1, r2), _) => match i with
    | .invokespecial _ => r1 == 1000 || (fx_isI r1 && Nat.blt r1 132 && Nat.ble (r2 % 16) (fx_ml r1))
    | .invokevirtual _ => fx_isV r1 && Nat.blt r1 132 && Nat.ble (r2 % 16) (fx_ml r1)
    | .invokestatic _ => r1 == 1001 || (fx_isS r1 && Nat.ble r1 132 && Nat.ble (r2 % 16) (fx_ml r1))
    | _ => true
def fx_rtok (mi : Nat) : Bool := match fx_rt mi, fx_re mi with
  | 0, none => true
  | 1, some .int => true
  | 2, some .boolean => true
  | 3, some (.object _) => true
  | _, _ => false
def fx_okM (mi : Nat) : Bool := fx_wd (fx_wn.getD mi 0) (.initialized (fx_yy mi).cls) && plainName (fx_yy mi).cls && !((fx_yy mi).cls == "java/lang/invoke/MethodHandle") && !((fx_yy mi).cls == "java/lang/invoke/VarHandle") && fx_rtok mi && ((fx_yy mi).cls == fx_Cn (fx_ci mi) && Nat.blt (fx_ci mi) 13 || fx_isS mi)
/-- no exception is made but in take; take is called in the law's own take alone -/
def fx_exE (mi : Nat) (e : fx_E) : Bool := match e with
  | (_, (i, _, r1, _), _) => match i with
    | .new _ => Nat.blt r1 900 || mi == mm_Torus_take
    | .invokespecial _ => !(r1 == mm_Torus_take)
    | .invokevirtual _ => !(r1 == mm_Torus_take) || mi == 132
    | .invokestatic _ => !(r1 == mm_Torus_take) && (!(r1 == 132) || mi == 133)
    | _ => true
theorem fx_exs : fx_cs.zipIdx.all (fun q => q.1.all (fx_exE q.2)) = true := by decide +kernel
theorem fx_inits : (List.range 132).all (fun mi => !((fx_yy mi).name == "<init>") || decide (fx_re mi = none)) = true := by decide +kernel
theorem fx_kinds : fx_cs.all (fun l => l.all fx_kindE) = true := by decide +kernel
set_option maxRecDepth 20000 in
theorem fx_cw0 : lw_tbl[735]? = some (Cond.code (fx_yy 0) (fx_cc 0) (fx_ml 0) (fx_re 0)) := rfl
set_option maxRecDepth 20000 in
theorem fx_cw1 : lw_tbl[658]? = some (Cond.code (fx_yy 1) (fx_cc 1) (fx_ml 1) (fx_re 1)) := rfl
set_option maxRecDepth 20000 in
theorem fx_cw2 : lw_tbl[443]? = some (Cond.code (fx_yy 2) (fx_cc 2) (fx_ml 2) (fx_re 2)) := rfl
set_option maxRecDepth 20000 in
theorem fx_cw3 : lw_tbl[464]? = some (Cond.code (fx_yy 3) (fx_cc 3) (fx_ml 3) (fx_re 3)) := rfl
set_option maxRecDepth 20000 in
theorem fx_cw4 : lw_tbl[226]? = some (Cond.code (fx_yy 4) (fx_cc 4) (fx_ml 4) (fx_re 4)) := rfl
set_option maxRecDepth 20000 in
theorem fx_cw5 : lw_tbl[431]? = some (Cond.code (fx_yy 5) (fx_cc 5) (fx_ml 5) (fx_re 5)) := rfl
set_option maxRecDepth 20000 in
theorem fx_cw6 : lw_tbl[435]? = some (Cond.code (fx_yy 6) (fx_cc 6) (fx_ml 6) (fx_re 6)) := rfl
set_option maxRecDepth 20000 in
theorem fx_cw7 : lw_tbl[446]? = some (Cond.code (fx_yy 7) (fx_cc 7) (fx_ml 7) (fx_re 7)) := rfl
set_option maxRecDepth 20000 in
theorem fx_cw8 : lw_tbl[683]? = some (Cond.code (fx_yy 8) (fx_cc 8) (fx_ml 8) (fx_re 8)) := rfl
set_option maxRecDepth 20000 in
theorem fx_cw9 : lw_tbl[727]? = some (Cond.code (fx_yy 9) (fx_cc 9) (fx_ml 9) (fx_re 9)) := rfl
set_option maxRecDepth 20000 in
theorem fx_cw10 : lw_tbl[670]? = some (Cond.code (fx_yy 10) (fx_cc 10) (fx_ml 10) (fx_re 10)) := rfl
set_option maxRecDepth 20000 in
theorem fx_cw11 : lw_tbl[218]? = some (Cond.code (fx_yy 11) (fx_cc 11) (fx_ml 11) (fx_re 11)) := rfl
set_option maxRecDepth 20000 in
theorem fx_cw12 : lw_tbl[643]? = some (Cond.code (fx_yy 12) (fx_cc 12) (fx_ml 12) (fx_re 12)) := rfl
set_option maxRecDepth 20000 in
theorem fx_cw13 : lw_tbl[635]? = some (Cond.code (fx_yy 13) (fx_cc 13) (fx_ml 13) (fx_re 13)) := rfl
set_option maxRecDepth 20000 in
theorem fx_cw14 : lw_tbl[623]? = some (Cond.code (fx_yy 14) (fx_cc 14) (fx_ml 14) (fx_re 14)) := rfl
set_option maxRecDepth 20000 in
theorem fx_cw15 : lw_tbl[607]? = some (Cond.code (fx_yy 15) (fx_cc 15) (fx_ml 15) (fx_re 15)) := rfl
set_option maxRecDepth 20000 in
theorem fx_cw16 : lw_tbl[851]? = some (Cond.code (fx_yy 16) (fx_cc 16) (fx_ml 16) (fx_re 16)) := rfl
set_option maxRecDepth 20000 in
theorem fx_cw17 : lw_tbl[647]? = some (Cond.code (fx_yy 17) (fx_cc 17) (fx_ml 17) (fx_re 17)) := rfl
set_option maxRecDepth 20000 in
theorem fx_cw18 : lw_tbl[743]? = some (Cond.code (fx_yy 18) (fx_cc 18) (fx_ml 18) (fx_re 18)) := rfl
set_option maxRecDepth 20000 in
theorem fx_cw19 : lw_tbl[209]? = some (Cond.code (fx_yy 19) (fx_cc 19) (fx_ml 19) (fx_re 19)) := rfl
set_option maxRecDepth 20000 in
theorem fx_cw20 : lw_tbl[192]? = some (Cond.code (fx_yy 20) (fx_cc 20) (fx_ml 20) (fx_re 20)) := rfl
set_option maxRecDepth 20000 in
theorem fx_cw21 : lw_tbl[205]? = some (Cond.code (fx_yy 21) (fx_cc 21) (fx_ml 21) (fx_re 21)) := rfl
set_option maxRecDepth 20000 in
theorem fx_cw22 : lw_tbl[590]? = some (Cond.code (fx_yy 22) (fx_cc 22) (fx_ml 22) (fx_re 22)) := rfl
set_option maxRecDepth 20000 in
theorem fx_cw23 : lw_tbl[666]? = some (Cond.code (fx_yy 23) (fx_cc 23) (fx_ml 23) (fx_re 23)) := rfl
set_option maxRecDepth 20000 in
theorem fx_cw24 : lw_tbl[679]? = some (Cond.code (fx_yy 24) (fx_cc 24) (fx_ml 24) (fx_re 24)) := rfl
set_option maxRecDepth 20000 in
theorem fx_cw25 : lw_tbl[1192]? = some (Cond.code (fx_yy 25) (fx_cc 25) (fx_ml 25) (fx_re 25)) := rfl
set_option maxRecDepth 20000 in
theorem fx_cw26 : lw_tbl[1105]? = some (Cond.code (fx_yy 26) (fx_cc 26) (fx_ml 26) (fx_re 26)) := rfl
set_option maxRecDepth 20000 in
theorem fx_cw27 : lw_tbl[1121]? = some (Cond.code (fx_yy 27) (fx_cc 27) (fx_ml 27) (fx_re 27)) := rfl
set_option maxRecDepth 20000 in
theorem fx_cw28 : lw_tbl[1141]? = some (Cond.code (fx_yy 28) (fx_cc 28) (fx_ml 28) (fx_re 28)) := rfl
set_option maxRecDepth 20000 in
theorem fx_cw29 : lw_tbl[1149]? = some (Cond.code (fx_yy 29) (fx_cc 29) (fx_ml 29) (fx_re 29)) := rfl
set_option maxRecDepth 20000 in
theorem fx_cw30 : lw_tbl[1137]? = some (Cond.code (fx_yy 30) (fx_cc 30) (fx_ml 30) (fx_re 30)) := rfl
set_option maxRecDepth 20000 in
theorem fx_cw31 : lw_tbl[1077]? = some (Cond.code (fx_yy 31) (fx_cc 31) (fx_ml 31) (fx_re 31)) := rfl
set_option maxRecDepth 20000 in
theorem fx_cw32 : lw_tbl[1089]? = some (Cond.code (fx_yy 32) (fx_cc 32) (fx_ml 32) (fx_re 32)) := rfl
set_option maxRecDepth 20000 in
theorem fx_cw33 : lw_tbl[1161]? = some (Cond.code (fx_yy 33) (fx_cc 33) (fx_ml 33) (fx_re 33)) := rfl
set_option maxRecDepth 20000 in
theorem fx_cw34 : lw_tbl[1045]? = some (Cond.code (fx_yy 34) (fx_cc 34) (fx_ml 34) (fx_re 34)) := rfl
set_option maxRecDepth 20000 in
theorem fx_cw35 : lw_tbl[1133]? = some (Cond.code (fx_yy 35) (fx_cc 35) (fx_ml 35) (fx_re 35)) := rfl
set_option maxRecDepth 20000 in
theorem fx_cw36 : lw_tbl[1180]? = some (Cond.code (fx_yy 36) (fx_cc 36) (fx_ml 36) (fx_re 36)) := rfl
set_option maxRecDepth 20000 in
theorem fx_cw37 : lw_tbl[878]? = some (Cond.code (fx_yy 37) (fx_cc 37) (fx_ml 37) (fx_re 37)) := rfl
set_option maxRecDepth 20000 in
theorem fx_cw38 : lw_tbl[1113]? = some (Cond.code (fx_yy 38) (fx_cc 38) (fx_ml 38) (fx_re 38)) := rfl
set_option maxRecDepth 20000 in
theorem fx_cw39 : lw_tbl[1173]? = some (Cond.code (fx_yy 39) (fx_cc 39) (fx_ml 39) (fx_re 39)) := rfl
set_option maxRecDepth 20000 in
theorem fx_cw40 : lw_tbl[1057]? = some (Cond.code (fx_yy 40) (fx_cc 40) (fx_ml 40) (fx_re 40)) := rfl
set_option maxRecDepth 20000 in
theorem fx_cw41 : lw_tbl[1101]? = some (Cond.code (fx_yy 41) (fx_cc 41) (fx_ml 41) (fx_re 41)) := rfl
set_option maxRecDepth 20000 in
theorem fx_cw42 : lw_tbl[1097]? = some (Cond.code (fx_yy 42) (fx_cc 42) (fx_ml 42) (fx_re 42)) := rfl
set_option maxRecDepth 20000 in
theorem fx_cw43 : lw_tbl[1069]? = some (Cond.code (fx_yy 43) (fx_cc 43) (fx_ml 43) (fx_re 43)) := rfl
set_option maxRecDepth 20000 in
theorem fx_cw44 : lw_tbl[1036]? = some (Cond.code (fx_yy 44) (fx_cc 44) (fx_ml 44) (fx_re 44)) := rfl
set_option maxRecDepth 20000 in
theorem fx_cw45 : lw_tbl[1129]? = some (Cond.code (fx_yy 45) (fx_cc 45) (fx_ml 45) (fx_re 45)) := rfl
set_option maxRecDepth 20000 in
theorem fx_cw46 : lw_tbl[1053]? = some (Cond.code (fx_yy 46) (fx_cc 46) (fx_ml 46) (fx_re 46)) := rfl
set_option maxRecDepth 20000 in
theorem fx_cw47 : lw_tbl[870]? = some (Cond.code (fx_yy 47) (fx_cc 47) (fx_ml 47) (fx_re 47)) := rfl
set_option maxRecDepth 20000 in
theorem fx_cw48 : lw_tbl[751]? = some (Cond.code (fx_yy 48) (fx_cc 48) (fx_ml 48) (fx_re 48)) := rfl
set_option maxRecDepth 20000 in
theorem fx_cw49 : lw_tbl[739]? = some (Cond.code (fx_yy 49) (fx_cc 49) (fx_ml 49) (fx_re 49)) := rfl
set_option maxRecDepth 20000 in
theorem fx_cw50 : lw_tbl[731]? = some (Cond.code (fx_yy 50) (fx_cc 50) (fx_ml 50) (fx_re 50)) := rfl
set_option maxRecDepth 20000 in
theorem fx_cw51 : lw_tbl[281]? = some (Cond.code (fx_yy 51) (fx_cc 51) (fx_ml 51) (fx_re 51)) := rfl
set_option maxRecDepth 20000 in
theorem fx_cw52 : lw_tbl[549]? = some (Cond.code (fx_yy 52) (fx_cc 52) (fx_ml 52) (fx_re 52)) := rfl
set_option maxRecDepth 20000 in
theorem fx_cw53 : lw_tbl[96]? = some (Cond.code (fx_yy 53) (fx_cc 53) (fx_ml 53) (fx_re 53)) := rfl
set_option maxRecDepth 20000 in
theorem fx_cw54 : lw_tbl[222]? = some (Cond.code (fx_yy 54) (fx_cc 54) (fx_ml 54) (fx_re 54)) := rfl
set_option maxRecDepth 20000 in
theorem fx_cw55 : lw_tbl[454]? = some (Cond.code (fx_yy 55) (fx_cc 55) (fx_ml 55) (fx_re 55)) := rfl
set_option maxRecDepth 20000 in
theorem fx_cw56 : lw_tbl[439]? = some (Cond.code (fx_yy 56) (fx_cc 56) (fx_ml 56) (fx_re 56)) := rfl
set_option maxRecDepth 20000 in
theorem fx_cw57 : lw_tbl[460]? = some (Cond.code (fx_yy 57) (fx_cc 57) (fx_ml 57) (fx_re 57)) := rfl
set_option maxRecDepth 20000 in
theorem fx_cw58 : lw_tbl[474]? = some (Cond.code (fx_yy 58) (fx_cc 58) (fx_ml 58) (fx_re 58)) := rfl
set_option maxRecDepth 20000 in
theorem fx_cw59 : lw_tbl[305]? = some (Cond.code (fx_yy 59) (fx_cc 59) (fx_ml 59) (fx_re 59)) := rfl
set_option maxRecDepth 20000 in
theorem fx_cw60 : lw_tbl[127]? = some (Cond.code (fx_yy 60) (fx_cc 60) (fx_ml 60) (fx_re 60)) := rfl
set_option maxRecDepth 20000 in
theorem fx_cw61 : lw_tbl[619]? = some (Cond.code (fx_yy 61) (fx_cc 61) (fx_ml 61) (fx_re 61)) := rfl
set_option maxRecDepth 20000 in
theorem fx_cw62 : lw_tbl[213]? = some (Cond.code (fx_yy 62) (fx_cc 62) (fx_ml 62) (fx_re 62)) := rfl
set_option maxRecDepth 20000 in
theorem fx_cw63 : lw_tbl[855]? = some (Cond.code (fx_yy 63) (fx_cc 63) (fx_ml 63) (fx_re 63)) := rfl
set_option maxRecDepth 20000 in
theorem fx_cw64 : lw_tbl[631]? = some (Cond.code (fx_yy 64) (fx_cc 64) (fx_ml 64) (fx_re 64)) := rfl
set_option maxRecDepth 20000 in
theorem fx_cw65 : lw_tbl[167]? = some (Cond.code (fx_yy 65) (fx_cc 65) (fx_ml 65) (fx_re 65)) := rfl
set_option maxRecDepth 20000 in
theorem fx_cw66 : lw_tbl[200]? = some (Cond.code (fx_yy 66) (fx_cc 66) (fx_ml 66) (fx_re 66)) := rfl
set_option maxRecDepth 20000 in
theorem fx_cw67 : lw_tbl[594]? = some (Cond.code (fx_yy 67) (fx_cc 67) (fx_ml 67) (fx_re 67)) := rfl
set_option maxRecDepth 20000 in
theorem fx_cw68 : lw_tbl[675]? = some (Cond.code (fx_yy 68) (fx_cc 68) (fx_ml 68) (fx_re 68)) := rfl
set_option maxRecDepth 20000 in
theorem fx_cw69 : lw_tbl[1125]? = some (Cond.code (fx_yy 69) (fx_cc 69) (fx_ml 69) (fx_re 69)) := rfl
set_option maxRecDepth 20000 in
theorem fx_cw70 : lw_tbl[1208]? = some (Cond.code (fx_yy 70) (fx_cc 70) (fx_ml 70) (fx_re 70)) := rfl
set_option maxRecDepth 20000 in
theorem fx_cw71 : lw_tbl[1145]? = some (Cond.code (fx_yy 71) (fx_cc 71) (fx_ml 71) (fx_re 71)) := rfl
set_option maxRecDepth 20000 in
theorem fx_cw72 : lw_tbl[1204]? = some (Cond.code (fx_yy 72) (fx_cc 72) (fx_ml 72) (fx_re 72)) := rfl
set_option maxRecDepth 20000 in
theorem fx_cw73 : lw_tbl[1200]? = some (Cond.code (fx_yy 73) (fx_cc 73) (fx_ml 73) (fx_re 73)) := rfl
set_option maxRecDepth 20000 in
theorem fx_cw74 : lw_tbl[1085]? = some (Cond.code (fx_yy 74) (fx_cc 74) (fx_ml 74) (fx_re 74)) := rfl
set_option maxRecDepth 20000 in
theorem fx_cw75 : lw_tbl[1049]? = some (Cond.code (fx_yy 75) (fx_cc 75) (fx_ml 75) (fx_re 75)) := rfl
set_option maxRecDepth 20000 in
theorem fx_cw76 : lw_tbl[1165]? = some (Cond.code (fx_yy 76) (fx_cc 76) (fx_ml 76) (fx_re 76)) := rfl
set_option maxRecDepth 20000 in
theorem fx_cw77 : lw_tbl[874]? = some (Cond.code (fx_yy 77) (fx_cc 77) (fx_ml 77) (fx_re 77)) := rfl
set_option maxRecDepth 20000 in
theorem fx_cw78 : lw_tbl[1196]? = some (Cond.code (fx_yy 78) (fx_cc 78) (fx_ml 78) (fx_re 78)) := rfl
set_option maxRecDepth 20000 in
theorem fx_cw79 : lw_tbl[1061]? = some (Cond.code (fx_yy 79) (fx_cc 79) (fx_ml 79) (fx_re 79)) := rfl
set_option maxRecDepth 20000 in
theorem fx_cw80 : lw_tbl[1109]? = some (Cond.code (fx_yy 80) (fx_cc 80) (fx_ml 80) (fx_re 80)) := rfl
set_option maxRecDepth 20000 in
theorem fx_cw81 : lw_tbl[1188]? = some (Cond.code (fx_yy 81) (fx_cc 81) (fx_ml 81) (fx_re 81)) := rfl
set_option maxRecDepth 20000 in
theorem fx_cw82 : lw_tbl[755]? = some (Cond.code (fx_yy 82) (fx_cc 82) (fx_ml 82) (fx_re 82)) := rfl
set_option maxRecDepth 20000 in
theorem fx_cw83 : lw_tbl[662]? = some (Cond.code (fx_yy 83) (fx_cc 83) (fx_ml 83) (fx_re 83)) := rfl
set_option maxRecDepth 20000 in
theorem fx_cw84 : lw_tbl[652]? = some (Cond.code (fx_yy 84) (fx_cc 84) (fx_ml 84) (fx_re 84)) := rfl
set_option maxRecDepth 20000 in
theorem fx_cw85 : lw_tbl[586]? = some (Cond.code (fx_yy 85) (fx_cc 85) (fx_ml 85) (fx_re 85)) := rfl
set_option maxRecDepth 20000 in
theorem fx_cw86 : lw_tbl[450]? = some (Cond.code (fx_yy 86) (fx_cc 86) (fx_ml 86) (fx_re 86)) := rfl
set_option maxRecDepth 20000 in
theorem fx_cw87 : lw_tbl[602]? = some (Cond.code (fx_yy 87) (fx_cc 87) (fx_ml 87) (fx_re 87)) := rfl
set_option maxRecDepth 20000 in
theorem fx_cw88 : lw_tbl[705]? = some (Cond.code (fx_yy 88) (fx_cc 88) (fx_ml 88) (fx_re 88)) := rfl
set_option maxRecDepth 20000 in
theorem fx_cw89 : lw_tbl[196]? = some (Cond.code (fx_yy 89) (fx_cc 89) (fx_ml 89) (fx_re 89)) := rfl
set_option maxRecDepth 20000 in
theorem fx_cw90 : lw_tbl[545]? = some (Cond.code (fx_yy 90) (fx_cc 90) (fx_ml 90) (fx_re 90)) := rfl
set_option maxRecDepth 20000 in
theorem fx_cw91 : lw_tbl[717]? = some (Cond.code (fx_yy 91) (fx_cc 91) (fx_ml 91) (fx_re 91)) := rfl
set_option maxRecDepth 20000 in
theorem fx_cw92 : lw_tbl[615]? = some (Cond.code (fx_yy 92) (fx_cc 92) (fx_ml 92) (fx_re 92)) := rfl
set_option maxRecDepth 20000 in
theorem fx_cw93 : lw_tbl[273]? = some (Cond.code (fx_yy 93) (fx_cc 93) (fx_ml 93) (fx_re 93)) := rfl
set_option maxRecDepth 20000 in
theorem fx_cw94 : lw_tbl[88]? = some (Cond.code (fx_yy 94) (fx_cc 94) (fx_ml 94) (fx_re 94)) := rfl
set_option maxRecDepth 20000 in
theorem fx_cw95 : lw_tbl[695]? = some (Cond.code (fx_yy 95) (fx_cc 95) (fx_ml 95) (fx_re 95)) := rfl
set_option maxRecDepth 20000 in
theorem fx_cw96 : lw_tbl[240]? = some (Cond.code (fx_yy 96) (fx_cc 96) (fx_ml 96) (fx_re 96)) := rfl
set_option maxRecDepth 20000 in
theorem fx_cw97 : lw_tbl[1081]? = some (Cond.code (fx_yy 97) (fx_cc 97) (fx_ml 97) (fx_re 97)) := rfl
set_option maxRecDepth 20000 in
theorem fx_cw98 : lw_tbl[1117]? = some (Cond.code (fx_yy 98) (fx_cc 98) (fx_ml 98) (fx_re 98)) := rfl
set_option maxRecDepth 20000 in
theorem fx_cw99 : lw_tbl[1041]? = some (Cond.code (fx_yy 99) (fx_cc 99) (fx_ml 99) (fx_re 99)) := rfl
set_option maxRecDepth 20000 in
theorem fx_cw100 : lw_tbl[1093]? = some (Cond.code (fx_yy 100) (fx_cc 100) (fx_ml 100) (fx_re 100)) := rfl
set_option maxRecDepth 20000 in
theorem fx_cw101 : lw_tbl[867]? = some (Cond.code (fx_yy 101) (fx_cc 101) (fx_ml 101) (fx_re 101)) := rfl
set_option maxRecDepth 20000 in
theorem fx_cw102 : lw_tbl[1184]? = some (Cond.code (fx_yy 102) (fx_cc 102) (fx_ml 102) (fx_re 102)) := rfl
set_option maxRecDepth 20000 in
theorem fx_cw103 : lw_tbl[188]? = some (Cond.code (fx_yy 103) (fx_cc 103) (fx_ml 103) (fx_re 103)) := rfl
set_option maxRecDepth 20000 in
theorem fx_cw104 : lw_tbl[639]? = some (Cond.code (fx_yy 104) (fx_cc 104) (fx_ml 104) (fx_re 104)) := rfl
set_option maxRecDepth 20000 in
theorem fx_cw105 : lw_tbl[598]? = some (Cond.code (fx_yy 105) (fx_cc 105) (fx_ml 105) (fx_re 105)) := rfl
set_option maxRecDepth 20000 in
theorem fx_cw106 : lw_tbl[427]? = some (Cond.code (fx_yy 106) (fx_cc 106) (fx_ml 106) (fx_re 106)) := rfl
set_option maxRecDepth 20000 in
theorem fx_cw107 : lw_tbl[582]? = some (Cond.code (fx_yy 107) (fx_cc 107) (fx_ml 107) (fx_re 107)) := rfl
set_option maxRecDepth 20000 in
theorem fx_cw108 : lw_tbl[234]? = some (Cond.code (fx_yy 108) (fx_cc 108) (fx_ml 108) (fx_re 108)) := rfl
set_option maxRecDepth 20000 in
theorem fx_cw109 : lw_tbl[541]? = some (Cond.code (fx_yy 109) (fx_cc 109) (fx_ml 109) (fx_re 109)) := rfl
set_option maxRecDepth 20000 in
theorem fx_cw110 : lw_tbl[700]? = some (Cond.code (fx_yy 110) (fx_cc 110) (fx_ml 110) (fx_re 110)) := rfl
set_option maxRecDepth 20000 in
theorem fx_cw111 : lw_tbl[713]? = some (Cond.code (fx_yy 111) (fx_cc 111) (fx_ml 111) (fx_re 111)) := rfl
set_option maxRecDepth 20000 in
theorem fx_cw112 : lw_tbl[721]? = some (Cond.code (fx_yy 112) (fx_cc 112) (fx_ml 112) (fx_re 112)) := rfl
set_option maxRecDepth 20000 in
theorem fx_cw113 : lw_tbl[861]? = some (Cond.code (fx_yy 113) (fx_cc 113) (fx_ml 113) (fx_re 113)) := rfl
set_option maxRecDepth 20000 in
theorem fx_cw114 : lw_tbl[1073]? = some (Cond.code (fx_yy 114) (fx_cc 114) (fx_ml 114) (fx_re 114)) := rfl
set_option maxRecDepth 20000 in
theorem fx_cw115 : lw_tbl[1157]? = some (Cond.code (fx_yy 115) (fx_cc 115) (fx_ml 115) (fx_re 115)) := rfl
set_option maxRecDepth 20000 in
theorem fx_cw116 : lw_tbl[1177]? = some (Cond.code (fx_yy 116) (fx_cc 116) (fx_ml 116) (fx_re 116)) := rfl
set_option maxRecDepth 20000 in
theorem fx_cw117 : lw_tbl[747]? = some (Cond.code (fx_yy 117) (fx_cc 117) (fx_ml 117) (fx_re 117)) := rfl
set_option maxRecDepth 20000 in
theorem fx_cw118 : lw_tbl[230]? = some (Cond.code (fx_yy 118) (fx_cc 118) (fx_ml 118) (fx_re 118)) := rfl
set_option maxRecDepth 20000 in
theorem fx_cw119 : lw_tbl[468]? = some (Cond.code (fx_yy 119) (fx_cc 119) (fx_ml 119) (fx_re 119)) := rfl
set_option maxRecDepth 20000 in
theorem fx_cw120 : lw_tbl[627]? = some (Cond.code (fx_yy 120) (fx_cc 120) (fx_ml 120) (fx_re 120)) := rfl
set_option maxRecDepth 20000 in
theorem fx_cw121 : lw_tbl[764]? = some (Cond.code (fx_yy 121) (fx_cc 121) (fx_ml 121) (fx_re 121)) := rfl
set_option maxRecDepth 20000 in
theorem fx_cw122 : lw_tbl[709]? = some (Cond.code (fx_yy 122) (fx_cc 122) (fx_ml 122) (fx_re 122)) := rfl
set_option maxRecDepth 20000 in
theorem fx_cw123 : lw_tbl[691]? = some (Cond.code (fx_yy 123) (fx_cc 123) (fx_ml 123) (fx_re 123)) := rfl
set_option maxRecDepth 20000 in
theorem fx_cw124 : lw_tbl[1169]? = some (Cond.code (fx_yy 124) (fx_cc 124) (fx_ml 124) (fx_re 124)) := rfl
set_option maxRecDepth 20000 in
theorem fx_cw125 : lw_tbl[1153]? = some (Cond.code (fx_yy 125) (fx_cc 125) (fx_ml 125) (fx_re 125)) := rfl
set_option maxRecDepth 20000 in
theorem fx_cw126 : lw_tbl[687]? = some (Cond.code (fx_yy 126) (fx_cc 126) (fx_ml 126) (fx_re 126)) := rfl
set_option maxRecDepth 20000 in
theorem fx_cw127 : lw_tbl[611]? = some (Cond.code (fx_yy 127) (fx_cc 127) (fx_ml 127) (fx_re 127)) := rfl
set_option maxRecDepth 20000 in
theorem fx_cw128 : lw_tbl[184]? = some (Cond.code (fx_yy 128) (fx_cc 128) (fx_ml 128) (fx_re 128)) := rfl
set_option maxRecDepth 20000 in
theorem fx_cw129 : lw_tbl[1065]? = some (Cond.code (fx_yy 129) (fx_cc 129) (fx_ml 129) (fx_re 129)) := rfl
set_option maxRecDepth 20000 in
theorem fx_cw130 : lw_tbl[80]? = some (Cond.code (fx_yy 130) (fx_cc 130) (fx_ml 130) (fx_re 130)) := rfl
set_option maxRecDepth 20000 in
theorem fx_cw131 : lw_tbl[578]? = some (Cond.code (fx_yy 131) (fx_cc 131) (fx_ml 131) (fx_re 131)) := rfl
set_option maxRecDepth 20000 in
theorem fx_maxc : lw_tbl[373]? = some (Cond.code Lib.Math.max.name Lib.Math.max.code 2 (some .int)) := by decide +kernel
theorem fx_maxs : fx_wd 372 (.static Lib.Math.max.name) = true := by decide +kernel
theorem fx_maxn : fx_wd 67 (.initialized "java/lang/Math") = true := by decide +kernel
def fx_cwA_0_l : List Nat := [0, 1, 2, 3, 4, 5, 6, 7, 8, 9, 10, 11, 12, 13, 14, 15, 16, 17, 18, 19]
theorem fx_cwA_0 : ∀ q ∈ fx_cwA_0_l, ∃ w : Nat, lw_tbl[w]? = some (Cond.code (fx_yy q) (fx_cc q) (fx_ml q) (fx_re q)) := List.forall_mem_cons.mpr ⟨⟨_, fx_cw0⟩, List.forall_mem_cons.mpr ⟨⟨_, fx_cw1⟩, List.forall_mem_cons.mpr ⟨⟨_, fx_cw2⟩, List.forall_mem_cons.mpr ⟨⟨_, fx_cw3⟩, List.forall_mem_cons.mpr ⟨⟨_, fx_cw4⟩, List.forall_mem_cons.mpr ⟨⟨_, fx_cw5⟩, List.forall_mem_cons.mpr ⟨⟨_, fx_cw6⟩, List.forall_mem_cons.mpr ⟨⟨_, fx_cw7⟩, List.forall_mem_cons.mpr ⟨⟨_, fx_cw8⟩, List.forall_mem_cons.mpr ⟨⟨_, fx_cw9⟩, List.forall_mem_cons.mpr ⟨⟨_, fx_cw10⟩, List.forall_mem_cons.mpr ⟨⟨_, fx_cw11⟩, List.forall_mem_cons.mpr ⟨⟨_, fx_cw12⟩, List.forall_mem_cons.mpr ⟨⟨_, fx_cw13⟩, List.forall_mem_cons.mpr ⟨⟨_, fx_cw14⟩, List.forall_mem_cons.mpr ⟨⟨_, fx_cw15⟩, List.forall_mem_cons.mpr ⟨⟨_, fx_cw16⟩, List.forall_mem_cons.mpr ⟨⟨_, fx_cw17⟩, List.forall_mem_cons.mpr ⟨⟨_, fx_cw18⟩, List.forall_mem_cons.mpr ⟨⟨_, fx_cw19⟩, fun _ h => absurd h List.not_mem_nil⟩⟩⟩⟩⟩⟩⟩⟩⟩⟩⟩⟩⟩⟩⟩⟩⟩⟩⟩⟩
def fx_cwA_1_l : List Nat := [20, 21, 22, 23, 24, 25, 26, 27, 28, 29, 30, 31, 32, 33, 34, 35, 36, 37, 38, 39]
theorem fx_cwA_1 : ∀ q ∈ fx_cwA_1_l, ∃ w : Nat, lw_tbl[w]? = some (Cond.code (fx_yy q) (fx_cc q) (fx_ml q) (fx_re q)) := List.forall_mem_cons.mpr ⟨⟨_, fx_cw20⟩, List.forall_mem_cons.mpr ⟨⟨_, fx_cw21⟩, List.forall_mem_cons.mpr ⟨⟨_, fx_cw22⟩, List.forall_mem_cons.mpr ⟨⟨_, fx_cw23⟩, List.forall_mem_cons.mpr ⟨⟨_, fx_cw24⟩, List.forall_mem_cons.mpr ⟨⟨_, fx_cw25⟩, List.forall_mem_cons.mpr ⟨⟨_, fx_cw26⟩, List.forall_mem_cons.mpr ⟨⟨_, fx_cw27⟩, List.forall_mem_cons.mpr ⟨⟨_, fx_cw28⟩, List.forall_mem_cons.mpr ⟨⟨_, fx_cw29⟩, List.forall_mem_cons.mpr ⟨⟨_, fx_cw30⟩, List.forall_mem_cons.mpr ⟨⟨_, fx_cw31⟩, List.forall_mem_cons.mpr ⟨⟨_, fx_cw32⟩, List.forall_mem_cons.mpr ⟨⟨_, fx_cw33⟩, List.forall_mem_cons.mpr ⟨⟨_, fx_cw34⟩, List.forall_mem_cons.mpr ⟨⟨_, fx_cw35⟩, List.forall_mem_cons.mpr ⟨⟨_, fx_cw36⟩, List.forall_mem_cons.mpr ⟨⟨_, fx_cw37⟩, List.forall_mem_cons.mpr ⟨⟨_, fx_cw38⟩, List.forall_mem_cons.mpr ⟨⟨_, fx_cw39⟩, fun _ h => absurd h List.not_mem_nil⟩⟩⟩⟩⟩⟩⟩⟩⟩⟩⟩⟩⟩⟩⟩⟩⟩⟩⟩⟩
def fx_cwA_2_l : List Nat := [40, 41, 42, 43, 44, 45, 46, 47, 48, 49, 50, 51, 52, 53, 54, 55, 56, 57, 58, 59]
theorem fx_cwA_2 : ∀ q ∈ fx_cwA_2_l, ∃ w : Nat, lw_tbl[w]? = some (Cond.code (fx_yy q) (fx_cc q) (fx_ml q) (fx_re q)) := List.forall_mem_cons.mpr ⟨⟨_, fx_cw40⟩, List.forall_mem_cons.mpr ⟨⟨_, fx_cw41⟩, List.forall_mem_cons.mpr ⟨⟨_, fx_cw42⟩, List.forall_mem_cons.mpr ⟨⟨_, fx_cw43⟩, List.forall_mem_cons.mpr ⟨⟨_, fx_cw44⟩, List.forall_mem_cons.mpr ⟨⟨_, fx_cw45⟩, List.forall_mem_cons.mpr ⟨⟨_, fx_cw46⟩, List.forall_mem_cons.mpr ⟨⟨_, fx_cw47⟩, List.forall_mem_cons.mpr ⟨⟨_, fx_cw48⟩, List.forall_mem_cons.mpr ⟨⟨_, fx_cw49⟩, List.forall_mem_cons.mpr ⟨⟨_, fx_cw50⟩, List.forall_mem_cons.mpr ⟨⟨_, fx_cw51⟩, List.forall_mem_cons.mpr ⟨⟨_, fx_cw52⟩, List.forall_mem_cons.mpr ⟨⟨_, fx_cw53⟩, List.forall_mem_cons.mpr ⟨⟨_, fx_cw54⟩, List.forall_mem_cons.mpr ⟨⟨_, fx_cw55⟩, List.forall_mem_cons.mpr ⟨⟨_, fx_cw56⟩, List.forall_mem_cons.mpr ⟨⟨_, fx_cw57⟩, List.forall_mem_cons.mpr ⟨⟨_, fx_cw58⟩, List.forall_mem_cons.mpr ⟨⟨_, fx_cw59⟩, fun _ h => absurd h List.not_mem_nil⟩⟩⟩⟩⟩⟩⟩⟩⟩⟩⟩⟩⟩⟩⟩⟩⟩⟩⟩⟩
def fx_cwA_3_l : List Nat := [60, 61, 62, 63, 64, 65, 66, 67, 68, 69, 70, 71, 72, 73, 74, 75, 76, 77, 78, 79]
theorem fx_cwA_3 : ∀ q ∈ fx_cwA_3_l, ∃ w : Nat, lw_tbl[w]? = some (Cond.code (fx_yy q) (fx_cc q) (fx_ml q) (fx_re q)) := List.forall_mem_cons.mpr ⟨⟨_, fx_cw60⟩, List.forall_mem_cons.mpr ⟨⟨_, fx_cw61⟩, List.forall_mem_cons.mpr ⟨⟨_, fx_cw62⟩, List.forall_mem_cons.mpr ⟨⟨_, fx_cw63⟩, List.forall_mem_cons.mpr ⟨⟨_, fx_cw64⟩, List.forall_mem_cons.mpr ⟨⟨_, fx_cw65⟩, List.forall_mem_cons.mpr ⟨⟨_, fx_cw66⟩, List.forall_mem_cons.mpr ⟨⟨_, fx_cw67⟩, List.forall_mem_cons.mpr ⟨⟨_, fx_cw68⟩, List.forall_mem_cons.mpr ⟨⟨_, fx_cw69⟩, List.forall_mem_cons.mpr ⟨⟨_, fx_cw70⟩, List.forall_mem_cons.mpr ⟨⟨_, fx_cw71⟩, List.forall_mem_cons.mpr ⟨⟨_, fx_cw72⟩, List.forall_mem_cons.mpr ⟨⟨_, fx_cw73⟩, List.forall_mem_cons.mpr ⟨⟨_, fx_cw74⟩, List.forall_mem_cons.mpr ⟨⟨_, fx_cw75⟩, List.forall_mem_cons.mpr ⟨⟨_, fx_cw76⟩, List.forall_mem_cons.mpr ⟨⟨_, fx_cw77⟩, List.forall_mem_cons.mpr ⟨⟨_, fx_cw78⟩, List.forall_mem_cons.mpr ⟨⟨_, fx_cw79⟩, fun _ h => absurd h List.not_mem_nil⟩⟩⟩⟩⟩⟩⟩⟩⟩⟩⟩⟩⟩⟩⟩⟩⟩⟩⟩⟩
def fx_cwA_4_l : List Nat := [80, 81, 82, 83, 84, 85, 86, 87, 88, 89, 90, 91, 92, 93, 94, 95, 96, 97, 98, 99]
theorem fx_cwA_4 : ∀ q ∈ fx_cwA_4_l, ∃ w : Nat, lw_tbl[w]? = some (Cond.code (fx_yy q) (fx_cc q) (fx_ml q) (fx_re q)) := List.forall_mem_cons.mpr ⟨⟨_, fx_cw80⟩, List.forall_mem_cons.mpr ⟨⟨_, fx_cw81⟩, List.forall_mem_cons.mpr ⟨⟨_, fx_cw82⟩, List.forall_mem_cons.mpr ⟨⟨_, fx_cw83⟩, List.forall_mem_cons.mpr ⟨⟨_, fx_cw84⟩, List.forall_mem_cons.mpr ⟨⟨_, fx_cw85⟩, List.forall_mem_cons.mpr ⟨⟨_, fx_cw86⟩, List.forall_mem_cons.mpr ⟨⟨_, fx_cw87⟩, List.forall_mem_cons.mpr ⟨⟨_, fx_cw88⟩, List.forall_mem_cons.mpr ⟨⟨_, fx_cw89⟩, List.forall_mem_cons.mpr ⟨⟨_, fx_cw90⟩, List.forall_mem_cons.mpr ⟨⟨_, fx_cw91⟩, List.forall_mem_cons.mpr ⟨⟨_, fx_cw92⟩, List.forall_mem_cons.mpr ⟨⟨_, fx_cw93⟩, List.forall_mem_cons.mpr ⟨⟨_, fx_cw94⟩, List.forall_mem_cons.mpr ⟨⟨_, fx_cw95⟩, List.forall_mem_cons.mpr ⟨⟨_, fx_cw96⟩, List.forall_mem_cons.mpr ⟨⟨_, fx_cw97⟩, List.forall_mem_cons.mpr ⟨⟨_, fx_cw98⟩, List.forall_mem_cons.mpr ⟨⟨_, fx_cw99⟩, fun _ h => absurd h List.not_mem_nil⟩⟩⟩⟩⟩⟩⟩⟩⟩⟩⟩⟩⟩⟩⟩⟩⟩⟩⟩⟩
def fx_cwA_5_l : List Nat := [100, 101, 102, 103, 104, 105, 106, 107, 108, 109, 110, 111, 112, 113, 114, 115, 116, 117, 118, 119]
theorem fx_cwA_5 : ∀ q ∈ fx_cwA_5_l, ∃ w : Nat, lw_tbl[w]? = some (Cond.code (fx_yy q) (fx_cc q) (fx_ml q) (fx_re q)) := List.forall_mem_cons.mpr ⟨⟨_, fx_cw100⟩, List.forall_mem_cons.mpr ⟨⟨_, fx_cw101⟩, List.forall_mem_cons.mpr ⟨⟨_, fx_cw102⟩, List.forall_mem_cons.mpr ⟨⟨_, fx_cw103⟩, List.forall_mem_cons.mpr ⟨⟨_, fx_cw104⟩, List.forall_mem_cons.mpr ⟨⟨_, fx_cw105⟩, List.forall_mem_cons.mpr ⟨⟨_, fx_cw106⟩, List.forall_mem_cons.mpr ⟨⟨_, fx_cw107⟩, List.forall_mem_cons.mpr ⟨⟨_, fx_cw108⟩, List.forall_mem_cons.mpr ⟨⟨_, fx_cw109⟩, List.forall_mem_cons.mpr ⟨⟨_, fx_cw110⟩, List.forall_mem_cons.mpr ⟨⟨_, fx_cw111⟩, List.forall_mem_cons.mpr ⟨⟨_, fx_cw112⟩, List.forall_mem_cons.mpr ⟨⟨_, fx_cw113⟩, List.forall_mem_cons.mpr ⟨⟨_, fx_cw114⟩, List.forall_mem_cons.mpr ⟨⟨_, fx_cw115⟩, List.forall_mem_cons.mpr ⟨⟨_, fx_cw116⟩, List.forall_mem_cons.mpr ⟨⟨_, fx_cw117⟩, List.forall_mem_cons.mpr ⟨⟨_, fx_cw118⟩, List.forall_mem_cons.mpr ⟨⟨_, fx_cw119⟩, fun _ h => absurd h List.not_mem_nil⟩⟩⟩⟩⟩⟩⟩⟩⟩⟩⟩⟩⟩⟩⟩⟩⟩⟩⟩⟩
def fx_cwA_6_l : List Nat := [120, 121, 122, 123, 124, 125, 126, 127, 128, 129, 130, 131]
theorem fx_cwA_6 : ∀ q ∈ fx_cwA_6_l, ∃ w : Nat, lw_tbl[w]? = some (Cond.code (fx_yy q) (fx_cc q) (fx_ml q) (fx_re q)) := List.forall_mem_cons.mpr ⟨⟨_, fx_cw120⟩, List.forall_mem_cons.mpr ⟨⟨_, fx_cw121⟩, List.forall_mem_cons.mpr ⟨⟨_, fx_cw122⟩, List.forall_mem_cons.mpr ⟨⟨_, fx_cw123⟩, List.forall_mem_cons.mpr ⟨⟨_, fx_cw124⟩, List.forall_mem_cons.mpr ⟨⟨_, fx_cw125⟩, List.forall_mem_cons.mpr ⟨⟨_, fx_cw126⟩, List.forall_mem_cons.mpr ⟨⟨_, fx_cw127⟩, List.forall_mem_cons.mpr ⟨⟨_, fx_cw128⟩, List.forall_mem_cons.mpr ⟨⟨_, fx_cw129⟩, List.forall_mem_cons.mpr ⟨⟨_, fx_cw130⟩, List.forall_mem_cons.mpr ⟨⟨_, fx_cw131⟩, fun _ h => absurd h List.not_mem_nil⟩⟩⟩⟩⟩⟩⟩⟩⟩⟩⟩⟩
theorem fx_cwA : ∀ q ∈ fx_cwA_0_l ++ (fx_cwA_1_l ++ (fx_cwA_2_l ++ (fx_cwA_3_l ++ (fx_cwA_4_l ++ (fx_cwA_5_l ++ (fx_cwA_6_l)))))), ∃ w : Nat, lw_tbl[w]? = some (Cond.code (fx_yy q) (fx_cc q) (fx_ml q) (fx_re q)) := by
  intro q hq
  rcases List.mem_append.mp hq with hq | hq
  · exact fx_cwA_0 q hq
  rcases List.mem_append.mp hq with hq | hq
  · exact fx_cwA_1 q hq
  rcases List.mem_append.mp hq with hq | hq
  · exact fx_cwA_2 q hq
  rcases List.mem_append.mp hq with hq | hq
  · exact fx_cwA_3 q hq
  rcases List.mem_append.mp hq with hq | hq
  · exact fx_cwA_4 q hq
  rcases List.mem_append.mp hq with hq | hq
  · exact fx_cwA_5 q hq
  exact fx_cwA_6 q hq
theorem fx_cwR : List.range 132 = fx_cwA_0_l ++ (fx_cwA_1_l ++ (fx_cwA_2_l ++ (fx_cwA_3_l ++ (fx_cwA_4_l ++ (fx_cwA_5_l ++ (fx_cwA_6_l)))))) := by decide +kernel
theorem fx_k2 (w : Cond) (h : k2_isCode w = true) : goodWord w = true := by
  cases w <;> first | rfl | cases h
theorem fx_cwIn {mi : Nat} (h : mi < 132) : Cond.code (fx_yy mi) (fx_cc mi) (fx_ml mi) (fx_re mi) ∈ lw_tbl := by
  obtain ⟨w, hw⟩ := fx_cwA mi (by rw [← fx_cwR]; exact List.mem_range.mpr h)
  exact List.mem_of_getElem? hw
theorem fx_okMs : (List.range 132).all fx_okM = true := by decide +kernel
def fx_tL : List (Nat → FieldType) := [fx_t0, fx_t1, fx_t2, fx_t3, fx_t4, fx_t5, fx_t6, fx_t7, fx_t8, fx_t9, fx_t10, fx_t11, fx_t12]
def fx_ty (ci : Nat) : Nat → FieldType := fx_tL.getD ci fx_t0
def fx_isRT (t : FieldType) : Bool := match t with
  | .object _ => true
  | .array _ => true
  | _ => false
def fx_okF (ci : Nat) (r : vw_C) : Bool := ((List.range r.2.2).all fun k => decide (parseFieldDescriptor (r.2.1 k).2.2.1 = some (fx_ty ci k)) && decide ((r.2.1 k).1 = r.1) && (match fx_ft (64 * ci + k) with
    | 0 => decide (fx_ty ci k = .int)
    | 1 => decide (fx_ty ci k = .boolean)
    | _ => fx_isRT (fx_ty ci k))) && ((List.range r.2.2).all fun k => fx_wd ((fx_wl.getD ci []).getD k 0) (u_lay r.1 r.2.1 k)) && fx_wd (fx_wci.getD ci 0) (.initialized r.1) && fx_wd (fx_wcn.getD ci 0) (.instantiable r.1 r.2.2) && Nat.blt r.2.2 64
def fx_okD (r : vw_C) : Bool := (List.range r.2.2).all fun a => (List.range r.2.2).all fun b => a == b || !((r.2.1 a).2.1 == (r.2.1 b).2.1)
theorem fx_okFs : fx_cl.zipIdx.all (fun q => fx_okF q.2 q.1) = true := by decide +kernel
theorem fx_okDs : fx_cl.all fx_okD = true := by decide +kernel
theorem fx_obj_i : fx_wd fx_wo.1 (.instanceMethod Lib.objectInit) = true := by decide +kernel
theorem fx_obj_c : fx_wd fx_wo.2 (.code Lib.objectInit ⟨#[0xb1]⟩ 1 none) = true := by decide +kernel

def fx_okA_0_l : List (List fx_E × Nat) := [(fx_c0, 0), (fx_c1, 1), (fx_c2, 2), (fx_c3, 3), (fx_c4, 4), (fx_c5, 5), (fx_c6, 6), (fx_c7, 7), (fx_c8, 8), (fx_c9, 9), (fx_c10, 10), (fx_c11, 11), (fx_c12, 12), (fx_c13, 13), (fx_c14, 14), (fx_c15, 15), (fx_c16, 16), (fx_c17, 17), (fx_c18, 18), (fx_c19, 19)]
theorem fx_okA_0 : ∀ q ∈ fx_okA_0_l, q.1.all (fx_okE q.2) = true := List.forall_mem_cons.mpr ⟨fx_ok0, List.forall_mem_cons.mpr ⟨fx_ok1, List.forall_mem_cons.mpr ⟨fx_ok2, List.forall_mem_cons.mpr ⟨fx_ok3, List.forall_mem_cons.mpr ⟨fx_ok4, List.forall_mem_cons.mpr ⟨fx_ok5, List.forall_mem_cons.mpr ⟨fx_ok6, List.forall_mem_cons.mpr ⟨fx_ok7, List.forall_mem_cons.mpr ⟨fx_ok8, List.forall_mem_cons.mpr ⟨fx_ok9, List.forall_mem_cons.mpr ⟨fx_ok10, List.forall_mem_cons.mpr ⟨fx_ok11, List.forall_mem_cons.mpr ⟨fx_ok12, List.forall_mem_cons.mpr ⟨fx_ok13, List.forall_mem_cons.mpr ⟨fx_ok14, List.forall_mem_cons.mpr ⟨fx_ok15, List.forall_mem_cons.mpr ⟨fx_ok16, List.forall_mem_cons.mpr ⟨fx_ok17, List.forall_mem_cons.mpr ⟨fx_ok18, List.forall_mem_cons.mpr ⟨fx_ok19, fun _ h => absurd h List.not_mem_nil⟩⟩⟩⟩⟩⟩⟩⟩⟩⟩⟩⟩⟩⟩⟩⟩⟩⟩⟩⟩
def fx_okA_1_l : List (List fx_E × Nat) := [(fx_c20, 20), (fx_c21, 21), (fx_c22, 22), (fx_c23, 23), (fx_c24, 24), (fx_c25, 25), (fx_c26, 26), (fx_c27, 27), (fx_c28, 28), (fx_c29, 29), (fx_c30, 30), (fx_c31, 31), (fx_c32, 32), (fx_c33, 33), (fx_c34, 34), (fx_c35, 35), (fx_c36, 36), (fx_c37, 37), (fx_c38, 38), (fx_c39, 39)]
theorem fx_okA_1 : ∀ q ∈ fx_okA_1_l, q.1.all (fx_okE q.2) = true := List.forall_mem_cons.mpr ⟨fx_ok20, List.forall_mem_cons.mpr ⟨fx_ok21, List.forall_mem_cons.mpr ⟨fx_ok22, List.forall_mem_cons.mpr ⟨fx_ok23, List.forall_mem_cons.mpr ⟨fx_ok24, List.forall_mem_cons.mpr ⟨fx_ok25, List.forall_mem_cons.mpr ⟨fx_ok26, List.forall_mem_cons.mpr ⟨fx_ok27, List.forall_mem_cons.mpr ⟨fx_ok28, List.forall_mem_cons.mpr ⟨fx_ok29, List.forall_mem_cons.mpr ⟨fx_ok30, List.forall_mem_cons.mpr ⟨fx_ok31, List.forall_mem_cons.mpr ⟨fx_ok32, List.forall_mem_cons.mpr ⟨fx_ok33, List.forall_mem_cons.mpr ⟨fx_ok34, List.forall_mem_cons.mpr ⟨fx_ok35, List.forall_mem_cons.mpr ⟨fx_ok36, List.forall_mem_cons.mpr ⟨fx_ok37, List.forall_mem_cons.mpr ⟨fx_ok38, List.forall_mem_cons.mpr ⟨fx_ok39, fun _ h => absurd h List.not_mem_nil⟩⟩⟩⟩⟩⟩⟩⟩⟩⟩⟩⟩⟩⟩⟩⟩⟩⟩⟩⟩
def fx_okA_2_l : List (List fx_E × Nat) := [(fx_c40, 40), (fx_c41, 41), (fx_c42, 42), (fx_c43, 43), (fx_c44, 44), (fx_c45, 45), (fx_c46, 46), (fx_c47, 47), (fx_c48, 48), (fx_c49, 49), (fx_c50, 50), (fx_c51, 51), (fx_c52, 52), (fx_c53, 53), (fx_c54, 54), (fx_c55, 55), (fx_c56, 56), (fx_c57, 57), (fx_c58, 58), (fx_c59, 59)]
theorem fx_okA_2 : ∀ q ∈ fx_okA_2_l, q.1.all (fx_okE q.2) = true := List.forall_mem_cons.mpr ⟨fx_ok40, List.forall_mem_cons.mpr ⟨fx_ok41, List.forall_mem_cons.mpr ⟨fx_ok42, List.forall_mem_cons.mpr ⟨fx_ok43, List.forall_mem_cons.mpr ⟨fx_ok44, List.forall_mem_cons.mpr ⟨fx_ok45, List.forall_mem_cons.mpr ⟨fx_ok46, List.forall_mem_cons.mpr ⟨fx_ok47, List.forall_mem_cons.mpr ⟨fx_ok48, List.forall_mem_cons.mpr ⟨fx_ok49, List.forall_mem_cons.mpr ⟨fx_ok50, List.forall_mem_cons.mpr ⟨fx_ok51, List.forall_mem_cons.mpr ⟨fx_ok52, List.forall_mem_cons.mpr ⟨fx_ok53, List.forall_mem_cons.mpr ⟨fx_ok54, List.forall_mem_cons.mpr ⟨fx_ok55, List.forall_mem_cons.mpr ⟨fx_ok56, List.forall_mem_cons.mpr ⟨fx_ok57, List.forall_mem_cons.mpr ⟨fx_ok58, List.forall_mem_cons.mpr ⟨fx_ok59, fun _ h => absurd h List.not_mem_nil⟩⟩⟩⟩⟩⟩⟩⟩⟩⟩⟩⟩⟩⟩⟩⟩⟩⟩⟩⟩
def fx_okA_3_l : List (List fx_E × Nat) := [(fx_c60, 60), (fx_c61, 61), (fx_c62, 62), (fx_c63, 63), (fx_c64, 64), (fx_c65, 65), (fx_c66, 66), (fx_c67, 67), (fx_c68, 68), (fx_c69, 69), (fx_c70, 70), (fx_c71, 71), (fx_c72, 72), (fx_c73, 73), (fx_c74, 74), (fx_c75, 75), (fx_c76, 76), (fx_c77, 77), (fx_c78, 78), (fx_c79, 79)]
theorem fx_okA_3 : ∀ q ∈ fx_okA_3_l, q.1.all (fx_okE q.2) = true := List.forall_mem_cons.mpr ⟨fx_ok60, List.forall_mem_cons.mpr ⟨fx_ok61, List.forall_mem_cons.mpr ⟨fx_ok62, List.forall_mem_cons.mpr ⟨fx_ok63, List.forall_mem_cons.mpr ⟨fx_ok64, List.forall_mem_cons.mpr ⟨fx_ok65, List.forall_mem_cons.mpr ⟨fx_ok66, List.forall_mem_cons.mpr ⟨fx_ok67, List.forall_mem_cons.mpr ⟨fx_ok68, List.forall_mem_cons.mpr ⟨fx_ok69, List.forall_mem_cons.mpr ⟨fx_ok70, List.forall_mem_cons.mpr ⟨fx_ok71, List.forall_mem_cons.mpr ⟨fx_ok72, List.forall_mem_cons.mpr ⟨fx_ok73, List.forall_mem_cons.mpr ⟨fx_ok74, List.forall_mem_cons.mpr ⟨fx_ok75, List.forall_mem_cons.mpr ⟨fx_ok76, List.forall_mem_cons.mpr ⟨fx_ok77, List.forall_mem_cons.mpr ⟨fx_ok78, List.forall_mem_cons.mpr ⟨fx_ok79, fun _ h => absurd h List.not_mem_nil⟩⟩⟩⟩⟩⟩⟩⟩⟩⟩⟩⟩⟩⟩⟩⟩⟩⟩⟩⟩
def fx_okA_4_l : List (List fx_E × Nat) := [(fx_c80, 80), (fx_c81, 81), (fx_c82, 82), (fx_c83, 83), (fx_c84, 84), (fx_c85, 85), (fx_c86, 86), (fx_c87, 87), (fx_c88, 88), (fx_c89, 89), (fx_c90, 90), (fx_c91, 91), (fx_c92, 92), (fx_c93, 93), (fx_c94, 94), (fx_c95, 95), (fx_c96, 96), (fx_c97, 97), (fx_c98, 98), (fx_c99, 99)]
theorem fx_okA_4 : ∀ q ∈ fx_okA_4_l, q.1.all (fx_okE q.2) = true := List.forall_mem_cons.mpr ⟨fx_ok80, List.forall_mem_cons.mpr ⟨fx_ok81, List.forall_mem_cons.mpr ⟨fx_ok82, List.forall_mem_cons.mpr ⟨fx_ok83, List.forall_mem_cons.mpr ⟨fx_ok84, List.forall_mem_cons.mpr ⟨fx_ok85, List.forall_mem_cons.mpr ⟨fx_ok86, List.forall_mem_cons.mpr ⟨fx_ok87, List.forall_mem_cons.mpr ⟨fx_ok88, List.forall_mem_cons.mpr ⟨fx_ok89, List.forall_mem_cons.mpr ⟨fx_ok90, List.forall_mem_cons.mpr ⟨fx_ok91, List.forall_mem_cons.mpr ⟨fx_ok92, List.forall_mem_cons.mpr ⟨fx_ok93, List.forall_mem_cons.mpr ⟨fx_ok94, List.forall_mem_cons.mpr ⟨fx_ok95, List.forall_mem_cons.mpr ⟨fx_ok96, List.forall_mem_cons.mpr ⟨fx_ok97, List.forall_mem_cons.mpr ⟨fx_ok98, List.forall_mem_cons.mpr ⟨fx_ok99, fun _ h => absurd h List.not_mem_nil⟩⟩⟩⟩⟩⟩⟩⟩⟩⟩⟩⟩⟩⟩⟩⟩⟩⟩⟩⟩
def fx_okA_5_l : List (List fx_E × Nat) := [(fx_c100, 100), (fx_c101, 101), (fx_c102, 102), (fx_c103, 103), (fx_c104, 104), (fx_c105, 105), (fx_c106, 106), (fx_c107, 107), (fx_c108, 108), (fx_c109, 109), (fx_c110, 110), (fx_c111, 111), (fx_c112, 112), (fx_c113, 113), (fx_c114, 114), (fx_c115, 115), (fx_c116, 116), (fx_c117, 117), (fx_c118, 118), (fx_c119, 119)]
theorem fx_okA_5 : ∀ q ∈ fx_okA_5_l, q.1.all (fx_okE q.2) = true := List.forall_mem_cons.mpr ⟨fx_ok100, List.forall_mem_cons.mpr ⟨fx_ok101, List.forall_mem_cons.mpr ⟨fx_ok102, List.forall_mem_cons.mpr ⟨fx_ok103, List.forall_mem_cons.mpr ⟨fx_ok104, List.forall_mem_cons.mpr ⟨fx_ok105, List.forall_mem_cons.mpr ⟨fx_ok106, List.forall_mem_cons.mpr ⟨fx_ok107, List.forall_mem_cons.mpr ⟨fx_ok108, List.forall_mem_cons.mpr ⟨fx_ok109, List.forall_mem_cons.mpr ⟨fx_ok110, List.forall_mem_cons.mpr ⟨fx_ok111, List.forall_mem_cons.mpr ⟨fx_ok112, List.forall_mem_cons.mpr ⟨fx_ok113, List.forall_mem_cons.mpr ⟨fx_ok114, List.forall_mem_cons.mpr ⟨fx_ok115, List.forall_mem_cons.mpr ⟨fx_ok116, List.forall_mem_cons.mpr ⟨fx_ok117, List.forall_mem_cons.mpr ⟨fx_ok118, List.forall_mem_cons.mpr ⟨fx_ok119, fun _ h => absurd h List.not_mem_nil⟩⟩⟩⟩⟩⟩⟩⟩⟩⟩⟩⟩⟩⟩⟩⟩⟩⟩⟩⟩
def fx_okA_6_l : List (List fx_E × Nat) := [(fx_c120, 120), (fx_c121, 121), (fx_c122, 122), (fx_c123, 123), (fx_c124, 124), (fx_c125, 125), (fx_c126, 126), (fx_c127, 127), (fx_c128, 128), (fx_c129, 129), (fx_c130, 130), (fx_c131, 131), (fx_c132, 132), (fx_c133, 133)]
theorem fx_okA_6 : ∀ q ∈ fx_okA_6_l, q.1.all (fx_okE q.2) = true := List.forall_mem_cons.mpr ⟨fx_ok120, List.forall_mem_cons.mpr ⟨fx_ok121, List.forall_mem_cons.mpr ⟨fx_ok122, List.forall_mem_cons.mpr ⟨fx_ok123, List.forall_mem_cons.mpr ⟨fx_ok124, List.forall_mem_cons.mpr ⟨fx_ok125, List.forall_mem_cons.mpr ⟨fx_ok126, List.forall_mem_cons.mpr ⟨fx_ok127, List.forall_mem_cons.mpr ⟨fx_ok128, List.forall_mem_cons.mpr ⟨fx_ok129, List.forall_mem_cons.mpr ⟨fx_ok130, List.forall_mem_cons.mpr ⟨fx_ok131, List.forall_mem_cons.mpr ⟨fx_ok132, List.forall_mem_cons.mpr ⟨fx_ok133, fun _ h => absurd h List.not_mem_nil⟩⟩⟩⟩⟩⟩⟩⟩⟩⟩⟩⟩⟩⟩
theorem fx_okA : ∀ q ∈ fx_okA_0_l ++ (fx_okA_1_l ++ (fx_okA_2_l ++ (fx_okA_3_l ++ (fx_okA_4_l ++ (fx_okA_5_l ++ (fx_okA_6_l)))))), q.1.all (fx_okE q.2) = true := by
  intro q hq
  rcases List.mem_append.mp hq with hq | hq
  · exact fx_okA_0 q hq
  rcases List.mem_append.mp hq with hq | hq
  · exact fx_okA_1 q hq
  rcases List.mem_append.mp hq with hq | hq
  · exact fx_okA_2 q hq
  rcases List.mem_append.mp hq with hq | hq
  · exact fx_okA_3 q hq
  rcases List.mem_append.mp hq with hq | hq
  · exact fx_okA_4 q hq
  rcases List.mem_append.mp hq with hq | hq
  · exact fx_okA_5 q hq
  exact fx_okA_6 q hq
set_option maxRecDepth 20000 in
theorem fx_okR : fx_cs.zipIdx = fx_okA_0_l ++ (fx_okA_1_l ++ (fx_okA_2_l ++ (fx_okA_3_l ++ (fx_okA_4_l ++ (fx_okA_5_l ++ (fx_okA_6_l)))))) := rfl
theorem fx_oks : fx_cs.zipIdx.all (fun q => q.1.all (fx_okE q.2)) = true := by
  rw [List.all_eq_true, fx_okR]
  exact fx_okA
