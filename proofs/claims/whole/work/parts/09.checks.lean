def fx_lk (w : Nat) (c d : Cond) : Bool := fx_wd w c || decide (lw_tbl[w]? = some d)
def fx_Cn (ci : Nat) : String := (fx_cl.getD ci (fx_R0, fx_F0, 16)).1
def fx_Cs (ci : Nat) : Nat := (fx_cl.getD ci (fx_R0, fx_F0, 16)).2.2
/-- a call: ranks and words of stack fall, the count of arguments, the link -/
def fx_okC (mi idx r1 n w : Nat) : Bool := Nat.blt r1 133 && Nat.blt (fx_rk r1) (fx_rk mi) && Nat.ble (19 + fx_ml r1 + fx_lw r1) (fx_lw mi) && decide ((parseMethodDescriptor (fx_yy r1).desc).map (fun d => d.parameters.length) = some n) && fx_lk w (.methodLink (fx_yy mi).cls idx (fx_yy r1)) (.methodLinkNest (fx_yy mi).cls idx (fx_yy r1) "FlitTorus")
def fx_okE (mi : Nat) (e : fx_E) : Bool := match e with
  | (pc, (i, np, r1, r2), w) => fx_okT i r1 r2 && decide (decode (fx_cc mi) pc = .ok (i, np - pc)) && (match i with
    | .iconst n => np == pc + 1 && decide (Int32.ofInt n = fx_ic n)
    | .bipush n => np == pc + 2 && decide ((Int8.ofInt n).toInt32 = fx_ic n)
    | .sipush n => np == pc + 3 && decide ((Int16.ofInt n).toInt32 = fx_ic n)
    | .ldc idx => np == pc + 2 && fx_wd w (.constant (fx_yy mi).cls idx (nI r1))
    | .iload_n k => np == pc + 1 && k.val == r1
    | .aload_n k => np == pc + 1 && k.val == r1
    | .istore_n k => np == pc + 1 && k.val == r1 && Nat.blt r1 (fx_ml mi)
    | .astore_n k => np == pc + 1 && k.val == r1 && Nat.blt r1 (fx_ml mi)
    | .iload k => np == pc + 2 && k == r1
    | .aload k => np == pc + 2 && k == r1
    | .istore k => np == pc + 2 && k == r1 && Nat.blt r1 (fx_ml mi)
    | .astore k => np == pc + 2 && k == r1 && Nat.blt r1 (fx_ml mi)
    | .iinc k c => np == pc + 3 && k == r1 && Nat.blt r1 (fx_ml mi) && decide (Int32.ofInt c = fx_ic c)
    | .goto off => np == pc + 3 && decide ((pc : Int) + off = (r1 : Int))
    | .ifCond _ off => np == pc + 3 && decide ((pc : Int) + off = (r1 : Int))
    | .if_icmp _ off => np == pc + 3 && decide ((pc : Int) + off = (r1 : Int))
    | .if_acmp _ off => np == pc + 3 && decide ((pc : Int) + off = (r1 : Int))
    | .ifnull off => np == pc + 3 && decide ((pc : Int) + off = (r1 : Int))
    | .ifnonnull off => np == pc + 3 && decide ((pc : Int) + off = (r1 : Int))
    | .tableswitch d lo hi offs => decide (0 ≤ (pc : Int) + d) && offs.toList.all (fun q => decide (0 ≤ (pc : Int) + q)) && decide (offs.size = (hi - lo + 1).toNat)
    | .getfield idx => np == pc + 3 && Nat.blt (r1 / 64) 13 && Nat.blt (r1 % 64) (fx_Nf r1) && fx_wd w (.fieldLink (fx_yy mi).cls idx (fx_F r1).1 (fx_F r1).2.1 (fx_F r1).2.2.1)
    | .putfield idx => np == pc + 3 && Nat.blt (r1 / 64) 13 && Nat.blt (r1 % 64) (fx_Nf r1) && fx_wd w (.fieldLink (fx_yy mi).cls idx (fx_F r1).1 (fx_F r1).2.1 (fx_F r1).2.2.1) && (!(fx_F r1).2.2.2 || ((fx_yy mi).name == "<init>" && (fx_yy mi).cls == (fx_F r1).1))
    | .new idx => np == pc + 3 && (Nat.ble 900 r1 || (fx_wd w (.classLink (fx_yy mi).cls idx (fx_Cn r1)) && r2 == fx_Cs r1))
    | .newarray t => np == pc + 2 && fx_wd w (.arrayClass (newarray.typeOf t)) && (match t with
      | .int => r1 == 70
      | .boolean => r1 == 71
      | .long => r1 == 72
      | _ => false)
    | .anewarray idx => np == pc + 3 && fx_wd w (.classLink (fx_yy mi).cls idx (fx_Cn r1)) && Nat.blt r1 13
    | .invokespecial idx => np == pc + 3 && (bif r1 == 1000 then fx_wd w (.methodLink (fx_yy mi).cls idx Lib.objectInit) && Nat.ble 1 (fx_rk mi) && Nat.ble 20 (fx_lw mi) else (fx_yy r1).name == "<init>" && r2 / 16 == 10 + fx_ci r1 && Nat.ble 1 (r2 % 16) && fx_okC mi idx r1 (r2 % 16 - 1) w)
    | .invokevirtual idx => np == pc + 3 && r2 / 16 == 10 + fx_ci r1 && Nat.ble 1 (r2 % 16) && fx_okC mi idx r1 (r2 % 16 - 1) w
    | .invokestatic idx => np == pc + 3 && (bif r1 == 1001 then fx_wd w (.methodLink (fx_yy mi).cls idx Lib.Math.max.name) && Nat.ble 1 (fx_rk mi) && Nat.ble 24 (fx_lw mi) else fx_okC mi idx r1 (r2 % 16) w)
    | _ => np == pc + 1)
theorem fx_ok0 : fx_c0.all (fx_okE 0) = true := by decide +kernel
theorem fx_ok1 : fx_c1.all (fx_okE 1) = true := by decide +kernel
theorem fx_ok2 : fx_c2.all (fx_okE 2) = true := by decide +kernel
theorem fx_ok3 : fx_c3.all (fx_okE 3) = true := by decide +kernel
theorem fx_ok4 : fx_c4.all (fx_okE 4) = true := by decide +kernel
theorem fx_ok5 : fx_c5.all (fx_okE 5) = true := by decide +kernel
theorem fx_ok6 : fx_c6.all (fx_okE 6) = true := by decide +kernel
theorem fx_ok7 : fx_c7.all (fx_okE 7) = true := by decide +kernel
theorem fx_ok8 : fx_c8.all (fx_okE 8) = true := by decide +kernel
theorem fx_ok9 : fx_c9.all (fx_okE 9) = true := by decide +kernel
theorem fx_ok10 : fx_c10.all (fx_okE 10) = true := by decide +kernel
theorem fx_ok11 : fx_c11.all (fx_okE 11) = true := by decide +kernel
theorem fx_ok12 : fx_c12.all (fx_okE 12) = true := by decide +kernel
theorem fx_ok13 : fx_c13.all (fx_okE 13) = true := by decide +kernel
theorem fx_ok14 : fx_c14.all (fx_okE 14) = true := by decide +kernel
theorem fx_ok15 : fx_c15.all (fx_okE 15) = true := by decide +kernel
theorem fx_ok16 : fx_c16.all (fx_okE 16) = true := by decide +kernel
theorem fx_ok17 : fx_c17.all (fx_okE 17) = true := by decide +kernel
theorem fx_ok18 : fx_c18.all (fx_okE 18) = true := by decide +kernel
theorem fx_ok19 : fx_c19.all (fx_okE 19) = true := by decide +kernel
theorem fx_ok20 : fx_c20.all (fx_okE 20) = true := by decide +kernel
theorem fx_ok21 : fx_c21.all (fx_okE 21) = true := by decide +kernel
theorem fx_ok22 : fx_c22.all (fx_okE 22) = true := by decide +kernel
theorem fx_ok23 : fx_c23.all (fx_okE 23) = true := by decide +kernel
theorem fx_ok24 : fx_c24.all (fx_okE 24) = true := by decide +kernel
theorem fx_ok25 : fx_c25.all (fx_okE 25) = true := by decide +kernel
theorem fx_ok26 : fx_c26.all (fx_okE 26) = true := by decide +kernel
theorem fx_ok27 : fx_c27.all (fx_okE 27) = true := by decide +kernel
theorem fx_ok28 : fx_c28.all (fx_okE 28) = true := by decide +kernel
theorem fx_ok29 : fx_c29.all (fx_okE 29) = true := by decide +kernel
theorem fx_ok30 : fx_c30.all (fx_okE 30) = true := by decide +kernel
theorem fx_ok31 : fx_c31.all (fx_okE 31) = true := by decide +kernel
theorem fx_ok32 : fx_c32.all (fx_okE 32) = true := by decide +kernel
theorem fx_ok33 : fx_c33.all (fx_okE 33) = true := by decide +kernel
theorem fx_ok34 : fx_c34.all (fx_okE 34) = true := by decide +kernel
theorem fx_ok35 : fx_c35.all (fx_okE 35) = true := by decide +kernel
theorem fx_ok36 : fx_c36.all (fx_okE 36) = true := by decide +kernel
theorem fx_ok37 : fx_c37.all (fx_okE 37) = true := by decide +kernel
theorem fx_ok38 : fx_c38.all (fx_okE 38) = true := by decide +kernel
theorem fx_ok39 : fx_c39.all (fx_okE 39) = true := by decide +kernel
theorem fx_ok40 : fx_c40.all (fx_okE 40) = true := by decide +kernel
theorem fx_ok41 : fx_c41.all (fx_okE 41) = true := by decide +kernel
theorem fx_ok42 : fx_c42.all (fx_okE 42) = true := by decide +kernel
theorem fx_ok43 : fx_c43.all (fx_okE 43) = true := by decide +kernel
theorem fx_ok44 : fx_c44.all (fx_okE 44) = true := by decide +kernel
theorem fx_ok45 : fx_c45.all (fx_okE 45) = true := by decide +kernel
theorem fx_ok46 : fx_c46.all (fx_okE 46) = true := by decide +kernel
theorem fx_ok47 : fx_c47.all (fx_okE 47) = true := by decide +kernel
theorem fx_ok48 : fx_c48.all (fx_okE 48) = true := by decide +kernel
theorem fx_ok49 : fx_c49.all (fx_okE 49) = true := by decide +kernel
theorem fx_ok50 : fx_c50.all (fx_okE 50) = true := by decide +kernel
theorem fx_ok51 : fx_c51.all (fx_okE 51) = true := by decide +kernel
theorem fx_ok52 : fx_c52.all (fx_okE 52) = true := by decide +kernel
theorem fx_ok53 : fx_c53.all (fx_okE 53) = true := by decide +kernel
theorem fx_ok54 : fx_c54.all (fx_okE 54) = true := by decide +kernel
theorem fx_ok55 : fx_c55.all (fx_okE 55) = true := by decide +kernel
theorem fx_ok56 : fx_c56.all (fx_okE 56) = true := by decide +kernel
theorem fx_ok57 : fx_c57.all (fx_okE 57) = true := by decide +kernel
theorem fx_ok58 : fx_c58.all (fx_okE 58) = true := by decide +kernel
theorem fx_ok59 : fx_c59.all (fx_okE 59) = true := by decide +kernel
theorem fx_ok60 : fx_c60.all (fx_okE 60) = true := by decide +kernel
theorem fx_ok61 : fx_c61.all (fx_okE 61) = true := by decide +kernel
theorem fx_ok62 : fx_c62.all (fx_okE 62) = true := by decide +kernel
theorem fx_ok63 : fx_c63.all (fx_okE 63) = true := by decide +kernel
theorem fx_ok64 : fx_c64.all (fx_okE 64) = true := by decide +kernel
theorem fx_ok65 : fx_c65.all (fx_okE 65) = true := by decide +kernel
theorem fx_ok66 : fx_c66.all (fx_okE 66) = true := by decide +kernel
theorem fx_ok67 : fx_c67.all (fx_okE 67) = true := by decide +kernel
theorem fx_ok68 : fx_c68.all (fx_okE 68) = true := by decide +kernel
theorem fx_ok69 : fx_c69.all (fx_okE 69) = true := by decide +kernel
theorem fx_ok70 : fx_c70.all (fx_okE 70) = true := by decide +kernel
theorem fx_ok71 : fx_c71.all (fx_okE 71) = true := by decide +kernel
theorem fx_ok72 : fx_c72.all (fx_okE 72) = true := by decide +kernel
theorem fx_ok73 : fx_c73.all (fx_okE 73) = true := by decide +kernel
theorem fx_ok74 : fx_c74.all (fx_okE 74) = true := by decide +kernel
theorem fx_ok75 : fx_c75.all (fx_okE 75) = true := by decide +kernel
theorem fx_ok76 : fx_c76.all (fx_okE 76) = true := by decide +kernel
theorem fx_ok77 : fx_c77.all (fx_okE 77) = true := by decide +kernel
theorem fx_ok78 : fx_c78.all (fx_okE 78) = true := by decide +kernel
theorem fx_ok79 : fx_c79.all (fx_okE 79) = true := by decide +kernel
theorem fx_ok80 : fx_c80.all (fx_okE 80) = true := by decide +kernel
theorem fx_ok81 : fx_c81.all (fx_okE 81) = true := by decide +kernel
theorem fx_ok82 : fx_c82.all (fx_okE 82) = true := by decide +kernel
theorem fx_ok83 : fx_c83.all (fx_okE 83) = true := by decide +kernel
theorem fx_ok84 : fx_c84.all (fx_okE 84) = true := by decide +kernel
theorem fx_ok85 : fx_c85.all (fx_okE 85) = true := by decide +kernel
theorem fx_ok86 : fx_c86.all (fx_okE 86) = true := by decide +kernel
theorem fx_ok87 : fx_c87.all (fx_okE 87) = true := by decide +kernel
theorem fx_ok88 : fx_c88.all (fx_okE 88) = true := by decide +kernel
theorem fx_ok89 : fx_c89.all (fx_okE 89) = true := by decide +kernel
theorem fx_ok90 : fx_c90.all (fx_okE 90) = true := by decide +kernel
theorem fx_ok91 : fx_c91.all (fx_okE 91) = true := by decide +kernel
theorem fx_ok92 : fx_c92.all (fx_okE 92) = true := by decide +kernel
theorem fx_ok93 : fx_c93.all (fx_okE 93) = true := by decide +kernel
theorem fx_ok94 : fx_c94.all (fx_okE 94) = true := by decide +kernel
theorem fx_ok95 : fx_c95.all (fx_okE 95) = true := by decide +kernel
theorem fx_ok96 : fx_c96.all (fx_okE 96) = true := by decide +kernel
theorem fx_ok97 : fx_c97.all (fx_okE 97) = true := by decide +kernel
theorem fx_ok98 : fx_c98.all (fx_okE 98) = true := by decide +kernel
theorem fx_ok99 : fx_c99.all (fx_okE 99) = true := by decide +kernel
theorem fx_ok100 : fx_c100.all (fx_okE 100) = true := by decide +kernel
theorem fx_ok101 : fx_c101.all (fx_okE 101) = true := by decide +kernel
theorem fx_ok102 : fx_c102.all (fx_okE 102) = true := by decide +kernel
theorem fx_ok103 : fx_c103.all (fx_okE 103) = true := by decide +kernel
theorem fx_ok104 : fx_c104.all (fx_okE 104) = true := by decide +kernel
theorem fx_ok105 : fx_c105.all (fx_okE 105) = true := by decide +kernel
theorem fx_ok106 : fx_c106.all (fx_okE 106) = true := by decide +kernel
theorem fx_ok107 : fx_c107.all (fx_okE 107) = true := by decide +kernel
theorem fx_ok108 : fx_c108.all (fx_okE 108) = true := by decide +kernel
theorem fx_ok109 : fx_c109.all (fx_okE 109) = true := by decide +kernel
theorem fx_ok110 : fx_c110.all (fx_okE 110) = true := by decide +kernel
theorem fx_ok111 : fx_c111.all (fx_okE 111) = true := by decide +kernel
theorem fx_ok112 : fx_c112.all (fx_okE 112) = true := by decide +kernel
theorem fx_ok113 : fx_c113.all (fx_okE 113) = true := by decide +kernel
theorem fx_ok114 : fx_c114.all (fx_okE 114) = true := by decide +kernel
theorem fx_ok115 : fx_c115.all (fx_okE 115) = true := by decide +kernel
theorem fx_ok116 : fx_c116.all (fx_okE 116) = true := by decide +kernel
theorem fx_ok117 : fx_c117.all (fx_okE 117) = true := by decide +kernel
theorem fx_ok118 : fx_c118.all (fx_okE 118) = true := by decide +kernel
theorem fx_ok119 : fx_c119.all (fx_okE 119) = true := by decide +kernel
theorem fx_ok120 : fx_c120.all (fx_okE 120) = true := by decide +kernel
theorem fx_ok121 : fx_c121.all (fx_okE 121) = true := by decide +kernel
theorem fx_ok122 : fx_c122.all (fx_okE 122) = true := by decide +kernel
theorem fx_ok123 : fx_c123.all (fx_okE 123) = true := by decide +kernel
theorem fx_ok124 : fx_c124.all (fx_okE 124) = true := by decide +kernel
theorem fx_ok125 : fx_c125.all (fx_okE 125) = true := by decide +kernel
theorem fx_ok126 : fx_c126.all (fx_okE 126) = true := by decide +kernel
theorem fx_ok127 : fx_c127.all (fx_okE 127) = true := by decide +kernel
theorem fx_ok128 : fx_c128.all (fx_okE 128) = true := by decide +kernel
theorem fx_ok129 : fx_c129.all (fx_okE 129) = true := by decide +kernel
theorem fx_ok130 : fx_c130.all (fx_okE 130) = true := by decide +kernel
theorem fx_ok131 : fx_c131.all (fx_okE 131) = true := by decide +kernel
theorem fx_ok132 : fx_c132.all (fx_okE 132) = true := by decide +kernel
theorem fx_ok133 : fx_c133.all (fx_okE 133) = true := by decide +kernel
