section
-- ===== PART A: goes FIRST, ahead of the names: the tables' words, and 'selects' of the private methods out of them =====
/-- a private method of a class that the tables say can be made, by its rows of tables_1 -/
def lw_okq (q : MethodName × Nat) : Prop := (q.1.cls ≠ "java/lang/invoke/MethodHandle" ∧ q.1.cls ≠ "java/lang/invoke/VarHandle") ∧ Cond.instantiable q.1.cls q.2 ∈ tables_1 ∧ Cond.privateMethod q.1 ∈ tables_1 ∧ Cond.instanceMethod q.1 ∈ tables_1
theorem lw_p0 : lw_okq (⟨"FlitTorus", "emptyAll", "()V"⟩, 16) := ⟨⟨by decide +kernel, by decide +kernel⟩, List.mem_of_getElem? (i := 21) (by decide +kernel), List.mem_of_getElem? (i := 130) (by decide +kernel), List.mem_of_getElem? (i := 131) (by decide +kernel)⟩
theorem lw_p1 : lw_okq (⟨"FlitTorus$Grid", "forgetSteps", "()V"⟩, 7) := ⟨⟨by decide +kernel, by decide +kernel⟩, List.mem_of_getElem? (i := 37) (by decide +kernel), List.mem_of_getElem? (i := 168) (by decide +kernel), List.mem_of_getElem? (i := 169) (by decide +kernel)⟩
theorem lw_p2 : lw_okq (⟨"FlitTorus", "makeNodes", "()V"⟩, 16) := ⟨⟨by decide +kernel, by decide +kernel⟩, List.mem_of_getElem? (i := 21) (by decide +kernel), List.mem_of_getElem? (i := 172) (by decide +kernel), List.mem_of_getElem? (i := 173) (by decide +kernel)⟩
theorem lw_p3 : lw_okq (⟨"FlitTorus$Grid", "countStepsTo", "(I)V"⟩, 7) := ⟨⟨by decide +kernel, by decide +kernel⟩, List.mem_of_getElem? (i := 37) (by decide +kernel), List.mem_of_getElem? (i := 406) (by decide +kernel), List.mem_of_getElem? (i := 407) (by decide +kernel)⟩
theorem lw_p4 : lw_okq (⟨"FlitTorus$Packet", "makeFlits", "()V"⟩, 13) := ⟨⟨by decide +kernel, by decide +kernel⟩, List.mem_of_getElem? (i := 415) (by decide +kernel), List.mem_of_getElem? (i := 487) (by decide +kernel), List.mem_of_getElem? (i := 488) (by decide +kernel)⟩
theorem lw_p5 : lw_okq (⟨"FlitTorus", "tellNotes", "()V"⟩, 16) := ⟨⟨by decide +kernel, by decide +kernel⟩, List.mem_of_getElem? (i := 21) (by decide +kernel), List.mem_of_getElem? (i := 524) (by decide +kernel), List.mem_of_getElem? (i := 525) (by decide +kernel)⟩
theorem lw_p6 : lw_okq (⟨"FlitTorus", "tell", "(LFlitTorus$Packet;)V"⟩, 16) := ⟨⟨by decide +kernel, by decide +kernel⟩, List.mem_of_getElem? (i := 21) (by decide +kernel), List.mem_of_getElem? (i := 528) (by decide +kernel), List.mem_of_getElem? (i := 529) (by decide +kernel)⟩
theorem lw_p7 : lw_okq (⟨"FlitTorus", "goldenIndex", "()I"⟩, 16) := ⟨⟨by decide +kernel, by decide +kernel⟩, List.mem_of_getElem? (i := 21) (by decide +kernel), List.mem_of_getElem? (i := 540) (by decide +kernel), List.mem_of_getElem? (i := 541) (by decide +kernel)⟩
theorem lw_p8 : lw_okq (⟨"FlitTorus", "receiveAt", "(LFlitTorus$Node;)V"⟩, 16) := ⟨⟨by decide +kernel, by decide +kernel⟩, List.mem_of_getElem? (i := 21) (by decide +kernel), List.mem_of_getElem? (i := 553) (by decide +kernel), List.mem_of_getElem? (i := 554) (by decide +kernel)⟩
theorem lw_p9 : lw_okq (⟨"FlitTorus$Rank", "isGolden", "(LFlitTorus$Flit;)Z"⟩, 3) := ⟨⟨by decide +kernel, by decide +kernel⟩, List.mem_of_getElem? (i := 68) (by decide +kernel), List.mem_of_getElem? (i := 565) (by decide +kernel), List.mem_of_getElem? (i := 566) (by decide +kernel)⟩
theorem lw_p10 : lw_okq (⟨"FlitTorus", "receive", "(LFlitTorus$Receiver;LFlitTorus$Flit;)V"⟩, 16) := ⟨⟨by decide +kernel, by decide +kernel⟩, List.mem_of_getElem? (i := 21) (by decide +kernel), List.mem_of_getElem? (i := 569) (by decide +kernel), List.mem_of_getElem? (i := 570) (by decide +kernel)⟩
theorem lw_p11 : lw_okq (⟨"FlitTorus", "finish", "(LFlitTorus$Receiver;LFlitTorus$Place;)V"⟩, 16) := ⟨⟨by decide +kernel, by decide +kernel⟩, List.mem_of_getElem? (i := 21) (by decide +kernel), List.mem_of_getElem? (i := 581) (by decide +kernel), List.mem_of_getElem? (i := 582) (by decide +kernel)⟩
theorem lw_p12 : lw_okq (⟨"FlitTorus", "sendNote", "(LFlitTorus$Packet;Z)V"⟩, 16) := ⟨⟨by decide +kernel, by decide +kernel⟩, List.mem_of_getElem? (i := 21) (by decide +kernel), List.mem_of_getElem? (i := 594) (by decide +kernel), List.mem_of_getElem? (i := 595) (by decide +kernel)⟩
theorem lw_p13 : lw_okq (⟨"FlitTorus", "firstStarved", "()I"⟩, 16) := ⟨⟨by decide +kernel, by decide +kernel⟩, List.mem_of_getElem? (i := 21) (by decide +kernel), List.mem_of_getElem? (i := 600) (by decide +kernel), List.mem_of_getElem? (i := 601) (by decide +kernel)⟩
theorem lw_p14 : lw_okq (⟨"FlitTorus", "enterAt", "(LFlitTorus$Node;I)V"⟩, 16) := ⟨⟨by decide +kernel, by decide +kernel⟩, List.mem_of_getElem? (i := 21) (by decide +kernel), List.mem_of_getElem? (i := 604) (by decide +kernel), List.mem_of_getElem? (i := 605) (by decide +kernel)⟩
theorem lw_p15 : lw_okq (⟨"FlitTorus$Sender", "occupySlot", "(LFlitTorus$Packet;)V"⟩, 6) := ⟨⟨by decide +kernel, by decide +kernel⟩, List.mem_of_getElem? (i := 181) (by decide +kernel), List.mem_of_getElem? (i := 621) (by decide +kernel), List.mem_of_getElem? (i := 622) (by decide +kernel)⟩
def lw_privs_1 : List (MethodName × Nat) := [(⟨"FlitTorus", "emptyAll", "()V"⟩, 16), (⟨"FlitTorus$Grid", "forgetSteps", "()V"⟩, 7), (⟨"FlitTorus", "makeNodes", "()V"⟩, 16), (⟨"FlitTorus$Grid", "countStepsTo", "(I)V"⟩, 7), (⟨"FlitTorus$Packet", "makeFlits", "()V"⟩, 13), (⟨"FlitTorus", "tellNotes", "()V"⟩, 16), (⟨"FlitTorus", "tell", "(LFlitTorus$Packet;)V"⟩, 16), (⟨"FlitTorus", "goldenIndex", "()I"⟩, 16), (⟨"FlitTorus", "receiveAt", "(LFlitTorus$Node;)V"⟩, 16), (⟨"FlitTorus$Rank", "isGolden", "(LFlitTorus$Flit;)Z"⟩, 3), (⟨"FlitTorus", "receive", "(LFlitTorus$Receiver;LFlitTorus$Flit;)V"⟩, 16), (⟨"FlitTorus", "finish", "(LFlitTorus$Receiver;LFlitTorus$Place;)V"⟩, 16), (⟨"FlitTorus", "sendNote", "(LFlitTorus$Packet;Z)V"⟩, 16), (⟨"FlitTorus", "firstStarved", "()I"⟩, 16), (⟨"FlitTorus", "enterAt", "(LFlitTorus$Node;I)V"⟩, 16), (⟨"FlitTorus$Sender", "occupySlot", "(LFlitTorus$Packet;)V"⟩, 6)]
theorem lw_r1 : ∀ q ∈ lw_privs_1, lw_okq q := List.forall_mem_cons.mpr ⟨lw_p0, List.forall_mem_cons.mpr ⟨lw_p1, List.forall_mem_cons.mpr ⟨lw_p2, List.forall_mem_cons.mpr ⟨lw_p3, List.forall_mem_cons.mpr ⟨lw_p4, List.forall_mem_cons.mpr ⟨lw_p5, List.forall_mem_cons.mpr ⟨lw_p6, List.forall_mem_cons.mpr ⟨lw_p7, List.forall_mem_cons.mpr ⟨lw_p8, List.forall_mem_cons.mpr ⟨lw_p9, List.forall_mem_cons.mpr ⟨lw_p10, List.forall_mem_cons.mpr ⟨lw_p11, List.forall_mem_cons.mpr ⟨lw_p12, List.forall_mem_cons.mpr ⟨lw_p13, List.forall_mem_cons.mpr ⟨lw_p14, List.forall_mem_cons.mpr ⟨lw_p15, fun _ h => absurd h List.not_mem_nil⟩⟩⟩⟩⟩⟩⟩⟩⟩⟩⟩⟩⟩⟩⟩⟩
theorem lw_p16 : lw_okq (⟨"FlitTorus", "moveFrom", "(LFlitTorus$Node;)I"⟩, 16) := ⟨⟨by decide +kernel, by decide +kernel⟩, List.mem_of_getElem? (i := 21) (by decide +kernel), List.mem_of_getElem? (i := 629) (by decide +kernel), List.mem_of_getElem? (i := 630) (by decide +kernel)⟩
theorem lw_p17 : lw_okq (⟨"FlitTorus$Router", "sortByRank", "([LFlitTorus$Flit;)I"⟩, 5) := ⟨⟨by decide +kernel, by decide +kernel⟩, List.mem_of_getElem? (i := 29) (by decide +kernel), List.mem_of_getElem? (i := 637) (by decide +kernel), List.mem_of_getElem? (i := 638) (by decide +kernel)⟩
theorem lw_p18 : lw_okq (⟨"FlitTorus$Router", "bestWayLeft", "(II)I"⟩, 5) := ⟨⟨by decide +kernel, by decide +kernel⟩, List.mem_of_getElem? (i := 29) (by decide +kernel), List.mem_of_getElem? (i := 642) (by decide +kernel), List.mem_of_getElem? (i := 643) (by decide +kernel)⟩
theorem lw_p19 : lw_okq (⟨"FlitTorus$Router", "passFirstCell", "(ILFlitTorus$Flit;LFlitTorus$Flit;I)V"⟩, 5) := ⟨⟨by decide +kernel, by decide +kernel⟩, List.mem_of_getElem? (i := 29) (by decide +kernel), List.mem_of_getElem? (i := 655) (by decide +kernel), List.mem_of_getElem? (i := 656) (by decide +kernel)⟩
theorem lw_p20 : lw_okq (⟨"FlitTorus$Router", "passLastCell", "(ILFlitTorus$Flit;LFlitTorus$Flit;I)V"⟩, 5) := ⟨⟨by decide +kernel, by decide +kernel⟩, List.mem_of_getElem? (i := 29) (by decide +kernel), List.mem_of_getElem? (i := 663) (by decide +kernel), List.mem_of_getElem? (i := 664) (by decide +kernel)⟩
theorem lw_p21 : lw_okq (⟨"java/lang/Throwable", "fillInStackTrace", "(I)Ljava/lang/Throwable;"⟩, 6) := ⟨⟨by decide +kernel, by decide +kernel⟩, List.mem_of_getElem? (i := 747) (by decide +kernel), List.mem_of_getElem? (i := 745) (by decide +kernel), List.mem_of_getElem? (i := 746) (by decide +kernel)⟩
theorem lw_p22 : lw_okq (⟨"FlitTorusModel", "measure", "()Z"⟩, 51) := ⟨⟨by decide +kernel, by decide +kernel⟩, List.mem_of_getElem? (i := 802) (by decide +kernel), List.mem_of_getElem? (i := 816) (by decide +kernel), List.mem_of_getElem? (i := 817) (by decide +kernel)⟩
theorem lw_p23 : lw_okq (⟨"FlitTorusModel", "neighbour", "(II)I"⟩, 51) := ⟨⟨by decide +kernel, by decide +kernel⟩, List.mem_of_getElem? (i := 802) (by decide +kernel), List.mem_of_getElem? (i := 820) (by decide +kernel), List.mem_of_getElem? (i := 821) (by decide +kernel)⟩
theorem lw_p24 : lw_okq (⟨"FlitTorusModel", "isNode", "(I)Z"⟩, 51) := ⟨⟨by decide +kernel, by decide +kernel⟩, List.mem_of_getElem? (i := 802) (by decide +kernel), List.mem_of_getElem? (i := 987) (by decide +kernel), List.mem_of_getElem? (i := 988) (by decide +kernel)⟩
theorem lw_p25 : lw_okq (⟨"FlitTorusModel", "isQuiet", "()Z"⟩, 51) := ⟨⟨by decide +kernel, by decide +kernel⟩, List.mem_of_getElem? (i := 802) (by decide +kernel), List.mem_of_getElem? (i := 991) (by decide +kernel), List.mem_of_getElem? (i := 992) (by decide +kernel)⟩
theorem lw_p26 : lw_okq (⟨"FlitTorusModel", "usedSlots", "(I)I"⟩, 51) := ⟨⟨by decide +kernel, by decide +kernel⟩, List.mem_of_getElem? (i := 802) (by decide +kernel), List.mem_of_getElem? (i := 995) (by decide +kernel), List.mem_of_getElem? (i := 996) (by decide +kernel)⟩
theorem lw_p27 : lw_okq (⟨"FlitTorusModel", "openWays", "(I)I"⟩, 51) := ⟨⟨by decide +kernel, by decide +kernel⟩, List.mem_of_getElem? (i := 802) (by decide +kernel), List.mem_of_getElem? (i := 999) (by decide +kernel), List.mem_of_getElem? (i := 1000) (by decide +kernel)⟩
theorem lw_p28 : lw_okq (⟨"FlitTorusModel", "tellNotes", "()V"⟩, 51) := ⟨⟨by decide +kernel, by decide +kernel⟩, List.mem_of_getElem? (i := 802) (by decide +kernel), List.mem_of_getElem? (i := 1011) (by decide +kernel), List.mem_of_getElem? (i := 1012) (by decide +kernel)⟩
theorem lw_p29 : lw_okq (⟨"FlitTorusModel", "home", "(I)I"⟩, 51) := ⟨⟨by decide +kernel, by decide +kernel⟩, List.mem_of_getElem? (i := 802) (by decide +kernel), List.mem_of_getElem? (i := 1015) (by decide +kernel), List.mem_of_getElem? (i := 1016) (by decide +kernel)⟩
theorem lw_p30 : lw_okq (⟨"FlitTorusModel", "goalOf", "(I)I"⟩, 51) := ⟨⟨by decide +kernel, by decide +kernel⟩, List.mem_of_getElem? (i := 802) (by decide +kernel), List.mem_of_getElem? (i := 1019) (by decide +kernel), List.mem_of_getElem? (i := 1020) (by decide +kernel)⟩
theorem lw_p31 : lw_okq (⟨"FlitTorusModel", "isAhead", "(II)Z"⟩, 51) := ⟨⟨by decide +kernel, by decide +kernel⟩, List.mem_of_getElem? (i := 802) (by decide +kernel), List.mem_of_getElem? (i := 1023) (by decide +kernel), List.mem_of_getElem? (i := 1024) (by decide +kernel)⟩
def lw_privs_2 : List (MethodName × Nat) := [(⟨"FlitTorus", "moveFrom", "(LFlitTorus$Node;)I"⟩, 16), (⟨"FlitTorus$Router", "sortByRank", "([LFlitTorus$Flit;)I"⟩, 5), (⟨"FlitTorus$Router", "bestWayLeft", "(II)I"⟩, 5), (⟨"FlitTorus$Router", "passFirstCell", "(ILFlitTorus$Flit;LFlitTorus$Flit;I)V"⟩, 5), (⟨"FlitTorus$Router", "passLastCell", "(ILFlitTorus$Flit;LFlitTorus$Flit;I)V"⟩, 5), (⟨"java/lang/Throwable", "fillInStackTrace", "(I)Ljava/lang/Throwable;"⟩, 6), (⟨"FlitTorusModel", "measure", "()Z"⟩, 51), (⟨"FlitTorusModel", "neighbour", "(II)I"⟩, 51), (⟨"FlitTorusModel", "isNode", "(I)Z"⟩, 51), (⟨"FlitTorusModel", "isQuiet", "()Z"⟩, 51), (⟨"FlitTorusModel", "usedSlots", "(I)I"⟩, 51), (⟨"FlitTorusModel", "openWays", "(I)I"⟩, 51), (⟨"FlitTorusModel", "tellNotes", "()V"⟩, 51), (⟨"FlitTorusModel", "home", "(I)I"⟩, 51), (⟨"FlitTorusModel", "goalOf", "(I)I"⟩, 51), (⟨"FlitTorusModel", "isAhead", "(II)Z"⟩, 51)]
theorem lw_r2 : ∀ q ∈ lw_privs_2, lw_okq q := List.forall_mem_cons.mpr ⟨lw_p16, List.forall_mem_cons.mpr ⟨lw_p17, List.forall_mem_cons.mpr ⟨lw_p18, List.forall_mem_cons.mpr ⟨lw_p19, List.forall_mem_cons.mpr ⟨lw_p20, List.forall_mem_cons.mpr ⟨lw_p21, List.forall_mem_cons.mpr ⟨lw_p22, List.forall_mem_cons.mpr ⟨lw_p23, List.forall_mem_cons.mpr ⟨lw_p24, List.forall_mem_cons.mpr ⟨lw_p25, List.forall_mem_cons.mpr ⟨lw_p26, List.forall_mem_cons.mpr ⟨lw_p27, List.forall_mem_cons.mpr ⟨lw_p28, List.forall_mem_cons.mpr ⟨lw_p29, List.forall_mem_cons.mpr ⟨lw_p30, List.forall_mem_cons.mpr ⟨lw_p31, fun _ h => absurd h List.not_mem_nil⟩⟩⟩⟩⟩⟩⟩⟩⟩⟩⟩⟩⟩⟩⟩⟩
theorem lw_p32 : lw_okq (⟨"FlitTorusModel", "isGolden", "(I)Z"⟩, 51) := ⟨⟨by decide +kernel, by decide +kernel⟩, List.mem_of_getElem? (i := 802) (by decide +kernel), List.mem_of_getElem? (i := 1027) (by decide +kernel), List.mem_of_getElem? (i := 1028) (by decide +kernel)⟩
theorem lw_p33 : lw_okq (⟨"FlitTorusModel", "goldenNow", "()I"⟩, 51) := ⟨⟨by decide +kernel, by decide +kernel⟩, List.mem_of_getElem? (i := 802) (by decide +kernel), List.mem_of_getElem? (i := 1031) (by decide +kernel), List.mem_of_getElem? (i := 1032) (by decide +kernel)⟩
theorem lw_p34 : lw_okq (⟨"FlitTorusModel", "receive", "(I)V"⟩, 51) := ⟨⟨by decide +kernel, by decide +kernel⟩, List.mem_of_getElem? (i := 802) (by decide +kernel), List.mem_of_getElem? (i := 1035) (by decide +kernel), List.mem_of_getElem? (i := 1036) (by decide +kernel)⟩
theorem lw_p35 : lw_okq (⟨"FlitTorusModel", "remove", "(I)V"⟩, 51) := ⟨⟨by decide +kernel, by decide +kernel⟩, List.mem_of_getElem? (i := 802) (by decide +kernel), List.mem_of_getElem? (i := 1039) (by decide +kernel), List.mem_of_getElem? (i := 1040) (by decide +kernel)⟩
theorem lw_p36 : lw_okq (⟨"FlitTorusModel", "placeOf", "(III)I"⟩, 51) := ⟨⟨by decide +kernel, by decide +kernel⟩, List.mem_of_getElem? (i := 802) (by decide +kernel), List.mem_of_getElem? (i := 1043) (by decide +kernel), List.mem_of_getElem? (i := 1044) (by decide +kernel)⟩
theorem lw_p37 : lw_okq (⟨"FlitTorusModel", "emptyPlace", "(I)I"⟩, 51) := ⟨⟨by decide +kernel, by decide +kernel⟩, List.mem_of_getElem? (i := 802) (by decide +kernel), List.mem_of_getElem? (i := 1047) (by decide +kernel), List.mem_of_getElem? (i := 1048) (by decide +kernel)⟩
theorem lw_p38 : lw_okq (⟨"FlitTorusModel", "settle", "(I)V"⟩, 51) := ⟨⟨by decide +kernel, by decide +kernel⟩, List.mem_of_getElem? (i := 802) (by decide +kernel), List.mem_of_getElem? (i := 1051) (by decide +kernel), List.mem_of_getElem? (i := 1052) (by decide +kernel)⟩
theorem lw_p39 : lw_okq (⟨"FlitTorusModel", "note", "(IIZ)V"⟩, 51) := ⟨⟨by decide +kernel, by decide +kernel⟩, List.mem_of_getElem? (i := 802) (by decide +kernel), List.mem_of_getElem? (i := 1055) (by decide +kernel), List.mem_of_getElem? (i := 1056) (by decide +kernel)⟩
theorem lw_p40 : lw_okq (⟨"FlitTorusModel", "letEnter", "()V"⟩, 51) := ⟨⟨by decide +kernel, by decide +kernel⟩, List.mem_of_getElem? (i := 802) (by decide +kernel), List.mem_of_getElem? (i := 1059) (by decide +kernel), List.mem_of_getElem? (i := 1060) (by decide +kernel)⟩
theorem lw_p41 : lw_okq (⟨"FlitTorusModel", "favoured", "()I"⟩, 51) := ⟨⟨by decide +kernel, by decide +kernel⟩, List.mem_of_getElem? (i := 802) (by decide +kernel), List.mem_of_getElem? (i := 1063) (by decide +kernel), List.mem_of_getElem? (i := 1064) (by decide +kernel)⟩
theorem lw_p42 : lw_okq (⟨"FlitTorusModel", "candidate", "(I)I"⟩, 51) := ⟨⟨by decide +kernel, by decide +kernel⟩, List.mem_of_getElem? (i := 802) (by decide +kernel), List.mem_of_getElem? (i := 1067) (by decide +kernel), List.mem_of_getElem? (i := 1068) (by decide +kernel)⟩
theorem lw_p43 : lw_okq (⟨"FlitTorusModel", "underWay", "(I)I"⟩, 51) := ⟨⟨by decide +kernel, by decide +kernel⟩, List.mem_of_getElem? (i := 802) (by decide +kernel), List.mem_of_getElem? (i := 1071) (by decide +kernel), List.mem_of_getElem? (i := 1072) (by decide +kernel)⟩
theorem lw_p44 : lw_okq (⟨"FlitTorusModel", "isOut", "(I)Z"⟩, 51) := ⟨⟨by decide +kernel, by decide +kernel⟩, List.mem_of_getElem? (i := 802) (by decide +kernel), List.mem_of_getElem? (i := 1075) (by decide +kernel), List.mem_of_getElem? (i := 1076) (by decide +kernel)⟩
theorem lw_p45 : lw_okq (⟨"FlitTorusModel", "freeSlot", "(I)I"⟩, 51) := ⟨⟨by decide +kernel, by decide +kernel⟩, List.mem_of_getElem? (i := 802) (by decide +kernel), List.mem_of_getElem? (i := 1079) (by decide +kernel), List.mem_of_getElem? (i := 1080) (by decide +kernel)⟩
theorem lw_p46 : lw_okq (⟨"FlitTorusModel", "flitsAt", "(I)I"⟩, 51) := ⟨⟨by decide +kernel, by decide +kernel⟩, List.mem_of_getElem? (i := 802) (by decide +kernel), List.mem_of_getElem? (i := 1083) (by decide +kernel), List.mem_of_getElem? (i := 1084) (by decide +kernel)⟩
theorem lw_p47 : lw_okq (⟨"FlitTorusModel", "enter", "(II)V"⟩, 51) := ⟨⟨by decide +kernel, by decide +kernel⟩, List.mem_of_getElem? (i := 802) (by decide +kernel), List.mem_of_getElem? (i := 1087) (by decide +kernel), List.mem_of_getElem? (i := 1088) (by decide +kernel)⟩
def lw_privs_3 : List (MethodName × Nat) := [(⟨"FlitTorusModel", "isGolden", "(I)Z"⟩, 51), (⟨"FlitTorusModel", "goldenNow", "()I"⟩, 51), (⟨"FlitTorusModel", "receive", "(I)V"⟩, 51), (⟨"FlitTorusModel", "remove", "(I)V"⟩, 51), (⟨"FlitTorusModel", "placeOf", "(III)I"⟩, 51), (⟨"FlitTorusModel", "emptyPlace", "(I)I"⟩, 51), (⟨"FlitTorusModel", "settle", "(I)V"⟩, 51), (⟨"FlitTorusModel", "note", "(IIZ)V"⟩, 51), (⟨"FlitTorusModel", "letEnter", "()V"⟩, 51), (⟨"FlitTorusModel", "favoured", "()I"⟩, 51), (⟨"FlitTorusModel", "candidate", "(I)I"⟩, 51), (⟨"FlitTorusModel", "underWay", "(I)I"⟩, 51), (⟨"FlitTorusModel", "isOut", "(I)Z"⟩, 51), (⟨"FlitTorusModel", "freeSlot", "(I)I"⟩, 51), (⟨"FlitTorusModel", "flitsAt", "(I)I"⟩, 51), (⟨"FlitTorusModel", "enter", "(II)V"⟩, 51)]
theorem lw_r3 : ∀ q ∈ lw_privs_3, lw_okq q := List.forall_mem_cons.mpr ⟨lw_p32, List.forall_mem_cons.mpr ⟨lw_p33, List.forall_mem_cons.mpr ⟨lw_p34, List.forall_mem_cons.mpr ⟨lw_p35, List.forall_mem_cons.mpr ⟨lw_p36, List.forall_mem_cons.mpr ⟨lw_p37, List.forall_mem_cons.mpr ⟨lw_p38, List.forall_mem_cons.mpr ⟨lw_p39, List.forall_mem_cons.mpr ⟨lw_p40, List.forall_mem_cons.mpr ⟨lw_p41, List.forall_mem_cons.mpr ⟨lw_p42, List.forall_mem_cons.mpr ⟨lw_p43, List.forall_mem_cons.mpr ⟨lw_p44, List.forall_mem_cons.mpr ⟨lw_p45, List.forall_mem_cons.mpr ⟨lw_p46, List.forall_mem_cons.mpr ⟨lw_p47, fun _ h => absurd h List.not_mem_nil⟩⟩⟩⟩⟩⟩⟩⟩⟩⟩⟩⟩⟩⟩⟩⟩
theorem lw_p48 : lw_okq (⟨"FlitTorusModel", "freeLine", "(I)I"⟩, 51) := ⟨⟨by decide +kernel, by decide +kernel⟩, List.mem_of_getElem? (i := 802) (by decide +kernel), List.mem_of_getElem? (i := 1091) (by decide +kernel), List.mem_of_getElem? (i := 1092) (by decide +kernel)⟩
theorem lw_p49 : lw_okq (⟨"FlitTorusModel", "giveByRank", "(I)V"⟩, 51) := ⟨⟨by decide +kernel, by decide +kernel⟩, List.mem_of_getElem? (i := 802) (by decide +kernel), List.mem_of_getElem? (i := 1095) (by decide +kernel), List.mem_of_getElem? (i := 1096) (by decide +kernel)⟩
theorem lw_p50 : lw_okq (⟨"FlitTorusModel", "next", "(I)I"⟩, 51) := ⟨⟨by decide +kernel, by decide +kernel⟩, List.mem_of_getElem? (i := 802) (by decide +kernel), List.mem_of_getElem? (i := 1099) (by decide +kernel), List.mem_of_getElem? (i := 1100) (by decide +kernel)⟩
theorem lw_p51 : lw_okq (⟨"FlitTorusModel", "isGiven", "(II)Z"⟩, 51) := ⟨⟨by decide +kernel, by decide +kernel⟩, List.mem_of_getElem? (i := 802) (by decide +kernel), List.mem_of_getElem? (i := 1103) (by decide +kernel), List.mem_of_getElem? (i := 1104) (by decide +kernel)⟩
theorem lw_p52 : lw_okq (⟨"FlitTorusModel", "isWanted", "(II)Z"⟩, 51) := ⟨⟨by decide +kernel, by decide +kernel⟩, List.mem_of_getElem? (i := 802) (by decide +kernel), List.mem_of_getElem? (i := 1107) (by decide +kernel), List.mem_of_getElem? (i := 1108) (by decide +kernel)⟩
theorem lw_p53 : lw_okq (⟨"FlitTorusModel", "giveByCells", "(I)V"⟩, 51) := ⟨⟨by decide +kernel, by decide +kernel⟩, List.mem_of_getElem? (i := 802) (by decide +kernel), List.mem_of_getElem? (i := 1111) (by decide +kernel), List.mem_of_getElem? (i := 1112) (by decide +kernel)⟩
theorem lw_p54 : lw_okq (⟨"FlitTorusModel", "onLine", "(II)I"⟩, 51) := ⟨⟨by decide +kernel, by decide +kernel⟩, List.mem_of_getElem? (i := 802) (by decide +kernel), List.mem_of_getElem? (i := 1115) (by decide +kernel), List.mem_of_getElem? (i := 1116) (by decide +kernel)⟩
theorem lw_p55 : lw_okq (⟨"FlitTorusModel", "upper", "(III)I"⟩, 51) := ⟨⟨by decide +kernel, by decide +kernel⟩, List.mem_of_getElem? (i := 802) (by decide +kernel), List.mem_of_getElem? (i := 1119) (by decide +kernel), List.mem_of_getElem? (i := 1120) (by decide +kernel)⟩
def lw_privs_4 : List (MethodName × Nat) := [(⟨"FlitTorusModel", "freeLine", "(I)I"⟩, 51), (⟨"FlitTorusModel", "giveByRank", "(I)V"⟩, 51), (⟨"FlitTorusModel", "next", "(I)I"⟩, 51), (⟨"FlitTorusModel", "isGiven", "(II)Z"⟩, 51), (⟨"FlitTorusModel", "isWanted", "(II)Z"⟩, 51), (⟨"FlitTorusModel", "giveByCells", "(I)V"⟩, 51), (⟨"FlitTorusModel", "onLine", "(II)I"⟩, 51), (⟨"FlitTorusModel", "upper", "(III)I"⟩, 51)]
theorem lw_r4 : ∀ q ∈ lw_privs_4, lw_okq q := List.forall_mem_cons.mpr ⟨lw_p48, List.forall_mem_cons.mpr ⟨lw_p49, List.forall_mem_cons.mpr ⟨lw_p50, List.forall_mem_cons.mpr ⟨lw_p51, List.forall_mem_cons.mpr ⟨lw_p52, List.forall_mem_cons.mpr ⟨lw_p53, List.forall_mem_cons.mpr ⟨lw_p54, List.forall_mem_cons.mpr ⟨lw_p55, fun _ h => absurd h List.not_mem_nil⟩⟩⟩⟩⟩⟩⟩⟩
def lw_privs : List (MethodName × Nat) := lw_privs_1 ++ (lw_privs_2 ++ (lw_privs_3 ++ (lw_privs_4)))
def lw_tbl : List Cond := k2_sels lw_privs ++ tables_1
theorem lw_privs_ok : ∀ q ∈ lw_privs, lw_okq q := by
  show ∀ q ∈ lw_privs_1 ++ (lw_privs_2 ++ (lw_privs_3 ++ (lw_privs_4))), lw_okq q
  exact List.forall_mem_append.mpr ⟨lw_r1, List.forall_mem_append.mpr ⟨lw_r2, List.forall_mem_append.mpr ⟨lw_r3, lw_r4⟩⟩⟩
end
section
/-! classes (index ci), their fields (global field number 64*ci+k), methods (index mi); by program out of the listing -/
def fx_R0 : String := "FlitTorus"
def fx_F0 : u_T := fun k => match k with
  | 0 => ("FlitTorus", "router", "LFlitTorus$Router;", true)
  | 1 => ("FlitTorus", "grid", "LFlitTorus$Grid;", true)
  | 2 => ("FlitTorus", "rank", "LFlitTorus$Rank;", true)
  | 3 => ("FlitTorus", "nodes", "[LFlitTorus$Node;", true)
  | 4 => ("FlitTorus", "nodesMade", "I", false)
  | 5 => ("FlitTorus", "mail", "LFlitTorus$Row;", true)
  | 6 => ("FlitTorus", "sparePackets", "LFlitTorus$Row;", true)
  | 7 => ("FlitTorus", "mode", "I", false)
  | 8 => ("FlitTorus", "patience", "I", false)
  | 9 => ("FlitTorus", "now", "I", false)
  | 10 => ("FlitTorus", "turn", "I", false)
  | 11 => ("FlitTorus", "packets", "I", false)
  | 12 => ("FlitTorus", "flitsInNet", "I", false)
  | 13 => ("FlitTorus", "flitsDeflected", "I", false)
  | 14 => ("FlitTorus", "flitsReceived", "I", false)
  | _ => ("FlitTorus", "packetsAsked", "I", false)
def fx_t0 : Nat → FieldType := fun k => match k with
  | 0 => .object "FlitTorus$Router"
  | 1 => .object "FlitTorus$Grid"
  | 2 => .object "FlitTorus$Rank"
  | 3 => .array (.object "FlitTorus$Node")
  | 4 => .int
  | 5 => .object "FlitTorus$Row"
  | 6 => .object "FlitTorus$Row"
  | 7 => .int
  | 8 => .int
  | 9 => .int
  | 10 => .int
  | 11 => .int
  | 12 => .int
  | 13 => .int
  | 14 => .int
  | _ => .int
def fx_R1 : String := "FlitTorus$Arrival"
def fx_F1 : u_T := fun k => match k with
  | 0 => ("FlitTorus$Arrival", "source", "I", false)
  | 1 => ("FlitTorus$Arrival", "length", "I", false)
  | 2 => ("FlitTorus$Arrival", "attempt", "I", false)
  | _ => ("FlitTorus$Arrival", "tag", "I", false)
def fx_t1 : Nat → FieldType := fun k => match k with
  | 0 => .int
  | 1 => .int
  | 2 => .int
  | _ => .int
def fx_R2 : String := "FlitTorus$Flit"
def fx_F2 : u_T := fun k => match k with
  | 0 => ("FlitTorus$Flit", "packet", "LFlitTorus$Packet;", true)
  | 1 => ("FlitTorus$Flit", "number", "I", true)
  | 2 => ("FlitTorus$Flit", "entry", "I", false)
  | _ => ("FlitTorus$Flit", "attempt", "I", false)
def fx_t2 : Nat → FieldType := fun k => match k with
  | 0 => .object "FlitTorus$Packet"
  | 1 => .int
  | 2 => .int
  | _ => .int
def fx_R3 : String := "FlitTorus$Grid"
def fx_F3 : u_T := fun k => match k with
  | 0 => ("FlitTorus$Grid", "size", "I", false)
  | 1 => ("FlitTorus$Grid", "besides", "[I", true)
  | 2 => ("FlitTorus$Grid", "opens", "[Z", true)
  | 3 => ("FlitTorus$Grid", "stepsTo", "[I", true)
  | 4 => ("FlitTorus$Grid", "isCounted", "[Z", true)
  | 5 => ("FlitTorus$Grid", "reached", "[I", true)
  | _ => ("FlitTorus$Grid", "greatest", "I", false)
def fx_t3 : Nat → FieldType := fun k => match k with
  | 0 => .int
  | 1 => .array .int
  | 2 => .array .boolean
  | 3 => .array .int
  | 4 => .array .boolean
  | 5 => .array .int
  | _ => .int
def fx_R4 : String := "FlitTorus$Node"
def fx_F4 : u_T := fun k => match k with
  | 0 => ("FlitTorus$Node", "number", "I", true)
  | 1 => ("FlitTorus$Node", "sender", "LFlitTorus$Sender;", true)
  | 2 => ("FlitTorus$Node", "receiver", "LFlitTorus$Receiver;", true)
  | 3 => ("FlitTorus$Node", "here", "[LFlitTorus$Flit;", false)
  | 4 => ("FlitTorus$Node", "coming", "[LFlitTorus$Flit;", false)
  | _ => ("FlitTorus$Node", "wentOut", "I", false)
def fx_t4 : Nat → FieldType := fun k => match k with
  | 0 => .int
  | 1 => .object "FlitTorus$Sender"
  | 2 => .object "FlitTorus$Receiver"
  | 3 => .array (.object "FlitTorus$Flit")
  | 4 => .array (.object "FlitTorus$Flit")
  | _ => .int
def fx_R5 : String := "FlitTorus$Packet"
def fx_F5 : u_T := fun k => match k with
  | 0 => ("FlitTorus$Packet", "source", "I", false)
  | 1 => ("FlitTorus$Packet", "goal", "I", false)
  | 2 => ("FlitTorus$Packet", "length", "I", false)
  | 3 => ("FlitTorus$Packet", "tag", "I", false)
  | 4 => ("FlitTorus$Packet", "slot", "I", false)
  | 5 => ("FlitTorus$Packet", "attempt", "I", false)
  | 6 => ("FlitTorus$Packet", "entered", "I", false)
  | 7 => ("FlitTorus$Packet", "flitsInNet", "I", false)
  | 8 => ("FlitTorus$Packet", "wasAsked", "Z", false)
  | 9 => ("FlitTorus$Packet", "noteIsDone", "Z", false)
  | 10 => ("FlitTorus$Packet", "noteDue", "I", false)
  | 11 => ("FlitTorus$Packet", "next", "LFlitTorus$Packet;", false)
  | _ => ("FlitTorus$Packet", "flits", "[LFlitTorus$Flit;", true)
def fx_t5 : Nat → FieldType := fun k => match k with
  | 0 => .int
  | 1 => .int
  | 2 => .int
  | 3 => .int
  | 4 => .int
  | 5 => .int
  | 6 => .int
  | 7 => .int
  | 8 => .boolean
  | 9 => .boolean
  | 10 => .int
  | 11 => .object "FlitTorus$Packet"
  | _ => .array (.object "FlitTorus$Flit")
def fx_R6 : String := "FlitTorus$Place"
def fx_F6 : u_T := fun k => match k with
  | 0 => ("FlitTorus$Place", "packet", "LFlitTorus$Packet;", false)
  | 1 => ("FlitTorus$Place", "attempt", "I", false)
  | _ => ("FlitTorus$Place", "joined", "I", false)
def fx_t6 : Nat → FieldType := fun k => match k with
  | 0 => .object "FlitTorus$Packet"
  | 1 => .int
  | _ => .int
def fx_R7 : String := "FlitTorus$Rank"
def fx_F7 : u_T := fun k => match k with
  | 0 => ("FlitTorus$Rank", "goldenSource", "I", false)
  | 1 => ("FlitTorus$Rank", "goldenSlot", "I", false)
  | _ => ("FlitTorus$Rank", "goldenNumber", "I", false)
def fx_t7 : Nat → FieldType := fun k => match k with
  | 0 => .int
  | 1 => .int
  | _ => .int
def fx_R8 : String := "FlitTorus$Receiver"
def fx_F8 : u_T := fun k => match k with
  | 0 => ("FlitTorus$Receiver", "asked", "LFlitTorus$Row;", true)
  | 1 => ("FlitTorus$Receiver", "readyCount", "I", false)
  | 2 => ("FlitTorus$Receiver", "last", "LFlitTorus$Arrival;", false)
  | 3 => ("FlitTorus$Receiver", "hasHandedOver", "Z", false)
  | 4 => ("FlitTorus$Receiver", "places", "[LFlitTorus$Place;", true)
  | _ => ("FlitTorus$Receiver", "ready", "[LFlitTorus$Arrival;", true)
def fx_t8 : Nat → FieldType := fun k => match k with
  | 0 => .object "FlitTorus$Row"
  | 1 => .int
  | 2 => .object "FlitTorus$Arrival"
  | 3 => .boolean
  | 4 => .array (.object "FlitTorus$Place")
  | _ => .array (.object "FlitTorus$Arrival")
def fx_R9 : String := "FlitTorus$Router"
def fx_F9 : u_T := fun k => match k with
  | 0 => ("FlitTorus$Router", "out", "[LFlitTorus$Flit;", true)
  | 1 => ("FlitTorus$Router", "grid", "LFlitTorus$Grid;", true)
  | 2 => ("FlitTorus$Router", "rank", "LFlitTorus$Rank;", true)
  | 3 => ("FlitTorus$Router", "ranked", "[LFlitTorus$Flit;", true)
  | _ => ("FlitTorus$Router", "middle", "[LFlitTorus$Flit;", true)
def fx_t9 : Nat → FieldType := fun k => match k with
  | 0 => .array (.object "FlitTorus$Flit")
  | 1 => .object "FlitTorus$Grid"
  | 2 => .object "FlitTorus$Rank"
  | 3 => .array (.object "FlitTorus$Flit")
  | _ => .array (.object "FlitTorus$Flit")
def fx_R10 : String := "FlitTorus$Row"
def fx_F10 : u_T := fun k => match k with
  | 0 => ("FlitTorus$Row", "first", "LFlitTorus$Packet;", false)
  | 1 => ("FlitTorus$Row", "size", "I", false)
  | _ => ("FlitTorus$Row", "last", "LFlitTorus$Packet;", false)
def fx_t10 : Nat → FieldType := fun k => match k with
  | 0 => .object "FlitTorus$Packet"
  | 1 => .int
  | _ => .object "FlitTorus$Packet"
def fx_R11 : String := "FlitTorus$Sender"
def fx_F11 : u_T := fun k => match k with
  | 0 => ("FlitTorus$Sender", "waiting", "LFlitTorus$Row;", true)
  | 1 => ("FlitTorus$Sender", "again", "LFlitTorus$Row;", true)
  | 2 => ("FlitTorus$Sender", "slotsUsed", "I", false)
  | 3 => ("FlitTorus$Sender", "hungryCycles", "I", false)
  | 4 => ("FlitTorus$Sender", "slots", "[LFlitTorus$Packet;", true)
  | _ => ("FlitTorus$Sender", "underWay", "LFlitTorus$Packet;", false)
def fx_t11 : Nat → FieldType := fun k => match k with
  | 0 => .object "FlitTorus$Row"
  | 1 => .object "FlitTorus$Row"
  | 2 => .int
  | 3 => .int
  | 4 => .array (.object "FlitTorus$Packet")
  | _ => .object "FlitTorus$Packet"
def fx_R12 : String := "FlitTorusModel"
def fx_F12 : u_T := fun k => match k with
  | 0 => ("FlitTorusModel", "thrown", "I", false)
  | 1 => ("FlitTorusModel", "n", "I", false)
  | 2 => ("FlitTorusModel", "all", "I", false)
  | 3 => ("FlitTorusModel", "mode", "I", false)
  | 4 => ("FlitTorusModel", "patience", "I", false)
  | 5 => ("FlitTorusModel", "cycle", "I", false)
  | 6 => ("FlitTorusModel", "turn", "I", false)
  | 7 => ("FlitTorusModel", "closed", "[Z", true)
  | 8 => ("FlitTorusModel", "away", "[I", true)
  | 9 => ("FlitTorusModel", "farthest", "I", false)
  | 10 => ("FlitTorusModel", "flits", "I", false)
  | 11 => ("FlitTorusModel", "at", "[I", true)
  | 12 => ("FlitTorusModel", "line", "[I", true)
  | 13 => ("FlitTorusModel", "source", "[I", true)
  | 14 => ("FlitTorusModel", "slot", "[I", true)
  | 15 => ("FlitTorusModel", "number", "[I", true)
  | 16 => ("FlitTorusModel", "entry", "[I", true)
  | 17 => ("FlitTorusModel", "tries", "[I", true)
  | 18 => ("FlitTorusModel", "way", "[I", true)
  | 19 => ("FlitTorusModel", "waits", "[I", true)
  | 20 => ("FlitTorusModel", "waitGoal", "[I", true)
  | 21 => ("FlitTorusModel", "waitLength", "[I", true)
  | 22 => ("FlitTorusModel", "waitTag", "[I", true)
  | 23 => ("FlitTorusModel", "goals", "[I", true)
  | 24 => ("FlitTorusModel", "lengths", "[I", true)
  | 25 => ("FlitTorusModel", "tags", "[I", true)
  | 26 => ("FlitTorusModel", "slotTry", "[I", true)
  | 27 => ("FlitTorusModel", "entered", "[I", true)
  | 28 => ("FlitTorusModel", "asked", "[Z", true)
  | 29 => ("FlitTorusModel", "agains", "[I", true)
  | 30 => ("FlitTorusModel", "again", "[I", true)
  | 31 => ("FlitTorusModel", "whose", "[I", true)
  | 32 => ("FlitTorusModel", "whichTry", "[I", true)
  | 33 => ("FlitTorusModel", "has", "[I", true)
  | 34 => ("FlitTorusModel", "rowSize", "[I", true)
  | 35 => ("FlitTorusModel", "row", "[I", true)
  | 36 => ("FlitTorusModel", "readySize", "[I", true)
  | 37 => ("FlitTorusModel", "readyTag", "[I", true)
  | 38 => ("FlitTorusModel", "readySource", "[I", true)
  | 39 => ("FlitTorusModel", "readyLength", "[I", true)
  | 40 => ("FlitTorusModel", "readyTry", "[I", true)
  | 41 => ("FlitTorusModel", "taken", "[I", true)
  | 42 => ("FlitTorusModel", "notes", "I", false)
  | 43 => ("FlitTorusModel", "noteSlot", "[I", true)
  | 44 => ("FlitTorusModel", "noteDone", "[Z", true)
  | 45 => ("FlitTorusModel", "noteDue", "[I", true)
  | 46 => ("FlitTorusModel", "hungry", "[I", true)
  | 47 => ("FlitTorusModel", "went", "[I", true)
  | 48 => ("FlitTorusModel", "deflected", "I", false)
  | 49 => ("FlitTorusModel", "received", "I", false)
  | _ => ("FlitTorusModel", "lost", "I", false)
def fx_t12 : Nat → FieldType := fun k => match k with
  | 0 => .int
  | 1 => .int
  | 2 => .int
  | 3 => .int
  | 4 => .int
  | 5 => .int
  | 6 => .int
  | 7 => .array .boolean
  | 8 => .array .int
  | 9 => .int
  | 10 => .int
  | 11 => .array .int
  | 12 => .array .int
  | 13 => .array .int
  | 14 => .array .int
  | 15 => .array .int
  | 16 => .array .int
  | 17 => .array .int
  | 18 => .array .int
  | 19 => .array .int
  | 20 => .array .int
  | 21 => .array .int
  | 22 => .array .int
  | 23 => .array .int
  | 24 => .array .int
  | 25 => .array .int
  | 26 => .array .int
  | 27 => .array .int
  | 28 => .array .boolean
  | 29 => .array .int
  | 30 => .array .int
  | 31 => .array .int
  | 32 => .array .int
  | 33 => .array .int
  | 34 => .array .int
  | 35 => .array .int
  | 36 => .array .int
  | 37 => .array .int
  | 38 => .array .int
  | 39 => .array .int
  | 40 => .array .int
  | 41 => .array .int
  | 42 => .int
  | 43 => .array .int
  | 44 => .array .boolean
  | 45 => .array .int
  | 46 => .array .int
  | 47 => .array .int
  | 48 => .int
  | 49 => .int
  | _ => .int
abbrev fx_cl : List vw_C := [(fx_R0, fx_F0, 16), (fx_R1, fx_F1, 4), (fx_R2, fx_F2, 4), (fx_R3, fx_F3, 7), (fx_R4, fx_F4, 6), (fx_R5, fx_F5, 13), (fx_R6, fx_F6, 3), (fx_R7, fx_F7, 3), (fx_R8, fx_F8, 6), (fx_R9, fx_F9, 5), (fx_R10, fx_F10, 3), (fx_R11, fx_F11, 6), (fx_R12, fx_F12, 51)]
/-- the kind of a field: 0 int, 1 boolean, else the tag of the reference -/
def fx_ftL : List (List Nat) := [[19, 13, 17, 44, 0, 20, 20, 0, 0, 0, 0, 0, 0, 0, 0, 0], [0, 0, 0, 0], [15, 0, 0, 0], [0, 70, 71, 70, 71, 70, 0], [0, 21, 18, 42, 42, 0], [0, 0, 0, 0, 0, 0, 0, 0, 1, 1, 0, 15, 42], [15, 0, 0], [0, 0, 0], [20, 0, 11, 1, 46, 41], [42, 13, 17, 42, 42], [15, 0, 15], [20, 20, 0, 0, 45, 15], [0, 0, 0, 0, 0, 0, 0, 71, 70, 0, 0, 70, 70, 70, 70, 70, 70, 70, 70, 70, 70, 70, 70, 70, 70, 70, 70, 70, 71, 70, 70, 70, 70, 70, 70, 70, 70, 70, 70, 70, 70, 70, 0, 70, 71, 70, 70, 70, 0, 0, 0]]
def fx_ft (f : Nat) : Nat := (fx_ftL.getD (f / 64) []).getD (f % 64) 0
abbrev ff_Torus_router : Nat := 0
abbrev ff_Torus_grid : Nat := 1
abbrev ff_Torus_rank : Nat := 2
abbrev ff_Torus_nodes : Nat := 3
abbrev ff_Torus_nodesMade : Nat := 4
abbrev ff_Torus_mail : Nat := 5
abbrev ff_Torus_sparePackets : Nat := 6
abbrev ff_Torus_mode : Nat := 7
abbrev ff_Torus_patience : Nat := 8
abbrev ff_Torus_now : Nat := 9
abbrev ff_Torus_turn : Nat := 10
abbrev ff_Torus_packets : Nat := 11
abbrev ff_Torus_flitsInNet : Nat := 12
abbrev ff_Torus_flitsDeflected : Nat := 13
abbrev ff_Torus_flitsReceived : Nat := 14
abbrev ff_Torus_packetsAsked : Nat := 15
abbrev ff_Arrival_source : Nat := 64
abbrev ff_Arrival_length : Nat := 65
abbrev ff_Arrival_attempt : Nat := 66
abbrev ff_Arrival_tag : Nat := 67
abbrev ff_Flit_packet : Nat := 128
abbrev ff_Flit_number : Nat := 129
abbrev ff_Flit_entry : Nat := 130
abbrev ff_Flit_attempt : Nat := 131
abbrev ff_Grid_size : Nat := 192
abbrev ff_Grid_besides : Nat := 193
abbrev ff_Grid_opens : Nat := 194
abbrev ff_Grid_stepsTo : Nat := 195
abbrev ff_Grid_isCounted : Nat := 196
abbrev ff_Grid_reached : Nat := 197
abbrev ff_Grid_greatest : Nat := 198
abbrev ff_Node_number : Nat := 256
abbrev ff_Node_sender : Nat := 257
abbrev ff_Node_receiver : Nat := 258
abbrev ff_Node_here : Nat := 259
abbrev ff_Node_coming : Nat := 260
abbrev ff_Node_wentOut : Nat := 261
abbrev ff_Packet_source : Nat := 320
abbrev ff_Packet_goal : Nat := 321
abbrev ff_Packet_length : Nat := 322
abbrev ff_Packet_tag : Nat := 323
abbrev ff_Packet_slot : Nat := 324
abbrev ff_Packet_attempt : Nat := 325
abbrev ff_Packet_entered : Nat := 326
abbrev ff_Packet_flitsInNet : Nat := 327
abbrev ff_Packet_wasAsked : Nat := 328
abbrev ff_Packet_noteIsDone : Nat := 329
abbrev ff_Packet_noteDue : Nat := 330
abbrev ff_Packet_next : Nat := 331
abbrev ff_Packet_flits : Nat := 332
abbrev ff_Place_packet : Nat := 384
abbrev ff_Place_attempt : Nat := 385
abbrev ff_Place_joined : Nat := 386
abbrev ff_Rank_goldenSource : Nat := 448
abbrev ff_Rank_goldenSlot : Nat := 449
abbrev ff_Rank_goldenNumber : Nat := 450
abbrev ff_Receiver_asked : Nat := 512
abbrev ff_Receiver_readyCount : Nat := 513
abbrev ff_Receiver_last : Nat := 514
abbrev ff_Receiver_hasHandedOver : Nat := 515
abbrev ff_Receiver_places : Nat := 516
abbrev ff_Receiver_ready : Nat := 517
abbrev ff_Router_out : Nat := 576
abbrev ff_Router_grid : Nat := 577
abbrev ff_Router_rank : Nat := 578
abbrev ff_Router_ranked : Nat := 579
abbrev ff_Router_middle : Nat := 580
abbrev ff_Row_first : Nat := 640
abbrev ff_Row_size : Nat := 641
abbrev ff_Row_last : Nat := 642
abbrev ff_Sender_waiting : Nat := 704
abbrev ff_Sender_again : Nat := 705
abbrev ff_Sender_slotsUsed : Nat := 706
abbrev ff_Sender_hungryCycles : Nat := 707
abbrev ff_Sender_slots : Nat := 708
abbrev ff_Sender_underWay : Nat := 709
abbrev ff_Mod_thrown : Nat := 768
abbrev ff_Mod_n : Nat := 769
abbrev ff_Mod_all : Nat := 770
abbrev ff_Mod_mode : Nat := 771
abbrev ff_Mod_patience : Nat := 772
abbrev ff_Mod_cycle : Nat := 773
abbrev ff_Mod_turn : Nat := 774
abbrev ff_Mod_closed : Nat := 775
abbrev ff_Mod_away : Nat := 776
abbrev ff_Mod_farthest : Nat := 777
abbrev ff_Mod_flits : Nat := 778
abbrev ff_Mod_at : Nat := 779
abbrev ff_Mod_line : Nat := 780
abbrev ff_Mod_source : Nat := 781
abbrev ff_Mod_slot : Nat := 782
abbrev ff_Mod_number : Nat := 783
abbrev ff_Mod_entry : Nat := 784
abbrev ff_Mod_tries : Nat := 785
abbrev ff_Mod_way : Nat := 786
abbrev ff_Mod_waits : Nat := 787
abbrev ff_Mod_waitGoal : Nat := 788
abbrev ff_Mod_waitLength : Nat := 789
abbrev ff_Mod_waitTag : Nat := 790
abbrev ff_Mod_goals : Nat := 791
abbrev ff_Mod_lengths : Nat := 792
abbrev ff_Mod_tags : Nat := 793
abbrev ff_Mod_slotTry : Nat := 794
abbrev ff_Mod_entered : Nat := 795
abbrev ff_Mod_asked : Nat := 796
abbrev ff_Mod_agains : Nat := 797
abbrev ff_Mod_again : Nat := 798
abbrev ff_Mod_whose : Nat := 799
abbrev ff_Mod_whichTry : Nat := 800
abbrev ff_Mod_has : Nat := 801
abbrev ff_Mod_rowSize : Nat := 802
abbrev ff_Mod_row : Nat := 803
abbrev ff_Mod_readySize : Nat := 804
abbrev ff_Mod_readyTag : Nat := 805
abbrev ff_Mod_readySource : Nat := 806
abbrev ff_Mod_readyLength : Nat := 807
abbrev ff_Mod_readyTry : Nat := 808
abbrev ff_Mod_taken : Nat := 809
abbrev ff_Mod_notes : Nat := 810
abbrev ff_Mod_noteSlot : Nat := 811
abbrev ff_Mod_noteDone : Nat := 812
abbrev ff_Mod_noteDue : Nat := 813
abbrev ff_Mod_hungry : Nat := 814
abbrev ff_Mod_went : Nat := 815
abbrev ff_Mod_deflected : Nat := 816
abbrev ff_Mod_received : Nat := 817
abbrev ff_Mod_lost : Nat := 818
abbrev fx_MI : Type := MethodName × ByteArray × Nat × Option FieldType × Nat × Nat × Nat × Nat
/-- name, code, locals, result, kind of the result (0 none, 1 int, 2 boolean, 3 reference), rank, words of stack, class (99: none of ours) -/
abbrev mm_Torus_count : Nat := 0
def fx_y0 : MethodName := ⟨"FlitTorus", "count", "(I)I"⟩
def fx_m0 : fx_MI := (fx_y0, prog_1_method_8_code, 2, (Option.some Jvm.ClassFile.FieldType.int), 1, 0, 0, 0)
abbrev mm_Torus_firstStarved : Nat := 1
def fx_y1 : MethodName := ⟨"FlitTorus", "firstStarved", "()I"⟩
def fx_m1 : fx_MI := (fx_y1, prog_1_method_22_code, 3, (Option.some Jvm.ClassFile.FieldType.int), 1, 0, 0, 0)
abbrev mm_Grid_beside : Nat := 2
def fx_y2 : MethodName := ⟨"FlitTorus$Grid", "beside", "(II)I"⟩
def fx_m2 : fx_MI := (fx_y2, prog_4_method_4_code, 3, (Option.some Jvm.ClassFile.FieldType.int), 1, 0, 0, 3)
abbrev mm_Grid_countStepsTo : Nat := 3
def fx_y3 : MethodName := ⟨"FlitTorus$Grid", "countStepsTo", "(I)V"⟩
def fx_m3 : fx_MI := (fx_y3, prog_4_method_13_code, 8, (Option.none : Option Jvm.ClassFile.FieldType), 0, 0, 0, 3)
abbrev mm_Grid_forgetSteps : Nat := 4
def fx_y4 : MethodName := ⟨"FlitTorus$Grid", "forgetSteps", "()V"⟩
def fx_m4 : fx_MI := (fx_y4, prog_4_method_12_code, 2, (Option.none : Option Jvm.ClassFile.FieldType), 0, 0, 0, 3)
abbrev mm_Grid_hasNode : Nat := 5
def fx_y5 : MethodName := ⟨"FlitTorus$Grid", "hasNode", "(I)Z"⟩
def fx_m5 : fx_MI := (fx_y5, prog_4_method_3_code, 2, (Option.some Jvm.ClassFile.FieldType.boolean), 2, 0, 0, 3)
abbrev mm_Grid_isOpen : Nat := 6
def fx_y6 : MethodName := ⟨"FlitTorus$Grid", "isOpen", "(II)Z"⟩
def fx_m6 : fx_MI := (fx_y6, prog_4_method_5_code, 3, (Option.some Jvm.ClassFile.FieldType.boolean), 2, 0, 0, 3)
abbrev mm_Grid_wayBack : Nat := 7
def fx_y7 : MethodName := ⟨"FlitTorus$Grid", "wayBack", "(I)I"⟩
def fx_m7 : fx_MI := (fx_y7, prog_4_method_14_code, 1, (Option.some Jvm.ClassFile.FieldType.int), 1, 0, 0, 3)
abbrev mm_Node_add : Nat := 8
def fx_y8 : MethodName := ⟨"FlitTorus$Node", "add", "(LFlitTorus$Flit;)V"⟩
def fx_m8 : fx_MI := (fx_y8, prog_5_method_4_code, 3, (Option.none : Option Jvm.ClassFile.FieldType), 0, 0, 0, 4)
abbrev mm_Node_arrive : Nat := 9
def fx_y9 : MethodName := ⟨"FlitTorus$Node", "arrive", "()V"⟩
def fx_m9 : fx_MI := (fx_y9, prog_5_method_5_code, 3, (Option.none : Option Jvm.ClassFile.FieldType), 0, 0, 0, 4)
abbrev mm_Node_flitsHere : Nat := 10
def fx_y10 : MethodName := ⟨"FlitTorus$Node", "flitsHere", "()I"⟩
def fx_m10 : fx_MI := (fx_y10, prog_5_method_3_code, 3, (Option.some Jvm.ClassFile.FieldType.int), 1, 0, 0, 4)
abbrev mm_Place_clear : Nat := 11
def fx_y11 : MethodName := ⟨"FlitTorus$Place", "clear", "()V"⟩
def fx_m11 : fx_MI := (fx_y11, prog_7_method_4_code, 1, (Option.none : Option Jvm.ClassFile.FieldType), 0, 0, 0, 6)
abbrev mm_Place_isFull : Nat := 12
def fx_y12 : MethodName := ⟨"FlitTorus$Place", "isFull", "()Z"⟩
def fx_m12 : fx_MI := (fx_y12, prog_7_method_3_code, 1, (Option.some Jvm.ClassFile.FieldType.boolean), 2, 0, 0, 6)
abbrev mm_Place_keepFor : Nat := 13
def fx_y13 : MethodName := ⟨"FlitTorus$Place", "keepFor", "(LFlitTorus$Packet;I)V"⟩
def fx_m13 : fx_MI := (fx_y13, prog_7_method_2_code, 3, (Option.none : Option Jvm.ClassFile.FieldType), 0, 0, 0, 6)
abbrev mm_Rank_isGolden : Nat := 14
def fx_y14 : MethodName := ⟨"FlitTorus$Rank", "isGolden", "(LFlitTorus$Flit;)Z"⟩
def fx_m14 : fx_MI := (fx_y14, prog_8_method_6_code, 2, (Option.some Jvm.ClassFile.FieldType.boolean), 2, 0, 0, 7)
abbrev mm_Rank_makeGolden : Nat := 15
def fx_y15 : MethodName := ⟨"FlitTorus$Rank", "makeGolden", "(I)V"⟩
def fx_m15 : fx_MI := (fx_y15, prog_8_method_2_code, 2, (Option.none : Option Jvm.ClassFile.FieldType), 0, 0, 0, 7)
abbrev mm_Receiver_handOver : Nat := 16
def fx_y16 : MethodName := ⟨"FlitTorus$Receiver", "handOver", "()I"⟩
def fx_m16 : fx_MI := (fx_y16, prog_9_method_7_code, 3, (Option.some Jvm.ClassFile.FieldType.int), 1, 0, 0, 8)
abbrev mm_Receiver_makeReady : Nat := 17
def fx_y17 : MethodName := ⟨"FlitTorus$Receiver", "makeReady", "(LFlitTorus$Packet;I)V"⟩
def fx_m17 : fx_MI := (fx_y17, prog_9_method_6_code, 4, (Option.none : Option Jvm.ClassFile.FieldType), 0, 0, 0, 8)
abbrev mm_Receiver_placesUsed : Nat := 18
def fx_y18 : MethodName := ⟨"FlitTorus$Receiver", "placesUsed", "()I"⟩
def fx_m18 : fx_MI := (fx_y18, prog_9_method_5_code, 3, (Option.some Jvm.ClassFile.FieldType.int), 1, 0, 0, 8)
abbrev mm_Row_append : Nat := 19
def fx_y19 : MethodName := ⟨"FlitTorus$Row", "append", "(LFlitTorus$Packet;)V"⟩
def fx_m19 : fx_MI := (fx_y19, prog_11_method_2_code, 2, (Option.none : Option Jvm.ClassFile.FieldType), 0, 0, 0, 10)
abbrev mm_Row_clear : Nat := 20
def fx_y20 : MethodName := ⟨"FlitTorus$Row", "clear", "()V"⟩
def fx_m20 : fx_MI := (fx_y20, prog_11_method_4_code, 1, (Option.none : Option Jvm.ClassFile.FieldType), 0, 0, 0, 10)
abbrev mm_Row_removeFirst : Nat := 21
def fx_y21 : MethodName := ⟨"FlitTorus$Row", "removeFirst", "()LFlitTorus$Packet;"⟩
def fx_m21 : fx_MI := (fx_y21, prog_11_method_3_code, 2, (Option.some (Jvm.ClassFile.FieldType.object "FlitTorus$Packet")), 3, 0, 0, 10)
abbrev mm_Sender_free : Nat := 22
def fx_y22 : MethodName := ⟨"FlitTorus$Sender", "free", "(LFlitTorus$Packet;)V"⟩
def fx_m22 : fx_MI := (fx_y22, prog_12_method_5_code, 2, (Option.none : Option Jvm.ClassFile.FieldType), 0, 0, 0, 11)
abbrev mm_Sender_nextToEnter : Nat := 23
def fx_y23 : MethodName := ⟨"FlitTorus$Sender", "nextToEnter", "()LFlitTorus$Packet;"⟩
def fx_m23 : fx_MI := (fx_y23, prog_12_method_3_code, 1, (Option.some (Jvm.ClassFile.FieldType.object "FlitTorus$Packet")), 3, 0, 0, 11)
abbrev mm_Sender_occupySlot : Nat := 24
def fx_y24 : MethodName := ⟨"FlitTorus$Sender", "occupySlot", "(LFlitTorus$Packet;)V"⟩
def fx_m24 : fx_MI := (fx_y24, prog_12_method_7_code, 3, (Option.none : Option Jvm.ClassFile.FieldType), 0, 0, 0, 11)
abbrev mm_Mod_count : Nat := 25
def fx_y25 : MethodName := ⟨"FlitTorusModel", "count", "(I)I"⟩
def fx_m25 : fx_MI := (fx_y25, prog_14_method_45_code, 2, (Option.some Jvm.ClassFile.FieldType.int), 1, 0, 0, 12)
abbrev mm_Mod_emptyPlace : Nat := 26
def fx_y26 : MethodName := ⟨"FlitTorusModel", "emptyPlace", "(I)I"⟩
def fx_m26 : fx_MI := (fx_y26, prog_14_method_21_code, 3, (Option.some Jvm.ClassFile.FieldType.int), 1, 0, 0, 12)
abbrev mm_Mod_favoured : Nat := 27
def fx_y27 : MethodName := ⟨"FlitTorusModel", "favoured", "()I"⟩
def fx_m27 : fx_MI := (fx_y27, prog_14_method_32_code, 3, (Option.some Jvm.ClassFile.FieldType.int), 1, 0, 0, 12)
abbrev mm_Mod_flitsAt : Nat := 28
def fx_y28 : MethodName := ⟨"FlitTorusModel", "flitsAt", "(I)I"⟩
def fx_m28 : fx_MI := (fx_y28, prog_14_method_25_code, 4, (Option.some Jvm.ClassFile.FieldType.int), 1, 0, 0, 12)
abbrev mm_Mod_freeLine : Nat := 29
def fx_y29 : MethodName := ⟨"FlitTorusModel", "freeLine", "(I)I"⟩
def fx_m29 : fx_MI := (fx_y29, prog_14_method_30_code, 5, (Option.some Jvm.ClassFile.FieldType.int), 1, 0, 0, 12)
abbrev mm_Mod_freeSlot : Nat := 30
def fx_y30 : MethodName := ⟨"FlitTorusModel", "freeSlot", "(I)I"⟩
def fx_m30 : fx_MI := (fx_y30, prog_14_method_27_code, 3, (Option.some Jvm.ClassFile.FieldType.int), 1, 0, 0, 12)
abbrev mm_Mod_goalOf : Nat := 31
def fx_y31 : MethodName := ⟨"FlitTorusModel", "goalOf", "(I)I"⟩
def fx_m31 : fx_MI := (fx_y31, prog_14_method_16_code, 2, (Option.some Jvm.ClassFile.FieldType.int), 1, 0, 0, 12)
abbrev mm_Mod_goldenNow : Nat := 32
def fx_y32 : MethodName := ⟨"FlitTorusModel", "goldenNow", "()I"⟩
def fx_m32 : fx_MI := (fx_y32, prog_14_method_13_code, 1, (Option.some Jvm.ClassFile.FieldType.int), 1, 0, 0, 12)
abbrev mm_Mod_isGiven : Nat := 33
def fx_y33 : MethodName := ⟨"FlitTorusModel", "isGiven", "(II)Z"⟩
def fx_m33 : fx_MI := (fx_y33, prog_14_method_35_code, 4, (Option.some Jvm.ClassFile.FieldType.boolean), 2, 0, 0, 12)
abbrev mm_Mod_isNode : Nat := 34
def fx_y34 : MethodName := ⟨"FlitTorusModel", "isNode", "(I)Z"⟩
def fx_m34 : fx_MI := (fx_y34, prog_14_method_5_code, 2, (Option.some Jvm.ClassFile.FieldType.boolean), 2, 0, 0, 12)
abbrev mm_Mod_isOut : Nat := 35
def fx_y35 : MethodName := ⟨"FlitTorusModel", "isOut", "(I)Z"⟩
def fx_m35 : fx_MI := (fx_y35, prog_14_method_26_code, 3, (Option.some Jvm.ClassFile.FieldType.boolean), 2, 0, 0, 12)
abbrev mm_Mod_lower : Nat := 36
def fx_y36 : MethodName := ⟨"FlitTorusModel", "lower", "(III)I"⟩
def fx_m36 : fx_MI := (fx_y36, prog_14_method_40_code, 3, (Option.some Jvm.ClassFile.FieldType.int), 1, 0, 0, 12)
abbrev mm_Mod_neighbour : Nat := 37
def fx_y37 : MethodName := ⟨"FlitTorusModel", "neighbour", "(II)I"⟩
def fx_m37 : fx_MI := (fx_y37, prog_14_method_6_code, 5, (Option.some Jvm.ClassFile.FieldType.int), 1, 0, 0, 12)
abbrev mm_Mod_note : Nat := 38
def fx_y38 : MethodName := ⟨"FlitTorusModel", "note", "(IIZ)V"⟩
def fx_m38 : fx_MI := (fx_y38, prog_14_method_18_code, 4, (Option.none : Option Jvm.ClassFile.FieldType), 0, 0, 0, 12)
abbrev mm_Mod_onLine : Nat := 39
def fx_y39 : MethodName := ⟨"FlitTorusModel", "onLine", "(II)I"⟩
def fx_m39 : fx_MI := (fx_y39, prog_14_method_38_code, 4, (Option.some Jvm.ClassFile.FieldType.int), 1, 0, 0, 12)
abbrev mm_Mod_openWays : Nat := 40
def fx_y40 : MethodName := ⟨"FlitTorusModel", "openWays", "(I)I"⟩
def fx_m40 : fx_MI := (fx_y40, prog_14_method_7_code, 4, (Option.some Jvm.ClassFile.FieldType.int), 1, 0, 0, 12)
abbrev mm_Mod_placeOf : Nat := 41
def fx_y41 : MethodName := ⟨"FlitTorusModel", "placeOf", "(III)I"⟩
def fx_m41 : fx_MI := (fx_y41, prog_14_method_20_code, 5, (Option.some Jvm.ClassFile.FieldType.int), 1, 0, 0, 12)
abbrev mm_Mod_remove : Nat := 42
def fx_y42 : MethodName := ⟨"FlitTorusModel", "remove", "(I)V"⟩
def fx_m42 : fx_MI := (fx_y42, prog_14_method_17_code, 2, (Option.none : Option Jvm.ClassFile.FieldType), 0, 0, 0, 12)
abbrev mm_Mod_tellNotes : Nat := 43
def fx_y43 : MethodName := ⟨"FlitTorusModel", "tellNotes", "()V"⟩
def fx_m43 : fx_MI := (fx_y43, prog_14_method_19_code, 5, (Option.none : Option Jvm.ClassFile.FieldType), 0, 0, 0, 12)
abbrev mm_Mod_thrown : Nat := 44
def fx_y44 : MethodName := ⟨"FlitTorusModel", "thrown", "()I"⟩
def fx_m44 : fx_MI := (fx_y44, prog_14_method_2_code, 1, (Option.some Jvm.ClassFile.FieldType.int), 1, 0, 0, 12)
abbrev mm_Mod_underWay : Nat := 45
def fx_y45 : MethodName := ⟨"FlitTorusModel", "underWay", "(I)I"⟩
def fx_m45 : fx_MI := (fx_y45, prog_14_method_28_code, 3, (Option.some Jvm.ClassFile.FieldType.int), 1, 0, 0, 12)
abbrev mm_Mod_usedSlots : Nat := 46
def fx_y46 : MethodName := ⟨"FlitTorusModel", "usedSlots", "(I)I"⟩
def fx_m46 : fx_MI := (fx_y46, prog_14_method_10_code, 4, (Option.some Jvm.ClassFile.FieldType.int), 1, 0, 0, 12)
abbrev mm_Mod_within : Nat := 47
def fx_y47 : MethodName := ⟨"FlitTorusModel", "within", "(III)Z"⟩
def fx_m47 : fx_MI := (fx_y47, prog_14_method_3_code, 3, (Option.some Jvm.ClassFile.FieldType.boolean), 2, 0, 0, 12)
abbrev mm_Torus_flit : Nat := 48
def fx_y48 : MethodName := ⟨"FlitTorus", "flit", "(III)I"⟩
def fx_m48 : fx_MI := (fx_y48, prog_1_method_11_code, 5, (Option.some Jvm.ClassFile.FieldType.int), 1, 1, 35, 0)
abbrev mm_Torus_node : Nat := 49
def fx_y49 : MethodName := ⟨"FlitTorus", "node", "(II)I"⟩
def fx_m49 : fx_MI := (fx_y49, prog_1_method_9_code, 4, (Option.some Jvm.ClassFile.FieldType.int), 1, 1, 35, 0)
abbrev mm_Torus_taken : Nat := 50
def fx_y50 : MethodName := ⟨"FlitTorus", "taken", "(II)I"⟩
def fx_m50 : fx_MI := (fx_y50, prog_1_method_7_code, 4, (Option.some Jvm.ClassFile.FieldType.int), 1, 1, 35, 0)
abbrev mm_Arrival_init : Nat := 51
def fx_y51 : MethodName := ⟨"FlitTorus$Arrival", "<init>", "()V"⟩
def fx_m51 : fx_MI := (fx_y51, prog_2_method_1_code, 1, (Option.none : Option Jvm.ClassFile.FieldType), 0, 1, 35, 1)
abbrev mm_Flit_init : Nat := 52
def fx_y52 : MethodName := ⟨"FlitTorus$Flit", "<init>", "(LFlitTorus$Packet;I)V"⟩
def fx_m52 : fx_MI := (fx_y52, prog_3_method_1_code, 3, (Option.none : Option Jvm.ClassFile.FieldType), 0, 1, 35, 2)
abbrev mm_Grid_init : Nat := 53
def fx_y53 : MethodName := ⟨"FlitTorus$Grid", "<init>", "()V"⟩
def fx_m53 : fx_MI := (fx_y53, prog_4_method_1_code, 1, (Option.none : Option Jvm.ClassFile.FieldType), 0, 1, 35, 3)
abbrev mm_Grid_lay : Nat := 54
def fx_y54 : MethodName := ⟨"FlitTorus$Grid", "lay", "(I)V"⟩
def fx_m54 : fx_MI := (fx_y54, prog_4_method_2_code, 6, (Option.none : Option Jvm.ClassFile.FieldType), 0, 1, 35, 3)
abbrev mm_Grid_openWays : Nat := 55
def fx_y55 : MethodName := ⟨"FlitTorus$Grid", "openWays", "(I)I"⟩
def fx_m55 : fx_MI := (fx_y55, prog_4_method_6_code, 4, (Option.some Jvm.ClassFile.FieldType.int), 1, 1, 35, 3)
abbrev mm_Grid_setOpen : Nat := 56
def fx_y56 : MethodName := ⟨"FlitTorus$Grid", "setOpen", "(IIZ)V"⟩
def fx_m56 : fx_MI := (fx_y56, prog_4_method_7_code, 4, (Option.none : Option Jvm.ClassFile.FieldType), 0, 1, 35, 3)
abbrev mm_Grid_steps : Nat := 57
def fx_y57 : MethodName := ⟨"FlitTorus$Grid", "steps", "(II)I"⟩
def fx_m57 : fx_MI := (fx_y57, prog_4_method_9_code, 3, (Option.some Jvm.ClassFile.FieldType.int), 1, 1, 35, 3)
abbrev mm_Packet_init : Nat := 58
def fx_y58 : MethodName := ⟨"FlitTorus$Packet", "<init>", "()V"⟩
def fx_m58 : fx_MI := (fx_y58, prog_6_method_1_code, 1, (Option.none : Option Jvm.ClassFile.FieldType), 0, 1, 35, 5)
abbrev mm_Place_init : Nat := 59
def fx_y59 : MethodName := ⟨"FlitTorus$Place", "<init>", "()V"⟩
def fx_m59 : fx_MI := (fx_y59, prog_7_method_1_code, 1, (Option.none : Option Jvm.ClassFile.FieldType), 0, 1, 35, 6)
abbrev mm_Rank_init : Nat := 60
def fx_y60 : MethodName := ⟨"FlitTorus$Rank", "<init>", "()V"⟩
def fx_m60 : fx_MI := (fx_y60, prog_8_method_1_code, 1, (Option.none : Option Jvm.ClassFile.FieldType), 0, 1, 35, 7)
abbrev mm_Rank_isHigher : Nat := 61
def fx_y61 : MethodName := ⟨"FlitTorus$Rank", "isHigher", "(LFlitTorus$Flit;LFlitTorus$Flit;)Z"⟩
def fx_m61 : fx_MI := (fx_y61, prog_8_method_4_code, 3, (Option.some Jvm.ClassFile.FieldType.boolean), 2, 1, 35, 7)
abbrev mm_Receiver_clear : Nat := 62
def fx_y62 : MethodName := ⟨"FlitTorus$Receiver", "clear", "()V"⟩
def fx_m62 : fx_MI := (fx_y62, prog_9_method_2_code, 2, (Option.none : Option Jvm.ClassFile.FieldType), 0, 1, 35, 8)
abbrev mm_Receiver_lowestFull : Nat := 63
def fx_y63 : MethodName := ⟨"FlitTorus$Receiver", "lowestFull", "()LFlitTorus$Place;"⟩
def fx_m63 : fx_MI := (fx_y63, prog_9_method_4_code, 2, (Option.some (Jvm.ClassFile.FieldType.object "FlitTorus$Place")), 3, 1, 35, 8)
abbrev mm_Receiver_placeFor : Nat := 64
def fx_y64 : MethodName := ⟨"FlitTorus$Receiver", "placeFor", "(LFlitTorus$Flit;)LFlitTorus$Place;"⟩
def fx_m64 : fx_MI := (fx_y64, prog_9_method_3_code, 3, (Option.some (Jvm.ClassFile.FieldType.object "FlitTorus$Place")), 3, 1, 35, 8)
abbrev mm_Row_init : Nat := 65
def fx_y65 : MethodName := ⟨"FlitTorus$Row", "<init>", "()V"⟩
def fx_m65 : fx_MI := (fx_y65, prog_11_method_1_code, 1, (Option.none : Option Jvm.ClassFile.FieldType), 0, 1, 35, 10)
abbrev mm_Sender_clear : Nat := 66
def fx_y66 : MethodName := ⟨"FlitTorus$Sender", "clear", "(LFlitTorus$Row;)V"⟩
def fx_m66 : fx_MI := (fx_y66, prog_12_method_2_code, 4, (Option.none : Option Jvm.ClassFile.FieldType), 0, 1, 35, 11)
abbrev mm_Sender_goAgain : Nat := 67
def fx_y67 : MethodName := ⟨"FlitTorus$Sender", "goAgain", "(LFlitTorus$Packet;)V"⟩
def fx_m67 : fx_MI := (fx_y67, prog_12_method_6_code, 2, (Option.none : Option Jvm.ClassFile.FieldType), 0, 1, 35, 11)
abbrev mm_Sender_release : Nat := 68
def fx_y68 : MethodName := ⟨"FlitTorus$Sender", "release", "(LFlitTorus$Packet;I)LFlitTorus$Flit;"⟩
def fx_m68 : fx_MI := (fx_y68, prog_12_method_4_code, 4, (Option.some (Jvm.ClassFile.FieldType.object "FlitTorus$Flit")), 3, 1, 35, 11)
abbrev mm_Mod_candidate : Nat := 69
def fx_y69 : MethodName := ⟨"FlitTorusModel", "candidate", "(I)I"⟩
def fx_m69 : fx_MI := (fx_y69, prog_14_method_29_code, 3, (Option.some Jvm.ClassFile.FieldType.int), 1, 1, 35, 12)
abbrev mm_Mod_distance : Nat := 70
def fx_y70 : MethodName := ⟨"FlitTorusModel", "distance", "(II)I"⟩
def fx_m70 : fx_MI := (fx_y70, prog_14_method_49_code, 3, (Option.some Jvm.ClassFile.FieldType.int), 1, 1, 35, 12)
abbrev mm_Mod_enter : Nat := 71
def fx_y71 : MethodName := ⟨"FlitTorusModel", "enter", "(II)V"⟩
def fx_m71 : fx_MI := (fx_y71, prog_14_method_31_code, 5, (Option.none : Option Jvm.ClassFile.FieldType), 0, 1, 35, 12)
abbrev mm_Mod_flit : Nat := 72
def fx_y72 : MethodName := ⟨"FlitTorusModel", "flit", "(III)I"⟩
def fx_m72 : fx_MI := (fx_y72, prog_14_method_48_code, 5, (Option.some Jvm.ClassFile.FieldType.int), 1, 1, 35, 12)
abbrev mm_Mod_golden : Nat := 73
def fx_y73 : MethodName := ⟨"FlitTorusModel", "golden", "(I)I"⟩
def fx_m73 : fx_MI := (fx_y73, prog_14_method_47_code, 3, (Option.some Jvm.ClassFile.FieldType.int), 1, 1, 35, 12)
abbrev mm_Mod_isGolden : Nat := 74
def fx_y74 : MethodName := ⟨"FlitTorusModel", "isGolden", "(I)Z"⟩
def fx_m74 : fx_MI := (fx_y74, prog_14_method_14_code, 2, (Option.some Jvm.ClassFile.FieldType.boolean), 2, 1, 35, 12)
abbrev mm_Mod_isQuiet : Nat := 75
def fx_y75 : MethodName := ⟨"FlitTorusModel", "isQuiet", "()Z"⟩
def fx_m75 : fx_MI := (fx_y75, prog_14_method_9_code, 3, (Option.some Jvm.ClassFile.FieldType.boolean), 2, 1, 35, 12)
abbrev mm_Mod_isWanted : Nat := 76
def fx_y76 : MethodName := ⟨"FlitTorusModel", "isWanted", "(II)Z"⟩
def fx_m76 : fx_MI := (fx_y76, prog_14_method_34_code, 4, (Option.some Jvm.ClassFile.FieldType.boolean), 2, 1, 35, 12)
abbrev mm_Mod_measure : Nat := 77
def fx_y77 : MethodName := ⟨"FlitTorusModel", "measure", "()Z"⟩
def fx_m77 : fx_MI := (fx_y77, prog_14_method_8_code, 7, (Option.some Jvm.ClassFile.FieldType.boolean), 2, 1, 35, 12)
abbrev mm_Mod_node : Nat := 78
def fx_y78 : MethodName := ⟨"FlitTorusModel", "node", "(II)I"⟩
def fx_m78 : fx_MI := (fx_y78, prog_14_method_46_code, 5, (Option.some Jvm.ClassFile.FieldType.int), 1, 1, 35, 12)
abbrev mm_Mod_put : Nat := 79
def fx_y79 : MethodName := ⟨"FlitTorusModel", "put", "(IIII)Z"⟩
def fx_m79 : fx_MI := (fx_y79, prog_14_method_12_code, 5, (Option.some Jvm.ClassFile.FieldType.boolean), 2, 1, 35, 12)
abbrev mm_Mod_settle : Nat := 80
def fx_y80 : MethodName := ⟨"FlitTorusModel", "settle", "(I)V"⟩
def fx_m80 : fx_MI := (fx_y80, prog_14_method_22_code, 5, (Option.none : Option Jvm.ClassFile.FieldType), 0, 1, 35, 12)
abbrev mm_Mod_taken : Nat := 81
def fx_y81 : MethodName := ⟨"FlitTorusModel", "taken", "(II)I"⟩
def fx_m81 : fx_MI := (fx_y81, prog_14_method_44_code, 3, (Option.some Jvm.ClassFile.FieldType.int), 1, 1, 35, 12)
abbrev mm_Torus_distance : Nat := 82
def fx_y82 : MethodName := ⟨"FlitTorus", "distance", "(II)I"⟩
def fx_m82 : fx_MI := (fx_y82, prog_1_method_12_code, 3, (Option.some Jvm.ClassFile.FieldType.int), 1, 2, 70, 0)
abbrev mm_Torus_enterAt : Nat := 83
def fx_y83 : MethodName := ⟨"FlitTorus", "enterAt", "(LFlitTorus$Node;I)V"⟩
def fx_m83 : fx_MI := (fx_y83, prog_1_method_23_code, 6, (Option.none : Option Jvm.ClassFile.FieldType), 0, 2, 70, 0)
abbrev mm_Torus_sendNote : Nat := 84
def fx_y84 : MethodName := ⟨"FlitTorus", "sendNote", "(LFlitTorus$Packet;Z)V"⟩
def fx_m84 : fx_MI := (fx_y84, prog_1_method_18_code, 3, (Option.none : Option Jvm.ClassFile.FieldType), 0, 2, 70, 0)
abbrev mm_Torus_tell : Nat := 85
def fx_y85 : MethodName := ⟨"FlitTorus", "tell", "(LFlitTorus$Packet;)V"⟩
def fx_m85 : fx_MI := (fx_y85, prog_1_method_17_code, 3, (Option.none : Option Jvm.ClassFile.FieldType), 0, 2, 70, 0)
abbrev mm_Grid_close : Nat := 86
def fx_y86 : MethodName := ⟨"FlitTorus$Grid", "close", "(II)Z"⟩
def fx_m86 : fx_MI := (fx_y86, prog_4_method_8_code, 4, (Option.some Jvm.ClassFile.FieldType.boolean), 2, 2, 70, 3)
abbrev mm_Grid_greatestSteps : Nat := 87
def fx_y87 : MethodName := ⟨"FlitTorus$Grid", "greatestSteps", "()I"⟩
def fx_m87 : fx_MI := (fx_y87, prog_4_method_11_code, 3, (Option.some Jvm.ClassFile.FieldType.int), 1, 2, 70, 3)
abbrev mm_Grid_isWanted : Nat := 88
def fx_y88 : MethodName := ⟨"FlitTorus$Grid", "isWanted", "(III)Z"⟩
def fx_m88 : fx_MI := (fx_y88, prog_4_method_10_code, 4, (Option.some Jvm.ClassFile.FieldType.boolean), 2, 2, 70, 3)
abbrev mm_Node_clear : Nat := 89
def fx_y89 : MethodName := ⟨"FlitTorus$Node", "clear", "(LFlitTorus$Row;)V"⟩
def fx_m89 : fx_MI := (fx_y89, prog_5_method_2_code, 3, (Option.none : Option Jvm.ClassFile.FieldType), 0, 2, 70, 4)
abbrev mm_Packet_makeFlits : Nat := 90
def fx_y90 : MethodName := ⟨"FlitTorus$Packet", "makeFlits", "()V"⟩
def fx_m90 : fx_MI := (fx_y90, prog_6_method_3_code, 2, (Option.none : Option Jvm.ClassFile.FieldType), 0, 2, 70, 5)
abbrev mm_Rank_higher : Nat := 91
def fx_y91 : MethodName := ⟨"FlitTorus$Rank", "higher", "(LFlitTorus$Flit;LFlitTorus$Flit;)LFlitTorus$Flit;"⟩
def fx_m91 : fx_MI := (fx_y91, prog_8_method_3_code, 3, (Option.some (Jvm.ClassFile.FieldType.object "FlitTorus$Flit")), 3, 2, 70, 7)
abbrev mm_Rank_highestForGoal : Nat := 92
def fx_y92 : MethodName := ⟨"FlitTorus$Rank", "highestForGoal", "([LFlitTorus$Flit;I)I"⟩
def fx_m92 : fx_MI := (fx_y92, prog_8_method_5_code, 6, (Option.some Jvm.ClassFile.FieldType.int), 1, 2, 70, 7)
abbrev mm_Receiver_init : Nat := 93
def fx_y93 : MethodName := ⟨"FlitTorus$Receiver", "<init>", "()V"⟩
def fx_m93 : fx_MI := (fx_y93, prog_9_method_1_code, 2, (Option.none : Option Jvm.ClassFile.FieldType), 0, 2, 70, 8)
abbrev mm_Router_init : Nat := 94
def fx_y94 : MethodName := ⟨"FlitTorus$Router", "<init>", "()V"⟩
def fx_m94 : fx_MI := (fx_y94, prog_10_method_1_code, 1, (Option.none : Option Jvm.ClassFile.FieldType), 0, 2, 70, 9)
abbrev mm_Router_sortByRank : Nat := 95
def fx_y95 : MethodName := ⟨"FlitTorus$Router", "sortByRank", "([LFlitTorus$Flit;)I"⟩
def fx_m95 : fx_MI := (fx_y95, prog_10_method_4_code, 6, (Option.some Jvm.ClassFile.FieldType.int), 1, 2, 70, 9)
abbrev mm_Sender_init : Nat := 96
def fx_y96 : MethodName := ⟨"FlitTorus$Sender", "<init>", "()V"⟩
def fx_m96 : fx_MI := (fx_y96, prog_12_method_1_code, 1, (Option.none : Option Jvm.ClassFile.FieldType), 0, 2, 70, 11)
abbrev mm_Mod_isAhead : Nat := 97
def fx_y97 : MethodName := ⟨"FlitTorusModel", "isAhead", "(II)Z"⟩
def fx_m97 : fx_MI := (fx_y97, prog_14_method_15_code, 3, (Option.some Jvm.ClassFile.FieldType.boolean), 2, 2, 70, 12)
abbrev mm_Mod_letEnter : Nat := 98
def fx_y98 : MethodName := ⟨"FlitTorusModel", "letEnter", "()V"⟩
def fx_m98 : fx_MI := (fx_y98, prog_14_method_33_code, 5, (Option.none : Option Jvm.ClassFile.FieldType), 0, 2, 70, 12)
abbrev mm_Mod_link : Nat := 99
def fx_y99 : MethodName := ⟨"FlitTorusModel", "link", "(IIZ)Z"⟩
def fx_m99 : fx_MI := (fx_y99, prog_14_method_11_code, 7, (Option.some Jvm.ClassFile.FieldType.boolean), 2, 2, 70, 12)
abbrev mm_Mod_receive : Nat := 100
def fx_y100 : MethodName := ⟨"FlitTorusModel", "receive", "(I)V"⟩
def fx_m100 : fx_MI := (fx_y100, prog_14_method_23_code, 7, (Option.none : Option Jvm.ClassFile.FieldType), 0, 2, 70, 12)
abbrev mm_Mod_reset : Nat := 101
def fx_y101 : MethodName := ⟨"FlitTorusModel", "reset", "(III)Z"⟩
def fx_m101 : fx_MI := (fx_y101, prog_14_method_4_code, 5, (Option.some Jvm.ClassFile.FieldType.boolean), 2, 2, 70, 12)
abbrev mm_Mod_take : Nat := 102
def fx_y102 : MethodName := ⟨"FlitTorusModel", "take", "(I)I"⟩
def fx_m102 : fx_MI := (fx_y102, prog_14_method_43_code, 4, (Option.some Jvm.ClassFile.FieldType.int), 1, 2, 70, 12)
abbrev mm_Torus_emptyAll : Nat := 103
def fx_y103 : MethodName := ⟨"FlitTorus", "emptyAll", "()V"⟩
def fx_m103 : fx_MI := (fx_y103, prog_1_method_13_code, 2, (Option.none : Option Jvm.ClassFile.FieldType), 0, 3, 105, 0)
abbrev mm_Torus_finish : Nat := 104
def fx_y104 : MethodName := ⟨"FlitTorus", "finish", "(LFlitTorus$Receiver;LFlitTorus$Place;)V"⟩
def fx_m104 : fx_MI := (fx_y104, prog_1_method_21_code, 5, (Option.none : Option Jvm.ClassFile.FieldType), 0, 3, 105, 0)
abbrev mm_Torus_goldenIndex : Nat := 105
def fx_y105 : MethodName := ⟨"FlitTorus", "goldenIndex", "()I"⟩
def fx_m105 : fx_MI := (fx_y105, prog_1_method_15_code, 2, (Option.some Jvm.ClassFile.FieldType.int), 1, 3, 105, 0)
abbrev mm_Torus_link : Nat := 106
def fx_y106 : MethodName := ⟨"FlitTorus", "link", "(IIZ)Z"⟩
def fx_m106 : fx_MI := (fx_y106, prog_1_method_3_code, 4, (Option.some Jvm.ClassFile.FieldType.boolean), 2, 3, 105, 0)
abbrev mm_Torus_tellNotes : Nat := 107
def fx_y107 : MethodName := ⟨"FlitTorus", "tellNotes", "()V"⟩
def fx_m107 : fx_MI := (fx_y107, prog_1_method_16_code, 4, (Option.none : Option Jvm.ClassFile.FieldType), 0, 3, 105, 0)
abbrev mm_Node_init : Nat := 108
def fx_y108 : MethodName := ⟨"FlitTorus$Node", "<init>", "(I)V"⟩
def fx_m108 : fx_MI := (fx_y108, prog_5_method_1_code, 2, (Option.none : Option Jvm.ClassFile.FieldType), 0, 3, 105, 4)
abbrev mm_Packet_fill : Nat := 109
def fx_y109 : MethodName := ⟨"FlitTorus$Packet", "fill", "(IIII)V"⟩
def fx_m109 : fx_MI := (fx_y109, prog_6_method_2_code, 5, (Option.none : Option Jvm.ClassFile.FieldType), 0, 3, 105, 5)
abbrev mm_Router_bestWayLeft : Nat := 110
def fx_y110 : MethodName := ⟨"FlitTorus$Router", "bestWayLeft", "(II)I"⟩
def fx_m110 : fx_MI := (fx_y110, prog_10_method_5_code, 5, (Option.some Jvm.ClassFile.FieldType.int), 1, 3, 105, 9)
abbrev mm_Router_passFirstCell : Nat := 111
def fx_y111 : MethodName := ⟨"FlitTorus$Router", "passFirstCell", "(ILFlitTorus$Flit;LFlitTorus$Flit;I)V"⟩
def fx_m111 : fx_MI := (fx_y111, prog_10_method_6_code, 8, (Option.none : Option Jvm.ClassFile.FieldType), 0, 3, 105, 9)
abbrev mm_Router_passLastCell : Nat := 112
def fx_y112 : MethodName := ⟨"FlitTorus$Router", "passLastCell", "(ILFlitTorus$Flit;LFlitTorus$Flit;I)V"⟩
def fx_m112 : fx_MI := (fx_y112, prog_10_method_7_code, 8, (Option.none : Option Jvm.ClassFile.FieldType), 0, 3, 105, 9)
abbrev mm_Mod_init : Nat := 113
def fx_y113 : MethodName := ⟨"FlitTorusModel", "<init>", "()V"⟩
def fx_m113 : fx_MI := (fx_y113, prog_14_method_1_code, 2, (Option.none : Option Jvm.ClassFile.FieldType), 0, 3, 105, 12)
abbrev mm_Mod_home : Nat := 114
def fx_y114 : MethodName := ⟨"FlitTorusModel", "home", "(I)I"⟩
def fx_m114 : fx_MI := (fx_y114, prog_14_method_24_code, 4, (Option.some Jvm.ClassFile.FieldType.int), 1, 3, 105, 12)
abbrev mm_Mod_next : Nat := 115
def fx_y115 : MethodName := ⟨"FlitTorusModel", "next", "(I)I"⟩
def fx_m115 : fx_MI := (fx_y115, prog_14_method_36_code, 4, (Option.some Jvm.ClassFile.FieldType.int), 1, 3, 105, 12)
abbrev mm_Mod_upper : Nat := 116
def fx_y116 : MethodName := ⟨"FlitTorusModel", "upper", "(III)I"⟩
def fx_m116 : fx_MI := (fx_y116, prog_14_method_39_code, 7, (Option.some Jvm.ClassFile.FieldType.int), 1, 3, 105, 12)
abbrev mm_Torus_golden : Nat := 117
def fx_y117 : MethodName := ⟨"FlitTorus", "golden", "(I)I"⟩
def fx_m117 : fx_MI := (fx_y117, prog_1_method_10_code, 2, (Option.some Jvm.ClassFile.FieldType.int), 1, 4, 140, 0)
abbrev mm_Torus_makeNodes : Nat := 118
def fx_y118 : MethodName := ⟨"FlitTorus", "makeNodes", "()V"⟩
def fx_m118 : fx_MI := (fx_y118, prog_1_method_14_code, 2, (Option.none : Option Jvm.ClassFile.FieldType), 0, 4, 140, 0)
abbrev mm_Torus_put : Nat := 119
def fx_y119 : MethodName := ⟨"FlitTorus", "put", "(IIII)Z"⟩
def fx_m119 : fx_MI := (fx_y119, prog_1_method_4_code, 7, (Option.some Jvm.ClassFile.FieldType.boolean), 2, 4, 140, 0)
abbrev mm_Torus_receive : Nat := 120
def fx_y120 : MethodName := ⟨"FlitTorus", "receive", "(LFlitTorus$Receiver;LFlitTorus$Flit;)V"⟩
def fx_m120 : fx_MI := (fx_y120, prog_1_method_20_code, 4, (Option.none : Option Jvm.ClassFile.FieldType), 0, 4, 140, 0)
abbrev mm_Torus_take : Nat := 121
def fx_y121 : MethodName := ⟨"FlitTorus", "take", "(I)I"⟩
def fx_m121 : fx_MI := (fx_y121, prog_1_method_6_code, 5, (Option.some Jvm.ClassFile.FieldType.int), 1, 8, 280, 0)
abbrev mm_Router_chooseByCells : Nat := 122
def fx_y122 : MethodName := ⟨"FlitTorus$Router", "chooseByCells", "([LFlitTorus$Flit;I)V"⟩
def fx_m122 : fx_MI := (fx_y122, prog_10_method_3_code, 3, (Option.none : Option Jvm.ClassFile.FieldType), 0, 4, 140, 9)
abbrev mm_Router_chooseByRank : Nat := 123
def fx_y123 : MethodName := ⟨"FlitTorus$Router", "chooseByRank", "([LFlitTorus$Flit;I)V"⟩
def fx_m123 : fx_MI := (fx_y123, prog_10_method_2_code, 6, (Option.none : Option Jvm.ClassFile.FieldType), 0, 4, 140, 9)
abbrev mm_Mod_giveByCells : Nat := 124
def fx_y124 : MethodName := ⟨"FlitTorusModel", "giveByCells", "(I)V"⟩
def fx_m124 : fx_MI := (fx_y124, prog_14_method_41_code, 14, (Option.none : Option Jvm.ClassFile.FieldType), 0, 4, 140, 12)
abbrev mm_Mod_giveByRank : Nat := 125
def fx_y125 : MethodName := ⟨"FlitTorusModel", "giveByRank", "(I)V"⟩
def fx_m125 : fx_MI := (fx_y125, prog_14_method_37_code, 6, (Option.none : Option Jvm.ClassFile.FieldType), 0, 4, 140, 12)
abbrev mm_Torus_moveFrom : Nat := 126
def fx_y126 : MethodName := ⟨"FlitTorus", "moveFrom", "(LFlitTorus$Node;)I"⟩
def fx_m126 : fx_MI := (fx_y126, prog_1_method_24_code, 5, (Option.some Jvm.ClassFile.FieldType.int), 1, 5, 175, 0)
abbrev mm_Torus_receiveAt : Nat := 127
def fx_y127 : MethodName := ⟨"FlitTorus", "receiveAt", "(LFlitTorus$Node;)V"⟩
def fx_m127 : fx_MI := (fx_y127, prog_1_method_19_code, 5, (Option.none : Option Jvm.ClassFile.FieldType), 0, 5, 175, 0)
abbrev mm_Torus_reset : Nat := 128
def fx_y128 : MethodName := ⟨"FlitTorus", "reset", "(III)Z"⟩
def fx_m128 : fx_MI := (fx_y128, prog_1_method_2_code, 4, (Option.some Jvm.ClassFile.FieldType.boolean), 2, 5, 175, 0)
abbrev mm_Mod_cycle : Nat := 129
def fx_y129 : MethodName := ⟨"FlitTorusModel", "cycle", "()I"⟩
def fx_m129 : fx_MI := (fx_y129, prog_14_method_42_code, 4, (Option.some Jvm.ClassFile.FieldType.int), 1, 5, 175, 12)
abbrev mm_Torus_init : Nat := 130
def fx_y130 : MethodName := ⟨"FlitTorus", "<init>", "()V"⟩
def fx_m130 : fx_MI := (fx_y130, prog_1_method_1_code, 1, (Option.none : Option Jvm.ClassFile.FieldType), 0, 6, 210, 0)
abbrev mm_Torus_cycle : Nat := 131
def fx_y131 : MethodName := ⟨"FlitTorus", "cycle", "()I"⟩
def fx_m131 : fx_MI := (fx_y131, prog_1_method_5_code, 4, (Option.some Jvm.ClassFile.FieldType.int), 1, 6, 210, 0)
abbrev mm_Law_take : Nat := 132
def fx_y132 : MethodName := ⟨"FlitTorusLaw", "take", "(LFlitTorus;I[J)I"⟩
def fx_m132 : fx_MI := (fx_y132, method_3_code, 4, (Option.some Jvm.ClassFile.FieldType.int), 1, 9, 315, 99)
abbrev mm_Law_law : Nat := 133
def fx_y133 : MethodName := ⟨"FlitTorusLaw", "law", "([I)Z"⟩
def fx_m133 : fx_MI := (fx_y133, code, 7, (Option.some Jvm.ClassFile.FieldType.boolean), 2, 10, 344, 99)
def fx_ms : List fx_MI := [fx_m0, fx_m1, fx_m2, fx_m3, fx_m4, fx_m5, fx_m6, fx_m7, fx_m8, fx_m9, fx_m10, fx_m11, fx_m12, fx_m13, fx_m14, fx_m15, fx_m16, fx_m17, fx_m18, fx_m19, fx_m20, fx_m21, fx_m22, fx_m23, fx_m24, fx_m25, fx_m26, fx_m27, fx_m28, fx_m29, fx_m30, fx_m31, fx_m32, fx_m33, fx_m34, fx_m35, fx_m36, fx_m37, fx_m38, fx_m39, fx_m40, fx_m41, fx_m42, fx_m43, fx_m44, fx_m45, fx_m46, fx_m47, fx_m48, fx_m49, fx_m50, fx_m51, fx_m52, fx_m53, fx_m54, fx_m55, fx_m56, fx_m57, fx_m58, fx_m59, fx_m60, fx_m61, fx_m62, fx_m63, fx_m64, fx_m65, fx_m66, fx_m67, fx_m68, fx_m69, fx_m70, fx_m71, fx_m72, fx_m73, fx_m74, fx_m75, fx_m76, fx_m77, fx_m78, fx_m79, fx_m80, fx_m81, fx_m82, fx_m83, fx_m84, fx_m85, fx_m86, fx_m87, fx_m88, fx_m89, fx_m90, fx_m91, fx_m92, fx_m93, fx_m94, fx_m95, fx_m96, fx_m97, fx_m98, fx_m99, fx_m100, fx_m101, fx_m102, fx_m103, fx_m104, fx_m105, fx_m106, fx_m107, fx_m108, fx_m109, fx_m110, fx_m111, fx_m112, fx_m113, fx_m114, fx_m115, fx_m116, fx_m117, fx_m118, fx_m119, fx_m120, fx_m121, fx_m122, fx_m123, fx_m124, fx_m125, fx_m126, fx_m127, fx_m128, fx_m129, fx_m130, fx_m131, fx_m132, fx_m133]
def fx_m (mi : Nat) : fx_MI := fx_ms.getD mi fx_m0
def fx_yy (mi : Nat) : MethodName := (fx_m mi).1
def fx_cc (mi : Nat) : ByteArray := (fx_m mi).2.1
def fx_ml (mi : Nat) : Nat := (fx_m mi).2.2.1
def fx_re (mi : Nat) : Option FieldType := (fx_m mi).2.2.2.1
def fx_rt (mi : Nat) : Nat := (fx_m mi).2.2.2.2.1
def fx_rk (mi : Nat) : Nat := (fx_m mi).2.2.2.2.2.1
def fx_lw (mi : Nat) : Nat := (fx_m mi).2.2.2.2.2.2.1
def fx_ci (mi : Nat) : Nat := (fx_m mi).2.2.2.2.2.2.2
end
section
/-! the code of each method: (pc, (instruction, next pc, r1, r2), place of its word in lw_tbl) -/
abbrev fx_I : Type := Instr × Nat × Nat × Nat
abbrev fx_E : Type := Nat × fx_I × Nat
def fx_c0 : List fx_E := [
  (0, (.iload_n 1, 1, 1, 0), 0),
  (1, (.tableswitch (69) (0) (5) #[(39), (44), (49), (54), (59), (64)], 40, 70, 0), 0),
  (40, (.aload_n 0, 41, 0, 0), 0),
  (41, (.getfield 74, 44, 12, 0), 386),
  (44, (.ireturn, 45, 0, 0), 0),
  (45, (.aload_n 0, 46, 0, 0), 0),
  (46, (.getfield 77, 49, 13, 0), 387),
  (49, (.ireturn, 50, 0, 0), 0),
  (50, (.aload_n 0, 51, 0, 0), 0),
  (51, (.getfield 80, 54, 14, 0), 388),
  (54, (.ireturn, 55, 0, 0), 0),
  (55, (.aload_n 0, 56, 0, 0), 0),
  (56, (.getfield 65, 59, 9, 0), 383),
  (59, (.ireturn, 60, 0, 0), 0),
  (60, (.aload_n 0, 61, 0, 0), 0),
  (61, (.getfield 83, 64, 15, 0), 389),
  (64, (.ireturn, 65, 0, 0), 0),
  (65, (.aload_n 0, 66, 0, 0), 0),
  (66, (.getfield 68, 69, 10, 0), 384),
  (69, (.ireturn, 70, 0, 0), 0),
  (70, (.iconst (-1), 71, 0, 0), 0),
  (71, (.ireturn, 72, 0, 0), 0)]
def fx_c1 : List fx_E := [
  (0, (.iconst (0), 1, 0, 0), 0),
  (1, (.istore_n 1, 2, 1, 0), 0),
  (2, (.iload_n 1, 3, 1, 0), 0),
  (3, (.aload_n 0, 4, 0, 0), 0),
  (4, (.getfield 20, 7, 1, 13), 375),
  (7, (.getfield 140, 10, 192, 0), 99),
  (10, (.if_icmp .ge (45), 13, 55, 0), 0),
  (13, (.aload_n 0, 14, 0, 0), 0),
  (14, (.getfield 68, 17, 10, 0), 384),
  (17, (.iload_n 1, 18, 1, 0), 0),
  (18, (.iadd, 19, 0, 0), 0),
  (19, (.aload_n 0, 20, 0, 0), 0),
  (20, (.getfield 20, 23, 1, 13), 375),
  (23, (.getfield 140, 26, 192, 0), 99),
  (26, (.irem, 27, 0, 0), 0),
  (27, (.istore_n 2, 28, 2, 0), 0),
  (28, (.aload_n 0, 29, 0, 0), 0),
  (29, (.getfield 28, 32, 3, 44), 377),
  (32, (.iload_n 2, 33, 2, 0), 0),
  (33, (.aaload, 34, 0, 0), 0),
  (34, (.getfield 101, 37, 257, 21), 349),
  (37, (.getfield 225, 40, 707, 0), 253),
  (40, (.aload_n 0, 41, 0, 0), 0),
  (41, (.getfield 62, 44, 8, 0), 382),
  (44, (.if_icmp .lt (5), 47, 49, 0), 0),
  (47, (.iload_n 2, 48, 2, 0), 0),
  (48, (.ireturn, 49, 0, 0), 0),
  (49, (.iinc 1 (1), 52, 1, 0), 0),
  (52, (.goto (-50), 55, 2, 0), 0),
  (55, (.iconst (-1), 56, 0, 0), 0),
  (56, (.ireturn, 57, 0, 0), 0)]
def fx_c2 : List fx_E := [
  (0, (.aload_n 0, 1, 0, 0), 0),
  (1, (.getfield 9, 4, 193, 70), 100),
  (4, (.iload_n 1, 5, 1, 0), 0),
  (5, (.iconst (4), 6, 0, 0), 0),
  (6, (.imul, 7, 0, 0), 0),
  (7, (.iload_n 2, 8, 2, 0), 0),
  (8, (.iadd, 9, 0, 0), 0),
  (9, (.iaload, 10, 0, 0), 0),
  (10, (.ireturn, 11, 0, 0), 0)]
def fx_c3 : List fx_E := [
  (0, (.iload_n 1, 1, 1, 0), 0),
  (1, (.bipush (64), 3, 0, 0), 0),
  (3, (.imul, 4, 0, 0), 0),
  (4, (.istore_n 2, 5, 2, 0), 0),
  (5, (.iconst (0), 6, 0, 0), 0),
  (6, (.istore_n 3, 7, 3, 0), 0),
  (7, (.iload_n 3, 8, 3, 0), 0),
  (8, (.aload_n 0, 9, 0, 0), 0),
  (9, (.getfield 28, 12, 192, 0), 98),
  (12, (.if_icmp .ge (18), 15, 30, 0), 0),
  (15, (.aload_n 0, 16, 0, 0), 0),
  (16, (.getfield 19, 19, 195, 70), 102),
  (19, (.iload_n 2, 20, 2, 0), 0),
  (20, (.iload_n 3, 21, 3, 0), 0),
  (21, (.iadd, 22, 0, 0), 0),
  (22, (.iconst (-1), 23, 0, 0), 0),
  (23, (.iastore, 24, 0, 0), 0),
  (24, (.iinc 3 (1), 27, 3, 0), 0),
  (27, (.goto (-20), 30, 7, 0), 0),
  (30, (.aload_n 0, 31, 0, 0), 0),
  (31, (.getfield 19, 34, 195, 70), 102),
  (34, (.iload_n 2, 35, 2, 0), 0),
  (35, (.iload_n 1, 36, 1, 0), 0),
  (36, (.iadd, 37, 0, 0), 0),
  (37, (.iconst (0), 38, 0, 0), 0),
  (38, (.iastore, 39, 0, 0), 0),
  (39, (.aload_n 0, 40, 0, 0), 0),
  (40, (.getfield 25, 43, 197, 70), 104),
  (43, (.iconst (0), 44, 0, 0), 0),
  (44, (.iload_n 1, 45, 1, 0), 0),
  (45, (.iastore, 46, 0, 0), 0),
  (46, (.iconst (1), 47, 0, 0), 0),
  (47, (.istore_n 3, 48, 3, 0), 0),
  (48, (.iconst (0), 49, 0, 0), 0),
  (49, (.istore 4, 51, 4, 0), 0),
  (51, (.iload 4, 53, 4, 0), 0),
  (53, (.iload_n 3, 54, 3, 0), 0),
  (54, (.if_icmp .ge (115), 57, 169, 0), 0),
  (57, (.iload 4, 59, 4, 0), 0),
  (59, (.aload_n 0, 60, 0, 0), 0),
  (60, (.getfield 28, 63, 192, 0), 98),
  (63, (.if_icmp .ge (106), 66, 169, 0), 0),
  (66, (.aload_n 0, 67, 0, 0), 0),
  (67, (.getfield 25, 70, 197, 70), 104),
  (70, (.iload 4, 72, 4, 0), 0),
  (72, (.iaload, 73, 0, 0), 0),
  (73, (.istore 5, 75, 5, 0), 0),
  (75, (.iconst (0), 76, 0, 0), 0),
  (76, (.istore 6, 78, 6, 0), 0),
  (78, (.iload 6, 80, 6, 0), 0),
  (80, (.iconst (4), 81, 0, 0), 0),
  (81, (.if_icmp .ge (82), 84, 163, 0), 0),
  (84, (.aload_n 0, 85, 0, 0), 0),
  (85, (.getfield 9, 88, 193, 70), 100),
  (88, (.iload 5, 90, 5, 0), 0),
  (90, (.iconst (4), 91, 0, 0), 0),
  (91, (.imul, 92, 0, 0), 0),
  (92, (.iload 6, 94, 6, 0), 0),
  (94, (.iadd, 95, 0, 0), 0),
  (95, (.iaload, 96, 0, 0), 0),
  (96, (.istore 7, 98, 7, 0), 0),
  (98, (.aload_n 0, 99, 0, 0), 0),
  (99, (.getfield 15, 102, 194, 71), 101),
  (102, (.iload 5, 104, 5, 0), 0),
  (104, (.iconst (4), 105, 0, 0), 0),
  (105, (.imul, 106, 0, 0), 0),
  (106, (.iload 6, 108, 6, 0), 0),
  (108, (.iadd, 109, 0, 0), 0),
  (109, (.baload, 110, 0, 0), 0),
  (110, (.ifCond .eq (47), 113, 157, 0), 0),
  (113, (.aload_n 0, 114, 0, 0), 0),
  (114, (.getfield 19, 117, 195, 70), 102),
  (117, (.iload_n 2, 118, 2, 0), 0),
  (118, (.iload 7, 120, 7, 0), 0),
  (120, (.iadd, 121, 0, 0), 0),
  (121, (.iaload, 122, 0, 0), 0),
  (122, (.iconst (-1), 123, 0, 0), 0),
  (123, (.if_icmp .ne (34), 126, 157, 0), 0),
  (126, (.aload_n 0, 127, 0, 0), 0),
  (127, (.getfield 19, 130, 195, 70), 102),
  (130, (.iload_n 2, 131, 2, 0), 0),
  (131, (.iload 7, 133, 7, 0), 0),
  (133, (.iadd, 134, 0, 0), 0),
  (134, (.aload_n 0, 135, 0, 0), 0),
  (135, (.getfield 19, 138, 195, 70), 102),
  (138, (.iload_n 2, 139, 2, 0), 0),
  (139, (.iload 5, 141, 5, 0), 0),
  (141, (.iadd, 142, 0, 0), 0),
  (142, (.iaload, 143, 0, 0), 0),
  (143, (.iconst (1), 144, 0, 0), 0),
  (144, (.iadd, 145, 0, 0), 0),
  (145, (.iastore, 146, 0, 0), 0),
  (146, (.aload_n 0, 147, 0, 0), 0),
  (147, (.getfield 25, 150, 197, 70), 104),
  (150, (.iload_n 3, 151, 3, 0), 0),
  (151, (.iload 7, 153, 7, 0), 0),
  (153, (.iastore, 154, 0, 0), 0),
  (154, (.iinc 3 (1), 157, 3, 0), 0),
  (157, (.iinc 6 (1), 160, 6, 0), 0),
  (160, (.goto (-82), 163, 78, 0), 0),
  (163, (.iinc 4 (1), 166, 4, 0), 0),
  (166, (.goto (-115), 169, 51, 0), 0),
  (169, (.aload_n 0, 170, 0, 0), 0),
  (170, (.getfield 22, 173, 196, 71), 103),
  (173, (.iload_n 1, 174, 1, 0), 0),
  (174, (.iconst (1), 175, 0, 0), 0),
  (175, (.bastore, 176, 0, 0), 0),
  (176, (.return_, 177, 0, 0), 0)]
def fx_c4 : List fx_E := [
  (0, (.iconst (0), 1, 0, 0), 0),
  (1, (.istore_n 1, 2, 1, 0), 0),
  (2, (.iload_n 1, 3, 1, 0), 0),
  (3, (.aload_n 0, 4, 0, 0), 0),
  (4, (.getfield 28, 7, 192, 0), 98),
  (7, (.if_icmp .ge (16), 10, 23, 0), 0),
  (10, (.aload_n 0, 11, 0, 0), 0),
  (11, (.getfield 22, 14, 196, 71), 103),
  (14, (.iload_n 1, 15, 1, 0), 0),
  (15, (.iconst (0), 16, 0, 0), 0),
  (16, (.bastore, 17, 0, 0), 0),
  (17, (.iinc 1 (1), 20, 1, 0), 0),
  (20, (.goto (-18), 23, 2, 0), 0),
  (23, (.aload_n 0, 24, 0, 0), 0),
  (24, (.iconst (-1), 25, 0, 0), 0),
  (25, (.putfield 61, 28, 198, 0), 105),
  (28, (.return_, 29, 0, 0), 0)]
def fx_c5 : List fx_E := [
  (0, (.iload_n 1, 1, 1, 0), 0),
  (1, (.ifCond .lt (15), 4, 16, 0), 0),
  (4, (.iload_n 1, 5, 1, 0), 0),
  (5, (.aload_n 0, 6, 0, 0), 0),
  (6, (.getfield 28, 9, 192, 0), 98),
  (9, (.if_icmp .ge (7), 12, 16, 0), 0),
  (12, (.iconst (1), 13, 0, 0), 0),
  (13, (.goto (4), 16, 17, 0), 0),
  (16, (.iconst (0), 17, 0, 0), 0),
  (17, (.ireturn, 18, 0, 0), 0)]
def fx_c6 : List fx_E := [
  (0, (.aload_n 0, 1, 0, 0), 0),
  (1, (.getfield 15, 4, 194, 71), 101),
  (4, (.iload_n 1, 5, 1, 0), 0),
  (5, (.iconst (4), 6, 0, 0), 0),
  (6, (.imul, 7, 0, 0), 0),
  (7, (.iload_n 2, 8, 2, 0), 0),
  (8, (.iadd, 9, 0, 0), 0),
  (9, (.baload, 10, 0, 0), 0),
  (10, (.ireturn, 11, 0, 0), 0)]
def fx_c7 : List fx_E := [
  (0, (.iload_n 0, 1, 0, 0), 0),
  (1, (.iconst (2), 2, 0, 0), 0),
  (2, (.irem, 3, 0, 0), 0),
  (3, (.ifCond .ne (9), 6, 12, 0), 0),
  (6, (.iload_n 0, 7, 0, 0), 0),
  (7, (.iconst (1), 8, 0, 0), 0),
  (8, (.iadd, 9, 0, 0), 0),
  (9, (.goto (6), 12, 15, 0), 0),
  (12, (.iload_n 0, 13, 0, 0), 0),
  (13, (.iconst (1), 14, 0, 0), 0),
  (14, (.isub, 15, 0, 0), 0),
  (15, (.ireturn, 16, 0, 0), 0)]
def fx_c8 : List fx_E := [
  (0, (.iconst (0), 1, 0, 0), 0),
  (1, (.istore_n 2, 2, 2, 0), 0),
  (2, (.iload_n 2, 3, 2, 0), 0),
  (3, (.iconst (4), 4, 0, 0), 0),
  (4, (.if_icmp .ge (26), 7, 30, 0), 0),
  (7, (.aload_n 0, 8, 0, 0), 0),
  (8, (.getfield 27, 11, 259, 42), 352),
  (11, (.iload_n 2, 12, 2, 0), 0),
  (12, (.aaload, 13, 0, 0), 0),
  (13, (.ifnonnull (11), 16, 24, 0), 0),
  (16, (.aload_n 0, 17, 0, 0), 0),
  (17, (.getfield 27, 20, 259, 42), 352),
  (20, (.iload_n 2, 21, 2, 0), 0),
  (21, (.aload_n 1, 22, 1, 0), 0),
  (22, (.aastore, 23, 0, 0), 0),
  (23, (.return_, 24, 0, 0), 0),
  (24, (.iinc 2 (1), 27, 2, 0), 0),
  (27, (.goto (-25), 30, 2, 0), 0),
  (30, (.return_, 31, 0, 0), 0)]
def fx_c9 : List fx_E := [
  (0, (.aload_n 0, 1, 0, 0), 0),
  (1, (.getfield 27, 4, 259, 42), 352),
  (4, (.astore_n 1, 5, 1, 0), 0),
  (5, (.aload_n 0, 6, 0, 0), 0),
  (6, (.aload_n 0, 7, 0, 0), 0),
  (7, (.getfield 31, 10, 260, 42), 354),
  (10, (.putfield 27, 13, 259, 42), 352),
  (13, (.aload_n 0, 14, 0, 0), 0),
  (14, (.aload_n 1, 15, 1, 0), 0),
  (15, (.putfield 31, 18, 260, 42), 354),
  (18, (.iconst (0), 19, 0, 0), 0),
  (19, (.istore_n 2, 20, 2, 0), 0),
  (20, (.iload_n 2, 21, 2, 0), 0),
  (21, (.iconst (4), 22, 0, 0), 0),
  (22, (.if_icmp .ge (13), 25, 35, 0), 0),
  (25, (.aload_n 1, 26, 1, 0), 0),
  (26, (.iload_n 2, 27, 2, 0), 0),
  (27, (.aconst_null, 28, 0, 0), 0),
  (28, (.aastore, 29, 0, 0), 0),
  (29, (.iinc 2 (1), 32, 2, 0), 0),
  (32, (.goto (-12), 35, 20, 0), 0),
  (35, (.return_, 36, 0, 0), 0)]
def fx_c10 : List fx_E := [
  (0, (.iconst (0), 1, 0, 0), 0),
  (1, (.istore_n 1, 2, 1, 0), 0),
  (2, (.iconst (0), 3, 0, 0), 0),
  (3, (.istore_n 2, 4, 2, 0), 0),
  (4, (.iload_n 2, 5, 2, 0), 0),
  (5, (.iconst (4), 6, 0, 0), 0),
  (6, (.if_icmp .ge (21), 9, 27, 0), 0),
  (9, (.aload_n 0, 10, 0, 0), 0),
  (10, (.getfield 27, 13, 259, 42), 352),
  (13, (.iload_n 2, 14, 2, 0), 0),
  (14, (.aaload, 15, 0, 0), 0),
  (15, (.ifnull (6), 18, 21, 0), 0),
  (18, (.iinc 1 (1), 21, 1, 0), 0),
  (21, (.iinc 2 (1), 24, 2, 0), 0),
  (24, (.goto (-20), 27, 4, 0), 0),
  (27, (.iload_n 1, 28, 1, 0), 0),
  (28, (.ireturn, 29, 0, 0), 0)]
def fx_c11 : List fx_E := [
  (0, (.aload_n 0, 1, 0, 0), 0),
  (1, (.aconst_null, 2, 0, 0), 0),
  (2, (.putfield 7, 5, 384, 15), 307),
  (5, (.return_, 6, 0, 0), 0)]
def fx_c12 : List fx_E := [
  (0, (.aload_n 0, 1, 0, 0), 0),
  (1, (.getfield 7, 4, 384, 15), 307),
  (4, (.ifnull (21), 7, 25, 0), 0),
  (7, (.aload_n 0, 8, 0, 0), 0),
  (8, (.getfield 17, 11, 386, 0), 313),
  (11, (.aload_n 0, 12, 0, 0), 0),
  (12, (.getfield 7, 15, 384, 15), 307),
  (15, (.getfield 20, 18, 322, 0), 486),
  (18, (.if_icmp .lt (7), 21, 25, 0), 0),
  (21, (.iconst (1), 22, 0, 0), 0),
  (22, (.goto (4), 25, 26, 0), 0),
  (25, (.iconst (0), 26, 0, 0), 0),
  (26, (.ireturn, 27, 0, 0), 0)]
def fx_c13 : List fx_E := [
  (0, (.aload_n 0, 1, 0, 0), 0),
  (1, (.aload_n 1, 2, 1, 0), 0),
  (2, (.putfield 7, 5, 384, 15), 307),
  (5, (.aload_n 0, 6, 0, 0), 0),
  (6, (.iload_n 2, 7, 2, 0), 0),
  (7, (.putfield 13, 10, 385, 0), 310),
  (10, (.aload_n 0, 11, 0, 0), 0),
  (11, (.iconst (0), 12, 0, 0), 0),
  (12, (.putfield 17, 15, 386, 0), 313),
  (15, (.return_, 16, 0, 0), 0)]
def fx_c14 : List fx_E := [
  (0, (.aload_n 1, 1, 1, 0), 0),
  (1, (.getfield 46, 4, 129, 0), 557),
  (4, (.aload_n 0, 5, 0, 0), 0),
  (5, (.getfield 9, 8, 450, 0), 133),
  (8, (.if_icmp .ne (35), 11, 43, 0), 0),
  (11, (.aload_n 1, 12, 1, 0), 0),
  (12, (.getfield 34, 15, 128, 15), 554),
  (15, (.getfield 43, 18, 324, 0), 492),
  (18, (.aload_n 0, 19, 0, 0), 0),
  (19, (.getfield 15, 22, 449, 0), 131),
  (22, (.if_icmp .ne (21), 25, 43, 0), 0),
  (25, (.aload_n 1, 26, 1, 0), 0),
  (26, (.getfield 34, 29, 128, 15), 554),
  (29, (.getfield 38, 32, 320, 0), 478),
  (32, (.aload_n 0, 33, 0, 0), 0),
  (33, (.getfield 18, 36, 448, 0), 129),
  (36, (.if_icmp .ne (7), 39, 43, 0), 0),
  (39, (.iconst (1), 40, 0, 0), 0),
  (40, (.goto (4), 43, 44, 0), 0),
  (43, (.iconst (0), 44, 0, 0), 0),
  (44, (.ireturn, 45, 0, 0), 0)]
def fx_c15 : List fx_E := [
  (0, (.aload_n 0, 1, 0, 0), 0),
  (1, (.iload_n 1, 2, 1, 0), 0),
  (2, (.bipush (8), 4, 0, 0), 0),
  (4, (.irem, 5, 0, 0), 0),
  (5, (.putfield 9, 8, 450, 0), 133),
  (8, (.aload_n 0, 9, 0, 0), 0),
  (9, (.iload_n 1, 10, 1, 0), 0),
  (10, (.bipush (8), 12, 0, 0), 0),
  (12, (.idiv, 13, 0, 0), 0),
  (13, (.bipush (8), 15, 0, 0), 0),
  (15, (.irem, 16, 0, 0), 0),
  (16, (.putfield 15, 19, 449, 0), 131),
  (19, (.aload_n 0, 20, 0, 0), 0),
  (20, (.iload_n 1, 21, 1, 0), 0),
  (21, (.bipush (8), 23, 0, 0), 0),
  (23, (.idiv, 24, 0, 0), 0),
  (24, (.bipush (8), 26, 0, 0), 0),
  (26, (.idiv, 27, 0, 0), 0),
  (27, (.putfield 18, 30, 448, 0), 129),
  (30, (.return_, 31, 0, 0), 0)]
def fx_c16 : List fx_E := [
  (0, (.aload_n 0, 1, 0, 0), 0),
  (1, (.getfield 31, 4, 517, 41), 331),
  (4, (.iconst (0), 5, 0, 0), 0),
  (5, (.aaload, 6, 0, 0), 0),
  (6, (.astore_n 1, 7, 1, 0), 0),
  (7, (.iconst (1), 8, 0, 0), 0),
  (8, (.istore_n 2, 9, 2, 0), 0),
  (9, (.iload_n 2, 10, 2, 0), 0),
  (10, (.iconst (4), 11, 0, 0), 0),
  (11, (.if_icmp .ge (23), 14, 34, 0), 0),
  (14, (.aload_n 0, 15, 0, 0), 0),
  (15, (.getfield 31, 18, 517, 41), 331),
  (18, (.iload_n 2, 19, 2, 0), 0),
  (19, (.iconst (1), 20, 0, 0), 0),
  (20, (.isub, 21, 0, 0), 0),
  (21, (.aload_n 0, 22, 0, 0), 0),
  (22, (.getfield 31, 25, 517, 41), 331),
  (25, (.iload_n 2, 26, 2, 0), 0),
  (26, (.aaload, 27, 0, 0), 0),
  (27, (.aastore, 28, 0, 0), 0),
  (28, (.iinc 2 (1), 31, 2, 0), 0),
  (31, (.goto (-22), 34, 9, 0), 0),
  (34, (.aload_n 0, 35, 0, 0), 0),
  (35, (.getfield 31, 38, 517, 41), 331),
  (38, (.iconst (3), 39, 0, 0), 0),
  (39, (.aload_n 0, 40, 0, 0), 0),
  (40, (.getfield 21, 43, 514, 11), 326),
  (43, (.aastore, 44, 0, 0), 0),
  (44, (.aload_n 0, 45, 0, 0), 0),
  (45, (.aload_n 1, 46, 1, 0), 0),
  (46, (.putfield 21, 49, 514, 11), 326),
  (49, (.aload_n 0, 50, 0, 0), 0),
  (50, (.iconst (1), 51, 0, 0), 0),
  (51, (.putfield 43, 54, 515, 1), 328),
  (54, (.aload_n 0, 55, 0, 0), 0),
  (55, (.dup, 56, 0, 0), 0),
  (56, (.getfield 39, 59, 513, 0), 324),
  (59, (.iconst (1), 60, 0, 0), 0),
  (60, (.isub, 61, 0, 0), 0),
  (61, (.putfield 39, 64, 513, 0), 324),
  (64, (.aload_n 1, 65, 1, 0), 0),
  (65, (.getfield 84, 68, 67, 0), 289),
  (68, (.ireturn, 69, 0, 0), 0)]
def fx_c17 : List fx_E := [
  (0, (.aload_n 0, 1, 0, 0), 0),
  (1, (.getfield 31, 4, 517, 41), 331),
  (4, (.aload_n 0, 5, 0, 0), 0),
  (5, (.getfield 39, 8, 513, 0), 324),
  (8, (.aaload, 9, 0, 0), 0),
  (9, (.astore_n 3, 10, 3, 0), 0),
  (10, (.aload_n 3, 11, 3, 0), 0),
  (11, (.aload_n 1, 12, 1, 0), 0),
  (12, (.getfield 72, 15, 320, 0), 479),
  (15, (.putfield 75, 18, 64, 0), 283),
  (18, (.aload_n 3, 19, 3, 0), 0),
  (19, (.aload_n 1, 20, 1, 0), 0),
  (20, (.getfield 76, 23, 322, 0), 488),
  (23, (.putfield 79, 26, 65, 0), 285),
  (26, (.aload_n 3, 27, 3, 0), 0),
  (27, (.iload_n 2, 28, 2, 0), 0),
  (28, (.putfield 80, 31, 66, 0), 287),
  (31, (.aload_n 3, 32, 3, 0), 0),
  (32, (.aload_n 1, 33, 1, 0), 0),
  (33, (.getfield 81, 36, 323, 0), 490),
  (36, (.putfield 84, 39, 67, 0), 289),
  (39, (.aload_n 0, 40, 0, 0), 0),
  (40, (.dup, 41, 0, 0), 0),
  (41, (.getfield 39, 44, 513, 0), 324),
  (44, (.iconst (1), 45, 0, 0), 0),
  (45, (.iadd, 46, 0, 0), 0),
  (46, (.putfield 39, 49, 513, 0), 324),
  (49, (.return_, 50, 0, 0), 0)]
def fx_c18 : List fx_E := [
  (0, (.iconst (0), 1, 0, 0), 0),
  (1, (.istore_n 1, 2, 1, 0), 0),
  (2, (.iconst (0), 3, 0, 0), 0),
  (3, (.istore_n 2, 4, 2, 0), 0),
  (4, (.iload_n 2, 5, 2, 0), 0),
  (5, (.iconst (4), 6, 0, 0), 0),
  (6, (.if_icmp .ge (24), 9, 30, 0), 0),
  (9, (.aload_n 0, 10, 0, 0), 0),
  (10, (.getfield 27, 13, 516, 46), 330),
  (13, (.iload_n 2, 14, 2, 0), 0),
  (14, (.aaload, 15, 0, 0), 0),
  (15, (.getfield 48, 18, 384, 15), 308),
  (18, (.ifnull (6), 21, 24, 0), 0),
  (21, (.iinc 1 (1), 24, 1, 0), 0),
  (24, (.iinc 2 (1), 27, 2, 0), 0),
  (27, (.goto (-23), 30, 4, 0), 0),
  (30, (.iload_n 1, 31, 1, 0), 0),
  (31, (.ireturn, 32, 0, 0), 0)]
def fx_c19 : List fx_E := [
  (0, (.aload_n 1, 1, 1, 0), 0),
  (1, (.aconst_null, 2, 0, 0), 0),
  (2, (.putfield 7, 5, 331, 15), 508),
  (5, (.aload_n 0, 6, 0, 0), 0),
  (6, (.getfield 13, 9, 642, 15), 173),
  (9, (.ifnonnull (11), 12, 20, 0), 0),
  (12, (.aload_n 0, 13, 0, 0), 0),
  (13, (.aload_n 1, 14, 1, 0), 0),
  (14, (.putfield 18, 17, 640, 15), 169),
  (17, (.goto (11), 20, 28, 0), 0),
  (20, (.aload_n 0, 21, 0, 0), 0),
  (21, (.getfield 13, 24, 642, 15), 173),
  (24, (.aload_n 1, 25, 1, 0), 0),
  (25, (.putfield 7, 28, 331, 15), 508),
  (28, (.aload_n 0, 29, 0, 0), 0),
  (29, (.aload_n 1, 30, 1, 0), 0),
  (30, (.putfield 13, 33, 642, 15), 173),
  (33, (.aload_n 0, 34, 0, 0), 0),
  (34, (.dup, 35, 0, 0), 0),
  (35, (.getfield 21, 38, 641, 0), 171),
  (38, (.iconst (1), 39, 0, 0), 0),
  (39, (.iadd, 40, 0, 0), 0),
  (40, (.putfield 21, 43, 641, 0), 171),
  (43, (.return_, 44, 0, 0), 0)]
def fx_c20 : List fx_E := [
  (0, (.aload_n 0, 1, 0, 0), 0),
  (1, (.aconst_null, 2, 0, 0), 0),
  (2, (.putfield 18, 5, 640, 15), 169),
  (5, (.aload_n 0, 6, 0, 0), 0),
  (6, (.aconst_null, 7, 0, 0), 0),
  (7, (.putfield 13, 10, 642, 15), 173),
  (10, (.aload_n 0, 11, 0, 0), 0),
  (11, (.iconst (0), 12, 0, 0), 0),
  (12, (.putfield 21, 15, 641, 0), 171),
  (15, (.return_, 16, 0, 0), 0)]
def fx_c21 : List fx_E := [
  (0, (.aload_n 0, 1, 0, 0), 0),
  (1, (.getfield 18, 4, 640, 15), 169),
  (4, (.astore_n 1, 5, 1, 0), 0),
  (5, (.aload_n 1, 6, 1, 0), 0),
  (6, (.ifnonnull (5), 9, 11, 0), 0),
  (9, (.aconst_null, 10, 0, 0), 0),
  (10, (.areturn, 11, 0, 0), 0),
  (11, (.aload_n 0, 12, 0, 0), 0),
  (12, (.aload_n 1, 13, 1, 0), 0),
  (13, (.getfield 7, 16, 331, 15), 508),
  (16, (.putfield 18, 19, 640, 15), 169),
  (19, (.aload_n 0, 20, 0, 0), 0),
  (20, (.getfield 18, 23, 640, 15), 169),
  (23, (.ifnonnull (8), 26, 31, 0), 0),
  (26, (.aload_n 0, 27, 0, 0), 0),
  (27, (.aconst_null, 28, 0, 0), 0),
  (28, (.putfield 13, 31, 642, 15), 173),
  (31, (.aload_n 1, 32, 1, 0), 0),
  (32, (.aconst_null, 33, 0, 0), 0),
  (33, (.putfield 7, 36, 331, 15), 508),
  (36, (.aload_n 0, 37, 0, 0), 0),
  (37, (.dup, 38, 0, 0), 0),
  (38, (.getfield 21, 41, 641, 0), 171),
  (41, (.iconst (1), 42, 0, 0), 0),
  (42, (.isub, 43, 0, 0), 0),
  (43, (.putfield 21, 46, 641, 0), 171),
  (46, (.aload_n 1, 47, 1, 0), 0),
  (47, (.areturn, 48, 0, 0), 0)]
def fx_c22 : List fx_E := [
  (0, (.aload_n 0, 1, 0, 0), 0),
  (1, (.getfield 23, 4, 708, 45), 254),
  (4, (.aload_n 1, 5, 1, 0), 0),
  (5, (.getfield 77, 8, 324, 0), 493),
  (8, (.aconst_null, 9, 0, 0), 0),
  (9, (.aastore, 10, 0, 0), 0),
  (10, (.aload_n 0, 11, 0, 0), 0),
  (11, (.dup, 12, 0, 0), 0),
  (12, (.getfield 42, 15, 706, 0), 250),
  (15, (.iconst (1), 16, 0, 0), 0),
  (16, (.isub, 17, 0, 0), 0),
  (17, (.putfield 42, 20, 706, 0), 250),
  (20, (.return_, 21, 0, 0), 0)]
def fx_c23 : List fx_E := [
  (0, (.aload_n 0, 1, 0, 0), 0),
  (1, (.getfield 30, 4, 709, 15), 255),
  (4, (.ifnull (8), 7, 12, 0), 0),
  (7, (.aload_n 0, 8, 0, 0), 0),
  (8, (.getfield 30, 11, 709, 15), 255),
  (11, (.areturn, 12, 0, 0), 0),
  (12, (.aload_n 0, 13, 0, 0), 0),
  (13, (.getfield 18, 16, 705, 20), 248),
  (16, (.getfield 49, 19, 640, 15), 170),
  (19, (.ifnull (24), 22, 43, 0), 0),
  (22, (.aload_n 0, 23, 0, 0), 0),
  (23, (.getfield 18, 26, 705, 20), 248),
  (26, (.getfield 49, 29, 640, 15), 170),
  (29, (.getfield 52, 32, 327, 0), 501),
  (32, (.ifCond .ne (11), 35, 43, 0), 0),
  (35, (.aload_n 0, 36, 0, 0), 0),
  (36, (.getfield 18, 39, 705, 20), 248),
  (39, (.getfield 49, 42, 640, 15), 170),
  (42, (.areturn, 43, 0, 0), 0),
  (43, (.aload_n 0, 44, 0, 0), 0),
  (44, (.getfield 42, 47, 706, 0), 250),
  (47, (.bipush (8), 49, 0, 0), 0),
  (49, (.if_icmp .ge (13), 52, 62, 0), 0),
  (52, (.aload_n 0, 53, 0, 0), 0),
  (53, (.getfield 12, 56, 704, 20), 246),
  (56, (.getfield 49, 59, 640, 15), 170),
  (59, (.goto (4), 62, 63, 0), 0),
  (62, (.aconst_null, 63, 0, 0), 0),
  (63, (.areturn, 64, 0, 0), 0)]
def fx_c24 : List fx_E := [
  (0, (.iconst (0), 1, 0, 0), 0),
  (1, (.istore_n 2, 2, 2, 0), 0),
  (2, (.iload_n 2, 3, 2, 0), 0),
  (3, (.bipush (8), 5, 0, 0), 0),
  (5, (.if_icmp .ge (41), 8, 46, 0), 0),
  (8, (.aload_n 0, 9, 0, 0), 0),
  (9, (.getfield 23, 12, 708, 45), 254),
  (12, (.iload_n 2, 13, 2, 0), 0),
  (13, (.aaload, 14, 0, 0), 0),
  (14, (.ifnonnull (26), 17, 40, 0), 0),
  (17, (.aload_n 0, 18, 0, 0), 0),
  (18, (.getfield 23, 21, 708, 45), 254),
  (21, (.iload_n 2, 22, 2, 0), 0),
  (22, (.aload_n 1, 23, 1, 0), 0),
  (23, (.aastore, 24, 0, 0), 0),
  (24, (.aload_n 1, 25, 1, 0), 0),
  (25, (.iload_n 2, 26, 2, 0), 0),
  (26, (.putfield 77, 29, 324, 0), 493),
  (29, (.aload_n 0, 30, 0, 0), 0),
  (30, (.dup, 31, 0, 0), 0),
  (31, (.getfield 42, 34, 706, 0), 250),
  (34, (.iconst (1), 35, 0, 0), 0),
  (35, (.iadd, 36, 0, 0), 0),
  (36, (.putfield 42, 39, 706, 0), 250),
  (39, (.return_, 40, 0, 0), 0),
  (40, (.iinc 2 (1), 43, 2, 0), 0),
  (43, (.goto (-41), 46, 2, 0), 0),
  (46, (.return_, 47, 0, 0), 0)]
def fx_c25 : List fx_E := [
  (0, (.aload_n 0, 1, 0, 0), 0),
  (1, (.iconst (0), 2, 0, 0), 0),
  (2, (.putfield 130, 5, 768, 0), 879),
  (5, (.iload_n 1, 6, 1, 0), 0),
  (6, (.tableswitch (68) (0) (5) #[(38), (43), (48), (53), (58), (63)], 44, 74, 0), 0),
  (44, (.aload_n 0, 45, 0, 0), 0),
  (45, (.getfield 155, 48, 778, 0), 889),
  (48, (.ireturn, 49, 0, 0), 0),
  (49, (.aload_n 0, 50, 0, 0), 0),
  (50, (.getfield 161, 53, 816, 0), 927),
  (53, (.ireturn, 54, 0, 0), 0),
  (54, (.aload_n 0, 55, 0, 0), 0),
  (55, (.getfield 164, 58, 817, 0), 928),
  (58, (.ireturn, 59, 0, 0), 0),
  (59, (.aload_n 0, 60, 0, 0), 0),
  (60, (.getfield 149, 63, 773, 0), 884),
  (63, (.ireturn, 64, 0, 0), 0),
  (64, (.aload_n 0, 65, 0, 0), 0),
  (65, (.getfield 167, 68, 818, 0), 929),
  (68, (.ireturn, 69, 0, 0), 0),
  (69, (.aload_n 0, 70, 0, 0), 0),
  (70, (.getfield 152, 73, 774, 0), 885),
  (73, (.ireturn, 74, 0, 0), 0),
  (74, (.iconst (-1), 75, 0, 0), 0),
  (75, (.ireturn, 76, 0, 0), 0)]
def fx_c26 : List fx_E := [
  (0, (.iconst (4), 1, 0, 0), 0),
  (1, (.iload_n 1, 2, 1, 0), 0),
  (2, (.imul, 3, 0, 0), 0),
  (3, (.istore_n 2, 4, 2, 0), 0),
  (4, (.iload_n 2, 5, 2, 0), 0),
  (5, (.iconst (4), 6, 0, 0), 0),
  (6, (.iload_n 1, 7, 1, 0), 0),
  (7, (.imul, 8, 0, 0), 0),
  (8, (.iconst (4), 9, 0, 0), 0),
  (9, (.iadd, 10, 0, 0), 0),
  (10, (.if_icmp .ge (21), 13, 31, 0), 0),
  (13, (.aload_n 0, 14, 0, 0), 0),
  (14, (.getfield 77, 17, 799, 70), 910),
  (17, (.iload_n 2, 18, 2, 0), 0),
  (18, (.iaload, 19, 0, 0), 0),
  (19, (.iconst (-1), 20, 0, 0), 0),
  (20, (.if_icmp .ne (5), 23, 25, 0), 0),
  (23, (.iload_n 2, 24, 2, 0), 0),
  (24, (.ireturn, 25, 0, 0), 0),
  (25, (.iinc 2 (1), 28, 2, 0), 0),
  (28, (.goto (-24), 31, 4, 0), 0),
  (31, (.iconst (-1), 32, 0, 0), 0),
  (32, (.ireturn, 33, 0, 0), 0)]
def fx_c27 : List fx_E := [
  (0, (.iconst (0), 1, 0, 0), 0),
  (1, (.istore_n 1, 2, 1, 0), 0),
  (2, (.iload_n 1, 3, 1, 0), 0),
  (3, (.aload_n 0, 4, 0, 0), 0),
  (4, (.getfield 140, 7, 770, 0), 881),
  (7, (.if_icmp .ge (36), 10, 43, 0), 0),
  (10, (.aload_n 0, 11, 0, 0), 0),
  (11, (.getfield 152, 14, 774, 0), 885),
  (14, (.iload_n 1, 15, 1, 0), 0),
  (15, (.iadd, 16, 0, 0), 0),
  (16, (.aload_n 0, 17, 0, 0), 0),
  (17, (.getfield 140, 20, 770, 0), 881),
  (20, (.irem, 21, 0, 0), 0),
  (21, (.istore_n 2, 22, 2, 0), 0),
  (22, (.aload_n 0, 23, 0, 0), 0),
  (23, (.getfield 120, 26, 814, 70), 925),
  (26, (.iload_n 2, 27, 2, 0), 0),
  (27, (.iaload, 28, 0, 0), 0),
  (28, (.aload_n 0, 29, 0, 0), 0),
  (29, (.getfield 146, 32, 772, 0), 883),
  (32, (.if_icmp .lt (5), 35, 37, 0), 0),
  (35, (.iload_n 2, 36, 2, 0), 0),
  (36, (.ireturn, 37, 0, 0), 0),
  (37, (.iinc 1 (1), 40, 1, 0), 0),
  (40, (.goto (-38), 43, 2, 0), 0),
  (43, (.iconst (-1), 44, 0, 0), 0),
  (44, (.ireturn, 45, 0, 0), 0)]
def fx_c28 : List fx_E := [
  (0, (.iconst (0), 1, 0, 0), 0),
  (1, (.istore_n 2, 2, 2, 0), 0),
  (2, (.iconst (0), 3, 0, 0), 0),
  (3, (.istore_n 3, 4, 3, 0), 0),
  (4, (.iload_n 3, 5, 3, 0), 0),
  (5, (.aload_n 0, 6, 0, 0), 0),
  (6, (.getfield 155, 9, 778, 0), 889),
  (9, (.if_icmp .ge (27), 12, 36, 0), 0),
  (12, (.iload_n 2, 13, 2, 0), 0),
  (13, (.aload_n 0, 14, 0, 0), 0),
  (14, (.getfield 17, 17, 779, 70), 890),
  (17, (.iload_n 3, 18, 3, 0), 0),
  (18, (.iaload, 19, 0, 0), 0),
  (19, (.iload_n 1, 20, 1, 0), 0),
  (20, (.if_icmp .ne (7), 23, 27, 0), 0),
  (23, (.iconst (1), 24, 0, 0), 0),
  (24, (.goto (4), 27, 28, 0), 0),
  (27, (.iconst (0), 28, 0, 0), 0),
  (28, (.iadd, 29, 0, 0), 0),
  (29, (.istore_n 2, 30, 2, 0), 0),
  (30, (.iinc 3 (1), 33, 3, 0), 0),
  (33, (.goto (-29), 36, 4, 0), 0),
  (36, (.iload_n 2, 37, 2, 0), 0),
  (37, (.ireturn, 38, 0, 0), 0)]
def fx_c29 : List fx_E := [
  (0, (.iconst (0), 1, 0, 0), 0),
  (1, (.istore_n 2, 2, 2, 0), 0),
  (2, (.iload_n 2, 3, 2, 0), 0),
  (3, (.iconst (4), 4, 0, 0), 0),
  (4, (.if_icmp .ge (67), 7, 71, 0), 0),
  (7, (.iconst (0), 8, 0, 0), 0),
  (8, (.istore_n 3, 9, 3, 0), 0),
  (9, (.iconst (0), 10, 0, 0), 0),
  (10, (.istore 4, 12, 4, 0), 0),
  (12, (.iload 4, 14, 4, 0), 0),
  (14, (.aload_n 0, 15, 0, 0), 0),
  (15, (.getfield 155, 18, 778, 0), 889),
  (18, (.if_icmp .ge (41), 21, 59, 0), 0),
  (21, (.iload_n 3, 22, 3, 0), 0),
  (22, (.ifCond .ne (25), 25, 47, 0), 0),
  (25, (.aload_n 0, 26, 0, 0), 0),
  (26, (.getfield 17, 29, 779, 70), 890),
  (29, (.iload 4, 31, 4, 0), 0),
  (31, (.iaload, 32, 0, 0), 0),
  (32, (.iload_n 1, 33, 1, 0), 0),
  (33, (.if_icmp .ne (18), 36, 51, 0), 0),
  (36, (.aload_n 0, 37, 0, 0), 0),
  (37, (.getfield 20, 40, 780, 70), 891),
  (40, (.iload 4, 42, 4, 0), 0),
  (42, (.iaload, 43, 0, 0), 0),
  (43, (.iload_n 2, 44, 2, 0), 0),
  (44, (.if_icmp .ne (7), 47, 51, 0), 0),
  (47, (.iconst (1), 48, 0, 0), 0),
  (48, (.goto (4), 51, 52, 0), 0),
  (51, (.iconst (0), 52, 0, 0), 0),
  (52, (.istore_n 3, 53, 3, 0), 0),
  (53, (.iinc 4 (1), 56, 4, 0), 0),
  (56, (.goto (-44), 59, 12, 0), 0),
  (59, (.iload_n 3, 60, 3, 0), 0),
  (60, (.ifCond .ne (5), 63, 65, 0), 0),
  (63, (.iload_n 2, 64, 2, 0), 0),
  (64, (.ireturn, 65, 0, 0), 0),
  (65, (.iinc 2 (1), 68, 2, 0), 0),
  (68, (.goto (-66), 71, 2, 0), 0),
  (71, (.iconst (-1), 72, 0, 0), 0),
  (72, (.ireturn, 73, 0, 0), 0)]
def fx_c30 : List fx_E := [
  (0, (.iconst (0), 1, 0, 0), 0),
  (1, (.istore_n 2, 2, 2, 0), 0),
  (2, (.iload_n 2, 3, 2, 0), 0),
  (3, (.bipush (8), 5, 0, 0), 0),
  (5, (.if_icmp .ge (30), 8, 35, 0), 0),
  (8, (.aload_n 0, 9, 0, 0), 0),
  (9, (.getfield 56, 12, 792, 70), 903),
  (12, (.bipush (8), 14, 0, 0), 0),
  (14, (.iload_n 1, 15, 1, 0), 0),
  (15, (.imul, 16, 0, 0), 0),
  (16, (.iload_n 2, 17, 2, 0), 0),
  (17, (.iadd, 18, 0, 0), 0),
  (18, (.iaload, 19, 0, 0), 0),
  (19, (.ifCond .ne (10), 22, 29, 0), 0),
  (22, (.bipush (8), 24, 0, 0), 0),
  (24, (.iload_n 1, 25, 1, 0), 0),
  (25, (.imul, 26, 0, 0), 0),
  (26, (.iload_n 2, 27, 2, 0), 0),
  (27, (.iadd, 28, 0, 0), 0),
  (28, (.ireturn, 29, 0, 0), 0),
  (29, (.iinc 2 (1), 32, 2, 0), 0),
  (32, (.goto (-30), 35, 2, 0), 0),
  (35, (.iconst (-1), 36, 0, 0), 0),
  (36, (.ireturn, 37, 0, 0), 0)]
def fx_c31 : List fx_E := [
  (0, (.aload_n 0, 1, 0, 0), 0),
  (1, (.getfield 53, 4, 791, 70), 902),
  (4, (.bipush (8), 6, 0, 0), 0),
  (6, (.aload_n 0, 7, 0, 0), 0),
  (7, (.getfield 23, 10, 781, 70), 892),
  (10, (.iload_n 1, 11, 1, 0), 0),
  (11, (.iaload, 12, 0, 0), 0),
  (12, (.imul, 13, 0, 0), 0),
  (13, (.aload_n 0, 14, 0, 0), 0),
  (14, (.getfield 26, 17, 782, 70), 893),
  (17, (.iload_n 1, 18, 1, 0), 0),
  (18, (.iaload, 19, 0, 0), 0),
  (19, (.iadd, 20, 0, 0), 0),
  (20, (.iaload, 21, 0, 0), 0),
  (21, (.ireturn, 22, 0, 0), 0)]
def fx_c32 : List fx_E := [
  (0, (.aload_n 0, 1, 0, 0), 0),
  (1, (.getfield 149, 4, 773, 0), 884),
  (4, (.iconst (2), 5, 0, 0), 0),
  (5, (.aload_n 0, 6, 0, 0), 0),
  (6, (.getfield 174, 9, 777, 0), 888),
  (9, (.bipush (8), 11, 0, 0), 0),
  (11, (.iadd, 12, 0, 0), 0),
  (12, (.imul, 13, 0, 0), 0),
  (13, (.idiv, 14, 0, 0), 0),
  (14, (.aload_n 0, 15, 0, 0), 0),
  (15, (.getfield 140, 18, 770, 0), 881),
  (18, (.bipush (64), 20, 0, 0), 0),
  (20, (.imul, 21, 0, 0), 0),
  (21, (.irem, 22, 0, 0), 0),
  (22, (.ireturn, 23, 0, 0), 0)]
def fx_c33 : List fx_E := [
  (0, (.iconst (0), 1, 0, 0), 0),
  (1, (.istore_n 3, 2, 3, 0), 0),
  (2, (.iload_n 3, 3, 3, 0), 0),
  (3, (.aload_n 0, 4, 0, 0), 0),
  (4, (.getfield 155, 7, 778, 0), 889),
  (7, (.if_icmp .ge (31), 10, 38, 0), 0),
  (10, (.aload_n 0, 11, 0, 0), 0),
  (11, (.getfield 17, 14, 779, 70), 890),
  (14, (.iload_n 3, 15, 3, 0), 0),
  (15, (.iaload, 16, 0, 0), 0),
  (16, (.iload_n 1, 17, 1, 0), 0),
  (17, (.if_icmp .ne (15), 20, 32, 0), 0),
  (20, (.aload_n 0, 21, 0, 0), 0),
  (21, (.getfield 38, 24, 786, 70), 897),
  (24, (.iload_n 3, 25, 3, 0), 0),
  (25, (.iaload, 26, 0, 0), 0),
  (26, (.iload_n 2, 27, 2, 0), 0),
  (27, (.if_icmp .ne (5), 30, 32, 0), 0),
  (30, (.iconst (1), 31, 0, 0), 0),
  (31, (.ireturn, 32, 0, 0), 0),
  (32, (.iinc 3 (1), 35, 3, 0), 0),
  (35, (.goto (-33), 38, 2, 0), 0),
  (38, (.iconst (0), 39, 0, 0), 0),
  (39, (.ireturn, 40, 0, 0), 0)]
def fx_c34 : List fx_E := [
  (0, (.iload_n 1, 1, 1, 0), 0),
  (1, (.ifCond .lt (15), 4, 16, 0), 0),
  (4, (.iload_n 1, 5, 1, 0), 0),
  (5, (.aload_n 0, 6, 0, 0), 0),
  (6, (.getfield 140, 9, 770, 0), 881),
  (9, (.if_icmp .ge (7), 12, 16, 0), 0),
  (12, (.iconst (1), 13, 0, 0), 0),
  (13, (.goto (4), 16, 17, 0), 0),
  (16, (.iconst (0), 17, 0, 0), 0),
  (17, (.ireturn, 18, 0, 0), 0)]
def fx_c35 : List fx_E := [
  (0, (.iconst (0), 1, 0, 0), 0),
  (1, (.istore_n 2, 2, 2, 0), 0),
  (2, (.iload_n 2, 3, 2, 0), 0),
  (3, (.aload_n 0, 4, 0, 0), 0),
  (4, (.getfield 155, 7, 778, 0), 889),
  (7, (.if_icmp .ge (31), 10, 38, 0), 0),
  (10, (.bipush (8), 12, 0, 0), 0),
  (12, (.aload_n 0, 13, 0, 0), 0),
  (13, (.getfield 23, 16, 781, 70), 892),
  (16, (.iload_n 2, 17, 2, 0), 0),
  (17, (.iaload, 18, 0, 0), 0),
  (18, (.imul, 19, 0, 0), 0),
  (19, (.aload_n 0, 20, 0, 0), 0),
  (20, (.getfield 26, 23, 782, 70), 893),
  (23, (.iload_n 2, 24, 2, 0), 0),
  (24, (.iaload, 25, 0, 0), 0),
  (25, (.iadd, 26, 0, 0), 0),
  (26, (.iload_n 1, 27, 1, 0), 0),
  (27, (.if_icmp .ne (5), 30, 32, 0), 0),
  (30, (.iconst (1), 31, 0, 0), 0),
  (31, (.ireturn, 32, 0, 0), 0),
  (32, (.iinc 2 (1), 35, 2, 0), 0),
  (35, (.goto (-33), 38, 2, 0), 0),
  (38, (.iconst (0), 39, 0, 0), 0),
  (39, (.ireturn, 40, 0, 0), 0)]
def fx_c36 : List fx_E := [
  (0, (.iload_n 2, 1, 2, 0), 0),
  (1, (.iload_n 0, 2, 0, 0), 0),
  (2, (.if_icmp .ne (7), 5, 9, 0), 0),
  (5, (.iload_n 1, 6, 1, 0), 0),
  (6, (.goto (4), 9, 10, 0), 0),
  (9, (.iload_n 0, 10, 0, 0), 0),
  (10, (.ireturn, 11, 0, 0), 0)]
def fx_c37 : List fx_E := [
  (0, (.iload_n 1, 1, 1, 0), 0),
  (1, (.aload_n 0, 2, 0, 0), 0),
  (2, (.getfield 137, 5, 769, 0), 880),
  (5, (.irem, 6, 0, 0), 0),
  (6, (.istore_n 3, 7, 3, 0), 0),
  (7, (.iload_n 1, 8, 1, 0), 0),
  (8, (.aload_n 0, 9, 0, 0), 0),
  (9, (.getfield 137, 12, 769, 0), 880),
  (12, (.idiv, 13, 0, 0), 0),
  (13, (.istore 4, 15, 4, 0), 0),
  (15, (.iload_n 2, 16, 2, 0), 0),
  (16, (.ifCond .ne (12), 19, 28, 0), 0),
  (19, (.iload_n 3, 20, 3, 0), 0),
  (20, (.iconst (1), 21, 0, 0), 0),
  (21, (.iadd, 22, 0, 0), 0),
  (22, (.aload_n 0, 23, 0, 0), 0),
  (23, (.getfield 137, 26, 769, 0), 880),
  (26, (.irem, 27, 0, 0), 0),
  (27, (.istore_n 3, 28, 3, 0), 0),
  (28, (.iload_n 2, 29, 2, 0), 0),
  (29, (.iconst (1), 30, 0, 0), 0),
  (30, (.if_icmp .ne (17), 33, 47, 0), 0),
  (33, (.iload_n 3, 34, 3, 0), 0),
  (34, (.aload_n 0, 35, 0, 0), 0),
  (35, (.getfield 137, 38, 769, 0), 880),
  (38, (.iadd, 39, 0, 0), 0),
  (39, (.iconst (1), 40, 0, 0), 0),
  (40, (.isub, 41, 0, 0), 0),
  (41, (.aload_n 0, 42, 0, 0), 0),
  (42, (.getfield 137, 45, 769, 0), 880),
  (45, (.irem, 46, 0, 0), 0),
  (46, (.istore_n 3, 47, 3, 0), 0),
  (47, (.iload_n 2, 48, 2, 0), 0),
  (48, (.iconst (2), 49, 0, 0), 0),
  (49, (.if_icmp .ne (14), 52, 63, 0), 0),
  (52, (.iload 4, 54, 4, 0), 0),
  (54, (.iconst (1), 55, 0, 0), 0),
  (55, (.iadd, 56, 0, 0), 0),
  (56, (.aload_n 0, 57, 0, 0), 0),
  (57, (.getfield 137, 60, 769, 0), 880),
  (60, (.irem, 61, 0, 0), 0),
  (61, (.istore 4, 63, 4, 0), 0),
  (63, (.iload_n 2, 64, 2, 0), 0),
  (64, (.iconst (3), 65, 0, 0), 0),
  (65, (.if_icmp .ne (19), 68, 84, 0), 0),
  (68, (.iload 4, 70, 4, 0), 0),
  (70, (.aload_n 0, 71, 0, 0), 0),
  (71, (.getfield 137, 74, 769, 0), 880),
  (74, (.iadd, 75, 0, 0), 0),
  (75, (.iconst (1), 76, 0, 0), 0),
  (76, (.isub, 77, 0, 0), 0),
  (77, (.aload_n 0, 78, 0, 0), 0),
  (78, (.getfield 137, 81, 769, 0), 880),
  (81, (.irem, 82, 0, 0), 0),
  (82, (.istore 4, 84, 4, 0), 0),
  (84, (.iload 4, 86, 4, 0), 0),
  (86, (.aload_n 0, 87, 0, 0), 0),
  (87, (.getfield 137, 90, 769, 0), 880),
  (90, (.imul, 91, 0, 0), 0),
  (91, (.iload_n 3, 92, 3, 0), 0),
  (92, (.iadd, 93, 0, 0), 0),
  (93, (.ireturn, 94, 0, 0), 0)]
def fx_c38 : List fx_E := [
  (0, (.aload_n 0, 1, 0, 0), 0),
  (1, (.getfield 111, 4, 811, 70), 922),
  (4, (.aload_n 0, 5, 0, 0), 0),
  (5, (.getfield 158, 8, 810, 0), 921),
  (8, (.iload_n 2, 9, 2, 0), 0),
  (9, (.iastore, 10, 0, 0), 0),
  (10, (.aload_n 0, 11, 0, 0), 0),
  (11, (.getfield 114, 14, 812, 71), 923),
  (14, (.aload_n 0, 15, 0, 0), 0),
  (15, (.getfield 158, 18, 810, 0), 921),
  (18, (.iload_n 3, 19, 3, 0), 0),
  (19, (.bastore, 20, 0, 0), 0),
  (20, (.aload_n 0, 21, 0, 0), 0),
  (21, (.getfield 117, 24, 813, 70), 924),
  (24, (.aload_n 0, 25, 0, 0), 0),
  (25, (.getfield 158, 28, 810, 0), 921),
  (28, (.aload_n 0, 29, 0, 0), 0),
  (29, (.getfield 149, 32, 773, 0), 884),
  (32, (.aload_n 0, 33, 0, 0), 0),
  (33, (.getfield 13, 36, 776, 70), 887),
  (36, (.bipush (64), 38, 0, 0), 0),
  (38, (.iload_n 1, 39, 1, 0), 0),
  (39, (.imul, 40, 0, 0), 0),
  (40, (.iload_n 2, 41, 2, 0), 0),
  (41, (.bipush (8), 43, 0, 0), 0),
  (43, (.idiv, 44, 0, 0), 0),
  (44, (.iadd, 45, 0, 0), 0),
  (45, (.iaload, 46, 0, 0), 0),
  (46, (.iadd, 47, 0, 0), 0),
  (47, (.iastore, 48, 0, 0), 0),
  (48, (.aload_n 0, 49, 0, 0), 0),
  (49, (.dup, 50, 0, 0), 0),
  (50, (.getfield 158, 53, 810, 0), 921),
  (53, (.iconst (1), 54, 0, 0), 0),
  (54, (.iadd, 55, 0, 0), 0),
  (55, (.putfield 158, 58, 810, 0), 921),
  (58, (.return_, 59, 0, 0), 0)]
def fx_c39 : List fx_E := [
  (0, (.iconst (0), 1, 0, 0), 0),
  (1, (.istore_n 3, 2, 3, 0), 0),
  (2, (.iload_n 3, 3, 3, 0), 0),
  (3, (.aload_n 0, 4, 0, 0), 0),
  (4, (.getfield 155, 7, 778, 0), 889),
  (7, (.if_icmp .ge (31), 10, 38, 0), 0),
  (10, (.aload_n 0, 11, 0, 0), 0),
  (11, (.getfield 17, 14, 779, 70), 890),
  (14, (.iload_n 3, 15, 3, 0), 0),
  (15, (.iaload, 16, 0, 0), 0),
  (16, (.iload_n 1, 17, 1, 0), 0),
  (17, (.if_icmp .ne (15), 20, 32, 0), 0),
  (20, (.aload_n 0, 21, 0, 0), 0),
  (21, (.getfield 20, 24, 780, 70), 891),
  (24, (.iload_n 3, 25, 3, 0), 0),
  (25, (.iaload, 26, 0, 0), 0),
  (26, (.iload_n 2, 27, 2, 0), 0),
  (27, (.if_icmp .ne (5), 30, 32, 0), 0),
  (30, (.iload_n 3, 31, 3, 0), 0),
  (31, (.ireturn, 32, 0, 0), 0),
  (32, (.iinc 3 (1), 35, 3, 0), 0),
  (35, (.goto (-33), 38, 2, 0), 0),
  (38, (.iconst (-1), 39, 0, 0), 0),
  (39, (.ireturn, 40, 0, 0), 0)]
def fx_c40 : List fx_E := [
  (0, (.iconst (0), 1, 0, 0), 0),
  (1, (.istore_n 2, 2, 2, 0), 0),
  (2, (.iconst (0), 3, 0, 0), 0),
  (3, (.istore_n 3, 4, 3, 0), 0),
  (4, (.iload_n 3, 5, 3, 0), 0),
  (5, (.iconst (4), 6, 0, 0), 0),
  (6, (.if_icmp .ge (30), 9, 36, 0), 0),
  (9, (.iload_n 2, 10, 2, 0), 0),
  (10, (.aload_n 0, 11, 0, 0), 0),
  (11, (.getfield 7, 14, 775, 71), 886),
  (14, (.iconst (4), 15, 0, 0), 0),
  (15, (.iload_n 1, 16, 1, 0), 0),
  (16, (.imul, 17, 0, 0), 0),
  (17, (.iload_n 3, 18, 3, 0), 0),
  (18, (.iadd, 19, 0, 0), 0),
  (19, (.baload, 20, 0, 0), 0),
  (20, (.ifCond .eq (7), 23, 27, 0), 0),
  (23, (.iconst (0), 24, 0, 0), 0),
  (24, (.goto (4), 27, 28, 0), 0),
  (27, (.iconst (1), 28, 0, 0), 0),
  (28, (.iadd, 29, 0, 0), 0),
  (29, (.istore_n 2, 30, 2, 0), 0),
  (30, (.iinc 3 (1), 33, 3, 0), 0),
  (33, (.goto (-29), 36, 4, 0), 0),
  (36, (.iload_n 2, 37, 2, 0), 0),
  (37, (.ireturn, 38, 0, 0), 0)]
def fx_c41 : List fx_E := [
  (0, (.iconst (4), 1, 0, 0), 0),
  (1, (.iload_n 1, 2, 1, 0), 0),
  (2, (.imul, 3, 0, 0), 0),
  (3, (.istore 4, 5, 4, 0), 0),
  (5, (.iload 4, 7, 4, 0), 0),
  (7, (.iconst (4), 8, 0, 0), 0),
  (8, (.iload_n 1, 9, 1, 0), 0),
  (9, (.imul, 10, 0, 0), 0),
  (10, (.iconst (4), 11, 0, 0), 0),
  (11, (.iadd, 12, 0, 0), 0),
  (12, (.if_icmp .ge (34), 15, 46, 0), 0),
  (15, (.aload_n 0, 16, 0, 0), 0),
  (16, (.getfield 77, 19, 799, 70), 910),
  (19, (.iload 4, 21, 4, 0), 0),
  (21, (.iaload, 22, 0, 0), 0),
  (22, (.iload_n 2, 23, 2, 0), 0),
  (23, (.if_icmp .ne (17), 26, 40, 0), 0),
  (26, (.aload_n 0, 27, 0, 0), 0),
  (27, (.getfield 80, 30, 800, 70), 911),
  (30, (.iload 4, 32, 4, 0), 0),
  (32, (.iaload, 33, 0, 0), 0),
  (33, (.iload_n 3, 34, 3, 0), 0),
  (34, (.if_icmp .ne (6), 37, 40, 0), 0),
  (37, (.iload 4, 39, 4, 0), 0),
  (39, (.ireturn, 40, 0, 0), 0),
  (40, (.iinc 4 (1), 43, 4, 0), 0),
  (43, (.goto (-38), 46, 5, 0), 0),
  (46, (.iconst (-1), 47, 0, 0), 0),
  (47, (.ireturn, 48, 0, 0), 0)]
def fx_c42 : List fx_E := [
  (0, (.aload_n 0, 1, 0, 0), 0),
  (1, (.dup, 2, 0, 0), 0),
  (2, (.getfield 155, 5, 778, 0), 889),
  (5, (.iconst (1), 6, 0, 0), 0),
  (6, (.isub, 7, 0, 0), 0),
  (7, (.putfield 155, 10, 778, 0), 889),
  (10, (.aload_n 0, 11, 0, 0), 0),
  (11, (.getfield 17, 14, 779, 70), 890),
  (14, (.iload_n 1, 15, 1, 0), 0),
  (15, (.aload_n 0, 16, 0, 0), 0),
  (16, (.getfield 17, 19, 779, 70), 890),
  (19, (.aload_n 0, 20, 0, 0), 0),
  (20, (.getfield 155, 23, 778, 0), 889),
  (23, (.iaload, 24, 0, 0), 0),
  (24, (.iastore, 25, 0, 0), 0),
  (25, (.aload_n 0, 26, 0, 0), 0),
  (26, (.getfield 20, 29, 780, 70), 891),
  (29, (.iload_n 1, 30, 1, 0), 0),
  (30, (.aload_n 0, 31, 0, 0), 0),
  (31, (.getfield 20, 34, 780, 70), 891),
  (34, (.aload_n 0, 35, 0, 0), 0),
  (35, (.getfield 155, 38, 778, 0), 889),
  (38, (.iaload, 39, 0, 0), 0),
  (39, (.iastore, 40, 0, 0), 0),
  (40, (.aload_n 0, 41, 0, 0), 0),
  (41, (.getfield 23, 44, 781, 70), 892),
  (44, (.iload_n 1, 45, 1, 0), 0),
  (45, (.aload_n 0, 46, 0, 0), 0),
  (46, (.getfield 23, 49, 781, 70), 892),
  (49, (.aload_n 0, 50, 0, 0), 0),
  (50, (.getfield 155, 53, 778, 0), 889),
  (53, (.iaload, 54, 0, 0), 0),
  (54, (.iastore, 55, 0, 0), 0),
  (55, (.aload_n 0, 56, 0, 0), 0),
  (56, (.getfield 26, 59, 782, 70), 893),
  (59, (.iload_n 1, 60, 1, 0), 0),
  (60, (.aload_n 0, 61, 0, 0), 0),
  (61, (.getfield 26, 64, 782, 70), 893),
  (64, (.aload_n 0, 65, 0, 0), 0),
  (65, (.getfield 155, 68, 778, 0), 889),
  (68, (.iaload, 69, 0, 0), 0),
  (69, (.iastore, 70, 0, 0), 0),
  (70, (.aload_n 0, 71, 0, 0), 0),
  (71, (.getfield 29, 74, 783, 70), 894),
  (74, (.iload_n 1, 75, 1, 0), 0),
  (75, (.aload_n 0, 76, 0, 0), 0),
  (76, (.getfield 29, 79, 783, 70), 894),
  (79, (.aload_n 0, 80, 0, 0), 0),
  (80, (.getfield 155, 83, 778, 0), 889),
  (83, (.iaload, 84, 0, 0), 0),
  (84, (.iastore, 85, 0, 0), 0),
  (85, (.aload_n 0, 86, 0, 0), 0),
  (86, (.getfield 32, 89, 784, 70), 895),
  (89, (.iload_n 1, 90, 1, 0), 0),
  (90, (.aload_n 0, 91, 0, 0), 0),
  (91, (.getfield 32, 94, 784, 70), 895),
  (94, (.aload_n 0, 95, 0, 0), 0),
  (95, (.getfield 155, 98, 778, 0), 889),
  (98, (.iaload, 99, 0, 0), 0),
  (99, (.iastore, 100, 0, 0), 0),
  (100, (.aload_n 0, 101, 0, 0), 0),
  (101, (.getfield 35, 104, 785, 70), 896),
  (104, (.iload_n 1, 105, 1, 0), 0),
  (105, (.aload_n 0, 106, 0, 0), 0),
  (106, (.getfield 35, 109, 785, 70), 896),
  (109, (.aload_n 0, 110, 0, 0), 0),
  (110, (.getfield 155, 113, 778, 0), 889),
  (113, (.iaload, 114, 0, 0), 0),
  (114, (.iastore, 115, 0, 0), 0),
  (115, (.aload_n 0, 116, 0, 0), 0),
  (116, (.getfield 38, 119, 786, 70), 897),
  (119, (.iload_n 1, 120, 1, 0), 0),
  (120, (.aload_n 0, 121, 0, 0), 0),
  (121, (.getfield 38, 124, 786, 70), 897),
  (124, (.aload_n 0, 125, 0, 0), 0),
  (125, (.getfield 155, 128, 778, 0), 889),
  (128, (.iaload, 129, 0, 0), 0),
  (129, (.iastore, 130, 0, 0), 0),
  (130, (.return_, 131, 0, 0), 0)]
def fx_c43 : List fx_E := [
  (0, (.iconst (0), 1, 0, 0), 0),
  (1, (.istore_n 1, 2, 1, 0), 0),
  (2, (.iconst (0), 3, 0, 0), 0),
  (3, (.istore_n 2, 4, 2, 0), 0),
  (4, (.iload_n 2, 5, 2, 0), 0),
  (5, (.aload_n 0, 6, 0, 0), 0),
  (6, (.getfield 158, 9, 810, 0), 921),
  (9, (.if_icmp .ge (138), 12, 147, 0), 0),
  (12, (.aload_n 0, 13, 0, 0), 0),
  (13, (.getfield 111, 16, 811, 70), 922),
  (16, (.iload_n 2, 17, 2, 0), 0),
  (17, (.iaload, 18, 0, 0), 0),
  (18, (.istore_n 3, 19, 3, 0), 0),
  (19, (.aload_n 0, 20, 0, 0), 0),
  (20, (.getfield 117, 23, 813, 70), 924),
  (23, (.iload_n 2, 24, 2, 0), 0),
  (24, (.iaload, 25, 0, 0), 0),
  (25, (.aload_n 0, 26, 0, 0), 0),
  (26, (.getfield 149, 29, 773, 0), 884),
  (29, (.if_icmp .le (40), 32, 69, 0), 0),
  (32, (.aload_n 0, 33, 0, 0), 0),
  (33, (.getfield 111, 36, 811, 70), 922),
  (36, (.iload_n 1, 37, 1, 0), 0),
  (37, (.iload_n 3, 38, 3, 0), 0),
  (38, (.iastore, 39, 0, 0), 0),
  (39, (.aload_n 0, 40, 0, 0), 0),
  (40, (.getfield 114, 43, 812, 71), 923),
  (43, (.iload_n 1, 44, 1, 0), 0),
  (44, (.aload_n 0, 45, 0, 0), 0),
  (45, (.getfield 114, 48, 812, 71), 923),
  (48, (.iload_n 2, 49, 2, 0), 0),
  (49, (.baload, 50, 0, 0), 0),
  (50, (.bastore, 51, 0, 0), 0),
  (51, (.aload_n 0, 52, 0, 0), 0),
  (52, (.getfield 117, 55, 813, 70), 924),
  (55, (.iload_n 1, 56, 1, 0), 0),
  (56, (.aload_n 0, 57, 0, 0), 0),
  (57, (.getfield 117, 60, 813, 70), 924),
  (60, (.iload_n 2, 61, 2, 0), 0),
  (61, (.iaload, 62, 0, 0), 0),
  (62, (.iastore, 63, 0, 0), 0),
  (63, (.iinc 1 (1), 66, 1, 0), 0),
  (66, (.goto (75), 69, 141, 0), 0),
  (69, (.aload_n 0, 70, 0, 0), 0),
  (70, (.getfield 114, 73, 812, 71), 923),
  (73, (.iload_n 2, 74, 2, 0), 0),
  (74, (.baload, 75, 0, 0), 0),
  (75, (.ifCond .eq (13), 78, 88, 0), 0),
  (78, (.aload_n 0, 79, 0, 0), 0),
  (79, (.getfield 56, 82, 792, 70), 903),
  (82, (.iload_n 3, 83, 3, 0), 0),
  (83, (.iconst (0), 84, 0, 0), 0),
  (84, (.iastore, 85, 0, 0), 0),
  (85, (.goto (56), 88, 141, 0), 0),
  (88, (.aload_n 0, 89, 0, 0), 0),
  (89, (.getfield 62, 92, 794, 70), 905),
  (92, (.iload_n 3, 93, 3, 0), 0),
  (93, (.dup2, 94, 0, 0), 0),
  (94, (.iaload, 95, 0, 0), 0),
  (95, (.iconst (1), 96, 0, 0), 0),
  (96, (.iadd, 97, 0, 0), 0),
  (97, (.iastore, 98, 0, 0), 0),
  (98, (.aload_n 0, 99, 0, 0), 0),
  (99, (.getfield 65, 102, 795, 70), 906),
  (102, (.iload_n 3, 103, 3, 0), 0),
  (103, (.iconst (0), 104, 0, 0), 0),
  (104, (.iastore, 105, 0, 0), 0),
  (105, (.iload_n 3, 106, 3, 0), 0),
  (106, (.bipush (8), 108, 0, 0), 0),
  (108, (.idiv, 109, 0, 0), 0),
  (109, (.istore 4, 111, 4, 0), 0),
  (111, (.aload_n 0, 112, 0, 0), 0),
  (112, (.getfield 74, 115, 798, 70), 909),
  (115, (.bipush (8), 117, 0, 0), 0),
  (117, (.iload 4, 119, 4, 0), 0),
  (119, (.imul, 120, 0, 0), 0),
  (120, (.aload_n 0, 121, 0, 0), 0),
  (121, (.getfield 71, 124, 797, 70), 908),
  (124, (.iload 4, 126, 4, 0), 0),
  (126, (.iaload, 127, 0, 0), 0),
  (127, (.iadd, 128, 0, 0), 0),
  (128, (.iload_n 3, 129, 3, 0), 0),
  (129, (.iastore, 130, 0, 0), 0),
  (130, (.aload_n 0, 131, 0, 0), 0),
  (131, (.getfield 71, 134, 797, 70), 908),
  (134, (.iload 4, 136, 4, 0), 0),
  (136, (.dup2, 137, 0, 0), 0),
  (137, (.iaload, 138, 0, 0), 0),
  (138, (.iconst (1), 139, 0, 0), 0),
  (139, (.iadd, 140, 0, 0), 0),
  (140, (.iastore, 141, 0, 0), 0),
  (141, (.iinc 2 (1), 144, 2, 0), 0),
  (144, (.goto (-140), 147, 4, 0), 0),
  (147, (.aload_n 0, 148, 0, 0), 0),
  (148, (.iload_n 1, 149, 1, 0), 0),
  (149, (.putfield 158, 152, 810, 0), 921),
  (152, (.return_, 153, 0, 0), 0)]
def fx_c44 : List fx_E := [
  (0, (.aload_n 0, 1, 0, 0), 0),
  (1, (.getfield 130, 4, 768, 0), 879),
  (4, (.ireturn, 5, 0, 0), 0)]
def fx_c45 : List fx_E := [
  (0, (.bipush (8), 2, 0, 0), 0),
  (2, (.iload_n 1, 3, 1, 0), 0),
  (3, (.imul, 4, 0, 0), 0),
  (4, (.istore_n 2, 5, 2, 0), 0),
  (5, (.iload_n 2, 6, 2, 0), 0),
  (6, (.bipush (8), 8, 0, 0), 0),
  (8, (.iload_n 1, 9, 1, 0), 0),
  (9, (.imul, 10, 0, 0), 0),
  (10, (.bipush (8), 12, 0, 0), 0),
  (12, (.iadd, 13, 0, 0), 0),
  (13, (.if_icmp .ge (44), 16, 57, 0), 0),
  (16, (.aload_n 0, 17, 0, 0), 0),
  (17, (.getfield 56, 20, 792, 70), 903),
  (20, (.iload_n 2, 21, 2, 0), 0),
  (21, (.iaload, 22, 0, 0), 0),
  (22, (.ifCond .le (29), 25, 51, 0), 0),
  (25, (.aload_n 0, 26, 0, 0), 0),
  (26, (.getfield 65, 29, 795, 70), 906),
  (29, (.iload_n 2, 30, 2, 0), 0),
  (30, (.iaload, 31, 0, 0), 0),
  (31, (.ifCond .le (20), 34, 51, 0), 0),
  (34, (.aload_n 0, 35, 0, 0), 0),
  (35, (.getfield 65, 38, 795, 70), 906),
  (38, (.iload_n 2, 39, 2, 0), 0),
  (39, (.iaload, 40, 0, 0), 0),
  (40, (.aload_n 0, 41, 0, 0), 0),
  (41, (.getfield 56, 44, 792, 70), 903),
  (44, (.iload_n 2, 45, 2, 0), 0),
  (45, (.iaload, 46, 0, 0), 0),
  (46, (.if_icmp .ge (5), 49, 51, 0), 0),
  (49, (.iload_n 2, 50, 2, 0), 0),
  (50, (.ireturn, 51, 0, 0), 0),
  (51, (.iinc 2 (1), 54, 2, 0), 0),
  (54, (.goto (-49), 57, 5, 0), 0),
  (57, (.iconst (-1), 58, 0, 0), 0),
  (58, (.ireturn, 59, 0, 0), 0)]
def fx_c46 : List fx_E := [
  (0, (.iconst (0), 1, 0, 0), 0),
  (1, (.istore_n 2, 2, 2, 0), 0),
  (2, (.iconst (0), 3, 0, 0), 0),
  (3, (.istore_n 3, 4, 3, 0), 0),
  (4, (.iload_n 3, 5, 3, 0), 0),
  (5, (.bipush (8), 7, 0, 0), 0),
  (7, (.if_icmp .ge (31), 10, 38, 0), 0),
  (10, (.iload_n 2, 11, 2, 0), 0),
  (11, (.aload_n 0, 12, 0, 0), 0),
  (12, (.getfield 56, 15, 792, 70), 903),
  (15, (.bipush (8), 17, 0, 0), 0),
  (17, (.iload_n 1, 18, 1, 0), 0),
  (18, (.imul, 19, 0, 0), 0),
  (19, (.iload_n 3, 20, 3, 0), 0),
  (20, (.iadd, 21, 0, 0), 0),
  (21, (.iaload, 22, 0, 0), 0),
  (22, (.ifCond .le (7), 25, 29, 0), 0),
  (25, (.iconst (1), 26, 0, 0), 0),
  (26, (.goto (4), 29, 30, 0), 0),
  (29, (.iconst (0), 30, 0, 0), 0),
  (30, (.iadd, 31, 0, 0), 0),
  (31, (.istore_n 2, 32, 2, 0), 0),
  (32, (.iinc 3 (1), 35, 3, 0), 0),
  (35, (.goto (-31), 38, 4, 0), 0),
  (38, (.iload_n 2, 39, 2, 0), 0),
  (39, (.ireturn, 40, 0, 0), 0)]
def fx_c47 : List fx_E := [
  (0, (.iload_n 0, 1, 0, 0), 0),
  (1, (.iload_n 1, 2, 1, 0), 0),
  (2, (.if_icmp .lt (12), 5, 14, 0), 0),
  (5, (.iload_n 0, 6, 0, 0), 0),
  (6, (.iload_n 2, 7, 2, 0), 0),
  (7, (.if_icmp .gt (7), 10, 14, 0), 0),
  (10, (.iconst (1), 11, 0, 0), 0),
  (11, (.goto (4), 14, 15, 0), 0),
  (14, (.iconst (0), 15, 0, 0), 0),
  (15, (.ireturn, 16, 0, 0), 0)]
def fx_c48 : List fx_E := [
  (0, (.aload_n 0, 1, 0, 0), 0),
  (1, (.getfield 20, 4, 1, 13), 375),
  (4, (.iload_n 1, 5, 1, 0), 0),
  (5, (.invokevirtual 86, 8, 5, 210), 428),
  (8, (.ifCond .eq (12), 11, 20, 0), 0),
  (11, (.iload_n 2, 12, 2, 0), 0),
  (12, (.ifCond .lt (8), 15, 20, 0), 0),
  (15, (.iload_n 2, 16, 2, 0), 0),
  (16, (.iconst (4), 17, 0, 0), 0),
  (17, (.if_icmp .lt (5), 20, 22, 0), 0),
  (20, (.iconst (-1), 21, 0, 0), 0),
  (21, (.ireturn, 22, 0, 0), 0),
  (22, (.aload_n 0, 23, 0, 0), 0),
  (23, (.getfield 28, 26, 3, 44), 377),
  (26, (.iload_n 1, 27, 1, 0), 0),
  (27, (.aaload, 28, 0, 0), 0),
  (28, (.getfield 240, 31, 259, 42), 353),
  (31, (.iload_n 2, 32, 2, 0), 0),
  (32, (.aaload, 33, 0, 0), 0),
  (33, (.astore 4, 35, 4, 0), 0),
  (35, (.aload 4, 37, 4, 0), 0),
  (37, (.ifnonnull (5), 40, 42, 0), 0),
  (40, (.iconst (-1), 41, 0, 0), 0),
  (41, (.ireturn, 42, 0, 0), 0),
  (42, (.iload_n 3, 43, 3, 0), 0),
  (43, (.tableswitch (82) (0) (5) #[(37), (46), (55), (61), (70), (76)], 80, 125, 0), 0),
  (80, (.aload 4, 82, 4, 0), 0),
  (82, (.getfield 244, 85, 128, 15), 555),
  (85, (.getfield 250, 88, 320, 0), 480),
  (88, (.ireturn, 89, 0, 0), 0),
  (89, (.aload 4, 91, 4, 0), 0),
  (91, (.getfield 244, 94, 128, 15), 555),
  (94, (.getfield 251, 97, 324, 0), 494),
  (97, (.ireturn, 98, 0, 0), 0),
  (98, (.aload 4, 100, 4, 0), 0),
  (100, (.getfield 254, 103, 129, 0), 558),
  (103, (.ireturn, 104, 0, 0), 0),
  (104, (.aload 4, 106, 4, 0), 0),
  (106, (.getfield 244, 109, 128, 15), 555),
  (109, (.getfield 257, 112, 321, 0), 484),
  (112, (.ireturn, 113, 0, 0), 0),
  (113, (.aload 4, 115, 4, 0), 0),
  (115, (.getfield 260, 118, 130, 0), 561),
  (118, (.ireturn, 119, 0, 0), 0),
  (119, (.aload 4, 121, 4, 0), 0),
  (121, (.getfield 263, 124, 131, 0), 564),
  (124, (.ireturn, 125, 0, 0), 0),
  (125, (.iconst (-1), 126, 0, 0), 0),
  (126, (.ireturn, 127, 0, 0), 0)]
def fx_c49 : List fx_E := [
  (0, (.aload_n 0, 1, 0, 0), 0),
  (1, (.getfield 20, 4, 1, 13), 375),
  (4, (.iload_n 1, 5, 1, 0), 0),
  (5, (.invokevirtual 86, 8, 5, 210), 428),
  (8, (.ifCond .ne (5), 11, 13, 0), 0),
  (11, (.iconst (-1), 12, 0, 0), 0),
  (12, (.ireturn, 13, 0, 0), 0),
  (13, (.aload_n 0, 14, 0, 0), 0),
  (14, (.getfield 28, 17, 3, 44), 377),
  (17, (.iload_n 1, 18, 1, 0), 0),
  (18, (.aaload, 19, 0, 0), 0),
  (19, (.astore_n 3, 20, 3, 0), 0),
  (20, (.iload_n 2, 21, 2, 0), 0),
  (21, (.tableswitch (126) (0) (8) #[(51), (62), (70), (78), (86), (97), (102), (107), (115)], 72, 147, 0), 0),
  (72, (.aload_n 3, 73, 3, 0), 0),
  (73, (.getfield 101, 76, 257, 21), 349),
  (76, (.getfield 105, 79, 704, 20), 247),
  (79, (.getfield 110, 82, 641, 0), 172),
  (82, (.ireturn, 83, 0, 0), 0),
  (83, (.aload_n 3, 84, 3, 0), 0),
  (84, (.getfield 101, 87, 257, 21), 349),
  (87, (.getfield 210, 90, 706, 0), 251),
  (90, (.ireturn, 91, 0, 0), 0),
  (91, (.aload_n 3, 92, 3, 0), 0),
  (92, (.getfield 166, 95, 258, 18), 351),
  (95, (.getfield 170, 98, 513, 0), 325),
  (98, (.ireturn, 99, 0, 0), 0),
  (99, (.aload_n 3, 100, 3, 0), 0),
  (100, (.getfield 166, 103, 258, 18), 351),
  (103, (.invokevirtual 213, 106, 18, 289), 740),
  (106, (.ireturn, 107, 0, 0), 0),
  (107, (.aload_n 3, 108, 3, 0), 0),
  (108, (.getfield 166, 111, 258, 18), 351),
  (111, (.getfield 216, 114, 512, 20), 323),
  (114, (.getfield 110, 117, 641, 0), 172),
  (117, (.ireturn, 118, 0, 0), 0),
  (118, (.aload_n 3, 119, 3, 0), 0),
  (119, (.invokevirtual 219, 122, 10, 225), 667),
  (122, (.ireturn, 123, 0, 0), 0),
  (123, (.aload_n 3, 124, 3, 0), 0),
  (124, (.getfield 222, 127, 261, 0), 357),
  (127, (.ireturn, 128, 0, 0), 0),
  (128, (.aload_n 3, 129, 3, 0), 0),
  (129, (.getfield 101, 132, 257, 21), 349),
  (132, (.getfield 225, 135, 707, 0), 253),
  (135, (.ireturn, 136, 0, 0), 0),
  (136, (.aload_n 3, 137, 3, 0), 0),
  (137, (.getfield 101, 140, 257, 21), 349),
  (140, (.getfield 228, 143, 705, 20), 249),
  (143, (.getfield 110, 146, 641, 0), 172),
  (146, (.ireturn, 147, 0, 0), 0),
  (147, (.iconst (-1), 148, 0, 0), 0),
  (148, (.ireturn, 149, 0, 0), 0)]
def fx_c50 : List fx_E := [
  (0, (.aload_n 0, 1, 0, 0), 0),
  (1, (.getfield 20, 4, 1, 13), 375),
  (4, (.iload_n 1, 5, 1, 0), 0),
  (5, (.invokevirtual 86, 8, 5, 210), 428),
  (8, (.ifCond .ne (5), 11, 13, 0), 0),
  (11, (.iconst (-1), 12, 0, 0), 0),
  (12, (.ireturn, 13, 0, 0), 0),
  (13, (.aload_n 0, 14, 0, 0), 0),
  (14, (.getfield 28, 17, 3, 44), 377),
  (17, (.iload_n 1, 18, 1, 0), 0),
  (18, (.aaload, 19, 0, 0), 0),
  (19, (.getfield 166, 22, 258, 18), 351),
  (22, (.astore_n 3, 23, 3, 0), 0),
  (23, (.aload_n 3, 24, 3, 0), 0),
  (24, (.getfield 191, 27, 515, 1), 329),
  (27, (.ifCond .ne (5), 30, 32, 0), 0),
  (30, (.iconst (-1), 31, 0, 0), 0),
  (31, (.ireturn, 32, 0, 0), 0),
  (32, (.iload_n 2, 33, 2, 0), 0),
  (33, (.tableswitch (51) (0) (2) #[(27), (35), (43)], 60, 84, 0), 0),
  (60, (.aload_n 3, 61, 3, 0), 0),
  (61, (.getfield 195, 64, 514, 11), 327),
  (64, (.getfield 199, 67, 64, 0), 284),
  (67, (.ireturn, 68, 0, 0), 0),
  (68, (.aload_n 3, 69, 3, 0), 0),
  (69, (.getfield 195, 72, 514, 11), 327),
  (72, (.getfield 204, 75, 65, 0), 286),
  (75, (.ireturn, 76, 0, 0), 0),
  (76, (.aload_n 3, 77, 3, 0), 0),
  (77, (.getfield 195, 80, 514, 11), 327),
  (80, (.getfield 207, 83, 66, 0), 288),
  (83, (.ireturn, 84, 0, 0), 0),
  (84, (.iconst (-1), 85, 0, 0), 0),
  (85, (.ireturn, 86, 0, 0), 0)]
def fx_c51 : List fx_E := [
  (0, (.aload_n 0, 1, 0, 0), 0),
  (1, (.invokespecial 1, 4, 1000, 0), 282),
  (4, (.return_, 5, 0, 0), 0)]
def fx_c52 : List fx_E := [
  (0, (.aload_n 0, 1, 0, 0), 0),
  (1, (.invokespecial 1, 4, 1000, 0), 550),
  (4, (.aload_n 0, 5, 0, 0), 0),
  (5, (.aload_n 1, 6, 1, 0), 0),
  (6, (.putfield 7, 9, 128, 15), 551),
  (9, (.aload_n 0, 10, 0, 0), 0),
  (10, (.iload_n 2, 11, 2, 0), 0),
  (11, (.putfield 13, 14, 129, 0), 556),
  (14, (.return_, 15, 0, 0), 0)]
def fx_c53 : List fx_E := [
  (0, (.aload_n 0, 1, 0, 0), 0),
  (1, (.invokespecial 3, 4, 1000, 0), 97),
  (4, (.aload_n 0, 5, 0, 0), 0),
  (5, (.sipush (256), 8, 0, 0), 0),
  (8, (.newarray .int, 10, 70, 0), 121),
  (10, (.putfield 9, 13, 193, 70), 100),
  (13, (.aload_n 0, 14, 0, 0), 0),
  (14, (.sipush (256), 17, 0, 0), 0),
  (17, (.newarray .boolean, 19, 71, 0), 122),
  (19, (.putfield 15, 22, 194, 71), 101),
  (22, (.aload_n 0, 23, 0, 0), 0),
  (23, (.sipush (4096), 26, 0, 0), 0),
  (26, (.newarray .int, 28, 70, 0), 121),
  (28, (.putfield 19, 31, 195, 70), 102),
  (31, (.aload_n 0, 32, 0, 0), 0),
  (32, (.bipush (64), 34, 0, 0), 0),
  (34, (.newarray .boolean, 36, 71, 0), 122),
  (36, (.putfield 22, 39, 196, 71), 103),
  (39, (.aload_n 0, 40, 0, 0), 0),
  (40, (.bipush (64), 42, 0, 0), 0),
  (42, (.newarray .int, 44, 70, 0), 121),
  (44, (.putfield 25, 47, 197, 70), 104),
  (47, (.return_, 48, 0, 0), 0)]
def fx_c54 : List fx_E := [
  (0, (.aload_n 0, 1, 0, 0), 0),
  (1, (.iload_n 1, 2, 1, 0), 0),
  (2, (.iload_n 1, 3, 1, 0), 0),
  (3, (.imul, 4, 0, 0), 0),
  (4, (.putfield 28, 7, 192, 0), 98),
  (7, (.iconst (0), 8, 0, 0), 0),
  (8, (.istore_n 2, 9, 2, 0), 0),
  (9, (.iload_n 2, 10, 2, 0), 0),
  (10, (.aload_n 0, 11, 0, 0), 0),
  (11, (.getfield 28, 14, 192, 0), 98),
  (14, (.if_icmp .ge (127), 17, 141, 0), 0),
  (17, (.iload_n 2, 18, 2, 0), 0),
  (18, (.iload_n 1, 19, 1, 0), 0),
  (19, (.irem, 20, 0, 0), 0),
  (20, (.istore_n 3, 21, 3, 0), 0),
  (21, (.iload_n 2, 22, 2, 0), 0),
  (22, (.iload_n 1, 23, 1, 0), 0),
  (23, (.idiv, 24, 0, 0), 0),
  (24, (.istore 4, 26, 4, 0), 0),
  (26, (.aload_n 0, 27, 0, 0), 0),
  (27, (.getfield 9, 30, 193, 70), 100),
  (30, (.iload_n 2, 31, 2, 0), 0),
  (31, (.iconst (4), 32, 0, 0), 0),
  (32, (.imul, 33, 0, 0), 0),
  (33, (.iload 4, 35, 4, 0), 0),
  (35, (.iload_n 1, 36, 1, 0), 0),
  (36, (.imul, 37, 0, 0), 0),
  (37, (.iload_n 3, 38, 3, 0), 0),
  (38, (.iconst (1), 39, 0, 0), 0),
  (39, (.iadd, 40, 0, 0), 0),
  (40, (.iload_n 1, 41, 1, 0), 0),
  (41, (.irem, 42, 0, 0), 0),
  (42, (.iadd, 43, 0, 0), 0),
  (43, (.iastore, 44, 0, 0), 0),
  (44, (.aload_n 0, 45, 0, 0), 0),
  (45, (.getfield 9, 48, 193, 70), 100),
  (48, (.iload_n 2, 49, 2, 0), 0),
  (49, (.iconst (4), 50, 0, 0), 0),
  (50, (.imul, 51, 0, 0), 0),
  (51, (.iconst (1), 52, 0, 0), 0),
  (52, (.iadd, 53, 0, 0), 0),
  (53, (.iload 4, 55, 4, 0), 0),
  (55, (.iload_n 1, 56, 1, 0), 0),
  (56, (.imul, 57, 0, 0), 0),
  (57, (.iload_n 3, 58, 3, 0), 0),
  (58, (.iload_n 1, 59, 1, 0), 0),
  (59, (.iadd, 60, 0, 0), 0),
  (60, (.iconst (1), 61, 0, 0), 0),
  (61, (.isub, 62, 0, 0), 0),
  (62, (.iload_n 1, 63, 1, 0), 0),
  (63, (.irem, 64, 0, 0), 0),
  (64, (.iadd, 65, 0, 0), 0),
  (65, (.iastore, 66, 0, 0), 0),
  (66, (.aload_n 0, 67, 0, 0), 0),
  (67, (.getfield 9, 70, 193, 70), 100),
  (70, (.iload_n 2, 71, 2, 0), 0),
  (71, (.iconst (4), 72, 0, 0), 0),
  (72, (.imul, 73, 0, 0), 0),
  (73, (.iconst (2), 74, 0, 0), 0),
  (74, (.iadd, 75, 0, 0), 0),
  (75, (.iload 4, 77, 4, 0), 0),
  (77, (.iconst (1), 78, 0, 0), 0),
  (78, (.iadd, 79, 0, 0), 0),
  (79, (.iload_n 1, 80, 1, 0), 0),
  (80, (.irem, 81, 0, 0), 0),
  (81, (.iload_n 1, 82, 1, 0), 0),
  (82, (.imul, 83, 0, 0), 0),
  (83, (.iload_n 3, 84, 3, 0), 0),
  (84, (.iadd, 85, 0, 0), 0),
  (85, (.iastore, 86, 0, 0), 0),
  (86, (.aload_n 0, 87, 0, 0), 0),
  (87, (.getfield 9, 90, 193, 70), 100),
  (90, (.iload_n 2, 91, 2, 0), 0),
  (91, (.iconst (4), 92, 0, 0), 0),
  (92, (.imul, 93, 0, 0), 0),
  (93, (.iconst (3), 94, 0, 0), 0),
  (94, (.iadd, 95, 0, 0), 0),
  (95, (.iload 4, 97, 4, 0), 0),
  (97, (.iload_n 1, 98, 1, 0), 0),
  (98, (.iadd, 99, 0, 0), 0),
  (99, (.iconst (1), 100, 0, 0), 0),
  (100, (.isub, 101, 0, 0), 0),
  (101, (.iload_n 1, 102, 1, 0), 0),
  (102, (.irem, 103, 0, 0), 0),
  (103, (.iload_n 1, 104, 1, 0), 0),
  (104, (.imul, 105, 0, 0), 0),
  (105, (.iload_n 3, 106, 3, 0), 0),
  (106, (.iadd, 107, 0, 0), 0),
  (107, (.iastore, 108, 0, 0), 0),
  (108, (.iconst (0), 109, 0, 0), 0),
  (109, (.istore 5, 111, 5, 0), 0),
  (111, (.iload 5, 113, 5, 0), 0),
  (113, (.iconst (4), 114, 0, 0), 0),
  (114, (.if_icmp .ge (21), 117, 135, 0), 0),
  (117, (.aload_n 0, 118, 0, 0), 0),
  (118, (.getfield 15, 121, 194, 71), 101),
  (121, (.iload_n 2, 122, 2, 0), 0),
  (122, (.iconst (4), 123, 0, 0), 0),
  (123, (.imul, 124, 0, 0), 0),
  (124, (.iload 5, 126, 5, 0), 0),
  (126, (.iadd, 127, 0, 0), 0),
  (127, (.iconst (1), 128, 0, 0), 0),
  (128, (.bastore, 129, 0, 0), 0),
  (129, (.iinc 5 (1), 132, 5, 0), 0),
  (132, (.goto (-21), 135, 111, 0), 0),
  (135, (.iinc 2 (1), 138, 2, 0), 0),
  (138, (.goto (-129), 141, 9, 0), 0),
  (141, (.aload_n 0, 142, 0, 0), 0),
  (142, (.invokevirtual 32, 145, 4, 209), 223),
  (145, (.return_, 146, 0, 0), 0)]
def fx_c55 : List fx_E := [
  (0, (.iconst (0), 1, 0, 0), 0),
  (1, (.istore_n 2, 2, 2, 0), 0),
  (2, (.iconst (0), 3, 0, 0), 0),
  (3, (.istore_n 3, 4, 3, 0), 0),
  (4, (.iload_n 3, 5, 3, 0), 0),
  (5, (.iconst (4), 6, 0, 0), 0),
  (6, (.if_icmp .ge (21), 9, 27, 0), 0),
  (9, (.aload_n 0, 10, 0, 0), 0),
  (10, (.iload_n 1, 11, 1, 0), 0),
  (11, (.iload_n 3, 12, 3, 0), 0),
  (12, (.invokevirtual 35, 15, 6, 211), 455),
  (15, (.ifCond .eq (6), 18, 21, 0), 0),
  (18, (.iinc 2 (1), 21, 2, 0), 0),
  (21, (.iinc 3 (1), 24, 3, 0), 0),
  (24, (.goto (-20), 27, 4, 0), 0),
  (27, (.iload_n 2, 28, 2, 0), 0),
  (28, (.ireturn, 29, 0, 0), 0)]
def fx_c56 : List fx_E := [
  (0, (.aload_n 0, 1, 0, 0), 0),
  (1, (.getfield 15, 4, 194, 71), 101),
  (4, (.iload_n 1, 5, 1, 0), 0),
  (5, (.iconst (4), 6, 0, 0), 0),
  (6, (.imul, 7, 0, 0), 0),
  (7, (.iload_n 2, 8, 2, 0), 0),
  (8, (.iadd, 9, 0, 0), 0),
  (9, (.iload_n 3, 10, 3, 0), 0),
  (10, (.bastore, 11, 0, 0), 0),
  (11, (.aload_n 0, 12, 0, 0), 0),
  (12, (.getfield 15, 15, 194, 71), 101),
  (15, (.aload_n 0, 16, 0, 0), 0),
  (16, (.iload_n 1, 17, 1, 0), 0),
  (17, (.iload_n 2, 18, 2, 0), 0),
  (18, (.invokevirtual 39, 21, 2, 211), 440),
  (21, (.iconst (4), 22, 0, 0), 0),
  (22, (.imul, 23, 0, 0), 0),
  (23, (.iload_n 2, 24, 2, 0), 0),
  (24, (.invokestatic 43, 27, 7, 1), 444),
  (27, (.iadd, 28, 0, 0), 0),
  (28, (.iload_n 3, 29, 3, 0), 0),
  (29, (.bastore, 30, 0, 0), 0),
  (30, (.aload_n 0, 31, 0, 0), 0),
  (31, (.invokevirtual 32, 34, 4, 209), 223),
  (34, (.return_, 35, 0, 0), 0)]
def fx_c57 : List fx_E := [
  (0, (.aload_n 0, 1, 0, 0), 0),
  (1, (.getfield 22, 4, 196, 71), 103),
  (4, (.iload_n 2, 5, 2, 0), 0),
  (5, (.baload, 6, 0, 0), 0),
  (6, (.ifCond .ne (8), 9, 14, 0), 0),
  (9, (.aload_n 0, 10, 0, 0), 0),
  (10, (.iload_n 2, 11, 2, 0), 0),
  (11, (.invokevirtual 57, 14, 3, 210), 461),
  (14, (.aload_n 0, 15, 0, 0), 0),
  (15, (.getfield 19, 18, 195, 70), 102),
  (18, (.iload_n 2, 19, 2, 0), 0),
  (19, (.bipush (64), 21, 0, 0), 0),
  (21, (.imul, 22, 0, 0), 0),
  (22, (.iload_n 1, 23, 1, 0), 0),
  (23, (.iadd, 24, 0, 0), 0),
  (24, (.iaload, 25, 0, 0), 0),
  (25, (.ireturn, 26, 0, 0), 0)]
def fx_c58 : List fx_E := [
  (0, (.aload_n 0, 1, 0, 0), 0),
  (1, (.invokespecial 3, 4, 1000, 0), 475),
  (4, (.aload_n 0, 5, 0, 0), 0),
  (5, (.bipush (8), 7, 0, 0), 0),
  (7, (.anewarray 9, 10, 2, 91), 476),
  (10, (.putfield 11, 13, 332, 42), 509),
  (13, (.return_, 14, 0, 0), 0)]
def fx_c59 : List fx_E := [
  (0, (.aload_n 0, 1, 0, 0), 0),
  (1, (.invokespecial 1, 4, 1000, 0), 306),
  (4, (.return_, 5, 0, 0), 0)]
def fx_c60 : List fx_E := [
  (0, (.aload_n 0, 1, 0, 0), 0),
  (1, (.invokespecial 3, 4, 1000, 0), 128),
  (4, (.return_, 5, 0, 0), 0)]
def fx_c61 : List fx_E := [
  (0, (.aload_n 0, 1, 0, 0), 0),
  (1, (.aload_n 1, 2, 1, 0), 0),
  (2, (.invokevirtual 25, 5, 14, 274), 620),
  (5, (.ifCond .ne (11), 8, 16, 0), 0),
  (8, (.aload_n 0, 9, 0, 0), 0),
  (9, (.aload_n 2, 10, 2, 0), 0),
  (10, (.invokevirtual 25, 13, 14, 274), 620),
  (13, (.ifCond .eq (9), 16, 22, 0), 0),
  (16, (.aload_n 0, 17, 0, 0), 0),
  (17, (.aload_n 1, 18, 1, 0), 0),
  (18, (.invokevirtual 25, 21, 14, 274), 620),
  (21, (.ireturn, 22, 0, 0), 0),
  (22, (.aload_n 1, 23, 1, 0), 0),
  (23, (.getfield 29, 26, 130, 0), 559),
  (26, (.aload_n 2, 27, 2, 0), 0),
  (27, (.getfield 29, 30, 130, 0), 559),
  (30, (.if_icmp .eq (20), 33, 50, 0), 0),
  (33, (.aload_n 1, 34, 1, 0), 0),
  (34, (.getfield 29, 37, 130, 0), 559),
  (37, (.aload_n 2, 38, 2, 0), 0),
  (38, (.getfield 29, 41, 130, 0), 559),
  (41, (.if_icmp .ge (7), 44, 48, 0), 0),
  (44, (.iconst (1), 45, 0, 0), 0),
  (45, (.goto (4), 48, 49, 0), 0),
  (48, (.iconst (0), 49, 0, 0), 0),
  (49, (.ireturn, 50, 0, 0), 0),
  (50, (.aload_n 1, 51, 1, 0), 0),
  (51, (.getfield 34, 54, 128, 15), 554),
  (54, (.getfield 38, 57, 320, 0), 478),
  (57, (.aload_n 2, 58, 2, 0), 0),
  (58, (.getfield 34, 61, 128, 15), 554),
  (61, (.getfield 38, 64, 320, 0), 478),
  (64, (.if_icmp .eq (26), 67, 90, 0), 0),
  (67, (.aload_n 1, 68, 1, 0), 0),
  (68, (.getfield 34, 71, 128, 15), 554),
  (71, (.getfield 38, 74, 320, 0), 478),
  (74, (.aload_n 2, 75, 2, 0), 0),
  (75, (.getfield 34, 78, 128, 15), 554),
  (78, (.getfield 38, 81, 320, 0), 478),
  (81, (.if_icmp .ge (7), 84, 88, 0), 0),
  (84, (.iconst (1), 85, 0, 0), 0),
  (85, (.goto (4), 88, 89, 0), 0),
  (88, (.iconst (0), 89, 0, 0), 0),
  (89, (.ireturn, 90, 0, 0), 0),
  (90, (.aload_n 1, 91, 1, 0), 0),
  (91, (.getfield 34, 94, 128, 15), 554),
  (94, (.getfield 43, 97, 324, 0), 492),
  (97, (.aload_n 2, 98, 2, 0), 0),
  (98, (.getfield 34, 101, 128, 15), 554),
  (101, (.getfield 43, 104, 324, 0), 492),
  (104, (.if_icmp .eq (26), 107, 130, 0), 0),
  (107, (.aload_n 1, 108, 1, 0), 0),
  (108, (.getfield 34, 111, 128, 15), 554),
  (111, (.getfield 43, 114, 324, 0), 492),
  (114, (.aload_n 2, 115, 2, 0), 0),
  (115, (.getfield 34, 118, 128, 15), 554),
  (118, (.getfield 43, 121, 324, 0), 492),
  (121, (.if_icmp .ge (7), 124, 128, 0), 0),
  (124, (.iconst (1), 125, 0, 0), 0),
  (125, (.goto (4), 128, 129, 0), 0),
  (128, (.iconst (0), 129, 0, 0), 0),
  (129, (.ireturn, 130, 0, 0), 0),
  (130, (.aload_n 1, 131, 1, 0), 0),
  (131, (.getfield 46, 134, 129, 0), 557),
  (134, (.aload_n 2, 135, 2, 0), 0),
  (135, (.getfield 46, 138, 129, 0), 557),
  (138, (.if_icmp .ge (7), 141, 145, 0), 0),
  (141, (.iconst (1), 142, 0, 0), 0),
  (142, (.goto (4), 145, 146, 0), 0),
  (145, (.iconst (0), 146, 0, 0), 0),
  (146, (.ireturn, 147, 0, 0), 0)]
def fx_c62 : List fx_E := [
  (0, (.aload_n 0, 1, 0, 0), 0),
  (1, (.getfield 12, 4, 512, 20), 322),
  (4, (.invokevirtual 36, 7, 20, 321), 214),
  (7, (.aload_n 0, 8, 0, 0), 0),
  (8, (.iconst (0), 9, 0, 0), 0),
  (9, (.putfield 39, 12, 513, 0), 324),
  (12, (.aload_n 0, 13, 0, 0), 0),
  (13, (.iconst (0), 14, 0, 0), 0),
  (14, (.putfield 43, 17, 515, 1), 328),
  (17, (.iconst (0), 18, 0, 0), 0),
  (18, (.istore_n 1, 19, 1, 0), 0),
  (19, (.iload_n 1, 20, 1, 0), 0),
  (20, (.iconst (4), 21, 0, 0), 0),
  (21, (.if_icmp .ge (18), 24, 39, 0), 0),
  (24, (.aload_n 0, 25, 0, 0), 0),
  (25, (.getfield 27, 28, 516, 46), 330),
  (28, (.iload_n 1, 29, 1, 0), 0),
  (29, (.aaload, 30, 0, 0), 0),
  (30, (.invokevirtual 47, 33, 11, 257), 215),
  (33, (.iinc 1 (1), 36, 1, 0), 0),
  (36, (.goto (-17), 39, 19, 0), 0),
  (39, (.return_, 40, 0, 0), 0)]
def fx_c63 : List fx_E := [
  (0, (.iconst (0), 1, 0, 0), 0),
  (1, (.istore_n 1, 2, 1, 0), 0),
  (2, (.iload_n 1, 3, 1, 0), 0),
  (3, (.iconst (4), 4, 0, 0), 0),
  (4, (.if_icmp .ge (28), 7, 32, 0), 0),
  (7, (.aload_n 0, 8, 0, 0), 0),
  (8, (.getfield 27, 11, 516, 46), 330),
  (11, (.iload_n 1, 12, 1, 0), 0),
  (12, (.aaload, 13, 0, 0), 0),
  (13, (.invokevirtual 68, 16, 12, 257), 856),
  (16, (.ifCond .eq (10), 19, 26, 0), 0),
  (19, (.aload_n 0, 20, 0, 0), 0),
  (20, (.getfield 27, 23, 516, 46), 330),
  (23, (.iload_n 1, 24, 1, 0), 0),
  (24, (.aaload, 25, 0, 0), 0),
  (25, (.areturn, 26, 0, 0), 0),
  (26, (.iinc 1 (1), 29, 1, 0), 0),
  (29, (.goto (-27), 32, 2, 0), 0),
  (32, (.aconst_null, 33, 0, 0), 0),
  (33, (.areturn, 34, 0, 0), 0)]
def fx_c64 : List fx_E := [
  (0, (.iconst (0), 1, 0, 0), 0),
  (1, (.istore_n 2, 2, 2, 0), 0),
  (2, (.iload_n 2, 3, 2, 0), 0),
  (3, (.iconst (4), 4, 0, 0), 0),
  (4, (.if_icmp .ge (48), 7, 52, 0), 0),
  (7, (.aload_n 0, 8, 0, 0), 0),
  (8, (.getfield 27, 11, 516, 46), 330),
  (11, (.iload_n 2, 12, 2, 0), 0),
  (12, (.aaload, 13, 0, 0), 0),
  (13, (.getfield 48, 16, 384, 15), 308),
  (16, (.aload_n 1, 17, 1, 0), 0),
  (17, (.getfield 52, 20, 128, 15), 553),
  (20, (.if_acmp .ne (26), 23, 46, 0), 0),
  (23, (.aload_n 0, 24, 0, 0), 0),
  (24, (.getfield 27, 27, 516, 46), 330),
  (27, (.iload_n 2, 28, 2, 0), 0),
  (28, (.aaload, 29, 0, 0), 0),
  (29, (.getfield 55, 32, 385, 0), 311),
  (32, (.aload_n 1, 33, 1, 0), 0),
  (33, (.getfield 58, 36, 131, 0), 562),
  (36, (.if_icmp .ne (10), 39, 46, 0), 0),
  (39, (.aload_n 0, 40, 0, 0), 0),
  (40, (.getfield 27, 43, 516, 46), 330),
  (43, (.iload_n 2, 44, 2, 0), 0),
  (44, (.aaload, 45, 0, 0), 0),
  (45, (.areturn, 46, 0, 0), 0),
  (46, (.iinc 2 (1), 49, 2, 0), 0),
  (49, (.goto (-47), 52, 2, 0), 0),
  (52, (.aload_n 1, 53, 1, 0), 0),
  (53, (.getfield 58, 56, 131, 0), 562),
  (56, (.iconst (1), 57, 0, 0), 0),
  (57, (.if_icmp .ne (13), 60, 70, 0), 0),
  (60, (.aload_n 1, 61, 1, 0), 0),
  (61, (.getfield 52, 64, 128, 15), 553),
  (64, (.getfield 59, 67, 328, 1), 504),
  (67, (.ifCond .eq (5), 70, 72, 0), 0),
  (70, (.aconst_null, 71, 0, 0), 0),
  (71, (.areturn, 72, 0, 0), 0),
  (72, (.iconst (0), 73, 0, 0), 0),
  (73, (.istore_n 2, 74, 2, 0), 0),
  (74, (.iload_n 2, 75, 2, 0), 0),
  (75, (.iconst (4), 76, 0, 0), 0),
  (76, (.if_icmp .ge (45), 79, 121, 0), 0),
  (79, (.aload_n 0, 80, 0, 0), 0),
  (80, (.getfield 27, 83, 516, 46), 330),
  (83, (.iload_n 2, 84, 2, 0), 0),
  (84, (.aaload, 85, 0, 0), 0),
  (85, (.getfield 48, 88, 384, 15), 308),
  (88, (.ifnonnull (27), 91, 115, 0), 0),
  (91, (.aload_n 0, 92, 0, 0), 0),
  (92, (.getfield 27, 95, 516, 46), 330),
  (95, (.iload_n 2, 96, 2, 0), 0),
  (96, (.aaload, 97, 0, 0), 0),
  (97, (.aload_n 1, 98, 1, 0), 0),
  (98, (.getfield 52, 101, 128, 15), 553),
  (101, (.aload_n 1, 102, 1, 0), 0),
  (102, (.getfield 58, 105, 131, 0), 562),
  (105, (.invokevirtual 64, 108, 13, 259), 632),
  (108, (.aload_n 0, 109, 0, 0), 0),
  (109, (.getfield 27, 112, 516, 46), 330),
  (112, (.iload_n 2, 113, 2, 0), 0),
  (113, (.aaload, 114, 0, 0), 0),
  (114, (.areturn, 115, 0, 0), 0),
  (115, (.iinc 2 (1), 118, 2, 0), 0),
  (118, (.goto (-44), 121, 74, 0), 0),
  (121, (.aconst_null, 122, 0, 0), 0),
  (122, (.areturn, 123, 0, 0), 0)]
def fx_c65 : List fx_E := [
  (0, (.aload_n 0, 1, 0, 0), 0),
  (1, (.invokespecial 1, 4, 1000, 0), 168),
  (4, (.return_, 5, 0, 0), 0)]
def fx_c66 : List fx_E := [
  (0, (.aload_n 0, 1, 0, 0), 0),
  (1, (.getfield 18, 4, 705, 20), 248),
  (4, (.invokevirtual 27, 7, 20, 321), 201),
  (7, (.aload_n 0, 8, 0, 0), 0),
  (8, (.aconst_null, 9, 0, 0), 0),
  (9, (.putfield 30, 12, 709, 15), 255),
  (12, (.aload_n 0, 13, 0, 0), 0),
  (13, (.getfield 12, 16, 704, 20), 246),
  (16, (.invokevirtual 34, 19, 21, 321), 202),
  (19, (.astore_n 2, 20, 2, 0), 0),
  (20, (.aload_n 2, 21, 2, 0), 0),
  (21, (.ifnull (19), 24, 40, 0), 0),
  (24, (.aload_n 1, 25, 1, 0), 0),
  (25, (.aload_n 2, 26, 2, 0), 0),
  (26, (.invokevirtual 38, 29, 19, 322), 206),
  (29, (.aload_n 0, 30, 0, 0), 0),
  (30, (.getfield 12, 33, 704, 20), 246),
  (33, (.invokevirtual 34, 36, 21, 321), 202),
  (36, (.astore_n 2, 37, 2, 0), 0),
  (37, (.goto (-17), 40, 20, 0), 0),
  (40, (.iconst (0), 41, 0, 0), 0),
  (41, (.istore_n 3, 42, 3, 0), 0),
  (42, (.iload_n 3, 43, 3, 0), 0),
  (43, (.bipush (8), 45, 0, 0), 0),
  (45, (.if_icmp .ge (35), 48, 80, 0), 0),
  (48, (.aload_n 0, 49, 0, 0), 0),
  (49, (.getfield 23, 52, 708, 45), 254),
  (52, (.iload_n 3, 53, 3, 0), 0),
  (53, (.aaload, 54, 0, 0), 0),
  (54, (.ifnull (20), 57, 74, 0), 0),
  (57, (.aload_n 1, 58, 1, 0), 0),
  (58, (.aload_n 0, 59, 0, 0), 0),
  (59, (.getfield 23, 62, 708, 45), 254),
  (62, (.iload_n 3, 63, 3, 0), 0),
  (63, (.aaload, 64, 0, 0), 0),
  (64, (.invokevirtual 38, 67, 19, 322), 206),
  (67, (.aload_n 0, 68, 0, 0), 0),
  (68, (.getfield 23, 71, 708, 45), 254),
  (71, (.iload_n 3, 72, 3, 0), 0),
  (72, (.aconst_null, 73, 0, 0), 0),
  (73, (.aastore, 74, 0, 0), 0),
  (74, (.iinc 3 (1), 77, 3, 0), 0),
  (77, (.goto (-35), 80, 42, 0), 0),
  (80, (.aload_n 0, 81, 0, 0), 0),
  (81, (.iconst (0), 82, 0, 0), 0),
  (82, (.putfield 42, 85, 706, 0), 250),
  (85, (.aload_n 0, 86, 0, 0), 0),
  (86, (.iconst (0), 87, 0, 0), 0),
  (87, (.putfield 46, 90, 707, 0), 252),
  (90, (.return_, 91, 0, 0), 0)]
def fx_c67 : List fx_E := [
  (0, (.aload_n 1, 1, 1, 0), 0),
  (1, (.dup, 2, 0, 0), 0),
  (2, (.getfield 70, 5, 325, 0), 496),
  (5, (.iconst (1), 6, 0, 0), 0),
  (6, (.iadd, 7, 0, 0), 0),
  (7, (.putfield 70, 10, 325, 0), 496),
  (10, (.aload_n 1, 11, 1, 0), 0),
  (11, (.iconst (0), 12, 0, 0), 0),
  (12, (.putfield 62, 15, 326, 0), 499),
  (15, (.aload_n 0, 16, 0, 0), 0),
  (16, (.getfield 18, 19, 705, 20), 248),
  (19, (.aload_n 1, 20, 1, 0), 0),
  (20, (.invokevirtual 38, 23, 19, 322), 206),
  (23, (.aload_n 0, 24, 0, 0), 0),
  (24, (.getfield 30, 27, 709, 15), 255),
  (27, (.aload_n 1, 28, 1, 0), 0),
  (28, (.if_acmp .ne (8), 31, 36, 0), 0),
  (31, (.aload_n 0, 32, 0, 0), 0),
  (32, (.aconst_null, 33, 0, 0), 0),
  (33, (.putfield 30, 36, 709, 15), 255),
  (36, (.return_, 37, 0, 0), 0)]
def fx_c68 : List fx_E := [
  (0, (.aload_n 1, 1, 1, 0), 0),
  (1, (.aload_n 0, 2, 0, 0), 0),
  (2, (.getfield 18, 5, 705, 20), 248),
  (5, (.getfield 49, 8, 640, 15), 170),
  (8, (.if_acmp .ne (14), 11, 22, 0), 0),
  (11, (.aload_n 0, 12, 0, 0), 0),
  (12, (.getfield 18, 15, 705, 20), 248),
  (15, (.invokevirtual 34, 18, 21, 321), 202),
  (18, (.pop, 19, 0, 0), 0),
  (19, (.goto (27), 22, 46, 0), 0),
  (22, (.aload_n 1, 23, 1, 0), 0),
  (23, (.aload_n 0, 24, 0, 0), 0),
  (24, (.getfield 12, 27, 704, 20), 246),
  (27, (.getfield 49, 30, 640, 15), 170),
  (30, (.if_acmp .ne (16), 33, 46, 0), 0),
  (33, (.aload_n 0, 34, 0, 0), 0),
  (34, (.getfield 12, 37, 704, 20), 246),
  (37, (.invokevirtual 34, 40, 21, 321), 202),
  (40, (.pop, 41, 0, 0), 0),
  (41, (.aload_n 0, 42, 0, 0), 0),
  (42, (.aload_n 1, 43, 1, 0), 0),
  (43, (.invokevirtual 55, 46, 24, 338), 676),
  (46, (.aload_n 1, 47, 1, 0), 0),
  (47, (.getfield 58, 50, 332, 42), 510),
  (50, (.aload_n 1, 51, 1, 0), 0),
  (51, (.getfield 62, 54, 326, 0), 499),
  (54, (.aaload, 55, 0, 0), 0),
  (55, (.astore_n 3, 56, 3, 0), 0),
  (56, (.aload_n 3, 57, 3, 0), 0),
  (57, (.iload_n 2, 58, 2, 0), 0),
  (58, (.putfield 65, 61, 130, 0), 560),
  (61, (.aload_n 3, 62, 3, 0), 0),
  (62, (.aload_n 1, 63, 1, 0), 0),
  (63, (.getfield 70, 66, 325, 0), 496),
  (66, (.putfield 73, 69, 131, 0), 563),
  (69, (.aload_n 1, 70, 1, 0), 0),
  (70, (.dup, 71, 0, 0), 0),
  (71, (.getfield 62, 74, 326, 0), 499),
  (74, (.iconst (1), 75, 0, 0), 0),
  (75, (.iadd, 76, 0, 0), 0),
  (76, (.putfield 62, 79, 326, 0), 499),
  (79, (.aload_n 1, 80, 1, 0), 0),
  (80, (.dup, 81, 0, 0), 0),
  (81, (.getfield 52, 84, 327, 0), 501),
  (84, (.iconst (1), 85, 0, 0), 0),
  (85, (.iadd, 86, 0, 0), 0),
  (86, (.putfield 52, 89, 327, 0), 501),
  (89, (.aload_n 0, 90, 0, 0), 0),
  (90, (.aload_n 1, 91, 1, 0), 0),
  (91, (.getfield 62, 94, 326, 0), 499),
  (94, (.aload_n 1, 95, 1, 0), 0),
  (95, (.getfield 74, 98, 322, 0), 487),
  (98, (.if_icmp .ge (7), 101, 105, 0), 0),
  (101, (.aload_n 1, 102, 1, 0), 0),
  (102, (.goto (4), 105, 106, 0), 0),
  (105, (.aconst_null, 106, 0, 0), 0),
  (106, (.putfield 30, 109, 709, 15), 255),
  (109, (.aload_n 3, 110, 3, 0), 0),
  (110, (.areturn, 111, 0, 0), 0)]
def fx_c69 : List fx_E := [
  (0, (.aload_n 0, 1, 0, 0), 0),
  (1, (.iload_n 1, 2, 1, 0), 0),
  (2, (.invokevirtual 227, 5, 45, 354), 1126),
  (5, (.istore_n 2, 6, 2, 0), 0),
  (6, (.iload_n 2, 7, 2, 0), 0),
  (7, (.iconst (-1), 8, 0, 0), 0),
  (8, (.if_icmp .eq (5), 11, 13, 0), 0),
  (11, (.iload_n 2, 12, 2, 0), 0),
  (12, (.ireturn, 13, 0, 0), 0),
  (13, (.aload_n 0, 14, 0, 0), 0),
  (14, (.getfield 71, 17, 797, 70), 908),
  (17, (.iload_n 1, 18, 1, 0), 0),
  (18, (.iaload, 19, 0, 0), 0),
  (19, (.ifCond .le (33), 22, 52, 0), 0),
  (22, (.aload_n 0, 23, 0, 0), 0),
  (23, (.aload_n 0, 24, 0, 0), 0),
  (24, (.getfield 74, 27, 798, 70), 909),
  (27, (.bipush (8), 29, 0, 0), 0),
  (29, (.iload_n 1, 30, 1, 0), 0),
  (30, (.imul, 31, 0, 0), 0),
  (31, (.iaload, 32, 0, 0), 0),
  (32, (.invokevirtual 230, 35, 35, 354), 1130),
  (35, (.ifCond .ne (17), 38, 52, 0), 0),
  (38, (.sipush (1000), 41, 0, 0), 0),
  (41, (.aload_n 0, 42, 0, 0), 0),
  (42, (.getfield 74, 45, 798, 70), 909),
  (45, (.bipush (8), 47, 0, 0), 0),
  (47, (.iload_n 1, 48, 1, 0), 0),
  (48, (.imul, 49, 0, 0), 0),
  (49, (.iaload, 50, 0, 0), 0),
  (50, (.iadd, 51, 0, 0), 0),
  (51, (.ireturn, 52, 0, 0), 0),
  (52, (.aload_n 0, 53, 0, 0), 0),
  (53, (.getfield 41, 56, 787, 70), 898),
  (56, (.iload_n 1, 57, 1, 0), 0),
  (57, (.iaload, 58, 0, 0), 0),
  (58, (.ifCond .le (18), 61, 76, 0), 0),
  (61, (.aload_n 0, 62, 0, 0), 0),
  (62, (.iload_n 1, 63, 1, 0), 0),
  (63, (.invokevirtual 233, 66, 30, 354), 1134),
  (66, (.iconst (-1), 67, 0, 0), 0),
  (67, (.if_icmp .eq (9), 70, 76, 0), 0),
  (70, (.sipush (2000), 73, 0, 0), 0),
  (73, (.goto (4), 76, 77, 0), 0),
  (76, (.iconst (-1), 77, 0, 0), 0),
  (77, (.ireturn, 78, 0, 0), 0)]
def fx_c70 : List fx_E := [
  (0, (.aload_n 0, 1, 0, 0), 0),
  (1, (.iconst (0), 2, 0, 0), 0),
  (2, (.putfield 130, 5, 768, 0), 879),
  (5, (.aload_n 0, 6, 0, 0), 0),
  (6, (.iload_n 1, 7, 1, 0), 0),
  (7, (.invokevirtual 185, 10, 34, 354), 1042),
  (10, (.ifCond .eq (25), 13, 35, 0), 0),
  (13, (.aload_n 0, 14, 0, 0), 0),
  (14, (.iload_n 2, 15, 2, 0), 0),
  (15, (.invokevirtual 185, 18, 34, 354), 1042),
  (18, (.ifCond .eq (17), 21, 35, 0), 0),
  (21, (.aload_n 0, 22, 0, 0), 0),
  (22, (.getfield 13, 25, 776, 70), 887),
  (25, (.bipush (64), 27, 0, 0), 0),
  (27, (.iload_n 1, 28, 1, 0), 0),
  (28, (.imul, 29, 0, 0), 0),
  (29, (.iload_n 2, 30, 2, 0), 0),
  (30, (.iadd, 31, 0, 0), 0),
  (31, (.iaload, 32, 0, 0), 0),
  (32, (.goto (4), 35, 36, 0), 0),
  (35, (.iconst (-1), 36, 0, 0), 0),
  (36, (.ireturn, 37, 0, 0), 0)]
def fx_c71 : List fx_E := [
  (0, (.iload_n 2, 1, 2, 0), 0),
  (1, (.sipush (1000), 4, 0, 0), 0),
  (4, (.if_icmp .ge (7), 7, 11, 0), 0),
  (7, (.iload_n 2, 8, 2, 0), 0),
  (8, (.goto (23), 11, 31, 0), 0),
  (11, (.iload_n 2, 12, 2, 0), 0),
  (12, (.sipush (2000), 15, 0, 0), 0),
  (15, (.if_icmp .ge (11), 18, 26, 0), 0),
  (18, (.iload_n 2, 19, 2, 0), 0),
  (19, (.sipush (1000), 22, 0, 0), 0),
  (22, (.isub, 23, 0, 0), 0),
  (23, (.goto (8), 26, 31, 0), 0),
  (26, (.aload_n 0, 27, 0, 0), 0),
  (27, (.iload_n 1, 28, 1, 0), 0),
  (28, (.invokevirtual 233, 31, 30, 354), 1134),
  (31, (.istore_n 3, 32, 3, 0), 0),
  (32, (.iload_n 2, 33, 2, 0), 0),
  (33, (.sipush (1000), 36, 0, 0), 0),
  (36, (.if_icmp .lt (66), 39, 102, 0), 0),
  (39, (.iload_n 2, 40, 2, 0), 0),
  (40, (.sipush (2000), 43, 0, 0), 0),
  (43, (.if_icmp .ge (59), 46, 102, 0), 0),
  (46, (.aload_n 0, 47, 0, 0), 0),
  (47, (.getfield 71, 50, 797, 70), 908),
  (50, (.iload_n 1, 51, 1, 0), 0),
  (51, (.dup2, 52, 0, 0), 0),
  (52, (.iaload, 53, 0, 0), 0),
  (53, (.iconst (1), 54, 0, 0), 0),
  (54, (.isub, 55, 0, 0), 0),
  (55, (.iastore, 56, 0, 0), 0),
  (56, (.iconst (0), 57, 0, 0), 0),
  (57, (.istore 4, 59, 4, 0), 0),
  (59, (.iload 4, 61, 4, 0), 0),
  (61, (.aload_n 0, 62, 0, 0), 0),
  (62, (.getfield 71, 65, 797, 70), 908),
  (65, (.iload_n 1, 66, 1, 0), 0),
  (66, (.iaload, 67, 0, 0), 0),
  (67, (.if_icmp .ge (35), 70, 102, 0), 0),
  (70, (.aload_n 0, 71, 0, 0), 0),
  (71, (.getfield 74, 74, 798, 70), 909),
  (74, (.bipush (8), 76, 0, 0), 0),
  (76, (.iload_n 1, 77, 1, 0), 0),
  (77, (.imul, 78, 0, 0), 0),
  (78, (.iload 4, 80, 4, 0), 0),
  (80, (.iadd, 81, 0, 0), 0),
  (81, (.aload_n 0, 82, 0, 0), 0),
  (82, (.getfield 74, 85, 798, 70), 909),
  (85, (.bipush (8), 87, 0, 0), 0),
  (87, (.iload_n 1, 88, 1, 0), 0),
  (88, (.imul, 89, 0, 0), 0),
  (89, (.iload 4, 91, 4, 0), 0),
  (91, (.iadd, 92, 0, 0), 0),
  (92, (.iconst (1), 93, 0, 0), 0),
  (93, (.iadd, 94, 0, 0), 0),
  (94, (.iaload, 95, 0, 0), 0),
  (95, (.iastore, 96, 0, 0), 0),
  (96, (.iinc 4 (1), 99, 4, 0), 0),
  (99, (.goto (-40), 102, 59, 0), 0),
  (102, (.iload_n 2, 103, 2, 0), 0),
  (103, (.sipush (2000), 106, 0, 0), 0),
  (106, (.if_icmp .ne (150), 109, 256, 0), 0),
  (109, (.aload_n 0, 110, 0, 0), 0),
  (110, (.getfield 53, 113, 791, 70), 902),
  (113, (.iload_n 3, 114, 3, 0), 0),
  (114, (.aload_n 0, 115, 0, 0), 0),
  (115, (.getfield 44, 118, 788, 70), 899),
  (118, (.iconst (4), 119, 0, 0), 0),
  (119, (.iload_n 1, 120, 1, 0), 0),
  (120, (.imul, 121, 0, 0), 0),
  (121, (.iaload, 122, 0, 0), 0),
  (122, (.iastore, 123, 0, 0), 0),
  (123, (.aload_n 0, 124, 0, 0), 0),
  (124, (.getfield 56, 127, 792, 70), 903),
  (127, (.iload_n 3, 128, 3, 0), 0),
  (128, (.aload_n 0, 129, 0, 0), 0),
  (129, (.getfield 47, 132, 789, 70), 900),
  (132, (.iconst (4), 133, 0, 0), 0),
  (133, (.iload_n 1, 134, 1, 0), 0),
  (134, (.imul, 135, 0, 0), 0),
  (135, (.iaload, 136, 0, 0), 0),
  (136, (.iastore, 137, 0, 0), 0),
  (137, (.aload_n 0, 138, 0, 0), 0),
  (138, (.getfield 59, 141, 793, 70), 904),
  (141, (.iload_n 3, 142, 3, 0), 0),
  (142, (.aload_n 0, 143, 0, 0), 0),
  (143, (.getfield 50, 146, 790, 70), 901),
  (146, (.iconst (4), 147, 0, 0), 0),
  (147, (.iload_n 1, 148, 1, 0), 0),
  (148, (.imul, 149, 0, 0), 0),
  (149, (.iaload, 150, 0, 0), 0),
  (150, (.iastore, 151, 0, 0), 0),
  (151, (.aload_n 0, 152, 0, 0), 0),
  (152, (.getfield 62, 155, 794, 70), 905),
  (155, (.iload_n 3, 156, 3, 0), 0),
  (156, (.iconst (1), 157, 0, 0), 0),
  (157, (.iastore, 158, 0, 0), 0),
  (158, (.aload_n 0, 159, 0, 0), 0),
  (159, (.getfield 65, 162, 795, 70), 906),
  (162, (.iload_n 3, 163, 3, 0), 0),
  (163, (.iconst (0), 164, 0, 0), 0),
  (164, (.iastore, 165, 0, 0), 0),
  (165, (.aload_n 0, 166, 0, 0), 0),
  (166, (.getfield 68, 169, 796, 71), 907),
  (169, (.iload_n 3, 170, 3, 0), 0),
  (170, (.iconst (0), 171, 0, 0), 0),
  (171, (.bastore, 172, 0, 0), 0),
  (172, (.aload_n 0, 173, 0, 0), 0),
  (173, (.getfield 41, 176, 787, 70), 898),
  (176, (.iload_n 1, 177, 1, 0), 0),
  (177, (.dup2, 178, 0, 0), 0),
  (178, (.iaload, 179, 0, 0), 0),
  (179, (.iconst (1), 180, 0, 0), 0),
  (180, (.isub, 181, 0, 0), 0),
  (181, (.iastore, 182, 0, 0), 0),
  (182, (.iconst (4), 183, 0, 0), 0),
  (183, (.iload_n 1, 184, 1, 0), 0),
  (184, (.imul, 185, 0, 0), 0),
  (185, (.istore 4, 187, 4, 0), 0),
  (187, (.iload 4, 189, 4, 0), 0),
  (189, (.iconst (4), 190, 0, 0), 0),
  (190, (.iload_n 1, 191, 1, 0), 0),
  (191, (.imul, 192, 0, 0), 0),
  (192, (.aload_n 0, 193, 0, 0), 0),
  (193, (.getfield 41, 196, 787, 70), 898),
  (196, (.iload_n 1, 197, 1, 0), 0),
  (197, (.iaload, 198, 0, 0), 0),
  (198, (.iadd, 199, 0, 0), 0),
  (199, (.if_icmp .ge (57), 202, 256, 0), 0),
  (202, (.aload_n 0, 203, 0, 0), 0),
  (203, (.getfield 44, 206, 788, 70), 899),
  (206, (.iload 4, 208, 4, 0), 0),
  (208, (.aload_n 0, 209, 0, 0), 0),
  (209, (.getfield 44, 212, 788, 70), 899),
  (212, (.iload 4, 214, 4, 0), 0),
  (214, (.iconst (1), 215, 0, 0), 0),
  (215, (.iadd, 216, 0, 0), 0),
  (216, (.iaload, 217, 0, 0), 0),
  (217, (.iastore, 218, 0, 0), 0),
  (218, (.aload_n 0, 219, 0, 0), 0),
  (219, (.getfield 47, 222, 789, 70), 900),
  (222, (.iload 4, 224, 4, 0), 0),
  (224, (.aload_n 0, 225, 0, 0), 0),
  (225, (.getfield 47, 228, 789, 70), 900),
  (228, (.iload 4, 230, 4, 0), 0),
  (230, (.iconst (1), 231, 0, 0), 0),
  (231, (.iadd, 232, 0, 0), 0),
  (232, (.iaload, 233, 0, 0), 0),
  (233, (.iastore, 234, 0, 0), 0),
  (234, (.aload_n 0, 235, 0, 0), 0),
  (235, (.getfield 50, 238, 790, 70), 901),
  (238, (.iload 4, 240, 4, 0), 0),
  (240, (.aload_n 0, 241, 0, 0), 0),
  (241, (.getfield 50, 244, 790, 70), 901),
  (244, (.iload 4, 246, 4, 0), 0),
  (246, (.iconst (1), 247, 0, 0), 0),
  (247, (.iadd, 248, 0, 0), 0),
  (248, (.iaload, 249, 0, 0), 0),
  (249, (.iastore, 250, 0, 0), 0),
  (250, (.iinc 4 (1), 253, 4, 0), 0),
  (253, (.goto (-66), 256, 187, 0), 0),
  (256, (.aload_n 0, 257, 0, 0), 0),
  (257, (.iload_n 1, 258, 1, 0), 0),
  (258, (.invokevirtual 236, 261, 29, 354), 1146),
  (261, (.istore 4, 263, 4, 0), 0),
  (263, (.aload_n 0, 264, 0, 0), 0),
  (264, (.getfield 17, 267, 779, 70), 890),
  (267, (.aload_n 0, 268, 0, 0), 0),
  (268, (.getfield 155, 271, 778, 0), 889),
  (271, (.iload_n 1, 272, 1, 0), 0),
  (272, (.iastore, 273, 0, 0), 0),
  (273, (.aload_n 0, 274, 0, 0), 0),
  (274, (.getfield 20, 277, 780, 70), 891),
  (277, (.aload_n 0, 278, 0, 0), 0),
  (278, (.getfield 155, 281, 778, 0), 889),
  (281, (.iload 4, 283, 4, 0), 0),
  (283, (.iastore, 284, 0, 0), 0),
  (284, (.aload_n 0, 285, 0, 0), 0),
  (285, (.getfield 23, 288, 781, 70), 892),
  (288, (.aload_n 0, 289, 0, 0), 0),
  (289, (.getfield 155, 292, 778, 0), 889),
  (292, (.iload_n 1, 293, 1, 0), 0),
  (293, (.iastore, 294, 0, 0), 0),
  (294, (.aload_n 0, 295, 0, 0), 0),
  (295, (.getfield 26, 298, 782, 70), 893),
  (298, (.aload_n 0, 299, 0, 0), 0),
  (299, (.getfield 155, 302, 778, 0), 889),
  (302, (.iload_n 3, 303, 3, 0), 0),
  (303, (.bipush (8), 305, 0, 0), 0),
  (305, (.irem, 306, 0, 0), 0),
  (306, (.iastore, 307, 0, 0), 0),
  (307, (.aload_n 0, 308, 0, 0), 0),
  (308, (.getfield 29, 311, 783, 70), 894),
  (311, (.aload_n 0, 312, 0, 0), 0),
  (312, (.getfield 155, 315, 778, 0), 889),
  (315, (.aload_n 0, 316, 0, 0), 0),
  (316, (.getfield 65, 319, 795, 70), 906),
  (319, (.iload_n 3, 320, 3, 0), 0),
  (320, (.iaload, 321, 0, 0), 0),
  (321, (.iastore, 322, 0, 0), 0),
  (322, (.aload_n 0, 323, 0, 0), 0),
  (323, (.getfield 32, 326, 784, 70), 895),
  (326, (.aload_n 0, 327, 0, 0), 0),
  (327, (.getfield 155, 330, 778, 0), 889),
  (330, (.aload_n 0, 331, 0, 0), 0),
  (331, (.getfield 149, 334, 773, 0), 884),
  (334, (.iastore, 335, 0, 0), 0),
  (335, (.aload_n 0, 336, 0, 0), 0),
  (336, (.getfield 35, 339, 785, 70), 896),
  (339, (.aload_n 0, 340, 0, 0), 0),
  (340, (.getfield 155, 343, 778, 0), 889),
  (343, (.aload_n 0, 344, 0, 0), 0),
  (344, (.getfield 62, 347, 794, 70), 905),
  (347, (.iload_n 3, 348, 3, 0), 0),
  (348, (.iaload, 349, 0, 0), 0),
  (349, (.iastore, 350, 0, 0), 0),
  (350, (.aload_n 0, 351, 0, 0), 0),
  (351, (.dup, 352, 0, 0), 0),
  (352, (.getfield 155, 355, 778, 0), 889),
  (355, (.iconst (1), 356, 0, 0), 0),
  (356, (.iadd, 357, 0, 0), 0),
  (357, (.putfield 155, 360, 778, 0), 889),
  (360, (.aload_n 0, 361, 0, 0), 0),
  (361, (.getfield 65, 364, 795, 70), 906),
  (364, (.iload_n 3, 365, 3, 0), 0),
  (365, (.dup2, 366, 0, 0), 0),
  (366, (.iaload, 367, 0, 0), 0),
  (367, (.iconst (1), 368, 0, 0), 0),
  (368, (.iadd, 369, 0, 0), 0),
  (369, (.iastore, 370, 0, 0), 0),
  (370, (.return_, 371, 0, 0), 0)]
def fx_c72 : List fx_E := [
  (0, (.aload_n 0, 1, 0, 0), 0),
  (1, (.iconst (0), 2, 0, 0), 0),
  (2, (.putfield 130, 5, 768, 0), 879),
  (5, (.aload_n 0, 6, 0, 0), 0),
  (6, (.iload_n 1, 7, 1, 0), 0),
  (7, (.invokevirtual 185, 10, 34, 354), 1042),
  (10, (.ifCond .eq (21), 13, 31, 0), 0),
  (13, (.iload_n 2, 14, 2, 0), 0),
  (14, (.iconst (0), 15, 0, 0), 0),
  (15, (.iconst (3), 16, 0, 0), 0),
  (16, (.invokestatic 134, 19, 47, 3), 868),
  (19, (.ifCond .eq (12), 22, 31, 0), 0),
  (22, (.aload_n 0, 23, 0, 0), 0),
  (23, (.iload_n 1, 24, 1, 0), 0),
  (24, (.iload_n 2, 25, 2, 0), 0),
  (25, (.invokevirtual 261, 28, 39, 355), 1170),
  (28, (.goto (4), 31, 32, 0), 0),
  (31, (.iconst (-1), 32, 0, 0), 0),
  (32, (.istore 4, 34, 4, 0), 0),
  (34, (.iload 4, 36, 4, 0), 0),
  (36, (.iconst (-1), 37, 0, 0), 0),
  (37, (.if_icmp .ne (5), 40, 42, 0), 0),
  (40, (.iconst (-1), 41, 0, 0), 0),
  (41, (.ireturn, 42, 0, 0), 0),
  (42, (.iload_n 3, 43, 3, 0), 0),
  (43, (.tableswitch (84) (0) (5) #[(37), (45), (53), (61), (68), (76)], 80, 127, 0), 0),
  (80, (.aload_n 0, 81, 0, 0), 0),
  (81, (.getfield 23, 84, 781, 70), 892),
  (84, (.iload 4, 86, 4, 0), 0),
  (86, (.iaload, 87, 0, 0), 0),
  (87, (.ireturn, 88, 0, 0), 0),
  (88, (.aload_n 0, 89, 0, 0), 0),
  (89, (.getfield 26, 92, 782, 70), 893),
  (92, (.iload 4, 94, 4, 0), 0),
  (94, (.iaload, 95, 0, 0), 0),
  (95, (.ireturn, 96, 0, 0), 0),
  (96, (.aload_n 0, 97, 0, 0), 0),
  (97, (.getfield 29, 100, 783, 70), 894),
  (100, (.iload 4, 102, 4, 0), 0),
  (102, (.iaload, 103, 0, 0), 0),
  (103, (.ireturn, 104, 0, 0), 0),
  (104, (.aload_n 0, 105, 0, 0), 0),
  (105, (.iload 4, 107, 4, 0), 0),
  (107, (.invokevirtual 220, 110, 31, 354), 1074),
  (110, (.ireturn, 111, 0, 0), 0),
  (111, (.aload_n 0, 112, 0, 0), 0),
  (112, (.getfield 32, 115, 784, 70), 895),
  (115, (.iload 4, 117, 4, 0), 0),
  (117, (.iaload, 118, 0, 0), 0),
  (118, (.ireturn, 119, 0, 0), 0),
  (119, (.aload_n 0, 120, 0, 0), 0),
  (120, (.getfield 35, 123, 785, 70), 896),
  (123, (.iload 4, 125, 4, 0), 0),
  (125, (.iaload, 126, 0, 0), 0),
  (126, (.ireturn, 127, 0, 0), 0),
  (127, (.iconst (-1), 128, 0, 0), 0),
  (128, (.ireturn, 129, 0, 0), 0)]
def fx_c73 : List fx_E := [
  (0, (.aload_n 0, 1, 0, 0), 0),
  (1, (.iconst (0), 2, 0, 0), 0),
  (2, (.putfield 130, 5, 768, 0), 879),
  (5, (.aload_n 0, 6, 0, 0), 0),
  (6, (.invokevirtual 195, 9, 32, 353), 1086),
  (9, (.istore_n 2, 10, 2, 0), 0),
  (10, (.iload_n 1, 11, 1, 0), 0),
  (11, (.ifCond .ne (10), 14, 21, 0), 0),
  (14, (.iload_n 2, 15, 2, 0), 0),
  (15, (.bipush (64), 17, 0, 0), 0),
  (17, (.idiv, 18, 0, 0), 0),
  (18, (.goto (31), 21, 49, 0), 0),
  (21, (.iload_n 1, 22, 1, 0), 0),
  (22, (.iconst (1), 23, 0, 0), 0),
  (23, (.if_icmp .ne (13), 26, 36, 0), 0),
  (26, (.iload_n 2, 27, 2, 0), 0),
  (27, (.bipush (8), 29, 0, 0), 0),
  (29, (.idiv, 30, 0, 0), 0),
  (30, (.bipush (8), 32, 0, 0), 0),
  (32, (.irem, 33, 0, 0), 0),
  (33, (.goto (16), 36, 49, 0), 0),
  (36, (.iload_n 1, 37, 1, 0), 0),
  (37, (.iconst (2), 38, 0, 0), 0),
  (38, (.if_icmp .ne (10), 41, 48, 0), 0),
  (41, (.iload_n 2, 42, 2, 0), 0),
  (42, (.bipush (8), 44, 0, 0), 0),
  (44, (.irem, 45, 0, 0), 0),
  (45, (.goto (4), 48, 49, 0), 0),
  (48, (.iconst (-1), 49, 0, 0), 0),
  (49, (.ireturn, 50, 0, 0), 0)]
def fx_c74 : List fx_E := [
  (0, (.bipush (64), 2, 0, 0), 0),
  (2, (.aload_n 0, 3, 0, 0), 0),
  (3, (.getfield 23, 6, 781, 70), 892),
  (6, (.iload_n 1, 7, 1, 0), 0),
  (7, (.iaload, 8, 0, 0), 0),
  (8, (.imul, 9, 0, 0), 0),
  (9, (.bipush (8), 11, 0, 0), 0),
  (11, (.aload_n 0, 12, 0, 0), 0),
  (12, (.getfield 26, 15, 782, 70), 893),
  (15, (.iload_n 1, 16, 1, 0), 0),
  (16, (.iaload, 17, 0, 0), 0),
  (17, (.imul, 18, 0, 0), 0),
  (18, (.iadd, 19, 0, 0), 0),
  (19, (.aload_n 0, 20, 0, 0), 0),
  (20, (.getfield 29, 23, 783, 70), 894),
  (23, (.iload_n 1, 24, 1, 0), 0),
  (24, (.iaload, 25, 0, 0), 0),
  (25, (.iadd, 26, 0, 0), 0),
  (26, (.aload_n 0, 27, 0, 0), 0),
  (27, (.invokevirtual 195, 30, 32, 353), 1086),
  (30, (.if_icmp .ne (7), 33, 37, 0), 0),
  (33, (.iconst (1), 34, 0, 0), 0),
  (34, (.goto (4), 37, 38, 0), 0),
  (37, (.iconst (0), 38, 0, 0), 0),
  (38, (.ireturn, 39, 0, 0), 0)]
def fx_c75 : List fx_E := [
  (0, (.aload_n 0, 1, 0, 0), 0),
  (1, (.getfield 158, 4, 810, 0), 921),
  (4, (.ifCond .ne (14), 7, 18, 0), 0),
  (7, (.aload_n 0, 8, 0, 0), 0),
  (8, (.getfield 155, 11, 778, 0), 889),
  (11, (.ifCond .ne (7), 14, 18, 0), 0),
  (14, (.iconst (1), 15, 0, 0), 0),
  (15, (.goto (4), 18, 19, 0), 0),
  (18, (.iconst (0), 19, 0, 0), 0),
  (19, (.istore_n 1, 20, 1, 0), 0),
  (20, (.iconst (0), 21, 0, 0), 0),
  (21, (.istore_n 2, 22, 2, 0), 0),
  (22, (.iload_n 2, 23, 2, 0), 0),
  (23, (.aload_n 0, 24, 0, 0), 0),
  (24, (.getfield 140, 27, 770, 0), 881),
  (27, (.if_icmp .ge (36), 30, 63, 0), 0),
  (30, (.iload_n 1, 31, 1, 0), 0),
  (31, (.ifCond .eq (24), 34, 55, 0), 0),
  (34, (.aload_n 0, 35, 0, 0), 0),
  (35, (.getfield 41, 38, 787, 70), 898),
  (38, (.iload_n 2, 39, 2, 0), 0),
  (39, (.iaload, 40, 0, 0), 0),
  (40, (.ifCond .ne (15), 43, 55, 0), 0),
  (43, (.aload_n 0, 44, 0, 0), 0),
  (44, (.iload_n 2, 45, 2, 0), 0),
  (45, (.invokevirtual 181, 48, 46, 354), 1050),
  (48, (.ifCond .ne (7), 51, 55, 0), 0),
  (51, (.iconst (1), 52, 0, 0), 0),
  (52, (.goto (4), 55, 56, 0), 0),
  (55, (.iconst (0), 56, 0, 0), 0),
  (56, (.istore_n 1, 57, 1, 0), 0),
  (57, (.iinc 2 (1), 60, 2, 0), 0),
  (60, (.goto (-38), 63, 22, 0), 0),
  (63, (.iload_n 1, 64, 1, 0), 0),
  (64, (.ireturn, 65, 0, 0), 0)]
def fx_c76 : List fx_E := [
  (0, (.aload_n 0, 1, 0, 0), 0),
  (1, (.getfield 17, 4, 779, 70), 890),
  (4, (.iload_n 1, 5, 1, 0), 0),
  (5, (.iaload, 6, 0, 0), 0),
  (6, (.istore_n 3, 7, 3, 0), 0),
  (7, (.aload_n 0, 8, 0, 0), 0),
  (8, (.getfield 7, 11, 775, 71), 886),
  (11, (.iconst (4), 12, 0, 0), 0),
  (12, (.iload_n 3, 13, 3, 0), 0),
  (13, (.imul, 14, 0, 0), 0),
  (14, (.iload_n 2, 15, 2, 0), 0),
  (15, (.iadd, 16, 0, 0), 0),
  (16, (.baload, 17, 0, 0), 0),
  (17, (.ifCond .ne (45), 20, 62, 0), 0),
  (20, (.aload_n 0, 21, 0, 0), 0),
  (21, (.getfield 13, 24, 776, 70), 887),
  (24, (.bipush (64), 26, 0, 0), 0),
  (26, (.aload_n 0, 27, 0, 0), 0),
  (27, (.iload_n 3, 28, 3, 0), 0),
  (28, (.iload_n 2, 29, 2, 0), 0),
  (29, (.invokevirtual 177, 32, 37, 355), 875),
  (32, (.imul, 33, 0, 0), 0),
  (33, (.aload_n 0, 34, 0, 0), 0),
  (34, (.iload_n 1, 35, 1, 0), 0),
  (35, (.invokevirtual 220, 38, 31, 354), 1074),
  (38, (.iadd, 39, 0, 0), 0),
  (39, (.iaload, 40, 0, 0), 0),
  (40, (.aload_n 0, 41, 0, 0), 0),
  (41, (.getfield 13, 44, 776, 70), 887),
  (44, (.bipush (64), 46, 0, 0), 0),
  (46, (.iload_n 3, 47, 3, 0), 0),
  (47, (.imul, 48, 0, 0), 0),
  (48, (.aload_n 0, 49, 0, 0), 0),
  (49, (.iload_n 1, 50, 1, 0), 0),
  (50, (.invokevirtual 220, 53, 31, 354), 1074),
  (53, (.iadd, 54, 0, 0), 0),
  (54, (.iaload, 55, 0, 0), 0),
  (55, (.if_icmp .ge (7), 58, 62, 0), 0),
  (58, (.iconst (1), 59, 0, 0), 0),
  (59, (.goto (4), 62, 63, 0), 0),
  (62, (.iconst (0), 63, 0, 0), 0),
  (63, (.ireturn, 64, 0, 0), 0)]
def fx_c77 : List fx_E := [
  (0, (.iconst (1), 1, 0, 0), 0),
  (1, (.istore_n 1, 2, 1, 0), 0),
  (2, (.aload_n 0, 3, 0, 0), 0),
  (3, (.iconst (0), 4, 0, 0), 0),
  (4, (.putfield 174, 7, 777, 0), 888),
  (7, (.iconst (0), 8, 0, 0), 0),
  (8, (.istore_n 2, 9, 2, 0), 0),
  (9, (.iload_n 2, 10, 2, 0), 0),
  (10, (.aload_n 0, 11, 0, 0), 0),
  (11, (.getfield 140, 14, 770, 0), 881),
  (14, (.if_icmp .ge (265), 17, 279, 0), 0),
  (17, (.iconst (0), 18, 0, 0), 0),
  (18, (.istore_n 3, 19, 3, 0), 0),
  (19, (.iload_n 3, 20, 3, 0), 0),
  (20, (.aload_n 0, 21, 0, 0), 0),
  (21, (.getfield 140, 24, 770, 0), 881),
  (24, (.if_icmp .ge (32), 27, 56, 0), 0),
  (27, (.aload_n 0, 28, 0, 0), 0),
  (28, (.getfield 13, 31, 776, 70), 887),
  (31, (.bipush (64), 33, 0, 0), 0),
  (33, (.iload_n 2, 34, 2, 0), 0),
  (34, (.imul, 35, 0, 0), 0),
  (35, (.iload_n 3, 36, 3, 0), 0),
  (36, (.iadd, 37, 0, 0), 0),
  (37, (.iload_n 2, 38, 2, 0), 0),
  (38, (.iload_n 3, 39, 3, 0), 0),
  (39, (.if_icmp .ne (7), 42, 46, 0), 0),
  (42, (.iconst (0), 43, 0, 0), 0),
  (43, (.goto (6), 46, 49, 0), 0),
  (46, (.sipush (1000), 49, 0, 0), 0),
  (49, (.iastore, 50, 0, 0), 0),
  (50, (.iinc 3 (1), 53, 3, 0), 0),
  (53, (.goto (-34), 56, 19, 0), 0),
  (56, (.iconst (1), 57, 0, 0), 0),
  (57, (.istore_n 3, 58, 3, 0), 0),
  (58, (.iload_n 3, 59, 3, 0), 0),
  (59, (.ifCond .eq (126), 62, 185, 0), 0),
  (62, (.iconst (0), 63, 0, 0), 0),
  (63, (.istore_n 3, 64, 3, 0), 0),
  (64, (.iconst (0), 65, 0, 0), 0),
  (65, (.istore 4, 67, 4, 0), 0),
  (67, (.iload 4, 69, 4, 0), 0),
  (69, (.aload_n 0, 70, 0, 0), 0),
  (70, (.getfield 140, 73, 770, 0), 881),
  (73, (.if_icmp .ge (109), 76, 182, 0), 0),
  (76, (.iconst (0), 77, 0, 0), 0),
  (77, (.istore 5, 79, 5, 0), 0),
  (79, (.iload 5, 81, 5, 0), 0),
  (81, (.iconst (4), 82, 0, 0), 0),
  (82, (.if_icmp .ge (94), 85, 176, 0), 0),
  (85, (.aload_n 0, 86, 0, 0), 0),
  (86, (.iload 4, 88, 4, 0), 0),
  (88, (.iload 5, 90, 5, 0), 0),
  (90, (.invokevirtual 177, 93, 37, 355), 875),
  (93, (.istore 6, 95, 6, 0), 0),
  (95, (.aload_n 0, 96, 0, 0), 0),
  (96, (.getfield 7, 99, 775, 71), 886),
  (99, (.iconst (4), 100, 0, 0), 0),
  (100, (.iload 4, 102, 4, 0), 0),
  (102, (.imul, 103, 0, 0), 0),
  (103, (.iload 5, 105, 5, 0), 0),
  (105, (.iadd, 106, 0, 0), 0),
  (106, (.baload, 107, 0, 0), 0),
  (107, (.ifCond .ne (63), 110, 170, 0), 0),
  (110, (.aload_n 0, 111, 0, 0), 0),
  (111, (.getfield 13, 114, 776, 70), 887),
  (114, (.bipush (64), 116, 0, 0), 0),
  (116, (.iload_n 2, 117, 2, 0), 0),
  (117, (.imul, 118, 0, 0), 0),
  (118, (.iload 4, 120, 4, 0), 0),
  (120, (.iadd, 121, 0, 0), 0),
  (121, (.iaload, 122, 0, 0), 0),
  (122, (.iconst (1), 123, 0, 0), 0),
  (123, (.iadd, 124, 0, 0), 0),
  (124, (.aload_n 0, 125, 0, 0), 0),
  (125, (.getfield 13, 128, 776, 70), 887),
  (128, (.bipush (64), 130, 0, 0), 0),
  (130, (.iload_n 2, 131, 2, 0), 0),
  (131, (.imul, 132, 0, 0), 0),
  (132, (.iload 6, 134, 6, 0), 0),
  (134, (.iadd, 135, 0, 0), 0),
  (135, (.iaload, 136, 0, 0), 0),
  (136, (.if_icmp .lt (6), 139, 142, 0), 0),
  (139, (.goto (31), 142, 170, 0), 0),
  (142, (.aload_n 0, 143, 0, 0), 0),
  (143, (.getfield 13, 146, 776, 70), 887),
  (146, (.bipush (64), 148, 0, 0), 0),
  (148, (.iload_n 2, 149, 2, 0), 0),
  (149, (.imul, 150, 0, 0), 0),
  (150, (.iload 6, 152, 6, 0), 0),
  (152, (.iadd, 153, 0, 0), 0),
  (153, (.aload_n 0, 154, 0, 0), 0),
  (154, (.getfield 13, 157, 776, 70), 887),
  (157, (.bipush (64), 159, 0, 0), 0),
  (159, (.iload_n 2, 160, 2, 0), 0),
  (160, (.imul, 161, 0, 0), 0),
  (161, (.iload 4, 163, 4, 0), 0),
  (163, (.iadd, 164, 0, 0), 0),
  (164, (.iaload, 165, 0, 0), 0),
  (165, (.iconst (1), 166, 0, 0), 0),
  (166, (.iadd, 167, 0, 0), 0),
  (167, (.iastore, 168, 0, 0), 0),
  (168, (.iconst (1), 169, 0, 0), 0),
  (169, (.istore_n 3, 170, 3, 0), 0),
  (170, (.iinc 5 (1), 173, 5, 0), 0),
  (173, (.goto (-94), 176, 79, 0), 0),
  (176, (.iinc 4 (1), 179, 4, 0), 0),
  (179, (.goto (-112), 182, 67, 0), 0),
  (182, (.goto (-124), 185, 58, 0), 0),
  (185, (.iconst (0), 186, 0, 0), 0),
  (186, (.istore 4, 188, 4, 0), 0),
  (188, (.iload 4, 190, 4, 0), 0),
  (190, (.aload_n 0, 191, 0, 0), 0),
  (191, (.getfield 140, 194, 770, 0), 881),
  (194, (.if_icmp .ge (79), 197, 273, 0), 0),
  (197, (.iload_n 1, 198, 1, 0), 0),
  (198, (.ifCond .eq (25), 201, 223, 0), 0),
  (201, (.aload_n 0, 202, 0, 0), 0),
  (202, (.getfield 13, 205, 776, 70), 887),
  (205, (.bipush (64), 207, 0, 0), 0),
  (207, (.iload_n 2, 208, 2, 0), 0),
  (208, (.imul, 209, 0, 0), 0),
  (209, (.iload 4, 211, 4, 0), 0),
  (211, (.iadd, 212, 0, 0), 0),
  (212, (.iaload, 213, 0, 0), 0),
  (213, (.sipush (1000), 216, 0, 0), 0),
  (216, (.if_icmp .ge (7), 219, 223, 0), 0),
  (219, (.iconst (1), 220, 0, 0), 0),
  (220, (.goto (4), 223, 224, 0), 0),
  (223, (.iconst (0), 224, 0, 0), 0),
  (224, (.istore_n 1, 225, 1, 0), 0),
  (225, (.aload_n 0, 226, 0, 0), 0),
  (226, (.aload_n 0, 227, 0, 0), 0),
  (227, (.getfield 13, 230, 776, 70), 887),
  (230, (.bipush (64), 232, 0, 0), 0),
  (232, (.iload_n 2, 233, 2, 0), 0),
  (233, (.imul, 234, 0, 0), 0),
  (234, (.iload 4, 236, 4, 0), 0),
  (236, (.iadd, 237, 0, 0), 0),
  (237, (.iaload, 238, 0, 0), 0),
  (238, (.aload_n 0, 239, 0, 0), 0),
  (239, (.getfield 174, 242, 777, 0), 888),
  (242, (.if_icmp .le (18), 245, 260, 0), 0),
  (245, (.aload_n 0, 246, 0, 0), 0),
  (246, (.getfield 13, 249, 776, 70), 887),
  (249, (.bipush (64), 251, 0, 0), 0),
  (251, (.iload_n 2, 252, 2, 0), 0),
  (252, (.imul, 253, 0, 0), 0),
  (253, (.iload 4, 255, 4, 0), 0),
  (255, (.iadd, 256, 0, 0), 0),
  (256, (.iaload, 257, 0, 0), 0),
  (257, (.goto (7), 260, 264, 0), 0),
  (260, (.aload_n 0, 261, 0, 0), 0),
  (261, (.getfield 174, 264, 777, 0), 888),
  (264, (.putfield 174, 267, 777, 0), 888),
  (267, (.iinc 4 (1), 270, 4, 0), 0),
  (270, (.goto (-82), 273, 188, 0), 0),
  (273, (.iinc 2 (1), 276, 2, 0), 0),
  (276, (.goto (-267), 279, 9, 0), 0),
  (279, (.iload_n 1, 280, 1, 0), 0),
  (280, (.ireturn, 281, 0, 0), 0)]
def fx_c78 : List fx_E := [
  (0, (.aload_n 0, 1, 0, 0), 0),
  (1, (.iconst (0), 2, 0, 0), 0),
  (2, (.putfield 130, 5, 768, 0), 879),
  (5, (.aload_n 0, 6, 0, 0), 0),
  (6, (.iload_n 1, 7, 1, 0), 0),
  (7, (.invokevirtual 185, 10, 34, 354), 1042),
  (10, (.ifCond .ne (5), 13, 15, 0), 0),
  (13, (.iconst (-1), 14, 0, 0), 0),
  (14, (.ireturn, 15, 0, 0), 0),
  (15, (.iconst (0), 16, 0, 0), 0),
  (16, (.istore_n 3, 17, 3, 0), 0),
  (17, (.iconst (4), 18, 0, 0), 0),
  (18, (.iload_n 1, 19, 1, 0), 0),
  (19, (.imul, 20, 0, 0), 0),
  (20, (.istore 4, 22, 4, 0), 0),
  (22, (.iload 4, 24, 4, 0), 0),
  (24, (.iconst (4), 25, 0, 0), 0),
  (25, (.iload_n 1, 26, 1, 0), 0),
  (26, (.imul, 27, 0, 0), 0),
  (27, (.iconst (4), 28, 0, 0), 0),
  (28, (.iadd, 29, 0, 0), 0),
  (29, (.if_icmp .ge (28), 32, 57, 0), 0),
  (32, (.iload_n 3, 33, 3, 0), 0),
  (33, (.aload_n 0, 34, 0, 0), 0),
  (34, (.getfield 77, 37, 799, 70), 910),
  (37, (.iload 4, 39, 4, 0), 0),
  (39, (.iaload, 40, 0, 0), 0),
  (40, (.iconst (-1), 41, 0, 0), 0),
  (41, (.if_icmp .ne (7), 44, 48, 0), 0),
  (44, (.iconst (0), 45, 0, 0), 0),
  (45, (.goto (4), 48, 49, 0), 0),
  (48, (.iconst (1), 49, 0, 0), 0),
  (49, (.iadd, 50, 0, 0), 0),
  (50, (.istore_n 3, 51, 3, 0), 0),
  (51, (.iinc 4 (1), 54, 4, 0), 0),
  (54, (.goto (-32), 57, 22, 0), 0),
  (57, (.iload_n 2, 58, 2, 0), 0),
  (58, (.tableswitch (106) (0) (8) #[(50), (57), (63), (70), (72), (79), (85), (92), (99)], 108, 164, 0), 0),
  (108, (.aload_n 0, 109, 0, 0), 0),
  (109, (.getfield 41, 112, 787, 70), 898),
  (112, (.iload_n 1, 113, 1, 0), 0),
  (113, (.iaload, 114, 0, 0), 0),
  (114, (.ireturn, 115, 0, 0), 0),
  (115, (.aload_n 0, 116, 0, 0), 0),
  (116, (.iload_n 1, 117, 1, 0), 0),
  (117, (.invokevirtual 181, 120, 46, 354), 1050),
  (120, (.ireturn, 121, 0, 0), 0),
  (121, (.aload_n 0, 122, 0, 0), 0),
  (122, (.getfield 93, 125, 804, 70), 915),
  (125, (.iload_n 1, 126, 1, 0), 0),
  (126, (.iaload, 127, 0, 0), 0),
  (127, (.ireturn, 128, 0, 0), 0),
  (128, (.iload_n 3, 129, 3, 0), 0),
  (129, (.ireturn, 130, 0, 0), 0),
  (130, (.aload_n 0, 131, 0, 0), 0),
  (131, (.getfield 86, 134, 802, 70), 913),
  (134, (.iload_n 1, 135, 1, 0), 0),
  (135, (.iaload, 136, 0, 0), 0),
  (136, (.ireturn, 137, 0, 0), 0),
  (137, (.aload_n 0, 138, 0, 0), 0),
  (138, (.iload_n 1, 139, 1, 0), 0),
  (139, (.invokevirtual 245, 142, 28, 354), 1138),
  (142, (.ireturn, 143, 0, 0), 0),
  (143, (.aload_n 0, 144, 0, 0), 0),
  (144, (.getfield 123, 147, 815, 70), 926),
  (147, (.iload_n 1, 148, 1, 0), 0),
  (148, (.iaload, 149, 0, 0), 0),
  (149, (.ireturn, 150, 0, 0), 0),
  (150, (.aload_n 0, 151, 0, 0), 0),
  (151, (.getfield 120, 154, 814, 70), 925),
  (154, (.iload_n 1, 155, 1, 0), 0),
  (155, (.iaload, 156, 0, 0), 0),
  (156, (.ireturn, 157, 0, 0), 0),
  (157, (.aload_n 0, 158, 0, 0), 0),
  (158, (.getfield 71, 161, 797, 70), 908),
  (161, (.iload_n 1, 162, 1, 0), 0),
  (162, (.iaload, 163, 0, 0), 0),
  (163, (.ireturn, 164, 0, 0), 0),
  (164, (.iconst (-1), 165, 0, 0), 0),
  (165, (.ireturn, 166, 0, 0), 0)]
def fx_c79 : List fx_E := [
  (0, (.aload_n 0, 1, 0, 0), 0),
  (1, (.iconst (0), 2, 0, 0), 0),
  (2, (.putfield 130, 5, 768, 0), 879),
  (5, (.aload_n 0, 6, 0, 0), 0),
  (6, (.iload_n 1, 7, 1, 0), 0),
  (7, (.invokevirtual 185, 10, 34, 354), 1042),
  (10, (.ifCond .eq (36), 13, 46, 0), 0),
  (13, (.aload_n 0, 14, 0, 0), 0),
  (14, (.iload_n 2, 15, 2, 0), 0),
  (15, (.invokevirtual 185, 18, 34, 354), 1042),
  (18, (.ifCond .eq (28), 21, 46, 0), 0),
  (21, (.iload_n 1, 22, 1, 0), 0),
  (22, (.iload_n 2, 23, 2, 0), 0),
  (23, (.if_icmp .eq (23), 26, 46, 0), 0),
  (26, (.iload_n 3, 27, 3, 0), 0),
  (27, (.iconst (1), 28, 0, 0), 0),
  (28, (.bipush (8), 30, 0, 0), 0),
  (30, (.invokestatic 134, 33, 47, 3), 868),
  (33, (.ifCond .eq (13), 36, 46, 0), 0),
  (36, (.aload_n 0, 37, 0, 0), 0),
  (37, (.getfield 41, 40, 787, 70), 898),
  (40, (.iload_n 1, 41, 1, 0), 0),
  (41, (.iaload, 42, 0, 0), 0),
  (42, (.iconst (4), 43, 0, 0), 0),
  (43, (.if_icmp .ne (5), 46, 48, 0), 0),
  (46, (.iconst (0), 47, 0, 0), 0),
  (47, (.ireturn, 48, 0, 0), 0),
  (48, (.aload_n 0, 49, 0, 0), 0),
  (49, (.getfield 44, 52, 788, 70), 899),
  (52, (.iconst (4), 53, 0, 0), 0),
  (53, (.iload_n 1, 54, 1, 0), 0),
  (54, (.imul, 55, 0, 0), 0),
  (55, (.aload_n 0, 56, 0, 0), 0),
  (56, (.getfield 41, 59, 787, 70), 898),
  (59, (.iload_n 1, 60, 1, 0), 0),
  (60, (.iaload, 61, 0, 0), 0),
  (61, (.iadd, 62, 0, 0), 0),
  (62, (.iload_n 2, 63, 2, 0), 0),
  (63, (.iastore, 64, 0, 0), 0),
  (64, (.aload_n 0, 65, 0, 0), 0),
  (65, (.getfield 47, 68, 789, 70), 900),
  (68, (.iconst (4), 69, 0, 0), 0),
  (69, (.iload_n 1, 70, 1, 0), 0),
  (70, (.imul, 71, 0, 0), 0),
  (71, (.aload_n 0, 72, 0, 0), 0),
  (72, (.getfield 41, 75, 787, 70), 898),
  (75, (.iload_n 1, 76, 1, 0), 0),
  (76, (.iaload, 77, 0, 0), 0),
  (77, (.iadd, 78, 0, 0), 0),
  (78, (.iload_n 3, 79, 3, 0), 0),
  (79, (.iastore, 80, 0, 0), 0),
  (80, (.aload_n 0, 81, 0, 0), 0),
  (81, (.getfield 50, 84, 790, 70), 901),
  (84, (.iconst (4), 85, 0, 0), 0),
  (85, (.iload_n 1, 86, 1, 0), 0),
  (86, (.imul, 87, 0, 0), 0),
  (87, (.aload_n 0, 88, 0, 0), 0),
  (88, (.getfield 41, 91, 787, 70), 898),
  (91, (.iload_n 1, 92, 1, 0), 0),
  (92, (.iaload, 93, 0, 0), 0),
  (93, (.iadd, 94, 0, 0), 0),
  (94, (.iload 4, 96, 4, 0), 0),
  (96, (.iastore, 97, 0, 0), 0),
  (97, (.aload_n 0, 98, 0, 0), 0),
  (98, (.getfield 41, 101, 787, 70), 898),
  (101, (.iload_n 1, 102, 1, 0), 0),
  (102, (.dup2, 103, 0, 0), 0),
  (103, (.iaload, 104, 0, 0), 0),
  (104, (.iconst (1), 105, 0, 0), 0),
  (105, (.iadd, 106, 0, 0), 0),
  (106, (.iastore, 107, 0, 0), 0),
  (107, (.iconst (1), 108, 0, 0), 0),
  (108, (.ireturn, 109, 0, 0), 0)]
def fx_c80 : List fx_E := [
  (0, (.iconst (4), 1, 0, 0), 0),
  (1, (.iload_n 1, 2, 1, 0), 0),
  (2, (.imul, 3, 0, 0), 0),
  (3, (.istore_n 2, 4, 2, 0), 0),
  (4, (.iload_n 2, 5, 2, 0), 0),
  (5, (.iconst (4), 6, 0, 0), 0),
  (6, (.iload_n 1, 7, 1, 0), 0),
  (7, (.imul, 8, 0, 0), 0),
  (8, (.iconst (4), 9, 0, 0), 0),
  (9, (.iadd, 10, 0, 0), 0),
  (10, (.if_icmp .ge (139), 13, 149, 0), 0),
  (13, (.aload_n 0, 14, 0, 0), 0),
  (14, (.getfield 77, 17, 799, 70), 910),
  (17, (.iload_n 2, 18, 2, 0), 0),
  (18, (.iaload, 19, 0, 0), 0),
  (19, (.istore_n 3, 20, 3, 0), 0),
  (20, (.iload_n 3, 21, 3, 0), 0),
  (21, (.iconst (-1), 22, 0, 0), 0),
  (22, (.if_icmp .eq (121), 25, 143, 0), 0),
  (25, (.aload_n 0, 26, 0, 0), 0),
  (26, (.getfield 93, 29, 804, 70), 915),
  (29, (.iload_n 1, 30, 1, 0), 0),
  (30, (.iaload, 31, 0, 0), 0),
  (31, (.iconst (4), 32, 0, 0), 0),
  (32, (.if_icmp .eq (111), 35, 143, 0), 0),
  (35, (.aload_n 0, 36, 0, 0), 0),
  (36, (.getfield 83, 39, 801, 70), 912),
  (39, (.iload_n 2, 40, 2, 0), 0),
  (40, (.iaload, 41, 0, 0), 0),
  (41, (.iconst (1), 42, 0, 0), 0),
  (42, (.aload_n 0, 43, 0, 0), 0),
  (43, (.getfield 56, 46, 792, 70), 903),
  (46, (.iload_n 3, 47, 3, 0), 0),
  (47, (.iaload, 48, 0, 0), 0),
  (48, (.ishl, 49, 0, 0), 0),
  (49, (.iconst (1), 50, 0, 0), 0),
  (50, (.isub, 51, 0, 0), 0),
  (51, (.if_icmp .eq (6), 54, 57, 0), 0),
  (54, (.goto (89), 57, 143, 0), 0),
  (57, (.iconst (4), 58, 0, 0), 0),
  (58, (.iload_n 1, 59, 1, 0), 0),
  (59, (.imul, 60, 0, 0), 0),
  (60, (.aload_n 0, 61, 0, 0), 0),
  (61, (.getfield 93, 64, 804, 70), 915),
  (64, (.iload_n 1, 65, 1, 0), 0),
  (65, (.iaload, 66, 0, 0), 0),
  (66, (.iadd, 67, 0, 0), 0),
  (67, (.istore 4, 69, 4, 0), 0),
  (69, (.aload_n 0, 70, 0, 0), 0),
  (70, (.getfield 96, 73, 805, 70), 916),
  (73, (.iload 4, 75, 4, 0), 0),
  (75, (.aload_n 0, 76, 0, 0), 0),
  (76, (.getfield 59, 79, 793, 70), 904),
  (79, (.iload_n 3, 80, 3, 0), 0),
  (80, (.iaload, 81, 0, 0), 0),
  (81, (.iastore, 82, 0, 0), 0),
  (82, (.aload_n 0, 83, 0, 0), 0),
  (83, (.getfield 99, 86, 806, 70), 917),
  (86, (.iload 4, 88, 4, 0), 0),
  (88, (.iload_n 3, 89, 3, 0), 0),
  (89, (.bipush (8), 91, 0, 0), 0),
  (91, (.idiv, 92, 0, 0), 0),
  (92, (.iastore, 93, 0, 0), 0),
  (93, (.aload_n 0, 94, 0, 0), 0),
  (94, (.getfield 102, 97, 807, 70), 918),
  (97, (.iload 4, 99, 4, 0), 0),
  (99, (.aload_n 0, 100, 0, 0), 0),
  (100, (.getfield 56, 103, 792, 70), 903),
  (103, (.iload_n 3, 104, 3, 0), 0),
  (104, (.iaload, 105, 0, 0), 0),
  (105, (.iastore, 106, 0, 0), 0),
  (106, (.aload_n 0, 107, 0, 0), 0),
  (107, (.getfield 105, 110, 808, 70), 919),
  (110, (.iload 4, 112, 4, 0), 0),
  (112, (.aload_n 0, 113, 0, 0), 0),
  (113, (.getfield 80, 116, 800, 70), 911),
  (116, (.iload_n 2, 117, 2, 0), 0),
  (117, (.iaload, 118, 0, 0), 0),
  (118, (.iastore, 119, 0, 0), 0),
  (119, (.aload_n 0, 120, 0, 0), 0),
  (120, (.getfield 93, 123, 804, 70), 915),
  (123, (.iload_n 1, 124, 1, 0), 0),
  (124, (.dup2, 125, 0, 0), 0),
  (125, (.iaload, 126, 0, 0), 0),
  (126, (.iconst (1), 127, 0, 0), 0),
  (127, (.iadd, 128, 0, 0), 0),
  (128, (.iastore, 129, 0, 0), 0),
  (129, (.aload_n 0, 130, 0, 0), 0),
  (130, (.iload_n 1, 131, 1, 0), 0),
  (131, (.iload_n 3, 132, 3, 0), 0),
  (132, (.iconst (1), 133, 0, 0), 0),
  (133, (.invokevirtual 202, 136, 38, 356), 1110),
  (136, (.aload_n 0, 137, 0, 0), 0),
  (137, (.getfield 77, 140, 799, 70), 910),
  (140, (.iload_n 2, 141, 2, 0), 0),
  (141, (.iconst (-1), 142, 0, 0), 0),
  (142, (.iastore, 143, 0, 0), 0),
  (143, (.iinc 2 (1), 146, 2, 0), 0),
  (146, (.goto (-142), 149, 4, 0), 0),
  (149, (.aload_n 0, 150, 0, 0), 0),
  (150, (.getfield 86, 153, 802, 70), 913),
  (153, (.iload_n 1, 154, 1, 0), 0),
  (154, (.iaload, 155, 0, 0), 0),
  (155, (.ifCond .le (121), 158, 276, 0), 0),
  (158, (.aload_n 0, 159, 0, 0), 0),
  (159, (.iload_n 1, 160, 1, 0), 0),
  (160, (.invokevirtual 206, 163, 26, 354), 1102),
  (163, (.iconst (-1), 164, 0, 0), 0),
  (164, (.if_icmp .eq (112), 167, 276, 0), 0),
  (167, (.aload_n 0, 168, 0, 0), 0),
  (168, (.iload_n 1, 169, 1, 0), 0),
  (169, (.invokevirtual 206, 172, 26, 354), 1102),
  (172, (.istore_n 2, 173, 2, 0), 0),
  (173, (.aload_n 0, 174, 0, 0), 0),
  (174, (.getfield 77, 177, 799, 70), 910),
  (177, (.iload_n 2, 178, 2, 0), 0),
  (178, (.aload_n 0, 179, 0, 0), 0),
  (179, (.getfield 90, 182, 803, 70), 914),
  (182, (.sipush (512), 185, 0, 0), 0),
  (185, (.iload_n 1, 186, 1, 0), 0),
  (186, (.imul, 187, 0, 0), 0),
  (187, (.iaload, 188, 0, 0), 0),
  (188, (.iastore, 189, 0, 0), 0),
  (189, (.aload_n 0, 190, 0, 0), 0),
  (190, (.getfield 80, 193, 800, 70), 911),
  (193, (.iload_n 2, 194, 2, 0), 0),
  (194, (.iconst (2), 195, 0, 0), 0),
  (195, (.iastore, 196, 0, 0), 0),
  (196, (.aload_n 0, 197, 0, 0), 0),
  (197, (.getfield 83, 200, 801, 70), 912),
  (200, (.iload_n 2, 201, 2, 0), 0),
  (201, (.iconst (0), 202, 0, 0), 0),
  (202, (.iastore, 203, 0, 0), 0),
  (203, (.aload_n 0, 204, 0, 0), 0),
  (204, (.iload_n 1, 205, 1, 0), 0),
  (205, (.aload_n 0, 206, 0, 0), 0),
  (206, (.getfield 90, 209, 803, 70), 914),
  (209, (.sipush (512), 212, 0, 0), 0),
  (212, (.iload_n 1, 213, 1, 0), 0),
  (213, (.imul, 214, 0, 0), 0),
  (214, (.iaload, 215, 0, 0), 0),
  (215, (.iconst (0), 216, 0, 0), 0),
  (216, (.invokevirtual 202, 219, 38, 356), 1110),
  (219, (.aload_n 0, 220, 0, 0), 0),
  (220, (.getfield 86, 223, 802, 70), 913),
  (223, (.iload_n 1, 224, 1, 0), 0),
  (224, (.dup2, 225, 0, 0), 0),
  (225, (.iaload, 226, 0, 0), 0),
  (226, (.iconst (1), 227, 0, 0), 0),
  (227, (.isub, 228, 0, 0), 0),
  (228, (.iastore, 229, 0, 0), 0),
  (229, (.iconst (0), 230, 0, 0), 0),
  (230, (.istore_n 3, 231, 3, 0), 0),
  (231, (.iload_n 3, 232, 3, 0), 0),
  (232, (.aload_n 0, 233, 0, 0), 0),
  (233, (.getfield 86, 236, 802, 70), 913),
  (236, (.iload_n 1, 237, 1, 0), 0),
  (237, (.iaload, 238, 0, 0), 0),
  (238, (.if_icmp .ge (35), 241, 273, 0), 0),
  (241, (.aload_n 0, 242, 0, 0), 0),
  (242, (.getfield 90, 245, 803, 70), 914),
  (245, (.sipush (512), 248, 0, 0), 0),
  (248, (.iload_n 1, 249, 1, 0), 0),
  (249, (.imul, 250, 0, 0), 0),
  (250, (.iload_n 3, 251, 3, 0), 0),
  (251, (.iadd, 252, 0, 0), 0),
  (252, (.aload_n 0, 253, 0, 0), 0),
  (253, (.getfield 90, 256, 803, 70), 914),
  (256, (.sipush (512), 259, 0, 0), 0),
  (259, (.iload_n 1, 260, 1, 0), 0),
  (260, (.imul, 261, 0, 0), 0),
  (261, (.iload_n 3, 262, 3, 0), 0),
  (262, (.iadd, 263, 0, 0), 0),
  (263, (.iconst (1), 264, 0, 0), 0),
  (264, (.iadd, 265, 0, 0), 0),
  (265, (.iaload, 266, 0, 0), 0),
  (266, (.iastore, 267, 0, 0), 0),
  (267, (.iinc 3 (1), 270, 3, 0), 0),
  (270, (.goto (-39), 273, 231, 0), 0),
  (273, (.goto (-124), 276, 149, 0), 0),
  (276, (.return_, 277, 0, 0), 0)]
def fx_c81 : List fx_E := [
  (0, (.aload_n 0, 1, 0, 0), 0),
  (1, (.iconst (0), 2, 0, 0), 0),
  (2, (.putfield 130, 5, 768, 0), 879),
  (5, (.aload_n 0, 6, 0, 0), 0),
  (6, (.iload_n 1, 7, 1, 0), 0),
  (7, (.invokevirtual 185, 10, 34, 354), 1042),
  (10, (.ifCond .eq (25), 13, 35, 0), 0),
  (13, (.iload_n 2, 14, 2, 0), 0),
  (14, (.iconst (0), 15, 0, 0), 0),
  (15, (.iconst (2), 16, 0, 0), 0),
  (16, (.invokestatic 134, 19, 47, 3), 868),
  (19, (.ifCond .eq (16), 22, 35, 0), 0),
  (22, (.aload_n 0, 23, 0, 0), 0),
  (23, (.getfield 108, 26, 809, 70), 920),
  (26, (.iconst (3), 27, 0, 0), 0),
  (27, (.iload_n 1, 28, 1, 0), 0),
  (28, (.imul, 29, 0, 0), 0),
  (29, (.iload_n 2, 30, 2, 0), 0),
  (30, (.iadd, 31, 0, 0), 0),
  (31, (.iaload, 32, 0, 0), 0),
  (32, (.goto (4), 35, 36, 0), 0),
  (35, (.iconst (-1), 36, 0, 0), 0),
  (36, (.ireturn, 37, 0, 0), 0)]
def fx_c82 : List fx_E := [
  (0, (.aload_n 0, 1, 0, 0), 0),
  (1, (.getfield 20, 4, 1, 13), 375),
  (4, (.iload_n 1, 5, 1, 0), 0),
  (5, (.invokevirtual 86, 8, 5, 210), 428),
  (8, (.ifCond .eq (14), 11, 22, 0), 0),
  (11, (.aload_n 0, 12, 0, 0), 0),
  (12, (.getfield 20, 15, 1, 13), 375),
  (15, (.iload_n 2, 16, 2, 0), 0),
  (16, (.invokevirtual 86, 19, 5, 210), 428),
  (19, (.ifCond .ne (5), 22, 24, 0), 0),
  (22, (.iconst (-1), 23, 0, 0), 0),
  (23, (.ireturn, 24, 0, 0), 0),
  (24, (.aload_n 0, 25, 0, 0), 0),
  (25, (.getfield 20, 28, 1, 13), 375),
  (28, (.iload_n 1, 29, 1, 0), 0),
  (29, (.iload_n 2, 30, 2, 0), 0),
  (30, (.invokevirtual 264, 33, 57, 211), 653),
  (33, (.ireturn, 34, 0, 0), 0)]
def fx_c83 : List fx_E := [
  (0, (.aload_n 1, 1, 1, 0), 0),
  (1, (.getfield 101, 4, 257, 21), 349),
  (4, (.astore_n 3, 5, 3, 0), 0),
  (5, (.aload_n 3, 6, 3, 0), 0),
  (6, (.invokevirtual 343, 9, 23, 337), 663),
  (9, (.astore 4, 11, 4, 0), 0),
  (11, (.aload 4, 13, 4, 0), 0),
  (13, (.ifnonnull (9), 16, 22, 0), 0),
  (16, (.aload_n 3, 17, 3, 0), 0),
  (17, (.iconst (0), 18, 0, 0), 0),
  (18, (.putfield 225, 21, 707, 0), 253),
  (21, (.return_, 22, 0, 0), 0),
  (22, (.iload_n 2, 23, 2, 0), 0),
  (23, (.iconst (-1), 24, 0, 0), 0),
  (24, (.if_icmp .eq (15), 27, 39, 0), 0),
  (27, (.iload_n 2, 28, 2, 0), 0),
  (28, (.aload_n 1, 29, 1, 0), 0),
  (29, (.getfield 302, 32, 256, 0), 347),
  (32, (.if_icmp .eq (7), 35, 39, 0), 0),
  (35, (.iconst (1), 36, 0, 0), 0),
  (36, (.goto (4), 39, 40, 0), 0),
  (39, (.iconst (0), 40, 0, 0), 0),
  (40, (.istore 5, 42, 5, 0), 0),
  (42, (.iload 5, 44, 5, 0), 0),
  (44, (.ifCond .ne (21), 47, 65, 0), 0),
  (47, (.aload_n 1, 48, 1, 0), 0),
  (48, (.invokevirtual 219, 51, 10, 225), 667),
  (51, (.aload_n 0, 52, 0, 0), 0),
  (52, (.getfield 20, 55, 1, 13), 375),
  (55, (.aload_n 1, 56, 1, 0), 0),
  (56, (.getfield 302, 59, 256, 0), 347),
  (59, (.invokevirtual 346, 62, 55, 210), 671),
  (62, (.if_icmp .lt (14), 65, 76, 0), 0),
  (65, (.aload_n 3, 66, 3, 0), 0),
  (66, (.dup, 67, 0, 0), 0),
  (67, (.getfield 225, 70, 707, 0), 253),
  (70, (.iconst (1), 71, 0, 0), 0),
  (71, (.iadd, 72, 0, 0), 0),
  (72, (.putfield 225, 75, 707, 0), 253),
  (75, (.return_, 76, 0, 0), 0),
  (76, (.aload_n 1, 77, 1, 0), 0),
  (77, (.aload_n 3, 78, 3, 0), 0),
  (78, (.aload 4, 80, 4, 0), 0),
  (80, (.aload_n 0, 81, 0, 0), 0),
  (81, (.getfield 65, 84, 9, 0), 383),
  (84, (.invokevirtual 350, 87, 68, 339), 672),
  (87, (.invokevirtual 354, 90, 8, 226), 680),
  (90, (.aload_n 0, 91, 0, 0), 0),
  (91, (.dup, 92, 0, 0), 0),
  (92, (.getfield 74, 95, 12, 0), 386),
  (95, (.iconst (1), 96, 0, 0), 0),
  (96, (.iadd, 97, 0, 0), 0),
  (97, (.putfield 74, 100, 12, 0), 386),
  (100, (.aload_n 3, 101, 3, 0), 0),
  (101, (.iconst (0), 102, 0, 0), 0),
  (102, (.putfield 225, 105, 707, 0), 253),
  (105, (.iload_n 2, 106, 2, 0), 0),
  (106, (.aload_n 1, 107, 1, 0), 0),
  (107, (.getfield 302, 110, 256, 0), 347),
  (110, (.if_icmp .ne (18), 113, 128, 0), 0),
  (113, (.aload_n 0, 114, 0, 0), 0),
  (114, (.iload_n 2, 115, 2, 0), 0),
  (115, (.iconst (1), 116, 0, 0), 0),
  (116, (.iadd, 117, 0, 0), 0),
  (117, (.aload_n 0, 118, 0, 0), 0),
  (118, (.getfield 20, 121, 1, 13), 375),
  (121, (.getfield 140, 124, 192, 0), 99),
  (124, (.irem, 125, 0, 0), 0),
  (125, (.putfield 68, 128, 10, 0), 384),
  (128, (.return_, 129, 0, 0), 0)]
def fx_c84 : List fx_E := [
  (0, (.aload_n 1, 1, 1, 0), 0),
  (1, (.iload_n 2, 2, 2, 0), 0),
  (2, (.putfield 293, 5, 329, 1), 506),
  (5, (.aload_n 1, 6, 1, 0), 0),
  (6, (.aload_n 0, 7, 0, 0), 0),
  (7, (.getfield 65, 10, 9, 0), 383),
  (10, (.aload_n 0, 11, 0, 0), 0),
  (11, (.getfield 20, 14, 1, 13), 375),
  (14, (.aload_n 1, 15, 1, 0), 0),
  (15, (.getfield 257, 18, 321, 0), 484),
  (18, (.aload_n 1, 19, 1, 0), 0),
  (19, (.getfield 250, 22, 320, 0), 480),
  (22, (.invokevirtual 264, 25, 57, 211), 653),
  (25, (.iadd, 26, 0, 0), 0),
  (26, (.putfield 287, 29, 330, 0), 507),
  (29, (.aload_n 0, 30, 0, 0), 0),
  (30, (.getfield 35, 33, 5, 20), 379),
  (33, (.aload_n 1, 34, 1, 0), 0),
  (34, (.invokevirtual 124, 37, 19, 322), 574),
  (37, (.return_, 38, 0, 0), 0)]
def fx_c85 : List fx_E := [
  (0, (.aload_n 0, 1, 0, 0), 0),
  (1, (.getfield 28, 4, 3, 44), 377),
  (4, (.aload_n 1, 5, 1, 0), 0),
  (5, (.getfield 250, 8, 320, 0), 480),
  (8, (.aaload, 9, 0, 0), 0),
  (9, (.getfield 101, 12, 257, 21), 349),
  (12, (.astore_n 2, 13, 2, 0), 0),
  (13, (.aload_n 1, 14, 1, 0), 0),
  (14, (.getfield 293, 17, 329, 1), 506),
  (17, (.ifCond .eq (29), 20, 46, 0), 0),
  (20, (.aload_n 2, 21, 2, 0), 0),
  (21, (.aload_n 1, 22, 1, 0), 0),
  (22, (.invokevirtual 296, 25, 22, 338), 587),
  (25, (.aload_n 0, 26, 0, 0), 0),
  (26, (.getfield 39, 29, 6, 20), 380),
  (29, (.aload_n 1, 30, 1, 0), 0),
  (30, (.invokevirtual 124, 33, 19, 322), 574),
  (33, (.aload_n 0, 34, 0, 0), 0),
  (34, (.dup, 35, 0, 0), 0),
  (35, (.getfield 71, 38, 11, 0), 385),
  (38, (.iconst (1), 39, 0, 0), 0),
  (39, (.isub, 40, 0, 0), 0),
  (40, (.putfield 71, 43, 11, 0), 385),
  (43, (.goto (8), 46, 51, 0), 0),
  (46, (.aload_n 2, 47, 2, 0), 0),
  (47, (.aload_n 1, 48, 1, 0), 0),
  (48, (.invokevirtual 299, 51, 67, 338), 591),
  (51, (.return_, 52, 0, 0), 0)]
def fx_c86 : List fx_E := [
  (0, (.aload_n 0, 1, 0, 0), 0),
  (1, (.iload_n 1, 2, 1, 0), 0),
  (2, (.iload_n 2, 3, 2, 0), 0),
  (3, (.invokevirtual 39, 6, 2, 211), 440),
  (6, (.istore_n 3, 7, 3, 0), 0),
  (7, (.aload_n 0, 8, 0, 0), 0),
  (8, (.iload_n 1, 9, 1, 0), 0),
  (9, (.invokevirtual 47, 12, 55, 210), 451),
  (12, (.iconst (2), 13, 0, 0), 0),
  (13, (.if_icmp .le (12), 16, 25, 0), 0),
  (16, (.aload_n 0, 17, 0, 0), 0),
  (17, (.iload_n 3, 18, 3, 0), 0),
  (18, (.invokevirtual 47, 21, 55, 210), 451),
  (21, (.iconst (2), 22, 0, 0), 0),
  (22, (.if_icmp .gt (5), 25, 27, 0), 0),
  (25, (.iconst (0), 26, 0, 0), 0),
  (26, (.ireturn, 27, 0, 0), 0),
  (27, (.aload_n 0, 28, 0, 0), 0),
  (28, (.iload_n 1, 29, 1, 0), 0),
  (29, (.iload_n 2, 30, 2, 0), 0),
  (30, (.iconst (0), 31, 0, 0), 0),
  (31, (.invokevirtual 50, 34, 56, 212), 456),
  (34, (.aload_n 0, 35, 0, 0), 0),
  (35, (.iload_n 1, 36, 1, 0), 0),
  (36, (.iload_n 3, 37, 3, 0), 0),
  (37, (.invokevirtual 54, 40, 57, 211), 457),
  (40, (.iconst (-1), 41, 0, 0), 0),
  (41, (.if_icmp .ne (12), 44, 53, 0), 0),
  (44, (.aload_n 0, 45, 0, 0), 0),
  (45, (.iload_n 1, 46, 1, 0), 0),
  (46, (.iload_n 2, 47, 2, 0), 0),
  (47, (.iconst (1), 48, 0, 0), 0),
  (48, (.invokevirtual 50, 51, 56, 212), 456),
  (51, (.iconst (0), 52, 0, 0), 0),
  (52, (.ireturn, 53, 0, 0), 0),
  (53, (.iconst (1), 54, 0, 0), 0),
  (54, (.ireturn, 55, 0, 0), 0)]
def fx_c87 : List fx_E := [
  (0, (.aload_n 0, 1, 0, 0), 0),
  (1, (.getfield 61, 4, 198, 0), 105),
  (4, (.iconst (-1), 5, 0, 0), 0),
  (5, (.if_icmp .ne (52), 8, 57, 0), 0),
  (8, (.iconst (0), 9, 0, 0), 0),
  (9, (.istore_n 1, 10, 1, 0), 0),
  (10, (.iload_n 1, 11, 1, 0), 0),
  (11, (.aload_n 0, 12, 0, 0), 0),
  (12, (.getfield 28, 15, 192, 0), 98),
  (15, (.if_icmp .ge (42), 18, 57, 0), 0),
  (18, (.iconst (0), 19, 0, 0), 0),
  (19, (.istore_n 2, 20, 2, 0), 0),
  (20, (.iload_n 2, 21, 2, 0), 0),
  (21, (.aload_n 0, 22, 0, 0), 0),
  (22, (.getfield 28, 25, 192, 0), 98),
  (25, (.if_icmp .ge (26), 28, 51, 0), 0),
  (28, (.aload_n 0, 29, 0, 0), 0),
  (29, (.aload_n 0, 30, 0, 0), 0),
  (30, (.getfield 61, 33, 198, 0), 105),
  (33, (.aload_n 0, 34, 0, 0), 0),
  (34, (.iload_n 2, 35, 2, 0), 0),
  (35, (.iload_n 1, 36, 1, 0), 0),
  (36, (.invokevirtual 54, 39, 57, 211), 457),
  (39, (.invokestatic 64, 42, 1001, 0), 603),
  (42, (.putfield 61, 45, 198, 0), 105),
  (45, (.iinc 2 (1), 48, 2, 0), 0),
  (48, (.goto (-28), 51, 20, 0), 0),
  (51, (.iinc 1 (1), 54, 1, 0), 0),
  (54, (.goto (-44), 57, 10, 0), 0),
  (57, (.aload_n 0, 58, 0, 0), 0),
  (58, (.getfield 61, 61, 198, 0), 105),
  (61, (.ireturn, 62, 0, 0), 0)]
def fx_c88 : List fx_E := [
  (0, (.aload_n 0, 1, 0, 0), 0),
  (1, (.iload_n 1, 2, 1, 0), 0),
  (2, (.iload_n 2, 3, 2, 0), 0),
  (3, (.invokevirtual 35, 6, 6, 211), 455),
  (6, (.ifCond .eq (27), 9, 33, 0), 0),
  (9, (.aload_n 0, 10, 0, 0), 0),
  (10, (.aload_n 0, 11, 0, 0), 0),
  (11, (.iload_n 1, 12, 1, 0), 0),
  (12, (.iload_n 2, 13, 2, 0), 0),
  (13, (.invokevirtual 39, 16, 2, 211), 440),
  (16, (.iload_n 3, 17, 3, 0), 0),
  (17, (.invokevirtual 54, 20, 57, 211), 457),
  (20, (.aload_n 0, 21, 0, 0), 0),
  (21, (.iload_n 1, 22, 1, 0), 0),
  (22, (.iload_n 3, 23, 3, 0), 0),
  (23, (.invokevirtual 54, 26, 57, 211), 457),
  (26, (.if_icmp .ge (7), 29, 33, 0), 0),
  (29, (.iconst (1), 30, 0, 0), 0),
  (30, (.goto (4), 33, 34, 0), 0),
  (33, (.iconst (0), 34, 0, 0), 0),
  (34, (.ireturn, 35, 0, 0), 0)]
def fx_c89 : List fx_E := [
  (0, (.aload_n 0, 1, 0, 0), 0),
  (1, (.getfield 12, 4, 257, 21), 348),
  (4, (.aload_n 1, 5, 1, 0), 0),
  (5, (.invokevirtual 38, 8, 66, 338), 197),
  (8, (.aload_n 0, 9, 0, 0), 0),
  (9, (.getfield 21, 12, 258, 18), 350),
  (12, (.invokevirtual 42, 15, 62, 289), 210),
  (15, (.iconst (0), 16, 0, 0), 0),
  (16, (.istore_n 2, 17, 2, 0), 0),
  (17, (.iload_n 2, 18, 2, 0), 0),
  (18, (.iconst (4), 19, 0, 0), 0),
  (19, (.if_icmp .ge (23), 22, 42, 0), 0),
  (22, (.aload_n 0, 23, 0, 0), 0),
  (23, (.getfield 27, 26, 259, 42), 352),
  (26, (.iload_n 2, 27, 2, 0), 0),
  (27, (.aconst_null, 28, 0, 0), 0),
  (28, (.aastore, 29, 0, 0), 0),
  (29, (.aload_n 0, 30, 0, 0), 0),
  (30, (.getfield 31, 33, 260, 42), 354),
  (33, (.iload_n 2, 34, 2, 0), 0),
  (34, (.aconst_null, 35, 0, 0), 0),
  (35, (.aastore, 36, 0, 0), 0),
  (36, (.iinc 2 (1), 39, 2, 0), 0),
  (39, (.goto (-22), 42, 17, 0), 0),
  (42, (.aload_n 0, 43, 0, 0), 0),
  (43, (.iconst (0), 44, 0, 0), 0),
  (44, (.putfield 44, 47, 261, 0), 356),
  (47, (.return_, 48, 0, 0), 0)]
def fx_c90 : List fx_E := [
  (0, (.iconst (0), 1, 0, 0), 0),
  (1, (.istore_n 1, 2, 1, 0), 0),
  (2, (.iload_n 1, 3, 1, 0), 0),
  (3, (.aload_n 0, 4, 0, 0), 0),
  (4, (.getfield 24, 7, 322, 0), 485),
  (7, (.if_icmp .ge (39), 10, 46, 0), 0),
  (10, (.iload_n 1, 11, 1, 0), 0),
  (11, (.bipush (8), 13, 0, 0), 0),
  (13, (.if_icmp .ge (33), 16, 46, 0), 0),
  (16, (.aload_n 0, 17, 0, 0), 0),
  (17, (.getfield 11, 20, 332, 42), 509),
  (20, (.iload_n 1, 21, 1, 0), 0),
  (21, (.aaload, 22, 0, 0), 0),
  (22, (.ifnonnull (18), 25, 40, 0), 0),
  (25, (.aload_n 0, 26, 0, 0), 0),
  (26, (.getfield 11, 29, 332, 42), 509),
  (29, (.iload_n 1, 30, 1, 0), 0),
  (30, (.new 9, 33, 2, 4), 476),
  (33, (.dup, 34, 0, 0), 0),
  (34, (.aload_n 0, 35, 0, 0), 0),
  (35, (.iload_n 1, 36, 1, 0), 0),
  (36, (.invokespecial 49, 39, 52, 195), 547),
  (39, (.aastore, 40, 0, 0), 0),
  (40, (.iinc 1 (1), 43, 1, 0), 0),
  (43, (.goto (-41), 46, 2, 0), 0),
  (46, (.return_, 47, 0, 0), 0)]
def fx_c91 : List fx_E := [
  (0, (.aload_n 1, 1, 1, 0), 0),
  (1, (.ifnull (7), 4, 8, 0), 0),
  (4, (.aload_n 2, 5, 2, 0), 0),
  (5, (.ifnonnull (13), 8, 18, 0), 0),
  (8, (.aload_n 1, 9, 1, 0), 0),
  (9, (.ifnonnull (7), 12, 16, 0), 0),
  (12, (.aload_n 2, 13, 2, 0), 0),
  (13, (.goto (4), 16, 17, 0), 0),
  (16, (.aload_n 1, 17, 1, 0), 0),
  (17, (.areturn, 18, 0, 0), 0),
  (18, (.aload_n 0, 19, 0, 0), 0),
  (19, (.aload_n 1, 20, 1, 0), 0),
  (20, (.aload_n 2, 21, 2, 0), 0),
  (21, (.invokevirtual 21, 24, 61, 275), 616),
  (24, (.ifCond .eq (7), 27, 31, 0), 0),
  (27, (.aload_n 1, 28, 1, 0), 0),
  (28, (.goto (4), 31, 32, 0), 0),
  (31, (.aload_n 2, 32, 2, 0), 0),
  (32, (.areturn, 33, 0, 0), 0)]
def fx_c92 : List fx_E := [
  (0, (.iconst (-1), 1, 0, 0), 0),
  (1, (.istore_n 3, 2, 3, 0), 0),
  (2, (.iconst (0), 3, 0, 0), 0),
  (3, (.istore 4, 5, 4, 0), 0),
  (5, (.iload 4, 7, 4, 0), 0),
  (7, (.iconst (4), 8, 0, 0), 0),
  (8, (.if_icmp .ge (52), 11, 60, 0), 0),
  (11, (.aload_n 1, 12, 1, 0), 0),
  (12, (.iload 4, 14, 4, 0), 0),
  (14, (.aaload, 15, 0, 0), 0),
  (15, (.astore 5, 17, 5, 0), 0),
  (17, (.aload 5, 19, 5, 0), 0),
  (19, (.ifnull (35), 22, 54, 0), 0),
  (22, (.aload 5, 24, 5, 0), 0),
  (24, (.getfield 34, 27, 128, 15), 554),
  (27, (.getfield 49, 30, 321, 0), 483),
  (30, (.iload_n 2, 31, 2, 0), 0),
  (31, (.if_icmp .ne (23), 34, 54, 0), 0),
  (34, (.iload_n 3, 35, 3, 0), 0),
  (35, (.iconst (-1), 36, 0, 0), 0),
  (36, (.if_icmp .eq (15), 39, 51, 0), 0),
  (39, (.aload_n 0, 40, 0, 0), 0),
  (40, (.aload 5, 42, 5, 0), 0),
  (42, (.aload_n 1, 43, 1, 0), 0),
  (43, (.iload_n 3, 44, 3, 0), 0),
  (44, (.aaload, 45, 0, 0), 0),
  (45, (.invokevirtual 21, 48, 61, 275), 616),
  (48, (.ifCond .eq (6), 51, 54, 0), 0),
  (51, (.iload 4, 53, 4, 0), 0),
  (53, (.istore_n 3, 54, 3, 0), 0),
  (54, (.iinc 4 (1), 57, 4, 0), 0),
  (57, (.goto (-52), 60, 5, 0), 0),
  (60, (.iload_n 3, 61, 3, 0), 0),
  (61, (.ireturn, 62, 0, 0), 0)]
def fx_c93 : List fx_E := [
  (0, (.aload_n 0, 1, 0, 0), 0),
  (1, (.invokespecial 3, 4, 1000, 0), 274),
  (4, (.aload_n 0, 5, 0, 0), 0),
  (5, (.new 9, 8, 10, 3), 275),
  (8, (.dup, 9, 0, 0), 0),
  (9, (.invokespecial 11, 12, 65, 321), 276),
  (12, (.putfield 12, 15, 512, 20), 322),
  (15, (.aload_n 0, 16, 0, 0), 0),
  (16, (.new 18, 19, 1, 4), 277),
  (19, (.dup, 20, 0, 0), 0),
  (20, (.invokespecial 20, 23, 51, 177), 279),
  (23, (.putfield 21, 26, 514, 11), 326),
  (26, (.aload_n 0, 27, 0, 0), 0),
  (27, (.iconst (4), 28, 0, 0), 0),
  (28, (.anewarray 25, 31, 6, 300), 299),
  (31, (.putfield 27, 34, 516, 46), 330),
  (34, (.aload_n 0, 35, 0, 0), 0),
  (35, (.iconst (4), 36, 0, 0), 0),
  (36, (.anewarray 18, 39, 1, 301), 277),
  (39, (.putfield 31, 42, 517, 41), 331),
  (42, (.iconst (0), 43, 0, 0), 0),
  (43, (.istore_n 1, 44, 1, 0), 0),
  (44, (.iload_n 1, 45, 1, 0), 0),
  (45, (.iconst (4), 46, 0, 0), 0),
  (46, (.if_icmp .ge (22), 49, 68, 0), 0),
  (49, (.aload_n 0, 50, 0, 0), 0),
  (50, (.getfield 27, 53, 516, 46), 330),
  (53, (.iload_n 1, 54, 1, 0), 0),
  (54, (.new 25, 57, 6, 3), 299),
  (57, (.dup, 58, 0, 0), 0),
  (58, (.invokespecial 35, 61, 59, 257), 303),
  (61, (.aastore, 62, 0, 0), 0),
  (62, (.iinc 1 (1), 65, 1, 0), 0),
  (65, (.goto (-21), 68, 44, 0), 0),
  (68, (.iconst (0), 69, 0, 0), 0),
  (69, (.istore_n 1, 70, 1, 0), 0),
  (70, (.iload_n 1, 71, 1, 0), 0),
  (71, (.iconst (4), 72, 0, 0), 0),
  (72, (.if_icmp .ge (22), 75, 94, 0), 0),
  (75, (.aload_n 0, 76, 0, 0), 0),
  (76, (.getfield 31, 79, 517, 41), 331),
  (79, (.iload_n 1, 80, 1, 0), 0),
  (80, (.new 18, 83, 1, 4), 277),
  (83, (.dup, 84, 0, 0), 0),
  (84, (.invokespecial 20, 87, 51, 177), 279),
  (87, (.aastore, 88, 0, 0), 0),
  (88, (.iinc 1 (1), 91, 1, 0), 0),
  (91, (.goto (-21), 94, 70, 0), 0),
  (94, (.return_, 95, 0, 0), 0)]
def fx_c94 : List fx_E := [
  (0, (.aload_n 0, 1, 0, 0), 0),
  (1, (.invokespecial 3, 4, 1000, 0), 89),
  (4, (.aload_n 0, 5, 0, 0), 0),
  (5, (.iconst (4), 6, 0, 0), 0),
  (6, (.anewarray 9, 9, 2, 91), 90),
  (9, (.putfield 11, 12, 576, 42), 142),
  (12, (.aload_n 0, 13, 0, 0), 0),
  (13, (.new 17, 16, 3, 7), 92),
  (16, (.dup, 17, 0, 0), 0),
  (17, (.invokespecial 19, 20, 53, 209), 94),
  (20, (.putfield 20, 23, 577, 13), 144),
  (23, (.aload_n 0, 24, 0, 0), 0),
  (24, (.new 24, 27, 7, 3), 123),
  (27, (.dup, 28, 0, 0), 0),
  (28, (.invokespecial 26, 31, 60, 273), 125),
  (31, (.putfield 27, 34, 578, 17), 146),
  (34, (.aload_n 0, 35, 0, 0), 0),
  (35, (.iconst (4), 36, 0, 0), 0),
  (36, (.anewarray 9, 39, 2, 91), 90),
  (39, (.putfield 31, 42, 579, 42), 148),
  (42, (.aload_n 0, 43, 0, 0), 0),
  (43, (.iconst (4), 44, 0, 0), 0),
  (44, (.anewarray 9, 47, 2, 91), 90),
  (47, (.putfield 34, 50, 580, 42), 149),
  (50, (.return_, 51, 0, 0), 0)]
def fx_c95 : List fx_E := [
  (0, (.iconst (0), 1, 0, 0), 0),
  (1, (.istore_n 2, 2, 2, 0), 0),
  (2, (.iconst (0), 3, 0, 0), 0),
  (3, (.istore_n 3, 4, 3, 0), 0),
  (4, (.iload_n 3, 5, 3, 0), 0),
  (5, (.iconst (4), 6, 0, 0), 0),
  (6, (.if_icmp .ge (82), 9, 88, 0), 0),
  (9, (.aload_n 1, 10, 1, 0), 0),
  (10, (.iload_n 3, 11, 3, 0), 0),
  (11, (.aaload, 12, 0, 0), 0),
  (12, (.astore 4, 14, 4, 0), 0),
  (14, (.aload 4, 16, 4, 0), 0),
  (16, (.ifnull (66), 19, 82, 0), 0),
  (19, (.iload_n 2, 20, 2, 0), 0),
  (20, (.istore 5, 22, 5, 0), 0),
  (22, (.iload 5, 24, 5, 0), 0),
  (24, (.ifCond .le (46), 27, 70, 0), 0),
  (27, (.aload_n 0, 28, 0, 0), 0),
  (28, (.getfield 27, 31, 578, 17), 146),
  (31, (.aload 4, 33, 4, 0), 0),
  (33, (.aload_n 0, 34, 0, 0), 0),
  (34, (.getfield 31, 37, 579, 42), 148),
  (37, (.iload 5, 39, 5, 0), 0),
  (39, (.iconst (1), 40, 0, 0), 0),
  (40, (.isub, 41, 0, 0), 0),
  (41, (.aaload, 42, 0, 0), 0),
  (42, (.invokevirtual 62, 45, 61, 275), 696),
  (45, (.ifCond .eq (25), 48, 70, 0), 0),
  (48, (.aload_n 0, 49, 0, 0), 0),
  (49, (.getfield 31, 52, 579, 42), 148),
  (52, (.iload 5, 54, 5, 0), 0),
  (54, (.aload_n 0, 55, 0, 0), 0),
  (55, (.getfield 31, 58, 579, 42), 148),
  (58, (.iload 5, 60, 5, 0), 0),
  (60, (.iconst (1), 61, 0, 0), 0),
  (61, (.isub, 62, 0, 0), 0),
  (62, (.aaload, 63, 0, 0), 0),
  (63, (.aastore, 64, 0, 0), 0),
  (64, (.iinc 5 (-1), 67, 5, 0), 0),
  (67, (.goto (-45), 70, 22, 0), 0),
  (70, (.aload_n 0, 71, 0, 0), 0),
  (71, (.getfield 31, 74, 579, 42), 148),
  (74, (.iload 5, 76, 5, 0), 0),
  (76, (.aload 4, 78, 4, 0), 0),
  (78, (.aastore, 79, 0, 0), 0),
  (79, (.iinc 2 (1), 82, 2, 0), 0),
  (82, (.iinc 3 (1), 85, 3, 0), 0),
  (85, (.goto (-81), 88, 4, 0), 0),
  (88, (.iload_n 2, 89, 2, 0), 0),
  (89, (.ireturn, 90, 0, 0), 0)]
def fx_c96 : List fx_E := [
  (0, (.aload_n 0, 1, 0, 0), 0),
  (1, (.invokespecial 3, 4, 1000, 0), 241),
  (4, (.aload_n 0, 5, 0, 0), 0),
  (5, (.new 9, 8, 10, 3), 242),
  (8, (.dup, 9, 0, 0), 0),
  (9, (.invokespecial 11, 12, 65, 321), 243),
  (12, (.putfield 12, 15, 704, 20), 246),
  (15, (.aload_n 0, 16, 0, 0), 0),
  (16, (.new 9, 19, 10, 3), 242),
  (19, (.dup, 20, 0, 0), 0),
  (20, (.invokespecial 11, 23, 65, 321), 243),
  (23, (.putfield 18, 26, 705, 20), 248),
  (26, (.aload_n 0, 27, 0, 0), 0),
  (27, (.bipush (8), 29, 0, 0), 0),
  (29, (.anewarray 21, 32, 5, 245), 244),
  (32, (.putfield 23, 35, 708, 45), 254),
  (35, (.return_, 36, 0, 0), 0)]
def fx_c97 : List fx_E := [
  (0, (.aload_n 0, 1, 0, 0), 0),
  (1, (.iload_n 1, 2, 1, 0), 0),
  (2, (.invokevirtual 199, 5, 74, 354), 1082),
  (5, (.ifCond .ne (11), 8, 16, 0), 0),
  (8, (.aload_n 0, 9, 0, 0), 0),
  (9, (.iload_n 2, 10, 2, 0), 0),
  (10, (.invokevirtual 199, 13, 74, 354), 1082),
  (13, (.ifCond .eq (9), 16, 22, 0), 0),
  (16, (.aload_n 0, 17, 0, 0), 0),
  (17, (.iload_n 1, 18, 1, 0), 0),
  (18, (.invokevirtual 199, 21, 74, 354), 1082),
  (21, (.ireturn, 22, 0, 0), 0),
  (22, (.aload_n 0, 23, 0, 0), 0),
  (23, (.getfield 32, 26, 784, 70), 895),
  (26, (.iload_n 1, 27, 1, 0), 0),
  (27, (.iaload, 28, 0, 0), 0),
  (28, (.aload_n 0, 29, 0, 0), 0),
  (29, (.getfield 32, 32, 784, 70), 895),
  (32, (.iload_n 2, 33, 2, 0), 0),
  (33, (.iaload, 34, 0, 0), 0),
  (34, (.if_icmp .eq (24), 37, 58, 0), 0),
  (37, (.aload_n 0, 38, 0, 0), 0),
  (38, (.getfield 32, 41, 784, 70), 895),
  (41, (.iload_n 1, 42, 1, 0), 0),
  (42, (.iaload, 43, 0, 0), 0),
  (43, (.aload_n 0, 44, 0, 0), 0),
  (44, (.getfield 32, 47, 784, 70), 895),
  (47, (.iload_n 2, 48, 2, 0), 0),
  (48, (.iaload, 49, 0, 0), 0),
  (49, (.if_icmp .ge (7), 52, 56, 0), 0),
  (52, (.iconst (1), 53, 0, 0), 0),
  (53, (.goto (4), 56, 57, 0), 0),
  (56, (.iconst (0), 57, 0, 0), 0),
  (57, (.ireturn, 58, 0, 0), 0),
  (58, (.bipush (64), 60, 0, 0), 0),
  (60, (.aload_n 0, 61, 0, 0), 0),
  (61, (.getfield 23, 64, 781, 70), 892),
  (64, (.iload_n 1, 65, 1, 0), 0),
  (65, (.iaload, 66, 0, 0), 0),
  (66, (.imul, 67, 0, 0), 0),
  (67, (.bipush (8), 69, 0, 0), 0),
  (69, (.aload_n 0, 70, 0, 0), 0),
  (70, (.getfield 26, 73, 782, 70), 893),
  (73, (.iload_n 1, 74, 1, 0), 0),
  (74, (.iaload, 75, 0, 0), 0),
  (75, (.imul, 76, 0, 0), 0),
  (76, (.iadd, 77, 0, 0), 0),
  (77, (.aload_n 0, 78, 0, 0), 0),
  (78, (.getfield 29, 81, 783, 70), 894),
  (81, (.iload_n 1, 82, 1, 0), 0),
  (82, (.iaload, 83, 0, 0), 0),
  (83, (.iadd, 84, 0, 0), 0),
  (84, (.bipush (64), 86, 0, 0), 0),
  (86, (.aload_n 0, 87, 0, 0), 0),
  (87, (.getfield 23, 90, 781, 70), 892),
  (90, (.iload_n 2, 91, 2, 0), 0),
  (91, (.iaload, 92, 0, 0), 0),
  (92, (.imul, 93, 0, 0), 0),
  (93, (.bipush (8), 95, 0, 0), 0),
  (95, (.aload_n 0, 96, 0, 0), 0),
  (96, (.getfield 26, 99, 782, 70), 893),
  (99, (.iload_n 2, 100, 2, 0), 0),
  (100, (.iaload, 101, 0, 0), 0),
  (101, (.imul, 102, 0, 0), 0),
  (102, (.iadd, 103, 0, 0), 0),
  (103, (.aload_n 0, 104, 0, 0), 0),
  (104, (.getfield 29, 107, 783, 70), 894),
  (107, (.iload_n 2, 108, 2, 0), 0),
  (108, (.iaload, 109, 0, 0), 0),
  (109, (.iadd, 110, 0, 0), 0),
  (110, (.if_icmp .ge (7), 113, 117, 0), 0),
  (113, (.iconst (1), 114, 0, 0), 0),
  (114, (.goto (4), 117, 118, 0), 0),
  (117, (.iconst (0), 118, 0, 0), 0),
  (118, (.ireturn, 119, 0, 0), 0)]
def fx_c98 : List fx_E := [
  (0, (.aload_n 0, 1, 0, 0), 0),
  (1, (.invokevirtual 239, 4, 27, 353), 1118),
  (4, (.istore_n 1, 5, 1, 0), 0),
  (5, (.iconst (0), 6, 0, 0), 0),
  (6, (.istore_n 2, 7, 2, 0), 0),
  (7, (.iload_n 2, 8, 2, 0), 0),
  (8, (.aload_n 0, 9, 0, 0), 0),
  (9, (.getfield 140, 12, 770, 0), 881),
  (12, (.if_icmp .ge (109), 15, 121, 0), 0),
  (15, (.aload_n 0, 16, 0, 0), 0),
  (16, (.iload_n 2, 17, 2, 0), 0),
  (17, (.invokevirtual 242, 20, 69, 354), 1122),
  (20, (.istore_n 3, 21, 3, 0), 0),
  (21, (.aload_n 0, 22, 0, 0), 0),
  (22, (.iload_n 2, 23, 2, 0), 0),
  (23, (.invokevirtual 245, 26, 28, 354), 1138),
  (26, (.aload_n 0, 27, 0, 0), 0),
  (27, (.iload_n 2, 28, 2, 0), 0),
  (28, (.invokevirtual 192, 31, 40, 354), 1054),
  (31, (.if_icmp .ge (17), 34, 48, 0), 0),
  (34, (.iload_n 1, 35, 1, 0), 0),
  (35, (.iconst (-1), 36, 0, 0), 0),
  (36, (.if_icmp .eq (8), 39, 44, 0), 0),
  (39, (.iload_n 1, 40, 1, 0), 0),
  (40, (.iload_n 2, 41, 2, 0), 0),
  (41, (.if_icmp .ne (7), 44, 48, 0), 0),
  (44, (.iconst (1), 45, 0, 0), 0),
  (45, (.goto (4), 48, 49, 0), 0),
  (48, (.iconst (0), 49, 0, 0), 0),
  (49, (.istore 4, 51, 4, 0), 0),
  (51, (.aload_n 0, 52, 0, 0), 0),
  (52, (.getfield 120, 55, 814, 70), 925),
  (55, (.iload_n 2, 56, 2, 0), 0),
  (56, (.iload_n 3, 57, 3, 0), 0),
  (57, (.iconst (-1), 58, 0, 0), 0),
  (58, (.if_icmp .eq (19), 61, 77, 0), 0),
  (61, (.iload 4, 63, 4, 0), 0),
  (63, (.ifCond .ne (14), 66, 77, 0), 0),
  (66, (.aload_n 0, 67, 0, 0), 0),
  (67, (.getfield 120, 70, 814, 70), 925),
  (70, (.iload_n 2, 71, 2, 0), 0),
  (71, (.iaload, 72, 0, 0), 0),
  (72, (.iconst (1), 73, 0, 0), 0),
  (73, (.iadd, 74, 0, 0), 0),
  (74, (.goto (4), 77, 78, 0), 0),
  (77, (.iconst (0), 78, 0, 0), 0),
  (78, (.iastore, 79, 0, 0), 0),
  (79, (.iload_n 3, 80, 3, 0), 0),
  (80, (.iconst (-1), 81, 0, 0), 0),
  (81, (.if_icmp .eq (34), 84, 115, 0), 0),
  (84, (.iload 4, 86, 4, 0), 0),
  (86, (.ifCond .ne (6), 89, 92, 0), 0),
  (89, (.goto (26), 92, 115, 0), 0),
  (92, (.aload_n 0, 93, 0, 0), 0),
  (93, (.iload_n 2, 94, 2, 0), 0),
  (94, (.iload_n 3, 95, 3, 0), 0),
  (95, (.invokevirtual 248, 98, 71, 355), 1142),
  (98, (.iload_n 1, 99, 1, 0), 0),
  (99, (.iload_n 2, 100, 2, 0), 0),
  (100, (.if_icmp .ne (15), 103, 115, 0), 0),
  (103, (.aload_n 0, 104, 0, 0), 0),
  (104, (.iload_n 2, 105, 2, 0), 0),
  (105, (.iconst (1), 106, 0, 0), 0),
  (106, (.iadd, 107, 0, 0), 0),
  (107, (.aload_n 0, 108, 0, 0), 0),
  (108, (.getfield 140, 111, 770, 0), 881),
  (111, (.irem, 112, 0, 0), 0),
  (112, (.putfield 152, 115, 774, 0), 885),
  (115, (.iinc 2 (1), 118, 2, 0), 0),
  (118, (.goto (-111), 121, 7, 0), 0),
  (121, (.return_, 122, 0, 0), 0)]
def fx_c99 : List fx_E := [
  (0, (.aload_n 0, 1, 0, 0), 0),
  (1, (.iconst (0), 2, 0, 0), 0),
  (2, (.putfield 130, 5, 768, 0), 879),
  (5, (.aload_n 0, 6, 0, 0), 0),
  (6, (.iload_n 1, 7, 1, 0), 0),
  (7, (.invokevirtual 185, 10, 34, 354), 1042),
  (10, (.ifCond .eq (41), 13, 51, 0), 0),
  (13, (.iload_n 2, 14, 2, 0), 0),
  (14, (.iconst (0), 15, 0, 0), 0),
  (15, (.iconst (3), 16, 0, 0), 0),
  (16, (.invokestatic 134, 19, 47, 3), 868),
  (19, (.ifCond .eq (32), 22, 51, 0), 0),
  (22, (.aload_n 0, 23, 0, 0), 0),
  (23, (.getfield 143, 26, 771, 0), 882),
  (26, (.iconst (1), 27, 0, 0), 0),
  (27, (.if_icmp .eq (24), 30, 51, 0), 0),
  (30, (.aload_n 0, 31, 0, 0), 0),
  (31, (.getfield 7, 34, 775, 71), 886),
  (34, (.iconst (4), 35, 0, 0), 0),
  (35, (.iload_n 1, 36, 1, 0), 0),
  (36, (.imul, 37, 0, 0), 0),
  (37, (.iload_n 2, 38, 2, 0), 0),
  (38, (.iadd, 39, 0, 0), 0),
  (39, (.baload, 40, 0, 0), 0),
  (40, (.iload_n 3, 41, 3, 0), 0),
  (41, (.if_icmp .ne (10), 44, 51, 0), 0),
  (44, (.aload_n 0, 45, 0, 0), 0),
  (45, (.invokevirtual 189, 48, 75, 353), 1046),
  (48, (.ifCond .ne (5), 51, 53, 0), 0),
  (51, (.iconst (0), 52, 0, 0), 0),
  (52, (.ireturn, 53, 0, 0), 0),
  (53, (.aload_n 0, 54, 0, 0), 0),
  (54, (.iload_n 1, 55, 1, 0), 0),
  (55, (.iload_n 2, 56, 2, 0), 0),
  (56, (.invokevirtual 177, 59, 37, 355), 875),
  (59, (.istore 4, 61, 4, 0), 0),
  (61, (.iload_n 2, 62, 2, 0), 0),
  (62, (.iconst (1), 63, 0, 0), 0),
  (63, (.ixor, 64, 0, 0), 0),
  (64, (.istore 5, 66, 5, 0), 0),
  (66, (.aload_n 0, 67, 0, 0), 0),
  (67, (.getfield 7, 70, 775, 71), 886),
  (70, (.iconst (4), 71, 0, 0), 0),
  (71, (.iload_n 1, 72, 1, 0), 0),
  (72, (.imul, 73, 0, 0), 0),
  (73, (.iload_n 2, 74, 2, 0), 0),
  (74, (.iadd, 75, 0, 0), 0),
  (75, (.iload_n 3, 76, 3, 0), 0),
  (76, (.ifCond .ne (7), 79, 83, 0), 0),
  (79, (.iconst (1), 80, 0, 0), 0),
  (80, (.goto (4), 83, 84, 0), 0),
  (83, (.iconst (0), 84, 0, 0), 0),
  (84, (.bastore, 85, 0, 0), 0),
  (85, (.aload_n 0, 86, 0, 0), 0),
  (86, (.getfield 7, 89, 775, 71), 886),
  (89, (.iconst (4), 90, 0, 0), 0),
  (90, (.iload 4, 92, 4, 0), 0),
  (92, (.imul, 93, 0, 0), 0),
  (93, (.iload 5, 95, 5, 0), 0),
  (95, (.iadd, 96, 0, 0), 0),
  (96, (.iload_n 3, 97, 3, 0), 0),
  (97, (.ifCond .ne (7), 100, 104, 0), 0),
  (100, (.iconst (1), 101, 0, 0), 0),
  (101, (.goto (4), 104, 105, 0), 0),
  (104, (.iconst (0), 105, 0, 0), 0),
  (105, (.bastore, 106, 0, 0), 0),
  (106, (.aload_n 0, 107, 0, 0), 0),
  (107, (.invokevirtual 170, 110, 77, 353), 871),
  (110, (.ifCond .eq (30), 113, 140, 0), 0),
  (113, (.iload_n 3, 114, 3, 0), 0),
  (114, (.ifCond .ne (22), 117, 136, 0), 0),
  (117, (.aload_n 0, 118, 0, 0), 0),
  (118, (.iload_n 1, 119, 1, 0), 0),
  (119, (.invokevirtual 192, 122, 40, 354), 1054),
  (122, (.iconst (1), 123, 0, 0), 0),
  (123, (.if_icmp .le (17), 126, 140, 0), 0),
  (126, (.aload_n 0, 127, 0, 0), 0),
  (127, (.iload 4, 129, 4, 0), 0),
  (129, (.invokevirtual 192, 132, 40, 354), 1054),
  (132, (.iconst (1), 133, 0, 0), 0),
  (133, (.if_icmp .le (7), 136, 140, 0), 0),
  (136, (.iconst (1), 137, 0, 0), 0),
  (137, (.goto (4), 140, 141, 0), 0),
  (140, (.iconst (0), 141, 0, 0), 0),
  (141, (.istore 6, 143, 6, 0), 0),
  (143, (.iload 6, 145, 6, 0), 0),
  (145, (.ifCond .eq (5), 148, 150, 0), 0),
  (148, (.iconst (1), 149, 0, 0), 0),
  (149, (.ireturn, 150, 0, 0), 0),
  (150, (.aload_n 0, 151, 0, 0), 0),
  (151, (.getfield 7, 154, 775, 71), 886),
  (154, (.iconst (4), 155, 0, 0), 0),
  (155, (.iload_n 1, 156, 1, 0), 0),
  (156, (.imul, 157, 0, 0), 0),
  (157, (.iload_n 2, 158, 2, 0), 0),
  (158, (.iadd, 159, 0, 0), 0),
  (159, (.iload_n 3, 160, 3, 0), 0),
  (160, (.bastore, 161, 0, 0), 0),
  (161, (.aload_n 0, 162, 0, 0), 0),
  (162, (.getfield 7, 165, 775, 71), 886),
  (165, (.iconst (4), 166, 0, 0), 0),
  (166, (.iload 4, 168, 4, 0), 0),
  (168, (.imul, 169, 0, 0), 0),
  (169, (.iload 5, 171, 5, 0), 0),
  (171, (.iadd, 172, 0, 0), 0),
  (172, (.iload_n 3, 173, 3, 0), 0),
  (173, (.bastore, 174, 0, 0), 0),
  (174, (.aload_n 0, 175, 0, 0), 0),
  (175, (.invokevirtual 170, 178, 77, 353), 871),
  (178, (.istore 6, 180, 6, 0), 0),
  (180, (.iconst (0), 181, 0, 0), 0),
  (181, (.ireturn, 182, 0, 0), 0)]
def fx_c100 : List fx_E := [
  (0, (.aload_n 0, 1, 0, 0), 0),
  (1, (.getfield 17, 4, 779, 70), 890),
  (4, (.iload_n 1, 5, 1, 0), 0),
  (5, (.iaload, 6, 0, 0), 0),
  (6, (.istore_n 2, 7, 2, 0), 0),
  (7, (.bipush (8), 9, 0, 0), 0),
  (9, (.aload_n 0, 10, 0, 0), 0),
  (10, (.getfield 23, 13, 781, 70), 892),
  (13, (.iload_n 1, 14, 1, 0), 0),
  (14, (.iaload, 15, 0, 0), 0),
  (15, (.imul, 16, 0, 0), 0),
  (16, (.aload_n 0, 17, 0, 0), 0),
  (17, (.getfield 26, 20, 782, 70), 893),
  (20, (.iload_n 1, 21, 1, 0), 0),
  (21, (.iaload, 22, 0, 0), 0),
  (22, (.iadd, 23, 0, 0), 0),
  (23, (.istore_n 3, 24, 3, 0), 0),
  (24, (.aload_n 0, 25, 0, 0), 0),
  (25, (.getfield 35, 28, 785, 70), 896),
  (28, (.iload_n 1, 29, 1, 0), 0),
  (29, (.iaload, 30, 0, 0), 0),
  (30, (.istore 4, 32, 4, 0), 0),
  (32, (.iconst (1), 33, 0, 0), 0),
  (33, (.aload_n 0, 34, 0, 0), 0),
  (34, (.getfield 29, 37, 783, 70), 894),
  (37, (.iload_n 1, 38, 1, 0), 0),
  (38, (.iaload, 39, 0, 0), 0),
  (39, (.ishl, 40, 0, 0), 0),
  (40, (.istore 5, 42, 5, 0), 0),
  (42, (.aload_n 0, 43, 0, 0), 0),
  (43, (.iload_n 1, 44, 1, 0), 0),
  (44, (.invokevirtual 209, 47, 42, 354), 1094),
  (47, (.aload_n 0, 48, 0, 0), 0),
  (48, (.dup, 49, 0, 0), 0),
  (49, (.getfield 164, 52, 817, 0), 928),
  (52, (.iconst (1), 53, 0, 0), 0),
  (53, (.iadd, 54, 0, 0), 0),
  (54, (.putfield 164, 57, 817, 0), 928),
  (57, (.aload_n 0, 58, 0, 0), 0),
  (58, (.iload_n 2, 59, 2, 0), 0),
  (59, (.iload_n 3, 60, 3, 0), 0),
  (60, (.iload 4, 62, 4, 0), 0),
  (62, (.invokevirtual 213, 65, 41, 356), 1098),
  (65, (.istore 6, 67, 6, 0), 0),
  (67, (.iload 6, 69, 6, 0), 0),
  (69, (.iconst (-1), 70, 0, 0), 0),
  (70, (.if_icmp .ne (58), 73, 128, 0), 0),
  (73, (.iload 4, 75, 4, 0), 0),
  (75, (.iconst (1), 76, 0, 0), 0),
  (76, (.if_icmp .ne (52), 79, 128, 0), 0),
  (79, (.aload_n 0, 80, 0, 0), 0),
  (80, (.getfield 68, 83, 796, 71), 907),
  (83, (.iload_n 3, 84, 3, 0), 0),
  (84, (.baload, 85, 0, 0), 0),
  (85, (.ifCond .ne (43), 88, 128, 0), 0),
  (88, (.aload_n 0, 89, 0, 0), 0),
  (89, (.iload_n 2, 90, 2, 0), 0),
  (90, (.invokevirtual 206, 93, 26, 354), 1102),
  (93, (.iconst (-1), 94, 0, 0), 0),
  (94, (.if_icmp .eq (34), 97, 128, 0), 0),
  (97, (.aload_n 0, 98, 0, 0), 0),
  (98, (.iload_n 2, 99, 2, 0), 0),
  (99, (.invokevirtual 206, 102, 26, 354), 1102),
  (102, (.istore 6, 104, 6, 0), 0),
  (104, (.aload_n 0, 105, 0, 0), 0),
  (105, (.getfield 77, 108, 799, 70), 910),
  (108, (.iload 6, 110, 6, 0), 0),
  (110, (.iload_n 3, 111, 3, 0), 0),
  (111, (.iastore, 112, 0, 0), 0),
  (112, (.aload_n 0, 113, 0, 0), 0),
  (113, (.getfield 80, 116, 800, 70), 911),
  (116, (.iload 6, 118, 6, 0), 0),
  (118, (.iconst (1), 119, 0, 0), 0),
  (119, (.iastore, 120, 0, 0), 0),
  (120, (.aload_n 0, 121, 0, 0), 0),
  (121, (.getfield 83, 124, 801, 70), 912),
  (124, (.iload 6, 126, 6, 0), 0),
  (126, (.iconst (0), 127, 0, 0), 0),
  (127, (.iastore, 128, 0, 0), 0),
  (128, (.iload 6, 130, 6, 0), 0),
  (130, (.iconst (-1), 131, 0, 0), 0),
  (131, (.if_icmp .eq (23), 134, 154, 0), 0),
  (134, (.aload_n 0, 135, 0, 0), 0),
  (135, (.getfield 83, 138, 801, 70), 912),
  (138, (.iload 6, 140, 6, 0), 0),
  (140, (.aload_n 0, 141, 0, 0), 0),
  (141, (.getfield 83, 144, 801, 70), 912),
  (144, (.iload 6, 146, 6, 0), 0),
  (146, (.iaload, 147, 0, 0), 0),
  (147, (.iload 5, 149, 5, 0), 0),
  (149, (.ior, 150, 0, 0), 0),
  (150, (.iastore, 151, 0, 0), 0),
  (151, (.goto (57), 154, 208, 0), 0),
  (154, (.aload_n 0, 155, 0, 0), 0),
  (155, (.getfield 68, 158, 796, 71), 907),
  (158, (.iload_n 3, 159, 3, 0), 0),
  (159, (.baload, 160, 0, 0), 0),
  (160, (.ifCond .ne (48), 163, 208, 0), 0),
  (163, (.aload_n 0, 164, 0, 0), 0),
  (164, (.getfield 68, 167, 796, 71), 907),
  (167, (.iload_n 3, 168, 3, 0), 0),
  (168, (.iconst (1), 169, 0, 0), 0),
  (169, (.bastore, 170, 0, 0), 0),
  (170, (.aload_n 0, 171, 0, 0), 0),
  (171, (.getfield 90, 174, 803, 70), 914),
  (174, (.sipush (512), 177, 0, 0), 0),
  (177, (.iload_n 2, 178, 2, 0), 0),
  (178, (.imul, 179, 0, 0), 0),
  (179, (.aload_n 0, 180, 0, 0), 0),
  (180, (.getfield 86, 183, 802, 70), 913),
  (183, (.iload_n 2, 184, 2, 0), 0),
  (184, (.iaload, 185, 0, 0), 0),
  (185, (.iadd, 186, 0, 0), 0),
  (186, (.iload_n 3, 187, 3, 0), 0),
  (187, (.iastore, 188, 0, 0), 0),
  (188, (.aload_n 0, 189, 0, 0), 0),
  (189, (.getfield 86, 192, 802, 70), 913),
  (192, (.iload_n 2, 193, 2, 0), 0),
  (193, (.dup2, 194, 0, 0), 0),
  (194, (.iaload, 195, 0, 0), 0),
  (195, (.iconst (1), 196, 0, 0), 0),
  (196, (.iadd, 197, 0, 0), 0),
  (197, (.iastore, 198, 0, 0), 0),
  (198, (.aload_n 0, 199, 0, 0), 0),
  (199, (.dup, 200, 0, 0), 0),
  (200, (.getfield 167, 203, 818, 0), 929),
  (203, (.iconst (1), 204, 0, 0), 0),
  (204, (.iadd, 205, 0, 0), 0),
  (205, (.putfield 167, 208, 818, 0), 929),
  (208, (.aload_n 0, 209, 0, 0), 0),
  (209, (.iload_n 2, 210, 2, 0), 0),
  (210, (.invokevirtual 217, 213, 80, 354), 1106),
  (213, (.return_, 214, 0, 0), 0)]
def fx_c101 : List fx_E := [
  (0, (.aload_n 0, 1, 0, 0), 0),
  (1, (.iconst (0), 2, 0, 0), 0),
  (2, (.putfield 130, 5, 768, 0), 879),
  (5, (.iload_n 1, 6, 1, 0), 0),
  (6, (.iconst (2), 7, 0, 0), 0),
  (7, (.bipush (8), 9, 0, 0), 0),
  (9, (.invokestatic 134, 12, 47, 3), 868),
  (12, (.ifCond .eq (23), 15, 35, 0), 0),
  (15, (.iload_n 2, 16, 2, 0), 0),
  (16, (.iconst (0), 17, 0, 0), 0),
  (17, (.iconst (1), 18, 0, 0), 0),
  (18, (.invokestatic 134, 21, 47, 3), 868),
  (21, (.ifCond .eq (14), 24, 35, 0), 0),
  (24, (.iload_n 3, 25, 3, 0), 0),
  (25, (.iconst (1), 26, 0, 0), 0),
  (26, (.sipush (1000), 29, 0, 0), 0),
  (29, (.invokestatic 134, 32, 47, 3), 868),
  (32, (.ifCond .ne (5), 35, 37, 0), 0),
  (35, (.iconst (0), 36, 0, 0), 0),
  (36, (.ireturn, 37, 0, 0), 0),
  (37, (.aload_n 0, 38, 0, 0), 0),
  (38, (.iload_n 1, 39, 1, 0), 0),
  (39, (.putfield 137, 42, 769, 0), 880),
  (42, (.aload_n 0, 43, 0, 0), 0),
  (43, (.iload_n 1, 44, 1, 0), 0),
  (44, (.iload_n 1, 45, 1, 0), 0),
  (45, (.imul, 46, 0, 0), 0),
  (46, (.putfield 140, 49, 770, 0), 881),
  (49, (.aload_n 0, 50, 0, 0), 0),
  (50, (.iload_n 2, 51, 2, 0), 0),
  (51, (.putfield 143, 54, 771, 0), 882),
  (54, (.aload_n 0, 55, 0, 0), 0),
  (55, (.iload_n 3, 56, 3, 0), 0),
  (56, (.putfield 146, 59, 772, 0), 883),
  (59, (.aload_n 0, 60, 0, 0), 0),
  (60, (.iconst (0), 61, 0, 0), 0),
  (61, (.putfield 149, 64, 773, 0), 884),
  (64, (.aload_n 0, 65, 0, 0), 0),
  (65, (.iconst (0), 66, 0, 0), 0),
  (66, (.putfield 152, 69, 774, 0), 885),
  (69, (.aload_n 0, 70, 0, 0), 0),
  (70, (.iconst (0), 71, 0, 0), 0),
  (71, (.putfield 155, 74, 778, 0), 889),
  (74, (.aload_n 0, 75, 0, 0), 0),
  (75, (.iconst (0), 76, 0, 0), 0),
  (76, (.putfield 158, 79, 810, 0), 921),
  (79, (.aload_n 0, 80, 0, 0), 0),
  (80, (.iconst (0), 81, 0, 0), 0),
  (81, (.putfield 161, 84, 816, 0), 927),
  (84, (.aload_n 0, 85, 0, 0), 0),
  (85, (.iconst (0), 86, 0, 0), 0),
  (86, (.putfield 164, 89, 817, 0), 928),
  (89, (.aload_n 0, 90, 0, 0), 0),
  (90, (.iconst (0), 91, 0, 0), 0),
  (91, (.putfield 167, 94, 818, 0), 929),
  (94, (.iconst (0), 95, 0, 0), 0),
  (95, (.istore 4, 97, 4, 0), 0),
  (97, (.iload 4, 99, 4, 0), 0),
  (99, (.sipush (256), 102, 0, 0), 0),
  (102, (.if_icmp .ge (25), 105, 127, 0), 0),
  (105, (.aload_n 0, 106, 0, 0), 0),
  (106, (.getfield 7, 109, 775, 71), 886),
  (109, (.iload 4, 111, 4, 0), 0),
  (111, (.iconst (0), 112, 0, 0), 0),
  (112, (.bastore, 113, 0, 0), 0),
  (113, (.aload_n 0, 114, 0, 0), 0),
  (114, (.getfield 77, 117, 799, 70), 910),
  (117, (.iload 4, 119, 4, 0), 0),
  (119, (.iconst (-1), 120, 0, 0), 0),
  (120, (.iastore, 121, 0, 0), 0),
  (121, (.iinc 4 (1), 124, 4, 0), 0),
  (124, (.goto (-27), 127, 97, 0), 0),
  (127, (.iconst (0), 128, 0, 0), 0),
  (128, (.istore 4, 130, 4, 0), 0),
  (130, (.iload 4, 132, 4, 0), 0),
  (132, (.sipush (512), 135, 0, 0), 0),
  (135, (.if_icmp .ge (17), 138, 152, 0), 0),
  (138, (.aload_n 0, 139, 0, 0), 0),
  (139, (.getfield 56, 142, 792, 70), 903),
  (142, (.iload 4, 144, 4, 0), 0),
  (144, (.iconst (0), 145, 0, 0), 0),
  (145, (.iastore, 146, 0, 0), 0),
  (146, (.iinc 4 (1), 149, 4, 0), 0),
  (149, (.goto (-19), 152, 130, 0), 0),
  (152, (.iconst (0), 153, 0, 0), 0),
  (153, (.istore 4, 155, 4, 0), 0),
  (155, (.iload 4, 157, 4, 0), 0),
  (157, (.bipush (64), 159, 0, 0), 0),
  (159, (.if_icmp .ge (91), 162, 250, 0), 0),
  (162, (.aload_n 0, 163, 0, 0), 0),
  (163, (.getfield 41, 166, 787, 70), 898),
  (166, (.iload 4, 168, 4, 0), 0),
  (168, (.iconst (0), 169, 0, 0), 0),
  (169, (.iastore, 170, 0, 0), 0),
  (170, (.aload_n 0, 171, 0, 0), 0),
  (171, (.getfield 71, 174, 797, 70), 908),
  (174, (.iload 4, 176, 4, 0), 0),
  (176, (.iconst (0), 177, 0, 0), 0),
  (177, (.iastore, 178, 0, 0), 0),
  (178, (.aload_n 0, 179, 0, 0), 0),
  (179, (.getfield 86, 182, 802, 70), 913),
  (182, (.iload 4, 184, 4, 0), 0),
  (184, (.iconst (0), 185, 0, 0), 0),
  (185, (.iastore, 186, 0, 0), 0),
  (186, (.aload_n 0, 187, 0, 0), 0),
  (187, (.getfield 93, 190, 804, 70), 915),
  (190, (.iload 4, 192, 4, 0), 0),
  (192, (.iconst (0), 193, 0, 0), 0),
  (193, (.iastore, 194, 0, 0), 0),
  (194, (.aload_n 0, 195, 0, 0), 0),
  (195, (.getfield 120, 198, 814, 70), 925),
  (198, (.iload 4, 200, 4, 0), 0),
  (200, (.iconst (0), 201, 0, 0), 0),
  (201, (.iastore, 202, 0, 0), 0),
  (202, (.aload_n 0, 203, 0, 0), 0),
  (203, (.getfield 123, 206, 815, 70), 926),
  (206, (.iload 4, 208, 4, 0), 0),
  (208, (.iconst (0), 209, 0, 0), 0),
  (209, (.iastore, 210, 0, 0), 0),
  (210, (.aload_n 0, 211, 0, 0), 0),
  (211, (.getfield 108, 214, 809, 70), 920),
  (214, (.iconst (3), 215, 0, 0), 0),
  (215, (.iload 4, 217, 4, 0), 0),
  (217, (.imul, 218, 0, 0), 0),
  (218, (.iconst (-1), 219, 0, 0), 0),
  (219, (.iastore, 220, 0, 0), 0),
  (220, (.aload_n 0, 221, 0, 0), 0),
  (221, (.getfield 108, 224, 809, 70), 920),
  (224, (.iconst (3), 225, 0, 0), 0),
  (225, (.iload 4, 227, 4, 0), 0),
  (227, (.imul, 228, 0, 0), 0),
  (228, (.iconst (1), 229, 0, 0), 0),
  (229, (.iadd, 230, 0, 0), 0),
  (230, (.iconst (-1), 231, 0, 0), 0),
  (231, (.iastore, 232, 0, 0), 0),
  (232, (.aload_n 0, 233, 0, 0), 0),
  (233, (.getfield 108, 236, 809, 70), 920),
  (236, (.iconst (3), 237, 0, 0), 0),
  (237, (.iload 4, 239, 4, 0), 0),
  (239, (.imul, 240, 0, 0), 0),
  (240, (.iconst (2), 241, 0, 0), 0),
  (241, (.iadd, 242, 0, 0), 0),
  (242, (.iconst (-1), 243, 0, 0), 0),
  (243, (.iastore, 244, 0, 0), 0),
  (244, (.iinc 4 (1), 247, 4, 0), 0),
  (247, (.goto (-92), 250, 155, 0), 0),
  (250, (.aload_n 0, 251, 0, 0), 0),
  (251, (.invokevirtual 170, 254, 77, 353), 871),
  (254, (.pop, 255, 0, 0), 0),
  (255, (.iconst (1), 256, 0, 0), 0),
  (256, (.ireturn, 257, 0, 0), 0)]
def fx_c102 : List fx_E := [
  (0, (.aload_n 0, 1, 0, 0), 0),
  (1, (.aload_n 0, 2, 0, 0), 0),
  (2, (.iload_n 1, 3, 1, 0), 0),
  (3, (.invokevirtual 185, 6, 34, 354), 1042),
  (6, (.ifCond .ne (7), 9, 13, 0), 0),
  (9, (.iconst (1), 10, 0, 0), 0),
  (10, (.goto (17), 13, 27, 0), 0),
  (13, (.aload_n 0, 14, 0, 0), 0),
  (14, (.getfield 93, 17, 804, 70), 915),
  (17, (.iload_n 1, 18, 1, 0), 0),
  (18, (.iaload, 19, 0, 0), 0),
  (19, (.ifCond .ne (7), 22, 26, 0), 0),
  (22, (.iconst (2), 23, 0, 0), 0),
  (23, (.goto (4), 26, 27, 0), 0),
  (26, (.iconst (0), 27, 0, 0), 0),
  (27, (.putfield 130, 30, 768, 0), 879),
  (30, (.aload_n 0, 31, 0, 0), 0),
  (31, (.getfield 130, 34, 768, 0), 879),
  (34, (.ifCond .eq (5), 37, 39, 0), 0),
  (37, (.iconst (0), 38, 0, 0), 0),
  (38, (.ireturn, 39, 0, 0), 0),
  (39, (.aload_n 0, 40, 0, 0), 0),
  (40, (.getfield 96, 43, 805, 70), 916),
  (43, (.iconst (4), 44, 0, 0), 0),
  (44, (.iload_n 1, 45, 1, 0), 0),
  (45, (.imul, 46, 0, 0), 0),
  (46, (.iaload, 47, 0, 0), 0),
  (47, (.istore_n 2, 48, 2, 0), 0),
  (48, (.aload_n 0, 49, 0, 0), 0),
  (49, (.getfield 108, 52, 809, 70), 920),
  (52, (.iconst (3), 53, 0, 0), 0),
  (53, (.iload_n 1, 54, 1, 0), 0),
  (54, (.imul, 55, 0, 0), 0),
  (55, (.aload_n 0, 56, 0, 0), 0),
  (56, (.getfield 99, 59, 806, 70), 917),
  (59, (.iconst (4), 60, 0, 0), 0),
  (60, (.iload_n 1, 61, 1, 0), 0),
  (61, (.imul, 62, 0, 0), 0),
  (62, (.iaload, 63, 0, 0), 0),
  (63, (.iastore, 64, 0, 0), 0),
  (64, (.aload_n 0, 65, 0, 0), 0),
  (65, (.getfield 108, 68, 809, 70), 920),
  (68, (.iconst (3), 69, 0, 0), 0),
  (69, (.iload_n 1, 70, 1, 0), 0),
  (70, (.imul, 71, 0, 0), 0),
  (71, (.iconst (1), 72, 0, 0), 0),
  (72, (.iadd, 73, 0, 0), 0),
  (73, (.aload_n 0, 74, 0, 0), 0),
  (74, (.getfield 102, 77, 807, 70), 918),
  (77, (.iconst (4), 78, 0, 0), 0),
  (78, (.iload_n 1, 79, 1, 0), 0),
  (79, (.imul, 80, 0, 0), 0),
  (80, (.iaload, 81, 0, 0), 0),
  (81, (.iastore, 82, 0, 0), 0),
  (82, (.aload_n 0, 83, 0, 0), 0),
  (83, (.getfield 108, 86, 809, 70), 920),
  (86, (.iconst (3), 87, 0, 0), 0),
  (87, (.iload_n 1, 88, 1, 0), 0),
  (88, (.imul, 89, 0, 0), 0),
  (89, (.iconst (2), 90, 0, 0), 0),
  (90, (.iadd, 91, 0, 0), 0),
  (91, (.aload_n 0, 92, 0, 0), 0),
  (92, (.getfield 105, 95, 808, 70), 919),
  (95, (.iconst (4), 96, 0, 0), 0),
  (96, (.iload_n 1, 97, 1, 0), 0),
  (97, (.imul, 98, 0, 0), 0),
  (98, (.iaload, 99, 0, 0), 0),
  (99, (.iastore, 100, 0, 0), 0),
  (100, (.aload_n 0, 101, 0, 0), 0),
  (101, (.getfield 93, 104, 804, 70), 915),
  (104, (.iload_n 1, 105, 1, 0), 0),
  (105, (.dup2, 106, 0, 0), 0),
  (106, (.iaload, 107, 0, 0), 0),
  (107, (.iconst (1), 108, 0, 0), 0),
  (108, (.isub, 109, 0, 0), 0),
  (109, (.iastore, 110, 0, 0), 0),
  (110, (.iconst (4), 111, 0, 0), 0),
  (111, (.iload_n 1, 112, 1, 0), 0),
  (112, (.imul, 113, 0, 0), 0),
  (113, (.istore_n 3, 114, 3, 0), 0),
  (114, (.iload_n 3, 115, 3, 0), 0),
  (115, (.iconst (4), 116, 0, 0), 0),
  (116, (.iload_n 1, 117, 1, 0), 0),
  (117, (.imul, 118, 0, 0), 0),
  (118, (.aload_n 0, 119, 0, 0), 0),
  (119, (.getfield 93, 122, 804, 70), 915),
  (122, (.iload_n 1, 123, 1, 0), 0),
  (123, (.iaload, 124, 0, 0), 0),
  (124, (.iadd, 125, 0, 0), 0),
  (125, (.if_icmp .ge (65), 128, 190, 0), 0),
  (128, (.aload_n 0, 129, 0, 0), 0),
  (129, (.getfield 96, 132, 805, 70), 916),
  (132, (.iload_n 3, 133, 3, 0), 0),
  (133, (.aload_n 0, 134, 0, 0), 0),
  (134, (.getfield 96, 137, 805, 70), 916),
  (137, (.iload_n 3, 138, 3, 0), 0),
  (138, (.iconst (1), 139, 0, 0), 0),
  (139, (.iadd, 140, 0, 0), 0),
  (140, (.iaload, 141, 0, 0), 0),
  (141, (.iastore, 142, 0, 0), 0),
  (142, (.aload_n 0, 143, 0, 0), 0),
  (143, (.getfield 99, 146, 806, 70), 917),
  (146, (.iload_n 3, 147, 3, 0), 0),
  (147, (.aload_n 0, 148, 0, 0), 0),
  (148, (.getfield 99, 151, 806, 70), 917),
  (151, (.iload_n 3, 152, 3, 0), 0),
  (152, (.iconst (1), 153, 0, 0), 0),
  (153, (.iadd, 154, 0, 0), 0),
  (154, (.iaload, 155, 0, 0), 0),
  (155, (.iastore, 156, 0, 0), 0),
  (156, (.aload_n 0, 157, 0, 0), 0),
  (157, (.getfield 102, 160, 807, 70), 918),
  (160, (.iload_n 3, 161, 3, 0), 0),
  (161, (.aload_n 0, 162, 0, 0), 0),
  (162, (.getfield 102, 165, 807, 70), 918),
  (165, (.iload_n 3, 166, 3, 0), 0),
  (166, (.iconst (1), 167, 0, 0), 0),
  (167, (.iadd, 168, 0, 0), 0),
  (168, (.iaload, 169, 0, 0), 0),
  (169, (.iastore, 170, 0, 0), 0),
  (170, (.aload_n 0, 171, 0, 0), 0),
  (171, (.getfield 105, 174, 808, 70), 919),
  (174, (.iload_n 3, 175, 3, 0), 0),
  (175, (.aload_n 0, 176, 0, 0), 0),
  (176, (.getfield 105, 179, 808, 70), 919),
  (179, (.iload_n 3, 180, 3, 0), 0),
  (180, (.iconst (1), 181, 0, 0), 0),
  (181, (.iadd, 182, 0, 0), 0),
  (182, (.iaload, 183, 0, 0), 0),
  (183, (.iastore, 184, 0, 0), 0),
  (184, (.iinc 3 (1), 187, 3, 0), 0),
  (187, (.goto (-73), 190, 114, 0), 0),
  (190, (.aload_n 0, 191, 0, 0), 0),
  (191, (.iload_n 1, 192, 1, 0), 0),
  (192, (.invokevirtual 217, 195, 80, 354), 1106),
  (195, (.iload_n 2, 196, 2, 0), 0),
  (196, (.ireturn, 197, 0, 0), 0)]
def fx_c103 : List fx_E := [
  (0, (.aload_n 0, 1, 0, 0), 0),
  (1, (.getfield 35, 4, 5, 20), 379),
  (4, (.invokevirtual 268, 7, 20, 321), 189),
  (7, (.iconst (0), 8, 0, 0), 0),
  (8, (.istore_n 1, 9, 1, 0), 0),
  (9, (.iload_n 1, 10, 1, 0), 0),
  (10, (.aload_n 0, 11, 0, 0), 0),
  (11, (.getfield 271, 14, 4, 0), 378),
  (14, (.if_icmp .ge (22), 17, 36, 0), 0),
  (17, (.aload_n 0, 18, 0, 0), 0),
  (18, (.getfield 28, 21, 3, 44), 377),
  (21, (.iload_n 1, 22, 1, 0), 0),
  (22, (.aaload, 23, 0, 0), 0),
  (23, (.aload_n 0, 24, 0, 0), 0),
  (24, (.getfield 39, 27, 6, 20), 380),
  (27, (.invokevirtual 274, 30, 89, 226), 193),
  (30, (.iinc 1 (1), 33, 1, 0), 0),
  (33, (.goto (-24), 36, 9, 0), 0),
  (36, (.return_, 37, 0, 0), 0)]
def fx_c104 : List fx_E := [
  (0, (.aload_n 2, 1, 2, 0), 0),
  (1, (.invokevirtual 324, 4, 12, 257), 640),
  (4, (.ifCond .eq (11), 7, 15, 0), 0),
  (7, (.aload_n 1, 8, 1, 0), 0),
  (8, (.getfield 170, 11, 513, 0), 325),
  (11, (.iconst (4), 12, 0, 0), 0),
  (12, (.if_icmp .lt (4), 15, 16, 0), 0),
  (15, (.return_, 16, 0, 0), 0),
  (16, (.aload_n 2, 17, 2, 0), 0),
  (17, (.getfield 328, 20, 384, 15), 309),
  (20, (.astore_n 3, 21, 3, 0), 0),
  (21, (.aload_n 1, 22, 1, 0), 0),
  (22, (.aload_n 3, 23, 3, 0), 0),
  (23, (.aload_n 2, 24, 2, 0), 0),
  (24, (.getfield 329, 27, 385, 0), 312),
  (27, (.invokevirtual 330, 30, 17, 291), 644),
  (30, (.aload_n 2, 31, 2, 0), 0),
  (31, (.invokevirtual 334, 34, 11, 257), 648),
  (34, (.aload_n 0, 35, 0, 0), 0),
  (35, (.aload_n 3, 36, 3, 0), 0),
  (36, (.iconst (1), 37, 0, 0), 0),
  (37, (.invokevirtual 335, 40, 84, 163), 649),
  (40, (.aload_n 1, 41, 1, 0), 0),
  (41, (.getfield 216, 44, 512, 20), 323),
  (44, (.invokevirtual 113, 47, 21, 321), 469),
  (47, (.astore 4, 49, 4, 0), 0),
  (49, (.aload 4, 51, 4, 0), 0),
  (51, (.ifnull (23), 54, 74, 0), 0),
  (54, (.aload_n 2, 55, 2, 0), 0),
  (55, (.aload 4, 57, 4, 0), 0),
  (57, (.aload 4, 59, 4, 0), 0),
  (59, (.getfield 339, 62, 325, 0), 497),
  (62, (.iconst (1), 63, 0, 0), 0),
  (63, (.iadd, 64, 0, 0), 0),
  (64, (.invokevirtual 340, 67, 13, 259), 654),
  (67, (.aload_n 0, 68, 0, 0), 0),
  (68, (.aload 4, 70, 4, 0), 0),
  (70, (.iconst (0), 71, 0, 0), 0),
  (71, (.invokevirtual 335, 74, 84, 163), 649),
  (74, (.return_, 75, 0, 0), 0)]
def fx_c105 : List fx_E := [
  (0, (.iconst (2), 1, 0, 0), 0),
  (1, (.aload_n 0, 2, 0, 0), 0),
  (2, (.getfield 20, 5, 1, 13), 375),
  (5, (.invokevirtual 284, 8, 87, 209), 599),
  (8, (.bipush (8), 10, 0, 0), 0),
  (10, (.iadd, 11, 0, 0), 0),
  (11, (.imul, 12, 0, 0), 0),
  (12, (.istore_n 1, 13, 1, 0), 0),
  (13, (.aload_n 0, 14, 0, 0), 0),
  (14, (.getfield 65, 17, 9, 0), 383),
  (17, (.iload_n 1, 18, 1, 0), 0),
  (18, (.idiv, 19, 0, 0), 0),
  (19, (.aload_n 0, 20, 0, 0), 0),
  (20, (.getfield 20, 23, 1, 13), 375),
  (23, (.getfield 140, 26, 192, 0), 99),
  (26, (.bipush (8), 28, 0, 0), 0),
  (28, (.imul, 29, 0, 0), 0),
  (29, (.bipush (8), 31, 0, 0), 0),
  (31, (.imul, 32, 0, 0), 0),
  (32, (.irem, 33, 0, 0), 0),
  (33, (.ireturn, 34, 0, 0), 0)]
def fx_c106 : List fx_E := [
  (0, (.aload_n 0, 1, 0, 0), 0),
  (1, (.getfield 20, 4, 1, 13), 375),
  (4, (.iload_n 1, 5, 1, 0), 0),
  (5, (.invokevirtual 86, 8, 5, 210), 428),
  (8, (.ifCond .eq (20), 11, 28, 0), 0),
  (11, (.iload_n 2, 12, 2, 0), 0),
  (12, (.ifCond .lt (16), 15, 28, 0), 0),
  (15, (.iload_n 2, 16, 2, 0), 0),
  (16, (.iconst (4), 17, 0, 0), 0),
  (17, (.if_icmp .ge (11), 20, 28, 0), 0),
  (20, (.aload_n 0, 21, 0, 0), 0),
  (21, (.getfield 58, 24, 7, 0), 381),
  (24, (.iconst (1), 25, 0, 0), 0),
  (25, (.if_icmp .ne (5), 28, 30, 0), 0),
  (28, (.iconst (0), 29, 0, 0), 0),
  (29, (.ireturn, 30, 0, 0), 0),
  (30, (.aload_n 0, 31, 0, 0), 0),
  (31, (.getfield 71, 34, 11, 0), 385),
  (34, (.ifCond .ne (16), 37, 50, 0), 0),
  (37, (.aload_n 0, 38, 0, 0), 0),
  (38, (.getfield 20, 41, 1, 13), 375),
  (41, (.iload_n 1, 42, 1, 0), 0),
  (42, (.iload_n 2, 43, 2, 0), 0),
  (43, (.invokevirtual 90, 46, 6, 211), 432),
  (46, (.iload_n 3, 47, 3, 0), 0),
  (47, (.if_icmp .ne (5), 50, 52, 0), 0),
  (50, (.iconst (0), 51, 0, 0), 0),
  (51, (.ireturn, 52, 0, 0), 0),
  (52, (.iload_n 3, 53, 3, 0), 0),
  (53, (.ifCond .eq (15), 56, 68, 0), 0),
  (56, (.aload_n 0, 57, 0, 0), 0),
  (57, (.getfield 20, 60, 1, 13), 375),
  (60, (.iload_n 1, 61, 1, 0), 0),
  (61, (.iload_n 2, 62, 2, 0), 0),
  (62, (.iconst (1), 63, 0, 0), 0),
  (63, (.invokevirtual 94, 66, 56, 212), 436),
  (66, (.iconst (1), 67, 0, 0), 0),
  (67, (.ireturn, 68, 0, 0), 0),
  (68, (.aload_n 0, 69, 0, 0), 0),
  (69, (.getfield 20, 72, 1, 13), 375),
  (72, (.iload_n 1, 73, 1, 0), 0),
  (73, (.iload_n 2, 74, 2, 0), 0),
  (74, (.invokevirtual 98, 77, 86, 211), 447),
  (77, (.ireturn, 78, 0, 0), 0)]
def fx_c107 : List fx_E := [
  (0, (.aload_n 0, 1, 0, 0), 0),
  (1, (.getfield 35, 4, 5, 20), 379),
  (4, (.getfield 110, 7, 641, 0), 172),
  (7, (.istore_n 1, 8, 1, 0), 0),
  (8, (.iconst (0), 9, 0, 0), 0),
  (9, (.istore_n 2, 10, 2, 0), 0),
  (10, (.iload_n 2, 11, 2, 0), 0),
  (11, (.iload_n 1, 12, 1, 0), 0),
  (12, (.if_icmp .ge (44), 15, 56, 0), 0),
  (15, (.aload_n 0, 16, 0, 0), 0),
  (16, (.getfield 35, 19, 5, 20), 379),
  (19, (.invokevirtual 113, 22, 21, 321), 469),
  (22, (.astore_n 3, 23, 3, 0), 0),
  (23, (.aload_n 3, 24, 3, 0), 0),
  (24, (.getfield 287, 27, 330, 0), 507),
  (27, (.aload_n 0, 28, 0, 0), 0),
  (28, (.getfield 65, 31, 9, 0), 383),
  (31, (.if_icmp .le (14), 34, 45, 0), 0),
  (34, (.aload_n 0, 35, 0, 0), 0),
  (35, (.getfield 35, 38, 5, 20), 379),
  (38, (.aload_n 3, 39, 3, 0), 0),
  (39, (.invokevirtual 124, 42, 19, 322), 574),
  (42, (.goto (8), 45, 50, 0), 0),
  (45, (.aload_n 0, 46, 0, 0), 0),
  (46, (.aload_n 3, 47, 3, 0), 0),
  (47, (.invokevirtual 290, 50, 85, 162), 583),
  (50, (.iinc 2 (1), 53, 2, 0), 0),
  (53, (.goto (-43), 56, 10, 0), 0),
  (56, (.return_, 57, 0, 0), 0)]
def fx_c108 : List fx_E := [
  (0, (.aload_n 0, 1, 0, 0), 0),
  (1, (.invokespecial 3, 4, 1000, 0), 235),
  (4, (.aload_n 0, 5, 0, 0), 0),
  (5, (.new 9, 8, 11, 6), 236),
  (8, (.dup, 9, 0, 0), 0),
  (9, (.invokespecial 11, 12, 96, 337), 238),
  (12, (.putfield 12, 15, 257, 21), 348),
  (15, (.aload_n 0, 16, 0, 0), 0),
  (16, (.new 18, 19, 8, 6), 269),
  (19, (.dup, 20, 0, 0), 0),
  (20, (.invokespecial 20, 23, 93, 289), 271),
  (23, (.putfield 21, 26, 258, 18), 350),
  (26, (.aload_n 0, 27, 0, 0), 0),
  (27, (.iconst (4), 28, 0, 0), 0),
  (28, (.anewarray 25, 31, 2, 91), 345),
  (31, (.putfield 27, 34, 259, 42), 352),
  (34, (.aload_n 0, 35, 0, 0), 0),
  (35, (.iconst (4), 36, 0, 0), 0),
  (36, (.anewarray 25, 39, 2, 91), 345),
  (39, (.putfield 31, 42, 260, 42), 354),
  (42, (.aload_n 0, 43, 0, 0), 0),
  (43, (.iload_n 1, 44, 1, 0), 0),
  (44, (.putfield 34, 47, 256, 0), 346),
  (47, (.return_, 48, 0, 0), 0)]
def fx_c109 : List fx_E := [
  (0, (.aload_n 0, 1, 0, 0), 0),
  (1, (.iload_n 1, 2, 1, 0), 0),
  (2, (.putfield 17, 5, 320, 0), 477),
  (5, (.aload_n 0, 6, 0, 0), 0),
  (6, (.iload_n 2, 7, 2, 0), 0),
  (7, (.putfield 21, 10, 321, 0), 481),
  (10, (.aload_n 0, 11, 0, 0), 0),
  (11, (.iload_n 3, 12, 3, 0), 0),
  (12, (.putfield 24, 15, 322, 0), 485),
  (15, (.aload_n 0, 16, 0, 0), 0),
  (16, (.iload 4, 18, 4, 0), 0),
  (18, (.putfield 27, 21, 323, 0), 489),
  (21, (.aload_n 0, 22, 0, 0), 0),
  (22, (.iconst (-1), 23, 0, 0), 0),
  (23, (.putfield 30, 26, 324, 0), 491),
  (26, (.aload_n 0, 27, 0, 0), 0),
  (27, (.iconst (1), 28, 0, 0), 0),
  (28, (.putfield 33, 31, 325, 0), 495),
  (31, (.aload_n 0, 32, 0, 0), 0),
  (32, (.iconst (0), 33, 0, 0), 0),
  (33, (.putfield 36, 36, 326, 0), 498),
  (36, (.aload_n 0, 37, 0, 0), 0),
  (37, (.iconst (0), 38, 0, 0), 0),
  (38, (.putfield 39, 41, 327, 0), 500),
  (41, (.aload_n 0, 42, 0, 0), 0),
  (42, (.iconst (0), 43, 0, 0), 0),
  (43, (.putfield 42, 46, 328, 1), 503),
  (46, (.aload_n 0, 47, 0, 0), 0),
  (47, (.invokevirtual 46, 50, 90, 241), 542),
  (50, (.return_, 51, 0, 0), 0)]
def fx_c110 : List fx_E := [
  (0, (.iconst (-1), 1, 0, 0), 0),
  (1, (.istore_n 3, 2, 3, 0), 0),
  (2, (.iconst (0), 3, 0, 0), 0),
  (3, (.istore 4, 5, 4, 0), 0),
  (5, (.iload 4, 7, 4, 0), 0),
  (7, (.iconst (4), 8, 0, 0), 0),
  (8, (.if_icmp .ge (57), 11, 65, 0), 0),
  (11, (.aload_n 0, 12, 0, 0), 0),
  (12, (.getfield 11, 15, 576, 42), 142),
  (15, (.iload 4, 17, 4, 0), 0),
  (17, (.aaload, 18, 0, 0), 0),
  (18, (.ifnonnull (41), 21, 59, 0), 0),
  (21, (.aload_n 0, 22, 0, 0), 0),
  (22, (.getfield 20, 25, 577, 13), 144),
  (25, (.iload_n 1, 26, 1, 0), 0),
  (26, (.iload 4, 28, 4, 0), 0),
  (28, (.invokevirtual 66, 31, 6, 211), 701),
  (31, (.ifCond .eq (28), 34, 59, 0), 0),
  (34, (.aload_n 0, 35, 0, 0), 0),
  (35, (.getfield 20, 38, 577, 13), 144),
  (38, (.iload_n 1, 39, 1, 0), 0),
  (39, (.iload 4, 41, 4, 0), 0),
  (41, (.iload_n 2, 42, 2, 0), 0),
  (42, (.invokevirtual 70, 45, 88, 212), 702),
  (45, (.ifCond .eq (6), 48, 51, 0), 0),
  (48, (.iload 4, 50, 4, 0), 0),
  (50, (.ireturn, 51, 0, 0), 0),
  (51, (.iload_n 3, 52, 3, 0), 0),
  (52, (.iconst (-1), 53, 0, 0), 0),
  (53, (.if_icmp .ne (6), 56, 59, 0), 0),
  (56, (.iload 4, 58, 4, 0), 0),
  (58, (.istore_n 3, 59, 3, 0), 0),
  (59, (.iinc 4 (1), 62, 4, 0), 0),
  (62, (.goto (-57), 65, 5, 0), 0),
  (65, (.iload_n 3, 66, 3, 0), 0),
  (66, (.ireturn, 67, 0, 0), 0)]
def fx_c111 : List fx_E := [
  (0, (.aload_n 0, 1, 0, 0), 0),
  (1, (.getfield 27, 4, 578, 17), 146),
  (4, (.aload_n 2, 5, 2, 0), 0),
  (5, (.aload_n 3, 6, 3, 0), 0),
  (6, (.invokevirtual 74, 9, 91, 275), 714),
  (9, (.astore 5, 11, 5, 0), 0),
  (11, (.aload 5, 13, 5, 0), 0),
  (13, (.aload_n 2, 14, 2, 0), 0),
  (14, (.if_acmp .ne (7), 17, 21, 0), 0),
  (17, (.aload_n 3, 18, 3, 0), 0),
  (18, (.goto (4), 21, 22, 0), 0),
  (21, (.aload_n 2, 22, 2, 0), 0),
  (22, (.astore 6, 24, 6, 0), 0),
  (24, (.aload 5, 26, 5, 0), 0),
  (26, (.ifnull (47), 29, 73, 0), 0),
  (29, (.aload_n 0, 30, 0, 0), 0),
  (30, (.getfield 20, 33, 577, 13), 144),
  (33, (.iload_n 1, 34, 1, 0), 0),
  (34, (.iconst (0), 35, 0, 0), 0),
  (35, (.aload 5, 37, 5, 0), 0),
  (37, (.getfield 41, 40, 128, 15), 552),
  (40, (.getfield 45, 43, 321, 0), 482),
  (43, (.invokevirtual 70, 46, 88, 212), 702),
  (46, (.ifCond .ne (23), 49, 69, 0), 0),
  (49, (.aload_n 0, 50, 0, 0), 0),
  (50, (.getfield 20, 53, 577, 13), 144),
  (53, (.iload_n 1, 54, 1, 0), 0),
  (54, (.iconst (1), 55, 0, 0), 0),
  (55, (.aload 5, 57, 5, 0), 0),
  (57, (.getfield 41, 60, 128, 15), 552),
  (60, (.getfield 45, 63, 321, 0), 482),
  (63, (.invokevirtual 70, 66, 88, 212), 702),
  (66, (.ifCond .eq (7), 69, 73, 0), 0),
  (69, (.iconst (1), 70, 0, 0), 0),
  (70, (.goto (4), 73, 74, 0), 0),
  (73, (.iconst (0), 74, 0, 0), 0),
  (74, (.istore 7, 76, 7, 0), 0),
  (76, (.aload_n 0, 77, 0, 0), 0),
  (77, (.getfield 34, 80, 580, 42), 149),
  (80, (.iload 4, 82, 4, 0), 0),
  (82, (.iload 7, 84, 7, 0), 0),
  (84, (.ifCond .eq (8), 87, 92, 0), 0),
  (87, (.aload 5, 89, 5, 0), 0),
  (89, (.goto (5), 92, 94, 0), 0),
  (92, (.aload 6, 94, 6, 0), 0),
  (94, (.aastore, 95, 0, 0), 0),
  (95, (.aload_n 0, 96, 0, 0), 0),
  (96, (.getfield 34, 99, 580, 42), 149),
  (99, (.iload 4, 101, 4, 0), 0),
  (101, (.iconst (2), 102, 0, 0), 0),
  (102, (.iadd, 103, 0, 0), 0),
  (103, (.iload 7, 105, 7, 0), 0),
  (105, (.ifCond .eq (8), 108, 113, 0), 0),
  (108, (.aload 6, 110, 6, 0), 0),
  (110, (.goto (5), 113, 115, 0), 0),
  (113, (.aload 5, 115, 5, 0), 0),
  (115, (.aastore, 116, 0, 0), 0),
  (116, (.return_, 117, 0, 0), 0)]
def fx_c112 : List fx_E := [
  (0, (.aload_n 0, 1, 0, 0), 0),
  (1, (.getfield 27, 4, 578, 17), 146),
  (4, (.aload_n 2, 5, 2, 0), 0),
  (5, (.aload_n 3, 6, 3, 0), 0),
  (6, (.invokevirtual 74, 9, 91, 275), 714),
  (9, (.astore 5, 11, 5, 0), 0),
  (11, (.aload 5, 13, 5, 0), 0),
  (13, (.aload_n 2, 14, 2, 0), 0),
  (14, (.if_acmp .ne (7), 17, 21, 0), 0),
  (17, (.aload_n 3, 18, 3, 0), 0),
  (18, (.goto (4), 21, 22, 0), 0),
  (21, (.aload_n 2, 22, 2, 0), 0),
  (22, (.astore 6, 24, 6, 0), 0),
  (24, (.aload 5, 26, 5, 0), 0),
  (26, (.ifnull (47), 29, 73, 0), 0),
  (29, (.aload_n 0, 30, 0, 0), 0),
  (30, (.getfield 20, 33, 577, 13), 144),
  (33, (.iload_n 1, 34, 1, 0), 0),
  (34, (.iload 4, 36, 4, 0), 0),
  (36, (.aload 5, 38, 5, 0), 0),
  (38, (.getfield 41, 41, 128, 15), 552),
  (41, (.getfield 45, 44, 321, 0), 482),
  (44, (.invokevirtual 70, 47, 88, 212), 702),
  (47, (.ifCond .ne (26), 50, 73, 0), 0),
  (50, (.aload_n 0, 51, 0, 0), 0),
  (51, (.getfield 20, 54, 577, 13), 144),
  (54, (.iload_n 1, 55, 1, 0), 0),
  (55, (.iload 4, 57, 4, 0), 0),
  (57, (.iconst (1), 58, 0, 0), 0),
  (58, (.iadd, 59, 0, 0), 0),
  (59, (.aload 5, 61, 5, 0), 0),
  (61, (.getfield 41, 64, 128, 15), 552),
  (64, (.getfield 45, 67, 321, 0), 482),
  (67, (.invokevirtual 70, 70, 88, 212), 702),
  (70, (.ifCond .ne (7), 73, 77, 0), 0),
  (73, (.iconst (1), 74, 0, 0), 0),
  (74, (.goto (4), 77, 78, 0), 0),
  (77, (.iconst (0), 78, 0, 0), 0),
  (78, (.istore 7, 80, 7, 0), 0),
  (80, (.aload_n 0, 81, 0, 0), 0),
  (81, (.getfield 11, 84, 576, 42), 142),
  (84, (.iload 4, 86, 4, 0), 0),
  (86, (.iload 7, 88, 7, 0), 0),
  (88, (.ifCond .eq (8), 91, 96, 0), 0),
  (91, (.aload 5, 93, 5, 0), 0),
  (93, (.goto (5), 96, 98, 0), 0),
  (96, (.aload 6, 98, 6, 0), 0),
  (98, (.aastore, 99, 0, 0), 0),
  (99, (.aload_n 0, 100, 0, 0), 0),
  (100, (.getfield 11, 103, 576, 42), 142),
  (103, (.iload 4, 105, 4, 0), 0),
  (105, (.iconst (1), 106, 0, 0), 0),
  (106, (.iadd, 107, 0, 0), 0),
  (107, (.iload 7, 109, 7, 0), 0),
  (109, (.ifCond .eq (8), 112, 117, 0), 0),
  (112, (.aload 6, 114, 6, 0), 0),
  (114, (.goto (5), 117, 119, 0), 0),
  (117, (.aload 5, 119, 5, 0), 0),
  (119, (.aastore, 120, 0, 0), 0),
  (120, (.return_, 121, 0, 0), 0)]
def fx_c113 : List fx_E := [
  (0, (.aload_n 0, 1, 0, 0), 0),
  (1, (.invokespecial 1, 4, 1000, 0), 862),
  (4, (.aload_n 0, 5, 0, 0), 0),
  (5, (.sipush (256), 8, 0, 0), 0),
  (8, (.newarray .boolean, 10, 71, 0), 122),
  (10, (.putfield 7, 13, 775, 71), 886),
  (13, (.aload_n 0, 14, 0, 0), 0),
  (14, (.sipush (4096), 17, 0, 0), 0),
  (17, (.newarray .int, 19, 70, 0), 121),
  (19, (.putfield 13, 22, 776, 70), 887),
  (22, (.aload_n 0, 23, 0, 0), 0),
  (23, (.sipush (300), 26, 0, 0), 0),
  (26, (.newarray .int, 28, 70, 0), 121),
  (28, (.putfield 17, 31, 779, 70), 890),
  (31, (.aload_n 0, 32, 0, 0), 0),
  (32, (.sipush (300), 35, 0, 0), 0),
  (35, (.newarray .int, 37, 70, 0), 121),
  (37, (.putfield 20, 40, 780, 70), 891),
  (40, (.aload_n 0, 41, 0, 0), 0),
  (41, (.sipush (300), 44, 0, 0), 0),
  (44, (.newarray .int, 46, 70, 0), 121),
  (46, (.putfield 23, 49, 781, 70), 892),
  (49, (.aload_n 0, 50, 0, 0), 0),
  (50, (.sipush (300), 53, 0, 0), 0),
  (53, (.newarray .int, 55, 70, 0), 121),
  (55, (.putfield 26, 58, 782, 70), 893),
  (58, (.aload_n 0, 59, 0, 0), 0),
  (59, (.sipush (300), 62, 0, 0), 0),
  (62, (.newarray .int, 64, 70, 0), 121),
  (64, (.putfield 29, 67, 783, 70), 894),
  (67, (.aload_n 0, 68, 0, 0), 0),
  (68, (.sipush (300), 71, 0, 0), 0),
  (71, (.newarray .int, 73, 70, 0), 121),
  (73, (.putfield 32, 76, 784, 70), 895),
  (76, (.aload_n 0, 77, 0, 0), 0),
  (77, (.sipush (300), 80, 0, 0), 0),
  (80, (.newarray .int, 82, 70, 0), 121),
  (82, (.putfield 35, 85, 785, 70), 896),
  (85, (.aload_n 0, 86, 0, 0), 0),
  (86, (.sipush (300), 89, 0, 0), 0),
  (89, (.newarray .int, 91, 70, 0), 121),
  (91, (.putfield 38, 94, 786, 70), 897),
  (94, (.aload_n 0, 95, 0, 0), 0),
  (95, (.bipush (64), 97, 0, 0), 0),
  (97, (.newarray .int, 99, 70, 0), 121),
  (99, (.putfield 41, 102, 787, 70), 898),
  (102, (.aload_n 0, 103, 0, 0), 0),
  (103, (.sipush (256), 106, 0, 0), 0),
  (106, (.newarray .int, 108, 70, 0), 121),
  (108, (.putfield 44, 111, 788, 70), 899),
  (111, (.aload_n 0, 112, 0, 0), 0),
  (112, (.sipush (256), 115, 0, 0), 0),
  (115, (.newarray .int, 117, 70, 0), 121),
  (117, (.putfield 47, 120, 789, 70), 900),
  (120, (.aload_n 0, 121, 0, 0), 0),
  (121, (.sipush (256), 124, 0, 0), 0),
  (124, (.newarray .int, 126, 70, 0), 121),
  (126, (.putfield 50, 129, 790, 70), 901),
  (129, (.aload_n 0, 130, 0, 0), 0),
  (130, (.sipush (512), 133, 0, 0), 0),
  (133, (.newarray .int, 135, 70, 0), 121),
  (135, (.putfield 53, 138, 791, 70), 902),
  (138, (.aload_n 0, 139, 0, 0), 0),
  (139, (.sipush (512), 142, 0, 0), 0),
  (142, (.newarray .int, 144, 70, 0), 121),
  (144, (.putfield 56, 147, 792, 70), 903),
  (147, (.aload_n 0, 148, 0, 0), 0),
  (148, (.sipush (512), 151, 0, 0), 0),
  (151, (.newarray .int, 153, 70, 0), 121),
  (153, (.putfield 59, 156, 793, 70), 904),
  (156, (.aload_n 0, 157, 0, 0), 0),
  (157, (.sipush (512), 160, 0, 0), 0),
  (160, (.newarray .int, 162, 70, 0), 121),
  (162, (.putfield 62, 165, 794, 70), 905),
  (165, (.aload_n 0, 166, 0, 0), 0),
  (166, (.sipush (512), 169, 0, 0), 0),
  (169, (.newarray .int, 171, 70, 0), 121),
  (171, (.putfield 65, 174, 795, 70), 906),
  (174, (.aload_n 0, 175, 0, 0), 0),
  (175, (.sipush (512), 178, 0, 0), 0),
  (178, (.newarray .boolean, 180, 71, 0), 122),
  (180, (.putfield 68, 183, 796, 71), 907),
  (183, (.aload_n 0, 184, 0, 0), 0),
  (184, (.bipush (64), 186, 0, 0), 0),
  (186, (.newarray .int, 188, 70, 0), 121),
  (188, (.putfield 71, 191, 797, 70), 908),
  (191, (.aload_n 0, 192, 0, 0), 0),
  (192, (.sipush (512), 195, 0, 0), 0),
  (195, (.newarray .int, 197, 70, 0), 121),
  (197, (.putfield 74, 200, 798, 70), 909),
  (200, (.aload_n 0, 201, 0, 0), 0),
  (201, (.sipush (256), 204, 0, 0), 0),
  (204, (.newarray .int, 206, 70, 0), 121),
  (206, (.putfield 77, 209, 799, 70), 910),
  (209, (.aload_n 0, 210, 0, 0), 0),
  (210, (.sipush (256), 213, 0, 0), 0),
  (213, (.newarray .int, 215, 70, 0), 121),
  (215, (.putfield 80, 218, 800, 70), 911),
  (218, (.aload_n 0, 219, 0, 0), 0),
  (219, (.sipush (256), 222, 0, 0), 0),
  (222, (.newarray .int, 224, 70, 0), 121),
  (224, (.putfield 83, 227, 801, 70), 912),
  (227, (.aload_n 0, 228, 0, 0), 0),
  (228, (.bipush (64), 230, 0, 0), 0),
  (230, (.newarray .int, 232, 70, 0), 121),
  (232, (.putfield 86, 235, 802, 70), 913),
  (235, (.aload_n 0, 236, 0, 0), 0),
  (236, (.ldc 89, 238, 32768, 0), 863),
  (238, (.newarray .int, 240, 70, 0), 121),
  (240, (.putfield 90, 243, 803, 70), 914),
  (243, (.aload_n 0, 244, 0, 0), 0),
  (244, (.bipush (64), 246, 0, 0), 0),
  (246, (.newarray .int, 248, 70, 0), 121),
  (248, (.putfield 93, 251, 804, 70), 915),
  (251, (.aload_n 0, 252, 0, 0), 0),
  (252, (.sipush (256), 255, 0, 0), 0),
  (255, (.newarray .int, 257, 70, 0), 121),
  (257, (.putfield 96, 260, 805, 70), 916),
  (260, (.aload_n 0, 261, 0, 0), 0),
  (261, (.sipush (256), 264, 0, 0), 0),
  (264, (.newarray .int, 266, 70, 0), 121),
  (266, (.putfield 99, 269, 806, 70), 917),
  (269, (.aload_n 0, 270, 0, 0), 0),
  (270, (.sipush (256), 273, 0, 0), 0),
  (273, (.newarray .int, 275, 70, 0), 121),
  (275, (.putfield 102, 278, 807, 70), 918),
  (278, (.aload_n 0, 279, 0, 0), 0),
  (279, (.sipush (256), 282, 0, 0), 0),
  (282, (.newarray .int, 284, 70, 0), 121),
  (284, (.putfield 105, 287, 808, 70), 919),
  (287, (.aload_n 0, 288, 0, 0), 0),
  (288, (.sipush (192), 291, 0, 0), 0),
  (291, (.newarray .int, 293, 70, 0), 121),
  (293, (.putfield 108, 296, 809, 70), 920),
  (296, (.aload_n 0, 297, 0, 0), 0),
  (297, (.sipush (1100), 300, 0, 0), 0),
  (300, (.newarray .int, 302, 70, 0), 121),
  (302, (.putfield 111, 305, 811, 70), 922),
  (305, (.aload_n 0, 306, 0, 0), 0),
  (306, (.sipush (1100), 309, 0, 0), 0),
  (309, (.newarray .boolean, 311, 71, 0), 122),
  (311, (.putfield 114, 314, 812, 71), 923),
  (314, (.aload_n 0, 315, 0, 0), 0),
  (315, (.sipush (1100), 318, 0, 0), 0),
  (318, (.newarray .int, 320, 70, 0), 121),
  (320, (.putfield 117, 323, 813, 70), 924),
  (323, (.aload_n 0, 324, 0, 0), 0),
  (324, (.bipush (64), 326, 0, 0), 0),
  (326, (.newarray .int, 328, 70, 0), 121),
  (328, (.putfield 120, 331, 814, 70), 925),
  (331, (.aload_n 0, 332, 0, 0), 0),
  (332, (.bipush (64), 334, 0, 0), 0),
  (334, (.newarray .int, 336, 70, 0), 121),
  (336, (.putfield 123, 339, 815, 70), 926),
  (339, (.aload_n 0, 340, 0, 0), 0),
  (340, (.iconst (2), 341, 0, 0), 0),
  (341, (.iconst (0), 342, 0, 0), 0),
  (342, (.iconst (1), 343, 0, 0), 0),
  (343, (.invokevirtual 126, 346, 101, 356), 864),
  (346, (.istore_n 1, 347, 1, 0), 0),
  (347, (.return_, 348, 0, 0), 0)]
def fx_c114 : List fx_E := [
  (0, (.iconst (-1), 1, 0, 0), 0),
  (1, (.istore_n 2, 2, 2, 0), 0),
  (2, (.iconst (0), 3, 0, 0), 0),
  (3, (.istore_n 3, 4, 3, 0), 0),
  (4, (.iload_n 3, 5, 3, 0), 0),
  (5, (.aload_n 0, 6, 0, 0), 0),
  (6, (.getfield 155, 9, 778, 0), 889),
  (9, (.if_icmp .ge (44), 12, 53, 0), 0),
  (12, (.aload_n 0, 13, 0, 0), 0),
  (13, (.getfield 17, 16, 779, 70), 890),
  (16, (.iload_n 3, 17, 3, 0), 0),
  (17, (.iaload, 18, 0, 0), 0),
  (18, (.iload_n 1, 19, 1, 0), 0),
  (19, (.if_icmp .ne (28), 22, 47, 0), 0),
  (22, (.aload_n 0, 23, 0, 0), 0),
  (23, (.iload_n 3, 24, 3, 0), 0),
  (24, (.invokevirtual 220, 27, 31, 354), 1074),
  (27, (.iload_n 1, 28, 1, 0), 0),
  (28, (.if_icmp .ne (19), 31, 47, 0), 0),
  (31, (.iload_n 2, 32, 2, 0), 0),
  (32, (.iconst (-1), 33, 0, 0), 0),
  (33, (.if_icmp .eq (12), 36, 45, 0), 0),
  (36, (.aload_n 0, 37, 0, 0), 0),
  (37, (.iload_n 3, 38, 3, 0), 0),
  (38, (.iload_n 2, 39, 2, 0), 0),
  (39, (.invokevirtual 223, 42, 97, 355), 1078),
  (42, (.ifCond .eq (5), 45, 47, 0), 0),
  (45, (.iload_n 3, 46, 3, 0), 0),
  (46, (.istore_n 2, 47, 2, 0), 0),
  (47, (.iinc 3 (1), 50, 3, 0), 0),
  (50, (.goto (-46), 53, 4, 0), 0),
  (53, (.iload_n 2, 54, 2, 0), 0),
  (54, (.ireturn, 55, 0, 0), 0)]
def fx_c115 : List fx_E := [
  (0, (.iconst (-1), 1, 0, 0), 0),
  (1, (.istore_n 2, 2, 2, 0), 0),
  (2, (.iconst (0), 3, 0, 0), 0),
  (3, (.istore_n 3, 4, 3, 0), 0),
  (4, (.iload_n 3, 5, 3, 0), 0),
  (5, (.aload_n 0, 6, 0, 0), 0),
  (6, (.getfield 155, 9, 778, 0), 889),
  (9, (.if_icmp .ge (45), 12, 54, 0), 0),
  (12, (.aload_n 0, 13, 0, 0), 0),
  (13, (.getfield 17, 16, 779, 70), 890),
  (16, (.iload_n 3, 17, 3, 0), 0),
  (17, (.iaload, 18, 0, 0), 0),
  (18, (.iload_n 1, 19, 1, 0), 0),
  (19, (.if_icmp .ne (29), 22, 48, 0), 0),
  (22, (.aload_n 0, 23, 0, 0), 0),
  (23, (.getfield 38, 26, 786, 70), 897),
  (26, (.iload_n 3, 27, 3, 0), 0),
  (27, (.iaload, 28, 0, 0), 0),
  (28, (.iconst (-1), 29, 0, 0), 0),
  (29, (.if_icmp .ne (19), 32, 48, 0), 0),
  (32, (.iload_n 2, 33, 2, 0), 0),
  (33, (.iconst (-1), 34, 0, 0), 0),
  (34, (.if_icmp .eq (12), 37, 46, 0), 0),
  (37, (.aload_n 0, 38, 0, 0), 0),
  (38, (.iload_n 3, 39, 3, 0), 0),
  (39, (.iload_n 2, 40, 2, 0), 0),
  (40, (.invokevirtual 223, 43, 97, 355), 1078),
  (43, (.ifCond .eq (5), 46, 48, 0), 0),
  (46, (.iload_n 3, 47, 3, 0), 0),
  (47, (.istore_n 2, 48, 2, 0), 0),
  (48, (.iinc 3 (1), 51, 3, 0), 0),
  (51, (.goto (-47), 54, 4, 0), 0),
  (54, (.iload_n 2, 55, 2, 0), 0),
  (55, (.ireturn, 56, 0, 0), 0)]
def fx_c116 : List fx_E := [
  (0, (.iload_n 1, 1, 1, 0), 0),
  (1, (.iconst (-1), 2, 0, 0), 0),
  (2, (.if_icmp .ne (10), 5, 12, 0), 0),
  (5, (.iload_n 2, 6, 2, 0), 0),
  (6, (.iconst (-1), 7, 0, 0), 0),
  (7, (.if_icmp .ne (5), 10, 12, 0), 0),
  (10, (.iconst (-1), 11, 0, 0), 0),
  (11, (.ireturn, 12, 0, 0), 0),
  (12, (.iload_n 1, 13, 1, 0), 0),
  (13, (.iconst (-1), 14, 0, 0), 0),
  (14, (.if_icmp .eq (17), 17, 31, 0), 0),
  (17, (.iload_n 2, 18, 2, 0), 0),
  (18, (.iconst (-1), 19, 0, 0), 0),
  (19, (.if_icmp .eq (16), 22, 35, 0), 0),
  (22, (.aload_n 0, 23, 0, 0), 0),
  (23, (.iload_n 2, 24, 2, 0), 0),
  (24, (.iload_n 1, 25, 1, 0), 0),
  (25, (.invokevirtual 223, 28, 97, 355), 1078),
  (28, (.ifCond .eq (7), 31, 35, 0), 0),
  (31, (.iload_n 2, 32, 2, 0), 0),
  (32, (.goto (4), 35, 36, 0), 0),
  (35, (.iload_n 1, 36, 1, 0), 0),
  (36, (.istore 4, 38, 4, 0), 0),
  (38, (.iload 4, 40, 4, 0), 0),
  (40, (.iload_n 1, 41, 1, 0), 0),
  (41, (.if_icmp .ne (7), 44, 48, 0), 0),
  (44, (.iload_n 2, 45, 2, 0), 0),
  (45, (.goto (4), 48, 49, 0), 0),
  (48, (.iload_n 1, 49, 1, 0), 0),
  (49, (.istore 5, 51, 5, 0), 0),
  (51, (.iload_n 3, 52, 3, 0), 0),
  (52, (.ifCond .ne (31), 55, 83, 0), 0),
  (55, (.aload_n 0, 56, 0, 0), 0),
  (56, (.iload 4, 58, 4, 0), 0),
  (58, (.iconst (0), 59, 0, 0), 0),
  (59, (.invokevirtual 258, 62, 76, 355), 1162),
  (62, (.ifCond .ne (13), 65, 75, 0), 0),
  (65, (.aload_n 0, 66, 0, 0), 0),
  (66, (.iload 4, 68, 4, 0), 0),
  (68, (.iconst (1), 69, 0, 0), 0),
  (69, (.invokevirtual 258, 72, 76, 355), 1162),
  (72, (.ifCond .eq (7), 75, 79, 0), 0),
  (75, (.iconst (1), 76, 0, 0), 0),
  (76, (.goto (34), 79, 110, 0), 0),
  (79, (.iconst (0), 80, 0, 0), 0),
  (80, (.goto (30), 83, 110, 0), 0),
  (83, (.aload_n 0, 84, 0, 0), 0),
  (84, (.iload 4, 86, 4, 0), 0),
  (86, (.iload_n 3, 87, 3, 0), 0),
  (87, (.iconst (1), 88, 0, 0), 0),
  (88, (.isub, 89, 0, 0), 0),
  (89, (.invokevirtual 258, 92, 76, 355), 1162),
  (92, (.ifCond .ne (13), 95, 105, 0), 0),
  (95, (.aload_n 0, 96, 0, 0), 0),
  (96, (.iload 4, 98, 4, 0), 0),
  (98, (.iload_n 3, 99, 3, 0), 0),
  (99, (.invokevirtual 258, 102, 76, 355), 1162),
  (102, (.ifCond .ne (7), 105, 109, 0), 0),
  (105, (.iconst (1), 106, 0, 0), 0),
  (106, (.goto (4), 109, 110, 0), 0),
  (109, (.iconst (0), 110, 0, 0), 0),
  (110, (.istore 6, 112, 6, 0), 0),
  (112, (.iload 6, 114, 6, 0), 0),
  (114, (.ifCond .eq (8), 117, 122, 0), 0),
  (117, (.iload 4, 119, 4, 0), 0),
  (119, (.goto (5), 122, 124, 0), 0),
  (122, (.iload 5, 124, 5, 0), 0),
  (124, (.ireturn, 125, 0, 0), 0)]
def fx_c117 : List fx_E := [
  (0, (.aload_n 0, 1, 0, 0), 0),
  (1, (.getfield 25, 4, 2, 17), 376),
  (4, (.aload_n 0, 5, 0, 0), 0),
  (5, (.invokevirtual 131, 8, 105, 161), 595),
  (8, (.invokevirtual 135, 11, 15, 274), 604),
  (11, (.iload_n 1, 12, 1, 0), 0),
  (12, (.tableswitch (52) (0) (2) #[(28), (36), (44)], 40, 64, 0), 0),
  (40, (.aload_n 0, 41, 0, 0), 0),
  (41, (.getfield 25, 44, 2, 17), 376),
  (44, (.getfield 231, 47, 448, 0), 130),
  (47, (.ireturn, 48, 0, 0), 0),
  (48, (.aload_n 0, 49, 0, 0), 0),
  (49, (.getfield 25, 52, 2, 17), 376),
  (52, (.getfield 234, 55, 449, 0), 132),
  (55, (.ireturn, 56, 0, 0), 0),
  (56, (.aload_n 0, 57, 0, 0), 0),
  (57, (.getfield 25, 60, 2, 17), 376),
  (60, (.getfield 237, 63, 450, 0), 134),
  (63, (.ireturn, 64, 0, 0), 0),
  (64, (.iconst (-1), 65, 0, 0), 0),
  (65, (.ireturn, 66, 0, 0), 0)]
def fx_c118 : List fx_E := [
  (0, (.aload_n 0, 1, 0, 0), 0),
  (1, (.getfield 271, 4, 4, 0), 378),
  (4, (.istore_n 1, 5, 1, 0), 0),
  (5, (.iload_n 1, 6, 1, 0), 0),
  (6, (.aload_n 0, 7, 0, 0), 0),
  (7, (.getfield 20, 10, 1, 13), 375),
  (10, (.getfield 140, 13, 192, 0), 99),
  (13, (.if_icmp .ge (23), 16, 36, 0), 0),
  (16, (.aload_n 0, 17, 0, 0), 0),
  (17, (.getfield 28, 20, 3, 44), 377),
  (20, (.iload_n 1, 21, 1, 0), 0),
  (21, (.new 26, 24, 4, 6), 161),
  (24, (.dup, 25, 0, 0), 0),
  (25, (.iload_n 1, 26, 1, 0), 0),
  (26, (.invokespecial 277, 29, 108, 226), 232),
  (29, (.aastore, 30, 0, 0), 0),
  (30, (.iinc 1 (1), 33, 1, 0), 0),
  (33, (.goto (-28), 36, 5, 0), 0),
  (36, (.aload_n 0, 37, 0, 0), 0),
  (37, (.aload_n 0, 38, 0, 0), 0),
  (38, (.getfield 271, 41, 4, 0), 378),
  (41, (.aload_n 0, 42, 0, 0), 0),
  (42, (.getfield 20, 45, 1, 13), 375),
  (45, (.getfield 140, 48, 192, 0), 99),
  (48, (.invokestatic 279, 51, 1001, 0), 371),
  (51, (.putfield 271, 54, 4, 0), 378),
  (54, (.return_, 55, 0, 0), 0)]
def fx_c119 : List fx_E := [
  (0, (.aload_n 0, 1, 0, 0), 0),
  (1, (.getfield 20, 4, 1, 13), 375),
  (4, (.iload_n 1, 5, 1, 0), 0),
  (5, (.invokevirtual 86, 8, 5, 210), 428),
  (8, (.ifCond .eq (19), 11, 27, 0), 0),
  (11, (.aload_n 0, 12, 0, 0), 0),
  (12, (.getfield 20, 15, 1, 13), 375),
  (15, (.iload_n 2, 16, 2, 0), 0),
  (16, (.invokevirtual 86, 19, 5, 210), 428),
  (19, (.ifCond .eq (8), 22, 27, 0), 0),
  (22, (.iload_n 1, 23, 1, 0), 0),
  (23, (.iload_n 2, 24, 2, 0), 0),
  (24, (.if_icmp .ne (5), 27, 29, 0), 0),
  (27, (.iconst (0), 28, 0, 0), 0),
  (28, (.ireturn, 29, 0, 0), 0),
  (29, (.aload_n 0, 30, 0, 0), 0),
  (30, (.getfield 28, 33, 3, 44), 377),
  (33, (.iload_n 1, 34, 1, 0), 0),
  (34, (.aaload, 35, 0, 0), 0),
  (35, (.getfield 101, 38, 257, 21), 349),
  (38, (.getfield 105, 41, 704, 20), 247),
  (41, (.astore 5, 43, 5, 0), 0),
  (43, (.iload_n 3, 44, 3, 0), 0),
  (44, (.iconst (1), 45, 0, 0), 0),
  (45, (.if_icmp .lt (18), 48, 63, 0), 0),
  (48, (.iload_n 3, 49, 3, 0), 0),
  (49, (.bipush (8), 51, 0, 0), 0),
  (51, (.if_icmp .gt (12), 54, 63, 0), 0),
  (54, (.aload 5, 56, 5, 0), 0),
  (56, (.getfield 110, 59, 641, 0), 172),
  (59, (.iconst (4), 60, 0, 0), 0),
  (60, (.if_icmp .lt (5), 63, 65, 0), 0),
  (63, (.iconst (0), 64, 0, 0), 0),
  (64, (.ireturn, 65, 0, 0), 0),
  (65, (.aload_n 0, 66, 0, 0), 0),
  (66, (.getfield 39, 69, 6, 20), 380),
  (69, (.invokevirtual 113, 72, 21, 321), 469),
  (72, (.astore 6, 74, 6, 0), 0),
  (74, (.aload 6, 76, 6, 0), 0),
  (76, (.ifnonnull (12), 79, 88, 0), 0),
  (79, (.new 117, 82, 5, 13), 470),
  (82, (.dup, 83, 0, 0), 0),
  (83, (.invokespecial 119, 86, 58, 241), 472),
  (86, (.astore 6, 88, 6, 0), 0),
  (88, (.aload 6, 90, 6, 0), 0),
  (90, (.iload_n 1, 91, 1, 0), 0),
  (91, (.iload_n 2, 92, 2, 0), 0),
  (92, (.iload_n 3, 93, 3, 0), 0),
  (93, (.iload 4, 95, 4, 0), 0),
  (95, (.invokevirtual 120, 98, 109, 245), 538),
  (98, (.aload 5, 100, 5, 0), 0),
  (100, (.aload 6, 102, 6, 0), 0),
  (102, (.invokevirtual 124, 105, 19, 322), 574),
  (105, (.aload_n 0, 106, 0, 0), 0),
  (106, (.dup, 107, 0, 0), 0),
  (107, (.getfield 71, 110, 11, 0), 385),
  (110, (.iconst (1), 111, 0, 0), 0),
  (111, (.iadd, 112, 0, 0), 0),
  (112, (.putfield 71, 115, 11, 0), 385),
  (115, (.iconst (1), 116, 0, 0), 0),
  (116, (.ireturn, 117, 0, 0), 0)]
def fx_c120 : List fx_E := [
  (0, (.aload_n 1, 1, 1, 0), 0),
  (1, (.aload_n 2, 2, 2, 0), 0),
  (2, (.invokevirtual 312, 5, 64, 290), 628),
  (5, (.astore_n 3, 6, 3, 0), 0),
  (6, (.aload_n 3, 7, 3, 0), 0),
  (7, (.ifnull (22), 10, 29, 0), 0),
  (10, (.aload_n 3, 11, 3, 0), 0),
  (11, (.dup, 12, 0, 0), 0),
  (12, (.getfield 316, 15, 386, 0), 314),
  (15, (.iconst (1), 16, 0, 0), 0),
  (16, (.iadd, 17, 0, 0), 0),
  (17, (.putfield 316, 20, 386, 0), 314),
  (20, (.aload_n 0, 21, 0, 0), 0),
  (21, (.aload_n 1, 22, 1, 0), 0),
  (22, (.aload_n 3, 23, 3, 0), 0),
  (23, (.invokevirtual 187, 26, 104, 163), 636),
  (26, (.goto (42), 29, 68, 0), 0),
  (29, (.aload_n 2, 30, 2, 0), 0),
  (30, (.getfield 244, 33, 128, 15), 555),
  (33, (.getfield 321, 36, 328, 1), 505),
  (36, (.ifCond .ne (32), 39, 68, 0), 0),
  (39, (.aload_n 2, 40, 2, 0), 0),
  (40, (.getfield 244, 43, 128, 15), 555),
  (43, (.iconst (1), 44, 0, 0), 0),
  (44, (.putfield 321, 47, 328, 1), 505),
  (47, (.aload_n 1, 48, 1, 0), 0),
  (48, (.getfield 216, 51, 512, 20), 323),
  (51, (.aload_n 2, 52, 2, 0), 0),
  (52, (.getfield 244, 55, 128, 15), 555),
  (55, (.invokevirtual 124, 58, 19, 322), 574),
  (58, (.aload_n 0, 59, 0, 0), 0),
  (59, (.dup, 60, 0, 0), 0),
  (60, (.getfield 83, 63, 15, 0), 389),
  (63, (.iconst (1), 64, 0, 0), 0),
  (64, (.iadd, 65, 0, 0), 0),
  (65, (.putfield 83, 68, 15, 0), 389),
  (68, (.return_, 69, 0, 0), 0)]
def fx_c121 : List fx_E := [
  (0, (.aload_n 0, 1, 0, 0), 0),
  (1, (.getfield 20, 4, 1, 13), 375),
  (4, (.iload_n 1, 5, 1, 0), 0),
  (5, (.invokevirtual 86, 8, 5, 210), 428),
  (8, (.ifCond .ne (13), 11, 21, 0), 0),
  (11, (.new 159, 14, 901, 0), 0),
  (14, (.dup, 15, 0, 0), 0),
  (20, (.athrow, 21, 0, 0), 0),
  (21, (.aload_n 0, 22, 0, 0), 0),
  (22, (.getfield 28, 25, 3, 44), 377),
  (25, (.iload_n 1, 26, 1, 0), 0),
  (26, (.aaload, 27, 0, 0), 0),
  (27, (.getfield 166, 30, 258, 18), 351),
  (30, (.astore_n 2, 31, 2, 0), 0),
  (31, (.aload_n 2, 32, 2, 0), 0),
  (32, (.getfield 170, 35, 513, 0), 325),
  (35, (.ifCond .ne (13), 38, 48, 0), 0),
  (38, (.new 175, 41, 902, 0), 0),
  (41, (.dup, 42, 0, 0), 0),
  (47, (.athrow, 48, 0, 0), 0),
  (48, (.aload_n 2, 49, 2, 0), 0),
  (49, (.invokevirtual 180, 52, 16, 289), 848),
  (52, (.istore_n 3, 53, 3, 0), 0),
  (53, (.aload_n 2, 54, 2, 0), 0),
  (54, (.invokevirtual 183, 57, 63, 289), 852),
  (57, (.astore 4, 59, 4, 0), 0),
  (59, (.aload 4, 61, 4, 0), 0),
  (61, (.ifnull (10), 64, 71, 0), 0),
  (64, (.aload_n 0, 65, 0, 0), 0),
  (65, (.aload_n 2, 66, 2, 0), 0),
  (66, (.aload 4, 68, 4, 0), 0),
  (68, (.invokevirtual 187, 71, 104, 163), 636),
  (71, (.iload_n 3, 72, 3, 0), 0),
  (72, (.ireturn, 73, 0, 0), 0)]
def fx_c122 : List fx_E := [
  (0, (.aload_n 0, 1, 0, 0), 0),
  (1, (.iload_n 2, 2, 2, 0), 0),
  (2, (.aload_n 1, 3, 1, 0), 0),
  (3, (.iconst (0), 4, 0, 0), 0),
  (4, (.aaload, 5, 0, 0), 0),
  (5, (.aload_n 1, 6, 1, 0), 0),
  (6, (.iconst (1), 7, 0, 0), 0),
  (7, (.aaload, 8, 0, 0), 0),
  (8, (.iconst (0), 9, 0, 0), 0),
  (9, (.invokevirtual 55, 12, 111, 309), 710),
  (12, (.aload_n 0, 13, 0, 0), 0),
  (13, (.iload_n 2, 14, 2, 0), 0),
  (14, (.aload_n 1, 15, 1, 0), 0),
  (15, (.iconst (2), 16, 0, 0), 0),
  (16, (.aaload, 17, 0, 0), 0),
  (17, (.aload_n 1, 18, 1, 0), 0),
  (18, (.iconst (3), 19, 0, 0), 0),
  (19, (.aaload, 20, 0, 0), 0),
  (20, (.iconst (1), 21, 0, 0), 0),
  (21, (.invokevirtual 55, 24, 111, 309), 710),
  (24, (.aload_n 0, 25, 0, 0), 0),
  (25, (.iload_n 2, 26, 2, 0), 0),
  (26, (.aload_n 0, 27, 0, 0), 0),
  (27, (.getfield 34, 30, 580, 42), 149),
  (30, (.iconst (0), 31, 0, 0), 0),
  (31, (.aaload, 32, 0, 0), 0),
  (32, (.aload_n 0, 33, 0, 0), 0),
  (33, (.getfield 34, 36, 580, 42), 149),
  (36, (.iconst (1), 37, 0, 0), 0),
  (37, (.aaload, 38, 0, 0), 0),
  (38, (.iconst (0), 39, 0, 0), 0),
  (39, (.invokevirtual 59, 42, 112, 309), 718),
  (42, (.aload_n 0, 43, 0, 0), 0),
  (43, (.iload_n 2, 44, 2, 0), 0),
  (44, (.aload_n 0, 45, 0, 0), 0),
  (45, (.getfield 34, 48, 580, 42), 149),
  (48, (.iconst (2), 49, 0, 0), 0),
  (49, (.aaload, 50, 0, 0), 0),
  (50, (.aload_n 0, 51, 0, 0), 0),
  (51, (.getfield 34, 54, 580, 42), 149),
  (54, (.iconst (3), 55, 0, 0), 0),
  (55, (.aaload, 56, 0, 0), 0),
  (56, (.iconst (2), 57, 0, 0), 0),
  (57, (.invokevirtual 59, 60, 112, 309), 718),
  (60, (.return_, 61, 0, 0), 0)]
def fx_c123 : List fx_E := [
  (0, (.iconst (0), 1, 0, 0), 0),
  (1, (.istore_n 3, 2, 3, 0), 0),
  (2, (.iload_n 3, 3, 3, 0), 0),
  (3, (.iconst (4), 4, 0, 0), 0),
  (4, (.if_icmp .ge (16), 7, 20, 0), 0),
  (7, (.aload_n 0, 8, 0, 0), 0),
  (8, (.getfield 11, 11, 576, 42), 142),
  (11, (.iload_n 3, 12, 3, 0), 0),
  (12, (.aconst_null, 13, 0, 0), 0),
  (13, (.aastore, 14, 0, 0), 0),
  (14, (.iinc 3 (1), 17, 3, 0), 0),
  (17, (.goto (-15), 20, 2, 0), 0),
  (20, (.aload_n 0, 21, 0, 0), 0),
  (21, (.aload_n 1, 22, 1, 0), 0),
  (22, (.invokevirtual 37, 25, 95, 306), 692),
  (25, (.istore_n 3, 26, 3, 0), 0),
  (26, (.iconst (0), 27, 0, 0), 0),
  (27, (.istore 4, 29, 4, 0), 0),
  (29, (.iload 4, 31, 4, 0), 0),
  (31, (.iload_n 3, 32, 3, 0), 0),
  (32, (.if_icmp .ge (49), 35, 81, 0), 0),
  (35, (.aload_n 0, 36, 0, 0), 0),
  (36, (.iload_n 2, 37, 2, 0), 0),
  (37, (.aload_n 0, 38, 0, 0), 0),
  (38, (.getfield 31, 41, 579, 42), 148),
  (41, (.iload 4, 43, 4, 0), 0),
  (43, (.aaload, 44, 0, 0), 0),
  (44, (.getfield 41, 47, 128, 15), 552),
  (47, (.getfield 45, 50, 321, 0), 482),
  (50, (.invokevirtual 51, 53, 110, 307), 697),
  (53, (.istore 5, 55, 5, 0), 0),
  (55, (.iload 5, 57, 5, 0), 0),
  (57, (.iconst (-1), 58, 0, 0), 0),
  (58, (.if_icmp .eq (17), 61, 75, 0), 0),
  (61, (.aload_n 0, 62, 0, 0), 0),
  (62, (.getfield 11, 65, 576, 42), 142),
  (65, (.iload 5, 67, 5, 0), 0),
  (67, (.aload_n 0, 68, 0, 0), 0),
  (68, (.getfield 31, 71, 579, 42), 148),
  (71, (.iload 4, 73, 4, 0), 0),
  (73, (.aaload, 74, 0, 0), 0),
  (74, (.aastore, 75, 0, 0), 0),
  (75, (.iinc 4 (1), 78, 4, 0), 0),
  (78, (.goto (-49), 81, 29, 0), 0),
  (81, (.return_, 82, 0, 0), 0)]
def fx_c124 : List fx_E := [
  (0, (.aload_n 0, 1, 0, 0), 0),
  (1, (.iload_n 1, 2, 1, 0), 0),
  (2, (.iconst (0), 3, 0, 0), 0),
  (3, (.invokevirtual 261, 6, 39, 355), 1170),
  (6, (.istore_n 2, 7, 2, 0), 0),
  (7, (.aload_n 0, 8, 0, 0), 0),
  (8, (.iload_n 1, 9, 1, 0), 0),
  (9, (.iconst (1), 10, 0, 0), 0),
  (10, (.invokevirtual 261, 13, 39, 355), 1170),
  (13, (.istore_n 3, 14, 3, 0), 0),
  (14, (.aload_n 0, 15, 0, 0), 0),
  (15, (.iload_n 1, 16, 1, 0), 0),
  (16, (.iconst (2), 17, 0, 0), 0),
  (17, (.invokevirtual 261, 20, 39, 355), 1170),
  (20, (.istore 4, 22, 4, 0), 0),
  (22, (.aload_n 0, 23, 0, 0), 0),
  (23, (.iload_n 1, 24, 1, 0), 0),
  (24, (.iconst (3), 25, 0, 0), 0),
  (25, (.invokevirtual 261, 28, 39, 355), 1170),
  (28, (.istore 5, 30, 5, 0), 0),
  (30, (.aload_n 0, 31, 0, 0), 0),
  (31, (.iload_n 2, 32, 2, 0), 0),
  (32, (.iload_n 3, 33, 3, 0), 0),
  (33, (.iconst (0), 34, 0, 0), 0),
  (34, (.invokevirtual 264, 37, 116, 356), 1174),
  (37, (.istore 6, 39, 6, 0), 0),
  (39, (.aload_n 0, 40, 0, 0), 0),
  (40, (.iload 4, 42, 4, 0), 0),
  (42, (.iload 5, 44, 5, 0), 0),
  (44, (.iconst (0), 45, 0, 0), 0),
  (45, (.invokevirtual 264, 48, 116, 356), 1174),
  (48, (.istore 7, 50, 7, 0), 0),
  (50, (.iload_n 2, 51, 2, 0), 0),
  (51, (.iload_n 3, 52, 3, 0), 0),
  (52, (.iload 6, 54, 6, 0), 0),
  (54, (.invokestatic 267, 57, 36, 3), 1178),
  (57, (.istore 8, 59, 8, 0), 0),
  (59, (.iload 4, 61, 4, 0), 0),
  (61, (.iload 5, 63, 5, 0), 0),
  (63, (.iload 7, 65, 7, 0), 0),
  (65, (.invokestatic 267, 68, 36, 3), 1178),
  (68, (.istore 9, 70, 9, 0), 0),
  (70, (.aload_n 0, 71, 0, 0), 0),
  (71, (.iload 6, 73, 6, 0), 0),
  (73, (.iload 7, 75, 7, 0), 0),
  (75, (.iconst (1), 76, 0, 0), 0),
  (76, (.invokevirtual 264, 79, 116, 356), 1174),
  (79, (.istore 10, 81, 10, 0), 0),
  (81, (.iload 6, 83, 6, 0), 0),
  (83, (.iload 7, 85, 7, 0), 0),
  (85, (.iload 10, 87, 10, 0), 0),
  (87, (.invokestatic 267, 90, 36, 3), 1178),
  (90, (.istore 11, 92, 11, 0), 0),
  (92, (.aload_n 0, 93, 0, 0), 0),
  (93, (.iload 8, 95, 8, 0), 0),
  (95, (.iload 9, 97, 9, 0), 0),
  (97, (.iconst (3), 98, 0, 0), 0),
  (98, (.invokevirtual 264, 101, 116, 356), 1174),
  (101, (.istore 12, 103, 12, 0), 0),
  (103, (.iload 8, 105, 8, 0), 0),
  (105, (.iload 9, 107, 9, 0), 0),
  (107, (.iload 12, 109, 12, 0), 0),
  (109, (.invokestatic 267, 112, 36, 3), 1178),
  (112, (.istore 13, 114, 13, 0), 0),
  (114, (.iload 10, 116, 10, 0), 0),
  (116, (.iconst (-1), 117, 0, 0), 0),
  (117, (.if_icmp .eq (11), 120, 128, 0), 0),
  (120, (.aload_n 0, 121, 0, 0), 0),
  (121, (.getfield 38, 124, 786, 70), 897),
  (124, (.iload 10, 126, 10, 0), 0),
  (126, (.iconst (0), 127, 0, 0), 0),
  (127, (.iastore, 128, 0, 0), 0),
  (128, (.iload 11, 130, 11, 0), 0),
  (130, (.iconst (-1), 131, 0, 0), 0),
  (131, (.if_icmp .eq (11), 134, 142, 0), 0),
  (134, (.aload_n 0, 135, 0, 0), 0),
  (135, (.getfield 38, 138, 786, 70), 897),
  (138, (.iload 11, 140, 11, 0), 0),
  (140, (.iconst (1), 141, 0, 0), 0),
  (141, (.iastore, 142, 0, 0), 0),
  (142, (.iload 12, 144, 12, 0), 0),
  (144, (.iconst (-1), 145, 0, 0), 0),
  (145, (.if_icmp .eq (11), 148, 156, 0), 0),
  (148, (.aload_n 0, 149, 0, 0), 0),
  (149, (.getfield 38, 152, 786, 70), 897),
  (152, (.iload 12, 154, 12, 0), 0),
  (154, (.iconst (2), 155, 0, 0), 0),
  (155, (.iastore, 156, 0, 0), 0),
  (156, (.iload 13, 158, 13, 0), 0),
  (158, (.iconst (-1), 159, 0, 0), 0),
  (159, (.if_icmp .eq (11), 162, 170, 0), 0),
  (162, (.aload_n 0, 163, 0, 0), 0),
  (163, (.getfield 38, 166, 786, 70), 897),
  (166, (.iload 13, 168, 13, 0), 0),
  (168, (.iconst (3), 169, 0, 0), 0),
  (169, (.iastore, 170, 0, 0), 0),
  (170, (.return_, 171, 0, 0), 0)]
def fx_c125 : List fx_E := [
  (0, (.aload_n 0, 1, 0, 0), 0),
  (1, (.iload_n 1, 2, 1, 0), 0),
  (2, (.invokevirtual 252, 5, 115, 354), 1154),
  (5, (.istore_n 2, 6, 2, 0), 0),
  (6, (.iload_n 2, 7, 2, 0), 0),
  (7, (.iconst (-1), 8, 0, 0), 0),
  (8, (.if_icmp .eq (96), 11, 104, 0), 0),
  (11, (.iconst (-1), 12, 0, 0), 0),
  (12, (.istore_n 3, 13, 3, 0), 0),
  (13, (.iconst (-1), 14, 0, 0), 0),
  (14, (.istore 4, 16, 4, 0), 0),
  (16, (.iconst (3), 17, 0, 0), 0),
  (17, (.istore 5, 19, 5, 0), 0),
  (19, (.iload 5, 21, 5, 0), 0),
  (21, (.ifCond .lt (57), 24, 78, 0), 0),
  (24, (.aload_n 0, 25, 0, 0), 0),
  (25, (.getfield 7, 28, 775, 71), 886),
  (28, (.iconst (4), 29, 0, 0), 0),
  (29, (.iload_n 1, 30, 1, 0), 0),
  (30, (.imul, 31, 0, 0), 0),
  (31, (.iload 5, 33, 5, 0), 0),
  (33, (.iadd, 34, 0, 0), 0),
  (34, (.baload, 35, 0, 0), 0),
  (35, (.ifCond .ne (37), 38, 72, 0), 0),
  (38, (.aload_n 0, 39, 0, 0), 0),
  (39, (.iload_n 1, 40, 1, 0), 0),
  (40, (.iload 5, 42, 5, 0), 0),
  (42, (.invokevirtual 255, 45, 33, 355), 1158),
  (45, (.ifCond .eq (6), 48, 51, 0), 0),
  (48, (.goto (24), 51, 72, 0), 0),
  (51, (.iload 5, 53, 5, 0), 0),
  (53, (.istore 4, 55, 4, 0), 0),
  (55, (.aload_n 0, 56, 0, 0), 0),
  (56, (.iload_n 2, 57, 2, 0), 0),
  (57, (.iload 5, 59, 5, 0), 0),
  (59, (.invokevirtual 258, 62, 76, 355), 1162),
  (62, (.ifCond .eq (8), 65, 70, 0), 0),
  (65, (.iload 5, 67, 5, 0), 0),
  (67, (.goto (4), 70, 71, 0), 0),
  (70, (.iload_n 3, 71, 3, 0), 0),
  (71, (.istore_n 3, 72, 3, 0), 0),
  (72, (.iinc 5 (-1), 75, 5, 0), 0),
  (75, (.goto (-56), 78, 19, 0), 0),
  (78, (.aload_n 0, 79, 0, 0), 0),
  (79, (.getfield 38, 82, 786, 70), 897),
  (82, (.iload_n 2, 83, 2, 0), 0),
  (83, (.iload_n 3, 84, 3, 0), 0),
  (84, (.iconst (-1), 85, 0, 0), 0),
  (85, (.if_icmp .ne (8), 88, 93, 0), 0),
  (88, (.iload 4, 90, 4, 0), 0),
  (90, (.goto (4), 93, 94, 0), 0),
  (93, (.iload_n 3, 94, 3, 0), 0),
  (94, (.iastore, 95, 0, 0), 0),
  (95, (.aload_n 0, 96, 0, 0), 0),
  (96, (.iload_n 1, 97, 1, 0), 0),
  (97, (.invokevirtual 252, 100, 115, 354), 1154),
  (100, (.istore_n 2, 101, 2, 0), 0),
  (101, (.goto (-95), 104, 6, 0), 0),
  (104, (.return_, 105, 0, 0), 0)]
def fx_c126 : List fx_E := [
  (0, (.aload_n 1, 1, 1, 0), 0),
  (1, (.invokevirtual 219, 4, 10, 225), 667),
  (4, (.ifCond .ne (5), 7, 9, 0), 0),
  (7, (.iconst (0), 8, 0, 0), 0),
  (8, (.ireturn, 9, 0, 0), 0),
  (9, (.aload_n 0, 10, 0, 0), 0),
  (10, (.getfield 58, 13, 7, 0), 381),
  (13, (.ifCond .ne (21), 16, 34, 0), 0),
  (16, (.aload_n 0, 17, 0, 0), 0),
  (17, (.getfield 12, 20, 0, 19), 374),
  (20, (.aload_n 1, 21, 1, 0), 0),
  (21, (.getfield 240, 24, 259, 42), 353),
  (24, (.aload_n 1, 25, 1, 0), 0),
  (25, (.getfield 302, 28, 256, 0), 347),
  (28, (.invokevirtual 358, 31, 123, 307), 688),
  (31, (.goto (18), 34, 49, 0), 0),
  (34, (.aload_n 0, 35, 0, 0), 0),
  (35, (.getfield 12, 38, 0, 19), 374),
  (38, (.aload_n 1, 39, 1, 0), 0),
  (39, (.getfield 240, 42, 259, 42), 353),
  (42, (.aload_n 1, 43, 1, 0), 0),
  (43, (.getfield 302, 46, 256, 0), 347),
  (46, (.invokevirtual 362, 49, 122, 307), 706),
  (49, (.iconst (0), 50, 0, 0), 0),
  (50, (.istore_n 2, 51, 2, 0), 0),
  (51, (.iconst (0), 52, 0, 0), 0),
  (52, (.istore_n 3, 53, 3, 0), 0),
  (53, (.iload_n 3, 54, 3, 0), 0),
  (54, (.iconst (4), 55, 0, 0), 0),
  (55, (.if_icmp .ge (85), 58, 140, 0), 0),
  (58, (.aload_n 0, 59, 0, 0), 0),
  (59, (.getfield 12, 62, 0, 19), 374),
  (62, (.getfield 365, 65, 576, 42), 143),
  (65, (.iload_n 3, 66, 3, 0), 0),
  (66, (.aaload, 67, 0, 0), 0),
  (67, (.astore 4, 69, 4, 0), 0),
  (69, (.aload 4, 71, 4, 0), 0),
  (71, (.ifnull (63), 74, 134, 0), 0),
  (74, (.iinc 2 (1), 77, 2, 0), 0),
  (77, (.aload_n 0, 78, 0, 0), 0),
  (78, (.getfield 28, 81, 3, 44), 377),
  (81, (.aload_n 0, 82, 0, 0), 0),
  (82, (.getfield 20, 85, 1, 13), 375),
  (85, (.aload_n 1, 86, 1, 0), 0),
  (86, (.getfield 302, 89, 256, 0), 347),
  (89, (.iload_n 3, 90, 3, 0), 0),
  (90, (.invokevirtual 368, 93, 2, 211), 722),
  (93, (.aaload, 94, 0, 0), 0),
  (94, (.getfield 371, 97, 260, 42), 355),
  (97, (.iload_n 3, 98, 3, 0), 0),
  (98, (.aload 4, 100, 4, 0), 0),
  (100, (.aastore, 101, 0, 0), 0),
  (101, (.aload_n 0, 102, 0, 0), 0),
  (102, (.getfield 20, 105, 1, 13), 375),
  (105, (.aload_n 1, 106, 1, 0), 0),
  (106, (.getfield 302, 109, 256, 0), 347),
  (109, (.iload_n 3, 110, 3, 0), 0),
  (110, (.aload 4, 112, 4, 0), 0),
  (112, (.getfield 244, 115, 128, 15), 555),
  (115, (.getfield 257, 118, 321, 0), 484),
  (118, (.invokevirtual 374, 121, 88, 212), 723),
  (121, (.ifCond .ne (13), 124, 134, 0), 0),
  (124, (.aload_n 0, 125, 0, 0), 0),
  (125, (.dup, 126, 0, 0), 0),
  (126, (.getfield 77, 129, 13, 0), 387),
  (129, (.iconst (1), 130, 0, 0), 0),
  (130, (.iadd, 131, 0, 0), 0),
  (131, (.putfield 77, 134, 13, 0), 387),
  (134, (.iinc 3 (1), 137, 3, 0), 0),
  (137, (.goto (-84), 140, 53, 0), 0),
  (140, (.aload_n 1, 141, 1, 0), 0),
  (141, (.dup, 142, 0, 0), 0),
  (142, (.getfield 222, 145, 261, 0), 357),
  (145, (.iload_n 2, 146, 2, 0), 0),
  (146, (.iadd, 147, 0, 0), 0),
  (147, (.putfield 222, 150, 261, 0), 357),
  (150, (.iload_n 2, 151, 2, 0), 0),
  (151, (.ireturn, 152, 0, 0), 0)]
def fx_c127 : List fx_E := [
  (0, (.iconst (0), 1, 0, 0), 0),
  (1, (.istore_n 2, 2, 2, 0), 0),
  (2, (.iload_n 2, 3, 2, 0), 0),
  (3, (.iconst (2), 4, 0, 0), 0),
  (4, (.if_icmp .ge (90), 7, 94, 0), 0),
  (7, (.aload_n 0, 8, 0, 0), 0),
  (8, (.getfield 25, 11, 2, 17), 376),
  (11, (.aload_n 1, 12, 1, 0), 0),
  (12, (.getfield 240, 15, 259, 42), 353),
  (15, (.aload_n 1, 16, 1, 0), 0),
  (16, (.getfield 302, 19, 256, 0), 347),
  (19, (.invokevirtual 303, 22, 92, 275), 612),
  (22, (.istore_n 3, 23, 3, 0), 0),
  (23, (.iload_n 3, 24, 3, 0), 0),
  (24, (.iconst (-1), 25, 0, 0), 0),
  (25, (.if_icmp .ne (4), 28, 29, 0), 0),
  (28, (.return_, 29, 0, 0), 0),
  (29, (.aload_n 1, 30, 1, 0), 0),
  (30, (.getfield 240, 33, 259, 42), 353),
  (33, (.iload_n 3, 34, 3, 0), 0),
  (34, (.aaload, 35, 0, 0), 0),
  (35, (.astore 4, 37, 4, 0), 0),
  (37, (.aload_n 1, 38, 1, 0), 0),
  (38, (.getfield 240, 41, 259, 42), 353),
  (41, (.iload_n 3, 42, 3, 0), 0),
  (42, (.aconst_null, 43, 0, 0), 0),
  (43, (.aastore, 44, 0, 0), 0),
  (44, (.aload 4, 46, 4, 0), 0),
  (46, (.getfield 244, 49, 128, 15), 555),
  (49, (.dup, 50, 0, 0), 0),
  (50, (.getfield 307, 53, 327, 0), 502),
  (53, (.iconst (1), 54, 0, 0), 0),
  (54, (.isub, 55, 0, 0), 0),
  (55, (.putfield 307, 58, 327, 0), 502),
  (58, (.aload_n 0, 59, 0, 0), 0),
  (59, (.dup, 60, 0, 0), 0),
  (60, (.getfield 74, 63, 12, 0), 386),
  (63, (.iconst (1), 64, 0, 0), 0),
  (64, (.isub, 65, 0, 0), 0),
  (65, (.putfield 74, 68, 12, 0), 386),
  (68, (.aload_n 0, 69, 0, 0), 0),
  (69, (.dup, 70, 0, 0), 0),
  (70, (.getfield 80, 73, 14, 0), 388),
  (73, (.iconst (1), 74, 0, 0), 0),
  (74, (.iadd, 75, 0, 0), 0),
  (75, (.putfield 80, 78, 14, 0), 388),
  (78, (.aload_n 0, 79, 0, 0), 0),
  (79, (.aload_n 1, 80, 1, 0), 0),
  (80, (.getfield 166, 83, 258, 18), 351),
  (83, (.aload 4, 85, 4, 0), 0),
  (85, (.invokevirtual 308, 88, 120, 163), 624),
  (88, (.iinc 2 (1), 91, 2, 0), 0),
  (91, (.goto (-89), 94, 2, 0), 0),
  (94, (.return_, 95, 0, 0), 0)]
def fx_c128 : List fx_E := [
  (0, (.iload_n 1, 1, 1, 0), 0),
  (1, (.iconst (2), 2, 0, 0), 0),
  (2, (.if_icmp .lt (18), 5, 20, 0), 0),
  (5, (.iload_n 1, 6, 1, 0), 0),
  (6, (.bipush (8), 8, 0, 0), 0),
  (8, (.if_icmp .gt (12), 11, 20, 0), 0),
  (11, (.iload_n 2, 12, 2, 0), 0),
  (12, (.ifCond .lt (8), 15, 20, 0), 0),
  (15, (.iload_n 2, 16, 2, 0), 0),
  (16, (.iconst (1), 17, 0, 0), 0),
  (17, (.if_icmp .le (5), 20, 22, 0), 0),
  (20, (.iconst (0), 21, 0, 0), 0),
  (21, (.ireturn, 22, 0, 0), 0),
  (22, (.iload_n 3, 23, 3, 0), 0),
  (23, (.iconst (1), 24, 0, 0), 0),
  (24, (.if_icmp .lt (10), 27, 34, 0), 0),
  (27, (.iload_n 3, 28, 3, 0), 0),
  (28, (.sipush (1000), 31, 0, 0), 0),
  (31, (.if_icmp .le (5), 34, 36, 0), 0),
  (34, (.iconst (0), 35, 0, 0), 0),
  (35, (.ireturn, 36, 0, 0), 0),
  (36, (.aload_n 0, 37, 0, 0), 0),
  (37, (.invokevirtual 46, 40, 103, 161), 185),
  (40, (.aload_n 0, 41, 0, 0), 0),
  (41, (.getfield 20, 44, 1, 13), 375),
  (44, (.iload_n 1, 45, 1, 0), 0),
  (45, (.invokevirtual 49, 48, 54, 210), 219),
  (48, (.aload_n 0, 49, 0, 0), 0),
  (49, (.invokevirtual 55, 52, 118, 161), 227),
  (52, (.aload_n 0, 53, 0, 0), 0),
  (53, (.iload_n 2, 54, 2, 0), 0),
  (54, (.putfield 58, 57, 7, 0), 381),
  (57, (.aload_n 0, 58, 0, 0), 0),
  (58, (.iload_n 3, 59, 3, 0), 0),
  (59, (.putfield 62, 62, 8, 0), 382),
  (62, (.aload_n 0, 63, 0, 0), 0),
  (63, (.iconst (0), 64, 0, 0), 0),
  (64, (.putfield 65, 67, 9, 0), 383),
  (67, (.aload_n 0, 68, 0, 0), 0),
  (68, (.iconst (0), 69, 0, 0), 0),
  (69, (.putfield 68, 72, 10, 0), 384),
  (72, (.aload_n 0, 73, 0, 0), 0),
  (73, (.iconst (0), 74, 0, 0), 0),
  (74, (.putfield 71, 77, 11, 0), 385),
  (77, (.aload_n 0, 78, 0, 0), 0),
  (78, (.iconst (0), 79, 0, 0), 0),
  (79, (.putfield 74, 82, 12, 0), 386),
  (82, (.aload_n 0, 83, 0, 0), 0),
  (83, (.iconst (0), 84, 0, 0), 0),
  (84, (.putfield 77, 87, 13, 0), 387),
  (87, (.aload_n 0, 88, 0, 0), 0),
  (88, (.iconst (0), 89, 0, 0), 0),
  (89, (.putfield 80, 92, 14, 0), 388),
  (92, (.aload_n 0, 93, 0, 0), 0),
  (93, (.iconst (0), 94, 0, 0), 0),
  (94, (.putfield 83, 97, 15, 0), 389),
  (97, (.iconst (1), 98, 0, 0), 0),
  (98, (.ireturn, 99, 0, 0), 0)]
def fx_c129 : List fx_E := [
  (0, (.aload_n 0, 1, 0, 0), 0),
  (1, (.iconst (0), 2, 0, 0), 0),
  (2, (.putfield 130, 5, 768, 0), 879),
  (5, (.aload_n 0, 6, 0, 0), 0),
  (6, (.invokevirtual 270, 9, 43, 353), 1066),
  (9, (.iconst (0), 10, 0, 0), 0),
  (10, (.istore_n 1, 11, 1, 0), 0),
  (11, (.iload_n 1, 12, 1, 0), 0),
  (12, (.aload_n 0, 13, 0, 0), 0),
  (13, (.getfield 140, 16, 770, 0), 881),
  (16, (.if_icmp .ge (38), 19, 54, 0), 0),
  (19, (.iconst (0), 20, 0, 0), 0),
  (20, (.istore_n 2, 21, 2, 0), 0),
  (21, (.iload_n 2, 22, 2, 0), 0),
  (22, (.iconst (2), 23, 0, 0), 0),
  (23, (.if_icmp .ge (25), 26, 48, 0), 0),
  (26, (.aload_n 0, 27, 0, 0), 0),
  (27, (.iload_n 1, 28, 1, 0), 0),
  (28, (.invokevirtual 273, 31, 114, 354), 1070),
  (31, (.istore_n 3, 32, 3, 0), 0),
  (32, (.iload_n 3, 33, 3, 0), 0),
  (33, (.iconst (-1), 34, 0, 0), 0),
  (34, (.if_icmp .eq (8), 37, 42, 0), 0),
  (37, (.aload_n 0, 38, 0, 0), 0),
  (38, (.iload_n 3, 39, 3, 0), 0),
  (39, (.invokevirtual 276, 42, 100, 354), 1090),
  (42, (.iinc 2 (1), 45, 2, 0), 0),
  (45, (.goto (-24), 48, 21, 0), 0),
  (48, (.iinc 1 (1), 51, 1, 0), 0),
  (51, (.goto (-40), 54, 11, 0), 0),
  (54, (.aload_n 0, 55, 0, 0), 0),
  (55, (.invokevirtual 279, 58, 98, 353), 1114),
  (58, (.iconst (0), 59, 0, 0), 0),
  (59, (.istore_n 1, 60, 1, 0), 0),
  (60, (.iload_n 1, 61, 1, 0), 0),
  (61, (.aload_n 0, 62, 0, 0), 0),
  (62, (.getfield 155, 65, 778, 0), 889),
  (65, (.if_icmp .ge (16), 68, 81, 0), 0),
  (68, (.aload_n 0, 69, 0, 0), 0),
  (69, (.getfield 38, 72, 786, 70), 897),
  (72, (.iload_n 1, 73, 1, 0), 0),
  (73, (.iconst (-1), 74, 0, 0), 0),
  (74, (.iastore, 75, 0, 0), 0),
  (75, (.iinc 1 (1), 78, 1, 0), 0),
  (78, (.goto (-18), 81, 60, 0), 0),
  (81, (.iconst (0), 82, 0, 0), 0),
  (82, (.istore_n 1, 83, 1, 0), 0),
  (83, (.iload_n 1, 84, 1, 0), 0),
  (84, (.aload_n 0, 85, 0, 0), 0),
  (85, (.getfield 140, 88, 770, 0), 881),
  (88, (.if_icmp .ge (29), 91, 117, 0), 0),
  (91, (.aload_n 0, 92, 0, 0), 0),
  (92, (.getfield 143, 95, 771, 0), 882),
  (95, (.ifCond .ne (11), 98, 106, 0), 0),
  (98, (.aload_n 0, 99, 0, 0), 0),
  (99, (.iload_n 1, 100, 1, 0), 0),
  (100, (.invokevirtual 282, 103, 125, 354), 1150),
  (103, (.goto (8), 106, 111, 0), 0),
  (106, (.aload_n 0, 107, 0, 0), 0),
  (107, (.iload_n 1, 108, 1, 0), 0),
  (108, (.invokevirtual 285, 111, 124, 354), 1166),
  (111, (.iinc 1 (1), 114, 1, 0), 0),
  (114, (.goto (-31), 117, 83, 0), 0),
  (117, (.iconst (0), 118, 0, 0), 0),
  (118, (.istore_n 1, 119, 1, 0), 0),
  (119, (.iload_n 1, 120, 1, 0), 0),
  (120, (.aload_n 0, 121, 0, 0), 0),
  (121, (.getfield 155, 124, 778, 0), 889),
  (124, (.if_icmp .ge (37), 127, 161, 0), 0),
  (127, (.aload_n 0, 128, 0, 0), 0),
  (128, (.dup, 129, 0, 0), 0),
  (129, (.getfield 161, 132, 816, 0), 927),
  (132, (.aload_n 0, 133, 0, 0), 0),
  (133, (.iload_n 1, 134, 1, 0), 0),
  (134, (.aload_n 0, 135, 0, 0), 0),
  (135, (.getfield 38, 138, 786, 70), 897),
  (138, (.iload_n 1, 139, 1, 0), 0),
  (139, (.iaload, 140, 0, 0), 0),
  (140, (.invokevirtual 258, 143, 76, 355), 1162),
  (143, (.ifCond .eq (7), 146, 150, 0), 0),
  (146, (.iconst (0), 147, 0, 0), 0),
  (147, (.goto (4), 150, 151, 0), 0),
  (150, (.iconst (1), 151, 0, 0), 0),
  (151, (.iadd, 152, 0, 0), 0),
  (152, (.putfield 161, 155, 816, 0), 927),
  (155, (.iinc 1 (1), 158, 1, 0), 0),
  (158, (.goto (-39), 161, 119, 0), 0),
  (161, (.iconst (0), 162, 0, 0), 0),
  (162, (.istore_n 1, 163, 1, 0), 0),
  (163, (.iload_n 1, 164, 1, 0), 0),
  (164, (.aload_n 0, 165, 0, 0), 0),
  (165, (.getfield 155, 168, 778, 0), 889),
  (168, (.if_icmp .ge (58), 171, 226, 0), 0),
  (171, (.aload_n 0, 172, 0, 0), 0),
  (172, (.getfield 123, 175, 815, 70), 926),
  (175, (.aload_n 0, 176, 0, 0), 0),
  (176, (.getfield 17, 179, 779, 70), 890),
  (179, (.iload_n 1, 180, 1, 0), 0),
  (180, (.iaload, 181, 0, 0), 0),
  (181, (.dup2, 182, 0, 0), 0),
  (182, (.iaload, 183, 0, 0), 0),
  (183, (.iconst (1), 184, 0, 0), 0),
  (184, (.iadd, 185, 0, 0), 0),
  (185, (.iastore, 186, 0, 0), 0),
  (186, (.aload_n 0, 187, 0, 0), 0),
  (187, (.getfield 17, 190, 779, 70), 890),
  (190, (.iload_n 1, 191, 1, 0), 0),
  (191, (.aload_n 0, 192, 0, 0), 0),
  (192, (.aload_n 0, 193, 0, 0), 0),
  (193, (.getfield 17, 196, 779, 70), 890),
  (196, (.iload_n 1, 197, 1, 0), 0),
  (197, (.iaload, 198, 0, 0), 0),
  (198, (.aload_n 0, 199, 0, 0), 0),
  (199, (.getfield 38, 202, 786, 70), 897),
  (202, (.iload_n 1, 203, 1, 0), 0),
  (203, (.iaload, 204, 0, 0), 0),
  (204, (.invokevirtual 177, 207, 37, 355), 875),
  (207, (.iastore, 208, 0, 0), 0),
  (208, (.aload_n 0, 209, 0, 0), 0),
  (209, (.getfield 20, 212, 780, 70), 891),
  (212, (.iload_n 1, 213, 1, 0), 0),
  (213, (.aload_n 0, 214, 0, 0), 0),
  (214, (.getfield 38, 217, 786, 70), 897),
  (217, (.iload_n 1, 218, 1, 0), 0),
  (218, (.iaload, 219, 0, 0), 0),
  (219, (.iastore, 220, 0, 0), 0),
  (220, (.iinc 1 (1), 223, 1, 0), 0),
  (223, (.goto (-60), 226, 163, 0), 0),
  (226, (.aload_n 0, 227, 0, 0), 0),
  (227, (.dup, 228, 0, 0), 0),
  (228, (.getfield 149, 231, 773, 0), 884),
  (231, (.iconst (1), 232, 0, 0), 0),
  (232, (.iadd, 233, 0, 0), 0),
  (233, (.putfield 149, 236, 773, 0), 884),
  (236, (.aload_n 0, 237, 0, 0), 0),
  (237, (.getfield 155, 240, 778, 0), 889),
  (240, (.ireturn, 241, 0, 0), 0)]
def fx_c130 : List fx_E := [
  (0, (.aload_n 0, 1, 0, 0), 0),
  (1, (.invokespecial 3, 4, 1000, 0), 81),
  (4, (.aload_n 0, 5, 0, 0), 0),
  (5, (.new 9, 8, 9, 5), 84),
  (8, (.dup, 9, 0, 0), 0),
  (9, (.invokespecial 11, 12, 94, 305), 86),
  (12, (.putfield 12, 15, 0, 19), 374),
  (15, (.aload_n 0, 16, 0, 0), 0),
  (16, (.aload_n 0, 17, 0, 0), 0),
  (17, (.getfield 12, 20, 0, 19), 374),
  (20, (.getfield 16, 23, 577, 13), 145),
  (23, (.putfield 20, 26, 1, 13), 375),
  (26, (.aload_n 0, 27, 0, 0), 0),
  (27, (.aload_n 0, 28, 0, 0), 0),
  (28, (.getfield 12, 31, 0, 19), 374),
  (31, (.getfield 21, 34, 578, 17), 147),
  (34, (.putfield 25, 37, 2, 17), 376),
  (37, (.aload_n 0, 38, 0, 0), 0),
  (38, (.bipush (64), 40, 0, 0), 0),
  (40, (.anewarray 26, 43, 4, 162), 161),
  (43, (.putfield 28, 46, 3, 44), 377),
  (46, (.aload_n 0, 47, 0, 0), 0),
  (47, (.new 32, 50, 10, 3), 163),
  (50, (.dup, 51, 0, 0), 0),
  (51, (.invokespecial 34, 54, 65, 321), 165),
  (54, (.putfield 35, 57, 5, 20), 379),
  (57, (.aload_n 0, 58, 0, 0), 0),
  (58, (.new 32, 61, 10, 3), 163),
  (61, (.dup, 62, 0, 0), 0),
  (62, (.invokespecial 34, 65, 65, 321), 165),
  (65, (.putfield 39, 68, 6, 20), 380),
  (68, (.aload_n 0, 69, 0, 0), 0),
  (69, (.iconst (2), 70, 0, 0), 0),
  (70, (.iconst (0), 71, 0, 0), 0),
  (71, (.iconst (1), 72, 0, 0), 0),
  (72, (.invokevirtual 42, 75, 128, 164), 181),
  (75, (.pop, 76, 0, 0), 0),
  (76, (.return_, 77, 0, 0), 0)]
def fx_c131 : List fx_E := [
  (0, (.aload_n 0, 1, 0, 0), 0),
  (1, (.invokevirtual 128, 4, 107, 161), 579),
  (4, (.aload_n 0, 5, 0, 0), 0),
  (5, (.getfield 25, 8, 2, 17), 376),
  (8, (.aload_n 0, 9, 0, 0), 0),
  (9, (.invokevirtual 131, 12, 105, 161), 595),
  (12, (.invokevirtual 135, 15, 15, 274), 604),
  (15, (.iconst (0), 16, 0, 0), 0),
  (16, (.istore_n 1, 17, 1, 0), 0),
  (17, (.iload_n 1, 18, 1, 0), 0),
  (18, (.aload_n 0, 19, 0, 0), 0),
  (19, (.getfield 20, 22, 1, 13), 375),
  (22, (.getfield 140, 25, 192, 0), 99),
  (25, (.if_icmp .ge (19), 28, 44, 0), 0),
  (28, (.aload_n 0, 29, 0, 0), 0),
  (29, (.aload_n 0, 30, 0, 0), 0),
  (30, (.getfield 28, 33, 3, 44), 377),
  (33, (.iload_n 1, 34, 1, 0), 0),
  (34, (.aaload, 35, 0, 0), 0),
  (35, (.invokevirtual 141, 38, 127, 162), 608),
  (38, (.iinc 1 (1), 41, 1, 0), 0),
  (41, (.goto (-24), 44, 17, 0), 0),
  (44, (.aload_n 0, 45, 0, 0), 0),
  (45, (.invokevirtual 145, 48, 1, 161), 655),
  (48, (.istore_n 1, 49, 1, 0), 0),
  (49, (.iconst (0), 50, 0, 0), 0),
  (50, (.istore_n 2, 51, 2, 0), 0),
  (51, (.iload_n 2, 52, 2, 0), 0),
  (52, (.aload_n 0, 53, 0, 0), 0),
  (53, (.getfield 20, 56, 1, 13), 375),
  (56, (.getfield 140, 59, 192, 0), 99),
  (59, (.if_icmp .ge (20), 62, 79, 0), 0),
  (62, (.aload_n 0, 63, 0, 0), 0),
  (63, (.aload_n 0, 64, 0, 0), 0),
  (64, (.getfield 28, 67, 3, 44), 377),
  (67, (.iload_n 2, 68, 2, 0), 0),
  (68, (.aaload, 69, 0, 0), 0),
  (69, (.iload_n 1, 70, 1, 0), 0),
  (70, (.invokevirtual 148, 73, 83, 163), 659),
  (73, (.iinc 2 (1), 76, 2, 0), 0),
  (76, (.goto (-25), 79, 51, 0), 0),
  (79, (.iconst (0), 80, 0, 0), 0),
  (80, (.istore_n 2, 81, 2, 0), 0),
  (81, (.iconst (0), 82, 0, 0), 0),
  (82, (.istore_n 3, 83, 3, 0), 0),
  (83, (.iload_n 3, 84, 3, 0), 0),
  (84, (.aload_n 0, 85, 0, 0), 0),
  (85, (.getfield 20, 88, 1, 13), 375),
  (88, (.getfield 140, 91, 192, 0), 99),
  (91, (.if_icmp .ge (22), 94, 113, 0), 0),
  (94, (.iload_n 2, 95, 2, 0), 0),
  (95, (.aload_n 0, 96, 0, 0), 0),
  (96, (.aload_n 0, 97, 0, 0), 0),
  (97, (.getfield 28, 100, 3, 44), 377),
  (100, (.iload_n 3, 101, 3, 0), 0),
  (101, (.aaload, 102, 0, 0), 0),
  (102, (.invokevirtual 152, 105, 126, 162), 684),
  (105, (.iadd, 106, 0, 0), 0),
  (106, (.istore_n 2, 107, 2, 0), 0),
  (107, (.iinc 3 (1), 110, 3, 0), 0),
  (110, (.goto (-27), 113, 83, 0), 0),
  (113, (.iconst (0), 114, 0, 0), 0),
  (114, (.istore_n 3, 115, 3, 0), 0),
  (115, (.iload_n 3, 116, 3, 0), 0),
  (116, (.aload_n 0, 117, 0, 0), 0),
  (117, (.getfield 20, 120, 1, 13), 375),
  (120, (.getfield 140, 123, 192, 0), 99),
  (123, (.if_icmp .ge (18), 126, 141, 0), 0),
  (126, (.aload_n 0, 127, 0, 0), 0),
  (127, (.getfield 28, 130, 3, 44), 377),
  (130, (.iload_n 3, 131, 3, 0), 0),
  (131, (.aaload, 132, 0, 0), 0),
  (132, (.invokevirtual 156, 135, 9, 225), 724),
  (135, (.iinc 3 (1), 138, 3, 0), 0),
  (138, (.goto (-23), 141, 115, 0), 0),
  (141, (.aload_n 0, 142, 0, 0), 0),
  (142, (.dup, 143, 0, 0), 0),
  (143, (.getfield 65, 146, 9, 0), 383),
  (146, (.iconst (1), 147, 0, 0), 0),
  (147, (.iadd, 148, 0, 0), 0),
  (148, (.putfield 65, 151, 9, 0), 383),
  (151, (.iload_n 2, 152, 2, 0), 0),
  (152, (.ireturn, 153, 0, 0), 0)]
def fx_c132 : List fx_E := [
  (0, (.aload_n 2, 1, 2, 0), 0),
  (1, (.iconst (0), 2, 0, 0), 0),
  (2, (.aload_n 0, 3, 0, 0), 0),
  (3, (.iload_n 1, 4, 1, 0), 0),
  (4, (.invokevirtual 7, 7, 121, 162), 761),
  (7, (.i2l, 8, 0, 0), 0),
  (8, (.lastore, 9, 0, 0), 0),
  (9, (.goto (9), 12, 18, 0), 0),
  (12, (.astore_n 3, 13, 3, 0), 0),
  (13, (.iconst (1), 14, 0, 0), 0),
  (14, (.ireturn, 15, 0, 0), 0),
  (15, (.astore_n 3, 16, 3, 0), 0),
  (16, (.iconst (2), 17, 0, 0), 0),
  (17, (.ireturn, 18, 0, 0), 0),
  (18, (.iconst (0), 19, 0, 0), 0),
  (19, (.ireturn, 20, 0, 0), 0)]
def fx_c133 : List fx_E := [
  (0, (.new 8, 3, 0, 16), 76),
  (3, (.dup, 4, 0, 0), 0),
  (4, (.invokespecial 17, 7, 130, 161), 78),
  (7, (.astore_n 1, 8, 1, 0), 0),
  (8, (.new 18, 11, 12, 51), 857),
  (11, (.dup, 12, 0, 0), 0),
  (12, (.invokespecial 20, 15, 113, 353), 859),
  (15, (.astore_n 2, 16, 2, 0), 0),
  (16, (.iconst (1), 17, 0, 0), 0),
  (17, (.newarray .long, 19, 72, 0), 1209),
  (19, (.astore_n 3, 20, 3, 0), 0),
  (20, (.iconst (0), 21, 0, 0), 0),
  (21, (.istore 4, 23, 4, 0), 0),
  (23, (.iload 4, 25, 4, 0), 0),
  (25, (.aload_n 0, 26, 0, 0), 0),
  (26, (.arraylength, 27, 0, 0), 0),
  (27, (.iconst (5), 28, 0, 0), 0),
  (28, (.isub, 29, 0, 0), 0),
  (29, (.if_icmp .gt (527), 32, 556, 0), 0),
  (32, (.aload_n 0, 33, 0, 0), 0),
  (33, (.iload 4, 35, 4, 0), 0),
  (35, (.iaload, 36, 0, 0), 0),
  (36, (.bipush (15), 38, 0, 0), 0),
  (38, (.iand, 39, 0, 0), 0),
  (39, (.tableswitch (511) (0) (10) #[(57), (106), (171), (232), (245), (301), (338), (363), (400), (425), (474)], 96, 550, 0), 0),
  (96, (.aload_n 1, 97, 1, 0), 0),
  (97, (.aload_n 0, 98, 0, 0), 0),
  (98, (.iload 4, 100, 4, 0), 0),
  (100, (.iconst (1), 101, 0, 0), 0),
  (101, (.iadd, 102, 0, 0), 0),
  (102, (.iaload, 103, 0, 0), 0),
  (103, (.aload_n 0, 104, 0, 0), 0),
  (104, (.iload 4, 106, 4, 0), 0),
  (106, (.iconst (2), 107, 0, 0), 0),
  (107, (.iadd, 108, 0, 0), 0),
  (108, (.iaload, 109, 0, 0), 0),
  (109, (.aload_n 0, 110, 0, 0), 0),
  (110, (.iload 4, 112, 4, 0), 0),
  (112, (.iconst (3), 113, 0, 0), 0),
  (113, (.iadd, 114, 0, 0), 0),
  (114, (.iaload, 115, 0, 0), 0),
  (115, (.invokevirtual 21, 118, 128, 164), 423),
  (118, (.aload_n 2, 119, 2, 0), 0),
  (119, (.aload_n 0, 120, 0, 0), 0),
  (120, (.iload 4, 122, 4, 0), 0),
  (122, (.iconst (1), 123, 0, 0), 0),
  (123, (.iadd, 124, 0, 0), 0),
  (124, (.iaload, 125, 0, 0), 0),
  (125, (.aload_n 0, 126, 0, 0), 0),
  (126, (.iload 4, 128, 4, 0), 0),
  (128, (.iconst (2), 129, 0, 0), 0),
  (129, (.iadd, 130, 0, 0), 0),
  (130, (.iaload, 131, 0, 0), 0),
  (131, (.aload_n 0, 132, 0, 0), 0),
  (132, (.iload 4, 134, 4, 0), 0),
  (134, (.iconst (3), 135, 0, 0), 0),
  (135, (.iadd, 136, 0, 0), 0),
  (136, (.iaload, 137, 0, 0), 0),
  (137, (.invokevirtual 25, 140, 101, 356), 1037),
  (140, (.if_icmp .eq (410), 143, 550, 0), 0),
  (143, (.iconst (0), 144, 0, 0), 0),
  (144, (.ireturn, 145, 0, 0), 0),
  (145, (.aload_n 1, 146, 1, 0), 0),
  (146, (.aload_n 0, 147, 0, 0), 0),
  (147, (.iload 4, 149, 4, 0), 0),
  (149, (.iconst (1), 150, 0, 0), 0),
  (150, (.iadd, 151, 0, 0), 0),
  (151, (.iaload, 152, 0, 0), 0),
  (152, (.aload_n 0, 153, 0, 0), 0),
  (153, (.iload 4, 155, 4, 0), 0),
  (155, (.iconst (2), 156, 0, 0), 0),
  (156, (.iadd, 157, 0, 0), 0),
  (157, (.iaload, 158, 0, 0), 0),
  (158, (.aload_n 0, 159, 0, 0), 0),
  (159, (.iload 4, 161, 4, 0), 0),
  (161, (.iconst (3), 162, 0, 0), 0),
  (162, (.iadd, 163, 0, 0), 0),
  (163, (.iaload, 164, 0, 0), 0),
  (164, (.ifCond .eq (7), 167, 171, 0), 0),
  (167, (.iconst (1), 168, 0, 0), 0),
  (168, (.goto (4), 171, 172, 0), 0),
  (171, (.iconst (0), 172, 0, 0), 0),
  (172, (.invokevirtual 26, 175, 106, 164), 424),
  (175, (.aload_n 2, 176, 2, 0), 0),
  (176, (.aload_n 0, 177, 0, 0), 0),
  (177, (.iload 4, 179, 4, 0), 0),
  (179, (.iconst (1), 180, 0, 0), 0),
  (180, (.iadd, 181, 0, 0), 0),
  (181, (.iaload, 182, 0, 0), 0),
  (182, (.aload_n 0, 183, 0, 0), 0),
  (183, (.iload 4, 185, 4, 0), 0),
  (185, (.iconst (2), 186, 0, 0), 0),
  (186, (.iadd, 187, 0, 0), 0),
  (187, (.iaload, 188, 0, 0), 0),
  (188, (.aload_n 0, 189, 0, 0), 0),
  (189, (.iload 4, 191, 4, 0), 0),
  (191, (.iconst (3), 192, 0, 0), 0),
  (192, (.iadd, 193, 0, 0), 0),
  (193, (.iaload, 194, 0, 0), 0),
  (194, (.ifCond .eq (7), 197, 201, 0), 0),
  (197, (.iconst (1), 198, 0, 0), 0),
  (198, (.goto (4), 201, 202, 0), 0),
  (201, (.iconst (0), 202, 0, 0), 0),
  (202, (.invokevirtual 30, 205, 99, 356), 1038),
  (205, (.if_icmp .eq (345), 208, 550, 0), 0),
  (208, (.iconst (0), 209, 0, 0), 0),
  (209, (.ireturn, 210, 0, 0), 0),
  (210, (.aload_n 1, 211, 1, 0), 0),
  (211, (.aload_n 0, 212, 0, 0), 0),
  (212, (.iload 4, 214, 4, 0), 0),
  (214, (.iconst (1), 215, 0, 0), 0),
  (215, (.iadd, 216, 0, 0), 0),
  (216, (.iaload, 217, 0, 0), 0),
  (217, (.aload_n 0, 218, 0, 0), 0),
  (218, (.iload 4, 220, 4, 0), 0),
  (220, (.iconst (2), 221, 0, 0), 0),
  (221, (.iadd, 222, 0, 0), 0),
  (222, (.iaload, 223, 0, 0), 0),
  (223, (.aload_n 0, 224, 0, 0), 0),
  (224, (.iload 4, 226, 4, 0), 0),
  (226, (.iconst (3), 227, 0, 0), 0),
  (227, (.iadd, 228, 0, 0), 0),
  (228, (.iaload, 229, 0, 0), 0),
  (229, (.aload_n 0, 230, 0, 0), 0),
  (230, (.iload 4, 232, 4, 0), 0),
  (232, (.iconst (4), 233, 0, 0), 0),
  (233, (.iadd, 234, 0, 0), 0),
  (234, (.iaload, 235, 0, 0), 0),
  (235, (.invokevirtual 31, 238, 119, 165), 465),
  (238, (.aload_n 2, 239, 2, 0), 0),
  (239, (.aload_n 0, 240, 0, 0), 0),
  (240, (.iload 4, 242, 4, 0), 0),
  (242, (.iconst (1), 243, 0, 0), 0),
  (243, (.iadd, 244, 0, 0), 0),
  (244, (.iaload, 245, 0, 0), 0),
  (245, (.aload_n 0, 246, 0, 0), 0),
  (246, (.iload 4, 248, 4, 0), 0),
  (248, (.iconst (2), 249, 0, 0), 0),
  (249, (.iadd, 250, 0, 0), 0),
  (250, (.iaload, 251, 0, 0), 0),
  (251, (.aload_n 0, 252, 0, 0), 0),
  (252, (.iload 4, 254, 4, 0), 0),
  (254, (.iconst (3), 255, 0, 0), 0),
  (255, (.iadd, 256, 0, 0), 0),
  (256, (.iaload, 257, 0, 0), 0),
  (257, (.aload_n 0, 258, 0, 0), 0),
  (258, (.iload 4, 260, 4, 0), 0),
  (260, (.iconst (4), 261, 0, 0), 0),
  (261, (.iadd, 262, 0, 0), 0),
  (262, (.iaload, 263, 0, 0), 0),
  (263, (.invokevirtual 35, 266, 79, 357), 1058),
  (266, (.if_icmp .eq (284), 269, 550, 0), 0),
  (269, (.iconst (0), 270, 0, 0), 0),
  (270, (.ireturn, 271, 0, 0), 0),
  (271, (.aload_n 1, 272, 1, 0), 0),
  (272, (.invokevirtual 36, 275, 131, 161), 575),
  (275, (.aload_n 2, 276, 2, 0), 0),
  (276, (.invokevirtual 40, 279, 129, 353), 1062),
  (279, (.if_icmp .eq (271), 282, 550, 0), 0),
  (282, (.iconst (0), 283, 0, 0), 0),
  (283, (.ireturn, 284, 0, 0), 0),
  (284, (.aload_n 1, 285, 1, 0), 0),
  (285, (.aload_n 0, 286, 0, 0), 0),
  (286, (.iload 4, 288, 4, 0), 0),
  (288, (.iconst (1), 289, 0, 0), 0),
  (289, (.iadd, 290, 0, 0), 0),
  (290, (.iaload, 291, 0, 0), 0),
  (291, (.aload_n 3, 292, 3, 0), 0),
  (292, (.invokestatic 41, 295, 132, 3), 756),
  (295, (.istore 5, 297, 5, 0), 0),
  (297, (.aload_n 2, 298, 2, 0), 0),
  (298, (.aload_n 0, 299, 0, 0), 0),
  (299, (.iload 4, 301, 4, 0), 0),
  (301, (.iconst (1), 302, 0, 0), 0),
  (302, (.iadd, 303, 0, 0), 0),
  (303, (.iaload, 304, 0, 0), 0),
  (304, (.invokevirtual 46, 307, 102, 354), 1181),
  (307, (.istore 6, 309, 6, 0), 0),
  (309, (.aload_n 2, 310, 2, 0), 0),
  (310, (.invokevirtual 47, 313, 44, 353), 1033),
  (313, (.iload 5, 315, 5, 0), 0),
  (315, (.if_icmp .eq (5), 318, 320, 0), 0),
  (318, (.iconst (0), 319, 0, 0), 0),
  (319, (.ireturn, 320, 0, 0), 0),
  (320, (.iload 5, 322, 5, 0), 0),
  (322, (.ifCond .ne (15), 325, 337, 0), 0),
  (325, (.aload_n 3, 326, 3, 0), 0),
  (326, (.iconst (0), 327, 0, 0), 0),
  (327, (.laload, 328, 0, 0), 0),
  (328, (.iload 6, 330, 6, 0), 0),
  (330, (.i2l, 331, 0, 0), 0),
  (331, (.lcmp, 332, 0, 0), 0),
  (332, (.ifCond .eq (5), 335, 337, 0), 0),
  (335, (.iconst (0), 336, 0, 0), 0),
  (336, (.ireturn, 337, 0, 0), 0),
  (337, (.goto (213), 340, 550, 0), 0),
  (340, (.aload_n 1, 341, 1, 0), 0),
  (341, (.aload_n 0, 342, 0, 0), 0),
  (342, (.iload 4, 344, 4, 0), 0),
  (344, (.iconst (1), 345, 0, 0), 0),
  (345, (.iadd, 346, 0, 0), 0),
  (346, (.iaload, 347, 0, 0), 0),
  (347, (.aload_n 0, 348, 0, 0), 0),
  (348, (.iload 4, 350, 4, 0), 0),
  (350, (.iconst (2), 351, 0, 0), 0),
  (351, (.iadd, 352, 0, 0), 0),
  (352, (.iaload, 353, 0, 0), 0),
  (353, (.invokevirtual 50, 356, 50, 163), 728),
  (356, (.aload_n 2, 357, 2, 0), 0),
  (357, (.aload_n 0, 358, 0, 0), 0),
  (358, (.iload 4, 360, 4, 0), 0),
  (360, (.iconst (1), 361, 0, 0), 0),
  (361, (.iadd, 362, 0, 0), 0),
  (362, (.iaload, 363, 0, 0), 0),
  (363, (.aload_n 0, 364, 0, 0), 0),
  (364, (.iload 4, 366, 4, 0), 0),
  (366, (.iconst (2), 367, 0, 0), 0),
  (367, (.iadd, 368, 0, 0), 0),
  (368, (.iaload, 369, 0, 0), 0),
  (369, (.invokevirtual 54, 372, 81, 355), 1185),
  (372, (.if_icmp .eq (178), 375, 550, 0), 0),
  (375, (.iconst (0), 376, 0, 0), 0),
  (376, (.ireturn, 377, 0, 0), 0),
  (377, (.aload_n 1, 378, 1, 0), 0),
  (378, (.aload_n 0, 379, 0, 0), 0),
  (379, (.iload 4, 381, 4, 0), 0),
  (381, (.iconst (1), 382, 0, 0), 0),
  (382, (.iadd, 383, 0, 0), 0),
  (383, (.iaload, 384, 0, 0), 0),
  (384, (.invokevirtual 55, 387, 0, 162), 732),
  (387, (.aload_n 2, 388, 2, 0), 0),
  (388, (.aload_n 0, 389, 0, 0), 0),
  (389, (.iload 4, 391, 4, 0), 0),
  (391, (.iconst (1), 392, 0, 0), 0),
  (392, (.iadd, 393, 0, 0), 0),
  (393, (.iaload, 394, 0, 0), 0),
  (394, (.invokevirtual 58, 397, 25, 354), 1189),
  (397, (.if_icmp .eq (153), 400, 550, 0), 0),
  (400, (.iconst (0), 401, 0, 0), 0),
  (401, (.ireturn, 402, 0, 0), 0),
  (402, (.aload_n 1, 403, 1, 0), 0),
  (403, (.aload_n 0, 404, 0, 0), 0),
  (404, (.iload 4, 406, 4, 0), 0),
  (406, (.iconst (1), 407, 0, 0), 0),
  (407, (.iadd, 408, 0, 0), 0),
  (408, (.iaload, 409, 0, 0), 0),
  (409, (.aload_n 0, 410, 0, 0), 0),
  (410, (.iload 4, 412, 4, 0), 0),
  (412, (.iconst (2), 413, 0, 0), 0),
  (413, (.iadd, 414, 0, 0), 0),
  (414, (.iaload, 415, 0, 0), 0),
  (415, (.invokevirtual 59, 418, 49, 163), 736),
  (418, (.aload_n 2, 419, 2, 0), 0),
  (419, (.aload_n 0, 420, 0, 0), 0),
  (420, (.iload 4, 422, 4, 0), 0),
  (422, (.iconst (1), 423, 0, 0), 0),
  (423, (.iadd, 424, 0, 0), 0),
  (424, (.iaload, 425, 0, 0), 0),
  (425, (.aload_n 0, 426, 0, 0), 0),
  (426, (.iload 4, 428, 4, 0), 0),
  (428, (.iconst (2), 429, 0, 0), 0),
  (429, (.iadd, 430, 0, 0), 0),
  (430, (.iaload, 431, 0, 0), 0),
  (431, (.invokevirtual 62, 434, 78, 355), 1193),
  (434, (.if_icmp .eq (116), 437, 550, 0), 0),
  (437, (.iconst (0), 438, 0, 0), 0),
  (438, (.ireturn, 439, 0, 0), 0),
  (439, (.aload_n 1, 440, 1, 0), 0),
  (440, (.aload_n 0, 441, 0, 0), 0),
  (441, (.iload 4, 443, 4, 0), 0),
  (443, (.iconst (1), 444, 0, 0), 0),
  (444, (.iadd, 445, 0, 0), 0),
  (445, (.iaload, 446, 0, 0), 0),
  (446, (.invokevirtual 63, 449, 117, 162), 744),
  (449, (.aload_n 2, 450, 2, 0), 0),
  (450, (.aload_n 0, 451, 0, 0), 0),
  (451, (.iload 4, 453, 4, 0), 0),
  (453, (.iconst (1), 454, 0, 0), 0),
  (454, (.iadd, 455, 0, 0), 0),
  (455, (.iaload, 456, 0, 0), 0),
  (456, (.invokevirtual 66, 459, 73, 354), 1197),
  (459, (.if_icmp .eq (91), 462, 550, 0), 0),
  (462, (.iconst (0), 463, 0, 0), 0),
  (463, (.ireturn, 464, 0, 0), 0),
  (464, (.aload_n 1, 465, 1, 0), 0),
  (465, (.aload_n 0, 466, 0, 0), 0),
  (466, (.iload 4, 468, 4, 0), 0),
  (468, (.iconst (1), 469, 0, 0), 0),
  (469, (.iadd, 470, 0, 0), 0),
  (470, (.iaload, 471, 0, 0), 0),
  (471, (.aload_n 0, 472, 0, 0), 0),
  (472, (.iload 4, 474, 4, 0), 0),
  (474, (.iconst (2), 475, 0, 0), 0),
  (475, (.iadd, 476, 0, 0), 0),
  (476, (.iaload, 477, 0, 0), 0),
  (477, (.aload_n 0, 478, 0, 0), 0),
  (478, (.iload 4, 480, 4, 0), 0),
  (480, (.iconst (3), 481, 0, 0), 0),
  (481, (.iadd, 482, 0, 0), 0),
  (482, (.iaload, 483, 0, 0), 0),
  (483, (.invokevirtual 67, 486, 48, 164), 748),
  (486, (.aload_n 2, 487, 2, 0), 0),
  (487, (.aload_n 0, 488, 0, 0), 0),
  (488, (.iload 4, 490, 4, 0), 0),
  (490, (.iconst (1), 491, 0, 0), 0),
  (491, (.iadd, 492, 0, 0), 0),
  (492, (.iaload, 493, 0, 0), 0),
  (493, (.aload_n 0, 494, 0, 0), 0),
  (494, (.iload 4, 496, 4, 0), 0),
  (496, (.iconst (2), 497, 0, 0), 0),
  (497, (.iadd, 498, 0, 0), 0),
  (498, (.iaload, 499, 0, 0), 0),
  (499, (.aload_n 0, 500, 0, 0), 0),
  (500, (.iload 4, 502, 4, 0), 0),
  (502, (.iconst (3), 503, 0, 0), 0),
  (503, (.iadd, 504, 0, 0), 0),
  (504, (.iaload, 505, 0, 0), 0),
  (505, (.invokevirtual 71, 508, 72, 356), 1201),
  (508, (.if_icmp .eq (42), 511, 550, 0), 0),
  (511, (.iconst (0), 512, 0, 0), 0),
  (512, (.ireturn, 513, 0, 0), 0),
  (513, (.aload_n 1, 514, 1, 0), 0),
  (514, (.aload_n 0, 515, 0, 0), 0),
  (515, (.iload 4, 517, 4, 0), 0),
  (517, (.iconst (1), 518, 0, 0), 0),
  (518, (.iadd, 519, 0, 0), 0),
  (519, (.iaload, 520, 0, 0), 0),
  (520, (.aload_n 0, 521, 0, 0), 0),
  (521, (.iload 4, 523, 4, 0), 0),
  (523, (.iconst (2), 524, 0, 0), 0),
  (524, (.iadd, 525, 0, 0), 0),
  (525, (.iaload, 526, 0, 0), 0),
  (526, (.invokevirtual 72, 529, 82, 163), 752),
  (529, (.aload_n 2, 530, 2, 0), 0),
  (530, (.aload_n 0, 531, 0, 0), 0),
  (531, (.iload 4, 533, 4, 0), 0),
  (533, (.iconst (1), 534, 0, 0), 0),
  (534, (.iadd, 535, 0, 0), 0),
  (535, (.iaload, 536, 0, 0), 0),
  (536, (.aload_n 0, 537, 0, 0), 0),
  (537, (.iload 4, 539, 4, 0), 0),
  (539, (.iconst (2), 540, 0, 0), 0),
  (540, (.iadd, 541, 0, 0), 0),
  (541, (.iaload, 542, 0, 0), 0),
  (542, (.invokevirtual 75, 545, 70, 355), 1205),
  (545, (.if_icmp .eq (5), 548, 550, 0), 0),
  (548, (.iconst (0), 549, 0, 0), 0),
  (549, (.ireturn, 550, 0, 0), 0),
  (550, (.iinc 4 (5), 553, 4, 0), 0),
  (553, (.goto (-530), 556, 23, 0), 0),
  (556, (.iconst (1), 557, 0, 0), 0),
  (557, (.ireturn, 558, 0, 0), 0)]
def fx_cs : List (List fx_E) := [fx_c0, fx_c1, fx_c2, fx_c3, fx_c4, fx_c5, fx_c6, fx_c7, fx_c8, fx_c9, fx_c10, fx_c11, fx_c12, fx_c13, fx_c14, fx_c15, fx_c16, fx_c17, fx_c18, fx_c19, fx_c20, fx_c21, fx_c22, fx_c23, fx_c24, fx_c25, fx_c26, fx_c27, fx_c28, fx_c29, fx_c30, fx_c31, fx_c32, fx_c33, fx_c34, fx_c35, fx_c36, fx_c37, fx_c38, fx_c39, fx_c40, fx_c41, fx_c42, fx_c43, fx_c44, fx_c45, fx_c46, fx_c47, fx_c48, fx_c49, fx_c50, fx_c51, fx_c52, fx_c53, fx_c54, fx_c55, fx_c56, fx_c57, fx_c58, fx_c59, fx_c60, fx_c61, fx_c62, fx_c63, fx_c64, fx_c65, fx_c66, fx_c67, fx_c68, fx_c69, fx_c70, fx_c71, fx_c72, fx_c73, fx_c74, fx_c75, fx_c76, fx_c77, fx_c78, fx_c79, fx_c80, fx_c81, fx_c82, fx_c83, fx_c84, fx_c85, fx_c86, fx_c87, fx_c88, fx_c89, fx_c90, fx_c91, fx_c92, fx_c93, fx_c94, fx_c95, fx_c96, fx_c97, fx_c98, fx_c99, fx_c100, fx_c101, fx_c102, fx_c103, fx_c104, fx_c105, fx_c106, fx_c107, fx_c108, fx_c109, fx_c110, fx_c111, fx_c112, fx_c113, fx_c114, fx_c115, fx_c116, fx_c117, fx_c118, fx_c119, fx_c120, fx_c121, fx_c122, fx_c123, fx_c124, fx_c125, fx_c126, fx_c127, fx_c128, fx_c129, fx_c130, fx_c131, fx_c132, fx_c133]
def fx_code (mi : Nat) : List fx_E := fx_cs.getD mi []
def fx_look (pc : Nat) : List fx_E → Option fx_I
  | [] => none
  | e :: l => bif e.1 == pc then some e.2.1 else fx_look pc l
def fx_tab (mi pc : Nat) : Option fx_I := fx_look pc (fx_code mi)
end
section
theorem ee0_0 : fx_tab 0 0 = some (.iload_n 1, 1, 1, 0) := by decide +kernel
theorem ee0_1 : fx_tab 0 1 = some (.tableswitch (69) (0) (5) #[(39), (44), (49), (54), (59), (64)], 40, 70, 0) := by decide +kernel
theorem ee0_40 : fx_tab 0 40 = some (.aload_n 0, 41, 0, 0) := by decide +kernel
theorem ee0_41 : fx_tab 0 41 = some (.getfield 74, 44, 12, 0) := by decide +kernel
theorem ee0_44 : fx_tab 0 44 = some (.ireturn, 45, 0, 0) := by decide +kernel
theorem ee0_45 : fx_tab 0 45 = some (.aload_n 0, 46, 0, 0) := by decide +kernel
theorem ee0_46 : fx_tab 0 46 = some (.getfield 77, 49, 13, 0) := by decide +kernel
theorem ee0_49 : fx_tab 0 49 = some (.ireturn, 50, 0, 0) := by decide +kernel
theorem ee0_50 : fx_tab 0 50 = some (.aload_n 0, 51, 0, 0) := by decide +kernel
theorem ee0_51 : fx_tab 0 51 = some (.getfield 80, 54, 14, 0) := by decide +kernel
theorem ee0_54 : fx_tab 0 54 = some (.ireturn, 55, 0, 0) := by decide +kernel
theorem ee0_55 : fx_tab 0 55 = some (.aload_n 0, 56, 0, 0) := by decide +kernel
theorem ee0_56 : fx_tab 0 56 = some (.getfield 65, 59, 9, 0) := by decide +kernel
theorem ee0_59 : fx_tab 0 59 = some (.ireturn, 60, 0, 0) := by decide +kernel
theorem ee0_60 : fx_tab 0 60 = some (.aload_n 0, 61, 0, 0) := by decide +kernel
theorem ee0_61 : fx_tab 0 61 = some (.getfield 83, 64, 15, 0) := by decide +kernel
theorem ee0_64 : fx_tab 0 64 = some (.ireturn, 65, 0, 0) := by decide +kernel
theorem ee0_65 : fx_tab 0 65 = some (.aload_n 0, 66, 0, 0) := by decide +kernel
theorem ee0_66 : fx_tab 0 66 = some (.getfield 68, 69, 10, 0) := by decide +kernel
theorem ee0_69 : fx_tab 0 69 = some (.ireturn, 70, 0, 0) := by decide +kernel
theorem ee0_70 : fx_tab 0 70 = some (.iconst (-1), 71, 0, 0) := by decide +kernel
theorem ee0_71 : fx_tab 0 71 = some (.ireturn, 72, 0, 0) := by decide +kernel
theorem ee1_0 : fx_tab 1 0 = some (.iconst (0), 1, 0, 0) := by decide +kernel
theorem ee1_1 : fx_tab 1 1 = some (.istore_n 1, 2, 1, 0) := by decide +kernel
theorem ee1_2 : fx_tab 1 2 = some (.iload_n 1, 3, 1, 0) := by decide +kernel
theorem ee1_3 : fx_tab 1 3 = some (.aload_n 0, 4, 0, 0) := by decide +kernel
theorem ee1_4 : fx_tab 1 4 = some (.getfield 20, 7, 1, 13) := by decide +kernel
theorem ee1_7 : fx_tab 1 7 = some (.getfield 140, 10, 192, 0) := by decide +kernel
theorem ee1_10 : fx_tab 1 10 = some (.if_icmp .ge (45), 13, 55, 0) := by decide +kernel
theorem ee1_13 : fx_tab 1 13 = some (.aload_n 0, 14, 0, 0) := by decide +kernel
theorem ee1_14 : fx_tab 1 14 = some (.getfield 68, 17, 10, 0) := by decide +kernel
theorem ee1_17 : fx_tab 1 17 = some (.iload_n 1, 18, 1, 0) := by decide +kernel
theorem ee1_18 : fx_tab 1 18 = some (.iadd, 19, 0, 0) := by decide +kernel
theorem ee1_19 : fx_tab 1 19 = some (.aload_n 0, 20, 0, 0) := by decide +kernel
theorem ee1_20 : fx_tab 1 20 = some (.getfield 20, 23, 1, 13) := by decide +kernel
theorem ee1_23 : fx_tab 1 23 = some (.getfield 140, 26, 192, 0) := by decide +kernel
theorem ee1_26 : fx_tab 1 26 = some (.irem, 27, 0, 0) := by decide +kernel
theorem ee1_27 : fx_tab 1 27 = some (.istore_n 2, 28, 2, 0) := by decide +kernel
theorem ee1_28 : fx_tab 1 28 = some (.aload_n 0, 29, 0, 0) := by decide +kernel
theorem ee1_29 : fx_tab 1 29 = some (.getfield 28, 32, 3, 44) := by decide +kernel
theorem ee1_32 : fx_tab 1 32 = some (.iload_n 2, 33, 2, 0) := by decide +kernel
theorem ee1_33 : fx_tab 1 33 = some (.aaload, 34, 0, 0) := by decide +kernel
theorem ee1_34 : fx_tab 1 34 = some (.getfield 101, 37, 257, 21) := by decide +kernel
theorem ee1_37 : fx_tab 1 37 = some (.getfield 225, 40, 707, 0) := by decide +kernel
theorem ee1_40 : fx_tab 1 40 = some (.aload_n 0, 41, 0, 0) := by decide +kernel
theorem ee1_41 : fx_tab 1 41 = some (.getfield 62, 44, 8, 0) := by decide +kernel
theorem ee1_44 : fx_tab 1 44 = some (.if_icmp .lt (5), 47, 49, 0) := by decide +kernel
theorem ee1_47 : fx_tab 1 47 = some (.iload_n 2, 48, 2, 0) := by decide +kernel
theorem ee1_48 : fx_tab 1 48 = some (.ireturn, 49, 0, 0) := by decide +kernel
theorem ee1_49 : fx_tab 1 49 = some (.iinc 1 (1), 52, 1, 0) := by decide +kernel
theorem ee1_52 : fx_tab 1 52 = some (.goto (-50), 55, 2, 0) := by decide +kernel
theorem ee1_55 : fx_tab 1 55 = some (.iconst (-1), 56, 0, 0) := by decide +kernel
theorem ee1_56 : fx_tab 1 56 = some (.ireturn, 57, 0, 0) := by decide +kernel
theorem ee2_0 : fx_tab 2 0 = some (.aload_n 0, 1, 0, 0) := by decide +kernel
theorem ee2_1 : fx_tab 2 1 = some (.getfield 9, 4, 193, 70) := by decide +kernel
theorem ee2_4 : fx_tab 2 4 = some (.iload_n 1, 5, 1, 0) := by decide +kernel
theorem ee2_5 : fx_tab 2 5 = some (.iconst (4), 6, 0, 0) := by decide +kernel
theorem ee2_6 : fx_tab 2 6 = some (.imul, 7, 0, 0) := by decide +kernel
theorem ee2_7 : fx_tab 2 7 = some (.iload_n 2, 8, 2, 0) := by decide +kernel
theorem ee2_8 : fx_tab 2 8 = some (.iadd, 9, 0, 0) := by decide +kernel
theorem ee2_9 : fx_tab 2 9 = some (.iaload, 10, 0, 0) := by decide +kernel
theorem ee2_10 : fx_tab 2 10 = some (.ireturn, 11, 0, 0) := by decide +kernel
theorem ee3_0 : fx_tab 3 0 = some (.iload_n 1, 1, 1, 0) := by decide +kernel
theorem ee3_1 : fx_tab 3 1 = some (.bipush (64), 3, 0, 0) := by decide +kernel
theorem ee3_3 : fx_tab 3 3 = some (.imul, 4, 0, 0) := by decide +kernel
theorem ee3_4 : fx_tab 3 4 = some (.istore_n 2, 5, 2, 0) := by decide +kernel
theorem ee3_5 : fx_tab 3 5 = some (.iconst (0), 6, 0, 0) := by decide +kernel
theorem ee3_6 : fx_tab 3 6 = some (.istore_n 3, 7, 3, 0) := by decide +kernel
theorem ee3_7 : fx_tab 3 7 = some (.iload_n 3, 8, 3, 0) := by decide +kernel
theorem ee3_8 : fx_tab 3 8 = some (.aload_n 0, 9, 0, 0) := by decide +kernel
theorem ee3_9 : fx_tab 3 9 = some (.getfield 28, 12, 192, 0) := by decide +kernel
theorem ee3_12 : fx_tab 3 12 = some (.if_icmp .ge (18), 15, 30, 0) := by decide +kernel
theorem ee3_15 : fx_tab 3 15 = some (.aload_n 0, 16, 0, 0) := by decide +kernel
theorem ee3_16 : fx_tab 3 16 = some (.getfield 19, 19, 195, 70) := by decide +kernel
theorem ee3_19 : fx_tab 3 19 = some (.iload_n 2, 20, 2, 0) := by decide +kernel
theorem ee3_20 : fx_tab 3 20 = some (.iload_n 3, 21, 3, 0) := by decide +kernel
theorem ee3_21 : fx_tab 3 21 = some (.iadd, 22, 0, 0) := by decide +kernel
theorem ee3_22 : fx_tab 3 22 = some (.iconst (-1), 23, 0, 0) := by decide +kernel
theorem ee3_23 : fx_tab 3 23 = some (.iastore, 24, 0, 0) := by decide +kernel
theorem ee3_24 : fx_tab 3 24 = some (.iinc 3 (1), 27, 3, 0) := by decide +kernel
theorem ee3_27 : fx_tab 3 27 = some (.goto (-20), 30, 7, 0) := by decide +kernel
theorem ee3_30 : fx_tab 3 30 = some (.aload_n 0, 31, 0, 0) := by decide +kernel
theorem ee3_31 : fx_tab 3 31 = some (.getfield 19, 34, 195, 70) := by decide +kernel
theorem ee3_34 : fx_tab 3 34 = some (.iload_n 2, 35, 2, 0) := by decide +kernel
theorem ee3_35 : fx_tab 3 35 = some (.iload_n 1, 36, 1, 0) := by decide +kernel
theorem ee3_36 : fx_tab 3 36 = some (.iadd, 37, 0, 0) := by decide +kernel
theorem ee3_37 : fx_tab 3 37 = some (.iconst (0), 38, 0, 0) := by decide +kernel
theorem ee3_38 : fx_tab 3 38 = some (.iastore, 39, 0, 0) := by decide +kernel
theorem ee3_39 : fx_tab 3 39 = some (.aload_n 0, 40, 0, 0) := by decide +kernel
theorem ee3_40 : fx_tab 3 40 = some (.getfield 25, 43, 197, 70) := by decide +kernel
theorem ee3_43 : fx_tab 3 43 = some (.iconst (0), 44, 0, 0) := by decide +kernel
theorem ee3_44 : fx_tab 3 44 = some (.iload_n 1, 45, 1, 0) := by decide +kernel
theorem ee3_45 : fx_tab 3 45 = some (.iastore, 46, 0, 0) := by decide +kernel
theorem ee3_46 : fx_tab 3 46 = some (.iconst (1), 47, 0, 0) := by decide +kernel
theorem ee3_47 : fx_tab 3 47 = some (.istore_n 3, 48, 3, 0) := by decide +kernel
theorem ee3_48 : fx_tab 3 48 = some (.iconst (0), 49, 0, 0) := by decide +kernel
theorem ee3_49 : fx_tab 3 49 = some (.istore 4, 51, 4, 0) := by decide +kernel
theorem ee3_51 : fx_tab 3 51 = some (.iload 4, 53, 4, 0) := by decide +kernel
theorem ee3_53 : fx_tab 3 53 = some (.iload_n 3, 54, 3, 0) := by decide +kernel
theorem ee3_54 : fx_tab 3 54 = some (.if_icmp .ge (115), 57, 169, 0) := by decide +kernel
theorem ee3_57 : fx_tab 3 57 = some (.iload 4, 59, 4, 0) := by decide +kernel
theorem ee3_59 : fx_tab 3 59 = some (.aload_n 0, 60, 0, 0) := by decide +kernel
theorem ee3_60 : fx_tab 3 60 = some (.getfield 28, 63, 192, 0) := by decide +kernel
theorem ee3_63 : fx_tab 3 63 = some (.if_icmp .ge (106), 66, 169, 0) := by decide +kernel
theorem ee3_66 : fx_tab 3 66 = some (.aload_n 0, 67, 0, 0) := by decide +kernel
theorem ee3_67 : fx_tab 3 67 = some (.getfield 25, 70, 197, 70) := by decide +kernel
theorem ee3_70 : fx_tab 3 70 = some (.iload 4, 72, 4, 0) := by decide +kernel
theorem ee3_72 : fx_tab 3 72 = some (.iaload, 73, 0, 0) := by decide +kernel
theorem ee3_73 : fx_tab 3 73 = some (.istore 5, 75, 5, 0) := by decide +kernel
theorem ee3_75 : fx_tab 3 75 = some (.iconst (0), 76, 0, 0) := by decide +kernel
theorem ee3_76 : fx_tab 3 76 = some (.istore 6, 78, 6, 0) := by decide +kernel
theorem ee3_78 : fx_tab 3 78 = some (.iload 6, 80, 6, 0) := by decide +kernel
theorem ee3_80 : fx_tab 3 80 = some (.iconst (4), 81, 0, 0) := by decide +kernel
theorem ee3_81 : fx_tab 3 81 = some (.if_icmp .ge (82), 84, 163, 0) := by decide +kernel
theorem ee3_84 : fx_tab 3 84 = some (.aload_n 0, 85, 0, 0) := by decide +kernel
theorem ee3_85 : fx_tab 3 85 = some (.getfield 9, 88, 193, 70) := by decide +kernel
theorem ee3_88 : fx_tab 3 88 = some (.iload 5, 90, 5, 0) := by decide +kernel
theorem ee3_90 : fx_tab 3 90 = some (.iconst (4), 91, 0, 0) := by decide +kernel
theorem ee3_91 : fx_tab 3 91 = some (.imul, 92, 0, 0) := by decide +kernel
theorem ee3_92 : fx_tab 3 92 = some (.iload 6, 94, 6, 0) := by decide +kernel
theorem ee3_94 : fx_tab 3 94 = some (.iadd, 95, 0, 0) := by decide +kernel
theorem ee3_95 : fx_tab 3 95 = some (.iaload, 96, 0, 0) := by decide +kernel
theorem ee3_96 : fx_tab 3 96 = some (.istore 7, 98, 7, 0) := by decide +kernel
theorem ee3_98 : fx_tab 3 98 = some (.aload_n 0, 99, 0, 0) := by decide +kernel
theorem ee3_99 : fx_tab 3 99 = some (.getfield 15, 102, 194, 71) := by decide +kernel
theorem ee3_102 : fx_tab 3 102 = some (.iload 5, 104, 5, 0) := by decide +kernel
theorem ee3_104 : fx_tab 3 104 = some (.iconst (4), 105, 0, 0) := by decide +kernel
theorem ee3_105 : fx_tab 3 105 = some (.imul, 106, 0, 0) := by decide +kernel
theorem ee3_106 : fx_tab 3 106 = some (.iload 6, 108, 6, 0) := by decide +kernel
theorem ee3_108 : fx_tab 3 108 = some (.iadd, 109, 0, 0) := by decide +kernel
theorem ee3_109 : fx_tab 3 109 = some (.baload, 110, 0, 0) := by decide +kernel
theorem ee3_110 : fx_tab 3 110 = some (.ifCond .eq (47), 113, 157, 0) := by decide +kernel
theorem ee3_113 : fx_tab 3 113 = some (.aload_n 0, 114, 0, 0) := by decide +kernel
theorem ee3_114 : fx_tab 3 114 = some (.getfield 19, 117, 195, 70) := by decide +kernel
theorem ee3_117 : fx_tab 3 117 = some (.iload_n 2, 118, 2, 0) := by decide +kernel
theorem ee3_118 : fx_tab 3 118 = some (.iload 7, 120, 7, 0) := by decide +kernel
theorem ee3_120 : fx_tab 3 120 = some (.iadd, 121, 0, 0) := by decide +kernel
theorem ee3_121 : fx_tab 3 121 = some (.iaload, 122, 0, 0) := by decide +kernel
theorem ee3_122 : fx_tab 3 122 = some (.iconst (-1), 123, 0, 0) := by decide +kernel
theorem ee3_123 : fx_tab 3 123 = some (.if_icmp .ne (34), 126, 157, 0) := by decide +kernel
theorem ee3_126 : fx_tab 3 126 = some (.aload_n 0, 127, 0, 0) := by decide +kernel
theorem ee3_127 : fx_tab 3 127 = some (.getfield 19, 130, 195, 70) := by decide +kernel
theorem ee3_130 : fx_tab 3 130 = some (.iload_n 2, 131, 2, 0) := by decide +kernel
theorem ee3_131 : fx_tab 3 131 = some (.iload 7, 133, 7, 0) := by decide +kernel
theorem ee3_133 : fx_tab 3 133 = some (.iadd, 134, 0, 0) := by decide +kernel
theorem ee3_134 : fx_tab 3 134 = some (.aload_n 0, 135, 0, 0) := by decide +kernel
theorem ee3_135 : fx_tab 3 135 = some (.getfield 19, 138, 195, 70) := by decide +kernel
theorem ee3_138 : fx_tab 3 138 = some (.iload_n 2, 139, 2, 0) := by decide +kernel
theorem ee3_139 : fx_tab 3 139 = some (.iload 5, 141, 5, 0) := by decide +kernel
theorem ee3_141 : fx_tab 3 141 = some (.iadd, 142, 0, 0) := by decide +kernel
theorem ee3_142 : fx_tab 3 142 = some (.iaload, 143, 0, 0) := by decide +kernel
theorem ee3_143 : fx_tab 3 143 = some (.iconst (1), 144, 0, 0) := by decide +kernel
theorem ee3_144 : fx_tab 3 144 = some (.iadd, 145, 0, 0) := by decide +kernel
theorem ee3_145 : fx_tab 3 145 = some (.iastore, 146, 0, 0) := by decide +kernel
theorem ee3_146 : fx_tab 3 146 = some (.aload_n 0, 147, 0, 0) := by decide +kernel
theorem ee3_147 : fx_tab 3 147 = some (.getfield 25, 150, 197, 70) := by decide +kernel
theorem ee3_150 : fx_tab 3 150 = some (.iload_n 3, 151, 3, 0) := by decide +kernel
theorem ee3_151 : fx_tab 3 151 = some (.iload 7, 153, 7, 0) := by decide +kernel
theorem ee3_153 : fx_tab 3 153 = some (.iastore, 154, 0, 0) := by decide +kernel
theorem ee3_154 : fx_tab 3 154 = some (.iinc 3 (1), 157, 3, 0) := by decide +kernel
theorem ee3_157 : fx_tab 3 157 = some (.iinc 6 (1), 160, 6, 0) := by decide +kernel
theorem ee3_160 : fx_tab 3 160 = some (.goto (-82), 163, 78, 0) := by decide +kernel
theorem ee3_163 : fx_tab 3 163 = some (.iinc 4 (1), 166, 4, 0) := by decide +kernel
theorem ee3_166 : fx_tab 3 166 = some (.goto (-115), 169, 51, 0) := by decide +kernel
theorem ee3_169 : fx_tab 3 169 = some (.aload_n 0, 170, 0, 0) := by decide +kernel
theorem ee3_170 : fx_tab 3 170 = some (.getfield 22, 173, 196, 71) := by decide +kernel
theorem ee3_173 : fx_tab 3 173 = some (.iload_n 1, 174, 1, 0) := by decide +kernel
theorem ee3_174 : fx_tab 3 174 = some (.iconst (1), 175, 0, 0) := by decide +kernel
theorem ee3_175 : fx_tab 3 175 = some (.bastore, 176, 0, 0) := by decide +kernel
theorem ee3_176 : fx_tab 3 176 = some (.return_, 177, 0, 0) := by decide +kernel
theorem ee4_0 : fx_tab 4 0 = some (.iconst (0), 1, 0, 0) := by decide +kernel
theorem ee4_1 : fx_tab 4 1 = some (.istore_n 1, 2, 1, 0) := by decide +kernel
theorem ee4_2 : fx_tab 4 2 = some (.iload_n 1, 3, 1, 0) := by decide +kernel
theorem ee4_3 : fx_tab 4 3 = some (.aload_n 0, 4, 0, 0) := by decide +kernel
theorem ee4_4 : fx_tab 4 4 = some (.getfield 28, 7, 192, 0) := by decide +kernel
theorem ee4_7 : fx_tab 4 7 = some (.if_icmp .ge (16), 10, 23, 0) := by decide +kernel
theorem ee4_10 : fx_tab 4 10 = some (.aload_n 0, 11, 0, 0) := by decide +kernel
theorem ee4_11 : fx_tab 4 11 = some (.getfield 22, 14, 196, 71) := by decide +kernel
theorem ee4_14 : fx_tab 4 14 = some (.iload_n 1, 15, 1, 0) := by decide +kernel
theorem ee4_15 : fx_tab 4 15 = some (.iconst (0), 16, 0, 0) := by decide +kernel
theorem ee4_16 : fx_tab 4 16 = some (.bastore, 17, 0, 0) := by decide +kernel
theorem ee4_17 : fx_tab 4 17 = some (.iinc 1 (1), 20, 1, 0) := by decide +kernel
theorem ee4_20 : fx_tab 4 20 = some (.goto (-18), 23, 2, 0) := by decide +kernel
theorem ee4_23 : fx_tab 4 23 = some (.aload_n 0, 24, 0, 0) := by decide +kernel
theorem ee4_24 : fx_tab 4 24 = some (.iconst (-1), 25, 0, 0) := by decide +kernel
theorem ee4_25 : fx_tab 4 25 = some (.putfield 61, 28, 198, 0) := by decide +kernel
theorem ee4_28 : fx_tab 4 28 = some (.return_, 29, 0, 0) := by decide +kernel
theorem ee5_0 : fx_tab 5 0 = some (.iload_n 1, 1, 1, 0) := by decide +kernel
theorem ee5_1 : fx_tab 5 1 = some (.ifCond .lt (15), 4, 16, 0) := by decide +kernel
theorem ee5_4 : fx_tab 5 4 = some (.iload_n 1, 5, 1, 0) := by decide +kernel
theorem ee5_5 : fx_tab 5 5 = some (.aload_n 0, 6, 0, 0) := by decide +kernel
theorem ee5_6 : fx_tab 5 6 = some (.getfield 28, 9, 192, 0) := by decide +kernel
theorem ee5_9 : fx_tab 5 9 = some (.if_icmp .ge (7), 12, 16, 0) := by decide +kernel
theorem ee5_12 : fx_tab 5 12 = some (.iconst (1), 13, 0, 0) := by decide +kernel
theorem ee5_13 : fx_tab 5 13 = some (.goto (4), 16, 17, 0) := by decide +kernel
theorem ee5_16 : fx_tab 5 16 = some (.iconst (0), 17, 0, 0) := by decide +kernel
theorem ee5_17 : fx_tab 5 17 = some (.ireturn, 18, 0, 0) := by decide +kernel
theorem ee6_0 : fx_tab 6 0 = some (.aload_n 0, 1, 0, 0) := by decide +kernel
theorem ee6_1 : fx_tab 6 1 = some (.getfield 15, 4, 194, 71) := by decide +kernel
theorem ee6_4 : fx_tab 6 4 = some (.iload_n 1, 5, 1, 0) := by decide +kernel
theorem ee6_5 : fx_tab 6 5 = some (.iconst (4), 6, 0, 0) := by decide +kernel
theorem ee6_6 : fx_tab 6 6 = some (.imul, 7, 0, 0) := by decide +kernel
theorem ee6_7 : fx_tab 6 7 = some (.iload_n 2, 8, 2, 0) := by decide +kernel
theorem ee6_8 : fx_tab 6 8 = some (.iadd, 9, 0, 0) := by decide +kernel
theorem ee6_9 : fx_tab 6 9 = some (.baload, 10, 0, 0) := by decide +kernel
theorem ee6_10 : fx_tab 6 10 = some (.ireturn, 11, 0, 0) := by decide +kernel
theorem ee7_0 : fx_tab 7 0 = some (.iload_n 0, 1, 0, 0) := by decide +kernel
theorem ee7_1 : fx_tab 7 1 = some (.iconst (2), 2, 0, 0) := by decide +kernel
theorem ee7_2 : fx_tab 7 2 = some (.irem, 3, 0, 0) := by decide +kernel
theorem ee7_3 : fx_tab 7 3 = some (.ifCond .ne (9), 6, 12, 0) := by decide +kernel
theorem ee7_6 : fx_tab 7 6 = some (.iload_n 0, 7, 0, 0) := by decide +kernel
theorem ee7_7 : fx_tab 7 7 = some (.iconst (1), 8, 0, 0) := by decide +kernel
theorem ee7_8 : fx_tab 7 8 = some (.iadd, 9, 0, 0) := by decide +kernel
theorem ee7_9 : fx_tab 7 9 = some (.goto (6), 12, 15, 0) := by decide +kernel
theorem ee7_12 : fx_tab 7 12 = some (.iload_n 0, 13, 0, 0) := by decide +kernel
theorem ee7_13 : fx_tab 7 13 = some (.iconst (1), 14, 0, 0) := by decide +kernel
theorem ee7_14 : fx_tab 7 14 = some (.isub, 15, 0, 0) := by decide +kernel
theorem ee7_15 : fx_tab 7 15 = some (.ireturn, 16, 0, 0) := by decide +kernel
theorem ee8_0 : fx_tab 8 0 = some (.iconst (0), 1, 0, 0) := by decide +kernel
theorem ee8_1 : fx_tab 8 1 = some (.istore_n 2, 2, 2, 0) := by decide +kernel
theorem ee8_2 : fx_tab 8 2 = some (.iload_n 2, 3, 2, 0) := by decide +kernel
theorem ee8_3 : fx_tab 8 3 = some (.iconst (4), 4, 0, 0) := by decide +kernel
theorem ee8_4 : fx_tab 8 4 = some (.if_icmp .ge (26), 7, 30, 0) := by decide +kernel
theorem ee8_7 : fx_tab 8 7 = some (.aload_n 0, 8, 0, 0) := by decide +kernel
theorem ee8_8 : fx_tab 8 8 = some (.getfield 27, 11, 259, 42) := by decide +kernel
theorem ee8_11 : fx_tab 8 11 = some (.iload_n 2, 12, 2, 0) := by decide +kernel
theorem ee8_12 : fx_tab 8 12 = some (.aaload, 13, 0, 0) := by decide +kernel
theorem ee8_13 : fx_tab 8 13 = some (.ifnonnull (11), 16, 24, 0) := by decide +kernel
theorem ee8_16 : fx_tab 8 16 = some (.aload_n 0, 17, 0, 0) := by decide +kernel
theorem ee8_17 : fx_tab 8 17 = some (.getfield 27, 20, 259, 42) := by decide +kernel
theorem ee8_20 : fx_tab 8 20 = some (.iload_n 2, 21, 2, 0) := by decide +kernel
theorem ee8_21 : fx_tab 8 21 = some (.aload_n 1, 22, 1, 0) := by decide +kernel
theorem ee8_22 : fx_tab 8 22 = some (.aastore, 23, 0, 0) := by decide +kernel
theorem ee8_23 : fx_tab 8 23 = some (.return_, 24, 0, 0) := by decide +kernel
theorem ee8_24 : fx_tab 8 24 = some (.iinc 2 (1), 27, 2, 0) := by decide +kernel
theorem ee8_27 : fx_tab 8 27 = some (.goto (-25), 30, 2, 0) := by decide +kernel
theorem ee8_30 : fx_tab 8 30 = some (.return_, 31, 0, 0) := by decide +kernel
theorem ee9_0 : fx_tab 9 0 = some (.aload_n 0, 1, 0, 0) := by decide +kernel
theorem ee9_1 : fx_tab 9 1 = some (.getfield 27, 4, 259, 42) := by decide +kernel
theorem ee9_4 : fx_tab 9 4 = some (.astore_n 1, 5, 1, 0) := by decide +kernel
theorem ee9_5 : fx_tab 9 5 = some (.aload_n 0, 6, 0, 0) := by decide +kernel
theorem ee9_6 : fx_tab 9 6 = some (.aload_n 0, 7, 0, 0) := by decide +kernel
theorem ee9_7 : fx_tab 9 7 = some (.getfield 31, 10, 260, 42) := by decide +kernel
theorem ee9_10 : fx_tab 9 10 = some (.putfield 27, 13, 259, 42) := by decide +kernel
theorem ee9_13 : fx_tab 9 13 = some (.aload_n 0, 14, 0, 0) := by decide +kernel
theorem ee9_14 : fx_tab 9 14 = some (.aload_n 1, 15, 1, 0) := by decide +kernel
theorem ee9_15 : fx_tab 9 15 = some (.putfield 31, 18, 260, 42) := by decide +kernel
theorem ee9_18 : fx_tab 9 18 = some (.iconst (0), 19, 0, 0) := by decide +kernel
theorem ee9_19 : fx_tab 9 19 = some (.istore_n 2, 20, 2, 0) := by decide +kernel
theorem ee9_20 : fx_tab 9 20 = some (.iload_n 2, 21, 2, 0) := by decide +kernel
theorem ee9_21 : fx_tab 9 21 = some (.iconst (4), 22, 0, 0) := by decide +kernel
theorem ee9_22 : fx_tab 9 22 = some (.if_icmp .ge (13), 25, 35, 0) := by decide +kernel
theorem ee9_25 : fx_tab 9 25 = some (.aload_n 1, 26, 1, 0) := by decide +kernel
theorem ee9_26 : fx_tab 9 26 = some (.iload_n 2, 27, 2, 0) := by decide +kernel
theorem ee9_27 : fx_tab 9 27 = some (.aconst_null, 28, 0, 0) := by decide +kernel
theorem ee9_28 : fx_tab 9 28 = some (.aastore, 29, 0, 0) := by decide +kernel
theorem ee9_29 : fx_tab 9 29 = some (.iinc 2 (1), 32, 2, 0) := by decide +kernel
theorem ee9_32 : fx_tab 9 32 = some (.goto (-12), 35, 20, 0) := by decide +kernel
theorem ee9_35 : fx_tab 9 35 = some (.return_, 36, 0, 0) := by decide +kernel
theorem ee10_0 : fx_tab 10 0 = some (.iconst (0), 1, 0, 0) := by decide +kernel
theorem ee10_1 : fx_tab 10 1 = some (.istore_n 1, 2, 1, 0) := by decide +kernel
theorem ee10_2 : fx_tab 10 2 = some (.iconst (0), 3, 0, 0) := by decide +kernel
theorem ee10_3 : fx_tab 10 3 = some (.istore_n 2, 4, 2, 0) := by decide +kernel
theorem ee10_4 : fx_tab 10 4 = some (.iload_n 2, 5, 2, 0) := by decide +kernel
theorem ee10_5 : fx_tab 10 5 = some (.iconst (4), 6, 0, 0) := by decide +kernel
theorem ee10_6 : fx_tab 10 6 = some (.if_icmp .ge (21), 9, 27, 0) := by decide +kernel
theorem ee10_9 : fx_tab 10 9 = some (.aload_n 0, 10, 0, 0) := by decide +kernel
theorem ee10_10 : fx_tab 10 10 = some (.getfield 27, 13, 259, 42) := by decide +kernel
theorem ee10_13 : fx_tab 10 13 = some (.iload_n 2, 14, 2, 0) := by decide +kernel
theorem ee10_14 : fx_tab 10 14 = some (.aaload, 15, 0, 0) := by decide +kernel
theorem ee10_15 : fx_tab 10 15 = some (.ifnull (6), 18, 21, 0) := by decide +kernel
theorem ee10_18 : fx_tab 10 18 = some (.iinc 1 (1), 21, 1, 0) := by decide +kernel
theorem ee10_21 : fx_tab 10 21 = some (.iinc 2 (1), 24, 2, 0) := by decide +kernel
theorem ee10_24 : fx_tab 10 24 = some (.goto (-20), 27, 4, 0) := by decide +kernel
theorem ee10_27 : fx_tab 10 27 = some (.iload_n 1, 28, 1, 0) := by decide +kernel
theorem ee10_28 : fx_tab 10 28 = some (.ireturn, 29, 0, 0) := by decide +kernel
theorem ee11_0 : fx_tab 11 0 = some (.aload_n 0, 1, 0, 0) := by decide +kernel
theorem ee11_1 : fx_tab 11 1 = some (.aconst_null, 2, 0, 0) := by decide +kernel
theorem ee11_2 : fx_tab 11 2 = some (.putfield 7, 5, 384, 15) := by decide +kernel
theorem ee11_5 : fx_tab 11 5 = some (.return_, 6, 0, 0) := by decide +kernel
theorem ee12_0 : fx_tab 12 0 = some (.aload_n 0, 1, 0, 0) := by decide +kernel
theorem ee12_1 : fx_tab 12 1 = some (.getfield 7, 4, 384, 15) := by decide +kernel
theorem ee12_4 : fx_tab 12 4 = some (.ifnull (21), 7, 25, 0) := by decide +kernel
theorem ee12_7 : fx_tab 12 7 = some (.aload_n 0, 8, 0, 0) := by decide +kernel
theorem ee12_8 : fx_tab 12 8 = some (.getfield 17, 11, 386, 0) := by decide +kernel
theorem ee12_11 : fx_tab 12 11 = some (.aload_n 0, 12, 0, 0) := by decide +kernel
theorem ee12_12 : fx_tab 12 12 = some (.getfield 7, 15, 384, 15) := by decide +kernel
theorem ee12_15 : fx_tab 12 15 = some (.getfield 20, 18, 322, 0) := by decide +kernel
theorem ee12_18 : fx_tab 12 18 = some (.if_icmp .lt (7), 21, 25, 0) := by decide +kernel
theorem ee12_21 : fx_tab 12 21 = some (.iconst (1), 22, 0, 0) := by decide +kernel
theorem ee12_22 : fx_tab 12 22 = some (.goto (4), 25, 26, 0) := by decide +kernel
theorem ee12_25 : fx_tab 12 25 = some (.iconst (0), 26, 0, 0) := by decide +kernel
theorem ee12_26 : fx_tab 12 26 = some (.ireturn, 27, 0, 0) := by decide +kernel
theorem ee13_0 : fx_tab 13 0 = some (.aload_n 0, 1, 0, 0) := by decide +kernel
theorem ee13_1 : fx_tab 13 1 = some (.aload_n 1, 2, 1, 0) := by decide +kernel
theorem ee13_2 : fx_tab 13 2 = some (.putfield 7, 5, 384, 15) := by decide +kernel
theorem ee13_5 : fx_tab 13 5 = some (.aload_n 0, 6, 0, 0) := by decide +kernel
theorem ee13_6 : fx_tab 13 6 = some (.iload_n 2, 7, 2, 0) := by decide +kernel
theorem ee13_7 : fx_tab 13 7 = some (.putfield 13, 10, 385, 0) := by decide +kernel
theorem ee13_10 : fx_tab 13 10 = some (.aload_n 0, 11, 0, 0) := by decide +kernel
theorem ee13_11 : fx_tab 13 11 = some (.iconst (0), 12, 0, 0) := by decide +kernel
theorem ee13_12 : fx_tab 13 12 = some (.putfield 17, 15, 386, 0) := by decide +kernel
theorem ee13_15 : fx_tab 13 15 = some (.return_, 16, 0, 0) := by decide +kernel
theorem ee14_0 : fx_tab 14 0 = some (.aload_n 1, 1, 1, 0) := by decide +kernel
theorem ee14_1 : fx_tab 14 1 = some (.getfield 46, 4, 129, 0) := by decide +kernel
theorem ee14_4 : fx_tab 14 4 = some (.aload_n 0, 5, 0, 0) := by decide +kernel
theorem ee14_5 : fx_tab 14 5 = some (.getfield 9, 8, 450, 0) := by decide +kernel
theorem ee14_8 : fx_tab 14 8 = some (.if_icmp .ne (35), 11, 43, 0) := by decide +kernel
theorem ee14_11 : fx_tab 14 11 = some (.aload_n 1, 12, 1, 0) := by decide +kernel
theorem ee14_12 : fx_tab 14 12 = some (.getfield 34, 15, 128, 15) := by decide +kernel
theorem ee14_15 : fx_tab 14 15 = some (.getfield 43, 18, 324, 0) := by decide +kernel
theorem ee14_18 : fx_tab 14 18 = some (.aload_n 0, 19, 0, 0) := by decide +kernel
theorem ee14_19 : fx_tab 14 19 = some (.getfield 15, 22, 449, 0) := by decide +kernel
theorem ee14_22 : fx_tab 14 22 = some (.if_icmp .ne (21), 25, 43, 0) := by decide +kernel
theorem ee14_25 : fx_tab 14 25 = some (.aload_n 1, 26, 1, 0) := by decide +kernel
theorem ee14_26 : fx_tab 14 26 = some (.getfield 34, 29, 128, 15) := by decide +kernel
theorem ee14_29 : fx_tab 14 29 = some (.getfield 38, 32, 320, 0) := by decide +kernel
theorem ee14_32 : fx_tab 14 32 = some (.aload_n 0, 33, 0, 0) := by decide +kernel
theorem ee14_33 : fx_tab 14 33 = some (.getfield 18, 36, 448, 0) := by decide +kernel
theorem ee14_36 : fx_tab 14 36 = some (.if_icmp .ne (7), 39, 43, 0) := by decide +kernel
theorem ee14_39 : fx_tab 14 39 = some (.iconst (1), 40, 0, 0) := by decide +kernel
theorem ee14_40 : fx_tab 14 40 = some (.goto (4), 43, 44, 0) := by decide +kernel
theorem ee14_43 : fx_tab 14 43 = some (.iconst (0), 44, 0, 0) := by decide +kernel
theorem ee14_44 : fx_tab 14 44 = some (.ireturn, 45, 0, 0) := by decide +kernel
theorem ee15_0 : fx_tab 15 0 = some (.aload_n 0, 1, 0, 0) := by decide +kernel
theorem ee15_1 : fx_tab 15 1 = some (.iload_n 1, 2, 1, 0) := by decide +kernel
theorem ee15_2 : fx_tab 15 2 = some (.bipush (8), 4, 0, 0) := by decide +kernel
theorem ee15_4 : fx_tab 15 4 = some (.irem, 5, 0, 0) := by decide +kernel
theorem ee15_5 : fx_tab 15 5 = some (.putfield 9, 8, 450, 0) := by decide +kernel
theorem ee15_8 : fx_tab 15 8 = some (.aload_n 0, 9, 0, 0) := by decide +kernel
theorem ee15_9 : fx_tab 15 9 = some (.iload_n 1, 10, 1, 0) := by decide +kernel
theorem ee15_10 : fx_tab 15 10 = some (.bipush (8), 12, 0, 0) := by decide +kernel
theorem ee15_12 : fx_tab 15 12 = some (.idiv, 13, 0, 0) := by decide +kernel
theorem ee15_13 : fx_tab 15 13 = some (.bipush (8), 15, 0, 0) := by decide +kernel
theorem ee15_15 : fx_tab 15 15 = some (.irem, 16, 0, 0) := by decide +kernel
theorem ee15_16 : fx_tab 15 16 = some (.putfield 15, 19, 449, 0) := by decide +kernel
theorem ee15_19 : fx_tab 15 19 = some (.aload_n 0, 20, 0, 0) := by decide +kernel
theorem ee15_20 : fx_tab 15 20 = some (.iload_n 1, 21, 1, 0) := by decide +kernel
theorem ee15_21 : fx_tab 15 21 = some (.bipush (8), 23, 0, 0) := by decide +kernel
theorem ee15_23 : fx_tab 15 23 = some (.idiv, 24, 0, 0) := by decide +kernel
theorem ee15_24 : fx_tab 15 24 = some (.bipush (8), 26, 0, 0) := by decide +kernel
theorem ee15_26 : fx_tab 15 26 = some (.idiv, 27, 0, 0) := by decide +kernel
theorem ee15_27 : fx_tab 15 27 = some (.putfield 18, 30, 448, 0) := by decide +kernel
theorem ee15_30 : fx_tab 15 30 = some (.return_, 31, 0, 0) := by decide +kernel
theorem ee16_0 : fx_tab 16 0 = some (.aload_n 0, 1, 0, 0) := by decide +kernel
theorem ee16_1 : fx_tab 16 1 = some (.getfield 31, 4, 517, 41) := by decide +kernel
theorem ee16_4 : fx_tab 16 4 = some (.iconst (0), 5, 0, 0) := by decide +kernel
theorem ee16_5 : fx_tab 16 5 = some (.aaload, 6, 0, 0) := by decide +kernel
theorem ee16_6 : fx_tab 16 6 = some (.astore_n 1, 7, 1, 0) := by decide +kernel
theorem ee16_7 : fx_tab 16 7 = some (.iconst (1), 8, 0, 0) := by decide +kernel
theorem ee16_8 : fx_tab 16 8 = some (.istore_n 2, 9, 2, 0) := by decide +kernel
theorem ee16_9 : fx_tab 16 9 = some (.iload_n 2, 10, 2, 0) := by decide +kernel
theorem ee16_10 : fx_tab 16 10 = some (.iconst (4), 11, 0, 0) := by decide +kernel
theorem ee16_11 : fx_tab 16 11 = some (.if_icmp .ge (23), 14, 34, 0) := by decide +kernel
theorem ee16_14 : fx_tab 16 14 = some (.aload_n 0, 15, 0, 0) := by decide +kernel
theorem ee16_15 : fx_tab 16 15 = some (.getfield 31, 18, 517, 41) := by decide +kernel
theorem ee16_18 : fx_tab 16 18 = some (.iload_n 2, 19, 2, 0) := by decide +kernel
theorem ee16_19 : fx_tab 16 19 = some (.iconst (1), 20, 0, 0) := by decide +kernel
theorem ee16_20 : fx_tab 16 20 = some (.isub, 21, 0, 0) := by decide +kernel
theorem ee16_21 : fx_tab 16 21 = some (.aload_n 0, 22, 0, 0) := by decide +kernel
theorem ee16_22 : fx_tab 16 22 = some (.getfield 31, 25, 517, 41) := by decide +kernel
theorem ee16_25 : fx_tab 16 25 = some (.iload_n 2, 26, 2, 0) := by decide +kernel
theorem ee16_26 : fx_tab 16 26 = some (.aaload, 27, 0, 0) := by decide +kernel
theorem ee16_27 : fx_tab 16 27 = some (.aastore, 28, 0, 0) := by decide +kernel
theorem ee16_28 : fx_tab 16 28 = some (.iinc 2 (1), 31, 2, 0) := by decide +kernel
theorem ee16_31 : fx_tab 16 31 = some (.goto (-22), 34, 9, 0) := by decide +kernel
theorem ee16_34 : fx_tab 16 34 = some (.aload_n 0, 35, 0, 0) := by decide +kernel
theorem ee16_35 : fx_tab 16 35 = some (.getfield 31, 38, 517, 41) := by decide +kernel
theorem ee16_38 : fx_tab 16 38 = some (.iconst (3), 39, 0, 0) := by decide +kernel
theorem ee16_39 : fx_tab 16 39 = some (.aload_n 0, 40, 0, 0) := by decide +kernel
theorem ee16_40 : fx_tab 16 40 = some (.getfield 21, 43, 514, 11) := by decide +kernel
theorem ee16_43 : fx_tab 16 43 = some (.aastore, 44, 0, 0) := by decide +kernel
theorem ee16_44 : fx_tab 16 44 = some (.aload_n 0, 45, 0, 0) := by decide +kernel
theorem ee16_45 : fx_tab 16 45 = some (.aload_n 1, 46, 1, 0) := by decide +kernel
theorem ee16_46 : fx_tab 16 46 = some (.putfield 21, 49, 514, 11) := by decide +kernel
theorem ee16_49 : fx_tab 16 49 = some (.aload_n 0, 50, 0, 0) := by decide +kernel
theorem ee16_50 : fx_tab 16 50 = some (.iconst (1), 51, 0, 0) := by decide +kernel
theorem ee16_51 : fx_tab 16 51 = some (.putfield 43, 54, 515, 1) := by decide +kernel
theorem ee16_54 : fx_tab 16 54 = some (.aload_n 0, 55, 0, 0) := by decide +kernel
theorem ee16_55 : fx_tab 16 55 = some (.dup, 56, 0, 0) := by decide +kernel
theorem ee16_56 : fx_tab 16 56 = some (.getfield 39, 59, 513, 0) := by decide +kernel
theorem ee16_59 : fx_tab 16 59 = some (.iconst (1), 60, 0, 0) := by decide +kernel
theorem ee16_60 : fx_tab 16 60 = some (.isub, 61, 0, 0) := by decide +kernel
theorem ee16_61 : fx_tab 16 61 = some (.putfield 39, 64, 513, 0) := by decide +kernel
theorem ee16_64 : fx_tab 16 64 = some (.aload_n 1, 65, 1, 0) := by decide +kernel
theorem ee16_65 : fx_tab 16 65 = some (.getfield 84, 68, 67, 0) := by decide +kernel
theorem ee16_68 : fx_tab 16 68 = some (.ireturn, 69, 0, 0) := by decide +kernel
theorem ee17_0 : fx_tab 17 0 = some (.aload_n 0, 1, 0, 0) := by decide +kernel
theorem ee17_1 : fx_tab 17 1 = some (.getfield 31, 4, 517, 41) := by decide +kernel
theorem ee17_4 : fx_tab 17 4 = some (.aload_n 0, 5, 0, 0) := by decide +kernel
theorem ee17_5 : fx_tab 17 5 = some (.getfield 39, 8, 513, 0) := by decide +kernel
theorem ee17_8 : fx_tab 17 8 = some (.aaload, 9, 0, 0) := by decide +kernel
theorem ee17_9 : fx_tab 17 9 = some (.astore_n 3, 10, 3, 0) := by decide +kernel
theorem ee17_10 : fx_tab 17 10 = some (.aload_n 3, 11, 3, 0) := by decide +kernel
theorem ee17_11 : fx_tab 17 11 = some (.aload_n 1, 12, 1, 0) := by decide +kernel
theorem ee17_12 : fx_tab 17 12 = some (.getfield 72, 15, 320, 0) := by decide +kernel
theorem ee17_15 : fx_tab 17 15 = some (.putfield 75, 18, 64, 0) := by decide +kernel
theorem ee17_18 : fx_tab 17 18 = some (.aload_n 3, 19, 3, 0) := by decide +kernel
theorem ee17_19 : fx_tab 17 19 = some (.aload_n 1, 20, 1, 0) := by decide +kernel
theorem ee17_20 : fx_tab 17 20 = some (.getfield 76, 23, 322, 0) := by decide +kernel
theorem ee17_23 : fx_tab 17 23 = some (.putfield 79, 26, 65, 0) := by decide +kernel
theorem ee17_26 : fx_tab 17 26 = some (.aload_n 3, 27, 3, 0) := by decide +kernel
theorem ee17_27 : fx_tab 17 27 = some (.iload_n 2, 28, 2, 0) := by decide +kernel
theorem ee17_28 : fx_tab 17 28 = some (.putfield 80, 31, 66, 0) := by decide +kernel
theorem ee17_31 : fx_tab 17 31 = some (.aload_n 3, 32, 3, 0) := by decide +kernel
theorem ee17_32 : fx_tab 17 32 = some (.aload_n 1, 33, 1, 0) := by decide +kernel
theorem ee17_33 : fx_tab 17 33 = some (.getfield 81, 36, 323, 0) := by decide +kernel
theorem ee17_36 : fx_tab 17 36 = some (.putfield 84, 39, 67, 0) := by decide +kernel
theorem ee17_39 : fx_tab 17 39 = some (.aload_n 0, 40, 0, 0) := by decide +kernel
theorem ee17_40 : fx_tab 17 40 = some (.dup, 41, 0, 0) := by decide +kernel
theorem ee17_41 : fx_tab 17 41 = some (.getfield 39, 44, 513, 0) := by decide +kernel
theorem ee17_44 : fx_tab 17 44 = some (.iconst (1), 45, 0, 0) := by decide +kernel
theorem ee17_45 : fx_tab 17 45 = some (.iadd, 46, 0, 0) := by decide +kernel
theorem ee17_46 : fx_tab 17 46 = some (.putfield 39, 49, 513, 0) := by decide +kernel
theorem ee17_49 : fx_tab 17 49 = some (.return_, 50, 0, 0) := by decide +kernel
theorem ee18_0 : fx_tab 18 0 = some (.iconst (0), 1, 0, 0) := by decide +kernel
theorem ee18_1 : fx_tab 18 1 = some (.istore_n 1, 2, 1, 0) := by decide +kernel
theorem ee18_2 : fx_tab 18 2 = some (.iconst (0), 3, 0, 0) := by decide +kernel
theorem ee18_3 : fx_tab 18 3 = some (.istore_n 2, 4, 2, 0) := by decide +kernel
theorem ee18_4 : fx_tab 18 4 = some (.iload_n 2, 5, 2, 0) := by decide +kernel
theorem ee18_5 : fx_tab 18 5 = some (.iconst (4), 6, 0, 0) := by decide +kernel
theorem ee18_6 : fx_tab 18 6 = some (.if_icmp .ge (24), 9, 30, 0) := by decide +kernel
theorem ee18_9 : fx_tab 18 9 = some (.aload_n 0, 10, 0, 0) := by decide +kernel
theorem ee18_10 : fx_tab 18 10 = some (.getfield 27, 13, 516, 46) := by decide +kernel
theorem ee18_13 : fx_tab 18 13 = some (.iload_n 2, 14, 2, 0) := by decide +kernel
theorem ee18_14 : fx_tab 18 14 = some (.aaload, 15, 0, 0) := by decide +kernel
theorem ee18_15 : fx_tab 18 15 = some (.getfield 48, 18, 384, 15) := by decide +kernel
theorem ee18_18 : fx_tab 18 18 = some (.ifnull (6), 21, 24, 0) := by decide +kernel
theorem ee18_21 : fx_tab 18 21 = some (.iinc 1 (1), 24, 1, 0) := by decide +kernel
theorem ee18_24 : fx_tab 18 24 = some (.iinc 2 (1), 27, 2, 0) := by decide +kernel
theorem ee18_27 : fx_tab 18 27 = some (.goto (-23), 30, 4, 0) := by decide +kernel
theorem ee18_30 : fx_tab 18 30 = some (.iload_n 1, 31, 1, 0) := by decide +kernel
theorem ee18_31 : fx_tab 18 31 = some (.ireturn, 32, 0, 0) := by decide +kernel
theorem ee19_0 : fx_tab 19 0 = some (.aload_n 1, 1, 1, 0) := by decide +kernel
theorem ee19_1 : fx_tab 19 1 = some (.aconst_null, 2, 0, 0) := by decide +kernel
theorem ee19_2 : fx_tab 19 2 = some (.putfield 7, 5, 331, 15) := by decide +kernel
theorem ee19_5 : fx_tab 19 5 = some (.aload_n 0, 6, 0, 0) := by decide +kernel
theorem ee19_6 : fx_tab 19 6 = some (.getfield 13, 9, 642, 15) := by decide +kernel
theorem ee19_9 : fx_tab 19 9 = some (.ifnonnull (11), 12, 20, 0) := by decide +kernel
theorem ee19_12 : fx_tab 19 12 = some (.aload_n 0, 13, 0, 0) := by decide +kernel
theorem ee19_13 : fx_tab 19 13 = some (.aload_n 1, 14, 1, 0) := by decide +kernel
theorem ee19_14 : fx_tab 19 14 = some (.putfield 18, 17, 640, 15) := by decide +kernel
theorem ee19_17 : fx_tab 19 17 = some (.goto (11), 20, 28, 0) := by decide +kernel
theorem ee19_20 : fx_tab 19 20 = some (.aload_n 0, 21, 0, 0) := by decide +kernel
theorem ee19_21 : fx_tab 19 21 = some (.getfield 13, 24, 642, 15) := by decide +kernel
theorem ee19_24 : fx_tab 19 24 = some (.aload_n 1, 25, 1, 0) := by decide +kernel
theorem ee19_25 : fx_tab 19 25 = some (.putfield 7, 28, 331, 15) := by decide +kernel
theorem ee19_28 : fx_tab 19 28 = some (.aload_n 0, 29, 0, 0) := by decide +kernel
theorem ee19_29 : fx_tab 19 29 = some (.aload_n 1, 30, 1, 0) := by decide +kernel
theorem ee19_30 : fx_tab 19 30 = some (.putfield 13, 33, 642, 15) := by decide +kernel
theorem ee19_33 : fx_tab 19 33 = some (.aload_n 0, 34, 0, 0) := by decide +kernel
theorem ee19_34 : fx_tab 19 34 = some (.dup, 35, 0, 0) := by decide +kernel
theorem ee19_35 : fx_tab 19 35 = some (.getfield 21, 38, 641, 0) := by decide +kernel
theorem ee19_38 : fx_tab 19 38 = some (.iconst (1), 39, 0, 0) := by decide +kernel
theorem ee19_39 : fx_tab 19 39 = some (.iadd, 40, 0, 0) := by decide +kernel
theorem ee19_40 : fx_tab 19 40 = some (.putfield 21, 43, 641, 0) := by decide +kernel
theorem ee19_43 : fx_tab 19 43 = some (.return_, 44, 0, 0) := by decide +kernel
theorem ee20_0 : fx_tab 20 0 = some (.aload_n 0, 1, 0, 0) := by decide +kernel
theorem ee20_1 : fx_tab 20 1 = some (.aconst_null, 2, 0, 0) := by decide +kernel
theorem ee20_2 : fx_tab 20 2 = some (.putfield 18, 5, 640, 15) := by decide +kernel
theorem ee20_5 : fx_tab 20 5 = some (.aload_n 0, 6, 0, 0) := by decide +kernel
theorem ee20_6 : fx_tab 20 6 = some (.aconst_null, 7, 0, 0) := by decide +kernel
theorem ee20_7 : fx_tab 20 7 = some (.putfield 13, 10, 642, 15) := by decide +kernel
theorem ee20_10 : fx_tab 20 10 = some (.aload_n 0, 11, 0, 0) := by decide +kernel
theorem ee20_11 : fx_tab 20 11 = some (.iconst (0), 12, 0, 0) := by decide +kernel
theorem ee20_12 : fx_tab 20 12 = some (.putfield 21, 15, 641, 0) := by decide +kernel
theorem ee20_15 : fx_tab 20 15 = some (.return_, 16, 0, 0) := by decide +kernel
theorem ee21_0 : fx_tab 21 0 = some (.aload_n 0, 1, 0, 0) := by decide +kernel
theorem ee21_1 : fx_tab 21 1 = some (.getfield 18, 4, 640, 15) := by decide +kernel
theorem ee21_4 : fx_tab 21 4 = some (.astore_n 1, 5, 1, 0) := by decide +kernel
theorem ee21_5 : fx_tab 21 5 = some (.aload_n 1, 6, 1, 0) := by decide +kernel
theorem ee21_6 : fx_tab 21 6 = some (.ifnonnull (5), 9, 11, 0) := by decide +kernel
theorem ee21_9 : fx_tab 21 9 = some (.aconst_null, 10, 0, 0) := by decide +kernel
theorem ee21_10 : fx_tab 21 10 = some (.areturn, 11, 0, 0) := by decide +kernel
theorem ee21_11 : fx_tab 21 11 = some (.aload_n 0, 12, 0, 0) := by decide +kernel
theorem ee21_12 : fx_tab 21 12 = some (.aload_n 1, 13, 1, 0) := by decide +kernel
theorem ee21_13 : fx_tab 21 13 = some (.getfield 7, 16, 331, 15) := by decide +kernel
theorem ee21_16 : fx_tab 21 16 = some (.putfield 18, 19, 640, 15) := by decide +kernel
theorem ee21_19 : fx_tab 21 19 = some (.aload_n 0, 20, 0, 0) := by decide +kernel
theorem ee21_20 : fx_tab 21 20 = some (.getfield 18, 23, 640, 15) := by decide +kernel
theorem ee21_23 : fx_tab 21 23 = some (.ifnonnull (8), 26, 31, 0) := by decide +kernel
theorem ee21_26 : fx_tab 21 26 = some (.aload_n 0, 27, 0, 0) := by decide +kernel
theorem ee21_27 : fx_tab 21 27 = some (.aconst_null, 28, 0, 0) := by decide +kernel
theorem ee21_28 : fx_tab 21 28 = some (.putfield 13, 31, 642, 15) := by decide +kernel
theorem ee21_31 : fx_tab 21 31 = some (.aload_n 1, 32, 1, 0) := by decide +kernel
theorem ee21_32 : fx_tab 21 32 = some (.aconst_null, 33, 0, 0) := by decide +kernel
theorem ee21_33 : fx_tab 21 33 = some (.putfield 7, 36, 331, 15) := by decide +kernel
theorem ee21_36 : fx_tab 21 36 = some (.aload_n 0, 37, 0, 0) := by decide +kernel
theorem ee21_37 : fx_tab 21 37 = some (.dup, 38, 0, 0) := by decide +kernel
theorem ee21_38 : fx_tab 21 38 = some (.getfield 21, 41, 641, 0) := by decide +kernel
theorem ee21_41 : fx_tab 21 41 = some (.iconst (1), 42, 0, 0) := by decide +kernel
theorem ee21_42 : fx_tab 21 42 = some (.isub, 43, 0, 0) := by decide +kernel
theorem ee21_43 : fx_tab 21 43 = some (.putfield 21, 46, 641, 0) := by decide +kernel
theorem ee21_46 : fx_tab 21 46 = some (.aload_n 1, 47, 1, 0) := by decide +kernel
theorem ee21_47 : fx_tab 21 47 = some (.areturn, 48, 0, 0) := by decide +kernel
theorem ee22_0 : fx_tab 22 0 = some (.aload_n 0, 1, 0, 0) := by decide +kernel
theorem ee22_1 : fx_tab 22 1 = some (.getfield 23, 4, 708, 45) := by decide +kernel
theorem ee22_4 : fx_tab 22 4 = some (.aload_n 1, 5, 1, 0) := by decide +kernel
theorem ee22_5 : fx_tab 22 5 = some (.getfield 77, 8, 324, 0) := by decide +kernel
theorem ee22_8 : fx_tab 22 8 = some (.aconst_null, 9, 0, 0) := by decide +kernel
theorem ee22_9 : fx_tab 22 9 = some (.aastore, 10, 0, 0) := by decide +kernel
theorem ee22_10 : fx_tab 22 10 = some (.aload_n 0, 11, 0, 0) := by decide +kernel
theorem ee22_11 : fx_tab 22 11 = some (.dup, 12, 0, 0) := by decide +kernel
theorem ee22_12 : fx_tab 22 12 = some (.getfield 42, 15, 706, 0) := by decide +kernel
theorem ee22_15 : fx_tab 22 15 = some (.iconst (1), 16, 0, 0) := by decide +kernel
theorem ee22_16 : fx_tab 22 16 = some (.isub, 17, 0, 0) := by decide +kernel
theorem ee22_17 : fx_tab 22 17 = some (.putfield 42, 20, 706, 0) := by decide +kernel
theorem ee22_20 : fx_tab 22 20 = some (.return_, 21, 0, 0) := by decide +kernel
theorem ee23_0 : fx_tab 23 0 = some (.aload_n 0, 1, 0, 0) := by decide +kernel
theorem ee23_1 : fx_tab 23 1 = some (.getfield 30, 4, 709, 15) := by decide +kernel
theorem ee23_4 : fx_tab 23 4 = some (.ifnull (8), 7, 12, 0) := by decide +kernel
theorem ee23_7 : fx_tab 23 7 = some (.aload_n 0, 8, 0, 0) := by decide +kernel
theorem ee23_8 : fx_tab 23 8 = some (.getfield 30, 11, 709, 15) := by decide +kernel
theorem ee23_11 : fx_tab 23 11 = some (.areturn, 12, 0, 0) := by decide +kernel
theorem ee23_12 : fx_tab 23 12 = some (.aload_n 0, 13, 0, 0) := by decide +kernel
theorem ee23_13 : fx_tab 23 13 = some (.getfield 18, 16, 705, 20) := by decide +kernel
theorem ee23_16 : fx_tab 23 16 = some (.getfield 49, 19, 640, 15) := by decide +kernel
theorem ee23_19 : fx_tab 23 19 = some (.ifnull (24), 22, 43, 0) := by decide +kernel
theorem ee23_22 : fx_tab 23 22 = some (.aload_n 0, 23, 0, 0) := by decide +kernel
theorem ee23_23 : fx_tab 23 23 = some (.getfield 18, 26, 705, 20) := by decide +kernel
theorem ee23_26 : fx_tab 23 26 = some (.getfield 49, 29, 640, 15) := by decide +kernel
theorem ee23_29 : fx_tab 23 29 = some (.getfield 52, 32, 327, 0) := by decide +kernel
theorem ee23_32 : fx_tab 23 32 = some (.ifCond .ne (11), 35, 43, 0) := by decide +kernel
theorem ee23_35 : fx_tab 23 35 = some (.aload_n 0, 36, 0, 0) := by decide +kernel
theorem ee23_36 : fx_tab 23 36 = some (.getfield 18, 39, 705, 20) := by decide +kernel
theorem ee23_39 : fx_tab 23 39 = some (.getfield 49, 42, 640, 15) := by decide +kernel
theorem ee23_42 : fx_tab 23 42 = some (.areturn, 43, 0, 0) := by decide +kernel
theorem ee23_43 : fx_tab 23 43 = some (.aload_n 0, 44, 0, 0) := by decide +kernel
theorem ee23_44 : fx_tab 23 44 = some (.getfield 42, 47, 706, 0) := by decide +kernel
theorem ee23_47 : fx_tab 23 47 = some (.bipush (8), 49, 0, 0) := by decide +kernel
theorem ee23_49 : fx_tab 23 49 = some (.if_icmp .ge (13), 52, 62, 0) := by decide +kernel
theorem ee23_52 : fx_tab 23 52 = some (.aload_n 0, 53, 0, 0) := by decide +kernel
theorem ee23_53 : fx_tab 23 53 = some (.getfield 12, 56, 704, 20) := by decide +kernel
theorem ee23_56 : fx_tab 23 56 = some (.getfield 49, 59, 640, 15) := by decide +kernel
theorem ee23_59 : fx_tab 23 59 = some (.goto (4), 62, 63, 0) := by decide +kernel
theorem ee23_62 : fx_tab 23 62 = some (.aconst_null, 63, 0, 0) := by decide +kernel
theorem ee23_63 : fx_tab 23 63 = some (.areturn, 64, 0, 0) := by decide +kernel
theorem ee24_0 : fx_tab 24 0 = some (.iconst (0), 1, 0, 0) := by decide +kernel
theorem ee24_1 : fx_tab 24 1 = some (.istore_n 2, 2, 2, 0) := by decide +kernel
theorem ee24_2 : fx_tab 24 2 = some (.iload_n 2, 3, 2, 0) := by decide +kernel
theorem ee24_3 : fx_tab 24 3 = some (.bipush (8), 5, 0, 0) := by decide +kernel
theorem ee24_5 : fx_tab 24 5 = some (.if_icmp .ge (41), 8, 46, 0) := by decide +kernel
theorem ee24_8 : fx_tab 24 8 = some (.aload_n 0, 9, 0, 0) := by decide +kernel
theorem ee24_9 : fx_tab 24 9 = some (.getfield 23, 12, 708, 45) := by decide +kernel
theorem ee24_12 : fx_tab 24 12 = some (.iload_n 2, 13, 2, 0) := by decide +kernel
theorem ee24_13 : fx_tab 24 13 = some (.aaload, 14, 0, 0) := by decide +kernel
theorem ee24_14 : fx_tab 24 14 = some (.ifnonnull (26), 17, 40, 0) := by decide +kernel
theorem ee24_17 : fx_tab 24 17 = some (.aload_n 0, 18, 0, 0) := by decide +kernel
theorem ee24_18 : fx_tab 24 18 = some (.getfield 23, 21, 708, 45) := by decide +kernel
theorem ee24_21 : fx_tab 24 21 = some (.iload_n 2, 22, 2, 0) := by decide +kernel
theorem ee24_22 : fx_tab 24 22 = some (.aload_n 1, 23, 1, 0) := by decide +kernel
theorem ee24_23 : fx_tab 24 23 = some (.aastore, 24, 0, 0) := by decide +kernel
theorem ee24_24 : fx_tab 24 24 = some (.aload_n 1, 25, 1, 0) := by decide +kernel
theorem ee24_25 : fx_tab 24 25 = some (.iload_n 2, 26, 2, 0) := by decide +kernel
theorem ee24_26 : fx_tab 24 26 = some (.putfield 77, 29, 324, 0) := by decide +kernel
theorem ee24_29 : fx_tab 24 29 = some (.aload_n 0, 30, 0, 0) := by decide +kernel
theorem ee24_30 : fx_tab 24 30 = some (.dup, 31, 0, 0) := by decide +kernel
theorem ee24_31 : fx_tab 24 31 = some (.getfield 42, 34, 706, 0) := by decide +kernel
theorem ee24_34 : fx_tab 24 34 = some (.iconst (1), 35, 0, 0) := by decide +kernel
theorem ee24_35 : fx_tab 24 35 = some (.iadd, 36, 0, 0) := by decide +kernel
theorem ee24_36 : fx_tab 24 36 = some (.putfield 42, 39, 706, 0) := by decide +kernel
theorem ee24_39 : fx_tab 24 39 = some (.return_, 40, 0, 0) := by decide +kernel
theorem ee24_40 : fx_tab 24 40 = some (.iinc 2 (1), 43, 2, 0) := by decide +kernel
theorem ee24_43 : fx_tab 24 43 = some (.goto (-41), 46, 2, 0) := by decide +kernel
theorem ee24_46 : fx_tab 24 46 = some (.return_, 47, 0, 0) := by decide +kernel
theorem ee25_0 : fx_tab 25 0 = some (.aload_n 0, 1, 0, 0) := by decide +kernel
theorem ee25_1 : fx_tab 25 1 = some (.iconst (0), 2, 0, 0) := by decide +kernel
theorem ee25_2 : fx_tab 25 2 = some (.putfield 130, 5, 768, 0) := by decide +kernel
theorem ee25_5 : fx_tab 25 5 = some (.iload_n 1, 6, 1, 0) := by decide +kernel
theorem ee25_6 : fx_tab 25 6 = some (.tableswitch (68) (0) (5) #[(38), (43), (48), (53), (58), (63)], 44, 74, 0) := by decide +kernel
theorem ee25_44 : fx_tab 25 44 = some (.aload_n 0, 45, 0, 0) := by decide +kernel
theorem ee25_45 : fx_tab 25 45 = some (.getfield 155, 48, 778, 0) := by decide +kernel
theorem ee25_48 : fx_tab 25 48 = some (.ireturn, 49, 0, 0) := by decide +kernel
theorem ee25_49 : fx_tab 25 49 = some (.aload_n 0, 50, 0, 0) := by decide +kernel
theorem ee25_50 : fx_tab 25 50 = some (.getfield 161, 53, 816, 0) := by decide +kernel
theorem ee25_53 : fx_tab 25 53 = some (.ireturn, 54, 0, 0) := by decide +kernel
theorem ee25_54 : fx_tab 25 54 = some (.aload_n 0, 55, 0, 0) := by decide +kernel
theorem ee25_55 : fx_tab 25 55 = some (.getfield 164, 58, 817, 0) := by decide +kernel
theorem ee25_58 : fx_tab 25 58 = some (.ireturn, 59, 0, 0) := by decide +kernel
theorem ee25_59 : fx_tab 25 59 = some (.aload_n 0, 60, 0, 0) := by decide +kernel
theorem ee25_60 : fx_tab 25 60 = some (.getfield 149, 63, 773, 0) := by decide +kernel
theorem ee25_63 : fx_tab 25 63 = some (.ireturn, 64, 0, 0) := by decide +kernel
theorem ee25_64 : fx_tab 25 64 = some (.aload_n 0, 65, 0, 0) := by decide +kernel
theorem ee25_65 : fx_tab 25 65 = some (.getfield 167, 68, 818, 0) := by decide +kernel
theorem ee25_68 : fx_tab 25 68 = some (.ireturn, 69, 0, 0) := by decide +kernel
theorem ee25_69 : fx_tab 25 69 = some (.aload_n 0, 70, 0, 0) := by decide +kernel
theorem ee25_70 : fx_tab 25 70 = some (.getfield 152, 73, 774, 0) := by decide +kernel
theorem ee25_73 : fx_tab 25 73 = some (.ireturn, 74, 0, 0) := by decide +kernel
theorem ee25_74 : fx_tab 25 74 = some (.iconst (-1), 75, 0, 0) := by decide +kernel
theorem ee25_75 : fx_tab 25 75 = some (.ireturn, 76, 0, 0) := by decide +kernel
theorem ee26_0 : fx_tab 26 0 = some (.iconst (4), 1, 0, 0) := by decide +kernel
theorem ee26_1 : fx_tab 26 1 = some (.iload_n 1, 2, 1, 0) := by decide +kernel
theorem ee26_2 : fx_tab 26 2 = some (.imul, 3, 0, 0) := by decide +kernel
theorem ee26_3 : fx_tab 26 3 = some (.istore_n 2, 4, 2, 0) := by decide +kernel
theorem ee26_4 : fx_tab 26 4 = some (.iload_n 2, 5, 2, 0) := by decide +kernel
theorem ee26_5 : fx_tab 26 5 = some (.iconst (4), 6, 0, 0) := by decide +kernel
theorem ee26_6 : fx_tab 26 6 = some (.iload_n 1, 7, 1, 0) := by decide +kernel
theorem ee26_7 : fx_tab 26 7 = some (.imul, 8, 0, 0) := by decide +kernel
theorem ee26_8 : fx_tab 26 8 = some (.iconst (4), 9, 0, 0) := by decide +kernel
theorem ee26_9 : fx_tab 26 9 = some (.iadd, 10, 0, 0) := by decide +kernel
theorem ee26_10 : fx_tab 26 10 = some (.if_icmp .ge (21), 13, 31, 0) := by decide +kernel
theorem ee26_13 : fx_tab 26 13 = some (.aload_n 0, 14, 0, 0) := by decide +kernel
theorem ee26_14 : fx_tab 26 14 = some (.getfield 77, 17, 799, 70) := by decide +kernel
theorem ee26_17 : fx_tab 26 17 = some (.iload_n 2, 18, 2, 0) := by decide +kernel
theorem ee26_18 : fx_tab 26 18 = some (.iaload, 19, 0, 0) := by decide +kernel
theorem ee26_19 : fx_tab 26 19 = some (.iconst (-1), 20, 0, 0) := by decide +kernel
theorem ee26_20 : fx_tab 26 20 = some (.if_icmp .ne (5), 23, 25, 0) := by decide +kernel
theorem ee26_23 : fx_tab 26 23 = some (.iload_n 2, 24, 2, 0) := by decide +kernel
theorem ee26_24 : fx_tab 26 24 = some (.ireturn, 25, 0, 0) := by decide +kernel
theorem ee26_25 : fx_tab 26 25 = some (.iinc 2 (1), 28, 2, 0) := by decide +kernel
theorem ee26_28 : fx_tab 26 28 = some (.goto (-24), 31, 4, 0) := by decide +kernel
theorem ee26_31 : fx_tab 26 31 = some (.iconst (-1), 32, 0, 0) := by decide +kernel
theorem ee26_32 : fx_tab 26 32 = some (.ireturn, 33, 0, 0) := by decide +kernel
theorem ee27_0 : fx_tab 27 0 = some (.iconst (0), 1, 0, 0) := by decide +kernel
theorem ee27_1 : fx_tab 27 1 = some (.istore_n 1, 2, 1, 0) := by decide +kernel
theorem ee27_2 : fx_tab 27 2 = some (.iload_n 1, 3, 1, 0) := by decide +kernel
theorem ee27_3 : fx_tab 27 3 = some (.aload_n 0, 4, 0, 0) := by decide +kernel
theorem ee27_4 : fx_tab 27 4 = some (.getfield 140, 7, 770, 0) := by decide +kernel
theorem ee27_7 : fx_tab 27 7 = some (.if_icmp .ge (36), 10, 43, 0) := by decide +kernel
theorem ee27_10 : fx_tab 27 10 = some (.aload_n 0, 11, 0, 0) := by decide +kernel
theorem ee27_11 : fx_tab 27 11 = some (.getfield 152, 14, 774, 0) := by decide +kernel
theorem ee27_14 : fx_tab 27 14 = some (.iload_n 1, 15, 1, 0) := by decide +kernel
theorem ee27_15 : fx_tab 27 15 = some (.iadd, 16, 0, 0) := by decide +kernel
theorem ee27_16 : fx_tab 27 16 = some (.aload_n 0, 17, 0, 0) := by decide +kernel
theorem ee27_17 : fx_tab 27 17 = some (.getfield 140, 20, 770, 0) := by decide +kernel
theorem ee27_20 : fx_tab 27 20 = some (.irem, 21, 0, 0) := by decide +kernel
theorem ee27_21 : fx_tab 27 21 = some (.istore_n 2, 22, 2, 0) := by decide +kernel
theorem ee27_22 : fx_tab 27 22 = some (.aload_n 0, 23, 0, 0) := by decide +kernel
theorem ee27_23 : fx_tab 27 23 = some (.getfield 120, 26, 814, 70) := by decide +kernel
theorem ee27_26 : fx_tab 27 26 = some (.iload_n 2, 27, 2, 0) := by decide +kernel
theorem ee27_27 : fx_tab 27 27 = some (.iaload, 28, 0, 0) := by decide +kernel
theorem ee27_28 : fx_tab 27 28 = some (.aload_n 0, 29, 0, 0) := by decide +kernel
theorem ee27_29 : fx_tab 27 29 = some (.getfield 146, 32, 772, 0) := by decide +kernel
theorem ee27_32 : fx_tab 27 32 = some (.if_icmp .lt (5), 35, 37, 0) := by decide +kernel
theorem ee27_35 : fx_tab 27 35 = some (.iload_n 2, 36, 2, 0) := by decide +kernel
theorem ee27_36 : fx_tab 27 36 = some (.ireturn, 37, 0, 0) := by decide +kernel
theorem ee27_37 : fx_tab 27 37 = some (.iinc 1 (1), 40, 1, 0) := by decide +kernel
theorem ee27_40 : fx_tab 27 40 = some (.goto (-38), 43, 2, 0) := by decide +kernel
theorem ee27_43 : fx_tab 27 43 = some (.iconst (-1), 44, 0, 0) := by decide +kernel
theorem ee27_44 : fx_tab 27 44 = some (.ireturn, 45, 0, 0) := by decide +kernel
theorem ee28_0 : fx_tab 28 0 = some (.iconst (0), 1, 0, 0) := by decide +kernel
theorem ee28_1 : fx_tab 28 1 = some (.istore_n 2, 2, 2, 0) := by decide +kernel
theorem ee28_2 : fx_tab 28 2 = some (.iconst (0), 3, 0, 0) := by decide +kernel
theorem ee28_3 : fx_tab 28 3 = some (.istore_n 3, 4, 3, 0) := by decide +kernel
theorem ee28_4 : fx_tab 28 4 = some (.iload_n 3, 5, 3, 0) := by decide +kernel
theorem ee28_5 : fx_tab 28 5 = some (.aload_n 0, 6, 0, 0) := by decide +kernel
theorem ee28_6 : fx_tab 28 6 = some (.getfield 155, 9, 778, 0) := by decide +kernel
theorem ee28_9 : fx_tab 28 9 = some (.if_icmp .ge (27), 12, 36, 0) := by decide +kernel
theorem ee28_12 : fx_tab 28 12 = some (.iload_n 2, 13, 2, 0) := by decide +kernel
theorem ee28_13 : fx_tab 28 13 = some (.aload_n 0, 14, 0, 0) := by decide +kernel
theorem ee28_14 : fx_tab 28 14 = some (.getfield 17, 17, 779, 70) := by decide +kernel
theorem ee28_17 : fx_tab 28 17 = some (.iload_n 3, 18, 3, 0) := by decide +kernel
theorem ee28_18 : fx_tab 28 18 = some (.iaload, 19, 0, 0) := by decide +kernel
theorem ee28_19 : fx_tab 28 19 = some (.iload_n 1, 20, 1, 0) := by decide +kernel
theorem ee28_20 : fx_tab 28 20 = some (.if_icmp .ne (7), 23, 27, 0) := by decide +kernel
theorem ee28_23 : fx_tab 28 23 = some (.iconst (1), 24, 0, 0) := by decide +kernel
theorem ee28_24 : fx_tab 28 24 = some (.goto (4), 27, 28, 0) := by decide +kernel
theorem ee28_27 : fx_tab 28 27 = some (.iconst (0), 28, 0, 0) := by decide +kernel
theorem ee28_28 : fx_tab 28 28 = some (.iadd, 29, 0, 0) := by decide +kernel
theorem ee28_29 : fx_tab 28 29 = some (.istore_n 2, 30, 2, 0) := by decide +kernel
theorem ee28_30 : fx_tab 28 30 = some (.iinc 3 (1), 33, 3, 0) := by decide +kernel
theorem ee28_33 : fx_tab 28 33 = some (.goto (-29), 36, 4, 0) := by decide +kernel
theorem ee28_36 : fx_tab 28 36 = some (.iload_n 2, 37, 2, 0) := by decide +kernel
theorem ee28_37 : fx_tab 28 37 = some (.ireturn, 38, 0, 0) := by decide +kernel
theorem ee29_0 : fx_tab 29 0 = some (.iconst (0), 1, 0, 0) := by decide +kernel
theorem ee29_1 : fx_tab 29 1 = some (.istore_n 2, 2, 2, 0) := by decide +kernel
theorem ee29_2 : fx_tab 29 2 = some (.iload_n 2, 3, 2, 0) := by decide +kernel
theorem ee29_3 : fx_tab 29 3 = some (.iconst (4), 4, 0, 0) := by decide +kernel
theorem ee29_4 : fx_tab 29 4 = some (.if_icmp .ge (67), 7, 71, 0) := by decide +kernel
theorem ee29_7 : fx_tab 29 7 = some (.iconst (0), 8, 0, 0) := by decide +kernel
theorem ee29_8 : fx_tab 29 8 = some (.istore_n 3, 9, 3, 0) := by decide +kernel
theorem ee29_9 : fx_tab 29 9 = some (.iconst (0), 10, 0, 0) := by decide +kernel
theorem ee29_10 : fx_tab 29 10 = some (.istore 4, 12, 4, 0) := by decide +kernel
theorem ee29_12 : fx_tab 29 12 = some (.iload 4, 14, 4, 0) := by decide +kernel
theorem ee29_14 : fx_tab 29 14 = some (.aload_n 0, 15, 0, 0) := by decide +kernel
theorem ee29_15 : fx_tab 29 15 = some (.getfield 155, 18, 778, 0) := by decide +kernel
theorem ee29_18 : fx_tab 29 18 = some (.if_icmp .ge (41), 21, 59, 0) := by decide +kernel
theorem ee29_21 : fx_tab 29 21 = some (.iload_n 3, 22, 3, 0) := by decide +kernel
theorem ee29_22 : fx_tab 29 22 = some (.ifCond .ne (25), 25, 47, 0) := by decide +kernel
theorem ee29_25 : fx_tab 29 25 = some (.aload_n 0, 26, 0, 0) := by decide +kernel
theorem ee29_26 : fx_tab 29 26 = some (.getfield 17, 29, 779, 70) := by decide +kernel
theorem ee29_29 : fx_tab 29 29 = some (.iload 4, 31, 4, 0) := by decide +kernel
theorem ee29_31 : fx_tab 29 31 = some (.iaload, 32, 0, 0) := by decide +kernel
theorem ee29_32 : fx_tab 29 32 = some (.iload_n 1, 33, 1, 0) := by decide +kernel
theorem ee29_33 : fx_tab 29 33 = some (.if_icmp .ne (18), 36, 51, 0) := by decide +kernel
theorem ee29_36 : fx_tab 29 36 = some (.aload_n 0, 37, 0, 0) := by decide +kernel
theorem ee29_37 : fx_tab 29 37 = some (.getfield 20, 40, 780, 70) := by decide +kernel
theorem ee29_40 : fx_tab 29 40 = some (.iload 4, 42, 4, 0) := by decide +kernel
theorem ee29_42 : fx_tab 29 42 = some (.iaload, 43, 0, 0) := by decide +kernel
theorem ee29_43 : fx_tab 29 43 = some (.iload_n 2, 44, 2, 0) := by decide +kernel
theorem ee29_44 : fx_tab 29 44 = some (.if_icmp .ne (7), 47, 51, 0) := by decide +kernel
theorem ee29_47 : fx_tab 29 47 = some (.iconst (1), 48, 0, 0) := by decide +kernel
theorem ee29_48 : fx_tab 29 48 = some (.goto (4), 51, 52, 0) := by decide +kernel
theorem ee29_51 : fx_tab 29 51 = some (.iconst (0), 52, 0, 0) := by decide +kernel
theorem ee29_52 : fx_tab 29 52 = some (.istore_n 3, 53, 3, 0) := by decide +kernel
theorem ee29_53 : fx_tab 29 53 = some (.iinc 4 (1), 56, 4, 0) := by decide +kernel
theorem ee29_56 : fx_tab 29 56 = some (.goto (-44), 59, 12, 0) := by decide +kernel
theorem ee29_59 : fx_tab 29 59 = some (.iload_n 3, 60, 3, 0) := by decide +kernel
theorem ee29_60 : fx_tab 29 60 = some (.ifCond .ne (5), 63, 65, 0) := by decide +kernel
theorem ee29_63 : fx_tab 29 63 = some (.iload_n 2, 64, 2, 0) := by decide +kernel
theorem ee29_64 : fx_tab 29 64 = some (.ireturn, 65, 0, 0) := by decide +kernel
theorem ee29_65 : fx_tab 29 65 = some (.iinc 2 (1), 68, 2, 0) := by decide +kernel
theorem ee29_68 : fx_tab 29 68 = some (.goto (-66), 71, 2, 0) := by decide +kernel
theorem ee29_71 : fx_tab 29 71 = some (.iconst (-1), 72, 0, 0) := by decide +kernel
theorem ee29_72 : fx_tab 29 72 = some (.ireturn, 73, 0, 0) := by decide +kernel
theorem ee30_0 : fx_tab 30 0 = some (.iconst (0), 1, 0, 0) := by decide +kernel
theorem ee30_1 : fx_tab 30 1 = some (.istore_n 2, 2, 2, 0) := by decide +kernel
theorem ee30_2 : fx_tab 30 2 = some (.iload_n 2, 3, 2, 0) := by decide +kernel
theorem ee30_3 : fx_tab 30 3 = some (.bipush (8), 5, 0, 0) := by decide +kernel
theorem ee30_5 : fx_tab 30 5 = some (.if_icmp .ge (30), 8, 35, 0) := by decide +kernel
theorem ee30_8 : fx_tab 30 8 = some (.aload_n 0, 9, 0, 0) := by decide +kernel
theorem ee30_9 : fx_tab 30 9 = some (.getfield 56, 12, 792, 70) := by decide +kernel
theorem ee30_12 : fx_tab 30 12 = some (.bipush (8), 14, 0, 0) := by decide +kernel
theorem ee30_14 : fx_tab 30 14 = some (.iload_n 1, 15, 1, 0) := by decide +kernel
theorem ee30_15 : fx_tab 30 15 = some (.imul, 16, 0, 0) := by decide +kernel
theorem ee30_16 : fx_tab 30 16 = some (.iload_n 2, 17, 2, 0) := by decide +kernel
theorem ee30_17 : fx_tab 30 17 = some (.iadd, 18, 0, 0) := by decide +kernel
theorem ee30_18 : fx_tab 30 18 = some (.iaload, 19, 0, 0) := by decide +kernel
theorem ee30_19 : fx_tab 30 19 = some (.ifCond .ne (10), 22, 29, 0) := by decide +kernel
theorem ee30_22 : fx_tab 30 22 = some (.bipush (8), 24, 0, 0) := by decide +kernel
theorem ee30_24 : fx_tab 30 24 = some (.iload_n 1, 25, 1, 0) := by decide +kernel
theorem ee30_25 : fx_tab 30 25 = some (.imul, 26, 0, 0) := by decide +kernel
theorem ee30_26 : fx_tab 30 26 = some (.iload_n 2, 27, 2, 0) := by decide +kernel
theorem ee30_27 : fx_tab 30 27 = some (.iadd, 28, 0, 0) := by decide +kernel
theorem ee30_28 : fx_tab 30 28 = some (.ireturn, 29, 0, 0) := by decide +kernel
theorem ee30_29 : fx_tab 30 29 = some (.iinc 2 (1), 32, 2, 0) := by decide +kernel
theorem ee30_32 : fx_tab 30 32 = some (.goto (-30), 35, 2, 0) := by decide +kernel
theorem ee30_35 : fx_tab 30 35 = some (.iconst (-1), 36, 0, 0) := by decide +kernel
theorem ee30_36 : fx_tab 30 36 = some (.ireturn, 37, 0, 0) := by decide +kernel
theorem ee31_0 : fx_tab 31 0 = some (.aload_n 0, 1, 0, 0) := by decide +kernel
theorem ee31_1 : fx_tab 31 1 = some (.getfield 53, 4, 791, 70) := by decide +kernel
theorem ee31_4 : fx_tab 31 4 = some (.bipush (8), 6, 0, 0) := by decide +kernel
theorem ee31_6 : fx_tab 31 6 = some (.aload_n 0, 7, 0, 0) := by decide +kernel
theorem ee31_7 : fx_tab 31 7 = some (.getfield 23, 10, 781, 70) := by decide +kernel
theorem ee31_10 : fx_tab 31 10 = some (.iload_n 1, 11, 1, 0) := by decide +kernel
theorem ee31_11 : fx_tab 31 11 = some (.iaload, 12, 0, 0) := by decide +kernel
theorem ee31_12 : fx_tab 31 12 = some (.imul, 13, 0, 0) := by decide +kernel
theorem ee31_13 : fx_tab 31 13 = some (.aload_n 0, 14, 0, 0) := by decide +kernel
theorem ee31_14 : fx_tab 31 14 = some (.getfield 26, 17, 782, 70) := by decide +kernel
theorem ee31_17 : fx_tab 31 17 = some (.iload_n 1, 18, 1, 0) := by decide +kernel
theorem ee31_18 : fx_tab 31 18 = some (.iaload, 19, 0, 0) := by decide +kernel
theorem ee31_19 : fx_tab 31 19 = some (.iadd, 20, 0, 0) := by decide +kernel
theorem ee31_20 : fx_tab 31 20 = some (.iaload, 21, 0, 0) := by decide +kernel
theorem ee31_21 : fx_tab 31 21 = some (.ireturn, 22, 0, 0) := by decide +kernel
theorem ee32_0 : fx_tab 32 0 = some (.aload_n 0, 1, 0, 0) := by decide +kernel
theorem ee32_1 : fx_tab 32 1 = some (.getfield 149, 4, 773, 0) := by decide +kernel
theorem ee32_4 : fx_tab 32 4 = some (.iconst (2), 5, 0, 0) := by decide +kernel
theorem ee32_5 : fx_tab 32 5 = some (.aload_n 0, 6, 0, 0) := by decide +kernel
theorem ee32_6 : fx_tab 32 6 = some (.getfield 174, 9, 777, 0) := by decide +kernel
theorem ee32_9 : fx_tab 32 9 = some (.bipush (8), 11, 0, 0) := by decide +kernel
theorem ee32_11 : fx_tab 32 11 = some (.iadd, 12, 0, 0) := by decide +kernel
theorem ee32_12 : fx_tab 32 12 = some (.imul, 13, 0, 0) := by decide +kernel
theorem ee32_13 : fx_tab 32 13 = some (.idiv, 14, 0, 0) := by decide +kernel
theorem ee32_14 : fx_tab 32 14 = some (.aload_n 0, 15, 0, 0) := by decide +kernel
theorem ee32_15 : fx_tab 32 15 = some (.getfield 140, 18, 770, 0) := by decide +kernel
theorem ee32_18 : fx_tab 32 18 = some (.bipush (64), 20, 0, 0) := by decide +kernel
theorem ee32_20 : fx_tab 32 20 = some (.imul, 21, 0, 0) := by decide +kernel
theorem ee32_21 : fx_tab 32 21 = some (.irem, 22, 0, 0) := by decide +kernel
theorem ee32_22 : fx_tab 32 22 = some (.ireturn, 23, 0, 0) := by decide +kernel
theorem ee33_0 : fx_tab 33 0 = some (.iconst (0), 1, 0, 0) := by decide +kernel
theorem ee33_1 : fx_tab 33 1 = some (.istore_n 3, 2, 3, 0) := by decide +kernel
theorem ee33_2 : fx_tab 33 2 = some (.iload_n 3, 3, 3, 0) := by decide +kernel
theorem ee33_3 : fx_tab 33 3 = some (.aload_n 0, 4, 0, 0) := by decide +kernel
theorem ee33_4 : fx_tab 33 4 = some (.getfield 155, 7, 778, 0) := by decide +kernel
theorem ee33_7 : fx_tab 33 7 = some (.if_icmp .ge (31), 10, 38, 0) := by decide +kernel
theorem ee33_10 : fx_tab 33 10 = some (.aload_n 0, 11, 0, 0) := by decide +kernel
theorem ee33_11 : fx_tab 33 11 = some (.getfield 17, 14, 779, 70) := by decide +kernel
theorem ee33_14 : fx_tab 33 14 = some (.iload_n 3, 15, 3, 0) := by decide +kernel
theorem ee33_15 : fx_tab 33 15 = some (.iaload, 16, 0, 0) := by decide +kernel
theorem ee33_16 : fx_tab 33 16 = some (.iload_n 1, 17, 1, 0) := by decide +kernel
theorem ee33_17 : fx_tab 33 17 = some (.if_icmp .ne (15), 20, 32, 0) := by decide +kernel
theorem ee33_20 : fx_tab 33 20 = some (.aload_n 0, 21, 0, 0) := by decide +kernel
theorem ee33_21 : fx_tab 33 21 = some (.getfield 38, 24, 786, 70) := by decide +kernel
theorem ee33_24 : fx_tab 33 24 = some (.iload_n 3, 25, 3, 0) := by decide +kernel
theorem ee33_25 : fx_tab 33 25 = some (.iaload, 26, 0, 0) := by decide +kernel
theorem ee33_26 : fx_tab 33 26 = some (.iload_n 2, 27, 2, 0) := by decide +kernel
theorem ee33_27 : fx_tab 33 27 = some (.if_icmp .ne (5), 30, 32, 0) := by decide +kernel
theorem ee33_30 : fx_tab 33 30 = some (.iconst (1), 31, 0, 0) := by decide +kernel
theorem ee33_31 : fx_tab 33 31 = some (.ireturn, 32, 0, 0) := by decide +kernel
theorem ee33_32 : fx_tab 33 32 = some (.iinc 3 (1), 35, 3, 0) := by decide +kernel
theorem ee33_35 : fx_tab 33 35 = some (.goto (-33), 38, 2, 0) := by decide +kernel
theorem ee33_38 : fx_tab 33 38 = some (.iconst (0), 39, 0, 0) := by decide +kernel
theorem ee33_39 : fx_tab 33 39 = some (.ireturn, 40, 0, 0) := by decide +kernel
theorem ee34_0 : fx_tab 34 0 = some (.iload_n 1, 1, 1, 0) := by decide +kernel
theorem ee34_1 : fx_tab 34 1 = some (.ifCond .lt (15), 4, 16, 0) := by decide +kernel
theorem ee34_4 : fx_tab 34 4 = some (.iload_n 1, 5, 1, 0) := by decide +kernel
theorem ee34_5 : fx_tab 34 5 = some (.aload_n 0, 6, 0, 0) := by decide +kernel
theorem ee34_6 : fx_tab 34 6 = some (.getfield 140, 9, 770, 0) := by decide +kernel
theorem ee34_9 : fx_tab 34 9 = some (.if_icmp .ge (7), 12, 16, 0) := by decide +kernel
theorem ee34_12 : fx_tab 34 12 = some (.iconst (1), 13, 0, 0) := by decide +kernel
theorem ee34_13 : fx_tab 34 13 = some (.goto (4), 16, 17, 0) := by decide +kernel
theorem ee34_16 : fx_tab 34 16 = some (.iconst (0), 17, 0, 0) := by decide +kernel
theorem ee34_17 : fx_tab 34 17 = some (.ireturn, 18, 0, 0) := by decide +kernel
theorem ee35_0 : fx_tab 35 0 = some (.iconst (0), 1, 0, 0) := by decide +kernel
theorem ee35_1 : fx_tab 35 1 = some (.istore_n 2, 2, 2, 0) := by decide +kernel
theorem ee35_2 : fx_tab 35 2 = some (.iload_n 2, 3, 2, 0) := by decide +kernel
theorem ee35_3 : fx_tab 35 3 = some (.aload_n 0, 4, 0, 0) := by decide +kernel
theorem ee35_4 : fx_tab 35 4 = some (.getfield 155, 7, 778, 0) := by decide +kernel
theorem ee35_7 : fx_tab 35 7 = some (.if_icmp .ge (31), 10, 38, 0) := by decide +kernel
theorem ee35_10 : fx_tab 35 10 = some (.bipush (8), 12, 0, 0) := by decide +kernel
theorem ee35_12 : fx_tab 35 12 = some (.aload_n 0, 13, 0, 0) := by decide +kernel
theorem ee35_13 : fx_tab 35 13 = some (.getfield 23, 16, 781, 70) := by decide +kernel
theorem ee35_16 : fx_tab 35 16 = some (.iload_n 2, 17, 2, 0) := by decide +kernel
theorem ee35_17 : fx_tab 35 17 = some (.iaload, 18, 0, 0) := by decide +kernel
theorem ee35_18 : fx_tab 35 18 = some (.imul, 19, 0, 0) := by decide +kernel
theorem ee35_19 : fx_tab 35 19 = some (.aload_n 0, 20, 0, 0) := by decide +kernel
theorem ee35_20 : fx_tab 35 20 = some (.getfield 26, 23, 782, 70) := by decide +kernel
theorem ee35_23 : fx_tab 35 23 = some (.iload_n 2, 24, 2, 0) := by decide +kernel
theorem ee35_24 : fx_tab 35 24 = some (.iaload, 25, 0, 0) := by decide +kernel
theorem ee35_25 : fx_tab 35 25 = some (.iadd, 26, 0, 0) := by decide +kernel
theorem ee35_26 : fx_tab 35 26 = some (.iload_n 1, 27, 1, 0) := by decide +kernel
theorem ee35_27 : fx_tab 35 27 = some (.if_icmp .ne (5), 30, 32, 0) := by decide +kernel
theorem ee35_30 : fx_tab 35 30 = some (.iconst (1), 31, 0, 0) := by decide +kernel
theorem ee35_31 : fx_tab 35 31 = some (.ireturn, 32, 0, 0) := by decide +kernel
theorem ee35_32 : fx_tab 35 32 = some (.iinc 2 (1), 35, 2, 0) := by decide +kernel
theorem ee35_35 : fx_tab 35 35 = some (.goto (-33), 38, 2, 0) := by decide +kernel
theorem ee35_38 : fx_tab 35 38 = some (.iconst (0), 39, 0, 0) := by decide +kernel
theorem ee35_39 : fx_tab 35 39 = some (.ireturn, 40, 0, 0) := by decide +kernel
theorem ee36_0 : fx_tab 36 0 = some (.iload_n 2, 1, 2, 0) := by decide +kernel
theorem ee36_1 : fx_tab 36 1 = some (.iload_n 0, 2, 0, 0) := by decide +kernel
theorem ee36_2 : fx_tab 36 2 = some (.if_icmp .ne (7), 5, 9, 0) := by decide +kernel
theorem ee36_5 : fx_tab 36 5 = some (.iload_n 1, 6, 1, 0) := by decide +kernel
theorem ee36_6 : fx_tab 36 6 = some (.goto (4), 9, 10, 0) := by decide +kernel
theorem ee36_9 : fx_tab 36 9 = some (.iload_n 0, 10, 0, 0) := by decide +kernel
theorem ee36_10 : fx_tab 36 10 = some (.ireturn, 11, 0, 0) := by decide +kernel
theorem ee37_0 : fx_tab 37 0 = some (.iload_n 1, 1, 1, 0) := by decide +kernel
theorem ee37_1 : fx_tab 37 1 = some (.aload_n 0, 2, 0, 0) := by decide +kernel
theorem ee37_2 : fx_tab 37 2 = some (.getfield 137, 5, 769, 0) := by decide +kernel
theorem ee37_5 : fx_tab 37 5 = some (.irem, 6, 0, 0) := by decide +kernel
theorem ee37_6 : fx_tab 37 6 = some (.istore_n 3, 7, 3, 0) := by decide +kernel
theorem ee37_7 : fx_tab 37 7 = some (.iload_n 1, 8, 1, 0) := by decide +kernel
theorem ee37_8 : fx_tab 37 8 = some (.aload_n 0, 9, 0, 0) := by decide +kernel
theorem ee37_9 : fx_tab 37 9 = some (.getfield 137, 12, 769, 0) := by decide +kernel
theorem ee37_12 : fx_tab 37 12 = some (.idiv, 13, 0, 0) := by decide +kernel
theorem ee37_13 : fx_tab 37 13 = some (.istore 4, 15, 4, 0) := by decide +kernel
theorem ee37_15 : fx_tab 37 15 = some (.iload_n 2, 16, 2, 0) := by decide +kernel
theorem ee37_16 : fx_tab 37 16 = some (.ifCond .ne (12), 19, 28, 0) := by decide +kernel
theorem ee37_19 : fx_tab 37 19 = some (.iload_n 3, 20, 3, 0) := by decide +kernel
theorem ee37_20 : fx_tab 37 20 = some (.iconst (1), 21, 0, 0) := by decide +kernel
theorem ee37_21 : fx_tab 37 21 = some (.iadd, 22, 0, 0) := by decide +kernel
theorem ee37_22 : fx_tab 37 22 = some (.aload_n 0, 23, 0, 0) := by decide +kernel
theorem ee37_23 : fx_tab 37 23 = some (.getfield 137, 26, 769, 0) := by decide +kernel
theorem ee37_26 : fx_tab 37 26 = some (.irem, 27, 0, 0) := by decide +kernel
theorem ee37_27 : fx_tab 37 27 = some (.istore_n 3, 28, 3, 0) := by decide +kernel
theorem ee37_28 : fx_tab 37 28 = some (.iload_n 2, 29, 2, 0) := by decide +kernel
theorem ee37_29 : fx_tab 37 29 = some (.iconst (1), 30, 0, 0) := by decide +kernel
theorem ee37_30 : fx_tab 37 30 = some (.if_icmp .ne (17), 33, 47, 0) := by decide +kernel
theorem ee37_33 : fx_tab 37 33 = some (.iload_n 3, 34, 3, 0) := by decide +kernel
theorem ee37_34 : fx_tab 37 34 = some (.aload_n 0, 35, 0, 0) := by decide +kernel
theorem ee37_35 : fx_tab 37 35 = some (.getfield 137, 38, 769, 0) := by decide +kernel
theorem ee37_38 : fx_tab 37 38 = some (.iadd, 39, 0, 0) := by decide +kernel
theorem ee37_39 : fx_tab 37 39 = some (.iconst (1), 40, 0, 0) := by decide +kernel
theorem ee37_40 : fx_tab 37 40 = some (.isub, 41, 0, 0) := by decide +kernel
theorem ee37_41 : fx_tab 37 41 = some (.aload_n 0, 42, 0, 0) := by decide +kernel
theorem ee37_42 : fx_tab 37 42 = some (.getfield 137, 45, 769, 0) := by decide +kernel
theorem ee37_45 : fx_tab 37 45 = some (.irem, 46, 0, 0) := by decide +kernel
theorem ee37_46 : fx_tab 37 46 = some (.istore_n 3, 47, 3, 0) := by decide +kernel
theorem ee37_47 : fx_tab 37 47 = some (.iload_n 2, 48, 2, 0) := by decide +kernel
theorem ee37_48 : fx_tab 37 48 = some (.iconst (2), 49, 0, 0) := by decide +kernel
theorem ee37_49 : fx_tab 37 49 = some (.if_icmp .ne (14), 52, 63, 0) := by decide +kernel
theorem ee37_52 : fx_tab 37 52 = some (.iload 4, 54, 4, 0) := by decide +kernel
theorem ee37_54 : fx_tab 37 54 = some (.iconst (1), 55, 0, 0) := by decide +kernel
theorem ee37_55 : fx_tab 37 55 = some (.iadd, 56, 0, 0) := by decide +kernel
theorem ee37_56 : fx_tab 37 56 = some (.aload_n 0, 57, 0, 0) := by decide +kernel
theorem ee37_57 : fx_tab 37 57 = some (.getfield 137, 60, 769, 0) := by decide +kernel
theorem ee37_60 : fx_tab 37 60 = some (.irem, 61, 0, 0) := by decide +kernel
theorem ee37_61 : fx_tab 37 61 = some (.istore 4, 63, 4, 0) := by decide +kernel
theorem ee37_63 : fx_tab 37 63 = some (.iload_n 2, 64, 2, 0) := by decide +kernel
theorem ee37_64 : fx_tab 37 64 = some (.iconst (3), 65, 0, 0) := by decide +kernel
theorem ee37_65 : fx_tab 37 65 = some (.if_icmp .ne (19), 68, 84, 0) := by decide +kernel
theorem ee37_68 : fx_tab 37 68 = some (.iload 4, 70, 4, 0) := by decide +kernel
theorem ee37_70 : fx_tab 37 70 = some (.aload_n 0, 71, 0, 0) := by decide +kernel
theorem ee37_71 : fx_tab 37 71 = some (.getfield 137, 74, 769, 0) := by decide +kernel
theorem ee37_74 : fx_tab 37 74 = some (.iadd, 75, 0, 0) := by decide +kernel
theorem ee37_75 : fx_tab 37 75 = some (.iconst (1), 76, 0, 0) := by decide +kernel
theorem ee37_76 : fx_tab 37 76 = some (.isub, 77, 0, 0) := by decide +kernel
theorem ee37_77 : fx_tab 37 77 = some (.aload_n 0, 78, 0, 0) := by decide +kernel
theorem ee37_78 : fx_tab 37 78 = some (.getfield 137, 81, 769, 0) := by decide +kernel
theorem ee37_81 : fx_tab 37 81 = some (.irem, 82, 0, 0) := by decide +kernel
theorem ee37_82 : fx_tab 37 82 = some (.istore 4, 84, 4, 0) := by decide +kernel
theorem ee37_84 : fx_tab 37 84 = some (.iload 4, 86, 4, 0) := by decide +kernel
theorem ee37_86 : fx_tab 37 86 = some (.aload_n 0, 87, 0, 0) := by decide +kernel
theorem ee37_87 : fx_tab 37 87 = some (.getfield 137, 90, 769, 0) := by decide +kernel
theorem ee37_90 : fx_tab 37 90 = some (.imul, 91, 0, 0) := by decide +kernel
theorem ee37_91 : fx_tab 37 91 = some (.iload_n 3, 92, 3, 0) := by decide +kernel
theorem ee37_92 : fx_tab 37 92 = some (.iadd, 93, 0, 0) := by decide +kernel
theorem ee37_93 : fx_tab 37 93 = some (.ireturn, 94, 0, 0) := by decide +kernel
theorem ee38_0 : fx_tab 38 0 = some (.aload_n 0, 1, 0, 0) := by decide +kernel
theorem ee38_1 : fx_tab 38 1 = some (.getfield 111, 4, 811, 70) := by decide +kernel
theorem ee38_4 : fx_tab 38 4 = some (.aload_n 0, 5, 0, 0) := by decide +kernel
theorem ee38_5 : fx_tab 38 5 = some (.getfield 158, 8, 810, 0) := by decide +kernel
theorem ee38_8 : fx_tab 38 8 = some (.iload_n 2, 9, 2, 0) := by decide +kernel
theorem ee38_9 : fx_tab 38 9 = some (.iastore, 10, 0, 0) := by decide +kernel
theorem ee38_10 : fx_tab 38 10 = some (.aload_n 0, 11, 0, 0) := by decide +kernel
theorem ee38_11 : fx_tab 38 11 = some (.getfield 114, 14, 812, 71) := by decide +kernel
theorem ee38_14 : fx_tab 38 14 = some (.aload_n 0, 15, 0, 0) := by decide +kernel
theorem ee38_15 : fx_tab 38 15 = some (.getfield 158, 18, 810, 0) := by decide +kernel
theorem ee38_18 : fx_tab 38 18 = some (.iload_n 3, 19, 3, 0) := by decide +kernel
theorem ee38_19 : fx_tab 38 19 = some (.bastore, 20, 0, 0) := by decide +kernel
theorem ee38_20 : fx_tab 38 20 = some (.aload_n 0, 21, 0, 0) := by decide +kernel
theorem ee38_21 : fx_tab 38 21 = some (.getfield 117, 24, 813, 70) := by decide +kernel
theorem ee38_24 : fx_tab 38 24 = some (.aload_n 0, 25, 0, 0) := by decide +kernel
theorem ee38_25 : fx_tab 38 25 = some (.getfield 158, 28, 810, 0) := by decide +kernel
theorem ee38_28 : fx_tab 38 28 = some (.aload_n 0, 29, 0, 0) := by decide +kernel
theorem ee38_29 : fx_tab 38 29 = some (.getfield 149, 32, 773, 0) := by decide +kernel
theorem ee38_32 : fx_tab 38 32 = some (.aload_n 0, 33, 0, 0) := by decide +kernel
theorem ee38_33 : fx_tab 38 33 = some (.getfield 13, 36, 776, 70) := by decide +kernel
theorem ee38_36 : fx_tab 38 36 = some (.bipush (64), 38, 0, 0) := by decide +kernel
theorem ee38_38 : fx_tab 38 38 = some (.iload_n 1, 39, 1, 0) := by decide +kernel
theorem ee38_39 : fx_tab 38 39 = some (.imul, 40, 0, 0) := by decide +kernel
theorem ee38_40 : fx_tab 38 40 = some (.iload_n 2, 41, 2, 0) := by decide +kernel
theorem ee38_41 : fx_tab 38 41 = some (.bipush (8), 43, 0, 0) := by decide +kernel
theorem ee38_43 : fx_tab 38 43 = some (.idiv, 44, 0, 0) := by decide +kernel
theorem ee38_44 : fx_tab 38 44 = some (.iadd, 45, 0, 0) := by decide +kernel
theorem ee38_45 : fx_tab 38 45 = some (.iaload, 46, 0, 0) := by decide +kernel
theorem ee38_46 : fx_tab 38 46 = some (.iadd, 47, 0, 0) := by decide +kernel
theorem ee38_47 : fx_tab 38 47 = some (.iastore, 48, 0, 0) := by decide +kernel
theorem ee38_48 : fx_tab 38 48 = some (.aload_n 0, 49, 0, 0) := by decide +kernel
theorem ee38_49 : fx_tab 38 49 = some (.dup, 50, 0, 0) := by decide +kernel
theorem ee38_50 : fx_tab 38 50 = some (.getfield 158, 53, 810, 0) := by decide +kernel
theorem ee38_53 : fx_tab 38 53 = some (.iconst (1), 54, 0, 0) := by decide +kernel
theorem ee38_54 : fx_tab 38 54 = some (.iadd, 55, 0, 0) := by decide +kernel
theorem ee38_55 : fx_tab 38 55 = some (.putfield 158, 58, 810, 0) := by decide +kernel
theorem ee38_58 : fx_tab 38 58 = some (.return_, 59, 0, 0) := by decide +kernel
theorem ee39_0 : fx_tab 39 0 = some (.iconst (0), 1, 0, 0) := by decide +kernel
theorem ee39_1 : fx_tab 39 1 = some (.istore_n 3, 2, 3, 0) := by decide +kernel
theorem ee39_2 : fx_tab 39 2 = some (.iload_n 3, 3, 3, 0) := by decide +kernel
theorem ee39_3 : fx_tab 39 3 = some (.aload_n 0, 4, 0, 0) := by decide +kernel
theorem ee39_4 : fx_tab 39 4 = some (.getfield 155, 7, 778, 0) := by decide +kernel
theorem ee39_7 : fx_tab 39 7 = some (.if_icmp .ge (31), 10, 38, 0) := by decide +kernel
theorem ee39_10 : fx_tab 39 10 = some (.aload_n 0, 11, 0, 0) := by decide +kernel
theorem ee39_11 : fx_tab 39 11 = some (.getfield 17, 14, 779, 70) := by decide +kernel
theorem ee39_14 : fx_tab 39 14 = some (.iload_n 3, 15, 3, 0) := by decide +kernel
theorem ee39_15 : fx_tab 39 15 = some (.iaload, 16, 0, 0) := by decide +kernel
theorem ee39_16 : fx_tab 39 16 = some (.iload_n 1, 17, 1, 0) := by decide +kernel
theorem ee39_17 : fx_tab 39 17 = some (.if_icmp .ne (15), 20, 32, 0) := by decide +kernel
theorem ee39_20 : fx_tab 39 20 = some (.aload_n 0, 21, 0, 0) := by decide +kernel
theorem ee39_21 : fx_tab 39 21 = some (.getfield 20, 24, 780, 70) := by decide +kernel
theorem ee39_24 : fx_tab 39 24 = some (.iload_n 3, 25, 3, 0) := by decide +kernel
theorem ee39_25 : fx_tab 39 25 = some (.iaload, 26, 0, 0) := by decide +kernel
theorem ee39_26 : fx_tab 39 26 = some (.iload_n 2, 27, 2, 0) := by decide +kernel
theorem ee39_27 : fx_tab 39 27 = some (.if_icmp .ne (5), 30, 32, 0) := by decide +kernel
theorem ee39_30 : fx_tab 39 30 = some (.iload_n 3, 31, 3, 0) := by decide +kernel
theorem ee39_31 : fx_tab 39 31 = some (.ireturn, 32, 0, 0) := by decide +kernel
theorem ee39_32 : fx_tab 39 32 = some (.iinc 3 (1), 35, 3, 0) := by decide +kernel
theorem ee39_35 : fx_tab 39 35 = some (.goto (-33), 38, 2, 0) := by decide +kernel
theorem ee39_38 : fx_tab 39 38 = some (.iconst (-1), 39, 0, 0) := by decide +kernel
theorem ee39_39 : fx_tab 39 39 = some (.ireturn, 40, 0, 0) := by decide +kernel
theorem ee40_0 : fx_tab 40 0 = some (.iconst (0), 1, 0, 0) := by decide +kernel
theorem ee40_1 : fx_tab 40 1 = some (.istore_n 2, 2, 2, 0) := by decide +kernel
theorem ee40_2 : fx_tab 40 2 = some (.iconst (0), 3, 0, 0) := by decide +kernel
theorem ee40_3 : fx_tab 40 3 = some (.istore_n 3, 4, 3, 0) := by decide +kernel
theorem ee40_4 : fx_tab 40 4 = some (.iload_n 3, 5, 3, 0) := by decide +kernel
theorem ee40_5 : fx_tab 40 5 = some (.iconst (4), 6, 0, 0) := by decide +kernel
theorem ee40_6 : fx_tab 40 6 = some (.if_icmp .ge (30), 9, 36, 0) := by decide +kernel
theorem ee40_9 : fx_tab 40 9 = some (.iload_n 2, 10, 2, 0) := by decide +kernel
theorem ee40_10 : fx_tab 40 10 = some (.aload_n 0, 11, 0, 0) := by decide +kernel
theorem ee40_11 : fx_tab 40 11 = some (.getfield 7, 14, 775, 71) := by decide +kernel
theorem ee40_14 : fx_tab 40 14 = some (.iconst (4), 15, 0, 0) := by decide +kernel
theorem ee40_15 : fx_tab 40 15 = some (.iload_n 1, 16, 1, 0) := by decide +kernel
theorem ee40_16 : fx_tab 40 16 = some (.imul, 17, 0, 0) := by decide +kernel
theorem ee40_17 : fx_tab 40 17 = some (.iload_n 3, 18, 3, 0) := by decide +kernel
theorem ee40_18 : fx_tab 40 18 = some (.iadd, 19, 0, 0) := by decide +kernel
theorem ee40_19 : fx_tab 40 19 = some (.baload, 20, 0, 0) := by decide +kernel
theorem ee40_20 : fx_tab 40 20 = some (.ifCond .eq (7), 23, 27, 0) := by decide +kernel
theorem ee40_23 : fx_tab 40 23 = some (.iconst (0), 24, 0, 0) := by decide +kernel
theorem ee40_24 : fx_tab 40 24 = some (.goto (4), 27, 28, 0) := by decide +kernel
theorem ee40_27 : fx_tab 40 27 = some (.iconst (1), 28, 0, 0) := by decide +kernel
theorem ee40_28 : fx_tab 40 28 = some (.iadd, 29, 0, 0) := by decide +kernel
theorem ee40_29 : fx_tab 40 29 = some (.istore_n 2, 30, 2, 0) := by decide +kernel
theorem ee40_30 : fx_tab 40 30 = some (.iinc 3 (1), 33, 3, 0) := by decide +kernel
theorem ee40_33 : fx_tab 40 33 = some (.goto (-29), 36, 4, 0) := by decide +kernel
theorem ee40_36 : fx_tab 40 36 = some (.iload_n 2, 37, 2, 0) := by decide +kernel
theorem ee40_37 : fx_tab 40 37 = some (.ireturn, 38, 0, 0) := by decide +kernel
theorem ee41_0 : fx_tab 41 0 = some (.iconst (4), 1, 0, 0) := by decide +kernel
theorem ee41_1 : fx_tab 41 1 = some (.iload_n 1, 2, 1, 0) := by decide +kernel
theorem ee41_2 : fx_tab 41 2 = some (.imul, 3, 0, 0) := by decide +kernel
theorem ee41_3 : fx_tab 41 3 = some (.istore 4, 5, 4, 0) := by decide +kernel
theorem ee41_5 : fx_tab 41 5 = some (.iload 4, 7, 4, 0) := by decide +kernel
theorem ee41_7 : fx_tab 41 7 = some (.iconst (4), 8, 0, 0) := by decide +kernel
theorem ee41_8 : fx_tab 41 8 = some (.iload_n 1, 9, 1, 0) := by decide +kernel
theorem ee41_9 : fx_tab 41 9 = some (.imul, 10, 0, 0) := by decide +kernel
theorem ee41_10 : fx_tab 41 10 = some (.iconst (4), 11, 0, 0) := by decide +kernel
theorem ee41_11 : fx_tab 41 11 = some (.iadd, 12, 0, 0) := by decide +kernel
theorem ee41_12 : fx_tab 41 12 = some (.if_icmp .ge (34), 15, 46, 0) := by decide +kernel
theorem ee41_15 : fx_tab 41 15 = some (.aload_n 0, 16, 0, 0) := by decide +kernel
theorem ee41_16 : fx_tab 41 16 = some (.getfield 77, 19, 799, 70) := by decide +kernel
theorem ee41_19 : fx_tab 41 19 = some (.iload 4, 21, 4, 0) := by decide +kernel
theorem ee41_21 : fx_tab 41 21 = some (.iaload, 22, 0, 0) := by decide +kernel
theorem ee41_22 : fx_tab 41 22 = some (.iload_n 2, 23, 2, 0) := by decide +kernel
theorem ee41_23 : fx_tab 41 23 = some (.if_icmp .ne (17), 26, 40, 0) := by decide +kernel
theorem ee41_26 : fx_tab 41 26 = some (.aload_n 0, 27, 0, 0) := by decide +kernel
theorem ee41_27 : fx_tab 41 27 = some (.getfield 80, 30, 800, 70) := by decide +kernel
theorem ee41_30 : fx_tab 41 30 = some (.iload 4, 32, 4, 0) := by decide +kernel
theorem ee41_32 : fx_tab 41 32 = some (.iaload, 33, 0, 0) := by decide +kernel
theorem ee41_33 : fx_tab 41 33 = some (.iload_n 3, 34, 3, 0) := by decide +kernel
theorem ee41_34 : fx_tab 41 34 = some (.if_icmp .ne (6), 37, 40, 0) := by decide +kernel
theorem ee41_37 : fx_tab 41 37 = some (.iload 4, 39, 4, 0) := by decide +kernel
theorem ee41_39 : fx_tab 41 39 = some (.ireturn, 40, 0, 0) := by decide +kernel
theorem ee41_40 : fx_tab 41 40 = some (.iinc 4 (1), 43, 4, 0) := by decide +kernel
theorem ee41_43 : fx_tab 41 43 = some (.goto (-38), 46, 5, 0) := by decide +kernel
theorem ee41_46 : fx_tab 41 46 = some (.iconst (-1), 47, 0, 0) := by decide +kernel
theorem ee41_47 : fx_tab 41 47 = some (.ireturn, 48, 0, 0) := by decide +kernel
theorem ee42_0 : fx_tab 42 0 = some (.aload_n 0, 1, 0, 0) := by decide +kernel
theorem ee42_1 : fx_tab 42 1 = some (.dup, 2, 0, 0) := by decide +kernel
theorem ee42_2 : fx_tab 42 2 = some (.getfield 155, 5, 778, 0) := by decide +kernel
theorem ee42_5 : fx_tab 42 5 = some (.iconst (1), 6, 0, 0) := by decide +kernel
theorem ee42_6 : fx_tab 42 6 = some (.isub, 7, 0, 0) := by decide +kernel
theorem ee42_7 : fx_tab 42 7 = some (.putfield 155, 10, 778, 0) := by decide +kernel
theorem ee42_10 : fx_tab 42 10 = some (.aload_n 0, 11, 0, 0) := by decide +kernel
theorem ee42_11 : fx_tab 42 11 = some (.getfield 17, 14, 779, 70) := by decide +kernel
theorem ee42_14 : fx_tab 42 14 = some (.iload_n 1, 15, 1, 0) := by decide +kernel
theorem ee42_15 : fx_tab 42 15 = some (.aload_n 0, 16, 0, 0) := by decide +kernel
theorem ee42_16 : fx_tab 42 16 = some (.getfield 17, 19, 779, 70) := by decide +kernel
theorem ee42_19 : fx_tab 42 19 = some (.aload_n 0, 20, 0, 0) := by decide +kernel
theorem ee42_20 : fx_tab 42 20 = some (.getfield 155, 23, 778, 0) := by decide +kernel
theorem ee42_23 : fx_tab 42 23 = some (.iaload, 24, 0, 0) := by decide +kernel
theorem ee42_24 : fx_tab 42 24 = some (.iastore, 25, 0, 0) := by decide +kernel
theorem ee42_25 : fx_tab 42 25 = some (.aload_n 0, 26, 0, 0) := by decide +kernel
theorem ee42_26 : fx_tab 42 26 = some (.getfield 20, 29, 780, 70) := by decide +kernel
theorem ee42_29 : fx_tab 42 29 = some (.iload_n 1, 30, 1, 0) := by decide +kernel
theorem ee42_30 : fx_tab 42 30 = some (.aload_n 0, 31, 0, 0) := by decide +kernel
theorem ee42_31 : fx_tab 42 31 = some (.getfield 20, 34, 780, 70) := by decide +kernel
theorem ee42_34 : fx_tab 42 34 = some (.aload_n 0, 35, 0, 0) := by decide +kernel
theorem ee42_35 : fx_tab 42 35 = some (.getfield 155, 38, 778, 0) := by decide +kernel
theorem ee42_38 : fx_tab 42 38 = some (.iaload, 39, 0, 0) := by decide +kernel
theorem ee42_39 : fx_tab 42 39 = some (.iastore, 40, 0, 0) := by decide +kernel
theorem ee42_40 : fx_tab 42 40 = some (.aload_n 0, 41, 0, 0) := by decide +kernel
theorem ee42_41 : fx_tab 42 41 = some (.getfield 23, 44, 781, 70) := by decide +kernel
theorem ee42_44 : fx_tab 42 44 = some (.iload_n 1, 45, 1, 0) := by decide +kernel
theorem ee42_45 : fx_tab 42 45 = some (.aload_n 0, 46, 0, 0) := by decide +kernel
theorem ee42_46 : fx_tab 42 46 = some (.getfield 23, 49, 781, 70) := by decide +kernel
theorem ee42_49 : fx_tab 42 49 = some (.aload_n 0, 50, 0, 0) := by decide +kernel
theorem ee42_50 : fx_tab 42 50 = some (.getfield 155, 53, 778, 0) := by decide +kernel
theorem ee42_53 : fx_tab 42 53 = some (.iaload, 54, 0, 0) := by decide +kernel
theorem ee42_54 : fx_tab 42 54 = some (.iastore, 55, 0, 0) := by decide +kernel
theorem ee42_55 : fx_tab 42 55 = some (.aload_n 0, 56, 0, 0) := by decide +kernel
theorem ee42_56 : fx_tab 42 56 = some (.getfield 26, 59, 782, 70) := by decide +kernel
theorem ee42_59 : fx_tab 42 59 = some (.iload_n 1, 60, 1, 0) := by decide +kernel
theorem ee42_60 : fx_tab 42 60 = some (.aload_n 0, 61, 0, 0) := by decide +kernel
theorem ee42_61 : fx_tab 42 61 = some (.getfield 26, 64, 782, 70) := by decide +kernel
theorem ee42_64 : fx_tab 42 64 = some (.aload_n 0, 65, 0, 0) := by decide +kernel
theorem ee42_65 : fx_tab 42 65 = some (.getfield 155, 68, 778, 0) := by decide +kernel
theorem ee42_68 : fx_tab 42 68 = some (.iaload, 69, 0, 0) := by decide +kernel
theorem ee42_69 : fx_tab 42 69 = some (.iastore, 70, 0, 0) := by decide +kernel
theorem ee42_70 : fx_tab 42 70 = some (.aload_n 0, 71, 0, 0) := by decide +kernel
theorem ee42_71 : fx_tab 42 71 = some (.getfield 29, 74, 783, 70) := by decide +kernel
theorem ee42_74 : fx_tab 42 74 = some (.iload_n 1, 75, 1, 0) := by decide +kernel
theorem ee42_75 : fx_tab 42 75 = some (.aload_n 0, 76, 0, 0) := by decide +kernel
theorem ee42_76 : fx_tab 42 76 = some (.getfield 29, 79, 783, 70) := by decide +kernel
theorem ee42_79 : fx_tab 42 79 = some (.aload_n 0, 80, 0, 0) := by decide +kernel
theorem ee42_80 : fx_tab 42 80 = some (.getfield 155, 83, 778, 0) := by decide +kernel
theorem ee42_83 : fx_tab 42 83 = some (.iaload, 84, 0, 0) := by decide +kernel
theorem ee42_84 : fx_tab 42 84 = some (.iastore, 85, 0, 0) := by decide +kernel
theorem ee42_85 : fx_tab 42 85 = some (.aload_n 0, 86, 0, 0) := by decide +kernel
theorem ee42_86 : fx_tab 42 86 = some (.getfield 32, 89, 784, 70) := by decide +kernel
theorem ee42_89 : fx_tab 42 89 = some (.iload_n 1, 90, 1, 0) := by decide +kernel
theorem ee42_90 : fx_tab 42 90 = some (.aload_n 0, 91, 0, 0) := by decide +kernel
theorem ee42_91 : fx_tab 42 91 = some (.getfield 32, 94, 784, 70) := by decide +kernel
theorem ee42_94 : fx_tab 42 94 = some (.aload_n 0, 95, 0, 0) := by decide +kernel
theorem ee42_95 : fx_tab 42 95 = some (.getfield 155, 98, 778, 0) := by decide +kernel
theorem ee42_98 : fx_tab 42 98 = some (.iaload, 99, 0, 0) := by decide +kernel
theorem ee42_99 : fx_tab 42 99 = some (.iastore, 100, 0, 0) := by decide +kernel
theorem ee42_100 : fx_tab 42 100 = some (.aload_n 0, 101, 0, 0) := by decide +kernel
theorem ee42_101 : fx_tab 42 101 = some (.getfield 35, 104, 785, 70) := by decide +kernel
theorem ee42_104 : fx_tab 42 104 = some (.iload_n 1, 105, 1, 0) := by decide +kernel
theorem ee42_105 : fx_tab 42 105 = some (.aload_n 0, 106, 0, 0) := by decide +kernel
theorem ee42_106 : fx_tab 42 106 = some (.getfield 35, 109, 785, 70) := by decide +kernel
theorem ee42_109 : fx_tab 42 109 = some (.aload_n 0, 110, 0, 0) := by decide +kernel
theorem ee42_110 : fx_tab 42 110 = some (.getfield 155, 113, 778, 0) := by decide +kernel
theorem ee42_113 : fx_tab 42 113 = some (.iaload, 114, 0, 0) := by decide +kernel
theorem ee42_114 : fx_tab 42 114 = some (.iastore, 115, 0, 0) := by decide +kernel
theorem ee42_115 : fx_tab 42 115 = some (.aload_n 0, 116, 0, 0) := by decide +kernel
theorem ee42_116 : fx_tab 42 116 = some (.getfield 38, 119, 786, 70) := by decide +kernel
theorem ee42_119 : fx_tab 42 119 = some (.iload_n 1, 120, 1, 0) := by decide +kernel
theorem ee42_120 : fx_tab 42 120 = some (.aload_n 0, 121, 0, 0) := by decide +kernel
theorem ee42_121 : fx_tab 42 121 = some (.getfield 38, 124, 786, 70) := by decide +kernel
theorem ee42_124 : fx_tab 42 124 = some (.aload_n 0, 125, 0, 0) := by decide +kernel
theorem ee42_125 : fx_tab 42 125 = some (.getfield 155, 128, 778, 0) := by decide +kernel
theorem ee42_128 : fx_tab 42 128 = some (.iaload, 129, 0, 0) := by decide +kernel
theorem ee42_129 : fx_tab 42 129 = some (.iastore, 130, 0, 0) := by decide +kernel
theorem ee42_130 : fx_tab 42 130 = some (.return_, 131, 0, 0) := by decide +kernel
theorem ee43_0 : fx_tab 43 0 = some (.iconst (0), 1, 0, 0) := by decide +kernel
theorem ee43_1 : fx_tab 43 1 = some (.istore_n 1, 2, 1, 0) := by decide +kernel
theorem ee43_2 : fx_tab 43 2 = some (.iconst (0), 3, 0, 0) := by decide +kernel
theorem ee43_3 : fx_tab 43 3 = some (.istore_n 2, 4, 2, 0) := by decide +kernel
theorem ee43_4 : fx_tab 43 4 = some (.iload_n 2, 5, 2, 0) := by decide +kernel
theorem ee43_5 : fx_tab 43 5 = some (.aload_n 0, 6, 0, 0) := by decide +kernel
theorem ee43_6 : fx_tab 43 6 = some (.getfield 158, 9, 810, 0) := by decide +kernel
theorem ee43_9 : fx_tab 43 9 = some (.if_icmp .ge (138), 12, 147, 0) := by decide +kernel
theorem ee43_12 : fx_tab 43 12 = some (.aload_n 0, 13, 0, 0) := by decide +kernel
theorem ee43_13 : fx_tab 43 13 = some (.getfield 111, 16, 811, 70) := by decide +kernel
theorem ee43_16 : fx_tab 43 16 = some (.iload_n 2, 17, 2, 0) := by decide +kernel
theorem ee43_17 : fx_tab 43 17 = some (.iaload, 18, 0, 0) := by decide +kernel
theorem ee43_18 : fx_tab 43 18 = some (.istore_n 3, 19, 3, 0) := by decide +kernel
theorem ee43_19 : fx_tab 43 19 = some (.aload_n 0, 20, 0, 0) := by decide +kernel
theorem ee43_20 : fx_tab 43 20 = some (.getfield 117, 23, 813, 70) := by decide +kernel
theorem ee43_23 : fx_tab 43 23 = some (.iload_n 2, 24, 2, 0) := by decide +kernel
theorem ee43_24 : fx_tab 43 24 = some (.iaload, 25, 0, 0) := by decide +kernel
theorem ee43_25 : fx_tab 43 25 = some (.aload_n 0, 26, 0, 0) := by decide +kernel
theorem ee43_26 : fx_tab 43 26 = some (.getfield 149, 29, 773, 0) := by decide +kernel
theorem ee43_29 : fx_tab 43 29 = some (.if_icmp .le (40), 32, 69, 0) := by decide +kernel
theorem ee43_32 : fx_tab 43 32 = some (.aload_n 0, 33, 0, 0) := by decide +kernel
theorem ee43_33 : fx_tab 43 33 = some (.getfield 111, 36, 811, 70) := by decide +kernel
theorem ee43_36 : fx_tab 43 36 = some (.iload_n 1, 37, 1, 0) := by decide +kernel
theorem ee43_37 : fx_tab 43 37 = some (.iload_n 3, 38, 3, 0) := by decide +kernel
theorem ee43_38 : fx_tab 43 38 = some (.iastore, 39, 0, 0) := by decide +kernel
theorem ee43_39 : fx_tab 43 39 = some (.aload_n 0, 40, 0, 0) := by decide +kernel
theorem ee43_40 : fx_tab 43 40 = some (.getfield 114, 43, 812, 71) := by decide +kernel
theorem ee43_43 : fx_tab 43 43 = some (.iload_n 1, 44, 1, 0) := by decide +kernel
theorem ee43_44 : fx_tab 43 44 = some (.aload_n 0, 45, 0, 0) := by decide +kernel
theorem ee43_45 : fx_tab 43 45 = some (.getfield 114, 48, 812, 71) := by decide +kernel
theorem ee43_48 : fx_tab 43 48 = some (.iload_n 2, 49, 2, 0) := by decide +kernel
theorem ee43_49 : fx_tab 43 49 = some (.baload, 50, 0, 0) := by decide +kernel
theorem ee43_50 : fx_tab 43 50 = some (.bastore, 51, 0, 0) := by decide +kernel
theorem ee43_51 : fx_tab 43 51 = some (.aload_n 0, 52, 0, 0) := by decide +kernel
theorem ee43_52 : fx_tab 43 52 = some (.getfield 117, 55, 813, 70) := by decide +kernel
theorem ee43_55 : fx_tab 43 55 = some (.iload_n 1, 56, 1, 0) := by decide +kernel
theorem ee43_56 : fx_tab 43 56 = some (.aload_n 0, 57, 0, 0) := by decide +kernel
theorem ee43_57 : fx_tab 43 57 = some (.getfield 117, 60, 813, 70) := by decide +kernel
theorem ee43_60 : fx_tab 43 60 = some (.iload_n 2, 61, 2, 0) := by decide +kernel
theorem ee43_61 : fx_tab 43 61 = some (.iaload, 62, 0, 0) := by decide +kernel
theorem ee43_62 : fx_tab 43 62 = some (.iastore, 63, 0, 0) := by decide +kernel
theorem ee43_63 : fx_tab 43 63 = some (.iinc 1 (1), 66, 1, 0) := by decide +kernel
theorem ee43_66 : fx_tab 43 66 = some (.goto (75), 69, 141, 0) := by decide +kernel
theorem ee43_69 : fx_tab 43 69 = some (.aload_n 0, 70, 0, 0) := by decide +kernel
theorem ee43_70 : fx_tab 43 70 = some (.getfield 114, 73, 812, 71) := by decide +kernel
theorem ee43_73 : fx_tab 43 73 = some (.iload_n 2, 74, 2, 0) := by decide +kernel
theorem ee43_74 : fx_tab 43 74 = some (.baload, 75, 0, 0) := by decide +kernel
theorem ee43_75 : fx_tab 43 75 = some (.ifCond .eq (13), 78, 88, 0) := by decide +kernel
theorem ee43_78 : fx_tab 43 78 = some (.aload_n 0, 79, 0, 0) := by decide +kernel
theorem ee43_79 : fx_tab 43 79 = some (.getfield 56, 82, 792, 70) := by decide +kernel
theorem ee43_82 : fx_tab 43 82 = some (.iload_n 3, 83, 3, 0) := by decide +kernel
theorem ee43_83 : fx_tab 43 83 = some (.iconst (0), 84, 0, 0) := by decide +kernel
theorem ee43_84 : fx_tab 43 84 = some (.iastore, 85, 0, 0) := by decide +kernel
theorem ee43_85 : fx_tab 43 85 = some (.goto (56), 88, 141, 0) := by decide +kernel
theorem ee43_88 : fx_tab 43 88 = some (.aload_n 0, 89, 0, 0) := by decide +kernel
theorem ee43_89 : fx_tab 43 89 = some (.getfield 62, 92, 794, 70) := by decide +kernel
theorem ee43_92 : fx_tab 43 92 = some (.iload_n 3, 93, 3, 0) := by decide +kernel
theorem ee43_93 : fx_tab 43 93 = some (.dup2, 94, 0, 0) := by decide +kernel
theorem ee43_94 : fx_tab 43 94 = some (.iaload, 95, 0, 0) := by decide +kernel
theorem ee43_95 : fx_tab 43 95 = some (.iconst (1), 96, 0, 0) := by decide +kernel
theorem ee43_96 : fx_tab 43 96 = some (.iadd, 97, 0, 0) := by decide +kernel
theorem ee43_97 : fx_tab 43 97 = some (.iastore, 98, 0, 0) := by decide +kernel
theorem ee43_98 : fx_tab 43 98 = some (.aload_n 0, 99, 0, 0) := by decide +kernel
theorem ee43_99 : fx_tab 43 99 = some (.getfield 65, 102, 795, 70) := by decide +kernel
theorem ee43_102 : fx_tab 43 102 = some (.iload_n 3, 103, 3, 0) := by decide +kernel
theorem ee43_103 : fx_tab 43 103 = some (.iconst (0), 104, 0, 0) := by decide +kernel
theorem ee43_104 : fx_tab 43 104 = some (.iastore, 105, 0, 0) := by decide +kernel
theorem ee43_105 : fx_tab 43 105 = some (.iload_n 3, 106, 3, 0) := by decide +kernel
theorem ee43_106 : fx_tab 43 106 = some (.bipush (8), 108, 0, 0) := by decide +kernel
theorem ee43_108 : fx_tab 43 108 = some (.idiv, 109, 0, 0) := by decide +kernel
theorem ee43_109 : fx_tab 43 109 = some (.istore 4, 111, 4, 0) := by decide +kernel
theorem ee43_111 : fx_tab 43 111 = some (.aload_n 0, 112, 0, 0) := by decide +kernel
theorem ee43_112 : fx_tab 43 112 = some (.getfield 74, 115, 798, 70) := by decide +kernel
theorem ee43_115 : fx_tab 43 115 = some (.bipush (8), 117, 0, 0) := by decide +kernel
theorem ee43_117 : fx_tab 43 117 = some (.iload 4, 119, 4, 0) := by decide +kernel
theorem ee43_119 : fx_tab 43 119 = some (.imul, 120, 0, 0) := by decide +kernel
theorem ee43_120 : fx_tab 43 120 = some (.aload_n 0, 121, 0, 0) := by decide +kernel
theorem ee43_121 : fx_tab 43 121 = some (.getfield 71, 124, 797, 70) := by decide +kernel
theorem ee43_124 : fx_tab 43 124 = some (.iload 4, 126, 4, 0) := by decide +kernel
theorem ee43_126 : fx_tab 43 126 = some (.iaload, 127, 0, 0) := by decide +kernel
theorem ee43_127 : fx_tab 43 127 = some (.iadd, 128, 0, 0) := by decide +kernel
theorem ee43_128 : fx_tab 43 128 = some (.iload_n 3, 129, 3, 0) := by decide +kernel
theorem ee43_129 : fx_tab 43 129 = some (.iastore, 130, 0, 0) := by decide +kernel
theorem ee43_130 : fx_tab 43 130 = some (.aload_n 0, 131, 0, 0) := by decide +kernel
theorem ee43_131 : fx_tab 43 131 = some (.getfield 71, 134, 797, 70) := by decide +kernel
theorem ee43_134 : fx_tab 43 134 = some (.iload 4, 136, 4, 0) := by decide +kernel
theorem ee43_136 : fx_tab 43 136 = some (.dup2, 137, 0, 0) := by decide +kernel
theorem ee43_137 : fx_tab 43 137 = some (.iaload, 138, 0, 0) := by decide +kernel
theorem ee43_138 : fx_tab 43 138 = some (.iconst (1), 139, 0, 0) := by decide +kernel
theorem ee43_139 : fx_tab 43 139 = some (.iadd, 140, 0, 0) := by decide +kernel
theorem ee43_140 : fx_tab 43 140 = some (.iastore, 141, 0, 0) := by decide +kernel
theorem ee43_141 : fx_tab 43 141 = some (.iinc 2 (1), 144, 2, 0) := by decide +kernel
theorem ee43_144 : fx_tab 43 144 = some (.goto (-140), 147, 4, 0) := by decide +kernel
theorem ee43_147 : fx_tab 43 147 = some (.aload_n 0, 148, 0, 0) := by decide +kernel
theorem ee43_148 : fx_tab 43 148 = some (.iload_n 1, 149, 1, 0) := by decide +kernel
theorem ee43_149 : fx_tab 43 149 = some (.putfield 158, 152, 810, 0) := by decide +kernel
theorem ee43_152 : fx_tab 43 152 = some (.return_, 153, 0, 0) := by decide +kernel
theorem ee44_0 : fx_tab 44 0 = some (.aload_n 0, 1, 0, 0) := by decide +kernel
theorem ee44_1 : fx_tab 44 1 = some (.getfield 130, 4, 768, 0) := by decide +kernel
theorem ee44_4 : fx_tab 44 4 = some (.ireturn, 5, 0, 0) := by decide +kernel
theorem ee45_0 : fx_tab 45 0 = some (.bipush (8), 2, 0, 0) := by decide +kernel
theorem ee45_2 : fx_tab 45 2 = some (.iload_n 1, 3, 1, 0) := by decide +kernel
theorem ee45_3 : fx_tab 45 3 = some (.imul, 4, 0, 0) := by decide +kernel
theorem ee45_4 : fx_tab 45 4 = some (.istore_n 2, 5, 2, 0) := by decide +kernel
theorem ee45_5 : fx_tab 45 5 = some (.iload_n 2, 6, 2, 0) := by decide +kernel
theorem ee45_6 : fx_tab 45 6 = some (.bipush (8), 8, 0, 0) := by decide +kernel
theorem ee45_8 : fx_tab 45 8 = some (.iload_n 1, 9, 1, 0) := by decide +kernel
theorem ee45_9 : fx_tab 45 9 = some (.imul, 10, 0, 0) := by decide +kernel
theorem ee45_10 : fx_tab 45 10 = some (.bipush (8), 12, 0, 0) := by decide +kernel
theorem ee45_12 : fx_tab 45 12 = some (.iadd, 13, 0, 0) := by decide +kernel
theorem ee45_13 : fx_tab 45 13 = some (.if_icmp .ge (44), 16, 57, 0) := by decide +kernel
theorem ee45_16 : fx_tab 45 16 = some (.aload_n 0, 17, 0, 0) := by decide +kernel
theorem ee45_17 : fx_tab 45 17 = some (.getfield 56, 20, 792, 70) := by decide +kernel
theorem ee45_20 : fx_tab 45 20 = some (.iload_n 2, 21, 2, 0) := by decide +kernel
theorem ee45_21 : fx_tab 45 21 = some (.iaload, 22, 0, 0) := by decide +kernel
theorem ee45_22 : fx_tab 45 22 = some (.ifCond .le (29), 25, 51, 0) := by decide +kernel
theorem ee45_25 : fx_tab 45 25 = some (.aload_n 0, 26, 0, 0) := by decide +kernel
theorem ee45_26 : fx_tab 45 26 = some (.getfield 65, 29, 795, 70) := by decide +kernel
theorem ee45_29 : fx_tab 45 29 = some (.iload_n 2, 30, 2, 0) := by decide +kernel
theorem ee45_30 : fx_tab 45 30 = some (.iaload, 31, 0, 0) := by decide +kernel
theorem ee45_31 : fx_tab 45 31 = some (.ifCond .le (20), 34, 51, 0) := by decide +kernel
theorem ee45_34 : fx_tab 45 34 = some (.aload_n 0, 35, 0, 0) := by decide +kernel
theorem ee45_35 : fx_tab 45 35 = some (.getfield 65, 38, 795, 70) := by decide +kernel
theorem ee45_38 : fx_tab 45 38 = some (.iload_n 2, 39, 2, 0) := by decide +kernel
theorem ee45_39 : fx_tab 45 39 = some (.iaload, 40, 0, 0) := by decide +kernel
theorem ee45_40 : fx_tab 45 40 = some (.aload_n 0, 41, 0, 0) := by decide +kernel
theorem ee45_41 : fx_tab 45 41 = some (.getfield 56, 44, 792, 70) := by decide +kernel
theorem ee45_44 : fx_tab 45 44 = some (.iload_n 2, 45, 2, 0) := by decide +kernel
theorem ee45_45 : fx_tab 45 45 = some (.iaload, 46, 0, 0) := by decide +kernel
theorem ee45_46 : fx_tab 45 46 = some (.if_icmp .ge (5), 49, 51, 0) := by decide +kernel
theorem ee45_49 : fx_tab 45 49 = some (.iload_n 2, 50, 2, 0) := by decide +kernel
theorem ee45_50 : fx_tab 45 50 = some (.ireturn, 51, 0, 0) := by decide +kernel
theorem ee45_51 : fx_tab 45 51 = some (.iinc 2 (1), 54, 2, 0) := by decide +kernel
theorem ee45_54 : fx_tab 45 54 = some (.goto (-49), 57, 5, 0) := by decide +kernel
theorem ee45_57 : fx_tab 45 57 = some (.iconst (-1), 58, 0, 0) := by decide +kernel
theorem ee45_58 : fx_tab 45 58 = some (.ireturn, 59, 0, 0) := by decide +kernel
theorem ee46_0 : fx_tab 46 0 = some (.iconst (0), 1, 0, 0) := by decide +kernel
theorem ee46_1 : fx_tab 46 1 = some (.istore_n 2, 2, 2, 0) := by decide +kernel
theorem ee46_2 : fx_tab 46 2 = some (.iconst (0), 3, 0, 0) := by decide +kernel
theorem ee46_3 : fx_tab 46 3 = some (.istore_n 3, 4, 3, 0) := by decide +kernel
theorem ee46_4 : fx_tab 46 4 = some (.iload_n 3, 5, 3, 0) := by decide +kernel
theorem ee46_5 : fx_tab 46 5 = some (.bipush (8), 7, 0, 0) := by decide +kernel
theorem ee46_7 : fx_tab 46 7 = some (.if_icmp .ge (31), 10, 38, 0) := by decide +kernel
theorem ee46_10 : fx_tab 46 10 = some (.iload_n 2, 11, 2, 0) := by decide +kernel
theorem ee46_11 : fx_tab 46 11 = some (.aload_n 0, 12, 0, 0) := by decide +kernel
theorem ee46_12 : fx_tab 46 12 = some (.getfield 56, 15, 792, 70) := by decide +kernel
theorem ee46_15 : fx_tab 46 15 = some (.bipush (8), 17, 0, 0) := by decide +kernel
theorem ee46_17 : fx_tab 46 17 = some (.iload_n 1, 18, 1, 0) := by decide +kernel
theorem ee46_18 : fx_tab 46 18 = some (.imul, 19, 0, 0) := by decide +kernel
theorem ee46_19 : fx_tab 46 19 = some (.iload_n 3, 20, 3, 0) := by decide +kernel
theorem ee46_20 : fx_tab 46 20 = some (.iadd, 21, 0, 0) := by decide +kernel
theorem ee46_21 : fx_tab 46 21 = some (.iaload, 22, 0, 0) := by decide +kernel
theorem ee46_22 : fx_tab 46 22 = some (.ifCond .le (7), 25, 29, 0) := by decide +kernel
theorem ee46_25 : fx_tab 46 25 = some (.iconst (1), 26, 0, 0) := by decide +kernel
theorem ee46_26 : fx_tab 46 26 = some (.goto (4), 29, 30, 0) := by decide +kernel
theorem ee46_29 : fx_tab 46 29 = some (.iconst (0), 30, 0, 0) := by decide +kernel
theorem ee46_30 : fx_tab 46 30 = some (.iadd, 31, 0, 0) := by decide +kernel
theorem ee46_31 : fx_tab 46 31 = some (.istore_n 2, 32, 2, 0) := by decide +kernel
theorem ee46_32 : fx_tab 46 32 = some (.iinc 3 (1), 35, 3, 0) := by decide +kernel
theorem ee46_35 : fx_tab 46 35 = some (.goto (-31), 38, 4, 0) := by decide +kernel
theorem ee46_38 : fx_tab 46 38 = some (.iload_n 2, 39, 2, 0) := by decide +kernel
theorem ee46_39 : fx_tab 46 39 = some (.ireturn, 40, 0, 0) := by decide +kernel
theorem ee47_0 : fx_tab 47 0 = some (.iload_n 0, 1, 0, 0) := by decide +kernel
theorem ee47_1 : fx_tab 47 1 = some (.iload_n 1, 2, 1, 0) := by decide +kernel
theorem ee47_2 : fx_tab 47 2 = some (.if_icmp .lt (12), 5, 14, 0) := by decide +kernel
theorem ee47_5 : fx_tab 47 5 = some (.iload_n 0, 6, 0, 0) := by decide +kernel
theorem ee47_6 : fx_tab 47 6 = some (.iload_n 2, 7, 2, 0) := by decide +kernel
theorem ee47_7 : fx_tab 47 7 = some (.if_icmp .gt (7), 10, 14, 0) := by decide +kernel
theorem ee47_10 : fx_tab 47 10 = some (.iconst (1), 11, 0, 0) := by decide +kernel
theorem ee47_11 : fx_tab 47 11 = some (.goto (4), 14, 15, 0) := by decide +kernel
theorem ee47_14 : fx_tab 47 14 = some (.iconst (0), 15, 0, 0) := by decide +kernel
theorem ee47_15 : fx_tab 47 15 = some (.ireturn, 16, 0, 0) := by decide +kernel
theorem ee48_0 : fx_tab 48 0 = some (.aload_n 0, 1, 0, 0) := by decide +kernel
theorem ee48_1 : fx_tab 48 1 = some (.getfield 20, 4, 1, 13) := by decide +kernel
theorem ee48_4 : fx_tab 48 4 = some (.iload_n 1, 5, 1, 0) := by decide +kernel
theorem ee48_5 : fx_tab 48 5 = some (.invokevirtual 86, 8, 5, 210) := by decide +kernel
theorem ee48_8 : fx_tab 48 8 = some (.ifCond .eq (12), 11, 20, 0) := by decide +kernel
theorem ee48_11 : fx_tab 48 11 = some (.iload_n 2, 12, 2, 0) := by decide +kernel
theorem ee48_12 : fx_tab 48 12 = some (.ifCond .lt (8), 15, 20, 0) := by decide +kernel
theorem ee48_15 : fx_tab 48 15 = some (.iload_n 2, 16, 2, 0) := by decide +kernel
theorem ee48_16 : fx_tab 48 16 = some (.iconst (4), 17, 0, 0) := by decide +kernel
theorem ee48_17 : fx_tab 48 17 = some (.if_icmp .lt (5), 20, 22, 0) := by decide +kernel
theorem ee48_20 : fx_tab 48 20 = some (.iconst (-1), 21, 0, 0) := by decide +kernel
theorem ee48_21 : fx_tab 48 21 = some (.ireturn, 22, 0, 0) := by decide +kernel
theorem ee48_22 : fx_tab 48 22 = some (.aload_n 0, 23, 0, 0) := by decide +kernel
theorem ee48_23 : fx_tab 48 23 = some (.getfield 28, 26, 3, 44) := by decide +kernel
theorem ee48_26 : fx_tab 48 26 = some (.iload_n 1, 27, 1, 0) := by decide +kernel
theorem ee48_27 : fx_tab 48 27 = some (.aaload, 28, 0, 0) := by decide +kernel
theorem ee48_28 : fx_tab 48 28 = some (.getfield 240, 31, 259, 42) := by decide +kernel
theorem ee48_31 : fx_tab 48 31 = some (.iload_n 2, 32, 2, 0) := by decide +kernel
theorem ee48_32 : fx_tab 48 32 = some (.aaload, 33, 0, 0) := by decide +kernel
theorem ee48_33 : fx_tab 48 33 = some (.astore 4, 35, 4, 0) := by decide +kernel
theorem ee48_35 : fx_tab 48 35 = some (.aload 4, 37, 4, 0) := by decide +kernel
theorem ee48_37 : fx_tab 48 37 = some (.ifnonnull (5), 40, 42, 0) := by decide +kernel
theorem ee48_40 : fx_tab 48 40 = some (.iconst (-1), 41, 0, 0) := by decide +kernel
theorem ee48_41 : fx_tab 48 41 = some (.ireturn, 42, 0, 0) := by decide +kernel
theorem ee48_42 : fx_tab 48 42 = some (.iload_n 3, 43, 3, 0) := by decide +kernel
theorem ee48_43 : fx_tab 48 43 = some (.tableswitch (82) (0) (5) #[(37), (46), (55), (61), (70), (76)], 80, 125, 0) := by decide +kernel
theorem ee48_80 : fx_tab 48 80 = some (.aload 4, 82, 4, 0) := by decide +kernel
theorem ee48_82 : fx_tab 48 82 = some (.getfield 244, 85, 128, 15) := by decide +kernel
theorem ee48_85 : fx_tab 48 85 = some (.getfield 250, 88, 320, 0) := by decide +kernel
theorem ee48_88 : fx_tab 48 88 = some (.ireturn, 89, 0, 0) := by decide +kernel
theorem ee48_89 : fx_tab 48 89 = some (.aload 4, 91, 4, 0) := by decide +kernel
theorem ee48_91 : fx_tab 48 91 = some (.getfield 244, 94, 128, 15) := by decide +kernel
theorem ee48_94 : fx_tab 48 94 = some (.getfield 251, 97, 324, 0) := by decide +kernel
theorem ee48_97 : fx_tab 48 97 = some (.ireturn, 98, 0, 0) := by decide +kernel
theorem ee48_98 : fx_tab 48 98 = some (.aload 4, 100, 4, 0) := by decide +kernel
theorem ee48_100 : fx_tab 48 100 = some (.getfield 254, 103, 129, 0) := by decide +kernel
theorem ee48_103 : fx_tab 48 103 = some (.ireturn, 104, 0, 0) := by decide +kernel
theorem ee48_104 : fx_tab 48 104 = some (.aload 4, 106, 4, 0) := by decide +kernel
theorem ee48_106 : fx_tab 48 106 = some (.getfield 244, 109, 128, 15) := by decide +kernel
theorem ee48_109 : fx_tab 48 109 = some (.getfield 257, 112, 321, 0) := by decide +kernel
theorem ee48_112 : fx_tab 48 112 = some (.ireturn, 113, 0, 0) := by decide +kernel
theorem ee48_113 : fx_tab 48 113 = some (.aload 4, 115, 4, 0) := by decide +kernel
theorem ee48_115 : fx_tab 48 115 = some (.getfield 260, 118, 130, 0) := by decide +kernel
theorem ee48_118 : fx_tab 48 118 = some (.ireturn, 119, 0, 0) := by decide +kernel
theorem ee48_119 : fx_tab 48 119 = some (.aload 4, 121, 4, 0) := by decide +kernel
theorem ee48_121 : fx_tab 48 121 = some (.getfield 263, 124, 131, 0) := by decide +kernel
theorem ee48_124 : fx_tab 48 124 = some (.ireturn, 125, 0, 0) := by decide +kernel
theorem ee48_125 : fx_tab 48 125 = some (.iconst (-1), 126, 0, 0) := by decide +kernel
theorem ee48_126 : fx_tab 48 126 = some (.ireturn, 127, 0, 0) := by decide +kernel
theorem ee49_0 : fx_tab 49 0 = some (.aload_n 0, 1, 0, 0) := by decide +kernel
theorem ee49_1 : fx_tab 49 1 = some (.getfield 20, 4, 1, 13) := by decide +kernel
theorem ee49_4 : fx_tab 49 4 = some (.iload_n 1, 5, 1, 0) := by decide +kernel
theorem ee49_5 : fx_tab 49 5 = some (.invokevirtual 86, 8, 5, 210) := by decide +kernel
theorem ee49_8 : fx_tab 49 8 = some (.ifCond .ne (5), 11, 13, 0) := by decide +kernel
theorem ee49_11 : fx_tab 49 11 = some (.iconst (-1), 12, 0, 0) := by decide +kernel
theorem ee49_12 : fx_tab 49 12 = some (.ireturn, 13, 0, 0) := by decide +kernel
theorem ee49_13 : fx_tab 49 13 = some (.aload_n 0, 14, 0, 0) := by decide +kernel
theorem ee49_14 : fx_tab 49 14 = some (.getfield 28, 17, 3, 44) := by decide +kernel
theorem ee49_17 : fx_tab 49 17 = some (.iload_n 1, 18, 1, 0) := by decide +kernel
theorem ee49_18 : fx_tab 49 18 = some (.aaload, 19, 0, 0) := by decide +kernel
theorem ee49_19 : fx_tab 49 19 = some (.astore_n 3, 20, 3, 0) := by decide +kernel
theorem ee49_20 : fx_tab 49 20 = some (.iload_n 2, 21, 2, 0) := by decide +kernel
theorem ee49_21 : fx_tab 49 21 = some (.tableswitch (126) (0) (8) #[(51), (62), (70), (78), (86), (97), (102), (107), (115)], 72, 147, 0) := by decide +kernel
theorem ee49_72 : fx_tab 49 72 = some (.aload_n 3, 73, 3, 0) := by decide +kernel
theorem ee49_73 : fx_tab 49 73 = some (.getfield 101, 76, 257, 21) := by decide +kernel
theorem ee49_76 : fx_tab 49 76 = some (.getfield 105, 79, 704, 20) := by decide +kernel
theorem ee49_79 : fx_tab 49 79 = some (.getfield 110, 82, 641, 0) := by decide +kernel
theorem ee49_82 : fx_tab 49 82 = some (.ireturn, 83, 0, 0) := by decide +kernel
theorem ee49_83 : fx_tab 49 83 = some (.aload_n 3, 84, 3, 0) := by decide +kernel
theorem ee49_84 : fx_tab 49 84 = some (.getfield 101, 87, 257, 21) := by decide +kernel
theorem ee49_87 : fx_tab 49 87 = some (.getfield 210, 90, 706, 0) := by decide +kernel
theorem ee49_90 : fx_tab 49 90 = some (.ireturn, 91, 0, 0) := by decide +kernel
theorem ee49_91 : fx_tab 49 91 = some (.aload_n 3, 92, 3, 0) := by decide +kernel
theorem ee49_92 : fx_tab 49 92 = some (.getfield 166, 95, 258, 18) := by decide +kernel
theorem ee49_95 : fx_tab 49 95 = some (.getfield 170, 98, 513, 0) := by decide +kernel
theorem ee49_98 : fx_tab 49 98 = some (.ireturn, 99, 0, 0) := by decide +kernel
theorem ee49_99 : fx_tab 49 99 = some (.aload_n 3, 100, 3, 0) := by decide +kernel
theorem ee49_100 : fx_tab 49 100 = some (.getfield 166, 103, 258, 18) := by decide +kernel
theorem ee49_103 : fx_tab 49 103 = some (.invokevirtual 213, 106, 18, 289) := by decide +kernel
theorem ee49_106 : fx_tab 49 106 = some (.ireturn, 107, 0, 0) := by decide +kernel
theorem ee49_107 : fx_tab 49 107 = some (.aload_n 3, 108, 3, 0) := by decide +kernel
theorem ee49_108 : fx_tab 49 108 = some (.getfield 166, 111, 258, 18) := by decide +kernel
theorem ee49_111 : fx_tab 49 111 = some (.getfield 216, 114, 512, 20) := by decide +kernel
theorem ee49_114 : fx_tab 49 114 = some (.getfield 110, 117, 641, 0) := by decide +kernel
theorem ee49_117 : fx_tab 49 117 = some (.ireturn, 118, 0, 0) := by decide +kernel
theorem ee49_118 : fx_tab 49 118 = some (.aload_n 3, 119, 3, 0) := by decide +kernel
theorem ee49_119 : fx_tab 49 119 = some (.invokevirtual 219, 122, 10, 225) := by decide +kernel
theorem ee49_122 : fx_tab 49 122 = some (.ireturn, 123, 0, 0) := by decide +kernel
theorem ee49_123 : fx_tab 49 123 = some (.aload_n 3, 124, 3, 0) := by decide +kernel
theorem ee49_124 : fx_tab 49 124 = some (.getfield 222, 127, 261, 0) := by decide +kernel
theorem ee49_127 : fx_tab 49 127 = some (.ireturn, 128, 0, 0) := by decide +kernel
theorem ee49_128 : fx_tab 49 128 = some (.aload_n 3, 129, 3, 0) := by decide +kernel
theorem ee49_129 : fx_tab 49 129 = some (.getfield 101, 132, 257, 21) := by decide +kernel
theorem ee49_132 : fx_tab 49 132 = some (.getfield 225, 135, 707, 0) := by decide +kernel
theorem ee49_135 : fx_tab 49 135 = some (.ireturn, 136, 0, 0) := by decide +kernel
theorem ee49_136 : fx_tab 49 136 = some (.aload_n 3, 137, 3, 0) := by decide +kernel
theorem ee49_137 : fx_tab 49 137 = some (.getfield 101, 140, 257, 21) := by decide +kernel
theorem ee49_140 : fx_tab 49 140 = some (.getfield 228, 143, 705, 20) := by decide +kernel
theorem ee49_143 : fx_tab 49 143 = some (.getfield 110, 146, 641, 0) := by decide +kernel
theorem ee49_146 : fx_tab 49 146 = some (.ireturn, 147, 0, 0) := by decide +kernel
theorem ee49_147 : fx_tab 49 147 = some (.iconst (-1), 148, 0, 0) := by decide +kernel
theorem ee49_148 : fx_tab 49 148 = some (.ireturn, 149, 0, 0) := by decide +kernel
theorem ee50_0 : fx_tab 50 0 = some (.aload_n 0, 1, 0, 0) := by decide +kernel
theorem ee50_1 : fx_tab 50 1 = some (.getfield 20, 4, 1, 13) := by decide +kernel
theorem ee50_4 : fx_tab 50 4 = some (.iload_n 1, 5, 1, 0) := by decide +kernel
theorem ee50_5 : fx_tab 50 5 = some (.invokevirtual 86, 8, 5, 210) := by decide +kernel
theorem ee50_8 : fx_tab 50 8 = some (.ifCond .ne (5), 11, 13, 0) := by decide +kernel
theorem ee50_11 : fx_tab 50 11 = some (.iconst (-1), 12, 0, 0) := by decide +kernel
theorem ee50_12 : fx_tab 50 12 = some (.ireturn, 13, 0, 0) := by decide +kernel
theorem ee50_13 : fx_tab 50 13 = some (.aload_n 0, 14, 0, 0) := by decide +kernel
theorem ee50_14 : fx_tab 50 14 = some (.getfield 28, 17, 3, 44) := by decide +kernel
theorem ee50_17 : fx_tab 50 17 = some (.iload_n 1, 18, 1, 0) := by decide +kernel
theorem ee50_18 : fx_tab 50 18 = some (.aaload, 19, 0, 0) := by decide +kernel
theorem ee50_19 : fx_tab 50 19 = some (.getfield 166, 22, 258, 18) := by decide +kernel
theorem ee50_22 : fx_tab 50 22 = some (.astore_n 3, 23, 3, 0) := by decide +kernel
theorem ee50_23 : fx_tab 50 23 = some (.aload_n 3, 24, 3, 0) := by decide +kernel
theorem ee50_24 : fx_tab 50 24 = some (.getfield 191, 27, 515, 1) := by decide +kernel
theorem ee50_27 : fx_tab 50 27 = some (.ifCond .ne (5), 30, 32, 0) := by decide +kernel
theorem ee50_30 : fx_tab 50 30 = some (.iconst (-1), 31, 0, 0) := by decide +kernel
theorem ee50_31 : fx_tab 50 31 = some (.ireturn, 32, 0, 0) := by decide +kernel
theorem ee50_32 : fx_tab 50 32 = some (.iload_n 2, 33, 2, 0) := by decide +kernel
theorem ee50_33 : fx_tab 50 33 = some (.tableswitch (51) (0) (2) #[(27), (35), (43)], 60, 84, 0) := by decide +kernel
theorem ee50_60 : fx_tab 50 60 = some (.aload_n 3, 61, 3, 0) := by decide +kernel
theorem ee50_61 : fx_tab 50 61 = some (.getfield 195, 64, 514, 11) := by decide +kernel
theorem ee50_64 : fx_tab 50 64 = some (.getfield 199, 67, 64, 0) := by decide +kernel
theorem ee50_67 : fx_tab 50 67 = some (.ireturn, 68, 0, 0) := by decide +kernel
theorem ee50_68 : fx_tab 50 68 = some (.aload_n 3, 69, 3, 0) := by decide +kernel
theorem ee50_69 : fx_tab 50 69 = some (.getfield 195, 72, 514, 11) := by decide +kernel
theorem ee50_72 : fx_tab 50 72 = some (.getfield 204, 75, 65, 0) := by decide +kernel
theorem ee50_75 : fx_tab 50 75 = some (.ireturn, 76, 0, 0) := by decide +kernel
theorem ee50_76 : fx_tab 50 76 = some (.aload_n 3, 77, 3, 0) := by decide +kernel
theorem ee50_77 : fx_tab 50 77 = some (.getfield 195, 80, 514, 11) := by decide +kernel
theorem ee50_80 : fx_tab 50 80 = some (.getfield 207, 83, 66, 0) := by decide +kernel
theorem ee50_83 : fx_tab 50 83 = some (.ireturn, 84, 0, 0) := by decide +kernel
theorem ee50_84 : fx_tab 50 84 = some (.iconst (-1), 85, 0, 0) := by decide +kernel
theorem ee50_85 : fx_tab 50 85 = some (.ireturn, 86, 0, 0) := by decide +kernel
theorem ee51_0 : fx_tab 51 0 = some (.aload_n 0, 1, 0, 0) := by decide +kernel
theorem ee51_1 : fx_tab 51 1 = some (.invokespecial 1, 4, 1000, 0) := by decide +kernel
theorem ee51_4 : fx_tab 51 4 = some (.return_, 5, 0, 0) := by decide +kernel
theorem ee52_0 : fx_tab 52 0 = some (.aload_n 0, 1, 0, 0) := by decide +kernel
theorem ee52_1 : fx_tab 52 1 = some (.invokespecial 1, 4, 1000, 0) := by decide +kernel
theorem ee52_4 : fx_tab 52 4 = some (.aload_n 0, 5, 0, 0) := by decide +kernel
theorem ee52_5 : fx_tab 52 5 = some (.aload_n 1, 6, 1, 0) := by decide +kernel
theorem ee52_6 : fx_tab 52 6 = some (.putfield 7, 9, 128, 15) := by decide +kernel
theorem ee52_9 : fx_tab 52 9 = some (.aload_n 0, 10, 0, 0) := by decide +kernel
theorem ee52_10 : fx_tab 52 10 = some (.iload_n 2, 11, 2, 0) := by decide +kernel
theorem ee52_11 : fx_tab 52 11 = some (.putfield 13, 14, 129, 0) := by decide +kernel
theorem ee52_14 : fx_tab 52 14 = some (.return_, 15, 0, 0) := by decide +kernel
theorem ee53_0 : fx_tab 53 0 = some (.aload_n 0, 1, 0, 0) := by decide +kernel
theorem ee53_1 : fx_tab 53 1 = some (.invokespecial 3, 4, 1000, 0) := by decide +kernel
theorem ee53_4 : fx_tab 53 4 = some (.aload_n 0, 5, 0, 0) := by decide +kernel
theorem ee53_5 : fx_tab 53 5 = some (.sipush (256), 8, 0, 0) := by decide +kernel
theorem ee53_8 : fx_tab 53 8 = some (.newarray .int, 10, 70, 0) := by decide +kernel
theorem ee53_10 : fx_tab 53 10 = some (.putfield 9, 13, 193, 70) := by decide +kernel
theorem ee53_13 : fx_tab 53 13 = some (.aload_n 0, 14, 0, 0) := by decide +kernel
theorem ee53_14 : fx_tab 53 14 = some (.sipush (256), 17, 0, 0) := by decide +kernel
theorem ee53_17 : fx_tab 53 17 = some (.newarray .boolean, 19, 71, 0) := by decide +kernel
theorem ee53_19 : fx_tab 53 19 = some (.putfield 15, 22, 194, 71) := by decide +kernel
theorem ee53_22 : fx_tab 53 22 = some (.aload_n 0, 23, 0, 0) := by decide +kernel
theorem ee53_23 : fx_tab 53 23 = some (.sipush (4096), 26, 0, 0) := by decide +kernel
theorem ee53_26 : fx_tab 53 26 = some (.newarray .int, 28, 70, 0) := by decide +kernel
theorem ee53_28 : fx_tab 53 28 = some (.putfield 19, 31, 195, 70) := by decide +kernel
theorem ee53_31 : fx_tab 53 31 = some (.aload_n 0, 32, 0, 0) := by decide +kernel
theorem ee53_32 : fx_tab 53 32 = some (.bipush (64), 34, 0, 0) := by decide +kernel
theorem ee53_34 : fx_tab 53 34 = some (.newarray .boolean, 36, 71, 0) := by decide +kernel
theorem ee53_36 : fx_tab 53 36 = some (.putfield 22, 39, 196, 71) := by decide +kernel
theorem ee53_39 : fx_tab 53 39 = some (.aload_n 0, 40, 0, 0) := by decide +kernel
theorem ee53_40 : fx_tab 53 40 = some (.bipush (64), 42, 0, 0) := by decide +kernel
theorem ee53_42 : fx_tab 53 42 = some (.newarray .int, 44, 70, 0) := by decide +kernel
theorem ee53_44 : fx_tab 53 44 = some (.putfield 25, 47, 197, 70) := by decide +kernel
theorem ee53_47 : fx_tab 53 47 = some (.return_, 48, 0, 0) := by decide +kernel
theorem ee54_0 : fx_tab 54 0 = some (.aload_n 0, 1, 0, 0) := by decide +kernel
theorem ee54_1 : fx_tab 54 1 = some (.iload_n 1, 2, 1, 0) := by decide +kernel
theorem ee54_2 : fx_tab 54 2 = some (.iload_n 1, 3, 1, 0) := by decide +kernel
theorem ee54_3 : fx_tab 54 3 = some (.imul, 4, 0, 0) := by decide +kernel
theorem ee54_4 : fx_tab 54 4 = some (.putfield 28, 7, 192, 0) := by decide +kernel
theorem ee54_7 : fx_tab 54 7 = some (.iconst (0), 8, 0, 0) := by decide +kernel
theorem ee54_8 : fx_tab 54 8 = some (.istore_n 2, 9, 2, 0) := by decide +kernel
theorem ee54_9 : fx_tab 54 9 = some (.iload_n 2, 10, 2, 0) := by decide +kernel
theorem ee54_10 : fx_tab 54 10 = some (.aload_n 0, 11, 0, 0) := by decide +kernel
theorem ee54_11 : fx_tab 54 11 = some (.getfield 28, 14, 192, 0) := by decide +kernel
theorem ee54_14 : fx_tab 54 14 = some (.if_icmp .ge (127), 17, 141, 0) := by decide +kernel
theorem ee54_17 : fx_tab 54 17 = some (.iload_n 2, 18, 2, 0) := by decide +kernel
theorem ee54_18 : fx_tab 54 18 = some (.iload_n 1, 19, 1, 0) := by decide +kernel
theorem ee54_19 : fx_tab 54 19 = some (.irem, 20, 0, 0) := by decide +kernel
theorem ee54_20 : fx_tab 54 20 = some (.istore_n 3, 21, 3, 0) := by decide +kernel
theorem ee54_21 : fx_tab 54 21 = some (.iload_n 2, 22, 2, 0) := by decide +kernel
theorem ee54_22 : fx_tab 54 22 = some (.iload_n 1, 23, 1, 0) := by decide +kernel
theorem ee54_23 : fx_tab 54 23 = some (.idiv, 24, 0, 0) := by decide +kernel
theorem ee54_24 : fx_tab 54 24 = some (.istore 4, 26, 4, 0) := by decide +kernel
theorem ee54_26 : fx_tab 54 26 = some (.aload_n 0, 27, 0, 0) := by decide +kernel
theorem ee54_27 : fx_tab 54 27 = some (.getfield 9, 30, 193, 70) := by decide +kernel
theorem ee54_30 : fx_tab 54 30 = some (.iload_n 2, 31, 2, 0) := by decide +kernel
theorem ee54_31 : fx_tab 54 31 = some (.iconst (4), 32, 0, 0) := by decide +kernel
theorem ee54_32 : fx_tab 54 32 = some (.imul, 33, 0, 0) := by decide +kernel
theorem ee54_33 : fx_tab 54 33 = some (.iload 4, 35, 4, 0) := by decide +kernel
theorem ee54_35 : fx_tab 54 35 = some (.iload_n 1, 36, 1, 0) := by decide +kernel
theorem ee54_36 : fx_tab 54 36 = some (.imul, 37, 0, 0) := by decide +kernel
theorem ee54_37 : fx_tab 54 37 = some (.iload_n 3, 38, 3, 0) := by decide +kernel
theorem ee54_38 : fx_tab 54 38 = some (.iconst (1), 39, 0, 0) := by decide +kernel
theorem ee54_39 : fx_tab 54 39 = some (.iadd, 40, 0, 0) := by decide +kernel
theorem ee54_40 : fx_tab 54 40 = some (.iload_n 1, 41, 1, 0) := by decide +kernel
theorem ee54_41 : fx_tab 54 41 = some (.irem, 42, 0, 0) := by decide +kernel
theorem ee54_42 : fx_tab 54 42 = some (.iadd, 43, 0, 0) := by decide +kernel
theorem ee54_43 : fx_tab 54 43 = some (.iastore, 44, 0, 0) := by decide +kernel
theorem ee54_44 : fx_tab 54 44 = some (.aload_n 0, 45, 0, 0) := by decide +kernel
theorem ee54_45 : fx_tab 54 45 = some (.getfield 9, 48, 193, 70) := by decide +kernel
theorem ee54_48 : fx_tab 54 48 = some (.iload_n 2, 49, 2, 0) := by decide +kernel
theorem ee54_49 : fx_tab 54 49 = some (.iconst (4), 50, 0, 0) := by decide +kernel
theorem ee54_50 : fx_tab 54 50 = some (.imul, 51, 0, 0) := by decide +kernel
theorem ee54_51 : fx_tab 54 51 = some (.iconst (1), 52, 0, 0) := by decide +kernel
theorem ee54_52 : fx_tab 54 52 = some (.iadd, 53, 0, 0) := by decide +kernel
theorem ee54_53 : fx_tab 54 53 = some (.iload 4, 55, 4, 0) := by decide +kernel
theorem ee54_55 : fx_tab 54 55 = some (.iload_n 1, 56, 1, 0) := by decide +kernel
theorem ee54_56 : fx_tab 54 56 = some (.imul, 57, 0, 0) := by decide +kernel
theorem ee54_57 : fx_tab 54 57 = some (.iload_n 3, 58, 3, 0) := by decide +kernel
theorem ee54_58 : fx_tab 54 58 = some (.iload_n 1, 59, 1, 0) := by decide +kernel
theorem ee54_59 : fx_tab 54 59 = some (.iadd, 60, 0, 0) := by decide +kernel
theorem ee54_60 : fx_tab 54 60 = some (.iconst (1), 61, 0, 0) := by decide +kernel
theorem ee54_61 : fx_tab 54 61 = some (.isub, 62, 0, 0) := by decide +kernel
theorem ee54_62 : fx_tab 54 62 = some (.iload_n 1, 63, 1, 0) := by decide +kernel
theorem ee54_63 : fx_tab 54 63 = some (.irem, 64, 0, 0) := by decide +kernel
theorem ee54_64 : fx_tab 54 64 = some (.iadd, 65, 0, 0) := by decide +kernel
theorem ee54_65 : fx_tab 54 65 = some (.iastore, 66, 0, 0) := by decide +kernel
theorem ee54_66 : fx_tab 54 66 = some (.aload_n 0, 67, 0, 0) := by decide +kernel
theorem ee54_67 : fx_tab 54 67 = some (.getfield 9, 70, 193, 70) := by decide +kernel
theorem ee54_70 : fx_tab 54 70 = some (.iload_n 2, 71, 2, 0) := by decide +kernel
theorem ee54_71 : fx_tab 54 71 = some (.iconst (4), 72, 0, 0) := by decide +kernel
theorem ee54_72 : fx_tab 54 72 = some (.imul, 73, 0, 0) := by decide +kernel
theorem ee54_73 : fx_tab 54 73 = some (.iconst (2), 74, 0, 0) := by decide +kernel
theorem ee54_74 : fx_tab 54 74 = some (.iadd, 75, 0, 0) := by decide +kernel
theorem ee54_75 : fx_tab 54 75 = some (.iload 4, 77, 4, 0) := by decide +kernel
theorem ee54_77 : fx_tab 54 77 = some (.iconst (1), 78, 0, 0) := by decide +kernel
theorem ee54_78 : fx_tab 54 78 = some (.iadd, 79, 0, 0) := by decide +kernel
theorem ee54_79 : fx_tab 54 79 = some (.iload_n 1, 80, 1, 0) := by decide +kernel
theorem ee54_80 : fx_tab 54 80 = some (.irem, 81, 0, 0) := by decide +kernel
theorem ee54_81 : fx_tab 54 81 = some (.iload_n 1, 82, 1, 0) := by decide +kernel
theorem ee54_82 : fx_tab 54 82 = some (.imul, 83, 0, 0) := by decide +kernel
theorem ee54_83 : fx_tab 54 83 = some (.iload_n 3, 84, 3, 0) := by decide +kernel
theorem ee54_84 : fx_tab 54 84 = some (.iadd, 85, 0, 0) := by decide +kernel
theorem ee54_85 : fx_tab 54 85 = some (.iastore, 86, 0, 0) := by decide +kernel
theorem ee54_86 : fx_tab 54 86 = some (.aload_n 0, 87, 0, 0) := by decide +kernel
theorem ee54_87 : fx_tab 54 87 = some (.getfield 9, 90, 193, 70) := by decide +kernel
theorem ee54_90 : fx_tab 54 90 = some (.iload_n 2, 91, 2, 0) := by decide +kernel
theorem ee54_91 : fx_tab 54 91 = some (.iconst (4), 92, 0, 0) := by decide +kernel
theorem ee54_92 : fx_tab 54 92 = some (.imul, 93, 0, 0) := by decide +kernel
theorem ee54_93 : fx_tab 54 93 = some (.iconst (3), 94, 0, 0) := by decide +kernel
theorem ee54_94 : fx_tab 54 94 = some (.iadd, 95, 0, 0) := by decide +kernel
theorem ee54_95 : fx_tab 54 95 = some (.iload 4, 97, 4, 0) := by decide +kernel
theorem ee54_97 : fx_tab 54 97 = some (.iload_n 1, 98, 1, 0) := by decide +kernel
theorem ee54_98 : fx_tab 54 98 = some (.iadd, 99, 0, 0) := by decide +kernel
theorem ee54_99 : fx_tab 54 99 = some (.iconst (1), 100, 0, 0) := by decide +kernel
theorem ee54_100 : fx_tab 54 100 = some (.isub, 101, 0, 0) := by decide +kernel
theorem ee54_101 : fx_tab 54 101 = some (.iload_n 1, 102, 1, 0) := by decide +kernel
theorem ee54_102 : fx_tab 54 102 = some (.irem, 103, 0, 0) := by decide +kernel
theorem ee54_103 : fx_tab 54 103 = some (.iload_n 1, 104, 1, 0) := by decide +kernel
theorem ee54_104 : fx_tab 54 104 = some (.imul, 105, 0, 0) := by decide +kernel
theorem ee54_105 : fx_tab 54 105 = some (.iload_n 3, 106, 3, 0) := by decide +kernel
theorem ee54_106 : fx_tab 54 106 = some (.iadd, 107, 0, 0) := by decide +kernel
theorem ee54_107 : fx_tab 54 107 = some (.iastore, 108, 0, 0) := by decide +kernel
theorem ee54_108 : fx_tab 54 108 = some (.iconst (0), 109, 0, 0) := by decide +kernel
theorem ee54_109 : fx_tab 54 109 = some (.istore 5, 111, 5, 0) := by decide +kernel
theorem ee54_111 : fx_tab 54 111 = some (.iload 5, 113, 5, 0) := by decide +kernel
theorem ee54_113 : fx_tab 54 113 = some (.iconst (4), 114, 0, 0) := by decide +kernel
theorem ee54_114 : fx_tab 54 114 = some (.if_icmp .ge (21), 117, 135, 0) := by decide +kernel
theorem ee54_117 : fx_tab 54 117 = some (.aload_n 0, 118, 0, 0) := by decide +kernel
theorem ee54_118 : fx_tab 54 118 = some (.getfield 15, 121, 194, 71) := by decide +kernel
theorem ee54_121 : fx_tab 54 121 = some (.iload_n 2, 122, 2, 0) := by decide +kernel
theorem ee54_122 : fx_tab 54 122 = some (.iconst (4), 123, 0, 0) := by decide +kernel
theorem ee54_123 : fx_tab 54 123 = some (.imul, 124, 0, 0) := by decide +kernel
theorem ee54_124 : fx_tab 54 124 = some (.iload 5, 126, 5, 0) := by decide +kernel
theorem ee54_126 : fx_tab 54 126 = some (.iadd, 127, 0, 0) := by decide +kernel
theorem ee54_127 : fx_tab 54 127 = some (.iconst (1), 128, 0, 0) := by decide +kernel
theorem ee54_128 : fx_tab 54 128 = some (.bastore, 129, 0, 0) := by decide +kernel
theorem ee54_129 : fx_tab 54 129 = some (.iinc 5 (1), 132, 5, 0) := by decide +kernel
theorem ee54_132 : fx_tab 54 132 = some (.goto (-21), 135, 111, 0) := by decide +kernel
theorem ee54_135 : fx_tab 54 135 = some (.iinc 2 (1), 138, 2, 0) := by decide +kernel
theorem ee54_138 : fx_tab 54 138 = some (.goto (-129), 141, 9, 0) := by decide +kernel
theorem ee54_141 : fx_tab 54 141 = some (.aload_n 0, 142, 0, 0) := by decide +kernel
theorem ee54_142 : fx_tab 54 142 = some (.invokevirtual 32, 145, 4, 209) := by decide +kernel
theorem ee54_145 : fx_tab 54 145 = some (.return_, 146, 0, 0) := by decide +kernel
theorem ee55_0 : fx_tab 55 0 = some (.iconst (0), 1, 0, 0) := by decide +kernel
theorem ee55_1 : fx_tab 55 1 = some (.istore_n 2, 2, 2, 0) := by decide +kernel
theorem ee55_2 : fx_tab 55 2 = some (.iconst (0), 3, 0, 0) := by decide +kernel
theorem ee55_3 : fx_tab 55 3 = some (.istore_n 3, 4, 3, 0) := by decide +kernel
theorem ee55_4 : fx_tab 55 4 = some (.iload_n 3, 5, 3, 0) := by decide +kernel
theorem ee55_5 : fx_tab 55 5 = some (.iconst (4), 6, 0, 0) := by decide +kernel
theorem ee55_6 : fx_tab 55 6 = some (.if_icmp .ge (21), 9, 27, 0) := by decide +kernel
theorem ee55_9 : fx_tab 55 9 = some (.aload_n 0, 10, 0, 0) := by decide +kernel
theorem ee55_10 : fx_tab 55 10 = some (.iload_n 1, 11, 1, 0) := by decide +kernel
theorem ee55_11 : fx_tab 55 11 = some (.iload_n 3, 12, 3, 0) := by decide +kernel
theorem ee55_12 : fx_tab 55 12 = some (.invokevirtual 35, 15, 6, 211) := by decide +kernel
theorem ee55_15 : fx_tab 55 15 = some (.ifCond .eq (6), 18, 21, 0) := by decide +kernel
theorem ee55_18 : fx_tab 55 18 = some (.iinc 2 (1), 21, 2, 0) := by decide +kernel
theorem ee55_21 : fx_tab 55 21 = some (.iinc 3 (1), 24, 3, 0) := by decide +kernel
theorem ee55_24 : fx_tab 55 24 = some (.goto (-20), 27, 4, 0) := by decide +kernel
theorem ee55_27 : fx_tab 55 27 = some (.iload_n 2, 28, 2, 0) := by decide +kernel
theorem ee55_28 : fx_tab 55 28 = some (.ireturn, 29, 0, 0) := by decide +kernel
theorem ee56_0 : fx_tab 56 0 = some (.aload_n 0, 1, 0, 0) := by decide +kernel
theorem ee56_1 : fx_tab 56 1 = some (.getfield 15, 4, 194, 71) := by decide +kernel
theorem ee56_4 : fx_tab 56 4 = some (.iload_n 1, 5, 1, 0) := by decide +kernel
theorem ee56_5 : fx_tab 56 5 = some (.iconst (4), 6, 0, 0) := by decide +kernel
theorem ee56_6 : fx_tab 56 6 = some (.imul, 7, 0, 0) := by decide +kernel
theorem ee56_7 : fx_tab 56 7 = some (.iload_n 2, 8, 2, 0) := by decide +kernel
theorem ee56_8 : fx_tab 56 8 = some (.iadd, 9, 0, 0) := by decide +kernel
theorem ee56_9 : fx_tab 56 9 = some (.iload_n 3, 10, 3, 0) := by decide +kernel
theorem ee56_10 : fx_tab 56 10 = some (.bastore, 11, 0, 0) := by decide +kernel
theorem ee56_11 : fx_tab 56 11 = some (.aload_n 0, 12, 0, 0) := by decide +kernel
theorem ee56_12 : fx_tab 56 12 = some (.getfield 15, 15, 194, 71) := by decide +kernel
theorem ee56_15 : fx_tab 56 15 = some (.aload_n 0, 16, 0, 0) := by decide +kernel
theorem ee56_16 : fx_tab 56 16 = some (.iload_n 1, 17, 1, 0) := by decide +kernel
theorem ee56_17 : fx_tab 56 17 = some (.iload_n 2, 18, 2, 0) := by decide +kernel
theorem ee56_18 : fx_tab 56 18 = some (.invokevirtual 39, 21, 2, 211) := by decide +kernel
theorem ee56_21 : fx_tab 56 21 = some (.iconst (4), 22, 0, 0) := by decide +kernel
theorem ee56_22 : fx_tab 56 22 = some (.imul, 23, 0, 0) := by decide +kernel
theorem ee56_23 : fx_tab 56 23 = some (.iload_n 2, 24, 2, 0) := by decide +kernel
theorem ee56_24 : fx_tab 56 24 = some (.invokestatic 43, 27, 7, 1) := by decide +kernel
theorem ee56_27 : fx_tab 56 27 = some (.iadd, 28, 0, 0) := by decide +kernel
theorem ee56_28 : fx_tab 56 28 = some (.iload_n 3, 29, 3, 0) := by decide +kernel
theorem ee56_29 : fx_tab 56 29 = some (.bastore, 30, 0, 0) := by decide +kernel
theorem ee56_30 : fx_tab 56 30 = some (.aload_n 0, 31, 0, 0) := by decide +kernel
theorem ee56_31 : fx_tab 56 31 = some (.invokevirtual 32, 34, 4, 209) := by decide +kernel
theorem ee56_34 : fx_tab 56 34 = some (.return_, 35, 0, 0) := by decide +kernel
theorem ee57_0 : fx_tab 57 0 = some (.aload_n 0, 1, 0, 0) := by decide +kernel
theorem ee57_1 : fx_tab 57 1 = some (.getfield 22, 4, 196, 71) := by decide +kernel
theorem ee57_4 : fx_tab 57 4 = some (.iload_n 2, 5, 2, 0) := by decide +kernel
theorem ee57_5 : fx_tab 57 5 = some (.baload, 6, 0, 0) := by decide +kernel
theorem ee57_6 : fx_tab 57 6 = some (.ifCond .ne (8), 9, 14, 0) := by decide +kernel
theorem ee57_9 : fx_tab 57 9 = some (.aload_n 0, 10, 0, 0) := by decide +kernel
theorem ee57_10 : fx_tab 57 10 = some (.iload_n 2, 11, 2, 0) := by decide +kernel
theorem ee57_11 : fx_tab 57 11 = some (.invokevirtual 57, 14, 3, 210) := by decide +kernel
theorem ee57_14 : fx_tab 57 14 = some (.aload_n 0, 15, 0, 0) := by decide +kernel
theorem ee57_15 : fx_tab 57 15 = some (.getfield 19, 18, 195, 70) := by decide +kernel
theorem ee57_18 : fx_tab 57 18 = some (.iload_n 2, 19, 2, 0) := by decide +kernel
theorem ee57_19 : fx_tab 57 19 = some (.bipush (64), 21, 0, 0) := by decide +kernel
theorem ee57_21 : fx_tab 57 21 = some (.imul, 22, 0, 0) := by decide +kernel
theorem ee57_22 : fx_tab 57 22 = some (.iload_n 1, 23, 1, 0) := by decide +kernel
theorem ee57_23 : fx_tab 57 23 = some (.iadd, 24, 0, 0) := by decide +kernel
theorem ee57_24 : fx_tab 57 24 = some (.iaload, 25, 0, 0) := by decide +kernel
theorem ee57_25 : fx_tab 57 25 = some (.ireturn, 26, 0, 0) := by decide +kernel
theorem ee58_0 : fx_tab 58 0 = some (.aload_n 0, 1, 0, 0) := by decide +kernel
theorem ee58_1 : fx_tab 58 1 = some (.invokespecial 3, 4, 1000, 0) := by decide +kernel
theorem ee58_4 : fx_tab 58 4 = some (.aload_n 0, 5, 0, 0) := by decide +kernel
theorem ee58_5 : fx_tab 58 5 = some (.bipush (8), 7, 0, 0) := by decide +kernel
theorem ee58_7 : fx_tab 58 7 = some (.anewarray 9, 10, 2, 91) := by decide +kernel
theorem ee58_10 : fx_tab 58 10 = some (.putfield 11, 13, 332, 42) := by decide +kernel
theorem ee58_13 : fx_tab 58 13 = some (.return_, 14, 0, 0) := by decide +kernel
theorem ee59_0 : fx_tab 59 0 = some (.aload_n 0, 1, 0, 0) := by decide +kernel
theorem ee59_1 : fx_tab 59 1 = some (.invokespecial 1, 4, 1000, 0) := by decide +kernel
theorem ee59_4 : fx_tab 59 4 = some (.return_, 5, 0, 0) := by decide +kernel
theorem ee60_0 : fx_tab 60 0 = some (.aload_n 0, 1, 0, 0) := by decide +kernel
theorem ee60_1 : fx_tab 60 1 = some (.invokespecial 3, 4, 1000, 0) := by decide +kernel
theorem ee60_4 : fx_tab 60 4 = some (.return_, 5, 0, 0) := by decide +kernel
theorem ee61_0 : fx_tab 61 0 = some (.aload_n 0, 1, 0, 0) := by decide +kernel
theorem ee61_1 : fx_tab 61 1 = some (.aload_n 1, 2, 1, 0) := by decide +kernel
theorem ee61_2 : fx_tab 61 2 = some (.invokevirtual 25, 5, 14, 274) := by decide +kernel
theorem ee61_5 : fx_tab 61 5 = some (.ifCond .ne (11), 8, 16, 0) := by decide +kernel
theorem ee61_8 : fx_tab 61 8 = some (.aload_n 0, 9, 0, 0) := by decide +kernel
theorem ee61_9 : fx_tab 61 9 = some (.aload_n 2, 10, 2, 0) := by decide +kernel
theorem ee61_10 : fx_tab 61 10 = some (.invokevirtual 25, 13, 14, 274) := by decide +kernel
theorem ee61_13 : fx_tab 61 13 = some (.ifCond .eq (9), 16, 22, 0) := by decide +kernel
theorem ee61_16 : fx_tab 61 16 = some (.aload_n 0, 17, 0, 0) := by decide +kernel
theorem ee61_17 : fx_tab 61 17 = some (.aload_n 1, 18, 1, 0) := by decide +kernel
theorem ee61_18 : fx_tab 61 18 = some (.invokevirtual 25, 21, 14, 274) := by decide +kernel
theorem ee61_21 : fx_tab 61 21 = some (.ireturn, 22, 0, 0) := by decide +kernel
theorem ee61_22 : fx_tab 61 22 = some (.aload_n 1, 23, 1, 0) := by decide +kernel
theorem ee61_23 : fx_tab 61 23 = some (.getfield 29, 26, 130, 0) := by decide +kernel
theorem ee61_26 : fx_tab 61 26 = some (.aload_n 2, 27, 2, 0) := by decide +kernel
theorem ee61_27 : fx_tab 61 27 = some (.getfield 29, 30, 130, 0) := by decide +kernel
theorem ee61_30 : fx_tab 61 30 = some (.if_icmp .eq (20), 33, 50, 0) := by decide +kernel
theorem ee61_33 : fx_tab 61 33 = some (.aload_n 1, 34, 1, 0) := by decide +kernel
theorem ee61_34 : fx_tab 61 34 = some (.getfield 29, 37, 130, 0) := by decide +kernel
theorem ee61_37 : fx_tab 61 37 = some (.aload_n 2, 38, 2, 0) := by decide +kernel
theorem ee61_38 : fx_tab 61 38 = some (.getfield 29, 41, 130, 0) := by decide +kernel
theorem ee61_41 : fx_tab 61 41 = some (.if_icmp .ge (7), 44, 48, 0) := by decide +kernel
theorem ee61_44 : fx_tab 61 44 = some (.iconst (1), 45, 0, 0) := by decide +kernel
theorem ee61_45 : fx_tab 61 45 = some (.goto (4), 48, 49, 0) := by decide +kernel
theorem ee61_48 : fx_tab 61 48 = some (.iconst (0), 49, 0, 0) := by decide +kernel
theorem ee61_49 : fx_tab 61 49 = some (.ireturn, 50, 0, 0) := by decide +kernel
theorem ee61_50 : fx_tab 61 50 = some (.aload_n 1, 51, 1, 0) := by decide +kernel
theorem ee61_51 : fx_tab 61 51 = some (.getfield 34, 54, 128, 15) := by decide +kernel
theorem ee61_54 : fx_tab 61 54 = some (.getfield 38, 57, 320, 0) := by decide +kernel
theorem ee61_57 : fx_tab 61 57 = some (.aload_n 2, 58, 2, 0) := by decide +kernel
theorem ee61_58 : fx_tab 61 58 = some (.getfield 34, 61, 128, 15) := by decide +kernel
theorem ee61_61 : fx_tab 61 61 = some (.getfield 38, 64, 320, 0) := by decide +kernel
theorem ee61_64 : fx_tab 61 64 = some (.if_icmp .eq (26), 67, 90, 0) := by decide +kernel
theorem ee61_67 : fx_tab 61 67 = some (.aload_n 1, 68, 1, 0) := by decide +kernel
theorem ee61_68 : fx_tab 61 68 = some (.getfield 34, 71, 128, 15) := by decide +kernel
theorem ee61_71 : fx_tab 61 71 = some (.getfield 38, 74, 320, 0) := by decide +kernel
theorem ee61_74 : fx_tab 61 74 = some (.aload_n 2, 75, 2, 0) := by decide +kernel
theorem ee61_75 : fx_tab 61 75 = some (.getfield 34, 78, 128, 15) := by decide +kernel
theorem ee61_78 : fx_tab 61 78 = some (.getfield 38, 81, 320, 0) := by decide +kernel
theorem ee61_81 : fx_tab 61 81 = some (.if_icmp .ge (7), 84, 88, 0) := by decide +kernel
theorem ee61_84 : fx_tab 61 84 = some (.iconst (1), 85, 0, 0) := by decide +kernel
theorem ee61_85 : fx_tab 61 85 = some (.goto (4), 88, 89, 0) := by decide +kernel
theorem ee61_88 : fx_tab 61 88 = some (.iconst (0), 89, 0, 0) := by decide +kernel
theorem ee61_89 : fx_tab 61 89 = some (.ireturn, 90, 0, 0) := by decide +kernel
theorem ee61_90 : fx_tab 61 90 = some (.aload_n 1, 91, 1, 0) := by decide +kernel
theorem ee61_91 : fx_tab 61 91 = some (.getfield 34, 94, 128, 15) := by decide +kernel
theorem ee61_94 : fx_tab 61 94 = some (.getfield 43, 97, 324, 0) := by decide +kernel
theorem ee61_97 : fx_tab 61 97 = some (.aload_n 2, 98, 2, 0) := by decide +kernel
theorem ee61_98 : fx_tab 61 98 = some (.getfield 34, 101, 128, 15) := by decide +kernel
theorem ee61_101 : fx_tab 61 101 = some (.getfield 43, 104, 324, 0) := by decide +kernel
theorem ee61_104 : fx_tab 61 104 = some (.if_icmp .eq (26), 107, 130, 0) := by decide +kernel
theorem ee61_107 : fx_tab 61 107 = some (.aload_n 1, 108, 1, 0) := by decide +kernel
theorem ee61_108 : fx_tab 61 108 = some (.getfield 34, 111, 128, 15) := by decide +kernel
theorem ee61_111 : fx_tab 61 111 = some (.getfield 43, 114, 324, 0) := by decide +kernel
theorem ee61_114 : fx_tab 61 114 = some (.aload_n 2, 115, 2, 0) := by decide +kernel
theorem ee61_115 : fx_tab 61 115 = some (.getfield 34, 118, 128, 15) := by decide +kernel
theorem ee61_118 : fx_tab 61 118 = some (.getfield 43, 121, 324, 0) := by decide +kernel
theorem ee61_121 : fx_tab 61 121 = some (.if_icmp .ge (7), 124, 128, 0) := by decide +kernel
theorem ee61_124 : fx_tab 61 124 = some (.iconst (1), 125, 0, 0) := by decide +kernel
theorem ee61_125 : fx_tab 61 125 = some (.goto (4), 128, 129, 0) := by decide +kernel
theorem ee61_128 : fx_tab 61 128 = some (.iconst (0), 129, 0, 0) := by decide +kernel
theorem ee61_129 : fx_tab 61 129 = some (.ireturn, 130, 0, 0) := by decide +kernel
theorem ee61_130 : fx_tab 61 130 = some (.aload_n 1, 131, 1, 0) := by decide +kernel
theorem ee61_131 : fx_tab 61 131 = some (.getfield 46, 134, 129, 0) := by decide +kernel
theorem ee61_134 : fx_tab 61 134 = some (.aload_n 2, 135, 2, 0) := by decide +kernel
theorem ee61_135 : fx_tab 61 135 = some (.getfield 46, 138, 129, 0) := by decide +kernel
theorem ee61_138 : fx_tab 61 138 = some (.if_icmp .ge (7), 141, 145, 0) := by decide +kernel
theorem ee61_141 : fx_tab 61 141 = some (.iconst (1), 142, 0, 0) := by decide +kernel
theorem ee61_142 : fx_tab 61 142 = some (.goto (4), 145, 146, 0) := by decide +kernel
theorem ee61_145 : fx_tab 61 145 = some (.iconst (0), 146, 0, 0) := by decide +kernel
theorem ee61_146 : fx_tab 61 146 = some (.ireturn, 147, 0, 0) := by decide +kernel
theorem ee62_0 : fx_tab 62 0 = some (.aload_n 0, 1, 0, 0) := by decide +kernel
theorem ee62_1 : fx_tab 62 1 = some (.getfield 12, 4, 512, 20) := by decide +kernel
theorem ee62_4 : fx_tab 62 4 = some (.invokevirtual 36, 7, 20, 321) := by decide +kernel
theorem ee62_7 : fx_tab 62 7 = some (.aload_n 0, 8, 0, 0) := by decide +kernel
theorem ee62_8 : fx_tab 62 8 = some (.iconst (0), 9, 0, 0) := by decide +kernel
theorem ee62_9 : fx_tab 62 9 = some (.putfield 39, 12, 513, 0) := by decide +kernel
theorem ee62_12 : fx_tab 62 12 = some (.aload_n 0, 13, 0, 0) := by decide +kernel
theorem ee62_13 : fx_tab 62 13 = some (.iconst (0), 14, 0, 0) := by decide +kernel
theorem ee62_14 : fx_tab 62 14 = some (.putfield 43, 17, 515, 1) := by decide +kernel
theorem ee62_17 : fx_tab 62 17 = some (.iconst (0), 18, 0, 0) := by decide +kernel
theorem ee62_18 : fx_tab 62 18 = some (.istore_n 1, 19, 1, 0) := by decide +kernel
theorem ee62_19 : fx_tab 62 19 = some (.iload_n 1, 20, 1, 0) := by decide +kernel
theorem ee62_20 : fx_tab 62 20 = some (.iconst (4), 21, 0, 0) := by decide +kernel
theorem ee62_21 : fx_tab 62 21 = some (.if_icmp .ge (18), 24, 39, 0) := by decide +kernel
theorem ee62_24 : fx_tab 62 24 = some (.aload_n 0, 25, 0, 0) := by decide +kernel
theorem ee62_25 : fx_tab 62 25 = some (.getfield 27, 28, 516, 46) := by decide +kernel
theorem ee62_28 : fx_tab 62 28 = some (.iload_n 1, 29, 1, 0) := by decide +kernel
theorem ee62_29 : fx_tab 62 29 = some (.aaload, 30, 0, 0) := by decide +kernel
theorem ee62_30 : fx_tab 62 30 = some (.invokevirtual 47, 33, 11, 257) := by decide +kernel
theorem ee62_33 : fx_tab 62 33 = some (.iinc 1 (1), 36, 1, 0) := by decide +kernel
theorem ee62_36 : fx_tab 62 36 = some (.goto (-17), 39, 19, 0) := by decide +kernel
theorem ee62_39 : fx_tab 62 39 = some (.return_, 40, 0, 0) := by decide +kernel
theorem ee63_0 : fx_tab 63 0 = some (.iconst (0), 1, 0, 0) := by decide +kernel
theorem ee63_1 : fx_tab 63 1 = some (.istore_n 1, 2, 1, 0) := by decide +kernel
theorem ee63_2 : fx_tab 63 2 = some (.iload_n 1, 3, 1, 0) := by decide +kernel
theorem ee63_3 : fx_tab 63 3 = some (.iconst (4), 4, 0, 0) := by decide +kernel
theorem ee63_4 : fx_tab 63 4 = some (.if_icmp .ge (28), 7, 32, 0) := by decide +kernel
theorem ee63_7 : fx_tab 63 7 = some (.aload_n 0, 8, 0, 0) := by decide +kernel
theorem ee63_8 : fx_tab 63 8 = some (.getfield 27, 11, 516, 46) := by decide +kernel
theorem ee63_11 : fx_tab 63 11 = some (.iload_n 1, 12, 1, 0) := by decide +kernel
theorem ee63_12 : fx_tab 63 12 = some (.aaload, 13, 0, 0) := by decide +kernel
theorem ee63_13 : fx_tab 63 13 = some (.invokevirtual 68, 16, 12, 257) := by decide +kernel
theorem ee63_16 : fx_tab 63 16 = some (.ifCond .eq (10), 19, 26, 0) := by decide +kernel
theorem ee63_19 : fx_tab 63 19 = some (.aload_n 0, 20, 0, 0) := by decide +kernel
theorem ee63_20 : fx_tab 63 20 = some (.getfield 27, 23, 516, 46) := by decide +kernel
theorem ee63_23 : fx_tab 63 23 = some (.iload_n 1, 24, 1, 0) := by decide +kernel
theorem ee63_24 : fx_tab 63 24 = some (.aaload, 25, 0, 0) := by decide +kernel
theorem ee63_25 : fx_tab 63 25 = some (.areturn, 26, 0, 0) := by decide +kernel
theorem ee63_26 : fx_tab 63 26 = some (.iinc 1 (1), 29, 1, 0) := by decide +kernel
theorem ee63_29 : fx_tab 63 29 = some (.goto (-27), 32, 2, 0) := by decide +kernel
theorem ee63_32 : fx_tab 63 32 = some (.aconst_null, 33, 0, 0) := by decide +kernel
theorem ee63_33 : fx_tab 63 33 = some (.areturn, 34, 0, 0) := by decide +kernel
theorem ee64_0 : fx_tab 64 0 = some (.iconst (0), 1, 0, 0) := by decide +kernel
theorem ee64_1 : fx_tab 64 1 = some (.istore_n 2, 2, 2, 0) := by decide +kernel
theorem ee64_2 : fx_tab 64 2 = some (.iload_n 2, 3, 2, 0) := by decide +kernel
theorem ee64_3 : fx_tab 64 3 = some (.iconst (4), 4, 0, 0) := by decide +kernel
theorem ee64_4 : fx_tab 64 4 = some (.if_icmp .ge (48), 7, 52, 0) := by decide +kernel
theorem ee64_7 : fx_tab 64 7 = some (.aload_n 0, 8, 0, 0) := by decide +kernel
theorem ee64_8 : fx_tab 64 8 = some (.getfield 27, 11, 516, 46) := by decide +kernel
theorem ee64_11 : fx_tab 64 11 = some (.iload_n 2, 12, 2, 0) := by decide +kernel
theorem ee64_12 : fx_tab 64 12 = some (.aaload, 13, 0, 0) := by decide +kernel
theorem ee64_13 : fx_tab 64 13 = some (.getfield 48, 16, 384, 15) := by decide +kernel
theorem ee64_16 : fx_tab 64 16 = some (.aload_n 1, 17, 1, 0) := by decide +kernel
theorem ee64_17 : fx_tab 64 17 = some (.getfield 52, 20, 128, 15) := by decide +kernel
theorem ee64_20 : fx_tab 64 20 = some (.if_acmp .ne (26), 23, 46, 0) := by decide +kernel
theorem ee64_23 : fx_tab 64 23 = some (.aload_n 0, 24, 0, 0) := by decide +kernel
theorem ee64_24 : fx_tab 64 24 = some (.getfield 27, 27, 516, 46) := by decide +kernel
theorem ee64_27 : fx_tab 64 27 = some (.iload_n 2, 28, 2, 0) := by decide +kernel
theorem ee64_28 : fx_tab 64 28 = some (.aaload, 29, 0, 0) := by decide +kernel
theorem ee64_29 : fx_tab 64 29 = some (.getfield 55, 32, 385, 0) := by decide +kernel
theorem ee64_32 : fx_tab 64 32 = some (.aload_n 1, 33, 1, 0) := by decide +kernel
theorem ee64_33 : fx_tab 64 33 = some (.getfield 58, 36, 131, 0) := by decide +kernel
theorem ee64_36 : fx_tab 64 36 = some (.if_icmp .ne (10), 39, 46, 0) := by decide +kernel
theorem ee64_39 : fx_tab 64 39 = some (.aload_n 0, 40, 0, 0) := by decide +kernel
theorem ee64_40 : fx_tab 64 40 = some (.getfield 27, 43, 516, 46) := by decide +kernel
theorem ee64_43 : fx_tab 64 43 = some (.iload_n 2, 44, 2, 0) := by decide +kernel
theorem ee64_44 : fx_tab 64 44 = some (.aaload, 45, 0, 0) := by decide +kernel
theorem ee64_45 : fx_tab 64 45 = some (.areturn, 46, 0, 0) := by decide +kernel
theorem ee64_46 : fx_tab 64 46 = some (.iinc 2 (1), 49, 2, 0) := by decide +kernel
theorem ee64_49 : fx_tab 64 49 = some (.goto (-47), 52, 2, 0) := by decide +kernel
theorem ee64_52 : fx_tab 64 52 = some (.aload_n 1, 53, 1, 0) := by decide +kernel
theorem ee64_53 : fx_tab 64 53 = some (.getfield 58, 56, 131, 0) := by decide +kernel
theorem ee64_56 : fx_tab 64 56 = some (.iconst (1), 57, 0, 0) := by decide +kernel
theorem ee64_57 : fx_tab 64 57 = some (.if_icmp .ne (13), 60, 70, 0) := by decide +kernel
theorem ee64_60 : fx_tab 64 60 = some (.aload_n 1, 61, 1, 0) := by decide +kernel
theorem ee64_61 : fx_tab 64 61 = some (.getfield 52, 64, 128, 15) := by decide +kernel
theorem ee64_64 : fx_tab 64 64 = some (.getfield 59, 67, 328, 1) := by decide +kernel
theorem ee64_67 : fx_tab 64 67 = some (.ifCond .eq (5), 70, 72, 0) := by decide +kernel
theorem ee64_70 : fx_tab 64 70 = some (.aconst_null, 71, 0, 0) := by decide +kernel
theorem ee64_71 : fx_tab 64 71 = some (.areturn, 72, 0, 0) := by decide +kernel
theorem ee64_72 : fx_tab 64 72 = some (.iconst (0), 73, 0, 0) := by decide +kernel
theorem ee64_73 : fx_tab 64 73 = some (.istore_n 2, 74, 2, 0) := by decide +kernel
theorem ee64_74 : fx_tab 64 74 = some (.iload_n 2, 75, 2, 0) := by decide +kernel
theorem ee64_75 : fx_tab 64 75 = some (.iconst (4), 76, 0, 0) := by decide +kernel
theorem ee64_76 : fx_tab 64 76 = some (.if_icmp .ge (45), 79, 121, 0) := by decide +kernel
theorem ee64_79 : fx_tab 64 79 = some (.aload_n 0, 80, 0, 0) := by decide +kernel
theorem ee64_80 : fx_tab 64 80 = some (.getfield 27, 83, 516, 46) := by decide +kernel
theorem ee64_83 : fx_tab 64 83 = some (.iload_n 2, 84, 2, 0) := by decide +kernel
theorem ee64_84 : fx_tab 64 84 = some (.aaload, 85, 0, 0) := by decide +kernel
theorem ee64_85 : fx_tab 64 85 = some (.getfield 48, 88, 384, 15) := by decide +kernel
theorem ee64_88 : fx_tab 64 88 = some (.ifnonnull (27), 91, 115, 0) := by decide +kernel
theorem ee64_91 : fx_tab 64 91 = some (.aload_n 0, 92, 0, 0) := by decide +kernel
theorem ee64_92 : fx_tab 64 92 = some (.getfield 27, 95, 516, 46) := by decide +kernel
theorem ee64_95 : fx_tab 64 95 = some (.iload_n 2, 96, 2, 0) := by decide +kernel
theorem ee64_96 : fx_tab 64 96 = some (.aaload, 97, 0, 0) := by decide +kernel
theorem ee64_97 : fx_tab 64 97 = some (.aload_n 1, 98, 1, 0) := by decide +kernel
theorem ee64_98 : fx_tab 64 98 = some (.getfield 52, 101, 128, 15) := by decide +kernel
theorem ee64_101 : fx_tab 64 101 = some (.aload_n 1, 102, 1, 0) := by decide +kernel
theorem ee64_102 : fx_tab 64 102 = some (.getfield 58, 105, 131, 0) := by decide +kernel
theorem ee64_105 : fx_tab 64 105 = some (.invokevirtual 64, 108, 13, 259) := by decide +kernel
theorem ee64_108 : fx_tab 64 108 = some (.aload_n 0, 109, 0, 0) := by decide +kernel
theorem ee64_109 : fx_tab 64 109 = some (.getfield 27, 112, 516, 46) := by decide +kernel
theorem ee64_112 : fx_tab 64 112 = some (.iload_n 2, 113, 2, 0) := by decide +kernel
theorem ee64_113 : fx_tab 64 113 = some (.aaload, 114, 0, 0) := by decide +kernel
theorem ee64_114 : fx_tab 64 114 = some (.areturn, 115, 0, 0) := by decide +kernel
theorem ee64_115 : fx_tab 64 115 = some (.iinc 2 (1), 118, 2, 0) := by decide +kernel
theorem ee64_118 : fx_tab 64 118 = some (.goto (-44), 121, 74, 0) := by decide +kernel
theorem ee64_121 : fx_tab 64 121 = some (.aconst_null, 122, 0, 0) := by decide +kernel
theorem ee64_122 : fx_tab 64 122 = some (.areturn, 123, 0, 0) := by decide +kernel
theorem ee65_0 : fx_tab 65 0 = some (.aload_n 0, 1, 0, 0) := by decide +kernel
theorem ee65_1 : fx_tab 65 1 = some (.invokespecial 1, 4, 1000, 0) := by decide +kernel
theorem ee65_4 : fx_tab 65 4 = some (.return_, 5, 0, 0) := by decide +kernel
theorem ee66_0 : fx_tab 66 0 = some (.aload_n 0, 1, 0, 0) := by decide +kernel
theorem ee66_1 : fx_tab 66 1 = some (.getfield 18, 4, 705, 20) := by decide +kernel
theorem ee66_4 : fx_tab 66 4 = some (.invokevirtual 27, 7, 20, 321) := by decide +kernel
theorem ee66_7 : fx_tab 66 7 = some (.aload_n 0, 8, 0, 0) := by decide +kernel
theorem ee66_8 : fx_tab 66 8 = some (.aconst_null, 9, 0, 0) := by decide +kernel
theorem ee66_9 : fx_tab 66 9 = some (.putfield 30, 12, 709, 15) := by decide +kernel
theorem ee66_12 : fx_tab 66 12 = some (.aload_n 0, 13, 0, 0) := by decide +kernel
theorem ee66_13 : fx_tab 66 13 = some (.getfield 12, 16, 704, 20) := by decide +kernel
theorem ee66_16 : fx_tab 66 16 = some (.invokevirtual 34, 19, 21, 321) := by decide +kernel
theorem ee66_19 : fx_tab 66 19 = some (.astore_n 2, 20, 2, 0) := by decide +kernel
theorem ee66_20 : fx_tab 66 20 = some (.aload_n 2, 21, 2, 0) := by decide +kernel
theorem ee66_21 : fx_tab 66 21 = some (.ifnull (19), 24, 40, 0) := by decide +kernel
theorem ee66_24 : fx_tab 66 24 = some (.aload_n 1, 25, 1, 0) := by decide +kernel
theorem ee66_25 : fx_tab 66 25 = some (.aload_n 2, 26, 2, 0) := by decide +kernel
theorem ee66_26 : fx_tab 66 26 = some (.invokevirtual 38, 29, 19, 322) := by decide +kernel
theorem ee66_29 : fx_tab 66 29 = some (.aload_n 0, 30, 0, 0) := by decide +kernel
theorem ee66_30 : fx_tab 66 30 = some (.getfield 12, 33, 704, 20) := by decide +kernel
theorem ee66_33 : fx_tab 66 33 = some (.invokevirtual 34, 36, 21, 321) := by decide +kernel
theorem ee66_36 : fx_tab 66 36 = some (.astore_n 2, 37, 2, 0) := by decide +kernel
theorem ee66_37 : fx_tab 66 37 = some (.goto (-17), 40, 20, 0) := by decide +kernel
theorem ee66_40 : fx_tab 66 40 = some (.iconst (0), 41, 0, 0) := by decide +kernel
theorem ee66_41 : fx_tab 66 41 = some (.istore_n 3, 42, 3, 0) := by decide +kernel
theorem ee66_42 : fx_tab 66 42 = some (.iload_n 3, 43, 3, 0) := by decide +kernel
theorem ee66_43 : fx_tab 66 43 = some (.bipush (8), 45, 0, 0) := by decide +kernel
theorem ee66_45 : fx_tab 66 45 = some (.if_icmp .ge (35), 48, 80, 0) := by decide +kernel
theorem ee66_48 : fx_tab 66 48 = some (.aload_n 0, 49, 0, 0) := by decide +kernel
theorem ee66_49 : fx_tab 66 49 = some (.getfield 23, 52, 708, 45) := by decide +kernel
theorem ee66_52 : fx_tab 66 52 = some (.iload_n 3, 53, 3, 0) := by decide +kernel
theorem ee66_53 : fx_tab 66 53 = some (.aaload, 54, 0, 0) := by decide +kernel
theorem ee66_54 : fx_tab 66 54 = some (.ifnull (20), 57, 74, 0) := by decide +kernel
theorem ee66_57 : fx_tab 66 57 = some (.aload_n 1, 58, 1, 0) := by decide +kernel
theorem ee66_58 : fx_tab 66 58 = some (.aload_n 0, 59, 0, 0) := by decide +kernel
theorem ee66_59 : fx_tab 66 59 = some (.getfield 23, 62, 708, 45) := by decide +kernel
theorem ee66_62 : fx_tab 66 62 = some (.iload_n 3, 63, 3, 0) := by decide +kernel
theorem ee66_63 : fx_tab 66 63 = some (.aaload, 64, 0, 0) := by decide +kernel
theorem ee66_64 : fx_tab 66 64 = some (.invokevirtual 38, 67, 19, 322) := by decide +kernel
theorem ee66_67 : fx_tab 66 67 = some (.aload_n 0, 68, 0, 0) := by decide +kernel
theorem ee66_68 : fx_tab 66 68 = some (.getfield 23, 71, 708, 45) := by decide +kernel
theorem ee66_71 : fx_tab 66 71 = some (.iload_n 3, 72, 3, 0) := by decide +kernel
theorem ee66_72 : fx_tab 66 72 = some (.aconst_null, 73, 0, 0) := by decide +kernel
theorem ee66_73 : fx_tab 66 73 = some (.aastore, 74, 0, 0) := by decide +kernel
theorem ee66_74 : fx_tab 66 74 = some (.iinc 3 (1), 77, 3, 0) := by decide +kernel
theorem ee66_77 : fx_tab 66 77 = some (.goto (-35), 80, 42, 0) := by decide +kernel
theorem ee66_80 : fx_tab 66 80 = some (.aload_n 0, 81, 0, 0) := by decide +kernel
theorem ee66_81 : fx_tab 66 81 = some (.iconst (0), 82, 0, 0) := by decide +kernel
theorem ee66_82 : fx_tab 66 82 = some (.putfield 42, 85, 706, 0) := by decide +kernel
theorem ee66_85 : fx_tab 66 85 = some (.aload_n 0, 86, 0, 0) := by decide +kernel
theorem ee66_86 : fx_tab 66 86 = some (.iconst (0), 87, 0, 0) := by decide +kernel
theorem ee66_87 : fx_tab 66 87 = some (.putfield 46, 90, 707, 0) := by decide +kernel
theorem ee66_90 : fx_tab 66 90 = some (.return_, 91, 0, 0) := by decide +kernel
theorem ee67_0 : fx_tab 67 0 = some (.aload_n 1, 1, 1, 0) := by decide +kernel
theorem ee67_1 : fx_tab 67 1 = some (.dup, 2, 0, 0) := by decide +kernel
theorem ee67_2 : fx_tab 67 2 = some (.getfield 70, 5, 325, 0) := by decide +kernel
theorem ee67_5 : fx_tab 67 5 = some (.iconst (1), 6, 0, 0) := by decide +kernel
theorem ee67_6 : fx_tab 67 6 = some (.iadd, 7, 0, 0) := by decide +kernel
theorem ee67_7 : fx_tab 67 7 = some (.putfield 70, 10, 325, 0) := by decide +kernel
theorem ee67_10 : fx_tab 67 10 = some (.aload_n 1, 11, 1, 0) := by decide +kernel
theorem ee67_11 : fx_tab 67 11 = some (.iconst (0), 12, 0, 0) := by decide +kernel
theorem ee67_12 : fx_tab 67 12 = some (.putfield 62, 15, 326, 0) := by decide +kernel
theorem ee67_15 : fx_tab 67 15 = some (.aload_n 0, 16, 0, 0) := by decide +kernel
theorem ee67_16 : fx_tab 67 16 = some (.getfield 18, 19, 705, 20) := by decide +kernel
theorem ee67_19 : fx_tab 67 19 = some (.aload_n 1, 20, 1, 0) := by decide +kernel
theorem ee67_20 : fx_tab 67 20 = some (.invokevirtual 38, 23, 19, 322) := by decide +kernel
theorem ee67_23 : fx_tab 67 23 = some (.aload_n 0, 24, 0, 0) := by decide +kernel
theorem ee67_24 : fx_tab 67 24 = some (.getfield 30, 27, 709, 15) := by decide +kernel
theorem ee67_27 : fx_tab 67 27 = some (.aload_n 1, 28, 1, 0) := by decide +kernel
theorem ee67_28 : fx_tab 67 28 = some (.if_acmp .ne (8), 31, 36, 0) := by decide +kernel
theorem ee67_31 : fx_tab 67 31 = some (.aload_n 0, 32, 0, 0) := by decide +kernel
theorem ee67_32 : fx_tab 67 32 = some (.aconst_null, 33, 0, 0) := by decide +kernel
theorem ee67_33 : fx_tab 67 33 = some (.putfield 30, 36, 709, 15) := by decide +kernel
theorem ee67_36 : fx_tab 67 36 = some (.return_, 37, 0, 0) := by decide +kernel
theorem ee68_0 : fx_tab 68 0 = some (.aload_n 1, 1, 1, 0) := by decide +kernel
theorem ee68_1 : fx_tab 68 1 = some (.aload_n 0, 2, 0, 0) := by decide +kernel
theorem ee68_2 : fx_tab 68 2 = some (.getfield 18, 5, 705, 20) := by decide +kernel
theorem ee68_5 : fx_tab 68 5 = some (.getfield 49, 8, 640, 15) := by decide +kernel
theorem ee68_8 : fx_tab 68 8 = some (.if_acmp .ne (14), 11, 22, 0) := by decide +kernel
theorem ee68_11 : fx_tab 68 11 = some (.aload_n 0, 12, 0, 0) := by decide +kernel
theorem ee68_12 : fx_tab 68 12 = some (.getfield 18, 15, 705, 20) := by decide +kernel
theorem ee68_15 : fx_tab 68 15 = some (.invokevirtual 34, 18, 21, 321) := by decide +kernel
theorem ee68_18 : fx_tab 68 18 = some (.pop, 19, 0, 0) := by decide +kernel
theorem ee68_19 : fx_tab 68 19 = some (.goto (27), 22, 46, 0) := by decide +kernel
theorem ee68_22 : fx_tab 68 22 = some (.aload_n 1, 23, 1, 0) := by decide +kernel
theorem ee68_23 : fx_tab 68 23 = some (.aload_n 0, 24, 0, 0) := by decide +kernel
theorem ee68_24 : fx_tab 68 24 = some (.getfield 12, 27, 704, 20) := by decide +kernel
theorem ee68_27 : fx_tab 68 27 = some (.getfield 49, 30, 640, 15) := by decide +kernel
theorem ee68_30 : fx_tab 68 30 = some (.if_acmp .ne (16), 33, 46, 0) := by decide +kernel
theorem ee68_33 : fx_tab 68 33 = some (.aload_n 0, 34, 0, 0) := by decide +kernel
theorem ee68_34 : fx_tab 68 34 = some (.getfield 12, 37, 704, 20) := by decide +kernel
theorem ee68_37 : fx_tab 68 37 = some (.invokevirtual 34, 40, 21, 321) := by decide +kernel
theorem ee68_40 : fx_tab 68 40 = some (.pop, 41, 0, 0) := by decide +kernel
theorem ee68_41 : fx_tab 68 41 = some (.aload_n 0, 42, 0, 0) := by decide +kernel
theorem ee68_42 : fx_tab 68 42 = some (.aload_n 1, 43, 1, 0) := by decide +kernel
theorem ee68_43 : fx_tab 68 43 = some (.invokevirtual 55, 46, 24, 338) := by decide +kernel
theorem ee68_46 : fx_tab 68 46 = some (.aload_n 1, 47, 1, 0) := by decide +kernel
theorem ee68_47 : fx_tab 68 47 = some (.getfield 58, 50, 332, 42) := by decide +kernel
theorem ee68_50 : fx_tab 68 50 = some (.aload_n 1, 51, 1, 0) := by decide +kernel
theorem ee68_51 : fx_tab 68 51 = some (.getfield 62, 54, 326, 0) := by decide +kernel
theorem ee68_54 : fx_tab 68 54 = some (.aaload, 55, 0, 0) := by decide +kernel
theorem ee68_55 : fx_tab 68 55 = some (.astore_n 3, 56, 3, 0) := by decide +kernel
theorem ee68_56 : fx_tab 68 56 = some (.aload_n 3, 57, 3, 0) := by decide +kernel
theorem ee68_57 : fx_tab 68 57 = some (.iload_n 2, 58, 2, 0) := by decide +kernel
theorem ee68_58 : fx_tab 68 58 = some (.putfield 65, 61, 130, 0) := by decide +kernel
theorem ee68_61 : fx_tab 68 61 = some (.aload_n 3, 62, 3, 0) := by decide +kernel
theorem ee68_62 : fx_tab 68 62 = some (.aload_n 1, 63, 1, 0) := by decide +kernel
theorem ee68_63 : fx_tab 68 63 = some (.getfield 70, 66, 325, 0) := by decide +kernel
theorem ee68_66 : fx_tab 68 66 = some (.putfield 73, 69, 131, 0) := by decide +kernel
theorem ee68_69 : fx_tab 68 69 = some (.aload_n 1, 70, 1, 0) := by decide +kernel
theorem ee68_70 : fx_tab 68 70 = some (.dup, 71, 0, 0) := by decide +kernel
theorem ee68_71 : fx_tab 68 71 = some (.getfield 62, 74, 326, 0) := by decide +kernel
theorem ee68_74 : fx_tab 68 74 = some (.iconst (1), 75, 0, 0) := by decide +kernel
theorem ee68_75 : fx_tab 68 75 = some (.iadd, 76, 0, 0) := by decide +kernel
theorem ee68_76 : fx_tab 68 76 = some (.putfield 62, 79, 326, 0) := by decide +kernel
theorem ee68_79 : fx_tab 68 79 = some (.aload_n 1, 80, 1, 0) := by decide +kernel
theorem ee68_80 : fx_tab 68 80 = some (.dup, 81, 0, 0) := by decide +kernel
theorem ee68_81 : fx_tab 68 81 = some (.getfield 52, 84, 327, 0) := by decide +kernel
theorem ee68_84 : fx_tab 68 84 = some (.iconst (1), 85, 0, 0) := by decide +kernel
theorem ee68_85 : fx_tab 68 85 = some (.iadd, 86, 0, 0) := by decide +kernel
theorem ee68_86 : fx_tab 68 86 = some (.putfield 52, 89, 327, 0) := by decide +kernel
theorem ee68_89 : fx_tab 68 89 = some (.aload_n 0, 90, 0, 0) := by decide +kernel
theorem ee68_90 : fx_tab 68 90 = some (.aload_n 1, 91, 1, 0) := by decide +kernel
theorem ee68_91 : fx_tab 68 91 = some (.getfield 62, 94, 326, 0) := by decide +kernel
theorem ee68_94 : fx_tab 68 94 = some (.aload_n 1, 95, 1, 0) := by decide +kernel
theorem ee68_95 : fx_tab 68 95 = some (.getfield 74, 98, 322, 0) := by decide +kernel
theorem ee68_98 : fx_tab 68 98 = some (.if_icmp .ge (7), 101, 105, 0) := by decide +kernel
theorem ee68_101 : fx_tab 68 101 = some (.aload_n 1, 102, 1, 0) := by decide +kernel
theorem ee68_102 : fx_tab 68 102 = some (.goto (4), 105, 106, 0) := by decide +kernel
theorem ee68_105 : fx_tab 68 105 = some (.aconst_null, 106, 0, 0) := by decide +kernel
theorem ee68_106 : fx_tab 68 106 = some (.putfield 30, 109, 709, 15) := by decide +kernel
theorem ee68_109 : fx_tab 68 109 = some (.aload_n 3, 110, 3, 0) := by decide +kernel
theorem ee68_110 : fx_tab 68 110 = some (.areturn, 111, 0, 0) := by decide +kernel
theorem ee69_0 : fx_tab 69 0 = some (.aload_n 0, 1, 0, 0) := by decide +kernel
theorem ee69_1 : fx_tab 69 1 = some (.iload_n 1, 2, 1, 0) := by decide +kernel
theorem ee69_2 : fx_tab 69 2 = some (.invokevirtual 227, 5, 45, 354) := by decide +kernel
theorem ee69_5 : fx_tab 69 5 = some (.istore_n 2, 6, 2, 0) := by decide +kernel
theorem ee69_6 : fx_tab 69 6 = some (.iload_n 2, 7, 2, 0) := by decide +kernel
theorem ee69_7 : fx_tab 69 7 = some (.iconst (-1), 8, 0, 0) := by decide +kernel
theorem ee69_8 : fx_tab 69 8 = some (.if_icmp .eq (5), 11, 13, 0) := by decide +kernel
theorem ee69_11 : fx_tab 69 11 = some (.iload_n 2, 12, 2, 0) := by decide +kernel
theorem ee69_12 : fx_tab 69 12 = some (.ireturn, 13, 0, 0) := by decide +kernel
theorem ee69_13 : fx_tab 69 13 = some (.aload_n 0, 14, 0, 0) := by decide +kernel
theorem ee69_14 : fx_tab 69 14 = some (.getfield 71, 17, 797, 70) := by decide +kernel
theorem ee69_17 : fx_tab 69 17 = some (.iload_n 1, 18, 1, 0) := by decide +kernel
theorem ee69_18 : fx_tab 69 18 = some (.iaload, 19, 0, 0) := by decide +kernel
theorem ee69_19 : fx_tab 69 19 = some (.ifCond .le (33), 22, 52, 0) := by decide +kernel
theorem ee69_22 : fx_tab 69 22 = some (.aload_n 0, 23, 0, 0) := by decide +kernel
theorem ee69_23 : fx_tab 69 23 = some (.aload_n 0, 24, 0, 0) := by decide +kernel
theorem ee69_24 : fx_tab 69 24 = some (.getfield 74, 27, 798, 70) := by decide +kernel
theorem ee69_27 : fx_tab 69 27 = some (.bipush (8), 29, 0, 0) := by decide +kernel
theorem ee69_29 : fx_tab 69 29 = some (.iload_n 1, 30, 1, 0) := by decide +kernel
theorem ee69_30 : fx_tab 69 30 = some (.imul, 31, 0, 0) := by decide +kernel
theorem ee69_31 : fx_tab 69 31 = some (.iaload, 32, 0, 0) := by decide +kernel
theorem ee69_32 : fx_tab 69 32 = some (.invokevirtual 230, 35, 35, 354) := by decide +kernel
theorem ee69_35 : fx_tab 69 35 = some (.ifCond .ne (17), 38, 52, 0) := by decide +kernel
theorem ee69_38 : fx_tab 69 38 = some (.sipush (1000), 41, 0, 0) := by decide +kernel
theorem ee69_41 : fx_tab 69 41 = some (.aload_n 0, 42, 0, 0) := by decide +kernel
theorem ee69_42 : fx_tab 69 42 = some (.getfield 74, 45, 798, 70) := by decide +kernel
theorem ee69_45 : fx_tab 69 45 = some (.bipush (8), 47, 0, 0) := by decide +kernel
theorem ee69_47 : fx_tab 69 47 = some (.iload_n 1, 48, 1, 0) := by decide +kernel
theorem ee69_48 : fx_tab 69 48 = some (.imul, 49, 0, 0) := by decide +kernel
theorem ee69_49 : fx_tab 69 49 = some (.iaload, 50, 0, 0) := by decide +kernel
theorem ee69_50 : fx_tab 69 50 = some (.iadd, 51, 0, 0) := by decide +kernel
theorem ee69_51 : fx_tab 69 51 = some (.ireturn, 52, 0, 0) := by decide +kernel
theorem ee69_52 : fx_tab 69 52 = some (.aload_n 0, 53, 0, 0) := by decide +kernel
theorem ee69_53 : fx_tab 69 53 = some (.getfield 41, 56, 787, 70) := by decide +kernel
theorem ee69_56 : fx_tab 69 56 = some (.iload_n 1, 57, 1, 0) := by decide +kernel
theorem ee69_57 : fx_tab 69 57 = some (.iaload, 58, 0, 0) := by decide +kernel
theorem ee69_58 : fx_tab 69 58 = some (.ifCond .le (18), 61, 76, 0) := by decide +kernel
theorem ee69_61 : fx_tab 69 61 = some (.aload_n 0, 62, 0, 0) := by decide +kernel
theorem ee69_62 : fx_tab 69 62 = some (.iload_n 1, 63, 1, 0) := by decide +kernel
theorem ee69_63 : fx_tab 69 63 = some (.invokevirtual 233, 66, 30, 354) := by decide +kernel
theorem ee69_66 : fx_tab 69 66 = some (.iconst (-1), 67, 0, 0) := by decide +kernel
theorem ee69_67 : fx_tab 69 67 = some (.if_icmp .eq (9), 70, 76, 0) := by decide +kernel
theorem ee69_70 : fx_tab 69 70 = some (.sipush (2000), 73, 0, 0) := by decide +kernel
theorem ee69_73 : fx_tab 69 73 = some (.goto (4), 76, 77, 0) := by decide +kernel
theorem ee69_76 : fx_tab 69 76 = some (.iconst (-1), 77, 0, 0) := by decide +kernel
theorem ee69_77 : fx_tab 69 77 = some (.ireturn, 78, 0, 0) := by decide +kernel
theorem ee70_0 : fx_tab 70 0 = some (.aload_n 0, 1, 0, 0) := by decide +kernel
theorem ee70_1 : fx_tab 70 1 = some (.iconst (0), 2, 0, 0) := by decide +kernel
theorem ee70_2 : fx_tab 70 2 = some (.putfield 130, 5, 768, 0) := by decide +kernel
theorem ee70_5 : fx_tab 70 5 = some (.aload_n 0, 6, 0, 0) := by decide +kernel
theorem ee70_6 : fx_tab 70 6 = some (.iload_n 1, 7, 1, 0) := by decide +kernel
theorem ee70_7 : fx_tab 70 7 = some (.invokevirtual 185, 10, 34, 354) := by decide +kernel
theorem ee70_10 : fx_tab 70 10 = some (.ifCond .eq (25), 13, 35, 0) := by decide +kernel
theorem ee70_13 : fx_tab 70 13 = some (.aload_n 0, 14, 0, 0) := by decide +kernel
theorem ee70_14 : fx_tab 70 14 = some (.iload_n 2, 15, 2, 0) := by decide +kernel
theorem ee70_15 : fx_tab 70 15 = some (.invokevirtual 185, 18, 34, 354) := by decide +kernel
theorem ee70_18 : fx_tab 70 18 = some (.ifCond .eq (17), 21, 35, 0) := by decide +kernel
theorem ee70_21 : fx_tab 70 21 = some (.aload_n 0, 22, 0, 0) := by decide +kernel
theorem ee70_22 : fx_tab 70 22 = some (.getfield 13, 25, 776, 70) := by decide +kernel
theorem ee70_25 : fx_tab 70 25 = some (.bipush (64), 27, 0, 0) := by decide +kernel
theorem ee70_27 : fx_tab 70 27 = some (.iload_n 1, 28, 1, 0) := by decide +kernel
theorem ee70_28 : fx_tab 70 28 = some (.imul, 29, 0, 0) := by decide +kernel
theorem ee70_29 : fx_tab 70 29 = some (.iload_n 2, 30, 2, 0) := by decide +kernel
theorem ee70_30 : fx_tab 70 30 = some (.iadd, 31, 0, 0) := by decide +kernel
theorem ee70_31 : fx_tab 70 31 = some (.iaload, 32, 0, 0) := by decide +kernel
theorem ee70_32 : fx_tab 70 32 = some (.goto (4), 35, 36, 0) := by decide +kernel
theorem ee70_35 : fx_tab 70 35 = some (.iconst (-1), 36, 0, 0) := by decide +kernel
theorem ee70_36 : fx_tab 70 36 = some (.ireturn, 37, 0, 0) := by decide +kernel
theorem ee71_0 : fx_tab 71 0 = some (.iload_n 2, 1, 2, 0) := by decide +kernel
theorem ee71_1 : fx_tab 71 1 = some (.sipush (1000), 4, 0, 0) := by decide +kernel
theorem ee71_4 : fx_tab 71 4 = some (.if_icmp .ge (7), 7, 11, 0) := by decide +kernel
theorem ee71_7 : fx_tab 71 7 = some (.iload_n 2, 8, 2, 0) := by decide +kernel
theorem ee71_8 : fx_tab 71 8 = some (.goto (23), 11, 31, 0) := by decide +kernel
theorem ee71_11 : fx_tab 71 11 = some (.iload_n 2, 12, 2, 0) := by decide +kernel
theorem ee71_12 : fx_tab 71 12 = some (.sipush (2000), 15, 0, 0) := by decide +kernel
theorem ee71_15 : fx_tab 71 15 = some (.if_icmp .ge (11), 18, 26, 0) := by decide +kernel
theorem ee71_18 : fx_tab 71 18 = some (.iload_n 2, 19, 2, 0) := by decide +kernel
theorem ee71_19 : fx_tab 71 19 = some (.sipush (1000), 22, 0, 0) := by decide +kernel
theorem ee71_22 : fx_tab 71 22 = some (.isub, 23, 0, 0) := by decide +kernel
theorem ee71_23 : fx_tab 71 23 = some (.goto (8), 26, 31, 0) := by decide +kernel
theorem ee71_26 : fx_tab 71 26 = some (.aload_n 0, 27, 0, 0) := by decide +kernel
theorem ee71_27 : fx_tab 71 27 = some (.iload_n 1, 28, 1, 0) := by decide +kernel
theorem ee71_28 : fx_tab 71 28 = some (.invokevirtual 233, 31, 30, 354) := by decide +kernel
theorem ee71_31 : fx_tab 71 31 = some (.istore_n 3, 32, 3, 0) := by decide +kernel
theorem ee71_32 : fx_tab 71 32 = some (.iload_n 2, 33, 2, 0) := by decide +kernel
theorem ee71_33 : fx_tab 71 33 = some (.sipush (1000), 36, 0, 0) := by decide +kernel
theorem ee71_36 : fx_tab 71 36 = some (.if_icmp .lt (66), 39, 102, 0) := by decide +kernel
theorem ee71_39 : fx_tab 71 39 = some (.iload_n 2, 40, 2, 0) := by decide +kernel
theorem ee71_40 : fx_tab 71 40 = some (.sipush (2000), 43, 0, 0) := by decide +kernel
theorem ee71_43 : fx_tab 71 43 = some (.if_icmp .ge (59), 46, 102, 0) := by decide +kernel
theorem ee71_46 : fx_tab 71 46 = some (.aload_n 0, 47, 0, 0) := by decide +kernel
theorem ee71_47 : fx_tab 71 47 = some (.getfield 71, 50, 797, 70) := by decide +kernel
theorem ee71_50 : fx_tab 71 50 = some (.iload_n 1, 51, 1, 0) := by decide +kernel
theorem ee71_51 : fx_tab 71 51 = some (.dup2, 52, 0, 0) := by decide +kernel
theorem ee71_52 : fx_tab 71 52 = some (.iaload, 53, 0, 0) := by decide +kernel
theorem ee71_53 : fx_tab 71 53 = some (.iconst (1), 54, 0, 0) := by decide +kernel
theorem ee71_54 : fx_tab 71 54 = some (.isub, 55, 0, 0) := by decide +kernel
theorem ee71_55 : fx_tab 71 55 = some (.iastore, 56, 0, 0) := by decide +kernel
theorem ee71_56 : fx_tab 71 56 = some (.iconst (0), 57, 0, 0) := by decide +kernel
theorem ee71_57 : fx_tab 71 57 = some (.istore 4, 59, 4, 0) := by decide +kernel
theorem ee71_59 : fx_tab 71 59 = some (.iload 4, 61, 4, 0) := by decide +kernel
theorem ee71_61 : fx_tab 71 61 = some (.aload_n 0, 62, 0, 0) := by decide +kernel
theorem ee71_62 : fx_tab 71 62 = some (.getfield 71, 65, 797, 70) := by decide +kernel
theorem ee71_65 : fx_tab 71 65 = some (.iload_n 1, 66, 1, 0) := by decide +kernel
theorem ee71_66 : fx_tab 71 66 = some (.iaload, 67, 0, 0) := by decide +kernel
theorem ee71_67 : fx_tab 71 67 = some (.if_icmp .ge (35), 70, 102, 0) := by decide +kernel
theorem ee71_70 : fx_tab 71 70 = some (.aload_n 0, 71, 0, 0) := by decide +kernel
theorem ee71_71 : fx_tab 71 71 = some (.getfield 74, 74, 798, 70) := by decide +kernel
theorem ee71_74 : fx_tab 71 74 = some (.bipush (8), 76, 0, 0) := by decide +kernel
theorem ee71_76 : fx_tab 71 76 = some (.iload_n 1, 77, 1, 0) := by decide +kernel
theorem ee71_77 : fx_tab 71 77 = some (.imul, 78, 0, 0) := by decide +kernel
theorem ee71_78 : fx_tab 71 78 = some (.iload 4, 80, 4, 0) := by decide +kernel
theorem ee71_80 : fx_tab 71 80 = some (.iadd, 81, 0, 0) := by decide +kernel
theorem ee71_81 : fx_tab 71 81 = some (.aload_n 0, 82, 0, 0) := by decide +kernel
theorem ee71_82 : fx_tab 71 82 = some (.getfield 74, 85, 798, 70) := by decide +kernel
theorem ee71_85 : fx_tab 71 85 = some (.bipush (8), 87, 0, 0) := by decide +kernel
theorem ee71_87 : fx_tab 71 87 = some (.iload_n 1, 88, 1, 0) := by decide +kernel
theorem ee71_88 : fx_tab 71 88 = some (.imul, 89, 0, 0) := by decide +kernel
theorem ee71_89 : fx_tab 71 89 = some (.iload 4, 91, 4, 0) := by decide +kernel
theorem ee71_91 : fx_tab 71 91 = some (.iadd, 92, 0, 0) := by decide +kernel
theorem ee71_92 : fx_tab 71 92 = some (.iconst (1), 93, 0, 0) := by decide +kernel
theorem ee71_93 : fx_tab 71 93 = some (.iadd, 94, 0, 0) := by decide +kernel
theorem ee71_94 : fx_tab 71 94 = some (.iaload, 95, 0, 0) := by decide +kernel
theorem ee71_95 : fx_tab 71 95 = some (.iastore, 96, 0, 0) := by decide +kernel
theorem ee71_96 : fx_tab 71 96 = some (.iinc 4 (1), 99, 4, 0) := by decide +kernel
theorem ee71_99 : fx_tab 71 99 = some (.goto (-40), 102, 59, 0) := by decide +kernel
theorem ee71_102 : fx_tab 71 102 = some (.iload_n 2, 103, 2, 0) := by decide +kernel
theorem ee71_103 : fx_tab 71 103 = some (.sipush (2000), 106, 0, 0) := by decide +kernel
theorem ee71_106 : fx_tab 71 106 = some (.if_icmp .ne (150), 109, 256, 0) := by decide +kernel
theorem ee71_109 : fx_tab 71 109 = some (.aload_n 0, 110, 0, 0) := by decide +kernel
theorem ee71_110 : fx_tab 71 110 = some (.getfield 53, 113, 791, 70) := by decide +kernel
theorem ee71_113 : fx_tab 71 113 = some (.iload_n 3, 114, 3, 0) := by decide +kernel
theorem ee71_114 : fx_tab 71 114 = some (.aload_n 0, 115, 0, 0) := by decide +kernel
theorem ee71_115 : fx_tab 71 115 = some (.getfield 44, 118, 788, 70) := by decide +kernel
theorem ee71_118 : fx_tab 71 118 = some (.iconst (4), 119, 0, 0) := by decide +kernel
theorem ee71_119 : fx_tab 71 119 = some (.iload_n 1, 120, 1, 0) := by decide +kernel
theorem ee71_120 : fx_tab 71 120 = some (.imul, 121, 0, 0) := by decide +kernel
theorem ee71_121 : fx_tab 71 121 = some (.iaload, 122, 0, 0) := by decide +kernel
theorem ee71_122 : fx_tab 71 122 = some (.iastore, 123, 0, 0) := by decide +kernel
theorem ee71_123 : fx_tab 71 123 = some (.aload_n 0, 124, 0, 0) := by decide +kernel
theorem ee71_124 : fx_tab 71 124 = some (.getfield 56, 127, 792, 70) := by decide +kernel
theorem ee71_127 : fx_tab 71 127 = some (.iload_n 3, 128, 3, 0) := by decide +kernel
theorem ee71_128 : fx_tab 71 128 = some (.aload_n 0, 129, 0, 0) := by decide +kernel
theorem ee71_129 : fx_tab 71 129 = some (.getfield 47, 132, 789, 70) := by decide +kernel
theorem ee71_132 : fx_tab 71 132 = some (.iconst (4), 133, 0, 0) := by decide +kernel
theorem ee71_133 : fx_tab 71 133 = some (.iload_n 1, 134, 1, 0) := by decide +kernel
theorem ee71_134 : fx_tab 71 134 = some (.imul, 135, 0, 0) := by decide +kernel
theorem ee71_135 : fx_tab 71 135 = some (.iaload, 136, 0, 0) := by decide +kernel
theorem ee71_136 : fx_tab 71 136 = some (.iastore, 137, 0, 0) := by decide +kernel
theorem ee71_137 : fx_tab 71 137 = some (.aload_n 0, 138, 0, 0) := by decide +kernel
theorem ee71_138 : fx_tab 71 138 = some (.getfield 59, 141, 793, 70) := by decide +kernel
theorem ee71_141 : fx_tab 71 141 = some (.iload_n 3, 142, 3, 0) := by decide +kernel
theorem ee71_142 : fx_tab 71 142 = some (.aload_n 0, 143, 0, 0) := by decide +kernel
theorem ee71_143 : fx_tab 71 143 = some (.getfield 50, 146, 790, 70) := by decide +kernel
theorem ee71_146 : fx_tab 71 146 = some (.iconst (4), 147, 0, 0) := by decide +kernel
theorem ee71_147 : fx_tab 71 147 = some (.iload_n 1, 148, 1, 0) := by decide +kernel
theorem ee71_148 : fx_tab 71 148 = some (.imul, 149, 0, 0) := by decide +kernel
theorem ee71_149 : fx_tab 71 149 = some (.iaload, 150, 0, 0) := by decide +kernel
theorem ee71_150 : fx_tab 71 150 = some (.iastore, 151, 0, 0) := by decide +kernel
theorem ee71_151 : fx_tab 71 151 = some (.aload_n 0, 152, 0, 0) := by decide +kernel
theorem ee71_152 : fx_tab 71 152 = some (.getfield 62, 155, 794, 70) := by decide +kernel
theorem ee71_155 : fx_tab 71 155 = some (.iload_n 3, 156, 3, 0) := by decide +kernel
theorem ee71_156 : fx_tab 71 156 = some (.iconst (1), 157, 0, 0) := by decide +kernel
theorem ee71_157 : fx_tab 71 157 = some (.iastore, 158, 0, 0) := by decide +kernel
theorem ee71_158 : fx_tab 71 158 = some (.aload_n 0, 159, 0, 0) := by decide +kernel
theorem ee71_159 : fx_tab 71 159 = some (.getfield 65, 162, 795, 70) := by decide +kernel
theorem ee71_162 : fx_tab 71 162 = some (.iload_n 3, 163, 3, 0) := by decide +kernel
theorem ee71_163 : fx_tab 71 163 = some (.iconst (0), 164, 0, 0) := by decide +kernel
theorem ee71_164 : fx_tab 71 164 = some (.iastore, 165, 0, 0) := by decide +kernel
theorem ee71_165 : fx_tab 71 165 = some (.aload_n 0, 166, 0, 0) := by decide +kernel
theorem ee71_166 : fx_tab 71 166 = some (.getfield 68, 169, 796, 71) := by decide +kernel
theorem ee71_169 : fx_tab 71 169 = some (.iload_n 3, 170, 3, 0) := by decide +kernel
theorem ee71_170 : fx_tab 71 170 = some (.iconst (0), 171, 0, 0) := by decide +kernel
theorem ee71_171 : fx_tab 71 171 = some (.bastore, 172, 0, 0) := by decide +kernel
theorem ee71_172 : fx_tab 71 172 = some (.aload_n 0, 173, 0, 0) := by decide +kernel
theorem ee71_173 : fx_tab 71 173 = some (.getfield 41, 176, 787, 70) := by decide +kernel
theorem ee71_176 : fx_tab 71 176 = some (.iload_n 1, 177, 1, 0) := by decide +kernel
theorem ee71_177 : fx_tab 71 177 = some (.dup2, 178, 0, 0) := by decide +kernel
theorem ee71_178 : fx_tab 71 178 = some (.iaload, 179, 0, 0) := by decide +kernel
theorem ee71_179 : fx_tab 71 179 = some (.iconst (1), 180, 0, 0) := by decide +kernel
theorem ee71_180 : fx_tab 71 180 = some (.isub, 181, 0, 0) := by decide +kernel
theorem ee71_181 : fx_tab 71 181 = some (.iastore, 182, 0, 0) := by decide +kernel
theorem ee71_182 : fx_tab 71 182 = some (.iconst (4), 183, 0, 0) := by decide +kernel
theorem ee71_183 : fx_tab 71 183 = some (.iload_n 1, 184, 1, 0) := by decide +kernel
theorem ee71_184 : fx_tab 71 184 = some (.imul, 185, 0, 0) := by decide +kernel
theorem ee71_185 : fx_tab 71 185 = some (.istore 4, 187, 4, 0) := by decide +kernel
theorem ee71_187 : fx_tab 71 187 = some (.iload 4, 189, 4, 0) := by decide +kernel
theorem ee71_189 : fx_tab 71 189 = some (.iconst (4), 190, 0, 0) := by decide +kernel
theorem ee71_190 : fx_tab 71 190 = some (.iload_n 1, 191, 1, 0) := by decide +kernel
theorem ee71_191 : fx_tab 71 191 = some (.imul, 192, 0, 0) := by decide +kernel
theorem ee71_192 : fx_tab 71 192 = some (.aload_n 0, 193, 0, 0) := by decide +kernel
theorem ee71_193 : fx_tab 71 193 = some (.getfield 41, 196, 787, 70) := by decide +kernel
theorem ee71_196 : fx_tab 71 196 = some (.iload_n 1, 197, 1, 0) := by decide +kernel
theorem ee71_197 : fx_tab 71 197 = some (.iaload, 198, 0, 0) := by decide +kernel
theorem ee71_198 : fx_tab 71 198 = some (.iadd, 199, 0, 0) := by decide +kernel
theorem ee71_199 : fx_tab 71 199 = some (.if_icmp .ge (57), 202, 256, 0) := by decide +kernel
theorem ee71_202 : fx_tab 71 202 = some (.aload_n 0, 203, 0, 0) := by decide +kernel
theorem ee71_203 : fx_tab 71 203 = some (.getfield 44, 206, 788, 70) := by decide +kernel
theorem ee71_206 : fx_tab 71 206 = some (.iload 4, 208, 4, 0) := by decide +kernel
theorem ee71_208 : fx_tab 71 208 = some (.aload_n 0, 209, 0, 0) := by decide +kernel
theorem ee71_209 : fx_tab 71 209 = some (.getfield 44, 212, 788, 70) := by decide +kernel
theorem ee71_212 : fx_tab 71 212 = some (.iload 4, 214, 4, 0) := by decide +kernel
theorem ee71_214 : fx_tab 71 214 = some (.iconst (1), 215, 0, 0) := by decide +kernel
theorem ee71_215 : fx_tab 71 215 = some (.iadd, 216, 0, 0) := by decide +kernel
theorem ee71_216 : fx_tab 71 216 = some (.iaload, 217, 0, 0) := by decide +kernel
theorem ee71_217 : fx_tab 71 217 = some (.iastore, 218, 0, 0) := by decide +kernel
theorem ee71_218 : fx_tab 71 218 = some (.aload_n 0, 219, 0, 0) := by decide +kernel
theorem ee71_219 : fx_tab 71 219 = some (.getfield 47, 222, 789, 70) := by decide +kernel
theorem ee71_222 : fx_tab 71 222 = some (.iload 4, 224, 4, 0) := by decide +kernel
theorem ee71_224 : fx_tab 71 224 = some (.aload_n 0, 225, 0, 0) := by decide +kernel
theorem ee71_225 : fx_tab 71 225 = some (.getfield 47, 228, 789, 70) := by decide +kernel
theorem ee71_228 : fx_tab 71 228 = some (.iload 4, 230, 4, 0) := by decide +kernel
theorem ee71_230 : fx_tab 71 230 = some (.iconst (1), 231, 0, 0) := by decide +kernel
theorem ee71_231 : fx_tab 71 231 = some (.iadd, 232, 0, 0) := by decide +kernel
theorem ee71_232 : fx_tab 71 232 = some (.iaload, 233, 0, 0) := by decide +kernel
theorem ee71_233 : fx_tab 71 233 = some (.iastore, 234, 0, 0) := by decide +kernel
theorem ee71_234 : fx_tab 71 234 = some (.aload_n 0, 235, 0, 0) := by decide +kernel
theorem ee71_235 : fx_tab 71 235 = some (.getfield 50, 238, 790, 70) := by decide +kernel
theorem ee71_238 : fx_tab 71 238 = some (.iload 4, 240, 4, 0) := by decide +kernel
theorem ee71_240 : fx_tab 71 240 = some (.aload_n 0, 241, 0, 0) := by decide +kernel
theorem ee71_241 : fx_tab 71 241 = some (.getfield 50, 244, 790, 70) := by decide +kernel
theorem ee71_244 : fx_tab 71 244 = some (.iload 4, 246, 4, 0) := by decide +kernel
theorem ee71_246 : fx_tab 71 246 = some (.iconst (1), 247, 0, 0) := by decide +kernel
theorem ee71_247 : fx_tab 71 247 = some (.iadd, 248, 0, 0) := by decide +kernel
theorem ee71_248 : fx_tab 71 248 = some (.iaload, 249, 0, 0) := by decide +kernel
theorem ee71_249 : fx_tab 71 249 = some (.iastore, 250, 0, 0) := by decide +kernel
theorem ee71_250 : fx_tab 71 250 = some (.iinc 4 (1), 253, 4, 0) := by decide +kernel
theorem ee71_253 : fx_tab 71 253 = some (.goto (-66), 256, 187, 0) := by decide +kernel
theorem ee71_256 : fx_tab 71 256 = some (.aload_n 0, 257, 0, 0) := by decide +kernel
theorem ee71_257 : fx_tab 71 257 = some (.iload_n 1, 258, 1, 0) := by decide +kernel
theorem ee71_258 : fx_tab 71 258 = some (.invokevirtual 236, 261, 29, 354) := by decide +kernel
theorem ee71_261 : fx_tab 71 261 = some (.istore 4, 263, 4, 0) := by decide +kernel
theorem ee71_263 : fx_tab 71 263 = some (.aload_n 0, 264, 0, 0) := by decide +kernel
theorem ee71_264 : fx_tab 71 264 = some (.getfield 17, 267, 779, 70) := by decide +kernel
theorem ee71_267 : fx_tab 71 267 = some (.aload_n 0, 268, 0, 0) := by decide +kernel
theorem ee71_268 : fx_tab 71 268 = some (.getfield 155, 271, 778, 0) := by decide +kernel
theorem ee71_271 : fx_tab 71 271 = some (.iload_n 1, 272, 1, 0) := by decide +kernel
theorem ee71_272 : fx_tab 71 272 = some (.iastore, 273, 0, 0) := by decide +kernel
theorem ee71_273 : fx_tab 71 273 = some (.aload_n 0, 274, 0, 0) := by decide +kernel
theorem ee71_274 : fx_tab 71 274 = some (.getfield 20, 277, 780, 70) := by decide +kernel
theorem ee71_277 : fx_tab 71 277 = some (.aload_n 0, 278, 0, 0) := by decide +kernel
theorem ee71_278 : fx_tab 71 278 = some (.getfield 155, 281, 778, 0) := by decide +kernel
theorem ee71_281 : fx_tab 71 281 = some (.iload 4, 283, 4, 0) := by decide +kernel
theorem ee71_283 : fx_tab 71 283 = some (.iastore, 284, 0, 0) := by decide +kernel
theorem ee71_284 : fx_tab 71 284 = some (.aload_n 0, 285, 0, 0) := by decide +kernel
theorem ee71_285 : fx_tab 71 285 = some (.getfield 23, 288, 781, 70) := by decide +kernel
theorem ee71_288 : fx_tab 71 288 = some (.aload_n 0, 289, 0, 0) := by decide +kernel
theorem ee71_289 : fx_tab 71 289 = some (.getfield 155, 292, 778, 0) := by decide +kernel
theorem ee71_292 : fx_tab 71 292 = some (.iload_n 1, 293, 1, 0) := by decide +kernel
theorem ee71_293 : fx_tab 71 293 = some (.iastore, 294, 0, 0) := by decide +kernel
theorem ee71_294 : fx_tab 71 294 = some (.aload_n 0, 295, 0, 0) := by decide +kernel
theorem ee71_295 : fx_tab 71 295 = some (.getfield 26, 298, 782, 70) := by decide +kernel
theorem ee71_298 : fx_tab 71 298 = some (.aload_n 0, 299, 0, 0) := by decide +kernel
theorem ee71_299 : fx_tab 71 299 = some (.getfield 155, 302, 778, 0) := by decide +kernel
theorem ee71_302 : fx_tab 71 302 = some (.iload_n 3, 303, 3, 0) := by decide +kernel
theorem ee71_303 : fx_tab 71 303 = some (.bipush (8), 305, 0, 0) := by decide +kernel
theorem ee71_305 : fx_tab 71 305 = some (.irem, 306, 0, 0) := by decide +kernel
theorem ee71_306 : fx_tab 71 306 = some (.iastore, 307, 0, 0) := by decide +kernel
theorem ee71_307 : fx_tab 71 307 = some (.aload_n 0, 308, 0, 0) := by decide +kernel
theorem ee71_308 : fx_tab 71 308 = some (.getfield 29, 311, 783, 70) := by decide +kernel
theorem ee71_311 : fx_tab 71 311 = some (.aload_n 0, 312, 0, 0) := by decide +kernel
theorem ee71_312 : fx_tab 71 312 = some (.getfield 155, 315, 778, 0) := by decide +kernel
theorem ee71_315 : fx_tab 71 315 = some (.aload_n 0, 316, 0, 0) := by decide +kernel
theorem ee71_316 : fx_tab 71 316 = some (.getfield 65, 319, 795, 70) := by decide +kernel
theorem ee71_319 : fx_tab 71 319 = some (.iload_n 3, 320, 3, 0) := by decide +kernel
theorem ee71_320 : fx_tab 71 320 = some (.iaload, 321, 0, 0) := by decide +kernel
theorem ee71_321 : fx_tab 71 321 = some (.iastore, 322, 0, 0) := by decide +kernel
theorem ee71_322 : fx_tab 71 322 = some (.aload_n 0, 323, 0, 0) := by decide +kernel
theorem ee71_323 : fx_tab 71 323 = some (.getfield 32, 326, 784, 70) := by decide +kernel
theorem ee71_326 : fx_tab 71 326 = some (.aload_n 0, 327, 0, 0) := by decide +kernel
theorem ee71_327 : fx_tab 71 327 = some (.getfield 155, 330, 778, 0) := by decide +kernel
theorem ee71_330 : fx_tab 71 330 = some (.aload_n 0, 331, 0, 0) := by decide +kernel
theorem ee71_331 : fx_tab 71 331 = some (.getfield 149, 334, 773, 0) := by decide +kernel
theorem ee71_334 : fx_tab 71 334 = some (.iastore, 335, 0, 0) := by decide +kernel
theorem ee71_335 : fx_tab 71 335 = some (.aload_n 0, 336, 0, 0) := by decide +kernel
theorem ee71_336 : fx_tab 71 336 = some (.getfield 35, 339, 785, 70) := by decide +kernel
theorem ee71_339 : fx_tab 71 339 = some (.aload_n 0, 340, 0, 0) := by decide +kernel
theorem ee71_340 : fx_tab 71 340 = some (.getfield 155, 343, 778, 0) := by decide +kernel
theorem ee71_343 : fx_tab 71 343 = some (.aload_n 0, 344, 0, 0) := by decide +kernel
theorem ee71_344 : fx_tab 71 344 = some (.getfield 62, 347, 794, 70) := by decide +kernel
theorem ee71_347 : fx_tab 71 347 = some (.iload_n 3, 348, 3, 0) := by decide +kernel
theorem ee71_348 : fx_tab 71 348 = some (.iaload, 349, 0, 0) := by decide +kernel
theorem ee71_349 : fx_tab 71 349 = some (.iastore, 350, 0, 0) := by decide +kernel
theorem ee71_350 : fx_tab 71 350 = some (.aload_n 0, 351, 0, 0) := by decide +kernel
theorem ee71_351 : fx_tab 71 351 = some (.dup, 352, 0, 0) := by decide +kernel
theorem ee71_352 : fx_tab 71 352 = some (.getfield 155, 355, 778, 0) := by decide +kernel
theorem ee71_355 : fx_tab 71 355 = some (.iconst (1), 356, 0, 0) := by decide +kernel
theorem ee71_356 : fx_tab 71 356 = some (.iadd, 357, 0, 0) := by decide +kernel
theorem ee71_357 : fx_tab 71 357 = some (.putfield 155, 360, 778, 0) := by decide +kernel
theorem ee71_360 : fx_tab 71 360 = some (.aload_n 0, 361, 0, 0) := by decide +kernel
theorem ee71_361 : fx_tab 71 361 = some (.getfield 65, 364, 795, 70) := by decide +kernel
theorem ee71_364 : fx_tab 71 364 = some (.iload_n 3, 365, 3, 0) := by decide +kernel
theorem ee71_365 : fx_tab 71 365 = some (.dup2, 366, 0, 0) := by decide +kernel
theorem ee71_366 : fx_tab 71 366 = some (.iaload, 367, 0, 0) := by decide +kernel
theorem ee71_367 : fx_tab 71 367 = some (.iconst (1), 368, 0, 0) := by decide +kernel
theorem ee71_368 : fx_tab 71 368 = some (.iadd, 369, 0, 0) := by decide +kernel
theorem ee71_369 : fx_tab 71 369 = some (.iastore, 370, 0, 0) := by decide +kernel
theorem ee71_370 : fx_tab 71 370 = some (.return_, 371, 0, 0) := by decide +kernel
theorem ee72_0 : fx_tab 72 0 = some (.aload_n 0, 1, 0, 0) := by decide +kernel
theorem ee72_1 : fx_tab 72 1 = some (.iconst (0), 2, 0, 0) := by decide +kernel
theorem ee72_2 : fx_tab 72 2 = some (.putfield 130, 5, 768, 0) := by decide +kernel
theorem ee72_5 : fx_tab 72 5 = some (.aload_n 0, 6, 0, 0) := by decide +kernel
theorem ee72_6 : fx_tab 72 6 = some (.iload_n 1, 7, 1, 0) := by decide +kernel
theorem ee72_7 : fx_tab 72 7 = some (.invokevirtual 185, 10, 34, 354) := by decide +kernel
theorem ee72_10 : fx_tab 72 10 = some (.ifCond .eq (21), 13, 31, 0) := by decide +kernel
theorem ee72_13 : fx_tab 72 13 = some (.iload_n 2, 14, 2, 0) := by decide +kernel
theorem ee72_14 : fx_tab 72 14 = some (.iconst (0), 15, 0, 0) := by decide +kernel
theorem ee72_15 : fx_tab 72 15 = some (.iconst (3), 16, 0, 0) := by decide +kernel
theorem ee72_16 : fx_tab 72 16 = some (.invokestatic 134, 19, 47, 3) := by decide +kernel
theorem ee72_19 : fx_tab 72 19 = some (.ifCond .eq (12), 22, 31, 0) := by decide +kernel
theorem ee72_22 : fx_tab 72 22 = some (.aload_n 0, 23, 0, 0) := by decide +kernel
theorem ee72_23 : fx_tab 72 23 = some (.iload_n 1, 24, 1, 0) := by decide +kernel
theorem ee72_24 : fx_tab 72 24 = some (.iload_n 2, 25, 2, 0) := by decide +kernel
theorem ee72_25 : fx_tab 72 25 = some (.invokevirtual 261, 28, 39, 355) := by decide +kernel
theorem ee72_28 : fx_tab 72 28 = some (.goto (4), 31, 32, 0) := by decide +kernel
theorem ee72_31 : fx_tab 72 31 = some (.iconst (-1), 32, 0, 0) := by decide +kernel
theorem ee72_32 : fx_tab 72 32 = some (.istore 4, 34, 4, 0) := by decide +kernel
theorem ee72_34 : fx_tab 72 34 = some (.iload 4, 36, 4, 0) := by decide +kernel
theorem ee72_36 : fx_tab 72 36 = some (.iconst (-1), 37, 0, 0) := by decide +kernel
theorem ee72_37 : fx_tab 72 37 = some (.if_icmp .ne (5), 40, 42, 0) := by decide +kernel
theorem ee72_40 : fx_tab 72 40 = some (.iconst (-1), 41, 0, 0) := by decide +kernel
theorem ee72_41 : fx_tab 72 41 = some (.ireturn, 42, 0, 0) := by decide +kernel
theorem ee72_42 : fx_tab 72 42 = some (.iload_n 3, 43, 3, 0) := by decide +kernel
theorem ee72_43 : fx_tab 72 43 = some (.tableswitch (84) (0) (5) #[(37), (45), (53), (61), (68), (76)], 80, 127, 0) := by decide +kernel
theorem ee72_80 : fx_tab 72 80 = some (.aload_n 0, 81, 0, 0) := by decide +kernel
theorem ee72_81 : fx_tab 72 81 = some (.getfield 23, 84, 781, 70) := by decide +kernel
theorem ee72_84 : fx_tab 72 84 = some (.iload 4, 86, 4, 0) := by decide +kernel
theorem ee72_86 : fx_tab 72 86 = some (.iaload, 87, 0, 0) := by decide +kernel
theorem ee72_87 : fx_tab 72 87 = some (.ireturn, 88, 0, 0) := by decide +kernel
theorem ee72_88 : fx_tab 72 88 = some (.aload_n 0, 89, 0, 0) := by decide +kernel
theorem ee72_89 : fx_tab 72 89 = some (.getfield 26, 92, 782, 70) := by decide +kernel
theorem ee72_92 : fx_tab 72 92 = some (.iload 4, 94, 4, 0) := by decide +kernel
theorem ee72_94 : fx_tab 72 94 = some (.iaload, 95, 0, 0) := by decide +kernel
theorem ee72_95 : fx_tab 72 95 = some (.ireturn, 96, 0, 0) := by decide +kernel
theorem ee72_96 : fx_tab 72 96 = some (.aload_n 0, 97, 0, 0) := by decide +kernel
theorem ee72_97 : fx_tab 72 97 = some (.getfield 29, 100, 783, 70) := by decide +kernel
theorem ee72_100 : fx_tab 72 100 = some (.iload 4, 102, 4, 0) := by decide +kernel
theorem ee72_102 : fx_tab 72 102 = some (.iaload, 103, 0, 0) := by decide +kernel
theorem ee72_103 : fx_tab 72 103 = some (.ireturn, 104, 0, 0) := by decide +kernel
theorem ee72_104 : fx_tab 72 104 = some (.aload_n 0, 105, 0, 0) := by decide +kernel
theorem ee72_105 : fx_tab 72 105 = some (.iload 4, 107, 4, 0) := by decide +kernel
theorem ee72_107 : fx_tab 72 107 = some (.invokevirtual 220, 110, 31, 354) := by decide +kernel
theorem ee72_110 : fx_tab 72 110 = some (.ireturn, 111, 0, 0) := by decide +kernel
theorem ee72_111 : fx_tab 72 111 = some (.aload_n 0, 112, 0, 0) := by decide +kernel
theorem ee72_112 : fx_tab 72 112 = some (.getfield 32, 115, 784, 70) := by decide +kernel
theorem ee72_115 : fx_tab 72 115 = some (.iload 4, 117, 4, 0) := by decide +kernel
theorem ee72_117 : fx_tab 72 117 = some (.iaload, 118, 0, 0) := by decide +kernel
theorem ee72_118 : fx_tab 72 118 = some (.ireturn, 119, 0, 0) := by decide +kernel
theorem ee72_119 : fx_tab 72 119 = some (.aload_n 0, 120, 0, 0) := by decide +kernel
theorem ee72_120 : fx_tab 72 120 = some (.getfield 35, 123, 785, 70) := by decide +kernel
theorem ee72_123 : fx_tab 72 123 = some (.iload 4, 125, 4, 0) := by decide +kernel
theorem ee72_125 : fx_tab 72 125 = some (.iaload, 126, 0, 0) := by decide +kernel
theorem ee72_126 : fx_tab 72 126 = some (.ireturn, 127, 0, 0) := by decide +kernel
theorem ee72_127 : fx_tab 72 127 = some (.iconst (-1), 128, 0, 0) := by decide +kernel
theorem ee72_128 : fx_tab 72 128 = some (.ireturn, 129, 0, 0) := by decide +kernel
theorem ee73_0 : fx_tab 73 0 = some (.aload_n 0, 1, 0, 0) := by decide +kernel
theorem ee73_1 : fx_tab 73 1 = some (.iconst (0), 2, 0, 0) := by decide +kernel
theorem ee73_2 : fx_tab 73 2 = some (.putfield 130, 5, 768, 0) := by decide +kernel
theorem ee73_5 : fx_tab 73 5 = some (.aload_n 0, 6, 0, 0) := by decide +kernel
theorem ee73_6 : fx_tab 73 6 = some (.invokevirtual 195, 9, 32, 353) := by decide +kernel
theorem ee73_9 : fx_tab 73 9 = some (.istore_n 2, 10, 2, 0) := by decide +kernel
theorem ee73_10 : fx_tab 73 10 = some (.iload_n 1, 11, 1, 0) := by decide +kernel
theorem ee73_11 : fx_tab 73 11 = some (.ifCond .ne (10), 14, 21, 0) := by decide +kernel
theorem ee73_14 : fx_tab 73 14 = some (.iload_n 2, 15, 2, 0) := by decide +kernel
theorem ee73_15 : fx_tab 73 15 = some (.bipush (64), 17, 0, 0) := by decide +kernel
theorem ee73_17 : fx_tab 73 17 = some (.idiv, 18, 0, 0) := by decide +kernel
theorem ee73_18 : fx_tab 73 18 = some (.goto (31), 21, 49, 0) := by decide +kernel
theorem ee73_21 : fx_tab 73 21 = some (.iload_n 1, 22, 1, 0) := by decide +kernel
theorem ee73_22 : fx_tab 73 22 = some (.iconst (1), 23, 0, 0) := by decide +kernel
theorem ee73_23 : fx_tab 73 23 = some (.if_icmp .ne (13), 26, 36, 0) := by decide +kernel
theorem ee73_26 : fx_tab 73 26 = some (.iload_n 2, 27, 2, 0) := by decide +kernel
theorem ee73_27 : fx_tab 73 27 = some (.bipush (8), 29, 0, 0) := by decide +kernel
theorem ee73_29 : fx_tab 73 29 = some (.idiv, 30, 0, 0) := by decide +kernel
theorem ee73_30 : fx_tab 73 30 = some (.bipush (8), 32, 0, 0) := by decide +kernel
theorem ee73_32 : fx_tab 73 32 = some (.irem, 33, 0, 0) := by decide +kernel
theorem ee73_33 : fx_tab 73 33 = some (.goto (16), 36, 49, 0) := by decide +kernel
theorem ee73_36 : fx_tab 73 36 = some (.iload_n 1, 37, 1, 0) := by decide +kernel
theorem ee73_37 : fx_tab 73 37 = some (.iconst (2), 38, 0, 0) := by decide +kernel
theorem ee73_38 : fx_tab 73 38 = some (.if_icmp .ne (10), 41, 48, 0) := by decide +kernel
theorem ee73_41 : fx_tab 73 41 = some (.iload_n 2, 42, 2, 0) := by decide +kernel
theorem ee73_42 : fx_tab 73 42 = some (.bipush (8), 44, 0, 0) := by decide +kernel
theorem ee73_44 : fx_tab 73 44 = some (.irem, 45, 0, 0) := by decide +kernel
theorem ee73_45 : fx_tab 73 45 = some (.goto (4), 48, 49, 0) := by decide +kernel
theorem ee73_48 : fx_tab 73 48 = some (.iconst (-1), 49, 0, 0) := by decide +kernel
theorem ee73_49 : fx_tab 73 49 = some (.ireturn, 50, 0, 0) := by decide +kernel
theorem ee74_0 : fx_tab 74 0 = some (.bipush (64), 2, 0, 0) := by decide +kernel
theorem ee74_2 : fx_tab 74 2 = some (.aload_n 0, 3, 0, 0) := by decide +kernel
theorem ee74_3 : fx_tab 74 3 = some (.getfield 23, 6, 781, 70) := by decide +kernel
theorem ee74_6 : fx_tab 74 6 = some (.iload_n 1, 7, 1, 0) := by decide +kernel
theorem ee74_7 : fx_tab 74 7 = some (.iaload, 8, 0, 0) := by decide +kernel
theorem ee74_8 : fx_tab 74 8 = some (.imul, 9, 0, 0) := by decide +kernel
theorem ee74_9 : fx_tab 74 9 = some (.bipush (8), 11, 0, 0) := by decide +kernel
theorem ee74_11 : fx_tab 74 11 = some (.aload_n 0, 12, 0, 0) := by decide +kernel
theorem ee74_12 : fx_tab 74 12 = some (.getfield 26, 15, 782, 70) := by decide +kernel
theorem ee74_15 : fx_tab 74 15 = some (.iload_n 1, 16, 1, 0) := by decide +kernel
theorem ee74_16 : fx_tab 74 16 = some (.iaload, 17, 0, 0) := by decide +kernel
theorem ee74_17 : fx_tab 74 17 = some (.imul, 18, 0, 0) := by decide +kernel
theorem ee74_18 : fx_tab 74 18 = some (.iadd, 19, 0, 0) := by decide +kernel
theorem ee74_19 : fx_tab 74 19 = some (.aload_n 0, 20, 0, 0) := by decide +kernel
theorem ee74_20 : fx_tab 74 20 = some (.getfield 29, 23, 783, 70) := by decide +kernel
theorem ee74_23 : fx_tab 74 23 = some (.iload_n 1, 24, 1, 0) := by decide +kernel
theorem ee74_24 : fx_tab 74 24 = some (.iaload, 25, 0, 0) := by decide +kernel
theorem ee74_25 : fx_tab 74 25 = some (.iadd, 26, 0, 0) := by decide +kernel
theorem ee74_26 : fx_tab 74 26 = some (.aload_n 0, 27, 0, 0) := by decide +kernel
theorem ee74_27 : fx_tab 74 27 = some (.invokevirtual 195, 30, 32, 353) := by decide +kernel
theorem ee74_30 : fx_tab 74 30 = some (.if_icmp .ne (7), 33, 37, 0) := by decide +kernel
theorem ee74_33 : fx_tab 74 33 = some (.iconst (1), 34, 0, 0) := by decide +kernel
theorem ee74_34 : fx_tab 74 34 = some (.goto (4), 37, 38, 0) := by decide +kernel
theorem ee74_37 : fx_tab 74 37 = some (.iconst (0), 38, 0, 0) := by decide +kernel
theorem ee74_38 : fx_tab 74 38 = some (.ireturn, 39, 0, 0) := by decide +kernel
theorem ee75_0 : fx_tab 75 0 = some (.aload_n 0, 1, 0, 0) := by decide +kernel
theorem ee75_1 : fx_tab 75 1 = some (.getfield 158, 4, 810, 0) := by decide +kernel
theorem ee75_4 : fx_tab 75 4 = some (.ifCond .ne (14), 7, 18, 0) := by decide +kernel
theorem ee75_7 : fx_tab 75 7 = some (.aload_n 0, 8, 0, 0) := by decide +kernel
theorem ee75_8 : fx_tab 75 8 = some (.getfield 155, 11, 778, 0) := by decide +kernel
theorem ee75_11 : fx_tab 75 11 = some (.ifCond .ne (7), 14, 18, 0) := by decide +kernel
theorem ee75_14 : fx_tab 75 14 = some (.iconst (1), 15, 0, 0) := by decide +kernel
theorem ee75_15 : fx_tab 75 15 = some (.goto (4), 18, 19, 0) := by decide +kernel
theorem ee75_18 : fx_tab 75 18 = some (.iconst (0), 19, 0, 0) := by decide +kernel
theorem ee75_19 : fx_tab 75 19 = some (.istore_n 1, 20, 1, 0) := by decide +kernel
theorem ee75_20 : fx_tab 75 20 = some (.iconst (0), 21, 0, 0) := by decide +kernel
theorem ee75_21 : fx_tab 75 21 = some (.istore_n 2, 22, 2, 0) := by decide +kernel
theorem ee75_22 : fx_tab 75 22 = some (.iload_n 2, 23, 2, 0) := by decide +kernel
theorem ee75_23 : fx_tab 75 23 = some (.aload_n 0, 24, 0, 0) := by decide +kernel
theorem ee75_24 : fx_tab 75 24 = some (.getfield 140, 27, 770, 0) := by decide +kernel
theorem ee75_27 : fx_tab 75 27 = some (.if_icmp .ge (36), 30, 63, 0) := by decide +kernel
theorem ee75_30 : fx_tab 75 30 = some (.iload_n 1, 31, 1, 0) := by decide +kernel
theorem ee75_31 : fx_tab 75 31 = some (.ifCond .eq (24), 34, 55, 0) := by decide +kernel
theorem ee75_34 : fx_tab 75 34 = some (.aload_n 0, 35, 0, 0) := by decide +kernel
theorem ee75_35 : fx_tab 75 35 = some (.getfield 41, 38, 787, 70) := by decide +kernel
theorem ee75_38 : fx_tab 75 38 = some (.iload_n 2, 39, 2, 0) := by decide +kernel
theorem ee75_39 : fx_tab 75 39 = some (.iaload, 40, 0, 0) := by decide +kernel
theorem ee75_40 : fx_tab 75 40 = some (.ifCond .ne (15), 43, 55, 0) := by decide +kernel
theorem ee75_43 : fx_tab 75 43 = some (.aload_n 0, 44, 0, 0) := by decide +kernel
theorem ee75_44 : fx_tab 75 44 = some (.iload_n 2, 45, 2, 0) := by decide +kernel
theorem ee75_45 : fx_tab 75 45 = some (.invokevirtual 181, 48, 46, 354) := by decide +kernel
theorem ee75_48 : fx_tab 75 48 = some (.ifCond .ne (7), 51, 55, 0) := by decide +kernel
theorem ee75_51 : fx_tab 75 51 = some (.iconst (1), 52, 0, 0) := by decide +kernel
theorem ee75_52 : fx_tab 75 52 = some (.goto (4), 55, 56, 0) := by decide +kernel
theorem ee75_55 : fx_tab 75 55 = some (.iconst (0), 56, 0, 0) := by decide +kernel
theorem ee75_56 : fx_tab 75 56 = some (.istore_n 1, 57, 1, 0) := by decide +kernel
theorem ee75_57 : fx_tab 75 57 = some (.iinc 2 (1), 60, 2, 0) := by decide +kernel
theorem ee75_60 : fx_tab 75 60 = some (.goto (-38), 63, 22, 0) := by decide +kernel
theorem ee75_63 : fx_tab 75 63 = some (.iload_n 1, 64, 1, 0) := by decide +kernel
theorem ee75_64 : fx_tab 75 64 = some (.ireturn, 65, 0, 0) := by decide +kernel
theorem ee76_0 : fx_tab 76 0 = some (.aload_n 0, 1, 0, 0) := by decide +kernel
theorem ee76_1 : fx_tab 76 1 = some (.getfield 17, 4, 779, 70) := by decide +kernel
theorem ee76_4 : fx_tab 76 4 = some (.iload_n 1, 5, 1, 0) := by decide +kernel
theorem ee76_5 : fx_tab 76 5 = some (.iaload, 6, 0, 0) := by decide +kernel
theorem ee76_6 : fx_tab 76 6 = some (.istore_n 3, 7, 3, 0) := by decide +kernel
theorem ee76_7 : fx_tab 76 7 = some (.aload_n 0, 8, 0, 0) := by decide +kernel
theorem ee76_8 : fx_tab 76 8 = some (.getfield 7, 11, 775, 71) := by decide +kernel
theorem ee76_11 : fx_tab 76 11 = some (.iconst (4), 12, 0, 0) := by decide +kernel
theorem ee76_12 : fx_tab 76 12 = some (.iload_n 3, 13, 3, 0) := by decide +kernel
theorem ee76_13 : fx_tab 76 13 = some (.imul, 14, 0, 0) := by decide +kernel
theorem ee76_14 : fx_tab 76 14 = some (.iload_n 2, 15, 2, 0) := by decide +kernel
theorem ee76_15 : fx_tab 76 15 = some (.iadd, 16, 0, 0) := by decide +kernel
theorem ee76_16 : fx_tab 76 16 = some (.baload, 17, 0, 0) := by decide +kernel
theorem ee76_17 : fx_tab 76 17 = some (.ifCond .ne (45), 20, 62, 0) := by decide +kernel
theorem ee76_20 : fx_tab 76 20 = some (.aload_n 0, 21, 0, 0) := by decide +kernel
theorem ee76_21 : fx_tab 76 21 = some (.getfield 13, 24, 776, 70) := by decide +kernel
theorem ee76_24 : fx_tab 76 24 = some (.bipush (64), 26, 0, 0) := by decide +kernel
theorem ee76_26 : fx_tab 76 26 = some (.aload_n 0, 27, 0, 0) := by decide +kernel
theorem ee76_27 : fx_tab 76 27 = some (.iload_n 3, 28, 3, 0) := by decide +kernel
theorem ee76_28 : fx_tab 76 28 = some (.iload_n 2, 29, 2, 0) := by decide +kernel
theorem ee76_29 : fx_tab 76 29 = some (.invokevirtual 177, 32, 37, 355) := by decide +kernel
theorem ee76_32 : fx_tab 76 32 = some (.imul, 33, 0, 0) := by decide +kernel
theorem ee76_33 : fx_tab 76 33 = some (.aload_n 0, 34, 0, 0) := by decide +kernel
theorem ee76_34 : fx_tab 76 34 = some (.iload_n 1, 35, 1, 0) := by decide +kernel
theorem ee76_35 : fx_tab 76 35 = some (.invokevirtual 220, 38, 31, 354) := by decide +kernel
theorem ee76_38 : fx_tab 76 38 = some (.iadd, 39, 0, 0) := by decide +kernel
theorem ee76_39 : fx_tab 76 39 = some (.iaload, 40, 0, 0) := by decide +kernel
theorem ee76_40 : fx_tab 76 40 = some (.aload_n 0, 41, 0, 0) := by decide +kernel
theorem ee76_41 : fx_tab 76 41 = some (.getfield 13, 44, 776, 70) := by decide +kernel
theorem ee76_44 : fx_tab 76 44 = some (.bipush (64), 46, 0, 0) := by decide +kernel
theorem ee76_46 : fx_tab 76 46 = some (.iload_n 3, 47, 3, 0) := by decide +kernel
theorem ee76_47 : fx_tab 76 47 = some (.imul, 48, 0, 0) := by decide +kernel
theorem ee76_48 : fx_tab 76 48 = some (.aload_n 0, 49, 0, 0) := by decide +kernel
theorem ee76_49 : fx_tab 76 49 = some (.iload_n 1, 50, 1, 0) := by decide +kernel
theorem ee76_50 : fx_tab 76 50 = some (.invokevirtual 220, 53, 31, 354) := by decide +kernel
theorem ee76_53 : fx_tab 76 53 = some (.iadd, 54, 0, 0) := by decide +kernel
theorem ee76_54 : fx_tab 76 54 = some (.iaload, 55, 0, 0) := by decide +kernel
theorem ee76_55 : fx_tab 76 55 = some (.if_icmp .ge (7), 58, 62, 0) := by decide +kernel
theorem ee76_58 : fx_tab 76 58 = some (.iconst (1), 59, 0, 0) := by decide +kernel
theorem ee76_59 : fx_tab 76 59 = some (.goto (4), 62, 63, 0) := by decide +kernel
theorem ee76_62 : fx_tab 76 62 = some (.iconst (0), 63, 0, 0) := by decide +kernel
theorem ee76_63 : fx_tab 76 63 = some (.ireturn, 64, 0, 0) := by decide +kernel
theorem ee77_0 : fx_tab 77 0 = some (.iconst (1), 1, 0, 0) := by decide +kernel
theorem ee77_1 : fx_tab 77 1 = some (.istore_n 1, 2, 1, 0) := by decide +kernel
theorem ee77_2 : fx_tab 77 2 = some (.aload_n 0, 3, 0, 0) := by decide +kernel
theorem ee77_3 : fx_tab 77 3 = some (.iconst (0), 4, 0, 0) := by decide +kernel
theorem ee77_4 : fx_tab 77 4 = some (.putfield 174, 7, 777, 0) := by decide +kernel
theorem ee77_7 : fx_tab 77 7 = some (.iconst (0), 8, 0, 0) := by decide +kernel
theorem ee77_8 : fx_tab 77 8 = some (.istore_n 2, 9, 2, 0) := by decide +kernel
theorem ee77_9 : fx_tab 77 9 = some (.iload_n 2, 10, 2, 0) := by decide +kernel
theorem ee77_10 : fx_tab 77 10 = some (.aload_n 0, 11, 0, 0) := by decide +kernel
theorem ee77_11 : fx_tab 77 11 = some (.getfield 140, 14, 770, 0) := by decide +kernel
theorem ee77_14 : fx_tab 77 14 = some (.if_icmp .ge (265), 17, 279, 0) := by decide +kernel
theorem ee77_17 : fx_tab 77 17 = some (.iconst (0), 18, 0, 0) := by decide +kernel
theorem ee77_18 : fx_tab 77 18 = some (.istore_n 3, 19, 3, 0) := by decide +kernel
theorem ee77_19 : fx_tab 77 19 = some (.iload_n 3, 20, 3, 0) := by decide +kernel
theorem ee77_20 : fx_tab 77 20 = some (.aload_n 0, 21, 0, 0) := by decide +kernel
theorem ee77_21 : fx_tab 77 21 = some (.getfield 140, 24, 770, 0) := by decide +kernel
theorem ee77_24 : fx_tab 77 24 = some (.if_icmp .ge (32), 27, 56, 0) := by decide +kernel
theorem ee77_27 : fx_tab 77 27 = some (.aload_n 0, 28, 0, 0) := by decide +kernel
theorem ee77_28 : fx_tab 77 28 = some (.getfield 13, 31, 776, 70) := by decide +kernel
theorem ee77_31 : fx_tab 77 31 = some (.bipush (64), 33, 0, 0) := by decide +kernel
theorem ee77_33 : fx_tab 77 33 = some (.iload_n 2, 34, 2, 0) := by decide +kernel
theorem ee77_34 : fx_tab 77 34 = some (.imul, 35, 0, 0) := by decide +kernel
theorem ee77_35 : fx_tab 77 35 = some (.iload_n 3, 36, 3, 0) := by decide +kernel
theorem ee77_36 : fx_tab 77 36 = some (.iadd, 37, 0, 0) := by decide +kernel
theorem ee77_37 : fx_tab 77 37 = some (.iload_n 2, 38, 2, 0) := by decide +kernel
theorem ee77_38 : fx_tab 77 38 = some (.iload_n 3, 39, 3, 0) := by decide +kernel
theorem ee77_39 : fx_tab 77 39 = some (.if_icmp .ne (7), 42, 46, 0) := by decide +kernel
theorem ee77_42 : fx_tab 77 42 = some (.iconst (0), 43, 0, 0) := by decide +kernel
theorem ee77_43 : fx_tab 77 43 = some (.goto (6), 46, 49, 0) := by decide +kernel
theorem ee77_46 : fx_tab 77 46 = some (.sipush (1000), 49, 0, 0) := by decide +kernel
theorem ee77_49 : fx_tab 77 49 = some (.iastore, 50, 0, 0) := by decide +kernel
theorem ee77_50 : fx_tab 77 50 = some (.iinc 3 (1), 53, 3, 0) := by decide +kernel
theorem ee77_53 : fx_tab 77 53 = some (.goto (-34), 56, 19, 0) := by decide +kernel
theorem ee77_56 : fx_tab 77 56 = some (.iconst (1), 57, 0, 0) := by decide +kernel
theorem ee77_57 : fx_tab 77 57 = some (.istore_n 3, 58, 3, 0) := by decide +kernel
theorem ee77_58 : fx_tab 77 58 = some (.iload_n 3, 59, 3, 0) := by decide +kernel
theorem ee77_59 : fx_tab 77 59 = some (.ifCond .eq (126), 62, 185, 0) := by decide +kernel
theorem ee77_62 : fx_tab 77 62 = some (.iconst (0), 63, 0, 0) := by decide +kernel
theorem ee77_63 : fx_tab 77 63 = some (.istore_n 3, 64, 3, 0) := by decide +kernel
theorem ee77_64 : fx_tab 77 64 = some (.iconst (0), 65, 0, 0) := by decide +kernel
theorem ee77_65 : fx_tab 77 65 = some (.istore 4, 67, 4, 0) := by decide +kernel
theorem ee77_67 : fx_tab 77 67 = some (.iload 4, 69, 4, 0) := by decide +kernel
theorem ee77_69 : fx_tab 77 69 = some (.aload_n 0, 70, 0, 0) := by decide +kernel
theorem ee77_70 : fx_tab 77 70 = some (.getfield 140, 73, 770, 0) := by decide +kernel
theorem ee77_73 : fx_tab 77 73 = some (.if_icmp .ge (109), 76, 182, 0) := by decide +kernel
theorem ee77_76 : fx_tab 77 76 = some (.iconst (0), 77, 0, 0) := by decide +kernel
theorem ee77_77 : fx_tab 77 77 = some (.istore 5, 79, 5, 0) := by decide +kernel
theorem ee77_79 : fx_tab 77 79 = some (.iload 5, 81, 5, 0) := by decide +kernel
theorem ee77_81 : fx_tab 77 81 = some (.iconst (4), 82, 0, 0) := by decide +kernel
theorem ee77_82 : fx_tab 77 82 = some (.if_icmp .ge (94), 85, 176, 0) := by decide +kernel
theorem ee77_85 : fx_tab 77 85 = some (.aload_n 0, 86, 0, 0) := by decide +kernel
theorem ee77_86 : fx_tab 77 86 = some (.iload 4, 88, 4, 0) := by decide +kernel
theorem ee77_88 : fx_tab 77 88 = some (.iload 5, 90, 5, 0) := by decide +kernel
theorem ee77_90 : fx_tab 77 90 = some (.invokevirtual 177, 93, 37, 355) := by decide +kernel
theorem ee77_93 : fx_tab 77 93 = some (.istore 6, 95, 6, 0) := by decide +kernel
theorem ee77_95 : fx_tab 77 95 = some (.aload_n 0, 96, 0, 0) := by decide +kernel
theorem ee77_96 : fx_tab 77 96 = some (.getfield 7, 99, 775, 71) := by decide +kernel
theorem ee77_99 : fx_tab 77 99 = some (.iconst (4), 100, 0, 0) := by decide +kernel
theorem ee77_100 : fx_tab 77 100 = some (.iload 4, 102, 4, 0) := by decide +kernel
theorem ee77_102 : fx_tab 77 102 = some (.imul, 103, 0, 0) := by decide +kernel
theorem ee77_103 : fx_tab 77 103 = some (.iload 5, 105, 5, 0) := by decide +kernel
theorem ee77_105 : fx_tab 77 105 = some (.iadd, 106, 0, 0) := by decide +kernel
theorem ee77_106 : fx_tab 77 106 = some (.baload, 107, 0, 0) := by decide +kernel
theorem ee77_107 : fx_tab 77 107 = some (.ifCond .ne (63), 110, 170, 0) := by decide +kernel
theorem ee77_110 : fx_tab 77 110 = some (.aload_n 0, 111, 0, 0) := by decide +kernel
theorem ee77_111 : fx_tab 77 111 = some (.getfield 13, 114, 776, 70) := by decide +kernel
theorem ee77_114 : fx_tab 77 114 = some (.bipush (64), 116, 0, 0) := by decide +kernel
theorem ee77_116 : fx_tab 77 116 = some (.iload_n 2, 117, 2, 0) := by decide +kernel
theorem ee77_117 : fx_tab 77 117 = some (.imul, 118, 0, 0) := by decide +kernel
theorem ee77_118 : fx_tab 77 118 = some (.iload 4, 120, 4, 0) := by decide +kernel
theorem ee77_120 : fx_tab 77 120 = some (.iadd, 121, 0, 0) := by decide +kernel
theorem ee77_121 : fx_tab 77 121 = some (.iaload, 122, 0, 0) := by decide +kernel
theorem ee77_122 : fx_tab 77 122 = some (.iconst (1), 123, 0, 0) := by decide +kernel
theorem ee77_123 : fx_tab 77 123 = some (.iadd, 124, 0, 0) := by decide +kernel
theorem ee77_124 : fx_tab 77 124 = some (.aload_n 0, 125, 0, 0) := by decide +kernel
theorem ee77_125 : fx_tab 77 125 = some (.getfield 13, 128, 776, 70) := by decide +kernel
theorem ee77_128 : fx_tab 77 128 = some (.bipush (64), 130, 0, 0) := by decide +kernel
theorem ee77_130 : fx_tab 77 130 = some (.iload_n 2, 131, 2, 0) := by decide +kernel
theorem ee77_131 : fx_tab 77 131 = some (.imul, 132, 0, 0) := by decide +kernel
theorem ee77_132 : fx_tab 77 132 = some (.iload 6, 134, 6, 0) := by decide +kernel
theorem ee77_134 : fx_tab 77 134 = some (.iadd, 135, 0, 0) := by decide +kernel
theorem ee77_135 : fx_tab 77 135 = some (.iaload, 136, 0, 0) := by decide +kernel
theorem ee77_136 : fx_tab 77 136 = some (.if_icmp .lt (6), 139, 142, 0) := by decide +kernel
theorem ee77_139 : fx_tab 77 139 = some (.goto (31), 142, 170, 0) := by decide +kernel
theorem ee77_142 : fx_tab 77 142 = some (.aload_n 0, 143, 0, 0) := by decide +kernel
theorem ee77_143 : fx_tab 77 143 = some (.getfield 13, 146, 776, 70) := by decide +kernel
theorem ee77_146 : fx_tab 77 146 = some (.bipush (64), 148, 0, 0) := by decide +kernel
theorem ee77_148 : fx_tab 77 148 = some (.iload_n 2, 149, 2, 0) := by decide +kernel
theorem ee77_149 : fx_tab 77 149 = some (.imul, 150, 0, 0) := by decide +kernel
theorem ee77_150 : fx_tab 77 150 = some (.iload 6, 152, 6, 0) := by decide +kernel
theorem ee77_152 : fx_tab 77 152 = some (.iadd, 153, 0, 0) := by decide +kernel
theorem ee77_153 : fx_tab 77 153 = some (.aload_n 0, 154, 0, 0) := by decide +kernel
theorem ee77_154 : fx_tab 77 154 = some (.getfield 13, 157, 776, 70) := by decide +kernel
theorem ee77_157 : fx_tab 77 157 = some (.bipush (64), 159, 0, 0) := by decide +kernel
theorem ee77_159 : fx_tab 77 159 = some (.iload_n 2, 160, 2, 0) := by decide +kernel
theorem ee77_160 : fx_tab 77 160 = some (.imul, 161, 0, 0) := by decide +kernel
theorem ee77_161 : fx_tab 77 161 = some (.iload 4, 163, 4, 0) := by decide +kernel
theorem ee77_163 : fx_tab 77 163 = some (.iadd, 164, 0, 0) := by decide +kernel
theorem ee77_164 : fx_tab 77 164 = some (.iaload, 165, 0, 0) := by decide +kernel
theorem ee77_165 : fx_tab 77 165 = some (.iconst (1), 166, 0, 0) := by decide +kernel
theorem ee77_166 : fx_tab 77 166 = some (.iadd, 167, 0, 0) := by decide +kernel
theorem ee77_167 : fx_tab 77 167 = some (.iastore, 168, 0, 0) := by decide +kernel
theorem ee77_168 : fx_tab 77 168 = some (.iconst (1), 169, 0, 0) := by decide +kernel
theorem ee77_169 : fx_tab 77 169 = some (.istore_n 3, 170, 3, 0) := by decide +kernel
theorem ee77_170 : fx_tab 77 170 = some (.iinc 5 (1), 173, 5, 0) := by decide +kernel
theorem ee77_173 : fx_tab 77 173 = some (.goto (-94), 176, 79, 0) := by decide +kernel
theorem ee77_176 : fx_tab 77 176 = some (.iinc 4 (1), 179, 4, 0) := by decide +kernel
theorem ee77_179 : fx_tab 77 179 = some (.goto (-112), 182, 67, 0) := by decide +kernel
theorem ee77_182 : fx_tab 77 182 = some (.goto (-124), 185, 58, 0) := by decide +kernel
theorem ee77_185 : fx_tab 77 185 = some (.iconst (0), 186, 0, 0) := by decide +kernel
theorem ee77_186 : fx_tab 77 186 = some (.istore 4, 188, 4, 0) := by decide +kernel
theorem ee77_188 : fx_tab 77 188 = some (.iload 4, 190, 4, 0) := by decide +kernel
theorem ee77_190 : fx_tab 77 190 = some (.aload_n 0, 191, 0, 0) := by decide +kernel
theorem ee77_191 : fx_tab 77 191 = some (.getfield 140, 194, 770, 0) := by decide +kernel
theorem ee77_194 : fx_tab 77 194 = some (.if_icmp .ge (79), 197, 273, 0) := by decide +kernel
theorem ee77_197 : fx_tab 77 197 = some (.iload_n 1, 198, 1, 0) := by decide +kernel
theorem ee77_198 : fx_tab 77 198 = some (.ifCond .eq (25), 201, 223, 0) := by decide +kernel
theorem ee77_201 : fx_tab 77 201 = some (.aload_n 0, 202, 0, 0) := by decide +kernel
theorem ee77_202 : fx_tab 77 202 = some (.getfield 13, 205, 776, 70) := by decide +kernel
theorem ee77_205 : fx_tab 77 205 = some (.bipush (64), 207, 0, 0) := by decide +kernel
theorem ee77_207 : fx_tab 77 207 = some (.iload_n 2, 208, 2, 0) := by decide +kernel
theorem ee77_208 : fx_tab 77 208 = some (.imul, 209, 0, 0) := by decide +kernel
theorem ee77_209 : fx_tab 77 209 = some (.iload 4, 211, 4, 0) := by decide +kernel
theorem ee77_211 : fx_tab 77 211 = some (.iadd, 212, 0, 0) := by decide +kernel
theorem ee77_212 : fx_tab 77 212 = some (.iaload, 213, 0, 0) := by decide +kernel
theorem ee77_213 : fx_tab 77 213 = some (.sipush (1000), 216, 0, 0) := by decide +kernel
theorem ee77_216 : fx_tab 77 216 = some (.if_icmp .ge (7), 219, 223, 0) := by decide +kernel
theorem ee77_219 : fx_tab 77 219 = some (.iconst (1), 220, 0, 0) := by decide +kernel
theorem ee77_220 : fx_tab 77 220 = some (.goto (4), 223, 224, 0) := by decide +kernel
theorem ee77_223 : fx_tab 77 223 = some (.iconst (0), 224, 0, 0) := by decide +kernel
theorem ee77_224 : fx_tab 77 224 = some (.istore_n 1, 225, 1, 0) := by decide +kernel
theorem ee77_225 : fx_tab 77 225 = some (.aload_n 0, 226, 0, 0) := by decide +kernel
theorem ee77_226 : fx_tab 77 226 = some (.aload_n 0, 227, 0, 0) := by decide +kernel
theorem ee77_227 : fx_tab 77 227 = some (.getfield 13, 230, 776, 70) := by decide +kernel
theorem ee77_230 : fx_tab 77 230 = some (.bipush (64), 232, 0, 0) := by decide +kernel
theorem ee77_232 : fx_tab 77 232 = some (.iload_n 2, 233, 2, 0) := by decide +kernel
theorem ee77_233 : fx_tab 77 233 = some (.imul, 234, 0, 0) := by decide +kernel
theorem ee77_234 : fx_tab 77 234 = some (.iload 4, 236, 4, 0) := by decide +kernel
theorem ee77_236 : fx_tab 77 236 = some (.iadd, 237, 0, 0) := by decide +kernel
theorem ee77_237 : fx_tab 77 237 = some (.iaload, 238, 0, 0) := by decide +kernel
theorem ee77_238 : fx_tab 77 238 = some (.aload_n 0, 239, 0, 0) := by decide +kernel
theorem ee77_239 : fx_tab 77 239 = some (.getfield 174, 242, 777, 0) := by decide +kernel
theorem ee77_242 : fx_tab 77 242 = some (.if_icmp .le (18), 245, 260, 0) := by decide +kernel
theorem ee77_245 : fx_tab 77 245 = some (.aload_n 0, 246, 0, 0) := by decide +kernel
theorem ee77_246 : fx_tab 77 246 = some (.getfield 13, 249, 776, 70) := by decide +kernel
theorem ee77_249 : fx_tab 77 249 = some (.bipush (64), 251, 0, 0) := by decide +kernel
theorem ee77_251 : fx_tab 77 251 = some (.iload_n 2, 252, 2, 0) := by decide +kernel
theorem ee77_252 : fx_tab 77 252 = some (.imul, 253, 0, 0) := by decide +kernel
theorem ee77_253 : fx_tab 77 253 = some (.iload 4, 255, 4, 0) := by decide +kernel
theorem ee77_255 : fx_tab 77 255 = some (.iadd, 256, 0, 0) := by decide +kernel
theorem ee77_256 : fx_tab 77 256 = some (.iaload, 257, 0, 0) := by decide +kernel
theorem ee77_257 : fx_tab 77 257 = some (.goto (7), 260, 264, 0) := by decide +kernel
theorem ee77_260 : fx_tab 77 260 = some (.aload_n 0, 261, 0, 0) := by decide +kernel
theorem ee77_261 : fx_tab 77 261 = some (.getfield 174, 264, 777, 0) := by decide +kernel
theorem ee77_264 : fx_tab 77 264 = some (.putfield 174, 267, 777, 0) := by decide +kernel
theorem ee77_267 : fx_tab 77 267 = some (.iinc 4 (1), 270, 4, 0) := by decide +kernel
theorem ee77_270 : fx_tab 77 270 = some (.goto (-82), 273, 188, 0) := by decide +kernel
theorem ee77_273 : fx_tab 77 273 = some (.iinc 2 (1), 276, 2, 0) := by decide +kernel
theorem ee77_276 : fx_tab 77 276 = some (.goto (-267), 279, 9, 0) := by decide +kernel
theorem ee77_279 : fx_tab 77 279 = some (.iload_n 1, 280, 1, 0) := by decide +kernel
theorem ee77_280 : fx_tab 77 280 = some (.ireturn, 281, 0, 0) := by decide +kernel
theorem ee78_0 : fx_tab 78 0 = some (.aload_n 0, 1, 0, 0) := by decide +kernel
theorem ee78_1 : fx_tab 78 1 = some (.iconst (0), 2, 0, 0) := by decide +kernel
theorem ee78_2 : fx_tab 78 2 = some (.putfield 130, 5, 768, 0) := by decide +kernel
theorem ee78_5 : fx_tab 78 5 = some (.aload_n 0, 6, 0, 0) := by decide +kernel
theorem ee78_6 : fx_tab 78 6 = some (.iload_n 1, 7, 1, 0) := by decide +kernel
theorem ee78_7 : fx_tab 78 7 = some (.invokevirtual 185, 10, 34, 354) := by decide +kernel
theorem ee78_10 : fx_tab 78 10 = some (.ifCond .ne (5), 13, 15, 0) := by decide +kernel
theorem ee78_13 : fx_tab 78 13 = some (.iconst (-1), 14, 0, 0) := by decide +kernel
theorem ee78_14 : fx_tab 78 14 = some (.ireturn, 15, 0, 0) := by decide +kernel
theorem ee78_15 : fx_tab 78 15 = some (.iconst (0), 16, 0, 0) := by decide +kernel
theorem ee78_16 : fx_tab 78 16 = some (.istore_n 3, 17, 3, 0) := by decide +kernel
theorem ee78_17 : fx_tab 78 17 = some (.iconst (4), 18, 0, 0) := by decide +kernel
theorem ee78_18 : fx_tab 78 18 = some (.iload_n 1, 19, 1, 0) := by decide +kernel
theorem ee78_19 : fx_tab 78 19 = some (.imul, 20, 0, 0) := by decide +kernel
theorem ee78_20 : fx_tab 78 20 = some (.istore 4, 22, 4, 0) := by decide +kernel
theorem ee78_22 : fx_tab 78 22 = some (.iload 4, 24, 4, 0) := by decide +kernel
theorem ee78_24 : fx_tab 78 24 = some (.iconst (4), 25, 0, 0) := by decide +kernel
theorem ee78_25 : fx_tab 78 25 = some (.iload_n 1, 26, 1, 0) := by decide +kernel
theorem ee78_26 : fx_tab 78 26 = some (.imul, 27, 0, 0) := by decide +kernel
theorem ee78_27 : fx_tab 78 27 = some (.iconst (4), 28, 0, 0) := by decide +kernel
theorem ee78_28 : fx_tab 78 28 = some (.iadd, 29, 0, 0) := by decide +kernel
theorem ee78_29 : fx_tab 78 29 = some (.if_icmp .ge (28), 32, 57, 0) := by decide +kernel
theorem ee78_32 : fx_tab 78 32 = some (.iload_n 3, 33, 3, 0) := by decide +kernel
theorem ee78_33 : fx_tab 78 33 = some (.aload_n 0, 34, 0, 0) := by decide +kernel
theorem ee78_34 : fx_tab 78 34 = some (.getfield 77, 37, 799, 70) := by decide +kernel
theorem ee78_37 : fx_tab 78 37 = some (.iload 4, 39, 4, 0) := by decide +kernel
theorem ee78_39 : fx_tab 78 39 = some (.iaload, 40, 0, 0) := by decide +kernel
theorem ee78_40 : fx_tab 78 40 = some (.iconst (-1), 41, 0, 0) := by decide +kernel
theorem ee78_41 : fx_tab 78 41 = some (.if_icmp .ne (7), 44, 48, 0) := by decide +kernel
theorem ee78_44 : fx_tab 78 44 = some (.iconst (0), 45, 0, 0) := by decide +kernel
theorem ee78_45 : fx_tab 78 45 = some (.goto (4), 48, 49, 0) := by decide +kernel
theorem ee78_48 : fx_tab 78 48 = some (.iconst (1), 49, 0, 0) := by decide +kernel
theorem ee78_49 : fx_tab 78 49 = some (.iadd, 50, 0, 0) := by decide +kernel
theorem ee78_50 : fx_tab 78 50 = some (.istore_n 3, 51, 3, 0) := by decide +kernel
theorem ee78_51 : fx_tab 78 51 = some (.iinc 4 (1), 54, 4, 0) := by decide +kernel
theorem ee78_54 : fx_tab 78 54 = some (.goto (-32), 57, 22, 0) := by decide +kernel
theorem ee78_57 : fx_tab 78 57 = some (.iload_n 2, 58, 2, 0) := by decide +kernel
theorem ee78_58 : fx_tab 78 58 = some (.tableswitch (106) (0) (8) #[(50), (57), (63), (70), (72), (79), (85), (92), (99)], 108, 164, 0) := by decide +kernel
theorem ee78_108 : fx_tab 78 108 = some (.aload_n 0, 109, 0, 0) := by decide +kernel
theorem ee78_109 : fx_tab 78 109 = some (.getfield 41, 112, 787, 70) := by decide +kernel
theorem ee78_112 : fx_tab 78 112 = some (.iload_n 1, 113, 1, 0) := by decide +kernel
theorem ee78_113 : fx_tab 78 113 = some (.iaload, 114, 0, 0) := by decide +kernel
theorem ee78_114 : fx_tab 78 114 = some (.ireturn, 115, 0, 0) := by decide +kernel
theorem ee78_115 : fx_tab 78 115 = some (.aload_n 0, 116, 0, 0) := by decide +kernel
theorem ee78_116 : fx_tab 78 116 = some (.iload_n 1, 117, 1, 0) := by decide +kernel
theorem ee78_117 : fx_tab 78 117 = some (.invokevirtual 181, 120, 46, 354) := by decide +kernel
theorem ee78_120 : fx_tab 78 120 = some (.ireturn, 121, 0, 0) := by decide +kernel
theorem ee78_121 : fx_tab 78 121 = some (.aload_n 0, 122, 0, 0) := by decide +kernel
theorem ee78_122 : fx_tab 78 122 = some (.getfield 93, 125, 804, 70) := by decide +kernel
theorem ee78_125 : fx_tab 78 125 = some (.iload_n 1, 126, 1, 0) := by decide +kernel
theorem ee78_126 : fx_tab 78 126 = some (.iaload, 127, 0, 0) := by decide +kernel
theorem ee78_127 : fx_tab 78 127 = some (.ireturn, 128, 0, 0) := by decide +kernel
theorem ee78_128 : fx_tab 78 128 = some (.iload_n 3, 129, 3, 0) := by decide +kernel
theorem ee78_129 : fx_tab 78 129 = some (.ireturn, 130, 0, 0) := by decide +kernel
theorem ee78_130 : fx_tab 78 130 = some (.aload_n 0, 131, 0, 0) := by decide +kernel
theorem ee78_131 : fx_tab 78 131 = some (.getfield 86, 134, 802, 70) := by decide +kernel
theorem ee78_134 : fx_tab 78 134 = some (.iload_n 1, 135, 1, 0) := by decide +kernel
theorem ee78_135 : fx_tab 78 135 = some (.iaload, 136, 0, 0) := by decide +kernel
theorem ee78_136 : fx_tab 78 136 = some (.ireturn, 137, 0, 0) := by decide +kernel
theorem ee78_137 : fx_tab 78 137 = some (.aload_n 0, 138, 0, 0) := by decide +kernel
theorem ee78_138 : fx_tab 78 138 = some (.iload_n 1, 139, 1, 0) := by decide +kernel
theorem ee78_139 : fx_tab 78 139 = some (.invokevirtual 245, 142, 28, 354) := by decide +kernel
theorem ee78_142 : fx_tab 78 142 = some (.ireturn, 143, 0, 0) := by decide +kernel
theorem ee78_143 : fx_tab 78 143 = some (.aload_n 0, 144, 0, 0) := by decide +kernel
theorem ee78_144 : fx_tab 78 144 = some (.getfield 123, 147, 815, 70) := by decide +kernel
theorem ee78_147 : fx_tab 78 147 = some (.iload_n 1, 148, 1, 0) := by decide +kernel
theorem ee78_148 : fx_tab 78 148 = some (.iaload, 149, 0, 0) := by decide +kernel
theorem ee78_149 : fx_tab 78 149 = some (.ireturn, 150, 0, 0) := by decide +kernel
theorem ee78_150 : fx_tab 78 150 = some (.aload_n 0, 151, 0, 0) := by decide +kernel
theorem ee78_151 : fx_tab 78 151 = some (.getfield 120, 154, 814, 70) := by decide +kernel
theorem ee78_154 : fx_tab 78 154 = some (.iload_n 1, 155, 1, 0) := by decide +kernel
theorem ee78_155 : fx_tab 78 155 = some (.iaload, 156, 0, 0) := by decide +kernel
theorem ee78_156 : fx_tab 78 156 = some (.ireturn, 157, 0, 0) := by decide +kernel
theorem ee78_157 : fx_tab 78 157 = some (.aload_n 0, 158, 0, 0) := by decide +kernel
theorem ee78_158 : fx_tab 78 158 = some (.getfield 71, 161, 797, 70) := by decide +kernel
theorem ee78_161 : fx_tab 78 161 = some (.iload_n 1, 162, 1, 0) := by decide +kernel
theorem ee78_162 : fx_tab 78 162 = some (.iaload, 163, 0, 0) := by decide +kernel
theorem ee78_163 : fx_tab 78 163 = some (.ireturn, 164, 0, 0) := by decide +kernel
theorem ee78_164 : fx_tab 78 164 = some (.iconst (-1), 165, 0, 0) := by decide +kernel
theorem ee78_165 : fx_tab 78 165 = some (.ireturn, 166, 0, 0) := by decide +kernel
theorem ee79_0 : fx_tab 79 0 = some (.aload_n 0, 1, 0, 0) := by decide +kernel
theorem ee79_1 : fx_tab 79 1 = some (.iconst (0), 2, 0, 0) := by decide +kernel
theorem ee79_2 : fx_tab 79 2 = some (.putfield 130, 5, 768, 0) := by decide +kernel
theorem ee79_5 : fx_tab 79 5 = some (.aload_n 0, 6, 0, 0) := by decide +kernel
theorem ee79_6 : fx_tab 79 6 = some (.iload_n 1, 7, 1, 0) := by decide +kernel
theorem ee79_7 : fx_tab 79 7 = some (.invokevirtual 185, 10, 34, 354) := by decide +kernel
theorem ee79_10 : fx_tab 79 10 = some (.ifCond .eq (36), 13, 46, 0) := by decide +kernel
theorem ee79_13 : fx_tab 79 13 = some (.aload_n 0, 14, 0, 0) := by decide +kernel
theorem ee79_14 : fx_tab 79 14 = some (.iload_n 2, 15, 2, 0) := by decide +kernel
theorem ee79_15 : fx_tab 79 15 = some (.invokevirtual 185, 18, 34, 354) := by decide +kernel
theorem ee79_18 : fx_tab 79 18 = some (.ifCond .eq (28), 21, 46, 0) := by decide +kernel
theorem ee79_21 : fx_tab 79 21 = some (.iload_n 1, 22, 1, 0) := by decide +kernel
theorem ee79_22 : fx_tab 79 22 = some (.iload_n 2, 23, 2, 0) := by decide +kernel
theorem ee79_23 : fx_tab 79 23 = some (.if_icmp .eq (23), 26, 46, 0) := by decide +kernel
theorem ee79_26 : fx_tab 79 26 = some (.iload_n 3, 27, 3, 0) := by decide +kernel
theorem ee79_27 : fx_tab 79 27 = some (.iconst (1), 28, 0, 0) := by decide +kernel
theorem ee79_28 : fx_tab 79 28 = some (.bipush (8), 30, 0, 0) := by decide +kernel
theorem ee79_30 : fx_tab 79 30 = some (.invokestatic 134, 33, 47, 3) := by decide +kernel
theorem ee79_33 : fx_tab 79 33 = some (.ifCond .eq (13), 36, 46, 0) := by decide +kernel
theorem ee79_36 : fx_tab 79 36 = some (.aload_n 0, 37, 0, 0) := by decide +kernel
theorem ee79_37 : fx_tab 79 37 = some (.getfield 41, 40, 787, 70) := by decide +kernel
theorem ee79_40 : fx_tab 79 40 = some (.iload_n 1, 41, 1, 0) := by decide +kernel
theorem ee79_41 : fx_tab 79 41 = some (.iaload, 42, 0, 0) := by decide +kernel
theorem ee79_42 : fx_tab 79 42 = some (.iconst (4), 43, 0, 0) := by decide +kernel
theorem ee79_43 : fx_tab 79 43 = some (.if_icmp .ne (5), 46, 48, 0) := by decide +kernel
theorem ee79_46 : fx_tab 79 46 = some (.iconst (0), 47, 0, 0) := by decide +kernel
theorem ee79_47 : fx_tab 79 47 = some (.ireturn, 48, 0, 0) := by decide +kernel
theorem ee79_48 : fx_tab 79 48 = some (.aload_n 0, 49, 0, 0) := by decide +kernel
theorem ee79_49 : fx_tab 79 49 = some (.getfield 44, 52, 788, 70) := by decide +kernel
theorem ee79_52 : fx_tab 79 52 = some (.iconst (4), 53, 0, 0) := by decide +kernel
theorem ee79_53 : fx_tab 79 53 = some (.iload_n 1, 54, 1, 0) := by decide +kernel
theorem ee79_54 : fx_tab 79 54 = some (.imul, 55, 0, 0) := by decide +kernel
theorem ee79_55 : fx_tab 79 55 = some (.aload_n 0, 56, 0, 0) := by decide +kernel
theorem ee79_56 : fx_tab 79 56 = some (.getfield 41, 59, 787, 70) := by decide +kernel
theorem ee79_59 : fx_tab 79 59 = some (.iload_n 1, 60, 1, 0) := by decide +kernel
theorem ee79_60 : fx_tab 79 60 = some (.iaload, 61, 0, 0) := by decide +kernel
theorem ee79_61 : fx_tab 79 61 = some (.iadd, 62, 0, 0) := by decide +kernel
theorem ee79_62 : fx_tab 79 62 = some (.iload_n 2, 63, 2, 0) := by decide +kernel
theorem ee79_63 : fx_tab 79 63 = some (.iastore, 64, 0, 0) := by decide +kernel
theorem ee79_64 : fx_tab 79 64 = some (.aload_n 0, 65, 0, 0) := by decide +kernel
theorem ee79_65 : fx_tab 79 65 = some (.getfield 47, 68, 789, 70) := by decide +kernel
theorem ee79_68 : fx_tab 79 68 = some (.iconst (4), 69, 0, 0) := by decide +kernel
theorem ee79_69 : fx_tab 79 69 = some (.iload_n 1, 70, 1, 0) := by decide +kernel
theorem ee79_70 : fx_tab 79 70 = some (.imul, 71, 0, 0) := by decide +kernel
theorem ee79_71 : fx_tab 79 71 = some (.aload_n 0, 72, 0, 0) := by decide +kernel
theorem ee79_72 : fx_tab 79 72 = some (.getfield 41, 75, 787, 70) := by decide +kernel
theorem ee79_75 : fx_tab 79 75 = some (.iload_n 1, 76, 1, 0) := by decide +kernel
theorem ee79_76 : fx_tab 79 76 = some (.iaload, 77, 0, 0) := by decide +kernel
theorem ee79_77 : fx_tab 79 77 = some (.iadd, 78, 0, 0) := by decide +kernel
theorem ee79_78 : fx_tab 79 78 = some (.iload_n 3, 79, 3, 0) := by decide +kernel
theorem ee79_79 : fx_tab 79 79 = some (.iastore, 80, 0, 0) := by decide +kernel
theorem ee79_80 : fx_tab 79 80 = some (.aload_n 0, 81, 0, 0) := by decide +kernel
theorem ee79_81 : fx_tab 79 81 = some (.getfield 50, 84, 790, 70) := by decide +kernel
theorem ee79_84 : fx_tab 79 84 = some (.iconst (4), 85, 0, 0) := by decide +kernel
theorem ee79_85 : fx_tab 79 85 = some (.iload_n 1, 86, 1, 0) := by decide +kernel
theorem ee79_86 : fx_tab 79 86 = some (.imul, 87, 0, 0) := by decide +kernel
theorem ee79_87 : fx_tab 79 87 = some (.aload_n 0, 88, 0, 0) := by decide +kernel
theorem ee79_88 : fx_tab 79 88 = some (.getfield 41, 91, 787, 70) := by decide +kernel
theorem ee79_91 : fx_tab 79 91 = some (.iload_n 1, 92, 1, 0) := by decide +kernel
theorem ee79_92 : fx_tab 79 92 = some (.iaload, 93, 0, 0) := by decide +kernel
theorem ee79_93 : fx_tab 79 93 = some (.iadd, 94, 0, 0) := by decide +kernel
theorem ee79_94 : fx_tab 79 94 = some (.iload 4, 96, 4, 0) := by decide +kernel
theorem ee79_96 : fx_tab 79 96 = some (.iastore, 97, 0, 0) := by decide +kernel
theorem ee79_97 : fx_tab 79 97 = some (.aload_n 0, 98, 0, 0) := by decide +kernel
theorem ee79_98 : fx_tab 79 98 = some (.getfield 41, 101, 787, 70) := by decide +kernel
theorem ee79_101 : fx_tab 79 101 = some (.iload_n 1, 102, 1, 0) := by decide +kernel
theorem ee79_102 : fx_tab 79 102 = some (.dup2, 103, 0, 0) := by decide +kernel
theorem ee79_103 : fx_tab 79 103 = some (.iaload, 104, 0, 0) := by decide +kernel
theorem ee79_104 : fx_tab 79 104 = some (.iconst (1), 105, 0, 0) := by decide +kernel
theorem ee79_105 : fx_tab 79 105 = some (.iadd, 106, 0, 0) := by decide +kernel
theorem ee79_106 : fx_tab 79 106 = some (.iastore, 107, 0, 0) := by decide +kernel
theorem ee79_107 : fx_tab 79 107 = some (.iconst (1), 108, 0, 0) := by decide +kernel
theorem ee79_108 : fx_tab 79 108 = some (.ireturn, 109, 0, 0) := by decide +kernel
theorem ee80_0 : fx_tab 80 0 = some (.iconst (4), 1, 0, 0) := by decide +kernel
theorem ee80_1 : fx_tab 80 1 = some (.iload_n 1, 2, 1, 0) := by decide +kernel
theorem ee80_2 : fx_tab 80 2 = some (.imul, 3, 0, 0) := by decide +kernel
theorem ee80_3 : fx_tab 80 3 = some (.istore_n 2, 4, 2, 0) := by decide +kernel
theorem ee80_4 : fx_tab 80 4 = some (.iload_n 2, 5, 2, 0) := by decide +kernel
theorem ee80_5 : fx_tab 80 5 = some (.iconst (4), 6, 0, 0) := by decide +kernel
theorem ee80_6 : fx_tab 80 6 = some (.iload_n 1, 7, 1, 0) := by decide +kernel
theorem ee80_7 : fx_tab 80 7 = some (.imul, 8, 0, 0) := by decide +kernel
theorem ee80_8 : fx_tab 80 8 = some (.iconst (4), 9, 0, 0) := by decide +kernel
theorem ee80_9 : fx_tab 80 9 = some (.iadd, 10, 0, 0) := by decide +kernel
theorem ee80_10 : fx_tab 80 10 = some (.if_icmp .ge (139), 13, 149, 0) := by decide +kernel
theorem ee80_13 : fx_tab 80 13 = some (.aload_n 0, 14, 0, 0) := by decide +kernel
theorem ee80_14 : fx_tab 80 14 = some (.getfield 77, 17, 799, 70) := by decide +kernel
theorem ee80_17 : fx_tab 80 17 = some (.iload_n 2, 18, 2, 0) := by decide +kernel
theorem ee80_18 : fx_tab 80 18 = some (.iaload, 19, 0, 0) := by decide +kernel
theorem ee80_19 : fx_tab 80 19 = some (.istore_n 3, 20, 3, 0) := by decide +kernel
theorem ee80_20 : fx_tab 80 20 = some (.iload_n 3, 21, 3, 0) := by decide +kernel
theorem ee80_21 : fx_tab 80 21 = some (.iconst (-1), 22, 0, 0) := by decide +kernel
theorem ee80_22 : fx_tab 80 22 = some (.if_icmp .eq (121), 25, 143, 0) := by decide +kernel
theorem ee80_25 : fx_tab 80 25 = some (.aload_n 0, 26, 0, 0) := by decide +kernel
theorem ee80_26 : fx_tab 80 26 = some (.getfield 93, 29, 804, 70) := by decide +kernel
theorem ee80_29 : fx_tab 80 29 = some (.iload_n 1, 30, 1, 0) := by decide +kernel
theorem ee80_30 : fx_tab 80 30 = some (.iaload, 31, 0, 0) := by decide +kernel
theorem ee80_31 : fx_tab 80 31 = some (.iconst (4), 32, 0, 0) := by decide +kernel
theorem ee80_32 : fx_tab 80 32 = some (.if_icmp .eq (111), 35, 143, 0) := by decide +kernel
theorem ee80_35 : fx_tab 80 35 = some (.aload_n 0, 36, 0, 0) := by decide +kernel
theorem ee80_36 : fx_tab 80 36 = some (.getfield 83, 39, 801, 70) := by decide +kernel
theorem ee80_39 : fx_tab 80 39 = some (.iload_n 2, 40, 2, 0) := by decide +kernel
theorem ee80_40 : fx_tab 80 40 = some (.iaload, 41, 0, 0) := by decide +kernel
theorem ee80_41 : fx_tab 80 41 = some (.iconst (1), 42, 0, 0) := by decide +kernel
theorem ee80_42 : fx_tab 80 42 = some (.aload_n 0, 43, 0, 0) := by decide +kernel
theorem ee80_43 : fx_tab 80 43 = some (.getfield 56, 46, 792, 70) := by decide +kernel
theorem ee80_46 : fx_tab 80 46 = some (.iload_n 3, 47, 3, 0) := by decide +kernel
theorem ee80_47 : fx_tab 80 47 = some (.iaload, 48, 0, 0) := by decide +kernel
theorem ee80_48 : fx_tab 80 48 = some (.ishl, 49, 0, 0) := by decide +kernel
theorem ee80_49 : fx_tab 80 49 = some (.iconst (1), 50, 0, 0) := by decide +kernel
theorem ee80_50 : fx_tab 80 50 = some (.isub, 51, 0, 0) := by decide +kernel
theorem ee80_51 : fx_tab 80 51 = some (.if_icmp .eq (6), 54, 57, 0) := by decide +kernel
theorem ee80_54 : fx_tab 80 54 = some (.goto (89), 57, 143, 0) := by decide +kernel
theorem ee80_57 : fx_tab 80 57 = some (.iconst (4), 58, 0, 0) := by decide +kernel
theorem ee80_58 : fx_tab 80 58 = some (.iload_n 1, 59, 1, 0) := by decide +kernel
theorem ee80_59 : fx_tab 80 59 = some (.imul, 60, 0, 0) := by decide +kernel
theorem ee80_60 : fx_tab 80 60 = some (.aload_n 0, 61, 0, 0) := by decide +kernel
theorem ee80_61 : fx_tab 80 61 = some (.getfield 93, 64, 804, 70) := by decide +kernel
theorem ee80_64 : fx_tab 80 64 = some (.iload_n 1, 65, 1, 0) := by decide +kernel
theorem ee80_65 : fx_tab 80 65 = some (.iaload, 66, 0, 0) := by decide +kernel
theorem ee80_66 : fx_tab 80 66 = some (.iadd, 67, 0, 0) := by decide +kernel
theorem ee80_67 : fx_tab 80 67 = some (.istore 4, 69, 4, 0) := by decide +kernel
theorem ee80_69 : fx_tab 80 69 = some (.aload_n 0, 70, 0, 0) := by decide +kernel
theorem ee80_70 : fx_tab 80 70 = some (.getfield 96, 73, 805, 70) := by decide +kernel
theorem ee80_73 : fx_tab 80 73 = some (.iload 4, 75, 4, 0) := by decide +kernel
theorem ee80_75 : fx_tab 80 75 = some (.aload_n 0, 76, 0, 0) := by decide +kernel
theorem ee80_76 : fx_tab 80 76 = some (.getfield 59, 79, 793, 70) := by decide +kernel
theorem ee80_79 : fx_tab 80 79 = some (.iload_n 3, 80, 3, 0) := by decide +kernel
theorem ee80_80 : fx_tab 80 80 = some (.iaload, 81, 0, 0) := by decide +kernel
theorem ee80_81 : fx_tab 80 81 = some (.iastore, 82, 0, 0) := by decide +kernel
theorem ee80_82 : fx_tab 80 82 = some (.aload_n 0, 83, 0, 0) := by decide +kernel
theorem ee80_83 : fx_tab 80 83 = some (.getfield 99, 86, 806, 70) := by decide +kernel
theorem ee80_86 : fx_tab 80 86 = some (.iload 4, 88, 4, 0) := by decide +kernel
theorem ee80_88 : fx_tab 80 88 = some (.iload_n 3, 89, 3, 0) := by decide +kernel
theorem ee80_89 : fx_tab 80 89 = some (.bipush (8), 91, 0, 0) := by decide +kernel
theorem ee80_91 : fx_tab 80 91 = some (.idiv, 92, 0, 0) := by decide +kernel
theorem ee80_92 : fx_tab 80 92 = some (.iastore, 93, 0, 0) := by decide +kernel
theorem ee80_93 : fx_tab 80 93 = some (.aload_n 0, 94, 0, 0) := by decide +kernel
theorem ee80_94 : fx_tab 80 94 = some (.getfield 102, 97, 807, 70) := by decide +kernel
theorem ee80_97 : fx_tab 80 97 = some (.iload 4, 99, 4, 0) := by decide +kernel
theorem ee80_99 : fx_tab 80 99 = some (.aload_n 0, 100, 0, 0) := by decide +kernel
theorem ee80_100 : fx_tab 80 100 = some (.getfield 56, 103, 792, 70) := by decide +kernel
theorem ee80_103 : fx_tab 80 103 = some (.iload_n 3, 104, 3, 0) := by decide +kernel
theorem ee80_104 : fx_tab 80 104 = some (.iaload, 105, 0, 0) := by decide +kernel
theorem ee80_105 : fx_tab 80 105 = some (.iastore, 106, 0, 0) := by decide +kernel
theorem ee80_106 : fx_tab 80 106 = some (.aload_n 0, 107, 0, 0) := by decide +kernel
theorem ee80_107 : fx_tab 80 107 = some (.getfield 105, 110, 808, 70) := by decide +kernel
theorem ee80_110 : fx_tab 80 110 = some (.iload 4, 112, 4, 0) := by decide +kernel
theorem ee80_112 : fx_tab 80 112 = some (.aload_n 0, 113, 0, 0) := by decide +kernel
theorem ee80_113 : fx_tab 80 113 = some (.getfield 80, 116, 800, 70) := by decide +kernel
theorem ee80_116 : fx_tab 80 116 = some (.iload_n 2, 117, 2, 0) := by decide +kernel
theorem ee80_117 : fx_tab 80 117 = some (.iaload, 118, 0, 0) := by decide +kernel
theorem ee80_118 : fx_tab 80 118 = some (.iastore, 119, 0, 0) := by decide +kernel
theorem ee80_119 : fx_tab 80 119 = some (.aload_n 0, 120, 0, 0) := by decide +kernel
theorem ee80_120 : fx_tab 80 120 = some (.getfield 93, 123, 804, 70) := by decide +kernel
theorem ee80_123 : fx_tab 80 123 = some (.iload_n 1, 124, 1, 0) := by decide +kernel
theorem ee80_124 : fx_tab 80 124 = some (.dup2, 125, 0, 0) := by decide +kernel
theorem ee80_125 : fx_tab 80 125 = some (.iaload, 126, 0, 0) := by decide +kernel
theorem ee80_126 : fx_tab 80 126 = some (.iconst (1), 127, 0, 0) := by decide +kernel
theorem ee80_127 : fx_tab 80 127 = some (.iadd, 128, 0, 0) := by decide +kernel
theorem ee80_128 : fx_tab 80 128 = some (.iastore, 129, 0, 0) := by decide +kernel
theorem ee80_129 : fx_tab 80 129 = some (.aload_n 0, 130, 0, 0) := by decide +kernel
theorem ee80_130 : fx_tab 80 130 = some (.iload_n 1, 131, 1, 0) := by decide +kernel
theorem ee80_131 : fx_tab 80 131 = some (.iload_n 3, 132, 3, 0) := by decide +kernel
theorem ee80_132 : fx_tab 80 132 = some (.iconst (1), 133, 0, 0) := by decide +kernel
theorem ee80_133 : fx_tab 80 133 = some (.invokevirtual 202, 136, 38, 356) := by decide +kernel
theorem ee80_136 : fx_tab 80 136 = some (.aload_n 0, 137, 0, 0) := by decide +kernel
theorem ee80_137 : fx_tab 80 137 = some (.getfield 77, 140, 799, 70) := by decide +kernel
theorem ee80_140 : fx_tab 80 140 = some (.iload_n 2, 141, 2, 0) := by decide +kernel
theorem ee80_141 : fx_tab 80 141 = some (.iconst (-1), 142, 0, 0) := by decide +kernel
theorem ee80_142 : fx_tab 80 142 = some (.iastore, 143, 0, 0) := by decide +kernel
theorem ee80_143 : fx_tab 80 143 = some (.iinc 2 (1), 146, 2, 0) := by decide +kernel
theorem ee80_146 : fx_tab 80 146 = some (.goto (-142), 149, 4, 0) := by decide +kernel
theorem ee80_149 : fx_tab 80 149 = some (.aload_n 0, 150, 0, 0) := by decide +kernel
theorem ee80_150 : fx_tab 80 150 = some (.getfield 86, 153, 802, 70) := by decide +kernel
theorem ee80_153 : fx_tab 80 153 = some (.iload_n 1, 154, 1, 0) := by decide +kernel
theorem ee80_154 : fx_tab 80 154 = some (.iaload, 155, 0, 0) := by decide +kernel
theorem ee80_155 : fx_tab 80 155 = some (.ifCond .le (121), 158, 276, 0) := by decide +kernel
theorem ee80_158 : fx_tab 80 158 = some (.aload_n 0, 159, 0, 0) := by decide +kernel
theorem ee80_159 : fx_tab 80 159 = some (.iload_n 1, 160, 1, 0) := by decide +kernel
theorem ee80_160 : fx_tab 80 160 = some (.invokevirtual 206, 163, 26, 354) := by decide +kernel
theorem ee80_163 : fx_tab 80 163 = some (.iconst (-1), 164, 0, 0) := by decide +kernel
theorem ee80_164 : fx_tab 80 164 = some (.if_icmp .eq (112), 167, 276, 0) := by decide +kernel
theorem ee80_167 : fx_tab 80 167 = some (.aload_n 0, 168, 0, 0) := by decide +kernel
theorem ee80_168 : fx_tab 80 168 = some (.iload_n 1, 169, 1, 0) := by decide +kernel
theorem ee80_169 : fx_tab 80 169 = some (.invokevirtual 206, 172, 26, 354) := by decide +kernel
theorem ee80_172 : fx_tab 80 172 = some (.istore_n 2, 173, 2, 0) := by decide +kernel
theorem ee80_173 : fx_tab 80 173 = some (.aload_n 0, 174, 0, 0) := by decide +kernel
theorem ee80_174 : fx_tab 80 174 = some (.getfield 77, 177, 799, 70) := by decide +kernel
theorem ee80_177 : fx_tab 80 177 = some (.iload_n 2, 178, 2, 0) := by decide +kernel
theorem ee80_178 : fx_tab 80 178 = some (.aload_n 0, 179, 0, 0) := by decide +kernel
theorem ee80_179 : fx_tab 80 179 = some (.getfield 90, 182, 803, 70) := by decide +kernel
theorem ee80_182 : fx_tab 80 182 = some (.sipush (512), 185, 0, 0) := by decide +kernel
theorem ee80_185 : fx_tab 80 185 = some (.iload_n 1, 186, 1, 0) := by decide +kernel
theorem ee80_186 : fx_tab 80 186 = some (.imul, 187, 0, 0) := by decide +kernel
theorem ee80_187 : fx_tab 80 187 = some (.iaload, 188, 0, 0) := by decide +kernel
theorem ee80_188 : fx_tab 80 188 = some (.iastore, 189, 0, 0) := by decide +kernel
theorem ee80_189 : fx_tab 80 189 = some (.aload_n 0, 190, 0, 0) := by decide +kernel
theorem ee80_190 : fx_tab 80 190 = some (.getfield 80, 193, 800, 70) := by decide +kernel
theorem ee80_193 : fx_tab 80 193 = some (.iload_n 2, 194, 2, 0) := by decide +kernel
theorem ee80_194 : fx_tab 80 194 = some (.iconst (2), 195, 0, 0) := by decide +kernel
theorem ee80_195 : fx_tab 80 195 = some (.iastore, 196, 0, 0) := by decide +kernel
theorem ee80_196 : fx_tab 80 196 = some (.aload_n 0, 197, 0, 0) := by decide +kernel
theorem ee80_197 : fx_tab 80 197 = some (.getfield 83, 200, 801, 70) := by decide +kernel
theorem ee80_200 : fx_tab 80 200 = some (.iload_n 2, 201, 2, 0) := by decide +kernel
theorem ee80_201 : fx_tab 80 201 = some (.iconst (0), 202, 0, 0) := by decide +kernel
theorem ee80_202 : fx_tab 80 202 = some (.iastore, 203, 0, 0) := by decide +kernel
theorem ee80_203 : fx_tab 80 203 = some (.aload_n 0, 204, 0, 0) := by decide +kernel
theorem ee80_204 : fx_tab 80 204 = some (.iload_n 1, 205, 1, 0) := by decide +kernel
theorem ee80_205 : fx_tab 80 205 = some (.aload_n 0, 206, 0, 0) := by decide +kernel
theorem ee80_206 : fx_tab 80 206 = some (.getfield 90, 209, 803, 70) := by decide +kernel
theorem ee80_209 : fx_tab 80 209 = some (.sipush (512), 212, 0, 0) := by decide +kernel
theorem ee80_212 : fx_tab 80 212 = some (.iload_n 1, 213, 1, 0) := by decide +kernel
theorem ee80_213 : fx_tab 80 213 = some (.imul, 214, 0, 0) := by decide +kernel
theorem ee80_214 : fx_tab 80 214 = some (.iaload, 215, 0, 0) := by decide +kernel
theorem ee80_215 : fx_tab 80 215 = some (.iconst (0), 216, 0, 0) := by decide +kernel
theorem ee80_216 : fx_tab 80 216 = some (.invokevirtual 202, 219, 38, 356) := by decide +kernel
theorem ee80_219 : fx_tab 80 219 = some (.aload_n 0, 220, 0, 0) := by decide +kernel
theorem ee80_220 : fx_tab 80 220 = some (.getfield 86, 223, 802, 70) := by decide +kernel
theorem ee80_223 : fx_tab 80 223 = some (.iload_n 1, 224, 1, 0) := by decide +kernel
theorem ee80_224 : fx_tab 80 224 = some (.dup2, 225, 0, 0) := by decide +kernel
theorem ee80_225 : fx_tab 80 225 = some (.iaload, 226, 0, 0) := by decide +kernel
theorem ee80_226 : fx_tab 80 226 = some (.iconst (1), 227, 0, 0) := by decide +kernel
theorem ee80_227 : fx_tab 80 227 = some (.isub, 228, 0, 0) := by decide +kernel
theorem ee80_228 : fx_tab 80 228 = some (.iastore, 229, 0, 0) := by decide +kernel
theorem ee80_229 : fx_tab 80 229 = some (.iconst (0), 230, 0, 0) := by decide +kernel
theorem ee80_230 : fx_tab 80 230 = some (.istore_n 3, 231, 3, 0) := by decide +kernel
theorem ee80_231 : fx_tab 80 231 = some (.iload_n 3, 232, 3, 0) := by decide +kernel
theorem ee80_232 : fx_tab 80 232 = some (.aload_n 0, 233, 0, 0) := by decide +kernel
theorem ee80_233 : fx_tab 80 233 = some (.getfield 86, 236, 802, 70) := by decide +kernel
theorem ee80_236 : fx_tab 80 236 = some (.iload_n 1, 237, 1, 0) := by decide +kernel
theorem ee80_237 : fx_tab 80 237 = some (.iaload, 238, 0, 0) := by decide +kernel
theorem ee80_238 : fx_tab 80 238 = some (.if_icmp .ge (35), 241, 273, 0) := by decide +kernel
theorem ee80_241 : fx_tab 80 241 = some (.aload_n 0, 242, 0, 0) := by decide +kernel
theorem ee80_242 : fx_tab 80 242 = some (.getfield 90, 245, 803, 70) := by decide +kernel
theorem ee80_245 : fx_tab 80 245 = some (.sipush (512), 248, 0, 0) := by decide +kernel
theorem ee80_248 : fx_tab 80 248 = some (.iload_n 1, 249, 1, 0) := by decide +kernel
theorem ee80_249 : fx_tab 80 249 = some (.imul, 250, 0, 0) := by decide +kernel
theorem ee80_250 : fx_tab 80 250 = some (.iload_n 3, 251, 3, 0) := by decide +kernel
theorem ee80_251 : fx_tab 80 251 = some (.iadd, 252, 0, 0) := by decide +kernel
theorem ee80_252 : fx_tab 80 252 = some (.aload_n 0, 253, 0, 0) := by decide +kernel
theorem ee80_253 : fx_tab 80 253 = some (.getfield 90, 256, 803, 70) := by decide +kernel
theorem ee80_256 : fx_tab 80 256 = some (.sipush (512), 259, 0, 0) := by decide +kernel
theorem ee80_259 : fx_tab 80 259 = some (.iload_n 1, 260, 1, 0) := by decide +kernel
theorem ee80_260 : fx_tab 80 260 = some (.imul, 261, 0, 0) := by decide +kernel
theorem ee80_261 : fx_tab 80 261 = some (.iload_n 3, 262, 3, 0) := by decide +kernel
theorem ee80_262 : fx_tab 80 262 = some (.iadd, 263, 0, 0) := by decide +kernel
theorem ee80_263 : fx_tab 80 263 = some (.iconst (1), 264, 0, 0) := by decide +kernel
theorem ee80_264 : fx_tab 80 264 = some (.iadd, 265, 0, 0) := by decide +kernel
theorem ee80_265 : fx_tab 80 265 = some (.iaload, 266, 0, 0) := by decide +kernel
theorem ee80_266 : fx_tab 80 266 = some (.iastore, 267, 0, 0) := by decide +kernel
theorem ee80_267 : fx_tab 80 267 = some (.iinc 3 (1), 270, 3, 0) := by decide +kernel
theorem ee80_270 : fx_tab 80 270 = some (.goto (-39), 273, 231, 0) := by decide +kernel
theorem ee80_273 : fx_tab 80 273 = some (.goto (-124), 276, 149, 0) := by decide +kernel
theorem ee80_276 : fx_tab 80 276 = some (.return_, 277, 0, 0) := by decide +kernel
theorem ee81_0 : fx_tab 81 0 = some (.aload_n 0, 1, 0, 0) := by decide +kernel
theorem ee81_1 : fx_tab 81 1 = some (.iconst (0), 2, 0, 0) := by decide +kernel
theorem ee81_2 : fx_tab 81 2 = some (.putfield 130, 5, 768, 0) := by decide +kernel
theorem ee81_5 : fx_tab 81 5 = some (.aload_n 0, 6, 0, 0) := by decide +kernel
theorem ee81_6 : fx_tab 81 6 = some (.iload_n 1, 7, 1, 0) := by decide +kernel
theorem ee81_7 : fx_tab 81 7 = some (.invokevirtual 185, 10, 34, 354) := by decide +kernel
theorem ee81_10 : fx_tab 81 10 = some (.ifCond .eq (25), 13, 35, 0) := by decide +kernel
theorem ee81_13 : fx_tab 81 13 = some (.iload_n 2, 14, 2, 0) := by decide +kernel
theorem ee81_14 : fx_tab 81 14 = some (.iconst (0), 15, 0, 0) := by decide +kernel
theorem ee81_15 : fx_tab 81 15 = some (.iconst (2), 16, 0, 0) := by decide +kernel
theorem ee81_16 : fx_tab 81 16 = some (.invokestatic 134, 19, 47, 3) := by decide +kernel
theorem ee81_19 : fx_tab 81 19 = some (.ifCond .eq (16), 22, 35, 0) := by decide +kernel
theorem ee81_22 : fx_tab 81 22 = some (.aload_n 0, 23, 0, 0) := by decide +kernel
theorem ee81_23 : fx_tab 81 23 = some (.getfield 108, 26, 809, 70) := by decide +kernel
theorem ee81_26 : fx_tab 81 26 = some (.iconst (3), 27, 0, 0) := by decide +kernel
theorem ee81_27 : fx_tab 81 27 = some (.iload_n 1, 28, 1, 0) := by decide +kernel
theorem ee81_28 : fx_tab 81 28 = some (.imul, 29, 0, 0) := by decide +kernel
theorem ee81_29 : fx_tab 81 29 = some (.iload_n 2, 30, 2, 0) := by decide +kernel
theorem ee81_30 : fx_tab 81 30 = some (.iadd, 31, 0, 0) := by decide +kernel
theorem ee81_31 : fx_tab 81 31 = some (.iaload, 32, 0, 0) := by decide +kernel
theorem ee81_32 : fx_tab 81 32 = some (.goto (4), 35, 36, 0) := by decide +kernel
theorem ee81_35 : fx_tab 81 35 = some (.iconst (-1), 36, 0, 0) := by decide +kernel
theorem ee81_36 : fx_tab 81 36 = some (.ireturn, 37, 0, 0) := by decide +kernel
theorem ee82_0 : fx_tab 82 0 = some (.aload_n 0, 1, 0, 0) := by decide +kernel
theorem ee82_1 : fx_tab 82 1 = some (.getfield 20, 4, 1, 13) := by decide +kernel
theorem ee82_4 : fx_tab 82 4 = some (.iload_n 1, 5, 1, 0) := by decide +kernel
theorem ee82_5 : fx_tab 82 5 = some (.invokevirtual 86, 8, 5, 210) := by decide +kernel
theorem ee82_8 : fx_tab 82 8 = some (.ifCond .eq (14), 11, 22, 0) := by decide +kernel
theorem ee82_11 : fx_tab 82 11 = some (.aload_n 0, 12, 0, 0) := by decide +kernel
theorem ee82_12 : fx_tab 82 12 = some (.getfield 20, 15, 1, 13) := by decide +kernel
theorem ee82_15 : fx_tab 82 15 = some (.iload_n 2, 16, 2, 0) := by decide +kernel
theorem ee82_16 : fx_tab 82 16 = some (.invokevirtual 86, 19, 5, 210) := by decide +kernel
theorem ee82_19 : fx_tab 82 19 = some (.ifCond .ne (5), 22, 24, 0) := by decide +kernel
theorem ee82_22 : fx_tab 82 22 = some (.iconst (-1), 23, 0, 0) := by decide +kernel
theorem ee82_23 : fx_tab 82 23 = some (.ireturn, 24, 0, 0) := by decide +kernel
theorem ee82_24 : fx_tab 82 24 = some (.aload_n 0, 25, 0, 0) := by decide +kernel
theorem ee82_25 : fx_tab 82 25 = some (.getfield 20, 28, 1, 13) := by decide +kernel
theorem ee82_28 : fx_tab 82 28 = some (.iload_n 1, 29, 1, 0) := by decide +kernel
theorem ee82_29 : fx_tab 82 29 = some (.iload_n 2, 30, 2, 0) := by decide +kernel
theorem ee82_30 : fx_tab 82 30 = some (.invokevirtual 264, 33, 57, 211) := by decide +kernel
theorem ee82_33 : fx_tab 82 33 = some (.ireturn, 34, 0, 0) := by decide +kernel
theorem ee83_0 : fx_tab 83 0 = some (.aload_n 1, 1, 1, 0) := by decide +kernel
theorem ee83_1 : fx_tab 83 1 = some (.getfield 101, 4, 257, 21) := by decide +kernel
theorem ee83_4 : fx_tab 83 4 = some (.astore_n 3, 5, 3, 0) := by decide +kernel
theorem ee83_5 : fx_tab 83 5 = some (.aload_n 3, 6, 3, 0) := by decide +kernel
theorem ee83_6 : fx_tab 83 6 = some (.invokevirtual 343, 9, 23, 337) := by decide +kernel
theorem ee83_9 : fx_tab 83 9 = some (.astore 4, 11, 4, 0) := by decide +kernel
theorem ee83_11 : fx_tab 83 11 = some (.aload 4, 13, 4, 0) := by decide +kernel
theorem ee83_13 : fx_tab 83 13 = some (.ifnonnull (9), 16, 22, 0) := by decide +kernel
theorem ee83_16 : fx_tab 83 16 = some (.aload_n 3, 17, 3, 0) := by decide +kernel
theorem ee83_17 : fx_tab 83 17 = some (.iconst (0), 18, 0, 0) := by decide +kernel
theorem ee83_18 : fx_tab 83 18 = some (.putfield 225, 21, 707, 0) := by decide +kernel
theorem ee83_21 : fx_tab 83 21 = some (.return_, 22, 0, 0) := by decide +kernel
theorem ee83_22 : fx_tab 83 22 = some (.iload_n 2, 23, 2, 0) := by decide +kernel
theorem ee83_23 : fx_tab 83 23 = some (.iconst (-1), 24, 0, 0) := by decide +kernel
theorem ee83_24 : fx_tab 83 24 = some (.if_icmp .eq (15), 27, 39, 0) := by decide +kernel
theorem ee83_27 : fx_tab 83 27 = some (.iload_n 2, 28, 2, 0) := by decide +kernel
theorem ee83_28 : fx_tab 83 28 = some (.aload_n 1, 29, 1, 0) := by decide +kernel
theorem ee83_29 : fx_tab 83 29 = some (.getfield 302, 32, 256, 0) := by decide +kernel
theorem ee83_32 : fx_tab 83 32 = some (.if_icmp .eq (7), 35, 39, 0) := by decide +kernel
theorem ee83_35 : fx_tab 83 35 = some (.iconst (1), 36, 0, 0) := by decide +kernel
theorem ee83_36 : fx_tab 83 36 = some (.goto (4), 39, 40, 0) := by decide +kernel
theorem ee83_39 : fx_tab 83 39 = some (.iconst (0), 40, 0, 0) := by decide +kernel
theorem ee83_40 : fx_tab 83 40 = some (.istore 5, 42, 5, 0) := by decide +kernel
theorem ee83_42 : fx_tab 83 42 = some (.iload 5, 44, 5, 0) := by decide +kernel
theorem ee83_44 : fx_tab 83 44 = some (.ifCond .ne (21), 47, 65, 0) := by decide +kernel
theorem ee83_47 : fx_tab 83 47 = some (.aload_n 1, 48, 1, 0) := by decide +kernel
theorem ee83_48 : fx_tab 83 48 = some (.invokevirtual 219, 51, 10, 225) := by decide +kernel
theorem ee83_51 : fx_tab 83 51 = some (.aload_n 0, 52, 0, 0) := by decide +kernel
theorem ee83_52 : fx_tab 83 52 = some (.getfield 20, 55, 1, 13) := by decide +kernel
theorem ee83_55 : fx_tab 83 55 = some (.aload_n 1, 56, 1, 0) := by decide +kernel
theorem ee83_56 : fx_tab 83 56 = some (.getfield 302, 59, 256, 0) := by decide +kernel
theorem ee83_59 : fx_tab 83 59 = some (.invokevirtual 346, 62, 55, 210) := by decide +kernel
theorem ee83_62 : fx_tab 83 62 = some (.if_icmp .lt (14), 65, 76, 0) := by decide +kernel
theorem ee83_65 : fx_tab 83 65 = some (.aload_n 3, 66, 3, 0) := by decide +kernel
theorem ee83_66 : fx_tab 83 66 = some (.dup, 67, 0, 0) := by decide +kernel
theorem ee83_67 : fx_tab 83 67 = some (.getfield 225, 70, 707, 0) := by decide +kernel
theorem ee83_70 : fx_tab 83 70 = some (.iconst (1), 71, 0, 0) := by decide +kernel
theorem ee83_71 : fx_tab 83 71 = some (.iadd, 72, 0, 0) := by decide +kernel
theorem ee83_72 : fx_tab 83 72 = some (.putfield 225, 75, 707, 0) := by decide +kernel
theorem ee83_75 : fx_tab 83 75 = some (.return_, 76, 0, 0) := by decide +kernel
theorem ee83_76 : fx_tab 83 76 = some (.aload_n 1, 77, 1, 0) := by decide +kernel
theorem ee83_77 : fx_tab 83 77 = some (.aload_n 3, 78, 3, 0) := by decide +kernel
theorem ee83_78 : fx_tab 83 78 = some (.aload 4, 80, 4, 0) := by decide +kernel
theorem ee83_80 : fx_tab 83 80 = some (.aload_n 0, 81, 0, 0) := by decide +kernel
theorem ee83_81 : fx_tab 83 81 = some (.getfield 65, 84, 9, 0) := by decide +kernel
theorem ee83_84 : fx_tab 83 84 = some (.invokevirtual 350, 87, 68, 339) := by decide +kernel
theorem ee83_87 : fx_tab 83 87 = some (.invokevirtual 354, 90, 8, 226) := by decide +kernel
theorem ee83_90 : fx_tab 83 90 = some (.aload_n 0, 91, 0, 0) := by decide +kernel
theorem ee83_91 : fx_tab 83 91 = some (.dup, 92, 0, 0) := by decide +kernel
theorem ee83_92 : fx_tab 83 92 = some (.getfield 74, 95, 12, 0) := by decide +kernel
theorem ee83_95 : fx_tab 83 95 = some (.iconst (1), 96, 0, 0) := by decide +kernel
theorem ee83_96 : fx_tab 83 96 = some (.iadd, 97, 0, 0) := by decide +kernel
theorem ee83_97 : fx_tab 83 97 = some (.putfield 74, 100, 12, 0) := by decide +kernel
theorem ee83_100 : fx_tab 83 100 = some (.aload_n 3, 101, 3, 0) := by decide +kernel
theorem ee83_101 : fx_tab 83 101 = some (.iconst (0), 102, 0, 0) := by decide +kernel
theorem ee83_102 : fx_tab 83 102 = some (.putfield 225, 105, 707, 0) := by decide +kernel
theorem ee83_105 : fx_tab 83 105 = some (.iload_n 2, 106, 2, 0) := by decide +kernel
theorem ee83_106 : fx_tab 83 106 = some (.aload_n 1, 107, 1, 0) := by decide +kernel
theorem ee83_107 : fx_tab 83 107 = some (.getfield 302, 110, 256, 0) := by decide +kernel
theorem ee83_110 : fx_tab 83 110 = some (.if_icmp .ne (18), 113, 128, 0) := by decide +kernel
theorem ee83_113 : fx_tab 83 113 = some (.aload_n 0, 114, 0, 0) := by decide +kernel
theorem ee83_114 : fx_tab 83 114 = some (.iload_n 2, 115, 2, 0) := by decide +kernel
theorem ee83_115 : fx_tab 83 115 = some (.iconst (1), 116, 0, 0) := by decide +kernel
theorem ee83_116 : fx_tab 83 116 = some (.iadd, 117, 0, 0) := by decide +kernel
theorem ee83_117 : fx_tab 83 117 = some (.aload_n 0, 118, 0, 0) := by decide +kernel
theorem ee83_118 : fx_tab 83 118 = some (.getfield 20, 121, 1, 13) := by decide +kernel
theorem ee83_121 : fx_tab 83 121 = some (.getfield 140, 124, 192, 0) := by decide +kernel
theorem ee83_124 : fx_tab 83 124 = some (.irem, 125, 0, 0) := by decide +kernel
theorem ee83_125 : fx_tab 83 125 = some (.putfield 68, 128, 10, 0) := by decide +kernel
theorem ee83_128 : fx_tab 83 128 = some (.return_, 129, 0, 0) := by decide +kernel
theorem ee84_0 : fx_tab 84 0 = some (.aload_n 1, 1, 1, 0) := by decide +kernel
theorem ee84_1 : fx_tab 84 1 = some (.iload_n 2, 2, 2, 0) := by decide +kernel
theorem ee84_2 : fx_tab 84 2 = some (.putfield 293, 5, 329, 1) := by decide +kernel
theorem ee84_5 : fx_tab 84 5 = some (.aload_n 1, 6, 1, 0) := by decide +kernel
theorem ee84_6 : fx_tab 84 6 = some (.aload_n 0, 7, 0, 0) := by decide +kernel
theorem ee84_7 : fx_tab 84 7 = some (.getfield 65, 10, 9, 0) := by decide +kernel
theorem ee84_10 : fx_tab 84 10 = some (.aload_n 0, 11, 0, 0) := by decide +kernel
theorem ee84_11 : fx_tab 84 11 = some (.getfield 20, 14, 1, 13) := by decide +kernel
theorem ee84_14 : fx_tab 84 14 = some (.aload_n 1, 15, 1, 0) := by decide +kernel
theorem ee84_15 : fx_tab 84 15 = some (.getfield 257, 18, 321, 0) := by decide +kernel
theorem ee84_18 : fx_tab 84 18 = some (.aload_n 1, 19, 1, 0) := by decide +kernel
theorem ee84_19 : fx_tab 84 19 = some (.getfield 250, 22, 320, 0) := by decide +kernel
theorem ee84_22 : fx_tab 84 22 = some (.invokevirtual 264, 25, 57, 211) := by decide +kernel
theorem ee84_25 : fx_tab 84 25 = some (.iadd, 26, 0, 0) := by decide +kernel
theorem ee84_26 : fx_tab 84 26 = some (.putfield 287, 29, 330, 0) := by decide +kernel
theorem ee84_29 : fx_tab 84 29 = some (.aload_n 0, 30, 0, 0) := by decide +kernel
theorem ee84_30 : fx_tab 84 30 = some (.getfield 35, 33, 5, 20) := by decide +kernel
theorem ee84_33 : fx_tab 84 33 = some (.aload_n 1, 34, 1, 0) := by decide +kernel
theorem ee84_34 : fx_tab 84 34 = some (.invokevirtual 124, 37, 19, 322) := by decide +kernel
theorem ee84_37 : fx_tab 84 37 = some (.return_, 38, 0, 0) := by decide +kernel
theorem ee85_0 : fx_tab 85 0 = some (.aload_n 0, 1, 0, 0) := by decide +kernel
theorem ee85_1 : fx_tab 85 1 = some (.getfield 28, 4, 3, 44) := by decide +kernel
theorem ee85_4 : fx_tab 85 4 = some (.aload_n 1, 5, 1, 0) := by decide +kernel
theorem ee85_5 : fx_tab 85 5 = some (.getfield 250, 8, 320, 0) := by decide +kernel
theorem ee85_8 : fx_tab 85 8 = some (.aaload, 9, 0, 0) := by decide +kernel
theorem ee85_9 : fx_tab 85 9 = some (.getfield 101, 12, 257, 21) := by decide +kernel
theorem ee85_12 : fx_tab 85 12 = some (.astore_n 2, 13, 2, 0) := by decide +kernel
theorem ee85_13 : fx_tab 85 13 = some (.aload_n 1, 14, 1, 0) := by decide +kernel
theorem ee85_14 : fx_tab 85 14 = some (.getfield 293, 17, 329, 1) := by decide +kernel
theorem ee85_17 : fx_tab 85 17 = some (.ifCond .eq (29), 20, 46, 0) := by decide +kernel
theorem ee85_20 : fx_tab 85 20 = some (.aload_n 2, 21, 2, 0) := by decide +kernel
theorem ee85_21 : fx_tab 85 21 = some (.aload_n 1, 22, 1, 0) := by decide +kernel
theorem ee85_22 : fx_tab 85 22 = some (.invokevirtual 296, 25, 22, 338) := by decide +kernel
theorem ee85_25 : fx_tab 85 25 = some (.aload_n 0, 26, 0, 0) := by decide +kernel
theorem ee85_26 : fx_tab 85 26 = some (.getfield 39, 29, 6, 20) := by decide +kernel
theorem ee85_29 : fx_tab 85 29 = some (.aload_n 1, 30, 1, 0) := by decide +kernel
theorem ee85_30 : fx_tab 85 30 = some (.invokevirtual 124, 33, 19, 322) := by decide +kernel
theorem ee85_33 : fx_tab 85 33 = some (.aload_n 0, 34, 0, 0) := by decide +kernel
theorem ee85_34 : fx_tab 85 34 = some (.dup, 35, 0, 0) := by decide +kernel
theorem ee85_35 : fx_tab 85 35 = some (.getfield 71, 38, 11, 0) := by decide +kernel
theorem ee85_38 : fx_tab 85 38 = some (.iconst (1), 39, 0, 0) := by decide +kernel
theorem ee85_39 : fx_tab 85 39 = some (.isub, 40, 0, 0) := by decide +kernel
theorem ee85_40 : fx_tab 85 40 = some (.putfield 71, 43, 11, 0) := by decide +kernel
theorem ee85_43 : fx_tab 85 43 = some (.goto (8), 46, 51, 0) := by decide +kernel
theorem ee85_46 : fx_tab 85 46 = some (.aload_n 2, 47, 2, 0) := by decide +kernel
theorem ee85_47 : fx_tab 85 47 = some (.aload_n 1, 48, 1, 0) := by decide +kernel
theorem ee85_48 : fx_tab 85 48 = some (.invokevirtual 299, 51, 67, 338) := by decide +kernel
theorem ee85_51 : fx_tab 85 51 = some (.return_, 52, 0, 0) := by decide +kernel
theorem ee86_0 : fx_tab 86 0 = some (.aload_n 0, 1, 0, 0) := by decide +kernel
theorem ee86_1 : fx_tab 86 1 = some (.iload_n 1, 2, 1, 0) := by decide +kernel
theorem ee86_2 : fx_tab 86 2 = some (.iload_n 2, 3, 2, 0) := by decide +kernel
theorem ee86_3 : fx_tab 86 3 = some (.invokevirtual 39, 6, 2, 211) := by decide +kernel
theorem ee86_6 : fx_tab 86 6 = some (.istore_n 3, 7, 3, 0) := by decide +kernel
theorem ee86_7 : fx_tab 86 7 = some (.aload_n 0, 8, 0, 0) := by decide +kernel
theorem ee86_8 : fx_tab 86 8 = some (.iload_n 1, 9, 1, 0) := by decide +kernel
theorem ee86_9 : fx_tab 86 9 = some (.invokevirtual 47, 12, 55, 210) := by decide +kernel
theorem ee86_12 : fx_tab 86 12 = some (.iconst (2), 13, 0, 0) := by decide +kernel
theorem ee86_13 : fx_tab 86 13 = some (.if_icmp .le (12), 16, 25, 0) := by decide +kernel
theorem ee86_16 : fx_tab 86 16 = some (.aload_n 0, 17, 0, 0) := by decide +kernel
theorem ee86_17 : fx_tab 86 17 = some (.iload_n 3, 18, 3, 0) := by decide +kernel
theorem ee86_18 : fx_tab 86 18 = some (.invokevirtual 47, 21, 55, 210) := by decide +kernel
theorem ee86_21 : fx_tab 86 21 = some (.iconst (2), 22, 0, 0) := by decide +kernel
theorem ee86_22 : fx_tab 86 22 = some (.if_icmp .gt (5), 25, 27, 0) := by decide +kernel
theorem ee86_25 : fx_tab 86 25 = some (.iconst (0), 26, 0, 0) := by decide +kernel
theorem ee86_26 : fx_tab 86 26 = some (.ireturn, 27, 0, 0) := by decide +kernel
theorem ee86_27 : fx_tab 86 27 = some (.aload_n 0, 28, 0, 0) := by decide +kernel
theorem ee86_28 : fx_tab 86 28 = some (.iload_n 1, 29, 1, 0) := by decide +kernel
theorem ee86_29 : fx_tab 86 29 = some (.iload_n 2, 30, 2, 0) := by decide +kernel
theorem ee86_30 : fx_tab 86 30 = some (.iconst (0), 31, 0, 0) := by decide +kernel
theorem ee86_31 : fx_tab 86 31 = some (.invokevirtual 50, 34, 56, 212) := by decide +kernel
theorem ee86_34 : fx_tab 86 34 = some (.aload_n 0, 35, 0, 0) := by decide +kernel
theorem ee86_35 : fx_tab 86 35 = some (.iload_n 1, 36, 1, 0) := by decide +kernel
theorem ee86_36 : fx_tab 86 36 = some (.iload_n 3, 37, 3, 0) := by decide +kernel
theorem ee86_37 : fx_tab 86 37 = some (.invokevirtual 54, 40, 57, 211) := by decide +kernel
theorem ee86_40 : fx_tab 86 40 = some (.iconst (-1), 41, 0, 0) := by decide +kernel
theorem ee86_41 : fx_tab 86 41 = some (.if_icmp .ne (12), 44, 53, 0) := by decide +kernel
theorem ee86_44 : fx_tab 86 44 = some (.aload_n 0, 45, 0, 0) := by decide +kernel
theorem ee86_45 : fx_tab 86 45 = some (.iload_n 1, 46, 1, 0) := by decide +kernel
theorem ee86_46 : fx_tab 86 46 = some (.iload_n 2, 47, 2, 0) := by decide +kernel
theorem ee86_47 : fx_tab 86 47 = some (.iconst (1), 48, 0, 0) := by decide +kernel
theorem ee86_48 : fx_tab 86 48 = some (.invokevirtual 50, 51, 56, 212) := by decide +kernel
theorem ee86_51 : fx_tab 86 51 = some (.iconst (0), 52, 0, 0) := by decide +kernel
theorem ee86_52 : fx_tab 86 52 = some (.ireturn, 53, 0, 0) := by decide +kernel
theorem ee86_53 : fx_tab 86 53 = some (.iconst (1), 54, 0, 0) := by decide +kernel
theorem ee86_54 : fx_tab 86 54 = some (.ireturn, 55, 0, 0) := by decide +kernel
theorem ee87_0 : fx_tab 87 0 = some (.aload_n 0, 1, 0, 0) := by decide +kernel
theorem ee87_1 : fx_tab 87 1 = some (.getfield 61, 4, 198, 0) := by decide +kernel
theorem ee87_4 : fx_tab 87 4 = some (.iconst (-1), 5, 0, 0) := by decide +kernel
theorem ee87_5 : fx_tab 87 5 = some (.if_icmp .ne (52), 8, 57, 0) := by decide +kernel
theorem ee87_8 : fx_tab 87 8 = some (.iconst (0), 9, 0, 0) := by decide +kernel
theorem ee87_9 : fx_tab 87 9 = some (.istore_n 1, 10, 1, 0) := by decide +kernel
theorem ee87_10 : fx_tab 87 10 = some (.iload_n 1, 11, 1, 0) := by decide +kernel
theorem ee87_11 : fx_tab 87 11 = some (.aload_n 0, 12, 0, 0) := by decide +kernel
theorem ee87_12 : fx_tab 87 12 = some (.getfield 28, 15, 192, 0) := by decide +kernel
theorem ee87_15 : fx_tab 87 15 = some (.if_icmp .ge (42), 18, 57, 0) := by decide +kernel
theorem ee87_18 : fx_tab 87 18 = some (.iconst (0), 19, 0, 0) := by decide +kernel
theorem ee87_19 : fx_tab 87 19 = some (.istore_n 2, 20, 2, 0) := by decide +kernel
theorem ee87_20 : fx_tab 87 20 = some (.iload_n 2, 21, 2, 0) := by decide +kernel
theorem ee87_21 : fx_tab 87 21 = some (.aload_n 0, 22, 0, 0) := by decide +kernel
theorem ee87_22 : fx_tab 87 22 = some (.getfield 28, 25, 192, 0) := by decide +kernel
theorem ee87_25 : fx_tab 87 25 = some (.if_icmp .ge (26), 28, 51, 0) := by decide +kernel
theorem ee87_28 : fx_tab 87 28 = some (.aload_n 0, 29, 0, 0) := by decide +kernel
theorem ee87_29 : fx_tab 87 29 = some (.aload_n 0, 30, 0, 0) := by decide +kernel
theorem ee87_30 : fx_tab 87 30 = some (.getfield 61, 33, 198, 0) := by decide +kernel
theorem ee87_33 : fx_tab 87 33 = some (.aload_n 0, 34, 0, 0) := by decide +kernel
theorem ee87_34 : fx_tab 87 34 = some (.iload_n 2, 35, 2, 0) := by decide +kernel
theorem ee87_35 : fx_tab 87 35 = some (.iload_n 1, 36, 1, 0) := by decide +kernel
theorem ee87_36 : fx_tab 87 36 = some (.invokevirtual 54, 39, 57, 211) := by decide +kernel
theorem ee87_39 : fx_tab 87 39 = some (.invokestatic 64, 42, 1001, 0) := by decide +kernel
theorem ee87_42 : fx_tab 87 42 = some (.putfield 61, 45, 198, 0) := by decide +kernel
theorem ee87_45 : fx_tab 87 45 = some (.iinc 2 (1), 48, 2, 0) := by decide +kernel
theorem ee87_48 : fx_tab 87 48 = some (.goto (-28), 51, 20, 0) := by decide +kernel
theorem ee87_51 : fx_tab 87 51 = some (.iinc 1 (1), 54, 1, 0) := by decide +kernel
theorem ee87_54 : fx_tab 87 54 = some (.goto (-44), 57, 10, 0) := by decide +kernel
theorem ee87_57 : fx_tab 87 57 = some (.aload_n 0, 58, 0, 0) := by decide +kernel
theorem ee87_58 : fx_tab 87 58 = some (.getfield 61, 61, 198, 0) := by decide +kernel
theorem ee87_61 : fx_tab 87 61 = some (.ireturn, 62, 0, 0) := by decide +kernel
theorem ee88_0 : fx_tab 88 0 = some (.aload_n 0, 1, 0, 0) := by decide +kernel
theorem ee88_1 : fx_tab 88 1 = some (.iload_n 1, 2, 1, 0) := by decide +kernel
theorem ee88_2 : fx_tab 88 2 = some (.iload_n 2, 3, 2, 0) := by decide +kernel
theorem ee88_3 : fx_tab 88 3 = some (.invokevirtual 35, 6, 6, 211) := by decide +kernel
theorem ee88_6 : fx_tab 88 6 = some (.ifCond .eq (27), 9, 33, 0) := by decide +kernel
theorem ee88_9 : fx_tab 88 9 = some (.aload_n 0, 10, 0, 0) := by decide +kernel
theorem ee88_10 : fx_tab 88 10 = some (.aload_n 0, 11, 0, 0) := by decide +kernel
theorem ee88_11 : fx_tab 88 11 = some (.iload_n 1, 12, 1, 0) := by decide +kernel
theorem ee88_12 : fx_tab 88 12 = some (.iload_n 2, 13, 2, 0) := by decide +kernel
theorem ee88_13 : fx_tab 88 13 = some (.invokevirtual 39, 16, 2, 211) := by decide +kernel
theorem ee88_16 : fx_tab 88 16 = some (.iload_n 3, 17, 3, 0) := by decide +kernel
theorem ee88_17 : fx_tab 88 17 = some (.invokevirtual 54, 20, 57, 211) := by decide +kernel
theorem ee88_20 : fx_tab 88 20 = some (.aload_n 0, 21, 0, 0) := by decide +kernel
theorem ee88_21 : fx_tab 88 21 = some (.iload_n 1, 22, 1, 0) := by decide +kernel
theorem ee88_22 : fx_tab 88 22 = some (.iload_n 3, 23, 3, 0) := by decide +kernel
theorem ee88_23 : fx_tab 88 23 = some (.invokevirtual 54, 26, 57, 211) := by decide +kernel
theorem ee88_26 : fx_tab 88 26 = some (.if_icmp .ge (7), 29, 33, 0) := by decide +kernel
theorem ee88_29 : fx_tab 88 29 = some (.iconst (1), 30, 0, 0) := by decide +kernel
theorem ee88_30 : fx_tab 88 30 = some (.goto (4), 33, 34, 0) := by decide +kernel
theorem ee88_33 : fx_tab 88 33 = some (.iconst (0), 34, 0, 0) := by decide +kernel
theorem ee88_34 : fx_tab 88 34 = some (.ireturn, 35, 0, 0) := by decide +kernel
theorem ee89_0 : fx_tab 89 0 = some (.aload_n 0, 1, 0, 0) := by decide +kernel
theorem ee89_1 : fx_tab 89 1 = some (.getfield 12, 4, 257, 21) := by decide +kernel
theorem ee89_4 : fx_tab 89 4 = some (.aload_n 1, 5, 1, 0) := by decide +kernel
theorem ee89_5 : fx_tab 89 5 = some (.invokevirtual 38, 8, 66, 338) := by decide +kernel
theorem ee89_8 : fx_tab 89 8 = some (.aload_n 0, 9, 0, 0) := by decide +kernel
theorem ee89_9 : fx_tab 89 9 = some (.getfield 21, 12, 258, 18) := by decide +kernel
theorem ee89_12 : fx_tab 89 12 = some (.invokevirtual 42, 15, 62, 289) := by decide +kernel
theorem ee89_15 : fx_tab 89 15 = some (.iconst (0), 16, 0, 0) := by decide +kernel
theorem ee89_16 : fx_tab 89 16 = some (.istore_n 2, 17, 2, 0) := by decide +kernel
theorem ee89_17 : fx_tab 89 17 = some (.iload_n 2, 18, 2, 0) := by decide +kernel
theorem ee89_18 : fx_tab 89 18 = some (.iconst (4), 19, 0, 0) := by decide +kernel
theorem ee89_19 : fx_tab 89 19 = some (.if_icmp .ge (23), 22, 42, 0) := by decide +kernel
theorem ee89_22 : fx_tab 89 22 = some (.aload_n 0, 23, 0, 0) := by decide +kernel
theorem ee89_23 : fx_tab 89 23 = some (.getfield 27, 26, 259, 42) := by decide +kernel
theorem ee89_26 : fx_tab 89 26 = some (.iload_n 2, 27, 2, 0) := by decide +kernel
theorem ee89_27 : fx_tab 89 27 = some (.aconst_null, 28, 0, 0) := by decide +kernel
theorem ee89_28 : fx_tab 89 28 = some (.aastore, 29, 0, 0) := by decide +kernel
theorem ee89_29 : fx_tab 89 29 = some (.aload_n 0, 30, 0, 0) := by decide +kernel
theorem ee89_30 : fx_tab 89 30 = some (.getfield 31, 33, 260, 42) := by decide +kernel
theorem ee89_33 : fx_tab 89 33 = some (.iload_n 2, 34, 2, 0) := by decide +kernel
theorem ee89_34 : fx_tab 89 34 = some (.aconst_null, 35, 0, 0) := by decide +kernel
theorem ee89_35 : fx_tab 89 35 = some (.aastore, 36, 0, 0) := by decide +kernel
theorem ee89_36 : fx_tab 89 36 = some (.iinc 2 (1), 39, 2, 0) := by decide +kernel
theorem ee89_39 : fx_tab 89 39 = some (.goto (-22), 42, 17, 0) := by decide +kernel
theorem ee89_42 : fx_tab 89 42 = some (.aload_n 0, 43, 0, 0) := by decide +kernel
theorem ee89_43 : fx_tab 89 43 = some (.iconst (0), 44, 0, 0) := by decide +kernel
theorem ee89_44 : fx_tab 89 44 = some (.putfield 44, 47, 261, 0) := by decide +kernel
theorem ee89_47 : fx_tab 89 47 = some (.return_, 48, 0, 0) := by decide +kernel
theorem ee90_0 : fx_tab 90 0 = some (.iconst (0), 1, 0, 0) := by decide +kernel
theorem ee90_1 : fx_tab 90 1 = some (.istore_n 1, 2, 1, 0) := by decide +kernel
theorem ee90_2 : fx_tab 90 2 = some (.iload_n 1, 3, 1, 0) := by decide +kernel
theorem ee90_3 : fx_tab 90 3 = some (.aload_n 0, 4, 0, 0) := by decide +kernel
theorem ee90_4 : fx_tab 90 4 = some (.getfield 24, 7, 322, 0) := by decide +kernel
theorem ee90_7 : fx_tab 90 7 = some (.if_icmp .ge (39), 10, 46, 0) := by decide +kernel
theorem ee90_10 : fx_tab 90 10 = some (.iload_n 1, 11, 1, 0) := by decide +kernel
theorem ee90_11 : fx_tab 90 11 = some (.bipush (8), 13, 0, 0) := by decide +kernel
theorem ee90_13 : fx_tab 90 13 = some (.if_icmp .ge (33), 16, 46, 0) := by decide +kernel
theorem ee90_16 : fx_tab 90 16 = some (.aload_n 0, 17, 0, 0) := by decide +kernel
theorem ee90_17 : fx_tab 90 17 = some (.getfield 11, 20, 332, 42) := by decide +kernel
theorem ee90_20 : fx_tab 90 20 = some (.iload_n 1, 21, 1, 0) := by decide +kernel
theorem ee90_21 : fx_tab 90 21 = some (.aaload, 22, 0, 0) := by decide +kernel
theorem ee90_22 : fx_tab 90 22 = some (.ifnonnull (18), 25, 40, 0) := by decide +kernel
theorem ee90_25 : fx_tab 90 25 = some (.aload_n 0, 26, 0, 0) := by decide +kernel
theorem ee90_26 : fx_tab 90 26 = some (.getfield 11, 29, 332, 42) := by decide +kernel
theorem ee90_29 : fx_tab 90 29 = some (.iload_n 1, 30, 1, 0) := by decide +kernel
theorem ee90_30 : fx_tab 90 30 = some (.new 9, 33, 2, 4) := by decide +kernel
theorem ee90_33 : fx_tab 90 33 = some (.dup, 34, 0, 0) := by decide +kernel
theorem ee90_34 : fx_tab 90 34 = some (.aload_n 0, 35, 0, 0) := by decide +kernel
theorem ee90_35 : fx_tab 90 35 = some (.iload_n 1, 36, 1, 0) := by decide +kernel
theorem ee90_36 : fx_tab 90 36 = some (.invokespecial 49, 39, 52, 195) := by decide +kernel
theorem ee90_39 : fx_tab 90 39 = some (.aastore, 40, 0, 0) := by decide +kernel
theorem ee90_40 : fx_tab 90 40 = some (.iinc 1 (1), 43, 1, 0) := by decide +kernel
theorem ee90_43 : fx_tab 90 43 = some (.goto (-41), 46, 2, 0) := by decide +kernel
theorem ee90_46 : fx_tab 90 46 = some (.return_, 47, 0, 0) := by decide +kernel
theorem ee91_0 : fx_tab 91 0 = some (.aload_n 1, 1, 1, 0) := by decide +kernel
theorem ee91_1 : fx_tab 91 1 = some (.ifnull (7), 4, 8, 0) := by decide +kernel
theorem ee91_4 : fx_tab 91 4 = some (.aload_n 2, 5, 2, 0) := by decide +kernel
theorem ee91_5 : fx_tab 91 5 = some (.ifnonnull (13), 8, 18, 0) := by decide +kernel
theorem ee91_8 : fx_tab 91 8 = some (.aload_n 1, 9, 1, 0) := by decide +kernel
theorem ee91_9 : fx_tab 91 9 = some (.ifnonnull (7), 12, 16, 0) := by decide +kernel
theorem ee91_12 : fx_tab 91 12 = some (.aload_n 2, 13, 2, 0) := by decide +kernel
theorem ee91_13 : fx_tab 91 13 = some (.goto (4), 16, 17, 0) := by decide +kernel
theorem ee91_16 : fx_tab 91 16 = some (.aload_n 1, 17, 1, 0) := by decide +kernel
theorem ee91_17 : fx_tab 91 17 = some (.areturn, 18, 0, 0) := by decide +kernel
theorem ee91_18 : fx_tab 91 18 = some (.aload_n 0, 19, 0, 0) := by decide +kernel
theorem ee91_19 : fx_tab 91 19 = some (.aload_n 1, 20, 1, 0) := by decide +kernel
theorem ee91_20 : fx_tab 91 20 = some (.aload_n 2, 21, 2, 0) := by decide +kernel
theorem ee91_21 : fx_tab 91 21 = some (.invokevirtual 21, 24, 61, 275) := by decide +kernel
theorem ee91_24 : fx_tab 91 24 = some (.ifCond .eq (7), 27, 31, 0) := by decide +kernel
theorem ee91_27 : fx_tab 91 27 = some (.aload_n 1, 28, 1, 0) := by decide +kernel
theorem ee91_28 : fx_tab 91 28 = some (.goto (4), 31, 32, 0) := by decide +kernel
theorem ee91_31 : fx_tab 91 31 = some (.aload_n 2, 32, 2, 0) := by decide +kernel
theorem ee91_32 : fx_tab 91 32 = some (.areturn, 33, 0, 0) := by decide +kernel
theorem ee92_0 : fx_tab 92 0 = some (.iconst (-1), 1, 0, 0) := by decide +kernel
theorem ee92_1 : fx_tab 92 1 = some (.istore_n 3, 2, 3, 0) := by decide +kernel
theorem ee92_2 : fx_tab 92 2 = some (.iconst (0), 3, 0, 0) := by decide +kernel
theorem ee92_3 : fx_tab 92 3 = some (.istore 4, 5, 4, 0) := by decide +kernel
theorem ee92_5 : fx_tab 92 5 = some (.iload 4, 7, 4, 0) := by decide +kernel
theorem ee92_7 : fx_tab 92 7 = some (.iconst (4), 8, 0, 0) := by decide +kernel
theorem ee92_8 : fx_tab 92 8 = some (.if_icmp .ge (52), 11, 60, 0) := by decide +kernel
theorem ee92_11 : fx_tab 92 11 = some (.aload_n 1, 12, 1, 0) := by decide +kernel
theorem ee92_12 : fx_tab 92 12 = some (.iload 4, 14, 4, 0) := by decide +kernel
theorem ee92_14 : fx_tab 92 14 = some (.aaload, 15, 0, 0) := by decide +kernel
theorem ee92_15 : fx_tab 92 15 = some (.astore 5, 17, 5, 0) := by decide +kernel
theorem ee92_17 : fx_tab 92 17 = some (.aload 5, 19, 5, 0) := by decide +kernel
theorem ee92_19 : fx_tab 92 19 = some (.ifnull (35), 22, 54, 0) := by decide +kernel
theorem ee92_22 : fx_tab 92 22 = some (.aload 5, 24, 5, 0) := by decide +kernel
theorem ee92_24 : fx_tab 92 24 = some (.getfield 34, 27, 128, 15) := by decide +kernel
theorem ee92_27 : fx_tab 92 27 = some (.getfield 49, 30, 321, 0) := by decide +kernel
theorem ee92_30 : fx_tab 92 30 = some (.iload_n 2, 31, 2, 0) := by decide +kernel
theorem ee92_31 : fx_tab 92 31 = some (.if_icmp .ne (23), 34, 54, 0) := by decide +kernel
theorem ee92_34 : fx_tab 92 34 = some (.iload_n 3, 35, 3, 0) := by decide +kernel
theorem ee92_35 : fx_tab 92 35 = some (.iconst (-1), 36, 0, 0) := by decide +kernel
theorem ee92_36 : fx_tab 92 36 = some (.if_icmp .eq (15), 39, 51, 0) := by decide +kernel
theorem ee92_39 : fx_tab 92 39 = some (.aload_n 0, 40, 0, 0) := by decide +kernel
theorem ee92_40 : fx_tab 92 40 = some (.aload 5, 42, 5, 0) := by decide +kernel
theorem ee92_42 : fx_tab 92 42 = some (.aload_n 1, 43, 1, 0) := by decide +kernel
theorem ee92_43 : fx_tab 92 43 = some (.iload_n 3, 44, 3, 0) := by decide +kernel
theorem ee92_44 : fx_tab 92 44 = some (.aaload, 45, 0, 0) := by decide +kernel
theorem ee92_45 : fx_tab 92 45 = some (.invokevirtual 21, 48, 61, 275) := by decide +kernel
theorem ee92_48 : fx_tab 92 48 = some (.ifCond .eq (6), 51, 54, 0) := by decide +kernel
theorem ee92_51 : fx_tab 92 51 = some (.iload 4, 53, 4, 0) := by decide +kernel
theorem ee92_53 : fx_tab 92 53 = some (.istore_n 3, 54, 3, 0) := by decide +kernel
theorem ee92_54 : fx_tab 92 54 = some (.iinc 4 (1), 57, 4, 0) := by decide +kernel
theorem ee92_57 : fx_tab 92 57 = some (.goto (-52), 60, 5, 0) := by decide +kernel
theorem ee92_60 : fx_tab 92 60 = some (.iload_n 3, 61, 3, 0) := by decide +kernel
theorem ee92_61 : fx_tab 92 61 = some (.ireturn, 62, 0, 0) := by decide +kernel
theorem ee93_0 : fx_tab 93 0 = some (.aload_n 0, 1, 0, 0) := by decide +kernel
theorem ee93_1 : fx_tab 93 1 = some (.invokespecial 3, 4, 1000, 0) := by decide +kernel
theorem ee93_4 : fx_tab 93 4 = some (.aload_n 0, 5, 0, 0) := by decide +kernel
theorem ee93_5 : fx_tab 93 5 = some (.new 9, 8, 10, 3) := by decide +kernel
theorem ee93_8 : fx_tab 93 8 = some (.dup, 9, 0, 0) := by decide +kernel
theorem ee93_9 : fx_tab 93 9 = some (.invokespecial 11, 12, 65, 321) := by decide +kernel
theorem ee93_12 : fx_tab 93 12 = some (.putfield 12, 15, 512, 20) := by decide +kernel
theorem ee93_15 : fx_tab 93 15 = some (.aload_n 0, 16, 0, 0) := by decide +kernel
theorem ee93_16 : fx_tab 93 16 = some (.new 18, 19, 1, 4) := by decide +kernel
theorem ee93_19 : fx_tab 93 19 = some (.dup, 20, 0, 0) := by decide +kernel
theorem ee93_20 : fx_tab 93 20 = some (.invokespecial 20, 23, 51, 177) := by decide +kernel
theorem ee93_23 : fx_tab 93 23 = some (.putfield 21, 26, 514, 11) := by decide +kernel
theorem ee93_26 : fx_tab 93 26 = some (.aload_n 0, 27, 0, 0) := by decide +kernel
theorem ee93_27 : fx_tab 93 27 = some (.iconst (4), 28, 0, 0) := by decide +kernel
theorem ee93_28 : fx_tab 93 28 = some (.anewarray 25, 31, 6, 300) := by decide +kernel
theorem ee93_31 : fx_tab 93 31 = some (.putfield 27, 34, 516, 46) := by decide +kernel
theorem ee93_34 : fx_tab 93 34 = some (.aload_n 0, 35, 0, 0) := by decide +kernel
theorem ee93_35 : fx_tab 93 35 = some (.iconst (4), 36, 0, 0) := by decide +kernel
theorem ee93_36 : fx_tab 93 36 = some (.anewarray 18, 39, 1, 301) := by decide +kernel
theorem ee93_39 : fx_tab 93 39 = some (.putfield 31, 42, 517, 41) := by decide +kernel
theorem ee93_42 : fx_tab 93 42 = some (.iconst (0), 43, 0, 0) := by decide +kernel
theorem ee93_43 : fx_tab 93 43 = some (.istore_n 1, 44, 1, 0) := by decide +kernel
theorem ee93_44 : fx_tab 93 44 = some (.iload_n 1, 45, 1, 0) := by decide +kernel
theorem ee93_45 : fx_tab 93 45 = some (.iconst (4), 46, 0, 0) := by decide +kernel
theorem ee93_46 : fx_tab 93 46 = some (.if_icmp .ge (22), 49, 68, 0) := by decide +kernel
theorem ee93_49 : fx_tab 93 49 = some (.aload_n 0, 50, 0, 0) := by decide +kernel
theorem ee93_50 : fx_tab 93 50 = some (.getfield 27, 53, 516, 46) := by decide +kernel
theorem ee93_53 : fx_tab 93 53 = some (.iload_n 1, 54, 1, 0) := by decide +kernel
theorem ee93_54 : fx_tab 93 54 = some (.new 25, 57, 6, 3) := by decide +kernel
theorem ee93_57 : fx_tab 93 57 = some (.dup, 58, 0, 0) := by decide +kernel
theorem ee93_58 : fx_tab 93 58 = some (.invokespecial 35, 61, 59, 257) := by decide +kernel
theorem ee93_61 : fx_tab 93 61 = some (.aastore, 62, 0, 0) := by decide +kernel
theorem ee93_62 : fx_tab 93 62 = some (.iinc 1 (1), 65, 1, 0) := by decide +kernel
theorem ee93_65 : fx_tab 93 65 = some (.goto (-21), 68, 44, 0) := by decide +kernel
theorem ee93_68 : fx_tab 93 68 = some (.iconst (0), 69, 0, 0) := by decide +kernel
theorem ee93_69 : fx_tab 93 69 = some (.istore_n 1, 70, 1, 0) := by decide +kernel
theorem ee93_70 : fx_tab 93 70 = some (.iload_n 1, 71, 1, 0) := by decide +kernel
theorem ee93_71 : fx_tab 93 71 = some (.iconst (4), 72, 0, 0) := by decide +kernel
theorem ee93_72 : fx_tab 93 72 = some (.if_icmp .ge (22), 75, 94, 0) := by decide +kernel
theorem ee93_75 : fx_tab 93 75 = some (.aload_n 0, 76, 0, 0) := by decide +kernel
theorem ee93_76 : fx_tab 93 76 = some (.getfield 31, 79, 517, 41) := by decide +kernel
theorem ee93_79 : fx_tab 93 79 = some (.iload_n 1, 80, 1, 0) := by decide +kernel
theorem ee93_80 : fx_tab 93 80 = some (.new 18, 83, 1, 4) := by decide +kernel
theorem ee93_83 : fx_tab 93 83 = some (.dup, 84, 0, 0) := by decide +kernel
theorem ee93_84 : fx_tab 93 84 = some (.invokespecial 20, 87, 51, 177) := by decide +kernel
theorem ee93_87 : fx_tab 93 87 = some (.aastore, 88, 0, 0) := by decide +kernel
theorem ee93_88 : fx_tab 93 88 = some (.iinc 1 (1), 91, 1, 0) := by decide +kernel
theorem ee93_91 : fx_tab 93 91 = some (.goto (-21), 94, 70, 0) := by decide +kernel
theorem ee93_94 : fx_tab 93 94 = some (.return_, 95, 0, 0) := by decide +kernel
theorem ee94_0 : fx_tab 94 0 = some (.aload_n 0, 1, 0, 0) := by decide +kernel
theorem ee94_1 : fx_tab 94 1 = some (.invokespecial 3, 4, 1000, 0) := by decide +kernel
theorem ee94_4 : fx_tab 94 4 = some (.aload_n 0, 5, 0, 0) := by decide +kernel
theorem ee94_5 : fx_tab 94 5 = some (.iconst (4), 6, 0, 0) := by decide +kernel
theorem ee94_6 : fx_tab 94 6 = some (.anewarray 9, 9, 2, 91) := by decide +kernel
theorem ee94_9 : fx_tab 94 9 = some (.putfield 11, 12, 576, 42) := by decide +kernel
theorem ee94_12 : fx_tab 94 12 = some (.aload_n 0, 13, 0, 0) := by decide +kernel
theorem ee94_13 : fx_tab 94 13 = some (.new 17, 16, 3, 7) := by decide +kernel
theorem ee94_16 : fx_tab 94 16 = some (.dup, 17, 0, 0) := by decide +kernel
theorem ee94_17 : fx_tab 94 17 = some (.invokespecial 19, 20, 53, 209) := by decide +kernel
theorem ee94_20 : fx_tab 94 20 = some (.putfield 20, 23, 577, 13) := by decide +kernel
theorem ee94_23 : fx_tab 94 23 = some (.aload_n 0, 24, 0, 0) := by decide +kernel
theorem ee94_24 : fx_tab 94 24 = some (.new 24, 27, 7, 3) := by decide +kernel
theorem ee94_27 : fx_tab 94 27 = some (.dup, 28, 0, 0) := by decide +kernel
theorem ee94_28 : fx_tab 94 28 = some (.invokespecial 26, 31, 60, 273) := by decide +kernel
theorem ee94_31 : fx_tab 94 31 = some (.putfield 27, 34, 578, 17) := by decide +kernel
theorem ee94_34 : fx_tab 94 34 = some (.aload_n 0, 35, 0, 0) := by decide +kernel
theorem ee94_35 : fx_tab 94 35 = some (.iconst (4), 36, 0, 0) := by decide +kernel
theorem ee94_36 : fx_tab 94 36 = some (.anewarray 9, 39, 2, 91) := by decide +kernel
theorem ee94_39 : fx_tab 94 39 = some (.putfield 31, 42, 579, 42) := by decide +kernel
theorem ee94_42 : fx_tab 94 42 = some (.aload_n 0, 43, 0, 0) := by decide +kernel
theorem ee94_43 : fx_tab 94 43 = some (.iconst (4), 44, 0, 0) := by decide +kernel
theorem ee94_44 : fx_tab 94 44 = some (.anewarray 9, 47, 2, 91) := by decide +kernel
theorem ee94_47 : fx_tab 94 47 = some (.putfield 34, 50, 580, 42) := by decide +kernel
theorem ee94_50 : fx_tab 94 50 = some (.return_, 51, 0, 0) := by decide +kernel
theorem ee95_0 : fx_tab 95 0 = some (.iconst (0), 1, 0, 0) := by decide +kernel
theorem ee95_1 : fx_tab 95 1 = some (.istore_n 2, 2, 2, 0) := by decide +kernel
theorem ee95_2 : fx_tab 95 2 = some (.iconst (0), 3, 0, 0) := by decide +kernel
theorem ee95_3 : fx_tab 95 3 = some (.istore_n 3, 4, 3, 0) := by decide +kernel
theorem ee95_4 : fx_tab 95 4 = some (.iload_n 3, 5, 3, 0) := by decide +kernel
theorem ee95_5 : fx_tab 95 5 = some (.iconst (4), 6, 0, 0) := by decide +kernel
theorem ee95_6 : fx_tab 95 6 = some (.if_icmp .ge (82), 9, 88, 0) := by decide +kernel
theorem ee95_9 : fx_tab 95 9 = some (.aload_n 1, 10, 1, 0) := by decide +kernel
theorem ee95_10 : fx_tab 95 10 = some (.iload_n 3, 11, 3, 0) := by decide +kernel
theorem ee95_11 : fx_tab 95 11 = some (.aaload, 12, 0, 0) := by decide +kernel
theorem ee95_12 : fx_tab 95 12 = some (.astore 4, 14, 4, 0) := by decide +kernel
theorem ee95_14 : fx_tab 95 14 = some (.aload 4, 16, 4, 0) := by decide +kernel
theorem ee95_16 : fx_tab 95 16 = some (.ifnull (66), 19, 82, 0) := by decide +kernel
theorem ee95_19 : fx_tab 95 19 = some (.iload_n 2, 20, 2, 0) := by decide +kernel
theorem ee95_20 : fx_tab 95 20 = some (.istore 5, 22, 5, 0) := by decide +kernel
theorem ee95_22 : fx_tab 95 22 = some (.iload 5, 24, 5, 0) := by decide +kernel
theorem ee95_24 : fx_tab 95 24 = some (.ifCond .le (46), 27, 70, 0) := by decide +kernel
theorem ee95_27 : fx_tab 95 27 = some (.aload_n 0, 28, 0, 0) := by decide +kernel
theorem ee95_28 : fx_tab 95 28 = some (.getfield 27, 31, 578, 17) := by decide +kernel
theorem ee95_31 : fx_tab 95 31 = some (.aload 4, 33, 4, 0) := by decide +kernel
theorem ee95_33 : fx_tab 95 33 = some (.aload_n 0, 34, 0, 0) := by decide +kernel
theorem ee95_34 : fx_tab 95 34 = some (.getfield 31, 37, 579, 42) := by decide +kernel
theorem ee95_37 : fx_tab 95 37 = some (.iload 5, 39, 5, 0) := by decide +kernel
theorem ee95_39 : fx_tab 95 39 = some (.iconst (1), 40, 0, 0) := by decide +kernel
theorem ee95_40 : fx_tab 95 40 = some (.isub, 41, 0, 0) := by decide +kernel
theorem ee95_41 : fx_tab 95 41 = some (.aaload, 42, 0, 0) := by decide +kernel
theorem ee95_42 : fx_tab 95 42 = some (.invokevirtual 62, 45, 61, 275) := by decide +kernel
theorem ee95_45 : fx_tab 95 45 = some (.ifCond .eq (25), 48, 70, 0) := by decide +kernel
theorem ee95_48 : fx_tab 95 48 = some (.aload_n 0, 49, 0, 0) := by decide +kernel
theorem ee95_49 : fx_tab 95 49 = some (.getfield 31, 52, 579, 42) := by decide +kernel
theorem ee95_52 : fx_tab 95 52 = some (.iload 5, 54, 5, 0) := by decide +kernel
theorem ee95_54 : fx_tab 95 54 = some (.aload_n 0, 55, 0, 0) := by decide +kernel
theorem ee95_55 : fx_tab 95 55 = some (.getfield 31, 58, 579, 42) := by decide +kernel
theorem ee95_58 : fx_tab 95 58 = some (.iload 5, 60, 5, 0) := by decide +kernel
theorem ee95_60 : fx_tab 95 60 = some (.iconst (1), 61, 0, 0) := by decide +kernel
theorem ee95_61 : fx_tab 95 61 = some (.isub, 62, 0, 0) := by decide +kernel
theorem ee95_62 : fx_tab 95 62 = some (.aaload, 63, 0, 0) := by decide +kernel
theorem ee95_63 : fx_tab 95 63 = some (.aastore, 64, 0, 0) := by decide +kernel
theorem ee95_64 : fx_tab 95 64 = some (.iinc 5 (-1), 67, 5, 0) := by decide +kernel
theorem ee95_67 : fx_tab 95 67 = some (.goto (-45), 70, 22, 0) := by decide +kernel
theorem ee95_70 : fx_tab 95 70 = some (.aload_n 0, 71, 0, 0) := by decide +kernel
theorem ee95_71 : fx_tab 95 71 = some (.getfield 31, 74, 579, 42) := by decide +kernel
theorem ee95_74 : fx_tab 95 74 = some (.iload 5, 76, 5, 0) := by decide +kernel
theorem ee95_76 : fx_tab 95 76 = some (.aload 4, 78, 4, 0) := by decide +kernel
theorem ee95_78 : fx_tab 95 78 = some (.aastore, 79, 0, 0) := by decide +kernel
theorem ee95_79 : fx_tab 95 79 = some (.iinc 2 (1), 82, 2, 0) := by decide +kernel
theorem ee95_82 : fx_tab 95 82 = some (.iinc 3 (1), 85, 3, 0) := by decide +kernel
theorem ee95_85 : fx_tab 95 85 = some (.goto (-81), 88, 4, 0) := by decide +kernel
theorem ee95_88 : fx_tab 95 88 = some (.iload_n 2, 89, 2, 0) := by decide +kernel
theorem ee95_89 : fx_tab 95 89 = some (.ireturn, 90, 0, 0) := by decide +kernel
theorem ee96_0 : fx_tab 96 0 = some (.aload_n 0, 1, 0, 0) := by decide +kernel
theorem ee96_1 : fx_tab 96 1 = some (.invokespecial 3, 4, 1000, 0) := by decide +kernel
theorem ee96_4 : fx_tab 96 4 = some (.aload_n 0, 5, 0, 0) := by decide +kernel
theorem ee96_5 : fx_tab 96 5 = some (.new 9, 8, 10, 3) := by decide +kernel
theorem ee96_8 : fx_tab 96 8 = some (.dup, 9, 0, 0) := by decide +kernel
theorem ee96_9 : fx_tab 96 9 = some (.invokespecial 11, 12, 65, 321) := by decide +kernel
theorem ee96_12 : fx_tab 96 12 = some (.putfield 12, 15, 704, 20) := by decide +kernel
theorem ee96_15 : fx_tab 96 15 = some (.aload_n 0, 16, 0, 0) := by decide +kernel
theorem ee96_16 : fx_tab 96 16 = some (.new 9, 19, 10, 3) := by decide +kernel
theorem ee96_19 : fx_tab 96 19 = some (.dup, 20, 0, 0) := by decide +kernel
theorem ee96_20 : fx_tab 96 20 = some (.invokespecial 11, 23, 65, 321) := by decide +kernel
theorem ee96_23 : fx_tab 96 23 = some (.putfield 18, 26, 705, 20) := by decide +kernel
theorem ee96_26 : fx_tab 96 26 = some (.aload_n 0, 27, 0, 0) := by decide +kernel
theorem ee96_27 : fx_tab 96 27 = some (.bipush (8), 29, 0, 0) := by decide +kernel
theorem ee96_29 : fx_tab 96 29 = some (.anewarray 21, 32, 5, 245) := by decide +kernel
theorem ee96_32 : fx_tab 96 32 = some (.putfield 23, 35, 708, 45) := by decide +kernel
theorem ee96_35 : fx_tab 96 35 = some (.return_, 36, 0, 0) := by decide +kernel
theorem ee97_0 : fx_tab 97 0 = some (.aload_n 0, 1, 0, 0) := by decide +kernel
theorem ee97_1 : fx_tab 97 1 = some (.iload_n 1, 2, 1, 0) := by decide +kernel
theorem ee97_2 : fx_tab 97 2 = some (.invokevirtual 199, 5, 74, 354) := by decide +kernel
theorem ee97_5 : fx_tab 97 5 = some (.ifCond .ne (11), 8, 16, 0) := by decide +kernel
theorem ee97_8 : fx_tab 97 8 = some (.aload_n 0, 9, 0, 0) := by decide +kernel
theorem ee97_9 : fx_tab 97 9 = some (.iload_n 2, 10, 2, 0) := by decide +kernel
theorem ee97_10 : fx_tab 97 10 = some (.invokevirtual 199, 13, 74, 354) := by decide +kernel
theorem ee97_13 : fx_tab 97 13 = some (.ifCond .eq (9), 16, 22, 0) := by decide +kernel
theorem ee97_16 : fx_tab 97 16 = some (.aload_n 0, 17, 0, 0) := by decide +kernel
theorem ee97_17 : fx_tab 97 17 = some (.iload_n 1, 18, 1, 0) := by decide +kernel
theorem ee97_18 : fx_tab 97 18 = some (.invokevirtual 199, 21, 74, 354) := by decide +kernel
theorem ee97_21 : fx_tab 97 21 = some (.ireturn, 22, 0, 0) := by decide +kernel
theorem ee97_22 : fx_tab 97 22 = some (.aload_n 0, 23, 0, 0) := by decide +kernel
theorem ee97_23 : fx_tab 97 23 = some (.getfield 32, 26, 784, 70) := by decide +kernel
theorem ee97_26 : fx_tab 97 26 = some (.iload_n 1, 27, 1, 0) := by decide +kernel
theorem ee97_27 : fx_tab 97 27 = some (.iaload, 28, 0, 0) := by decide +kernel
theorem ee97_28 : fx_tab 97 28 = some (.aload_n 0, 29, 0, 0) := by decide +kernel
theorem ee97_29 : fx_tab 97 29 = some (.getfield 32, 32, 784, 70) := by decide +kernel
theorem ee97_32 : fx_tab 97 32 = some (.iload_n 2, 33, 2, 0) := by decide +kernel
theorem ee97_33 : fx_tab 97 33 = some (.iaload, 34, 0, 0) := by decide +kernel
theorem ee97_34 : fx_tab 97 34 = some (.if_icmp .eq (24), 37, 58, 0) := by decide +kernel
theorem ee97_37 : fx_tab 97 37 = some (.aload_n 0, 38, 0, 0) := by decide +kernel
theorem ee97_38 : fx_tab 97 38 = some (.getfield 32, 41, 784, 70) := by decide +kernel
theorem ee97_41 : fx_tab 97 41 = some (.iload_n 1, 42, 1, 0) := by decide +kernel
theorem ee97_42 : fx_tab 97 42 = some (.iaload, 43, 0, 0) := by decide +kernel
theorem ee97_43 : fx_tab 97 43 = some (.aload_n 0, 44, 0, 0) := by decide +kernel
theorem ee97_44 : fx_tab 97 44 = some (.getfield 32, 47, 784, 70) := by decide +kernel
theorem ee97_47 : fx_tab 97 47 = some (.iload_n 2, 48, 2, 0) := by decide +kernel
theorem ee97_48 : fx_tab 97 48 = some (.iaload, 49, 0, 0) := by decide +kernel
theorem ee97_49 : fx_tab 97 49 = some (.if_icmp .ge (7), 52, 56, 0) := by decide +kernel
theorem ee97_52 : fx_tab 97 52 = some (.iconst (1), 53, 0, 0) := by decide +kernel
theorem ee97_53 : fx_tab 97 53 = some (.goto (4), 56, 57, 0) := by decide +kernel
theorem ee97_56 : fx_tab 97 56 = some (.iconst (0), 57, 0, 0) := by decide +kernel
theorem ee97_57 : fx_tab 97 57 = some (.ireturn, 58, 0, 0) := by decide +kernel
theorem ee97_58 : fx_tab 97 58 = some (.bipush (64), 60, 0, 0) := by decide +kernel
theorem ee97_60 : fx_tab 97 60 = some (.aload_n 0, 61, 0, 0) := by decide +kernel
theorem ee97_61 : fx_tab 97 61 = some (.getfield 23, 64, 781, 70) := by decide +kernel
theorem ee97_64 : fx_tab 97 64 = some (.iload_n 1, 65, 1, 0) := by decide +kernel
theorem ee97_65 : fx_tab 97 65 = some (.iaload, 66, 0, 0) := by decide +kernel
theorem ee97_66 : fx_tab 97 66 = some (.imul, 67, 0, 0) := by decide +kernel
theorem ee97_67 : fx_tab 97 67 = some (.bipush (8), 69, 0, 0) := by decide +kernel
theorem ee97_69 : fx_tab 97 69 = some (.aload_n 0, 70, 0, 0) := by decide +kernel
theorem ee97_70 : fx_tab 97 70 = some (.getfield 26, 73, 782, 70) := by decide +kernel
theorem ee97_73 : fx_tab 97 73 = some (.iload_n 1, 74, 1, 0) := by decide +kernel
theorem ee97_74 : fx_tab 97 74 = some (.iaload, 75, 0, 0) := by decide +kernel
theorem ee97_75 : fx_tab 97 75 = some (.imul, 76, 0, 0) := by decide +kernel
theorem ee97_76 : fx_tab 97 76 = some (.iadd, 77, 0, 0) := by decide +kernel
theorem ee97_77 : fx_tab 97 77 = some (.aload_n 0, 78, 0, 0) := by decide +kernel
theorem ee97_78 : fx_tab 97 78 = some (.getfield 29, 81, 783, 70) := by decide +kernel
theorem ee97_81 : fx_tab 97 81 = some (.iload_n 1, 82, 1, 0) := by decide +kernel
theorem ee97_82 : fx_tab 97 82 = some (.iaload, 83, 0, 0) := by decide +kernel
theorem ee97_83 : fx_tab 97 83 = some (.iadd, 84, 0, 0) := by decide +kernel
theorem ee97_84 : fx_tab 97 84 = some (.bipush (64), 86, 0, 0) := by decide +kernel
theorem ee97_86 : fx_tab 97 86 = some (.aload_n 0, 87, 0, 0) := by decide +kernel
theorem ee97_87 : fx_tab 97 87 = some (.getfield 23, 90, 781, 70) := by decide +kernel
theorem ee97_90 : fx_tab 97 90 = some (.iload_n 2, 91, 2, 0) := by decide +kernel
theorem ee97_91 : fx_tab 97 91 = some (.iaload, 92, 0, 0) := by decide +kernel
theorem ee97_92 : fx_tab 97 92 = some (.imul, 93, 0, 0) := by decide +kernel
theorem ee97_93 : fx_tab 97 93 = some (.bipush (8), 95, 0, 0) := by decide +kernel
theorem ee97_95 : fx_tab 97 95 = some (.aload_n 0, 96, 0, 0) := by decide +kernel
theorem ee97_96 : fx_tab 97 96 = some (.getfield 26, 99, 782, 70) := by decide +kernel
theorem ee97_99 : fx_tab 97 99 = some (.iload_n 2, 100, 2, 0) := by decide +kernel
theorem ee97_100 : fx_tab 97 100 = some (.iaload, 101, 0, 0) := by decide +kernel
theorem ee97_101 : fx_tab 97 101 = some (.imul, 102, 0, 0) := by decide +kernel
theorem ee97_102 : fx_tab 97 102 = some (.iadd, 103, 0, 0) := by decide +kernel
theorem ee97_103 : fx_tab 97 103 = some (.aload_n 0, 104, 0, 0) := by decide +kernel
theorem ee97_104 : fx_tab 97 104 = some (.getfield 29, 107, 783, 70) := by decide +kernel
theorem ee97_107 : fx_tab 97 107 = some (.iload_n 2, 108, 2, 0) := by decide +kernel
theorem ee97_108 : fx_tab 97 108 = some (.iaload, 109, 0, 0) := by decide +kernel
theorem ee97_109 : fx_tab 97 109 = some (.iadd, 110, 0, 0) := by decide +kernel
theorem ee97_110 : fx_tab 97 110 = some (.if_icmp .ge (7), 113, 117, 0) := by decide +kernel
theorem ee97_113 : fx_tab 97 113 = some (.iconst (1), 114, 0, 0) := by decide +kernel
theorem ee97_114 : fx_tab 97 114 = some (.goto (4), 117, 118, 0) := by decide +kernel
theorem ee97_117 : fx_tab 97 117 = some (.iconst (0), 118, 0, 0) := by decide +kernel
theorem ee97_118 : fx_tab 97 118 = some (.ireturn, 119, 0, 0) := by decide +kernel
theorem ee98_0 : fx_tab 98 0 = some (.aload_n 0, 1, 0, 0) := by decide +kernel
theorem ee98_1 : fx_tab 98 1 = some (.invokevirtual 239, 4, 27, 353) := by decide +kernel
theorem ee98_4 : fx_tab 98 4 = some (.istore_n 1, 5, 1, 0) := by decide +kernel
theorem ee98_5 : fx_tab 98 5 = some (.iconst (0), 6, 0, 0) := by decide +kernel
theorem ee98_6 : fx_tab 98 6 = some (.istore_n 2, 7, 2, 0) := by decide +kernel
theorem ee98_7 : fx_tab 98 7 = some (.iload_n 2, 8, 2, 0) := by decide +kernel
theorem ee98_8 : fx_tab 98 8 = some (.aload_n 0, 9, 0, 0) := by decide +kernel
theorem ee98_9 : fx_tab 98 9 = some (.getfield 140, 12, 770, 0) := by decide +kernel
theorem ee98_12 : fx_tab 98 12 = some (.if_icmp .ge (109), 15, 121, 0) := by decide +kernel
theorem ee98_15 : fx_tab 98 15 = some (.aload_n 0, 16, 0, 0) := by decide +kernel
theorem ee98_16 : fx_tab 98 16 = some (.iload_n 2, 17, 2, 0) := by decide +kernel
theorem ee98_17 : fx_tab 98 17 = some (.invokevirtual 242, 20, 69, 354) := by decide +kernel
theorem ee98_20 : fx_tab 98 20 = some (.istore_n 3, 21, 3, 0) := by decide +kernel
theorem ee98_21 : fx_tab 98 21 = some (.aload_n 0, 22, 0, 0) := by decide +kernel
theorem ee98_22 : fx_tab 98 22 = some (.iload_n 2, 23, 2, 0) := by decide +kernel
theorem ee98_23 : fx_tab 98 23 = some (.invokevirtual 245, 26, 28, 354) := by decide +kernel
theorem ee98_26 : fx_tab 98 26 = some (.aload_n 0, 27, 0, 0) := by decide +kernel
theorem ee98_27 : fx_tab 98 27 = some (.iload_n 2, 28, 2, 0) := by decide +kernel
theorem ee98_28 : fx_tab 98 28 = some (.invokevirtual 192, 31, 40, 354) := by decide +kernel
theorem ee98_31 : fx_tab 98 31 = some (.if_icmp .ge (17), 34, 48, 0) := by decide +kernel
theorem ee98_34 : fx_tab 98 34 = some (.iload_n 1, 35, 1, 0) := by decide +kernel
theorem ee98_35 : fx_tab 98 35 = some (.iconst (-1), 36, 0, 0) := by decide +kernel
theorem ee98_36 : fx_tab 98 36 = some (.if_icmp .eq (8), 39, 44, 0) := by decide +kernel
theorem ee98_39 : fx_tab 98 39 = some (.iload_n 1, 40, 1, 0) := by decide +kernel
theorem ee98_40 : fx_tab 98 40 = some (.iload_n 2, 41, 2, 0) := by decide +kernel
theorem ee98_41 : fx_tab 98 41 = some (.if_icmp .ne (7), 44, 48, 0) := by decide +kernel
theorem ee98_44 : fx_tab 98 44 = some (.iconst (1), 45, 0, 0) := by decide +kernel
theorem ee98_45 : fx_tab 98 45 = some (.goto (4), 48, 49, 0) := by decide +kernel
theorem ee98_48 : fx_tab 98 48 = some (.iconst (0), 49, 0, 0) := by decide +kernel
theorem ee98_49 : fx_tab 98 49 = some (.istore 4, 51, 4, 0) := by decide +kernel
theorem ee98_51 : fx_tab 98 51 = some (.aload_n 0, 52, 0, 0) := by decide +kernel
theorem ee98_52 : fx_tab 98 52 = some (.getfield 120, 55, 814, 70) := by decide +kernel
theorem ee98_55 : fx_tab 98 55 = some (.iload_n 2, 56, 2, 0) := by decide +kernel
theorem ee98_56 : fx_tab 98 56 = some (.iload_n 3, 57, 3, 0) := by decide +kernel
theorem ee98_57 : fx_tab 98 57 = some (.iconst (-1), 58, 0, 0) := by decide +kernel
theorem ee98_58 : fx_tab 98 58 = some (.if_icmp .eq (19), 61, 77, 0) := by decide +kernel
theorem ee98_61 : fx_tab 98 61 = some (.iload 4, 63, 4, 0) := by decide +kernel
theorem ee98_63 : fx_tab 98 63 = some (.ifCond .ne (14), 66, 77, 0) := by decide +kernel
theorem ee98_66 : fx_tab 98 66 = some (.aload_n 0, 67, 0, 0) := by decide +kernel
theorem ee98_67 : fx_tab 98 67 = some (.getfield 120, 70, 814, 70) := by decide +kernel
theorem ee98_70 : fx_tab 98 70 = some (.iload_n 2, 71, 2, 0) := by decide +kernel
theorem ee98_71 : fx_tab 98 71 = some (.iaload, 72, 0, 0) := by decide +kernel
theorem ee98_72 : fx_tab 98 72 = some (.iconst (1), 73, 0, 0) := by decide +kernel
theorem ee98_73 : fx_tab 98 73 = some (.iadd, 74, 0, 0) := by decide +kernel
theorem ee98_74 : fx_tab 98 74 = some (.goto (4), 77, 78, 0) := by decide +kernel
theorem ee98_77 : fx_tab 98 77 = some (.iconst (0), 78, 0, 0) := by decide +kernel
theorem ee98_78 : fx_tab 98 78 = some (.iastore, 79, 0, 0) := by decide +kernel
theorem ee98_79 : fx_tab 98 79 = some (.iload_n 3, 80, 3, 0) := by decide +kernel
theorem ee98_80 : fx_tab 98 80 = some (.iconst (-1), 81, 0, 0) := by decide +kernel
theorem ee98_81 : fx_tab 98 81 = some (.if_icmp .eq (34), 84, 115, 0) := by decide +kernel
theorem ee98_84 : fx_tab 98 84 = some (.iload 4, 86, 4, 0) := by decide +kernel
theorem ee98_86 : fx_tab 98 86 = some (.ifCond .ne (6), 89, 92, 0) := by decide +kernel
theorem ee98_89 : fx_tab 98 89 = some (.goto (26), 92, 115, 0) := by decide +kernel
theorem ee98_92 : fx_tab 98 92 = some (.aload_n 0, 93, 0, 0) := by decide +kernel
theorem ee98_93 : fx_tab 98 93 = some (.iload_n 2, 94, 2, 0) := by decide +kernel
theorem ee98_94 : fx_tab 98 94 = some (.iload_n 3, 95, 3, 0) := by decide +kernel
theorem ee98_95 : fx_tab 98 95 = some (.invokevirtual 248, 98, 71, 355) := by decide +kernel
theorem ee98_98 : fx_tab 98 98 = some (.iload_n 1, 99, 1, 0) := by decide +kernel
theorem ee98_99 : fx_tab 98 99 = some (.iload_n 2, 100, 2, 0) := by decide +kernel
theorem ee98_100 : fx_tab 98 100 = some (.if_icmp .ne (15), 103, 115, 0) := by decide +kernel
theorem ee98_103 : fx_tab 98 103 = some (.aload_n 0, 104, 0, 0) := by decide +kernel
theorem ee98_104 : fx_tab 98 104 = some (.iload_n 2, 105, 2, 0) := by decide +kernel
theorem ee98_105 : fx_tab 98 105 = some (.iconst (1), 106, 0, 0) := by decide +kernel
theorem ee98_106 : fx_tab 98 106 = some (.iadd, 107, 0, 0) := by decide +kernel
theorem ee98_107 : fx_tab 98 107 = some (.aload_n 0, 108, 0, 0) := by decide +kernel
theorem ee98_108 : fx_tab 98 108 = some (.getfield 140, 111, 770, 0) := by decide +kernel
theorem ee98_111 : fx_tab 98 111 = some (.irem, 112, 0, 0) := by decide +kernel
theorem ee98_112 : fx_tab 98 112 = some (.putfield 152, 115, 774, 0) := by decide +kernel
theorem ee98_115 : fx_tab 98 115 = some (.iinc 2 (1), 118, 2, 0) := by decide +kernel
theorem ee98_118 : fx_tab 98 118 = some (.goto (-111), 121, 7, 0) := by decide +kernel
theorem ee98_121 : fx_tab 98 121 = some (.return_, 122, 0, 0) := by decide +kernel
theorem ee99_0 : fx_tab 99 0 = some (.aload_n 0, 1, 0, 0) := by decide +kernel
theorem ee99_1 : fx_tab 99 1 = some (.iconst (0), 2, 0, 0) := by decide +kernel
theorem ee99_2 : fx_tab 99 2 = some (.putfield 130, 5, 768, 0) := by decide +kernel
theorem ee99_5 : fx_tab 99 5 = some (.aload_n 0, 6, 0, 0) := by decide +kernel
theorem ee99_6 : fx_tab 99 6 = some (.iload_n 1, 7, 1, 0) := by decide +kernel
theorem ee99_7 : fx_tab 99 7 = some (.invokevirtual 185, 10, 34, 354) := by decide +kernel
theorem ee99_10 : fx_tab 99 10 = some (.ifCond .eq (41), 13, 51, 0) := by decide +kernel
theorem ee99_13 : fx_tab 99 13 = some (.iload_n 2, 14, 2, 0) := by decide +kernel
theorem ee99_14 : fx_tab 99 14 = some (.iconst (0), 15, 0, 0) := by decide +kernel
theorem ee99_15 : fx_tab 99 15 = some (.iconst (3), 16, 0, 0) := by decide +kernel
theorem ee99_16 : fx_tab 99 16 = some (.invokestatic 134, 19, 47, 3) := by decide +kernel
theorem ee99_19 : fx_tab 99 19 = some (.ifCond .eq (32), 22, 51, 0) := by decide +kernel
theorem ee99_22 : fx_tab 99 22 = some (.aload_n 0, 23, 0, 0) := by decide +kernel
theorem ee99_23 : fx_tab 99 23 = some (.getfield 143, 26, 771, 0) := by decide +kernel
theorem ee99_26 : fx_tab 99 26 = some (.iconst (1), 27, 0, 0) := by decide +kernel
theorem ee99_27 : fx_tab 99 27 = some (.if_icmp .eq (24), 30, 51, 0) := by decide +kernel
theorem ee99_30 : fx_tab 99 30 = some (.aload_n 0, 31, 0, 0) := by decide +kernel
theorem ee99_31 : fx_tab 99 31 = some (.getfield 7, 34, 775, 71) := by decide +kernel
theorem ee99_34 : fx_tab 99 34 = some (.iconst (4), 35, 0, 0) := by decide +kernel
theorem ee99_35 : fx_tab 99 35 = some (.iload_n 1, 36, 1, 0) := by decide +kernel
theorem ee99_36 : fx_tab 99 36 = some (.imul, 37, 0, 0) := by decide +kernel
theorem ee99_37 : fx_tab 99 37 = some (.iload_n 2, 38, 2, 0) := by decide +kernel
theorem ee99_38 : fx_tab 99 38 = some (.iadd, 39, 0, 0) := by decide +kernel
theorem ee99_39 : fx_tab 99 39 = some (.baload, 40, 0, 0) := by decide +kernel
theorem ee99_40 : fx_tab 99 40 = some (.iload_n 3, 41, 3, 0) := by decide +kernel
theorem ee99_41 : fx_tab 99 41 = some (.if_icmp .ne (10), 44, 51, 0) := by decide +kernel
theorem ee99_44 : fx_tab 99 44 = some (.aload_n 0, 45, 0, 0) := by decide +kernel
theorem ee99_45 : fx_tab 99 45 = some (.invokevirtual 189, 48, 75, 353) := by decide +kernel
theorem ee99_48 : fx_tab 99 48 = some (.ifCond .ne (5), 51, 53, 0) := by decide +kernel
theorem ee99_51 : fx_tab 99 51 = some (.iconst (0), 52, 0, 0) := by decide +kernel
theorem ee99_52 : fx_tab 99 52 = some (.ireturn, 53, 0, 0) := by decide +kernel
theorem ee99_53 : fx_tab 99 53 = some (.aload_n 0, 54, 0, 0) := by decide +kernel
theorem ee99_54 : fx_tab 99 54 = some (.iload_n 1, 55, 1, 0) := by decide +kernel
theorem ee99_55 : fx_tab 99 55 = some (.iload_n 2, 56, 2, 0) := by decide +kernel
theorem ee99_56 : fx_tab 99 56 = some (.invokevirtual 177, 59, 37, 355) := by decide +kernel
theorem ee99_59 : fx_tab 99 59 = some (.istore 4, 61, 4, 0) := by decide +kernel
theorem ee99_61 : fx_tab 99 61 = some (.iload_n 2, 62, 2, 0) := by decide +kernel
theorem ee99_62 : fx_tab 99 62 = some (.iconst (1), 63, 0, 0) := by decide +kernel
theorem ee99_63 : fx_tab 99 63 = some (.ixor, 64, 0, 0) := by decide +kernel
theorem ee99_64 : fx_tab 99 64 = some (.istore 5, 66, 5, 0) := by decide +kernel
theorem ee99_66 : fx_tab 99 66 = some (.aload_n 0, 67, 0, 0) := by decide +kernel
theorem ee99_67 : fx_tab 99 67 = some (.getfield 7, 70, 775, 71) := by decide +kernel
theorem ee99_70 : fx_tab 99 70 = some (.iconst (4), 71, 0, 0) := by decide +kernel
theorem ee99_71 : fx_tab 99 71 = some (.iload_n 1, 72, 1, 0) := by decide +kernel
theorem ee99_72 : fx_tab 99 72 = some (.imul, 73, 0, 0) := by decide +kernel
theorem ee99_73 : fx_tab 99 73 = some (.iload_n 2, 74, 2, 0) := by decide +kernel
theorem ee99_74 : fx_tab 99 74 = some (.iadd, 75, 0, 0) := by decide +kernel
theorem ee99_75 : fx_tab 99 75 = some (.iload_n 3, 76, 3, 0) := by decide +kernel
theorem ee99_76 : fx_tab 99 76 = some (.ifCond .ne (7), 79, 83, 0) := by decide +kernel
theorem ee99_79 : fx_tab 99 79 = some (.iconst (1), 80, 0, 0) := by decide +kernel
theorem ee99_80 : fx_tab 99 80 = some (.goto (4), 83, 84, 0) := by decide +kernel
theorem ee99_83 : fx_tab 99 83 = some (.iconst (0), 84, 0, 0) := by decide +kernel
theorem ee99_84 : fx_tab 99 84 = some (.bastore, 85, 0, 0) := by decide +kernel
theorem ee99_85 : fx_tab 99 85 = some (.aload_n 0, 86, 0, 0) := by decide +kernel
theorem ee99_86 : fx_tab 99 86 = some (.getfield 7, 89, 775, 71) := by decide +kernel
theorem ee99_89 : fx_tab 99 89 = some (.iconst (4), 90, 0, 0) := by decide +kernel
theorem ee99_90 : fx_tab 99 90 = some (.iload 4, 92, 4, 0) := by decide +kernel
theorem ee99_92 : fx_tab 99 92 = some (.imul, 93, 0, 0) := by decide +kernel
theorem ee99_93 : fx_tab 99 93 = some (.iload 5, 95, 5, 0) := by decide +kernel
theorem ee99_95 : fx_tab 99 95 = some (.iadd, 96, 0, 0) := by decide +kernel
theorem ee99_96 : fx_tab 99 96 = some (.iload_n 3, 97, 3, 0) := by decide +kernel
theorem ee99_97 : fx_tab 99 97 = some (.ifCond .ne (7), 100, 104, 0) := by decide +kernel
theorem ee99_100 : fx_tab 99 100 = some (.iconst (1), 101, 0, 0) := by decide +kernel
theorem ee99_101 : fx_tab 99 101 = some (.goto (4), 104, 105, 0) := by decide +kernel
theorem ee99_104 : fx_tab 99 104 = some (.iconst (0), 105, 0, 0) := by decide +kernel
theorem ee99_105 : fx_tab 99 105 = some (.bastore, 106, 0, 0) := by decide +kernel
theorem ee99_106 : fx_tab 99 106 = some (.aload_n 0, 107, 0, 0) := by decide +kernel
theorem ee99_107 : fx_tab 99 107 = some (.invokevirtual 170, 110, 77, 353) := by decide +kernel
theorem ee99_110 : fx_tab 99 110 = some (.ifCond .eq (30), 113, 140, 0) := by decide +kernel
theorem ee99_113 : fx_tab 99 113 = some (.iload_n 3, 114, 3, 0) := by decide +kernel
theorem ee99_114 : fx_tab 99 114 = some (.ifCond .ne (22), 117, 136, 0) := by decide +kernel
theorem ee99_117 : fx_tab 99 117 = some (.aload_n 0, 118, 0, 0) := by decide +kernel
theorem ee99_118 : fx_tab 99 118 = some (.iload_n 1, 119, 1, 0) := by decide +kernel
theorem ee99_119 : fx_tab 99 119 = some (.invokevirtual 192, 122, 40, 354) := by decide +kernel
theorem ee99_122 : fx_tab 99 122 = some (.iconst (1), 123, 0, 0) := by decide +kernel
theorem ee99_123 : fx_tab 99 123 = some (.if_icmp .le (17), 126, 140, 0) := by decide +kernel
theorem ee99_126 : fx_tab 99 126 = some (.aload_n 0, 127, 0, 0) := by decide +kernel
theorem ee99_127 : fx_tab 99 127 = some (.iload 4, 129, 4, 0) := by decide +kernel
theorem ee99_129 : fx_tab 99 129 = some (.invokevirtual 192, 132, 40, 354) := by decide +kernel
theorem ee99_132 : fx_tab 99 132 = some (.iconst (1), 133, 0, 0) := by decide +kernel
theorem ee99_133 : fx_tab 99 133 = some (.if_icmp .le (7), 136, 140, 0) := by decide +kernel
theorem ee99_136 : fx_tab 99 136 = some (.iconst (1), 137, 0, 0) := by decide +kernel
theorem ee99_137 : fx_tab 99 137 = some (.goto (4), 140, 141, 0) := by decide +kernel
theorem ee99_140 : fx_tab 99 140 = some (.iconst (0), 141, 0, 0) := by decide +kernel
theorem ee99_141 : fx_tab 99 141 = some (.istore 6, 143, 6, 0) := by decide +kernel
theorem ee99_143 : fx_tab 99 143 = some (.iload 6, 145, 6, 0) := by decide +kernel
theorem ee99_145 : fx_tab 99 145 = some (.ifCond .eq (5), 148, 150, 0) := by decide +kernel
theorem ee99_148 : fx_tab 99 148 = some (.iconst (1), 149, 0, 0) := by decide +kernel
theorem ee99_149 : fx_tab 99 149 = some (.ireturn, 150, 0, 0) := by decide +kernel
theorem ee99_150 : fx_tab 99 150 = some (.aload_n 0, 151, 0, 0) := by decide +kernel
theorem ee99_151 : fx_tab 99 151 = some (.getfield 7, 154, 775, 71) := by decide +kernel
theorem ee99_154 : fx_tab 99 154 = some (.iconst (4), 155, 0, 0) := by decide +kernel
theorem ee99_155 : fx_tab 99 155 = some (.iload_n 1, 156, 1, 0) := by decide +kernel
theorem ee99_156 : fx_tab 99 156 = some (.imul, 157, 0, 0) := by decide +kernel
theorem ee99_157 : fx_tab 99 157 = some (.iload_n 2, 158, 2, 0) := by decide +kernel
theorem ee99_158 : fx_tab 99 158 = some (.iadd, 159, 0, 0) := by decide +kernel
theorem ee99_159 : fx_tab 99 159 = some (.iload_n 3, 160, 3, 0) := by decide +kernel
theorem ee99_160 : fx_tab 99 160 = some (.bastore, 161, 0, 0) := by decide +kernel
theorem ee99_161 : fx_tab 99 161 = some (.aload_n 0, 162, 0, 0) := by decide +kernel
theorem ee99_162 : fx_tab 99 162 = some (.getfield 7, 165, 775, 71) := by decide +kernel
theorem ee99_165 : fx_tab 99 165 = some (.iconst (4), 166, 0, 0) := by decide +kernel
theorem ee99_166 : fx_tab 99 166 = some (.iload 4, 168, 4, 0) := by decide +kernel
theorem ee99_168 : fx_tab 99 168 = some (.imul, 169, 0, 0) := by decide +kernel
theorem ee99_169 : fx_tab 99 169 = some (.iload 5, 171, 5, 0) := by decide +kernel
theorem ee99_171 : fx_tab 99 171 = some (.iadd, 172, 0, 0) := by decide +kernel
theorem ee99_172 : fx_tab 99 172 = some (.iload_n 3, 173, 3, 0) := by decide +kernel
theorem ee99_173 : fx_tab 99 173 = some (.bastore, 174, 0, 0) := by decide +kernel
theorem ee99_174 : fx_tab 99 174 = some (.aload_n 0, 175, 0, 0) := by decide +kernel
theorem ee99_175 : fx_tab 99 175 = some (.invokevirtual 170, 178, 77, 353) := by decide +kernel
theorem ee99_178 : fx_tab 99 178 = some (.istore 6, 180, 6, 0) := by decide +kernel
theorem ee99_180 : fx_tab 99 180 = some (.iconst (0), 181, 0, 0) := by decide +kernel
theorem ee99_181 : fx_tab 99 181 = some (.ireturn, 182, 0, 0) := by decide +kernel
theorem ee100_0 : fx_tab 100 0 = some (.aload_n 0, 1, 0, 0) := by decide +kernel
theorem ee100_1 : fx_tab 100 1 = some (.getfield 17, 4, 779, 70) := by decide +kernel
theorem ee100_4 : fx_tab 100 4 = some (.iload_n 1, 5, 1, 0) := by decide +kernel
theorem ee100_5 : fx_tab 100 5 = some (.iaload, 6, 0, 0) := by decide +kernel
theorem ee100_6 : fx_tab 100 6 = some (.istore_n 2, 7, 2, 0) := by decide +kernel
theorem ee100_7 : fx_tab 100 7 = some (.bipush (8), 9, 0, 0) := by decide +kernel
theorem ee100_9 : fx_tab 100 9 = some (.aload_n 0, 10, 0, 0) := by decide +kernel
theorem ee100_10 : fx_tab 100 10 = some (.getfield 23, 13, 781, 70) := by decide +kernel
theorem ee100_13 : fx_tab 100 13 = some (.iload_n 1, 14, 1, 0) := by decide +kernel
theorem ee100_14 : fx_tab 100 14 = some (.iaload, 15, 0, 0) := by decide +kernel
theorem ee100_15 : fx_tab 100 15 = some (.imul, 16, 0, 0) := by decide +kernel
theorem ee100_16 : fx_tab 100 16 = some (.aload_n 0, 17, 0, 0) := by decide +kernel
theorem ee100_17 : fx_tab 100 17 = some (.getfield 26, 20, 782, 70) := by decide +kernel
theorem ee100_20 : fx_tab 100 20 = some (.iload_n 1, 21, 1, 0) := by decide +kernel
theorem ee100_21 : fx_tab 100 21 = some (.iaload, 22, 0, 0) := by decide +kernel
theorem ee100_22 : fx_tab 100 22 = some (.iadd, 23, 0, 0) := by decide +kernel
theorem ee100_23 : fx_tab 100 23 = some (.istore_n 3, 24, 3, 0) := by decide +kernel
theorem ee100_24 : fx_tab 100 24 = some (.aload_n 0, 25, 0, 0) := by decide +kernel
theorem ee100_25 : fx_tab 100 25 = some (.getfield 35, 28, 785, 70) := by decide +kernel
theorem ee100_28 : fx_tab 100 28 = some (.iload_n 1, 29, 1, 0) := by decide +kernel
theorem ee100_29 : fx_tab 100 29 = some (.iaload, 30, 0, 0) := by decide +kernel
theorem ee100_30 : fx_tab 100 30 = some (.istore 4, 32, 4, 0) := by decide +kernel
theorem ee100_32 : fx_tab 100 32 = some (.iconst (1), 33, 0, 0) := by decide +kernel
theorem ee100_33 : fx_tab 100 33 = some (.aload_n 0, 34, 0, 0) := by decide +kernel
theorem ee100_34 : fx_tab 100 34 = some (.getfield 29, 37, 783, 70) := by decide +kernel
theorem ee100_37 : fx_tab 100 37 = some (.iload_n 1, 38, 1, 0) := by decide +kernel
theorem ee100_38 : fx_tab 100 38 = some (.iaload, 39, 0, 0) := by decide +kernel
theorem ee100_39 : fx_tab 100 39 = some (.ishl, 40, 0, 0) := by decide +kernel
theorem ee100_40 : fx_tab 100 40 = some (.istore 5, 42, 5, 0) := by decide +kernel
theorem ee100_42 : fx_tab 100 42 = some (.aload_n 0, 43, 0, 0) := by decide +kernel
theorem ee100_43 : fx_tab 100 43 = some (.iload_n 1, 44, 1, 0) := by decide +kernel
theorem ee100_44 : fx_tab 100 44 = some (.invokevirtual 209, 47, 42, 354) := by decide +kernel
theorem ee100_47 : fx_tab 100 47 = some (.aload_n 0, 48, 0, 0) := by decide +kernel
theorem ee100_48 : fx_tab 100 48 = some (.dup, 49, 0, 0) := by decide +kernel
theorem ee100_49 : fx_tab 100 49 = some (.getfield 164, 52, 817, 0) := by decide +kernel
theorem ee100_52 : fx_tab 100 52 = some (.iconst (1), 53, 0, 0) := by decide +kernel
theorem ee100_53 : fx_tab 100 53 = some (.iadd, 54, 0, 0) := by decide +kernel
theorem ee100_54 : fx_tab 100 54 = some (.putfield 164, 57, 817, 0) := by decide +kernel
theorem ee100_57 : fx_tab 100 57 = some (.aload_n 0, 58, 0, 0) := by decide +kernel
theorem ee100_58 : fx_tab 100 58 = some (.iload_n 2, 59, 2, 0) := by decide +kernel
theorem ee100_59 : fx_tab 100 59 = some (.iload_n 3, 60, 3, 0) := by decide +kernel
theorem ee100_60 : fx_tab 100 60 = some (.iload 4, 62, 4, 0) := by decide +kernel
theorem ee100_62 : fx_tab 100 62 = some (.invokevirtual 213, 65, 41, 356) := by decide +kernel
theorem ee100_65 : fx_tab 100 65 = some (.istore 6, 67, 6, 0) := by decide +kernel
theorem ee100_67 : fx_tab 100 67 = some (.iload 6, 69, 6, 0) := by decide +kernel
theorem ee100_69 : fx_tab 100 69 = some (.iconst (-1), 70, 0, 0) := by decide +kernel
theorem ee100_70 : fx_tab 100 70 = some (.if_icmp .ne (58), 73, 128, 0) := by decide +kernel
theorem ee100_73 : fx_tab 100 73 = some (.iload 4, 75, 4, 0) := by decide +kernel
theorem ee100_75 : fx_tab 100 75 = some (.iconst (1), 76, 0, 0) := by decide +kernel
theorem ee100_76 : fx_tab 100 76 = some (.if_icmp .ne (52), 79, 128, 0) := by decide +kernel
theorem ee100_79 : fx_tab 100 79 = some (.aload_n 0, 80, 0, 0) := by decide +kernel
theorem ee100_80 : fx_tab 100 80 = some (.getfield 68, 83, 796, 71) := by decide +kernel
theorem ee100_83 : fx_tab 100 83 = some (.iload_n 3, 84, 3, 0) := by decide +kernel
theorem ee100_84 : fx_tab 100 84 = some (.baload, 85, 0, 0) := by decide +kernel
theorem ee100_85 : fx_tab 100 85 = some (.ifCond .ne (43), 88, 128, 0) := by decide +kernel
theorem ee100_88 : fx_tab 100 88 = some (.aload_n 0, 89, 0, 0) := by decide +kernel
theorem ee100_89 : fx_tab 100 89 = some (.iload_n 2, 90, 2, 0) := by decide +kernel
theorem ee100_90 : fx_tab 100 90 = some (.invokevirtual 206, 93, 26, 354) := by decide +kernel
theorem ee100_93 : fx_tab 100 93 = some (.iconst (-1), 94, 0, 0) := by decide +kernel
theorem ee100_94 : fx_tab 100 94 = some (.if_icmp .eq (34), 97, 128, 0) := by decide +kernel
theorem ee100_97 : fx_tab 100 97 = some (.aload_n 0, 98, 0, 0) := by decide +kernel
theorem ee100_98 : fx_tab 100 98 = some (.iload_n 2, 99, 2, 0) := by decide +kernel
theorem ee100_99 : fx_tab 100 99 = some (.invokevirtual 206, 102, 26, 354) := by decide +kernel
theorem ee100_102 : fx_tab 100 102 = some (.istore 6, 104, 6, 0) := by decide +kernel
theorem ee100_104 : fx_tab 100 104 = some (.aload_n 0, 105, 0, 0) := by decide +kernel
theorem ee100_105 : fx_tab 100 105 = some (.getfield 77, 108, 799, 70) := by decide +kernel
theorem ee100_108 : fx_tab 100 108 = some (.iload 6, 110, 6, 0) := by decide +kernel
theorem ee100_110 : fx_tab 100 110 = some (.iload_n 3, 111, 3, 0) := by decide +kernel
theorem ee100_111 : fx_tab 100 111 = some (.iastore, 112, 0, 0) := by decide +kernel
theorem ee100_112 : fx_tab 100 112 = some (.aload_n 0, 113, 0, 0) := by decide +kernel
theorem ee100_113 : fx_tab 100 113 = some (.getfield 80, 116, 800, 70) := by decide +kernel
theorem ee100_116 : fx_tab 100 116 = some (.iload 6, 118, 6, 0) := by decide +kernel
theorem ee100_118 : fx_tab 100 118 = some (.iconst (1), 119, 0, 0) := by decide +kernel
theorem ee100_119 : fx_tab 100 119 = some (.iastore, 120, 0, 0) := by decide +kernel
theorem ee100_120 : fx_tab 100 120 = some (.aload_n 0, 121, 0, 0) := by decide +kernel
theorem ee100_121 : fx_tab 100 121 = some (.getfield 83, 124, 801, 70) := by decide +kernel
theorem ee100_124 : fx_tab 100 124 = some (.iload 6, 126, 6, 0) := by decide +kernel
theorem ee100_126 : fx_tab 100 126 = some (.iconst (0), 127, 0, 0) := by decide +kernel
theorem ee100_127 : fx_tab 100 127 = some (.iastore, 128, 0, 0) := by decide +kernel
theorem ee100_128 : fx_tab 100 128 = some (.iload 6, 130, 6, 0) := by decide +kernel
theorem ee100_130 : fx_tab 100 130 = some (.iconst (-1), 131, 0, 0) := by decide +kernel
theorem ee100_131 : fx_tab 100 131 = some (.if_icmp .eq (23), 134, 154, 0) := by decide +kernel
theorem ee100_134 : fx_tab 100 134 = some (.aload_n 0, 135, 0, 0) := by decide +kernel
theorem ee100_135 : fx_tab 100 135 = some (.getfield 83, 138, 801, 70) := by decide +kernel
theorem ee100_138 : fx_tab 100 138 = some (.iload 6, 140, 6, 0) := by decide +kernel
theorem ee100_140 : fx_tab 100 140 = some (.aload_n 0, 141, 0, 0) := by decide +kernel
theorem ee100_141 : fx_tab 100 141 = some (.getfield 83, 144, 801, 70) := by decide +kernel
theorem ee100_144 : fx_tab 100 144 = some (.iload 6, 146, 6, 0) := by decide +kernel
theorem ee100_146 : fx_tab 100 146 = some (.iaload, 147, 0, 0) := by decide +kernel
theorem ee100_147 : fx_tab 100 147 = some (.iload 5, 149, 5, 0) := by decide +kernel
theorem ee100_149 : fx_tab 100 149 = some (.ior, 150, 0, 0) := by decide +kernel
theorem ee100_150 : fx_tab 100 150 = some (.iastore, 151, 0, 0) := by decide +kernel
theorem ee100_151 : fx_tab 100 151 = some (.goto (57), 154, 208, 0) := by decide +kernel
theorem ee100_154 : fx_tab 100 154 = some (.aload_n 0, 155, 0, 0) := by decide +kernel
theorem ee100_155 : fx_tab 100 155 = some (.getfield 68, 158, 796, 71) := by decide +kernel
theorem ee100_158 : fx_tab 100 158 = some (.iload_n 3, 159, 3, 0) := by decide +kernel
theorem ee100_159 : fx_tab 100 159 = some (.baload, 160, 0, 0) := by decide +kernel
theorem ee100_160 : fx_tab 100 160 = some (.ifCond .ne (48), 163, 208, 0) := by decide +kernel
theorem ee100_163 : fx_tab 100 163 = some (.aload_n 0, 164, 0, 0) := by decide +kernel
theorem ee100_164 : fx_tab 100 164 = some (.getfield 68, 167, 796, 71) := by decide +kernel
theorem ee100_167 : fx_tab 100 167 = some (.iload_n 3, 168, 3, 0) := by decide +kernel
theorem ee100_168 : fx_tab 100 168 = some (.iconst (1), 169, 0, 0) := by decide +kernel
theorem ee100_169 : fx_tab 100 169 = some (.bastore, 170, 0, 0) := by decide +kernel
theorem ee100_170 : fx_tab 100 170 = some (.aload_n 0, 171, 0, 0) := by decide +kernel
theorem ee100_171 : fx_tab 100 171 = some (.getfield 90, 174, 803, 70) := by decide +kernel
theorem ee100_174 : fx_tab 100 174 = some (.sipush (512), 177, 0, 0) := by decide +kernel
theorem ee100_177 : fx_tab 100 177 = some (.iload_n 2, 178, 2, 0) := by decide +kernel
theorem ee100_178 : fx_tab 100 178 = some (.imul, 179, 0, 0) := by decide +kernel
theorem ee100_179 : fx_tab 100 179 = some (.aload_n 0, 180, 0, 0) := by decide +kernel
theorem ee100_180 : fx_tab 100 180 = some (.getfield 86, 183, 802, 70) := by decide +kernel
theorem ee100_183 : fx_tab 100 183 = some (.iload_n 2, 184, 2, 0) := by decide +kernel
theorem ee100_184 : fx_tab 100 184 = some (.iaload, 185, 0, 0) := by decide +kernel
theorem ee100_185 : fx_tab 100 185 = some (.iadd, 186, 0, 0) := by decide +kernel
theorem ee100_186 : fx_tab 100 186 = some (.iload_n 3, 187, 3, 0) := by decide +kernel
theorem ee100_187 : fx_tab 100 187 = some (.iastore, 188, 0, 0) := by decide +kernel
theorem ee100_188 : fx_tab 100 188 = some (.aload_n 0, 189, 0, 0) := by decide +kernel
theorem ee100_189 : fx_tab 100 189 = some (.getfield 86, 192, 802, 70) := by decide +kernel
theorem ee100_192 : fx_tab 100 192 = some (.iload_n 2, 193, 2, 0) := by decide +kernel
theorem ee100_193 : fx_tab 100 193 = some (.dup2, 194, 0, 0) := by decide +kernel
theorem ee100_194 : fx_tab 100 194 = some (.iaload, 195, 0, 0) := by decide +kernel
theorem ee100_195 : fx_tab 100 195 = some (.iconst (1), 196, 0, 0) := by decide +kernel
theorem ee100_196 : fx_tab 100 196 = some (.iadd, 197, 0, 0) := by decide +kernel
theorem ee100_197 : fx_tab 100 197 = some (.iastore, 198, 0, 0) := by decide +kernel
theorem ee100_198 : fx_tab 100 198 = some (.aload_n 0, 199, 0, 0) := by decide +kernel
theorem ee100_199 : fx_tab 100 199 = some (.dup, 200, 0, 0) := by decide +kernel
theorem ee100_200 : fx_tab 100 200 = some (.getfield 167, 203, 818, 0) := by decide +kernel
theorem ee100_203 : fx_tab 100 203 = some (.iconst (1), 204, 0, 0) := by decide +kernel
theorem ee100_204 : fx_tab 100 204 = some (.iadd, 205, 0, 0) := by decide +kernel
theorem ee100_205 : fx_tab 100 205 = some (.putfield 167, 208, 818, 0) := by decide +kernel
theorem ee100_208 : fx_tab 100 208 = some (.aload_n 0, 209, 0, 0) := by decide +kernel
theorem ee100_209 : fx_tab 100 209 = some (.iload_n 2, 210, 2, 0) := by decide +kernel
theorem ee100_210 : fx_tab 100 210 = some (.invokevirtual 217, 213, 80, 354) := by decide +kernel
theorem ee100_213 : fx_tab 100 213 = some (.return_, 214, 0, 0) := by decide +kernel
theorem ee101_0 : fx_tab 101 0 = some (.aload_n 0, 1, 0, 0) := by decide +kernel
theorem ee101_1 : fx_tab 101 1 = some (.iconst (0), 2, 0, 0) := by decide +kernel
theorem ee101_2 : fx_tab 101 2 = some (.putfield 130, 5, 768, 0) := by decide +kernel
theorem ee101_5 : fx_tab 101 5 = some (.iload_n 1, 6, 1, 0) := by decide +kernel
theorem ee101_6 : fx_tab 101 6 = some (.iconst (2), 7, 0, 0) := by decide +kernel
theorem ee101_7 : fx_tab 101 7 = some (.bipush (8), 9, 0, 0) := by decide +kernel
theorem ee101_9 : fx_tab 101 9 = some (.invokestatic 134, 12, 47, 3) := by decide +kernel
theorem ee101_12 : fx_tab 101 12 = some (.ifCond .eq (23), 15, 35, 0) := by decide +kernel
theorem ee101_15 : fx_tab 101 15 = some (.iload_n 2, 16, 2, 0) := by decide +kernel
theorem ee101_16 : fx_tab 101 16 = some (.iconst (0), 17, 0, 0) := by decide +kernel
theorem ee101_17 : fx_tab 101 17 = some (.iconst (1), 18, 0, 0) := by decide +kernel
theorem ee101_18 : fx_tab 101 18 = some (.invokestatic 134, 21, 47, 3) := by decide +kernel
theorem ee101_21 : fx_tab 101 21 = some (.ifCond .eq (14), 24, 35, 0) := by decide +kernel
theorem ee101_24 : fx_tab 101 24 = some (.iload_n 3, 25, 3, 0) := by decide +kernel
theorem ee101_25 : fx_tab 101 25 = some (.iconst (1), 26, 0, 0) := by decide +kernel
theorem ee101_26 : fx_tab 101 26 = some (.sipush (1000), 29, 0, 0) := by decide +kernel
theorem ee101_29 : fx_tab 101 29 = some (.invokestatic 134, 32, 47, 3) := by decide +kernel
theorem ee101_32 : fx_tab 101 32 = some (.ifCond .ne (5), 35, 37, 0) := by decide +kernel
theorem ee101_35 : fx_tab 101 35 = some (.iconst (0), 36, 0, 0) := by decide +kernel
theorem ee101_36 : fx_tab 101 36 = some (.ireturn, 37, 0, 0) := by decide +kernel
theorem ee101_37 : fx_tab 101 37 = some (.aload_n 0, 38, 0, 0) := by decide +kernel
theorem ee101_38 : fx_tab 101 38 = some (.iload_n 1, 39, 1, 0) := by decide +kernel
theorem ee101_39 : fx_tab 101 39 = some (.putfield 137, 42, 769, 0) := by decide +kernel
theorem ee101_42 : fx_tab 101 42 = some (.aload_n 0, 43, 0, 0) := by decide +kernel
theorem ee101_43 : fx_tab 101 43 = some (.iload_n 1, 44, 1, 0) := by decide +kernel
theorem ee101_44 : fx_tab 101 44 = some (.iload_n 1, 45, 1, 0) := by decide +kernel
theorem ee101_45 : fx_tab 101 45 = some (.imul, 46, 0, 0) := by decide +kernel
theorem ee101_46 : fx_tab 101 46 = some (.putfield 140, 49, 770, 0) := by decide +kernel
theorem ee101_49 : fx_tab 101 49 = some (.aload_n 0, 50, 0, 0) := by decide +kernel
theorem ee101_50 : fx_tab 101 50 = some (.iload_n 2, 51, 2, 0) := by decide +kernel
theorem ee101_51 : fx_tab 101 51 = some (.putfield 143, 54, 771, 0) := by decide +kernel
theorem ee101_54 : fx_tab 101 54 = some (.aload_n 0, 55, 0, 0) := by decide +kernel
theorem ee101_55 : fx_tab 101 55 = some (.iload_n 3, 56, 3, 0) := by decide +kernel
theorem ee101_56 : fx_tab 101 56 = some (.putfield 146, 59, 772, 0) := by decide +kernel
theorem ee101_59 : fx_tab 101 59 = some (.aload_n 0, 60, 0, 0) := by decide +kernel
theorem ee101_60 : fx_tab 101 60 = some (.iconst (0), 61, 0, 0) := by decide +kernel
theorem ee101_61 : fx_tab 101 61 = some (.putfield 149, 64, 773, 0) := by decide +kernel
theorem ee101_64 : fx_tab 101 64 = some (.aload_n 0, 65, 0, 0) := by decide +kernel
theorem ee101_65 : fx_tab 101 65 = some (.iconst (0), 66, 0, 0) := by decide +kernel
theorem ee101_66 : fx_tab 101 66 = some (.putfield 152, 69, 774, 0) := by decide +kernel
theorem ee101_69 : fx_tab 101 69 = some (.aload_n 0, 70, 0, 0) := by decide +kernel
theorem ee101_70 : fx_tab 101 70 = some (.iconst (0), 71, 0, 0) := by decide +kernel
theorem ee101_71 : fx_tab 101 71 = some (.putfield 155, 74, 778, 0) := by decide +kernel
theorem ee101_74 : fx_tab 101 74 = some (.aload_n 0, 75, 0, 0) := by decide +kernel
theorem ee101_75 : fx_tab 101 75 = some (.iconst (0), 76, 0, 0) := by decide +kernel
theorem ee101_76 : fx_tab 101 76 = some (.putfield 158, 79, 810, 0) := by decide +kernel
theorem ee101_79 : fx_tab 101 79 = some (.aload_n 0, 80, 0, 0) := by decide +kernel
theorem ee101_80 : fx_tab 101 80 = some (.iconst (0), 81, 0, 0) := by decide +kernel
theorem ee101_81 : fx_tab 101 81 = some (.putfield 161, 84, 816, 0) := by decide +kernel
theorem ee101_84 : fx_tab 101 84 = some (.aload_n 0, 85, 0, 0) := by decide +kernel
theorem ee101_85 : fx_tab 101 85 = some (.iconst (0), 86, 0, 0) := by decide +kernel
theorem ee101_86 : fx_tab 101 86 = some (.putfield 164, 89, 817, 0) := by decide +kernel
theorem ee101_89 : fx_tab 101 89 = some (.aload_n 0, 90, 0, 0) := by decide +kernel
theorem ee101_90 : fx_tab 101 90 = some (.iconst (0), 91, 0, 0) := by decide +kernel
theorem ee101_91 : fx_tab 101 91 = some (.putfield 167, 94, 818, 0) := by decide +kernel
theorem ee101_94 : fx_tab 101 94 = some (.iconst (0), 95, 0, 0) := by decide +kernel
theorem ee101_95 : fx_tab 101 95 = some (.istore 4, 97, 4, 0) := by decide +kernel
theorem ee101_97 : fx_tab 101 97 = some (.iload 4, 99, 4, 0) := by decide +kernel
theorem ee101_99 : fx_tab 101 99 = some (.sipush (256), 102, 0, 0) := by decide +kernel
theorem ee101_102 : fx_tab 101 102 = some (.if_icmp .ge (25), 105, 127, 0) := by decide +kernel
theorem ee101_105 : fx_tab 101 105 = some (.aload_n 0, 106, 0, 0) := by decide +kernel
theorem ee101_106 : fx_tab 101 106 = some (.getfield 7, 109, 775, 71) := by decide +kernel
theorem ee101_109 : fx_tab 101 109 = some (.iload 4, 111, 4, 0) := by decide +kernel
theorem ee101_111 : fx_tab 101 111 = some (.iconst (0), 112, 0, 0) := by decide +kernel
theorem ee101_112 : fx_tab 101 112 = some (.bastore, 113, 0, 0) := by decide +kernel
theorem ee101_113 : fx_tab 101 113 = some (.aload_n 0, 114, 0, 0) := by decide +kernel
theorem ee101_114 : fx_tab 101 114 = some (.getfield 77, 117, 799, 70) := by decide +kernel
theorem ee101_117 : fx_tab 101 117 = some (.iload 4, 119, 4, 0) := by decide +kernel
theorem ee101_119 : fx_tab 101 119 = some (.iconst (-1), 120, 0, 0) := by decide +kernel
theorem ee101_120 : fx_tab 101 120 = some (.iastore, 121, 0, 0) := by decide +kernel
theorem ee101_121 : fx_tab 101 121 = some (.iinc 4 (1), 124, 4, 0) := by decide +kernel
theorem ee101_124 : fx_tab 101 124 = some (.goto (-27), 127, 97, 0) := by decide +kernel
theorem ee101_127 : fx_tab 101 127 = some (.iconst (0), 128, 0, 0) := by decide +kernel
theorem ee101_128 : fx_tab 101 128 = some (.istore 4, 130, 4, 0) := by decide +kernel
theorem ee101_130 : fx_tab 101 130 = some (.iload 4, 132, 4, 0) := by decide +kernel
theorem ee101_132 : fx_tab 101 132 = some (.sipush (512), 135, 0, 0) := by decide +kernel
theorem ee101_135 : fx_tab 101 135 = some (.if_icmp .ge (17), 138, 152, 0) := by decide +kernel
theorem ee101_138 : fx_tab 101 138 = some (.aload_n 0, 139, 0, 0) := by decide +kernel
theorem ee101_139 : fx_tab 101 139 = some (.getfield 56, 142, 792, 70) := by decide +kernel
theorem ee101_142 : fx_tab 101 142 = some (.iload 4, 144, 4, 0) := by decide +kernel
theorem ee101_144 : fx_tab 101 144 = some (.iconst (0), 145, 0, 0) := by decide +kernel
theorem ee101_145 : fx_tab 101 145 = some (.iastore, 146, 0, 0) := by decide +kernel
theorem ee101_146 : fx_tab 101 146 = some (.iinc 4 (1), 149, 4, 0) := by decide +kernel
theorem ee101_149 : fx_tab 101 149 = some (.goto (-19), 152, 130, 0) := by decide +kernel
theorem ee101_152 : fx_tab 101 152 = some (.iconst (0), 153, 0, 0) := by decide +kernel
theorem ee101_153 : fx_tab 101 153 = some (.istore 4, 155, 4, 0) := by decide +kernel
theorem ee101_155 : fx_tab 101 155 = some (.iload 4, 157, 4, 0) := by decide +kernel
theorem ee101_157 : fx_tab 101 157 = some (.bipush (64), 159, 0, 0) := by decide +kernel
theorem ee101_159 : fx_tab 101 159 = some (.if_icmp .ge (91), 162, 250, 0) := by decide +kernel
theorem ee101_162 : fx_tab 101 162 = some (.aload_n 0, 163, 0, 0) := by decide +kernel
theorem ee101_163 : fx_tab 101 163 = some (.getfield 41, 166, 787, 70) := by decide +kernel
theorem ee101_166 : fx_tab 101 166 = some (.iload 4, 168, 4, 0) := by decide +kernel
theorem ee101_168 : fx_tab 101 168 = some (.iconst (0), 169, 0, 0) := by decide +kernel
theorem ee101_169 : fx_tab 101 169 = some (.iastore, 170, 0, 0) := by decide +kernel
theorem ee101_170 : fx_tab 101 170 = some (.aload_n 0, 171, 0, 0) := by decide +kernel
theorem ee101_171 : fx_tab 101 171 = some (.getfield 71, 174, 797, 70) := by decide +kernel
theorem ee101_174 : fx_tab 101 174 = some (.iload 4, 176, 4, 0) := by decide +kernel
theorem ee101_176 : fx_tab 101 176 = some (.iconst (0), 177, 0, 0) := by decide +kernel
theorem ee101_177 : fx_tab 101 177 = some (.iastore, 178, 0, 0) := by decide +kernel
theorem ee101_178 : fx_tab 101 178 = some (.aload_n 0, 179, 0, 0) := by decide +kernel
theorem ee101_179 : fx_tab 101 179 = some (.getfield 86, 182, 802, 70) := by decide +kernel
theorem ee101_182 : fx_tab 101 182 = some (.iload 4, 184, 4, 0) := by decide +kernel
theorem ee101_184 : fx_tab 101 184 = some (.iconst (0), 185, 0, 0) := by decide +kernel
theorem ee101_185 : fx_tab 101 185 = some (.iastore, 186, 0, 0) := by decide +kernel
theorem ee101_186 : fx_tab 101 186 = some (.aload_n 0, 187, 0, 0) := by decide +kernel
theorem ee101_187 : fx_tab 101 187 = some (.getfield 93, 190, 804, 70) := by decide +kernel
theorem ee101_190 : fx_tab 101 190 = some (.iload 4, 192, 4, 0) := by decide +kernel
theorem ee101_192 : fx_tab 101 192 = some (.iconst (0), 193, 0, 0) := by decide +kernel
theorem ee101_193 : fx_tab 101 193 = some (.iastore, 194, 0, 0) := by decide +kernel
theorem ee101_194 : fx_tab 101 194 = some (.aload_n 0, 195, 0, 0) := by decide +kernel
theorem ee101_195 : fx_tab 101 195 = some (.getfield 120, 198, 814, 70) := by decide +kernel
theorem ee101_198 : fx_tab 101 198 = some (.iload 4, 200, 4, 0) := by decide +kernel
theorem ee101_200 : fx_tab 101 200 = some (.iconst (0), 201, 0, 0) := by decide +kernel
theorem ee101_201 : fx_tab 101 201 = some (.iastore, 202, 0, 0) := by decide +kernel
theorem ee101_202 : fx_tab 101 202 = some (.aload_n 0, 203, 0, 0) := by decide +kernel
theorem ee101_203 : fx_tab 101 203 = some (.getfield 123, 206, 815, 70) := by decide +kernel
theorem ee101_206 : fx_tab 101 206 = some (.iload 4, 208, 4, 0) := by decide +kernel
theorem ee101_208 : fx_tab 101 208 = some (.iconst (0), 209, 0, 0) := by decide +kernel
theorem ee101_209 : fx_tab 101 209 = some (.iastore, 210, 0, 0) := by decide +kernel
theorem ee101_210 : fx_tab 101 210 = some (.aload_n 0, 211, 0, 0) := by decide +kernel
theorem ee101_211 : fx_tab 101 211 = some (.getfield 108, 214, 809, 70) := by decide +kernel
theorem ee101_214 : fx_tab 101 214 = some (.iconst (3), 215, 0, 0) := by decide +kernel
theorem ee101_215 : fx_tab 101 215 = some (.iload 4, 217, 4, 0) := by decide +kernel
theorem ee101_217 : fx_tab 101 217 = some (.imul, 218, 0, 0) := by decide +kernel
theorem ee101_218 : fx_tab 101 218 = some (.iconst (-1), 219, 0, 0) := by decide +kernel
theorem ee101_219 : fx_tab 101 219 = some (.iastore, 220, 0, 0) := by decide +kernel
theorem ee101_220 : fx_tab 101 220 = some (.aload_n 0, 221, 0, 0) := by decide +kernel
theorem ee101_221 : fx_tab 101 221 = some (.getfield 108, 224, 809, 70) := by decide +kernel
theorem ee101_224 : fx_tab 101 224 = some (.iconst (3), 225, 0, 0) := by decide +kernel
theorem ee101_225 : fx_tab 101 225 = some (.iload 4, 227, 4, 0) := by decide +kernel
theorem ee101_227 : fx_tab 101 227 = some (.imul, 228, 0, 0) := by decide +kernel
theorem ee101_228 : fx_tab 101 228 = some (.iconst (1), 229, 0, 0) := by decide +kernel
theorem ee101_229 : fx_tab 101 229 = some (.iadd, 230, 0, 0) := by decide +kernel
theorem ee101_230 : fx_tab 101 230 = some (.iconst (-1), 231, 0, 0) := by decide +kernel
theorem ee101_231 : fx_tab 101 231 = some (.iastore, 232, 0, 0) := by decide +kernel
theorem ee101_232 : fx_tab 101 232 = some (.aload_n 0, 233, 0, 0) := by decide +kernel
theorem ee101_233 : fx_tab 101 233 = some (.getfield 108, 236, 809, 70) := by decide +kernel
theorem ee101_236 : fx_tab 101 236 = some (.iconst (3), 237, 0, 0) := by decide +kernel
theorem ee101_237 : fx_tab 101 237 = some (.iload 4, 239, 4, 0) := by decide +kernel
theorem ee101_239 : fx_tab 101 239 = some (.imul, 240, 0, 0) := by decide +kernel
theorem ee101_240 : fx_tab 101 240 = some (.iconst (2), 241, 0, 0) := by decide +kernel
theorem ee101_241 : fx_tab 101 241 = some (.iadd, 242, 0, 0) := by decide +kernel
theorem ee101_242 : fx_tab 101 242 = some (.iconst (-1), 243, 0, 0) := by decide +kernel
theorem ee101_243 : fx_tab 101 243 = some (.iastore, 244, 0, 0) := by decide +kernel
theorem ee101_244 : fx_tab 101 244 = some (.iinc 4 (1), 247, 4, 0) := by decide +kernel
theorem ee101_247 : fx_tab 101 247 = some (.goto (-92), 250, 155, 0) := by decide +kernel
theorem ee101_250 : fx_tab 101 250 = some (.aload_n 0, 251, 0, 0) := by decide +kernel
theorem ee101_251 : fx_tab 101 251 = some (.invokevirtual 170, 254, 77, 353) := by decide +kernel
theorem ee101_254 : fx_tab 101 254 = some (.pop, 255, 0, 0) := by decide +kernel
theorem ee101_255 : fx_tab 101 255 = some (.iconst (1), 256, 0, 0) := by decide +kernel
theorem ee101_256 : fx_tab 101 256 = some (.ireturn, 257, 0, 0) := by decide +kernel
theorem ee102_0 : fx_tab 102 0 = some (.aload_n 0, 1, 0, 0) := by decide +kernel
theorem ee102_1 : fx_tab 102 1 = some (.aload_n 0, 2, 0, 0) := by decide +kernel
theorem ee102_2 : fx_tab 102 2 = some (.iload_n 1, 3, 1, 0) := by decide +kernel
theorem ee102_3 : fx_tab 102 3 = some (.invokevirtual 185, 6, 34, 354) := by decide +kernel
theorem ee102_6 : fx_tab 102 6 = some (.ifCond .ne (7), 9, 13, 0) := by decide +kernel
theorem ee102_9 : fx_tab 102 9 = some (.iconst (1), 10, 0, 0) := by decide +kernel
theorem ee102_10 : fx_tab 102 10 = some (.goto (17), 13, 27, 0) := by decide +kernel
theorem ee102_13 : fx_tab 102 13 = some (.aload_n 0, 14, 0, 0) := by decide +kernel
theorem ee102_14 : fx_tab 102 14 = some (.getfield 93, 17, 804, 70) := by decide +kernel
theorem ee102_17 : fx_tab 102 17 = some (.iload_n 1, 18, 1, 0) := by decide +kernel
theorem ee102_18 : fx_tab 102 18 = some (.iaload, 19, 0, 0) := by decide +kernel
theorem ee102_19 : fx_tab 102 19 = some (.ifCond .ne (7), 22, 26, 0) := by decide +kernel
theorem ee102_22 : fx_tab 102 22 = some (.iconst (2), 23, 0, 0) := by decide +kernel
theorem ee102_23 : fx_tab 102 23 = some (.goto (4), 26, 27, 0) := by decide +kernel
theorem ee102_26 : fx_tab 102 26 = some (.iconst (0), 27, 0, 0) := by decide +kernel
theorem ee102_27 : fx_tab 102 27 = some (.putfield 130, 30, 768, 0) := by decide +kernel
theorem ee102_30 : fx_tab 102 30 = some (.aload_n 0, 31, 0, 0) := by decide +kernel
theorem ee102_31 : fx_tab 102 31 = some (.getfield 130, 34, 768, 0) := by decide +kernel
theorem ee102_34 : fx_tab 102 34 = some (.ifCond .eq (5), 37, 39, 0) := by decide +kernel
theorem ee102_37 : fx_tab 102 37 = some (.iconst (0), 38, 0, 0) := by decide +kernel
theorem ee102_38 : fx_tab 102 38 = some (.ireturn, 39, 0, 0) := by decide +kernel
theorem ee102_39 : fx_tab 102 39 = some (.aload_n 0, 40, 0, 0) := by decide +kernel
theorem ee102_40 : fx_tab 102 40 = some (.getfield 96, 43, 805, 70) := by decide +kernel
theorem ee102_43 : fx_tab 102 43 = some (.iconst (4), 44, 0, 0) := by decide +kernel
theorem ee102_44 : fx_tab 102 44 = some (.iload_n 1, 45, 1, 0) := by decide +kernel
theorem ee102_45 : fx_tab 102 45 = some (.imul, 46, 0, 0) := by decide +kernel
theorem ee102_46 : fx_tab 102 46 = some (.iaload, 47, 0, 0) := by decide +kernel
theorem ee102_47 : fx_tab 102 47 = some (.istore_n 2, 48, 2, 0) := by decide +kernel
theorem ee102_48 : fx_tab 102 48 = some (.aload_n 0, 49, 0, 0) := by decide +kernel
theorem ee102_49 : fx_tab 102 49 = some (.getfield 108, 52, 809, 70) := by decide +kernel
theorem ee102_52 : fx_tab 102 52 = some (.iconst (3), 53, 0, 0) := by decide +kernel
theorem ee102_53 : fx_tab 102 53 = some (.iload_n 1, 54, 1, 0) := by decide +kernel
theorem ee102_54 : fx_tab 102 54 = some (.imul, 55, 0, 0) := by decide +kernel
theorem ee102_55 : fx_tab 102 55 = some (.aload_n 0, 56, 0, 0) := by decide +kernel
theorem ee102_56 : fx_tab 102 56 = some (.getfield 99, 59, 806, 70) := by decide +kernel
theorem ee102_59 : fx_tab 102 59 = some (.iconst (4), 60, 0, 0) := by decide +kernel
theorem ee102_60 : fx_tab 102 60 = some (.iload_n 1, 61, 1, 0) := by decide +kernel
theorem ee102_61 : fx_tab 102 61 = some (.imul, 62, 0, 0) := by decide +kernel
theorem ee102_62 : fx_tab 102 62 = some (.iaload, 63, 0, 0) := by decide +kernel
theorem ee102_63 : fx_tab 102 63 = some (.iastore, 64, 0, 0) := by decide +kernel
theorem ee102_64 : fx_tab 102 64 = some (.aload_n 0, 65, 0, 0) := by decide +kernel
theorem ee102_65 : fx_tab 102 65 = some (.getfield 108, 68, 809, 70) := by decide +kernel
theorem ee102_68 : fx_tab 102 68 = some (.iconst (3), 69, 0, 0) := by decide +kernel
theorem ee102_69 : fx_tab 102 69 = some (.iload_n 1, 70, 1, 0) := by decide +kernel
theorem ee102_70 : fx_tab 102 70 = some (.imul, 71, 0, 0) := by decide +kernel
theorem ee102_71 : fx_tab 102 71 = some (.iconst (1), 72, 0, 0) := by decide +kernel
theorem ee102_72 : fx_tab 102 72 = some (.iadd, 73, 0, 0) := by decide +kernel
theorem ee102_73 : fx_tab 102 73 = some (.aload_n 0, 74, 0, 0) := by decide +kernel
theorem ee102_74 : fx_tab 102 74 = some (.getfield 102, 77, 807, 70) := by decide +kernel
theorem ee102_77 : fx_tab 102 77 = some (.iconst (4), 78, 0, 0) := by decide +kernel
theorem ee102_78 : fx_tab 102 78 = some (.iload_n 1, 79, 1, 0) := by decide +kernel
theorem ee102_79 : fx_tab 102 79 = some (.imul, 80, 0, 0) := by decide +kernel
theorem ee102_80 : fx_tab 102 80 = some (.iaload, 81, 0, 0) := by decide +kernel
theorem ee102_81 : fx_tab 102 81 = some (.iastore, 82, 0, 0) := by decide +kernel
theorem ee102_82 : fx_tab 102 82 = some (.aload_n 0, 83, 0, 0) := by decide +kernel
theorem ee102_83 : fx_tab 102 83 = some (.getfield 108, 86, 809, 70) := by decide +kernel
theorem ee102_86 : fx_tab 102 86 = some (.iconst (3), 87, 0, 0) := by decide +kernel
theorem ee102_87 : fx_tab 102 87 = some (.iload_n 1, 88, 1, 0) := by decide +kernel
theorem ee102_88 : fx_tab 102 88 = some (.imul, 89, 0, 0) := by decide +kernel
theorem ee102_89 : fx_tab 102 89 = some (.iconst (2), 90, 0, 0) := by decide +kernel
theorem ee102_90 : fx_tab 102 90 = some (.iadd, 91, 0, 0) := by decide +kernel
theorem ee102_91 : fx_tab 102 91 = some (.aload_n 0, 92, 0, 0) := by decide +kernel
theorem ee102_92 : fx_tab 102 92 = some (.getfield 105, 95, 808, 70) := by decide +kernel
theorem ee102_95 : fx_tab 102 95 = some (.iconst (4), 96, 0, 0) := by decide +kernel
theorem ee102_96 : fx_tab 102 96 = some (.iload_n 1, 97, 1, 0) := by decide +kernel
theorem ee102_97 : fx_tab 102 97 = some (.imul, 98, 0, 0) := by decide +kernel
theorem ee102_98 : fx_tab 102 98 = some (.iaload, 99, 0, 0) := by decide +kernel
theorem ee102_99 : fx_tab 102 99 = some (.iastore, 100, 0, 0) := by decide +kernel
theorem ee102_100 : fx_tab 102 100 = some (.aload_n 0, 101, 0, 0) := by decide +kernel
theorem ee102_101 : fx_tab 102 101 = some (.getfield 93, 104, 804, 70) := by decide +kernel
theorem ee102_104 : fx_tab 102 104 = some (.iload_n 1, 105, 1, 0) := by decide +kernel
theorem ee102_105 : fx_tab 102 105 = some (.dup2, 106, 0, 0) := by decide +kernel
theorem ee102_106 : fx_tab 102 106 = some (.iaload, 107, 0, 0) := by decide +kernel
theorem ee102_107 : fx_tab 102 107 = some (.iconst (1), 108, 0, 0) := by decide +kernel
theorem ee102_108 : fx_tab 102 108 = some (.isub, 109, 0, 0) := by decide +kernel
theorem ee102_109 : fx_tab 102 109 = some (.iastore, 110, 0, 0) := by decide +kernel
theorem ee102_110 : fx_tab 102 110 = some (.iconst (4), 111, 0, 0) := by decide +kernel
theorem ee102_111 : fx_tab 102 111 = some (.iload_n 1, 112, 1, 0) := by decide +kernel
theorem ee102_112 : fx_tab 102 112 = some (.imul, 113, 0, 0) := by decide +kernel
theorem ee102_113 : fx_tab 102 113 = some (.istore_n 3, 114, 3, 0) := by decide +kernel
theorem ee102_114 : fx_tab 102 114 = some (.iload_n 3, 115, 3, 0) := by decide +kernel
theorem ee102_115 : fx_tab 102 115 = some (.iconst (4), 116, 0, 0) := by decide +kernel
theorem ee102_116 : fx_tab 102 116 = some (.iload_n 1, 117, 1, 0) := by decide +kernel
theorem ee102_117 : fx_tab 102 117 = some (.imul, 118, 0, 0) := by decide +kernel
theorem ee102_118 : fx_tab 102 118 = some (.aload_n 0, 119, 0, 0) := by decide +kernel
theorem ee102_119 : fx_tab 102 119 = some (.getfield 93, 122, 804, 70) := by decide +kernel
theorem ee102_122 : fx_tab 102 122 = some (.iload_n 1, 123, 1, 0) := by decide +kernel
theorem ee102_123 : fx_tab 102 123 = some (.iaload, 124, 0, 0) := by decide +kernel
theorem ee102_124 : fx_tab 102 124 = some (.iadd, 125, 0, 0) := by decide +kernel
theorem ee102_125 : fx_tab 102 125 = some (.if_icmp .ge (65), 128, 190, 0) := by decide +kernel
theorem ee102_128 : fx_tab 102 128 = some (.aload_n 0, 129, 0, 0) := by decide +kernel
theorem ee102_129 : fx_tab 102 129 = some (.getfield 96, 132, 805, 70) := by decide +kernel
theorem ee102_132 : fx_tab 102 132 = some (.iload_n 3, 133, 3, 0) := by decide +kernel
theorem ee102_133 : fx_tab 102 133 = some (.aload_n 0, 134, 0, 0) := by decide +kernel
theorem ee102_134 : fx_tab 102 134 = some (.getfield 96, 137, 805, 70) := by decide +kernel
theorem ee102_137 : fx_tab 102 137 = some (.iload_n 3, 138, 3, 0) := by decide +kernel
theorem ee102_138 : fx_tab 102 138 = some (.iconst (1), 139, 0, 0) := by decide +kernel
theorem ee102_139 : fx_tab 102 139 = some (.iadd, 140, 0, 0) := by decide +kernel
theorem ee102_140 : fx_tab 102 140 = some (.iaload, 141, 0, 0) := by decide +kernel
theorem ee102_141 : fx_tab 102 141 = some (.iastore, 142, 0, 0) := by decide +kernel
theorem ee102_142 : fx_tab 102 142 = some (.aload_n 0, 143, 0, 0) := by decide +kernel
theorem ee102_143 : fx_tab 102 143 = some (.getfield 99, 146, 806, 70) := by decide +kernel
theorem ee102_146 : fx_tab 102 146 = some (.iload_n 3, 147, 3, 0) := by decide +kernel
theorem ee102_147 : fx_tab 102 147 = some (.aload_n 0, 148, 0, 0) := by decide +kernel
theorem ee102_148 : fx_tab 102 148 = some (.getfield 99, 151, 806, 70) := by decide +kernel
theorem ee102_151 : fx_tab 102 151 = some (.iload_n 3, 152, 3, 0) := by decide +kernel
theorem ee102_152 : fx_tab 102 152 = some (.iconst (1), 153, 0, 0) := by decide +kernel
theorem ee102_153 : fx_tab 102 153 = some (.iadd, 154, 0, 0) := by decide +kernel
theorem ee102_154 : fx_tab 102 154 = some (.iaload, 155, 0, 0) := by decide +kernel
theorem ee102_155 : fx_tab 102 155 = some (.iastore, 156, 0, 0) := by decide +kernel
theorem ee102_156 : fx_tab 102 156 = some (.aload_n 0, 157, 0, 0) := by decide +kernel
theorem ee102_157 : fx_tab 102 157 = some (.getfield 102, 160, 807, 70) := by decide +kernel
theorem ee102_160 : fx_tab 102 160 = some (.iload_n 3, 161, 3, 0) := by decide +kernel
theorem ee102_161 : fx_tab 102 161 = some (.aload_n 0, 162, 0, 0) := by decide +kernel
theorem ee102_162 : fx_tab 102 162 = some (.getfield 102, 165, 807, 70) := by decide +kernel
theorem ee102_165 : fx_tab 102 165 = some (.iload_n 3, 166, 3, 0) := by decide +kernel
theorem ee102_166 : fx_tab 102 166 = some (.iconst (1), 167, 0, 0) := by decide +kernel
theorem ee102_167 : fx_tab 102 167 = some (.iadd, 168, 0, 0) := by decide +kernel
theorem ee102_168 : fx_tab 102 168 = some (.iaload, 169, 0, 0) := by decide +kernel
theorem ee102_169 : fx_tab 102 169 = some (.iastore, 170, 0, 0) := by decide +kernel
theorem ee102_170 : fx_tab 102 170 = some (.aload_n 0, 171, 0, 0) := by decide +kernel
theorem ee102_171 : fx_tab 102 171 = some (.getfield 105, 174, 808, 70) := by decide +kernel
theorem ee102_174 : fx_tab 102 174 = some (.iload_n 3, 175, 3, 0) := by decide +kernel
theorem ee102_175 : fx_tab 102 175 = some (.aload_n 0, 176, 0, 0) := by decide +kernel
theorem ee102_176 : fx_tab 102 176 = some (.getfield 105, 179, 808, 70) := by decide +kernel
theorem ee102_179 : fx_tab 102 179 = some (.iload_n 3, 180, 3, 0) := by decide +kernel
theorem ee102_180 : fx_tab 102 180 = some (.iconst (1), 181, 0, 0) := by decide +kernel
theorem ee102_181 : fx_tab 102 181 = some (.iadd, 182, 0, 0) := by decide +kernel
theorem ee102_182 : fx_tab 102 182 = some (.iaload, 183, 0, 0) := by decide +kernel
theorem ee102_183 : fx_tab 102 183 = some (.iastore, 184, 0, 0) := by decide +kernel
theorem ee102_184 : fx_tab 102 184 = some (.iinc 3 (1), 187, 3, 0) := by decide +kernel
theorem ee102_187 : fx_tab 102 187 = some (.goto (-73), 190, 114, 0) := by decide +kernel
theorem ee102_190 : fx_tab 102 190 = some (.aload_n 0, 191, 0, 0) := by decide +kernel
theorem ee102_191 : fx_tab 102 191 = some (.iload_n 1, 192, 1, 0) := by decide +kernel
theorem ee102_192 : fx_tab 102 192 = some (.invokevirtual 217, 195, 80, 354) := by decide +kernel
theorem ee102_195 : fx_tab 102 195 = some (.iload_n 2, 196, 2, 0) := by decide +kernel
theorem ee102_196 : fx_tab 102 196 = some (.ireturn, 197, 0, 0) := by decide +kernel
theorem ee103_0 : fx_tab 103 0 = some (.aload_n 0, 1, 0, 0) := by decide +kernel
theorem ee103_1 : fx_tab 103 1 = some (.getfield 35, 4, 5, 20) := by decide +kernel
theorem ee103_4 : fx_tab 103 4 = some (.invokevirtual 268, 7, 20, 321) := by decide +kernel
theorem ee103_7 : fx_tab 103 7 = some (.iconst (0), 8, 0, 0) := by decide +kernel
theorem ee103_8 : fx_tab 103 8 = some (.istore_n 1, 9, 1, 0) := by decide +kernel
theorem ee103_9 : fx_tab 103 9 = some (.iload_n 1, 10, 1, 0) := by decide +kernel
theorem ee103_10 : fx_tab 103 10 = some (.aload_n 0, 11, 0, 0) := by decide +kernel
theorem ee103_11 : fx_tab 103 11 = some (.getfield 271, 14, 4, 0) := by decide +kernel
theorem ee103_14 : fx_tab 103 14 = some (.if_icmp .ge (22), 17, 36, 0) := by decide +kernel
theorem ee103_17 : fx_tab 103 17 = some (.aload_n 0, 18, 0, 0) := by decide +kernel
theorem ee103_18 : fx_tab 103 18 = some (.getfield 28, 21, 3, 44) := by decide +kernel
theorem ee103_21 : fx_tab 103 21 = some (.iload_n 1, 22, 1, 0) := by decide +kernel
theorem ee103_22 : fx_tab 103 22 = some (.aaload, 23, 0, 0) := by decide +kernel
theorem ee103_23 : fx_tab 103 23 = some (.aload_n 0, 24, 0, 0) := by decide +kernel
theorem ee103_24 : fx_tab 103 24 = some (.getfield 39, 27, 6, 20) := by decide +kernel
theorem ee103_27 : fx_tab 103 27 = some (.invokevirtual 274, 30, 89, 226) := by decide +kernel
theorem ee103_30 : fx_tab 103 30 = some (.iinc 1 (1), 33, 1, 0) := by decide +kernel
theorem ee103_33 : fx_tab 103 33 = some (.goto (-24), 36, 9, 0) := by decide +kernel
theorem ee103_36 : fx_tab 103 36 = some (.return_, 37, 0, 0) := by decide +kernel
theorem ee104_0 : fx_tab 104 0 = some (.aload_n 2, 1, 2, 0) := by decide +kernel
theorem ee104_1 : fx_tab 104 1 = some (.invokevirtual 324, 4, 12, 257) := by decide +kernel
theorem ee104_4 : fx_tab 104 4 = some (.ifCond .eq (11), 7, 15, 0) := by decide +kernel
theorem ee104_7 : fx_tab 104 7 = some (.aload_n 1, 8, 1, 0) := by decide +kernel
theorem ee104_8 : fx_tab 104 8 = some (.getfield 170, 11, 513, 0) := by decide +kernel
theorem ee104_11 : fx_tab 104 11 = some (.iconst (4), 12, 0, 0) := by decide +kernel
theorem ee104_12 : fx_tab 104 12 = some (.if_icmp .lt (4), 15, 16, 0) := by decide +kernel
theorem ee104_15 : fx_tab 104 15 = some (.return_, 16, 0, 0) := by decide +kernel
theorem ee104_16 : fx_tab 104 16 = some (.aload_n 2, 17, 2, 0) := by decide +kernel
theorem ee104_17 : fx_tab 104 17 = some (.getfield 328, 20, 384, 15) := by decide +kernel
theorem ee104_20 : fx_tab 104 20 = some (.astore_n 3, 21, 3, 0) := by decide +kernel
theorem ee104_21 : fx_tab 104 21 = some (.aload_n 1, 22, 1, 0) := by decide +kernel
theorem ee104_22 : fx_tab 104 22 = some (.aload_n 3, 23, 3, 0) := by decide +kernel
theorem ee104_23 : fx_tab 104 23 = some (.aload_n 2, 24, 2, 0) := by decide +kernel
theorem ee104_24 : fx_tab 104 24 = some (.getfield 329, 27, 385, 0) := by decide +kernel
theorem ee104_27 : fx_tab 104 27 = some (.invokevirtual 330, 30, 17, 291) := by decide +kernel
theorem ee104_30 : fx_tab 104 30 = some (.aload_n 2, 31, 2, 0) := by decide +kernel
theorem ee104_31 : fx_tab 104 31 = some (.invokevirtual 334, 34, 11, 257) := by decide +kernel
theorem ee104_34 : fx_tab 104 34 = some (.aload_n 0, 35, 0, 0) := by decide +kernel
theorem ee104_35 : fx_tab 104 35 = some (.aload_n 3, 36, 3, 0) := by decide +kernel
theorem ee104_36 : fx_tab 104 36 = some (.iconst (1), 37, 0, 0) := by decide +kernel
theorem ee104_37 : fx_tab 104 37 = some (.invokevirtual 335, 40, 84, 163) := by decide +kernel
theorem ee104_40 : fx_tab 104 40 = some (.aload_n 1, 41, 1, 0) := by decide +kernel
theorem ee104_41 : fx_tab 104 41 = some (.getfield 216, 44, 512, 20) := by decide +kernel
theorem ee104_44 : fx_tab 104 44 = some (.invokevirtual 113, 47, 21, 321) := by decide +kernel
theorem ee104_47 : fx_tab 104 47 = some (.astore 4, 49, 4, 0) := by decide +kernel
theorem ee104_49 : fx_tab 104 49 = some (.aload 4, 51, 4, 0) := by decide +kernel
theorem ee104_51 : fx_tab 104 51 = some (.ifnull (23), 54, 74, 0) := by decide +kernel
theorem ee104_54 : fx_tab 104 54 = some (.aload_n 2, 55, 2, 0) := by decide +kernel
theorem ee104_55 : fx_tab 104 55 = some (.aload 4, 57, 4, 0) := by decide +kernel
theorem ee104_57 : fx_tab 104 57 = some (.aload 4, 59, 4, 0) := by decide +kernel
theorem ee104_59 : fx_tab 104 59 = some (.getfield 339, 62, 325, 0) := by decide +kernel
theorem ee104_62 : fx_tab 104 62 = some (.iconst (1), 63, 0, 0) := by decide +kernel
theorem ee104_63 : fx_tab 104 63 = some (.iadd, 64, 0, 0) := by decide +kernel
theorem ee104_64 : fx_tab 104 64 = some (.invokevirtual 340, 67, 13, 259) := by decide +kernel
theorem ee104_67 : fx_tab 104 67 = some (.aload_n 0, 68, 0, 0) := by decide +kernel
theorem ee104_68 : fx_tab 104 68 = some (.aload 4, 70, 4, 0) := by decide +kernel
theorem ee104_70 : fx_tab 104 70 = some (.iconst (0), 71, 0, 0) := by decide +kernel
theorem ee104_71 : fx_tab 104 71 = some (.invokevirtual 335, 74, 84, 163) := by decide +kernel
theorem ee104_74 : fx_tab 104 74 = some (.return_, 75, 0, 0) := by decide +kernel
theorem ee105_0 : fx_tab 105 0 = some (.iconst (2), 1, 0, 0) := by decide +kernel
theorem ee105_1 : fx_tab 105 1 = some (.aload_n 0, 2, 0, 0) := by decide +kernel
theorem ee105_2 : fx_tab 105 2 = some (.getfield 20, 5, 1, 13) := by decide +kernel
theorem ee105_5 : fx_tab 105 5 = some (.invokevirtual 284, 8, 87, 209) := by decide +kernel
theorem ee105_8 : fx_tab 105 8 = some (.bipush (8), 10, 0, 0) := by decide +kernel
theorem ee105_10 : fx_tab 105 10 = some (.iadd, 11, 0, 0) := by decide +kernel
theorem ee105_11 : fx_tab 105 11 = some (.imul, 12, 0, 0) := by decide +kernel
theorem ee105_12 : fx_tab 105 12 = some (.istore_n 1, 13, 1, 0) := by decide +kernel
theorem ee105_13 : fx_tab 105 13 = some (.aload_n 0, 14, 0, 0) := by decide +kernel
theorem ee105_14 : fx_tab 105 14 = some (.getfield 65, 17, 9, 0) := by decide +kernel
theorem ee105_17 : fx_tab 105 17 = some (.iload_n 1, 18, 1, 0) := by decide +kernel
theorem ee105_18 : fx_tab 105 18 = some (.idiv, 19, 0, 0) := by decide +kernel
theorem ee105_19 : fx_tab 105 19 = some (.aload_n 0, 20, 0, 0) := by decide +kernel
theorem ee105_20 : fx_tab 105 20 = some (.getfield 20, 23, 1, 13) := by decide +kernel
theorem ee105_23 : fx_tab 105 23 = some (.getfield 140, 26, 192, 0) := by decide +kernel
theorem ee105_26 : fx_tab 105 26 = some (.bipush (8), 28, 0, 0) := by decide +kernel
theorem ee105_28 : fx_tab 105 28 = some (.imul, 29, 0, 0) := by decide +kernel
theorem ee105_29 : fx_tab 105 29 = some (.bipush (8), 31, 0, 0) := by decide +kernel
theorem ee105_31 : fx_tab 105 31 = some (.imul, 32, 0, 0) := by decide +kernel
theorem ee105_32 : fx_tab 105 32 = some (.irem, 33, 0, 0) := by decide +kernel
theorem ee105_33 : fx_tab 105 33 = some (.ireturn, 34, 0, 0) := by decide +kernel
theorem ee106_0 : fx_tab 106 0 = some (.aload_n 0, 1, 0, 0) := by decide +kernel
theorem ee106_1 : fx_tab 106 1 = some (.getfield 20, 4, 1, 13) := by decide +kernel
theorem ee106_4 : fx_tab 106 4 = some (.iload_n 1, 5, 1, 0) := by decide +kernel
theorem ee106_5 : fx_tab 106 5 = some (.invokevirtual 86, 8, 5, 210) := by decide +kernel
theorem ee106_8 : fx_tab 106 8 = some (.ifCond .eq (20), 11, 28, 0) := by decide +kernel
theorem ee106_11 : fx_tab 106 11 = some (.iload_n 2, 12, 2, 0) := by decide +kernel
theorem ee106_12 : fx_tab 106 12 = some (.ifCond .lt (16), 15, 28, 0) := by decide +kernel
theorem ee106_15 : fx_tab 106 15 = some (.iload_n 2, 16, 2, 0) := by decide +kernel
theorem ee106_16 : fx_tab 106 16 = some (.iconst (4), 17, 0, 0) := by decide +kernel
theorem ee106_17 : fx_tab 106 17 = some (.if_icmp .ge (11), 20, 28, 0) := by decide +kernel
theorem ee106_20 : fx_tab 106 20 = some (.aload_n 0, 21, 0, 0) := by decide +kernel
theorem ee106_21 : fx_tab 106 21 = some (.getfield 58, 24, 7, 0) := by decide +kernel
theorem ee106_24 : fx_tab 106 24 = some (.iconst (1), 25, 0, 0) := by decide +kernel
theorem ee106_25 : fx_tab 106 25 = some (.if_icmp .ne (5), 28, 30, 0) := by decide +kernel
theorem ee106_28 : fx_tab 106 28 = some (.iconst (0), 29, 0, 0) := by decide +kernel
theorem ee106_29 : fx_tab 106 29 = some (.ireturn, 30, 0, 0) := by decide +kernel
theorem ee106_30 : fx_tab 106 30 = some (.aload_n 0, 31, 0, 0) := by decide +kernel
theorem ee106_31 : fx_tab 106 31 = some (.getfield 71, 34, 11, 0) := by decide +kernel
theorem ee106_34 : fx_tab 106 34 = some (.ifCond .ne (16), 37, 50, 0) := by decide +kernel
theorem ee106_37 : fx_tab 106 37 = some (.aload_n 0, 38, 0, 0) := by decide +kernel
theorem ee106_38 : fx_tab 106 38 = some (.getfield 20, 41, 1, 13) := by decide +kernel
theorem ee106_41 : fx_tab 106 41 = some (.iload_n 1, 42, 1, 0) := by decide +kernel
theorem ee106_42 : fx_tab 106 42 = some (.iload_n 2, 43, 2, 0) := by decide +kernel
theorem ee106_43 : fx_tab 106 43 = some (.invokevirtual 90, 46, 6, 211) := by decide +kernel
theorem ee106_46 : fx_tab 106 46 = some (.iload_n 3, 47, 3, 0) := by decide +kernel
theorem ee106_47 : fx_tab 106 47 = some (.if_icmp .ne (5), 50, 52, 0) := by decide +kernel
theorem ee106_50 : fx_tab 106 50 = some (.iconst (0), 51, 0, 0) := by decide +kernel
theorem ee106_51 : fx_tab 106 51 = some (.ireturn, 52, 0, 0) := by decide +kernel
theorem ee106_52 : fx_tab 106 52 = some (.iload_n 3, 53, 3, 0) := by decide +kernel
theorem ee106_53 : fx_tab 106 53 = some (.ifCond .eq (15), 56, 68, 0) := by decide +kernel
theorem ee106_56 : fx_tab 106 56 = some (.aload_n 0, 57, 0, 0) := by decide +kernel
theorem ee106_57 : fx_tab 106 57 = some (.getfield 20, 60, 1, 13) := by decide +kernel
theorem ee106_60 : fx_tab 106 60 = some (.iload_n 1, 61, 1, 0) := by decide +kernel
theorem ee106_61 : fx_tab 106 61 = some (.iload_n 2, 62, 2, 0) := by decide +kernel
theorem ee106_62 : fx_tab 106 62 = some (.iconst (1), 63, 0, 0) := by decide +kernel
theorem ee106_63 : fx_tab 106 63 = some (.invokevirtual 94, 66, 56, 212) := by decide +kernel
theorem ee106_66 : fx_tab 106 66 = some (.iconst (1), 67, 0, 0) := by decide +kernel
theorem ee106_67 : fx_tab 106 67 = some (.ireturn, 68, 0, 0) := by decide +kernel
theorem ee106_68 : fx_tab 106 68 = some (.aload_n 0, 69, 0, 0) := by decide +kernel
theorem ee106_69 : fx_tab 106 69 = some (.getfield 20, 72, 1, 13) := by decide +kernel
theorem ee106_72 : fx_tab 106 72 = some (.iload_n 1, 73, 1, 0) := by decide +kernel
theorem ee106_73 : fx_tab 106 73 = some (.iload_n 2, 74, 2, 0) := by decide +kernel
theorem ee106_74 : fx_tab 106 74 = some (.invokevirtual 98, 77, 86, 211) := by decide +kernel
theorem ee106_77 : fx_tab 106 77 = some (.ireturn, 78, 0, 0) := by decide +kernel
theorem ee107_0 : fx_tab 107 0 = some (.aload_n 0, 1, 0, 0) := by decide +kernel
theorem ee107_1 : fx_tab 107 1 = some (.getfield 35, 4, 5, 20) := by decide +kernel
theorem ee107_4 : fx_tab 107 4 = some (.getfield 110, 7, 641, 0) := by decide +kernel
theorem ee107_7 : fx_tab 107 7 = some (.istore_n 1, 8, 1, 0) := by decide +kernel
theorem ee107_8 : fx_tab 107 8 = some (.iconst (0), 9, 0, 0) := by decide +kernel
theorem ee107_9 : fx_tab 107 9 = some (.istore_n 2, 10, 2, 0) := by decide +kernel
theorem ee107_10 : fx_tab 107 10 = some (.iload_n 2, 11, 2, 0) := by decide +kernel
theorem ee107_11 : fx_tab 107 11 = some (.iload_n 1, 12, 1, 0) := by decide +kernel
theorem ee107_12 : fx_tab 107 12 = some (.if_icmp .ge (44), 15, 56, 0) := by decide +kernel
theorem ee107_15 : fx_tab 107 15 = some (.aload_n 0, 16, 0, 0) := by decide +kernel
theorem ee107_16 : fx_tab 107 16 = some (.getfield 35, 19, 5, 20) := by decide +kernel
theorem ee107_19 : fx_tab 107 19 = some (.invokevirtual 113, 22, 21, 321) := by decide +kernel
theorem ee107_22 : fx_tab 107 22 = some (.astore_n 3, 23, 3, 0) := by decide +kernel
theorem ee107_23 : fx_tab 107 23 = some (.aload_n 3, 24, 3, 0) := by decide +kernel
theorem ee107_24 : fx_tab 107 24 = some (.getfield 287, 27, 330, 0) := by decide +kernel
theorem ee107_27 : fx_tab 107 27 = some (.aload_n 0, 28, 0, 0) := by decide +kernel
theorem ee107_28 : fx_tab 107 28 = some (.getfield 65, 31, 9, 0) := by decide +kernel
theorem ee107_31 : fx_tab 107 31 = some (.if_icmp .le (14), 34, 45, 0) := by decide +kernel
theorem ee107_34 : fx_tab 107 34 = some (.aload_n 0, 35, 0, 0) := by decide +kernel
theorem ee107_35 : fx_tab 107 35 = some (.getfield 35, 38, 5, 20) := by decide +kernel
theorem ee107_38 : fx_tab 107 38 = some (.aload_n 3, 39, 3, 0) := by decide +kernel
theorem ee107_39 : fx_tab 107 39 = some (.invokevirtual 124, 42, 19, 322) := by decide +kernel
theorem ee107_42 : fx_tab 107 42 = some (.goto (8), 45, 50, 0) := by decide +kernel
theorem ee107_45 : fx_tab 107 45 = some (.aload_n 0, 46, 0, 0) := by decide +kernel
theorem ee107_46 : fx_tab 107 46 = some (.aload_n 3, 47, 3, 0) := by decide +kernel
theorem ee107_47 : fx_tab 107 47 = some (.invokevirtual 290, 50, 85, 162) := by decide +kernel
theorem ee107_50 : fx_tab 107 50 = some (.iinc 2 (1), 53, 2, 0) := by decide +kernel
theorem ee107_53 : fx_tab 107 53 = some (.goto (-43), 56, 10, 0) := by decide +kernel
theorem ee107_56 : fx_tab 107 56 = some (.return_, 57, 0, 0) := by decide +kernel
theorem ee108_0 : fx_tab 108 0 = some (.aload_n 0, 1, 0, 0) := by decide +kernel
theorem ee108_1 : fx_tab 108 1 = some (.invokespecial 3, 4, 1000, 0) := by decide +kernel
theorem ee108_4 : fx_tab 108 4 = some (.aload_n 0, 5, 0, 0) := by decide +kernel
theorem ee108_5 : fx_tab 108 5 = some (.new 9, 8, 11, 6) := by decide +kernel
theorem ee108_8 : fx_tab 108 8 = some (.dup, 9, 0, 0) := by decide +kernel
theorem ee108_9 : fx_tab 108 9 = some (.invokespecial 11, 12, 96, 337) := by decide +kernel
theorem ee108_12 : fx_tab 108 12 = some (.putfield 12, 15, 257, 21) := by decide +kernel
theorem ee108_15 : fx_tab 108 15 = some (.aload_n 0, 16, 0, 0) := by decide +kernel
theorem ee108_16 : fx_tab 108 16 = some (.new 18, 19, 8, 6) := by decide +kernel
theorem ee108_19 : fx_tab 108 19 = some (.dup, 20, 0, 0) := by decide +kernel
theorem ee108_20 : fx_tab 108 20 = some (.invokespecial 20, 23, 93, 289) := by decide +kernel
theorem ee108_23 : fx_tab 108 23 = some (.putfield 21, 26, 258, 18) := by decide +kernel
theorem ee108_26 : fx_tab 108 26 = some (.aload_n 0, 27, 0, 0) := by decide +kernel
theorem ee108_27 : fx_tab 108 27 = some (.iconst (4), 28, 0, 0) := by decide +kernel
theorem ee108_28 : fx_tab 108 28 = some (.anewarray 25, 31, 2, 91) := by decide +kernel
theorem ee108_31 : fx_tab 108 31 = some (.putfield 27, 34, 259, 42) := by decide +kernel
theorem ee108_34 : fx_tab 108 34 = some (.aload_n 0, 35, 0, 0) := by decide +kernel
theorem ee108_35 : fx_tab 108 35 = some (.iconst (4), 36, 0, 0) := by decide +kernel
theorem ee108_36 : fx_tab 108 36 = some (.anewarray 25, 39, 2, 91) := by decide +kernel
theorem ee108_39 : fx_tab 108 39 = some (.putfield 31, 42, 260, 42) := by decide +kernel
theorem ee108_42 : fx_tab 108 42 = some (.aload_n 0, 43, 0, 0) := by decide +kernel
theorem ee108_43 : fx_tab 108 43 = some (.iload_n 1, 44, 1, 0) := by decide +kernel
theorem ee108_44 : fx_tab 108 44 = some (.putfield 34, 47, 256, 0) := by decide +kernel
theorem ee108_47 : fx_tab 108 47 = some (.return_, 48, 0, 0) := by decide +kernel
theorem ee109_0 : fx_tab 109 0 = some (.aload_n 0, 1, 0, 0) := by decide +kernel
theorem ee109_1 : fx_tab 109 1 = some (.iload_n 1, 2, 1, 0) := by decide +kernel
theorem ee109_2 : fx_tab 109 2 = some (.putfield 17, 5, 320, 0) := by decide +kernel
theorem ee109_5 : fx_tab 109 5 = some (.aload_n 0, 6, 0, 0) := by decide +kernel
theorem ee109_6 : fx_tab 109 6 = some (.iload_n 2, 7, 2, 0) := by decide +kernel
theorem ee109_7 : fx_tab 109 7 = some (.putfield 21, 10, 321, 0) := by decide +kernel
theorem ee109_10 : fx_tab 109 10 = some (.aload_n 0, 11, 0, 0) := by decide +kernel
theorem ee109_11 : fx_tab 109 11 = some (.iload_n 3, 12, 3, 0) := by decide +kernel
theorem ee109_12 : fx_tab 109 12 = some (.putfield 24, 15, 322, 0) := by decide +kernel
theorem ee109_15 : fx_tab 109 15 = some (.aload_n 0, 16, 0, 0) := by decide +kernel
theorem ee109_16 : fx_tab 109 16 = some (.iload 4, 18, 4, 0) := by decide +kernel
theorem ee109_18 : fx_tab 109 18 = some (.putfield 27, 21, 323, 0) := by decide +kernel
theorem ee109_21 : fx_tab 109 21 = some (.aload_n 0, 22, 0, 0) := by decide +kernel
theorem ee109_22 : fx_tab 109 22 = some (.iconst (-1), 23, 0, 0) := by decide +kernel
theorem ee109_23 : fx_tab 109 23 = some (.putfield 30, 26, 324, 0) := by decide +kernel
theorem ee109_26 : fx_tab 109 26 = some (.aload_n 0, 27, 0, 0) := by decide +kernel
theorem ee109_27 : fx_tab 109 27 = some (.iconst (1), 28, 0, 0) := by decide +kernel
theorem ee109_28 : fx_tab 109 28 = some (.putfield 33, 31, 325, 0) := by decide +kernel
theorem ee109_31 : fx_tab 109 31 = some (.aload_n 0, 32, 0, 0) := by decide +kernel
theorem ee109_32 : fx_tab 109 32 = some (.iconst (0), 33, 0, 0) := by decide +kernel
theorem ee109_33 : fx_tab 109 33 = some (.putfield 36, 36, 326, 0) := by decide +kernel
theorem ee109_36 : fx_tab 109 36 = some (.aload_n 0, 37, 0, 0) := by decide +kernel
theorem ee109_37 : fx_tab 109 37 = some (.iconst (0), 38, 0, 0) := by decide +kernel
theorem ee109_38 : fx_tab 109 38 = some (.putfield 39, 41, 327, 0) := by decide +kernel
theorem ee109_41 : fx_tab 109 41 = some (.aload_n 0, 42, 0, 0) := by decide +kernel
theorem ee109_42 : fx_tab 109 42 = some (.iconst (0), 43, 0, 0) := by decide +kernel
theorem ee109_43 : fx_tab 109 43 = some (.putfield 42, 46, 328, 1) := by decide +kernel
theorem ee109_46 : fx_tab 109 46 = some (.aload_n 0, 47, 0, 0) := by decide +kernel
theorem ee109_47 : fx_tab 109 47 = some (.invokevirtual 46, 50, 90, 241) := by decide +kernel
theorem ee109_50 : fx_tab 109 50 = some (.return_, 51, 0, 0) := by decide +kernel
theorem ee110_0 : fx_tab 110 0 = some (.iconst (-1), 1, 0, 0) := by decide +kernel
theorem ee110_1 : fx_tab 110 1 = some (.istore_n 3, 2, 3, 0) := by decide +kernel
theorem ee110_2 : fx_tab 110 2 = some (.iconst (0), 3, 0, 0) := by decide +kernel
theorem ee110_3 : fx_tab 110 3 = some (.istore 4, 5, 4, 0) := by decide +kernel
theorem ee110_5 : fx_tab 110 5 = some (.iload 4, 7, 4, 0) := by decide +kernel
theorem ee110_7 : fx_tab 110 7 = some (.iconst (4), 8, 0, 0) := by decide +kernel
theorem ee110_8 : fx_tab 110 8 = some (.if_icmp .ge (57), 11, 65, 0) := by decide +kernel
theorem ee110_11 : fx_tab 110 11 = some (.aload_n 0, 12, 0, 0) := by decide +kernel
theorem ee110_12 : fx_tab 110 12 = some (.getfield 11, 15, 576, 42) := by decide +kernel
theorem ee110_15 : fx_tab 110 15 = some (.iload 4, 17, 4, 0) := by decide +kernel
theorem ee110_17 : fx_tab 110 17 = some (.aaload, 18, 0, 0) := by decide +kernel
theorem ee110_18 : fx_tab 110 18 = some (.ifnonnull (41), 21, 59, 0) := by decide +kernel
theorem ee110_21 : fx_tab 110 21 = some (.aload_n 0, 22, 0, 0) := by decide +kernel
theorem ee110_22 : fx_tab 110 22 = some (.getfield 20, 25, 577, 13) := by decide +kernel
theorem ee110_25 : fx_tab 110 25 = some (.iload_n 1, 26, 1, 0) := by decide +kernel
theorem ee110_26 : fx_tab 110 26 = some (.iload 4, 28, 4, 0) := by decide +kernel
theorem ee110_28 : fx_tab 110 28 = some (.invokevirtual 66, 31, 6, 211) := by decide +kernel
theorem ee110_31 : fx_tab 110 31 = some (.ifCond .eq (28), 34, 59, 0) := by decide +kernel
theorem ee110_34 : fx_tab 110 34 = some (.aload_n 0, 35, 0, 0) := by decide +kernel
theorem ee110_35 : fx_tab 110 35 = some (.getfield 20, 38, 577, 13) := by decide +kernel
theorem ee110_38 : fx_tab 110 38 = some (.iload_n 1, 39, 1, 0) := by decide +kernel
theorem ee110_39 : fx_tab 110 39 = some (.iload 4, 41, 4, 0) := by decide +kernel
theorem ee110_41 : fx_tab 110 41 = some (.iload_n 2, 42, 2, 0) := by decide +kernel
theorem ee110_42 : fx_tab 110 42 = some (.invokevirtual 70, 45, 88, 212) := by decide +kernel
theorem ee110_45 : fx_tab 110 45 = some (.ifCond .eq (6), 48, 51, 0) := by decide +kernel
theorem ee110_48 : fx_tab 110 48 = some (.iload 4, 50, 4, 0) := by decide +kernel
theorem ee110_50 : fx_tab 110 50 = some (.ireturn, 51, 0, 0) := by decide +kernel
theorem ee110_51 : fx_tab 110 51 = some (.iload_n 3, 52, 3, 0) := by decide +kernel
theorem ee110_52 : fx_tab 110 52 = some (.iconst (-1), 53, 0, 0) := by decide +kernel
theorem ee110_53 : fx_tab 110 53 = some (.if_icmp .ne (6), 56, 59, 0) := by decide +kernel
theorem ee110_56 : fx_tab 110 56 = some (.iload 4, 58, 4, 0) := by decide +kernel
theorem ee110_58 : fx_tab 110 58 = some (.istore_n 3, 59, 3, 0) := by decide +kernel
theorem ee110_59 : fx_tab 110 59 = some (.iinc 4 (1), 62, 4, 0) := by decide +kernel
theorem ee110_62 : fx_tab 110 62 = some (.goto (-57), 65, 5, 0) := by decide +kernel
theorem ee110_65 : fx_tab 110 65 = some (.iload_n 3, 66, 3, 0) := by decide +kernel
theorem ee110_66 : fx_tab 110 66 = some (.ireturn, 67, 0, 0) := by decide +kernel
theorem ee111_0 : fx_tab 111 0 = some (.aload_n 0, 1, 0, 0) := by decide +kernel
theorem ee111_1 : fx_tab 111 1 = some (.getfield 27, 4, 578, 17) := by decide +kernel
theorem ee111_4 : fx_tab 111 4 = some (.aload_n 2, 5, 2, 0) := by decide +kernel
theorem ee111_5 : fx_tab 111 5 = some (.aload_n 3, 6, 3, 0) := by decide +kernel
theorem ee111_6 : fx_tab 111 6 = some (.invokevirtual 74, 9, 91, 275) := by decide +kernel
theorem ee111_9 : fx_tab 111 9 = some (.astore 5, 11, 5, 0) := by decide +kernel
theorem ee111_11 : fx_tab 111 11 = some (.aload 5, 13, 5, 0) := by decide +kernel
theorem ee111_13 : fx_tab 111 13 = some (.aload_n 2, 14, 2, 0) := by decide +kernel
theorem ee111_14 : fx_tab 111 14 = some (.if_acmp .ne (7), 17, 21, 0) := by decide +kernel
theorem ee111_17 : fx_tab 111 17 = some (.aload_n 3, 18, 3, 0) := by decide +kernel
theorem ee111_18 : fx_tab 111 18 = some (.goto (4), 21, 22, 0) := by decide +kernel
theorem ee111_21 : fx_tab 111 21 = some (.aload_n 2, 22, 2, 0) := by decide +kernel
theorem ee111_22 : fx_tab 111 22 = some (.astore 6, 24, 6, 0) := by decide +kernel
theorem ee111_24 : fx_tab 111 24 = some (.aload 5, 26, 5, 0) := by decide +kernel
theorem ee111_26 : fx_tab 111 26 = some (.ifnull (47), 29, 73, 0) := by decide +kernel
theorem ee111_29 : fx_tab 111 29 = some (.aload_n 0, 30, 0, 0) := by decide +kernel
theorem ee111_30 : fx_tab 111 30 = some (.getfield 20, 33, 577, 13) := by decide +kernel
theorem ee111_33 : fx_tab 111 33 = some (.iload_n 1, 34, 1, 0) := by decide +kernel
theorem ee111_34 : fx_tab 111 34 = some (.iconst (0), 35, 0, 0) := by decide +kernel
theorem ee111_35 : fx_tab 111 35 = some (.aload 5, 37, 5, 0) := by decide +kernel
theorem ee111_37 : fx_tab 111 37 = some (.getfield 41, 40, 128, 15) := by decide +kernel
theorem ee111_40 : fx_tab 111 40 = some (.getfield 45, 43, 321, 0) := by decide +kernel
theorem ee111_43 : fx_tab 111 43 = some (.invokevirtual 70, 46, 88, 212) := by decide +kernel
theorem ee111_46 : fx_tab 111 46 = some (.ifCond .ne (23), 49, 69, 0) := by decide +kernel
theorem ee111_49 : fx_tab 111 49 = some (.aload_n 0, 50, 0, 0) := by decide +kernel
theorem ee111_50 : fx_tab 111 50 = some (.getfield 20, 53, 577, 13) := by decide +kernel
theorem ee111_53 : fx_tab 111 53 = some (.iload_n 1, 54, 1, 0) := by decide +kernel
theorem ee111_54 : fx_tab 111 54 = some (.iconst (1), 55, 0, 0) := by decide +kernel
theorem ee111_55 : fx_tab 111 55 = some (.aload 5, 57, 5, 0) := by decide +kernel
theorem ee111_57 : fx_tab 111 57 = some (.getfield 41, 60, 128, 15) := by decide +kernel
theorem ee111_60 : fx_tab 111 60 = some (.getfield 45, 63, 321, 0) := by decide +kernel
theorem ee111_63 : fx_tab 111 63 = some (.invokevirtual 70, 66, 88, 212) := by decide +kernel
theorem ee111_66 : fx_tab 111 66 = some (.ifCond .eq (7), 69, 73, 0) := by decide +kernel
theorem ee111_69 : fx_tab 111 69 = some (.iconst (1), 70, 0, 0) := by decide +kernel
theorem ee111_70 : fx_tab 111 70 = some (.goto (4), 73, 74, 0) := by decide +kernel
theorem ee111_73 : fx_tab 111 73 = some (.iconst (0), 74, 0, 0) := by decide +kernel
theorem ee111_74 : fx_tab 111 74 = some (.istore 7, 76, 7, 0) := by decide +kernel
theorem ee111_76 : fx_tab 111 76 = some (.aload_n 0, 77, 0, 0) := by decide +kernel
theorem ee111_77 : fx_tab 111 77 = some (.getfield 34, 80, 580, 42) := by decide +kernel
theorem ee111_80 : fx_tab 111 80 = some (.iload 4, 82, 4, 0) := by decide +kernel
theorem ee111_82 : fx_tab 111 82 = some (.iload 7, 84, 7, 0) := by decide +kernel
theorem ee111_84 : fx_tab 111 84 = some (.ifCond .eq (8), 87, 92, 0) := by decide +kernel
theorem ee111_87 : fx_tab 111 87 = some (.aload 5, 89, 5, 0) := by decide +kernel
theorem ee111_89 : fx_tab 111 89 = some (.goto (5), 92, 94, 0) := by decide +kernel
theorem ee111_92 : fx_tab 111 92 = some (.aload 6, 94, 6, 0) := by decide +kernel
theorem ee111_94 : fx_tab 111 94 = some (.aastore, 95, 0, 0) := by decide +kernel
theorem ee111_95 : fx_tab 111 95 = some (.aload_n 0, 96, 0, 0) := by decide +kernel
theorem ee111_96 : fx_tab 111 96 = some (.getfield 34, 99, 580, 42) := by decide +kernel
theorem ee111_99 : fx_tab 111 99 = some (.iload 4, 101, 4, 0) := by decide +kernel
theorem ee111_101 : fx_tab 111 101 = some (.iconst (2), 102, 0, 0) := by decide +kernel
theorem ee111_102 : fx_tab 111 102 = some (.iadd, 103, 0, 0) := by decide +kernel
theorem ee111_103 : fx_tab 111 103 = some (.iload 7, 105, 7, 0) := by decide +kernel
theorem ee111_105 : fx_tab 111 105 = some (.ifCond .eq (8), 108, 113, 0) := by decide +kernel
theorem ee111_108 : fx_tab 111 108 = some (.aload 6, 110, 6, 0) := by decide +kernel
theorem ee111_110 : fx_tab 111 110 = some (.goto (5), 113, 115, 0) := by decide +kernel
theorem ee111_113 : fx_tab 111 113 = some (.aload 5, 115, 5, 0) := by decide +kernel
theorem ee111_115 : fx_tab 111 115 = some (.aastore, 116, 0, 0) := by decide +kernel
theorem ee111_116 : fx_tab 111 116 = some (.return_, 117, 0, 0) := by decide +kernel
theorem ee112_0 : fx_tab 112 0 = some (.aload_n 0, 1, 0, 0) := by decide +kernel
theorem ee112_1 : fx_tab 112 1 = some (.getfield 27, 4, 578, 17) := by decide +kernel
theorem ee112_4 : fx_tab 112 4 = some (.aload_n 2, 5, 2, 0) := by decide +kernel
theorem ee112_5 : fx_tab 112 5 = some (.aload_n 3, 6, 3, 0) := by decide +kernel
theorem ee112_6 : fx_tab 112 6 = some (.invokevirtual 74, 9, 91, 275) := by decide +kernel
theorem ee112_9 : fx_tab 112 9 = some (.astore 5, 11, 5, 0) := by decide +kernel
theorem ee112_11 : fx_tab 112 11 = some (.aload 5, 13, 5, 0) := by decide +kernel
theorem ee112_13 : fx_tab 112 13 = some (.aload_n 2, 14, 2, 0) := by decide +kernel
theorem ee112_14 : fx_tab 112 14 = some (.if_acmp .ne (7), 17, 21, 0) := by decide +kernel
theorem ee112_17 : fx_tab 112 17 = some (.aload_n 3, 18, 3, 0) := by decide +kernel
theorem ee112_18 : fx_tab 112 18 = some (.goto (4), 21, 22, 0) := by decide +kernel
theorem ee112_21 : fx_tab 112 21 = some (.aload_n 2, 22, 2, 0) := by decide +kernel
theorem ee112_22 : fx_tab 112 22 = some (.astore 6, 24, 6, 0) := by decide +kernel
theorem ee112_24 : fx_tab 112 24 = some (.aload 5, 26, 5, 0) := by decide +kernel
theorem ee112_26 : fx_tab 112 26 = some (.ifnull (47), 29, 73, 0) := by decide +kernel
theorem ee112_29 : fx_tab 112 29 = some (.aload_n 0, 30, 0, 0) := by decide +kernel
theorem ee112_30 : fx_tab 112 30 = some (.getfield 20, 33, 577, 13) := by decide +kernel
theorem ee112_33 : fx_tab 112 33 = some (.iload_n 1, 34, 1, 0) := by decide +kernel
theorem ee112_34 : fx_tab 112 34 = some (.iload 4, 36, 4, 0) := by decide +kernel
theorem ee112_36 : fx_tab 112 36 = some (.aload 5, 38, 5, 0) := by decide +kernel
theorem ee112_38 : fx_tab 112 38 = some (.getfield 41, 41, 128, 15) := by decide +kernel
theorem ee112_41 : fx_tab 112 41 = some (.getfield 45, 44, 321, 0) := by decide +kernel
theorem ee112_44 : fx_tab 112 44 = some (.invokevirtual 70, 47, 88, 212) := by decide +kernel
theorem ee112_47 : fx_tab 112 47 = some (.ifCond .ne (26), 50, 73, 0) := by decide +kernel
theorem ee112_50 : fx_tab 112 50 = some (.aload_n 0, 51, 0, 0) := by decide +kernel
theorem ee112_51 : fx_tab 112 51 = some (.getfield 20, 54, 577, 13) := by decide +kernel
theorem ee112_54 : fx_tab 112 54 = some (.iload_n 1, 55, 1, 0) := by decide +kernel
theorem ee112_55 : fx_tab 112 55 = some (.iload 4, 57, 4, 0) := by decide +kernel
theorem ee112_57 : fx_tab 112 57 = some (.iconst (1), 58, 0, 0) := by decide +kernel
theorem ee112_58 : fx_tab 112 58 = some (.iadd, 59, 0, 0) := by decide +kernel
theorem ee112_59 : fx_tab 112 59 = some (.aload 5, 61, 5, 0) := by decide +kernel
theorem ee112_61 : fx_tab 112 61 = some (.getfield 41, 64, 128, 15) := by decide +kernel
theorem ee112_64 : fx_tab 112 64 = some (.getfield 45, 67, 321, 0) := by decide +kernel
theorem ee112_67 : fx_tab 112 67 = some (.invokevirtual 70, 70, 88, 212) := by decide +kernel
theorem ee112_70 : fx_tab 112 70 = some (.ifCond .ne (7), 73, 77, 0) := by decide +kernel
theorem ee112_73 : fx_tab 112 73 = some (.iconst (1), 74, 0, 0) := by decide +kernel
theorem ee112_74 : fx_tab 112 74 = some (.goto (4), 77, 78, 0) := by decide +kernel
theorem ee112_77 : fx_tab 112 77 = some (.iconst (0), 78, 0, 0) := by decide +kernel
theorem ee112_78 : fx_tab 112 78 = some (.istore 7, 80, 7, 0) := by decide +kernel
theorem ee112_80 : fx_tab 112 80 = some (.aload_n 0, 81, 0, 0) := by decide +kernel
theorem ee112_81 : fx_tab 112 81 = some (.getfield 11, 84, 576, 42) := by decide +kernel
theorem ee112_84 : fx_tab 112 84 = some (.iload 4, 86, 4, 0) := by decide +kernel
theorem ee112_86 : fx_tab 112 86 = some (.iload 7, 88, 7, 0) := by decide +kernel
theorem ee112_88 : fx_tab 112 88 = some (.ifCond .eq (8), 91, 96, 0) := by decide +kernel
theorem ee112_91 : fx_tab 112 91 = some (.aload 5, 93, 5, 0) := by decide +kernel
theorem ee112_93 : fx_tab 112 93 = some (.goto (5), 96, 98, 0) := by decide +kernel
theorem ee112_96 : fx_tab 112 96 = some (.aload 6, 98, 6, 0) := by decide +kernel
theorem ee112_98 : fx_tab 112 98 = some (.aastore, 99, 0, 0) := by decide +kernel
theorem ee112_99 : fx_tab 112 99 = some (.aload_n 0, 100, 0, 0) := by decide +kernel
theorem ee112_100 : fx_tab 112 100 = some (.getfield 11, 103, 576, 42) := by decide +kernel
theorem ee112_103 : fx_tab 112 103 = some (.iload 4, 105, 4, 0) := by decide +kernel
theorem ee112_105 : fx_tab 112 105 = some (.iconst (1), 106, 0, 0) := by decide +kernel
theorem ee112_106 : fx_tab 112 106 = some (.iadd, 107, 0, 0) := by decide +kernel
theorem ee112_107 : fx_tab 112 107 = some (.iload 7, 109, 7, 0) := by decide +kernel
theorem ee112_109 : fx_tab 112 109 = some (.ifCond .eq (8), 112, 117, 0) := by decide +kernel
theorem ee112_112 : fx_tab 112 112 = some (.aload 6, 114, 6, 0) := by decide +kernel
theorem ee112_114 : fx_tab 112 114 = some (.goto (5), 117, 119, 0) := by decide +kernel
theorem ee112_117 : fx_tab 112 117 = some (.aload 5, 119, 5, 0) := by decide +kernel
theorem ee112_119 : fx_tab 112 119 = some (.aastore, 120, 0, 0) := by decide +kernel
theorem ee112_120 : fx_tab 112 120 = some (.return_, 121, 0, 0) := by decide +kernel
theorem ee113_0 : fx_tab 113 0 = some (.aload_n 0, 1, 0, 0) := by decide +kernel
theorem ee113_1 : fx_tab 113 1 = some (.invokespecial 1, 4, 1000, 0) := by decide +kernel
theorem ee113_4 : fx_tab 113 4 = some (.aload_n 0, 5, 0, 0) := by decide +kernel
theorem ee113_5 : fx_tab 113 5 = some (.sipush (256), 8, 0, 0) := by decide +kernel
theorem ee113_8 : fx_tab 113 8 = some (.newarray .boolean, 10, 71, 0) := by decide +kernel
theorem ee113_10 : fx_tab 113 10 = some (.putfield 7, 13, 775, 71) := by decide +kernel
theorem ee113_13 : fx_tab 113 13 = some (.aload_n 0, 14, 0, 0) := by decide +kernel
theorem ee113_14 : fx_tab 113 14 = some (.sipush (4096), 17, 0, 0) := by decide +kernel
theorem ee113_17 : fx_tab 113 17 = some (.newarray .int, 19, 70, 0) := by decide +kernel
theorem ee113_19 : fx_tab 113 19 = some (.putfield 13, 22, 776, 70) := by decide +kernel
theorem ee113_22 : fx_tab 113 22 = some (.aload_n 0, 23, 0, 0) := by decide +kernel
theorem ee113_23 : fx_tab 113 23 = some (.sipush (300), 26, 0, 0) := by decide +kernel
theorem ee113_26 : fx_tab 113 26 = some (.newarray .int, 28, 70, 0) := by decide +kernel
theorem ee113_28 : fx_tab 113 28 = some (.putfield 17, 31, 779, 70) := by decide +kernel
theorem ee113_31 : fx_tab 113 31 = some (.aload_n 0, 32, 0, 0) := by decide +kernel
theorem ee113_32 : fx_tab 113 32 = some (.sipush (300), 35, 0, 0) := by decide +kernel
theorem ee113_35 : fx_tab 113 35 = some (.newarray .int, 37, 70, 0) := by decide +kernel
theorem ee113_37 : fx_tab 113 37 = some (.putfield 20, 40, 780, 70) := by decide +kernel
theorem ee113_40 : fx_tab 113 40 = some (.aload_n 0, 41, 0, 0) := by decide +kernel
theorem ee113_41 : fx_tab 113 41 = some (.sipush (300), 44, 0, 0) := by decide +kernel
theorem ee113_44 : fx_tab 113 44 = some (.newarray .int, 46, 70, 0) := by decide +kernel
theorem ee113_46 : fx_tab 113 46 = some (.putfield 23, 49, 781, 70) := by decide +kernel
theorem ee113_49 : fx_tab 113 49 = some (.aload_n 0, 50, 0, 0) := by decide +kernel
theorem ee113_50 : fx_tab 113 50 = some (.sipush (300), 53, 0, 0) := by decide +kernel
theorem ee113_53 : fx_tab 113 53 = some (.newarray .int, 55, 70, 0) := by decide +kernel
theorem ee113_55 : fx_tab 113 55 = some (.putfield 26, 58, 782, 70) := by decide +kernel
theorem ee113_58 : fx_tab 113 58 = some (.aload_n 0, 59, 0, 0) := by decide +kernel
theorem ee113_59 : fx_tab 113 59 = some (.sipush (300), 62, 0, 0) := by decide +kernel
theorem ee113_62 : fx_tab 113 62 = some (.newarray .int, 64, 70, 0) := by decide +kernel
theorem ee113_64 : fx_tab 113 64 = some (.putfield 29, 67, 783, 70) := by decide +kernel
theorem ee113_67 : fx_tab 113 67 = some (.aload_n 0, 68, 0, 0) := by decide +kernel
theorem ee113_68 : fx_tab 113 68 = some (.sipush (300), 71, 0, 0) := by decide +kernel
theorem ee113_71 : fx_tab 113 71 = some (.newarray .int, 73, 70, 0) := by decide +kernel
theorem ee113_73 : fx_tab 113 73 = some (.putfield 32, 76, 784, 70) := by decide +kernel
theorem ee113_76 : fx_tab 113 76 = some (.aload_n 0, 77, 0, 0) := by decide +kernel
theorem ee113_77 : fx_tab 113 77 = some (.sipush (300), 80, 0, 0) := by decide +kernel
theorem ee113_80 : fx_tab 113 80 = some (.newarray .int, 82, 70, 0) := by decide +kernel
theorem ee113_82 : fx_tab 113 82 = some (.putfield 35, 85, 785, 70) := by decide +kernel
theorem ee113_85 : fx_tab 113 85 = some (.aload_n 0, 86, 0, 0) := by decide +kernel
theorem ee113_86 : fx_tab 113 86 = some (.sipush (300), 89, 0, 0) := by decide +kernel
theorem ee113_89 : fx_tab 113 89 = some (.newarray .int, 91, 70, 0) := by decide +kernel
theorem ee113_91 : fx_tab 113 91 = some (.putfield 38, 94, 786, 70) := by decide +kernel
theorem ee113_94 : fx_tab 113 94 = some (.aload_n 0, 95, 0, 0) := by decide +kernel
theorem ee113_95 : fx_tab 113 95 = some (.bipush (64), 97, 0, 0) := by decide +kernel
theorem ee113_97 : fx_tab 113 97 = some (.newarray .int, 99, 70, 0) := by decide +kernel
theorem ee113_99 : fx_tab 113 99 = some (.putfield 41, 102, 787, 70) := by decide +kernel
theorem ee113_102 : fx_tab 113 102 = some (.aload_n 0, 103, 0, 0) := by decide +kernel
theorem ee113_103 : fx_tab 113 103 = some (.sipush (256), 106, 0, 0) := by decide +kernel
theorem ee113_106 : fx_tab 113 106 = some (.newarray .int, 108, 70, 0) := by decide +kernel
theorem ee113_108 : fx_tab 113 108 = some (.putfield 44, 111, 788, 70) := by decide +kernel
theorem ee113_111 : fx_tab 113 111 = some (.aload_n 0, 112, 0, 0) := by decide +kernel
theorem ee113_112 : fx_tab 113 112 = some (.sipush (256), 115, 0, 0) := by decide +kernel
theorem ee113_115 : fx_tab 113 115 = some (.newarray .int, 117, 70, 0) := by decide +kernel
theorem ee113_117 : fx_tab 113 117 = some (.putfield 47, 120, 789, 70) := by decide +kernel
theorem ee113_120 : fx_tab 113 120 = some (.aload_n 0, 121, 0, 0) := by decide +kernel
theorem ee113_121 : fx_tab 113 121 = some (.sipush (256), 124, 0, 0) := by decide +kernel
theorem ee113_124 : fx_tab 113 124 = some (.newarray .int, 126, 70, 0) := by decide +kernel
theorem ee113_126 : fx_tab 113 126 = some (.putfield 50, 129, 790, 70) := by decide +kernel
theorem ee113_129 : fx_tab 113 129 = some (.aload_n 0, 130, 0, 0) := by decide +kernel
theorem ee113_130 : fx_tab 113 130 = some (.sipush (512), 133, 0, 0) := by decide +kernel
theorem ee113_133 : fx_tab 113 133 = some (.newarray .int, 135, 70, 0) := by decide +kernel
theorem ee113_135 : fx_tab 113 135 = some (.putfield 53, 138, 791, 70) := by decide +kernel
theorem ee113_138 : fx_tab 113 138 = some (.aload_n 0, 139, 0, 0) := by decide +kernel
theorem ee113_139 : fx_tab 113 139 = some (.sipush (512), 142, 0, 0) := by decide +kernel
theorem ee113_142 : fx_tab 113 142 = some (.newarray .int, 144, 70, 0) := by decide +kernel
theorem ee113_144 : fx_tab 113 144 = some (.putfield 56, 147, 792, 70) := by decide +kernel
theorem ee113_147 : fx_tab 113 147 = some (.aload_n 0, 148, 0, 0) := by decide +kernel
theorem ee113_148 : fx_tab 113 148 = some (.sipush (512), 151, 0, 0) := by decide +kernel
theorem ee113_151 : fx_tab 113 151 = some (.newarray .int, 153, 70, 0) := by decide +kernel
theorem ee113_153 : fx_tab 113 153 = some (.putfield 59, 156, 793, 70) := by decide +kernel
theorem ee113_156 : fx_tab 113 156 = some (.aload_n 0, 157, 0, 0) := by decide +kernel
theorem ee113_157 : fx_tab 113 157 = some (.sipush (512), 160, 0, 0) := by decide +kernel
theorem ee113_160 : fx_tab 113 160 = some (.newarray .int, 162, 70, 0) := by decide +kernel
theorem ee113_162 : fx_tab 113 162 = some (.putfield 62, 165, 794, 70) := by decide +kernel
theorem ee113_165 : fx_tab 113 165 = some (.aload_n 0, 166, 0, 0) := by decide +kernel
theorem ee113_166 : fx_tab 113 166 = some (.sipush (512), 169, 0, 0) := by decide +kernel
theorem ee113_169 : fx_tab 113 169 = some (.newarray .int, 171, 70, 0) := by decide +kernel
theorem ee113_171 : fx_tab 113 171 = some (.putfield 65, 174, 795, 70) := by decide +kernel
theorem ee113_174 : fx_tab 113 174 = some (.aload_n 0, 175, 0, 0) := by decide +kernel
theorem ee113_175 : fx_tab 113 175 = some (.sipush (512), 178, 0, 0) := by decide +kernel
theorem ee113_178 : fx_tab 113 178 = some (.newarray .boolean, 180, 71, 0) := by decide +kernel
theorem ee113_180 : fx_tab 113 180 = some (.putfield 68, 183, 796, 71) := by decide +kernel
theorem ee113_183 : fx_tab 113 183 = some (.aload_n 0, 184, 0, 0) := by decide +kernel
theorem ee113_184 : fx_tab 113 184 = some (.bipush (64), 186, 0, 0) := by decide +kernel
theorem ee113_186 : fx_tab 113 186 = some (.newarray .int, 188, 70, 0) := by decide +kernel
theorem ee113_188 : fx_tab 113 188 = some (.putfield 71, 191, 797, 70) := by decide +kernel
theorem ee113_191 : fx_tab 113 191 = some (.aload_n 0, 192, 0, 0) := by decide +kernel
theorem ee113_192 : fx_tab 113 192 = some (.sipush (512), 195, 0, 0) := by decide +kernel
theorem ee113_195 : fx_tab 113 195 = some (.newarray .int, 197, 70, 0) := by decide +kernel
theorem ee113_197 : fx_tab 113 197 = some (.putfield 74, 200, 798, 70) := by decide +kernel
theorem ee113_200 : fx_tab 113 200 = some (.aload_n 0, 201, 0, 0) := by decide +kernel
theorem ee113_201 : fx_tab 113 201 = some (.sipush (256), 204, 0, 0) := by decide +kernel
theorem ee113_204 : fx_tab 113 204 = some (.newarray .int, 206, 70, 0) := by decide +kernel
theorem ee113_206 : fx_tab 113 206 = some (.putfield 77, 209, 799, 70) := by decide +kernel
theorem ee113_209 : fx_tab 113 209 = some (.aload_n 0, 210, 0, 0) := by decide +kernel
theorem ee113_210 : fx_tab 113 210 = some (.sipush (256), 213, 0, 0) := by decide +kernel
theorem ee113_213 : fx_tab 113 213 = some (.newarray .int, 215, 70, 0) := by decide +kernel
theorem ee113_215 : fx_tab 113 215 = some (.putfield 80, 218, 800, 70) := by decide +kernel
theorem ee113_218 : fx_tab 113 218 = some (.aload_n 0, 219, 0, 0) := by decide +kernel
theorem ee113_219 : fx_tab 113 219 = some (.sipush (256), 222, 0, 0) := by decide +kernel
theorem ee113_222 : fx_tab 113 222 = some (.newarray .int, 224, 70, 0) := by decide +kernel
theorem ee113_224 : fx_tab 113 224 = some (.putfield 83, 227, 801, 70) := by decide +kernel
theorem ee113_227 : fx_tab 113 227 = some (.aload_n 0, 228, 0, 0) := by decide +kernel
theorem ee113_228 : fx_tab 113 228 = some (.bipush (64), 230, 0, 0) := by decide +kernel
theorem ee113_230 : fx_tab 113 230 = some (.newarray .int, 232, 70, 0) := by decide +kernel
theorem ee113_232 : fx_tab 113 232 = some (.putfield 86, 235, 802, 70) := by decide +kernel
theorem ee113_235 : fx_tab 113 235 = some (.aload_n 0, 236, 0, 0) := by decide +kernel
theorem ee113_236 : fx_tab 113 236 = some (.ldc 89, 238, 32768, 0) := by decide +kernel
theorem ee113_238 : fx_tab 113 238 = some (.newarray .int, 240, 70, 0) := by decide +kernel
theorem ee113_240 : fx_tab 113 240 = some (.putfield 90, 243, 803, 70) := by decide +kernel
theorem ee113_243 : fx_tab 113 243 = some (.aload_n 0, 244, 0, 0) := by decide +kernel
theorem ee113_244 : fx_tab 113 244 = some (.bipush (64), 246, 0, 0) := by decide +kernel
theorem ee113_246 : fx_tab 113 246 = some (.newarray .int, 248, 70, 0) := by decide +kernel
theorem ee113_248 : fx_tab 113 248 = some (.putfield 93, 251, 804, 70) := by decide +kernel
theorem ee113_251 : fx_tab 113 251 = some (.aload_n 0, 252, 0, 0) := by decide +kernel
theorem ee113_252 : fx_tab 113 252 = some (.sipush (256), 255, 0, 0) := by decide +kernel
theorem ee113_255 : fx_tab 113 255 = some (.newarray .int, 257, 70, 0) := by decide +kernel
theorem ee113_257 : fx_tab 113 257 = some (.putfield 96, 260, 805, 70) := by decide +kernel
theorem ee113_260 : fx_tab 113 260 = some (.aload_n 0, 261, 0, 0) := by decide +kernel
theorem ee113_261 : fx_tab 113 261 = some (.sipush (256), 264, 0, 0) := by decide +kernel
theorem ee113_264 : fx_tab 113 264 = some (.newarray .int, 266, 70, 0) := by decide +kernel
theorem ee113_266 : fx_tab 113 266 = some (.putfield 99, 269, 806, 70) := by decide +kernel
theorem ee113_269 : fx_tab 113 269 = some (.aload_n 0, 270, 0, 0) := by decide +kernel
theorem ee113_270 : fx_tab 113 270 = some (.sipush (256), 273, 0, 0) := by decide +kernel
theorem ee113_273 : fx_tab 113 273 = some (.newarray .int, 275, 70, 0) := by decide +kernel
theorem ee113_275 : fx_tab 113 275 = some (.putfield 102, 278, 807, 70) := by decide +kernel
theorem ee113_278 : fx_tab 113 278 = some (.aload_n 0, 279, 0, 0) := by decide +kernel
theorem ee113_279 : fx_tab 113 279 = some (.sipush (256), 282, 0, 0) := by decide +kernel
theorem ee113_282 : fx_tab 113 282 = some (.newarray .int, 284, 70, 0) := by decide +kernel
theorem ee113_284 : fx_tab 113 284 = some (.putfield 105, 287, 808, 70) := by decide +kernel
theorem ee113_287 : fx_tab 113 287 = some (.aload_n 0, 288, 0, 0) := by decide +kernel
theorem ee113_288 : fx_tab 113 288 = some (.sipush (192), 291, 0, 0) := by decide +kernel
theorem ee113_291 : fx_tab 113 291 = some (.newarray .int, 293, 70, 0) := by decide +kernel
theorem ee113_293 : fx_tab 113 293 = some (.putfield 108, 296, 809, 70) := by decide +kernel
theorem ee113_296 : fx_tab 113 296 = some (.aload_n 0, 297, 0, 0) := by decide +kernel
theorem ee113_297 : fx_tab 113 297 = some (.sipush (1100), 300, 0, 0) := by decide +kernel
theorem ee113_300 : fx_tab 113 300 = some (.newarray .int, 302, 70, 0) := by decide +kernel
theorem ee113_302 : fx_tab 113 302 = some (.putfield 111, 305, 811, 70) := by decide +kernel
theorem ee113_305 : fx_tab 113 305 = some (.aload_n 0, 306, 0, 0) := by decide +kernel
theorem ee113_306 : fx_tab 113 306 = some (.sipush (1100), 309, 0, 0) := by decide +kernel
theorem ee113_309 : fx_tab 113 309 = some (.newarray .boolean, 311, 71, 0) := by decide +kernel
theorem ee113_311 : fx_tab 113 311 = some (.putfield 114, 314, 812, 71) := by decide +kernel
theorem ee113_314 : fx_tab 113 314 = some (.aload_n 0, 315, 0, 0) := by decide +kernel
theorem ee113_315 : fx_tab 113 315 = some (.sipush (1100), 318, 0, 0) := by decide +kernel
theorem ee113_318 : fx_tab 113 318 = some (.newarray .int, 320, 70, 0) := by decide +kernel
theorem ee113_320 : fx_tab 113 320 = some (.putfield 117, 323, 813, 70) := by decide +kernel
theorem ee113_323 : fx_tab 113 323 = some (.aload_n 0, 324, 0, 0) := by decide +kernel
theorem ee113_324 : fx_tab 113 324 = some (.bipush (64), 326, 0, 0) := by decide +kernel
theorem ee113_326 : fx_tab 113 326 = some (.newarray .int, 328, 70, 0) := by decide +kernel
theorem ee113_328 : fx_tab 113 328 = some (.putfield 120, 331, 814, 70) := by decide +kernel
theorem ee113_331 : fx_tab 113 331 = some (.aload_n 0, 332, 0, 0) := by decide +kernel
theorem ee113_332 : fx_tab 113 332 = some (.bipush (64), 334, 0, 0) := by decide +kernel
theorem ee113_334 : fx_tab 113 334 = some (.newarray .int, 336, 70, 0) := by decide +kernel
theorem ee113_336 : fx_tab 113 336 = some (.putfield 123, 339, 815, 70) := by decide +kernel
theorem ee113_339 : fx_tab 113 339 = some (.aload_n 0, 340, 0, 0) := by decide +kernel
theorem ee113_340 : fx_tab 113 340 = some (.iconst (2), 341, 0, 0) := by decide +kernel
theorem ee113_341 : fx_tab 113 341 = some (.iconst (0), 342, 0, 0) := by decide +kernel
theorem ee113_342 : fx_tab 113 342 = some (.iconst (1), 343, 0, 0) := by decide +kernel
theorem ee113_343 : fx_tab 113 343 = some (.invokevirtual 126, 346, 101, 356) := by decide +kernel
theorem ee113_346 : fx_tab 113 346 = some (.istore_n 1, 347, 1, 0) := by decide +kernel
theorem ee113_347 : fx_tab 113 347 = some (.return_, 348, 0, 0) := by decide +kernel
theorem ee114_0 : fx_tab 114 0 = some (.iconst (-1), 1, 0, 0) := by decide +kernel
theorem ee114_1 : fx_tab 114 1 = some (.istore_n 2, 2, 2, 0) := by decide +kernel
theorem ee114_2 : fx_tab 114 2 = some (.iconst (0), 3, 0, 0) := by decide +kernel
theorem ee114_3 : fx_tab 114 3 = some (.istore_n 3, 4, 3, 0) := by decide +kernel
theorem ee114_4 : fx_tab 114 4 = some (.iload_n 3, 5, 3, 0) := by decide +kernel
theorem ee114_5 : fx_tab 114 5 = some (.aload_n 0, 6, 0, 0) := by decide +kernel
theorem ee114_6 : fx_tab 114 6 = some (.getfield 155, 9, 778, 0) := by decide +kernel
theorem ee114_9 : fx_tab 114 9 = some (.if_icmp .ge (44), 12, 53, 0) := by decide +kernel
theorem ee114_12 : fx_tab 114 12 = some (.aload_n 0, 13, 0, 0) := by decide +kernel
theorem ee114_13 : fx_tab 114 13 = some (.getfield 17, 16, 779, 70) := by decide +kernel
theorem ee114_16 : fx_tab 114 16 = some (.iload_n 3, 17, 3, 0) := by decide +kernel
theorem ee114_17 : fx_tab 114 17 = some (.iaload, 18, 0, 0) := by decide +kernel
theorem ee114_18 : fx_tab 114 18 = some (.iload_n 1, 19, 1, 0) := by decide +kernel
theorem ee114_19 : fx_tab 114 19 = some (.if_icmp .ne (28), 22, 47, 0) := by decide +kernel
theorem ee114_22 : fx_tab 114 22 = some (.aload_n 0, 23, 0, 0) := by decide +kernel
theorem ee114_23 : fx_tab 114 23 = some (.iload_n 3, 24, 3, 0) := by decide +kernel
theorem ee114_24 : fx_tab 114 24 = some (.invokevirtual 220, 27, 31, 354) := by decide +kernel
theorem ee114_27 : fx_tab 114 27 = some (.iload_n 1, 28, 1, 0) := by decide +kernel
theorem ee114_28 : fx_tab 114 28 = some (.if_icmp .ne (19), 31, 47, 0) := by decide +kernel
theorem ee114_31 : fx_tab 114 31 = some (.iload_n 2, 32, 2, 0) := by decide +kernel
theorem ee114_32 : fx_tab 114 32 = some (.iconst (-1), 33, 0, 0) := by decide +kernel
theorem ee114_33 : fx_tab 114 33 = some (.if_icmp .eq (12), 36, 45, 0) := by decide +kernel
theorem ee114_36 : fx_tab 114 36 = some (.aload_n 0, 37, 0, 0) := by decide +kernel
theorem ee114_37 : fx_tab 114 37 = some (.iload_n 3, 38, 3, 0) := by decide +kernel
theorem ee114_38 : fx_tab 114 38 = some (.iload_n 2, 39, 2, 0) := by decide +kernel
theorem ee114_39 : fx_tab 114 39 = some (.invokevirtual 223, 42, 97, 355) := by decide +kernel
theorem ee114_42 : fx_tab 114 42 = some (.ifCond .eq (5), 45, 47, 0) := by decide +kernel
theorem ee114_45 : fx_tab 114 45 = some (.iload_n 3, 46, 3, 0) := by decide +kernel
theorem ee114_46 : fx_tab 114 46 = some (.istore_n 2, 47, 2, 0) := by decide +kernel
theorem ee114_47 : fx_tab 114 47 = some (.iinc 3 (1), 50, 3, 0) := by decide +kernel
theorem ee114_50 : fx_tab 114 50 = some (.goto (-46), 53, 4, 0) := by decide +kernel
theorem ee114_53 : fx_tab 114 53 = some (.iload_n 2, 54, 2, 0) := by decide +kernel
theorem ee114_54 : fx_tab 114 54 = some (.ireturn, 55, 0, 0) := by decide +kernel
theorem ee115_0 : fx_tab 115 0 = some (.iconst (-1), 1, 0, 0) := by decide +kernel
theorem ee115_1 : fx_tab 115 1 = some (.istore_n 2, 2, 2, 0) := by decide +kernel
theorem ee115_2 : fx_tab 115 2 = some (.iconst (0), 3, 0, 0) := by decide +kernel
theorem ee115_3 : fx_tab 115 3 = some (.istore_n 3, 4, 3, 0) := by decide +kernel
theorem ee115_4 : fx_tab 115 4 = some (.iload_n 3, 5, 3, 0) := by decide +kernel
theorem ee115_5 : fx_tab 115 5 = some (.aload_n 0, 6, 0, 0) := by decide +kernel
theorem ee115_6 : fx_tab 115 6 = some (.getfield 155, 9, 778, 0) := by decide +kernel
theorem ee115_9 : fx_tab 115 9 = some (.if_icmp .ge (45), 12, 54, 0) := by decide +kernel
theorem ee115_12 : fx_tab 115 12 = some (.aload_n 0, 13, 0, 0) := by decide +kernel
theorem ee115_13 : fx_tab 115 13 = some (.getfield 17, 16, 779, 70) := by decide +kernel
theorem ee115_16 : fx_tab 115 16 = some (.iload_n 3, 17, 3, 0) := by decide +kernel
theorem ee115_17 : fx_tab 115 17 = some (.iaload, 18, 0, 0) := by decide +kernel
theorem ee115_18 : fx_tab 115 18 = some (.iload_n 1, 19, 1, 0) := by decide +kernel
theorem ee115_19 : fx_tab 115 19 = some (.if_icmp .ne (29), 22, 48, 0) := by decide +kernel
theorem ee115_22 : fx_tab 115 22 = some (.aload_n 0, 23, 0, 0) := by decide +kernel
theorem ee115_23 : fx_tab 115 23 = some (.getfield 38, 26, 786, 70) := by decide +kernel
theorem ee115_26 : fx_tab 115 26 = some (.iload_n 3, 27, 3, 0) := by decide +kernel
theorem ee115_27 : fx_tab 115 27 = some (.iaload, 28, 0, 0) := by decide +kernel
theorem ee115_28 : fx_tab 115 28 = some (.iconst (-1), 29, 0, 0) := by decide +kernel
theorem ee115_29 : fx_tab 115 29 = some (.if_icmp .ne (19), 32, 48, 0) := by decide +kernel
theorem ee115_32 : fx_tab 115 32 = some (.iload_n 2, 33, 2, 0) := by decide +kernel
theorem ee115_33 : fx_tab 115 33 = some (.iconst (-1), 34, 0, 0) := by decide +kernel
theorem ee115_34 : fx_tab 115 34 = some (.if_icmp .eq (12), 37, 46, 0) := by decide +kernel
theorem ee115_37 : fx_tab 115 37 = some (.aload_n 0, 38, 0, 0) := by decide +kernel
theorem ee115_38 : fx_tab 115 38 = some (.iload_n 3, 39, 3, 0) := by decide +kernel
theorem ee115_39 : fx_tab 115 39 = some (.iload_n 2, 40, 2, 0) := by decide +kernel
theorem ee115_40 : fx_tab 115 40 = some (.invokevirtual 223, 43, 97, 355) := by decide +kernel
theorem ee115_43 : fx_tab 115 43 = some (.ifCond .eq (5), 46, 48, 0) := by decide +kernel
theorem ee115_46 : fx_tab 115 46 = some (.iload_n 3, 47, 3, 0) := by decide +kernel
theorem ee115_47 : fx_tab 115 47 = some (.istore_n 2, 48, 2, 0) := by decide +kernel
theorem ee115_48 : fx_tab 115 48 = some (.iinc 3 (1), 51, 3, 0) := by decide +kernel
theorem ee115_51 : fx_tab 115 51 = some (.goto (-47), 54, 4, 0) := by decide +kernel
theorem ee115_54 : fx_tab 115 54 = some (.iload_n 2, 55, 2, 0) := by decide +kernel
theorem ee115_55 : fx_tab 115 55 = some (.ireturn, 56, 0, 0) := by decide +kernel
theorem ee116_0 : fx_tab 116 0 = some (.iload_n 1, 1, 1, 0) := by decide +kernel
theorem ee116_1 : fx_tab 116 1 = some (.iconst (-1), 2, 0, 0) := by decide +kernel
theorem ee116_2 : fx_tab 116 2 = some (.if_icmp .ne (10), 5, 12, 0) := by decide +kernel
theorem ee116_5 : fx_tab 116 5 = some (.iload_n 2, 6, 2, 0) := by decide +kernel
theorem ee116_6 : fx_tab 116 6 = some (.iconst (-1), 7, 0, 0) := by decide +kernel
theorem ee116_7 : fx_tab 116 7 = some (.if_icmp .ne (5), 10, 12, 0) := by decide +kernel
theorem ee116_10 : fx_tab 116 10 = some (.iconst (-1), 11, 0, 0) := by decide +kernel
theorem ee116_11 : fx_tab 116 11 = some (.ireturn, 12, 0, 0) := by decide +kernel
theorem ee116_12 : fx_tab 116 12 = some (.iload_n 1, 13, 1, 0) := by decide +kernel
theorem ee116_13 : fx_tab 116 13 = some (.iconst (-1), 14, 0, 0) := by decide +kernel
theorem ee116_14 : fx_tab 116 14 = some (.if_icmp .eq (17), 17, 31, 0) := by decide +kernel
theorem ee116_17 : fx_tab 116 17 = some (.iload_n 2, 18, 2, 0) := by decide +kernel
theorem ee116_18 : fx_tab 116 18 = some (.iconst (-1), 19, 0, 0) := by decide +kernel
theorem ee116_19 : fx_tab 116 19 = some (.if_icmp .eq (16), 22, 35, 0) := by decide +kernel
theorem ee116_22 : fx_tab 116 22 = some (.aload_n 0, 23, 0, 0) := by decide +kernel
theorem ee116_23 : fx_tab 116 23 = some (.iload_n 2, 24, 2, 0) := by decide +kernel
theorem ee116_24 : fx_tab 116 24 = some (.iload_n 1, 25, 1, 0) := by decide +kernel
theorem ee116_25 : fx_tab 116 25 = some (.invokevirtual 223, 28, 97, 355) := by decide +kernel
theorem ee116_28 : fx_tab 116 28 = some (.ifCond .eq (7), 31, 35, 0) := by decide +kernel
theorem ee116_31 : fx_tab 116 31 = some (.iload_n 2, 32, 2, 0) := by decide +kernel
theorem ee116_32 : fx_tab 116 32 = some (.goto (4), 35, 36, 0) := by decide +kernel
theorem ee116_35 : fx_tab 116 35 = some (.iload_n 1, 36, 1, 0) := by decide +kernel
theorem ee116_36 : fx_tab 116 36 = some (.istore 4, 38, 4, 0) := by decide +kernel
theorem ee116_38 : fx_tab 116 38 = some (.iload 4, 40, 4, 0) := by decide +kernel
theorem ee116_40 : fx_tab 116 40 = some (.iload_n 1, 41, 1, 0) := by decide +kernel
theorem ee116_41 : fx_tab 116 41 = some (.if_icmp .ne (7), 44, 48, 0) := by decide +kernel
theorem ee116_44 : fx_tab 116 44 = some (.iload_n 2, 45, 2, 0) := by decide +kernel
theorem ee116_45 : fx_tab 116 45 = some (.goto (4), 48, 49, 0) := by decide +kernel
theorem ee116_48 : fx_tab 116 48 = some (.iload_n 1, 49, 1, 0) := by decide +kernel
theorem ee116_49 : fx_tab 116 49 = some (.istore 5, 51, 5, 0) := by decide +kernel
theorem ee116_51 : fx_tab 116 51 = some (.iload_n 3, 52, 3, 0) := by decide +kernel
theorem ee116_52 : fx_tab 116 52 = some (.ifCond .ne (31), 55, 83, 0) := by decide +kernel
theorem ee116_55 : fx_tab 116 55 = some (.aload_n 0, 56, 0, 0) := by decide +kernel
theorem ee116_56 : fx_tab 116 56 = some (.iload 4, 58, 4, 0) := by decide +kernel
theorem ee116_58 : fx_tab 116 58 = some (.iconst (0), 59, 0, 0) := by decide +kernel
theorem ee116_59 : fx_tab 116 59 = some (.invokevirtual 258, 62, 76, 355) := by decide +kernel
theorem ee116_62 : fx_tab 116 62 = some (.ifCond .ne (13), 65, 75, 0) := by decide +kernel
theorem ee116_65 : fx_tab 116 65 = some (.aload_n 0, 66, 0, 0) := by decide +kernel
theorem ee116_66 : fx_tab 116 66 = some (.iload 4, 68, 4, 0) := by decide +kernel
theorem ee116_68 : fx_tab 116 68 = some (.iconst (1), 69, 0, 0) := by decide +kernel
theorem ee116_69 : fx_tab 116 69 = some (.invokevirtual 258, 72, 76, 355) := by decide +kernel
theorem ee116_72 : fx_tab 116 72 = some (.ifCond .eq (7), 75, 79, 0) := by decide +kernel
theorem ee116_75 : fx_tab 116 75 = some (.iconst (1), 76, 0, 0) := by decide +kernel
theorem ee116_76 : fx_tab 116 76 = some (.goto (34), 79, 110, 0) := by decide +kernel
theorem ee116_79 : fx_tab 116 79 = some (.iconst (0), 80, 0, 0) := by decide +kernel
theorem ee116_80 : fx_tab 116 80 = some (.goto (30), 83, 110, 0) := by decide +kernel
theorem ee116_83 : fx_tab 116 83 = some (.aload_n 0, 84, 0, 0) := by decide +kernel
theorem ee116_84 : fx_tab 116 84 = some (.iload 4, 86, 4, 0) := by decide +kernel
theorem ee116_86 : fx_tab 116 86 = some (.iload_n 3, 87, 3, 0) := by decide +kernel
theorem ee116_87 : fx_tab 116 87 = some (.iconst (1), 88, 0, 0) := by decide +kernel
theorem ee116_88 : fx_tab 116 88 = some (.isub, 89, 0, 0) := by decide +kernel
theorem ee116_89 : fx_tab 116 89 = some (.invokevirtual 258, 92, 76, 355) := by decide +kernel
theorem ee116_92 : fx_tab 116 92 = some (.ifCond .ne (13), 95, 105, 0) := by decide +kernel
theorem ee116_95 : fx_tab 116 95 = some (.aload_n 0, 96, 0, 0) := by decide +kernel
theorem ee116_96 : fx_tab 116 96 = some (.iload 4, 98, 4, 0) := by decide +kernel
theorem ee116_98 : fx_tab 116 98 = some (.iload_n 3, 99, 3, 0) := by decide +kernel
theorem ee116_99 : fx_tab 116 99 = some (.invokevirtual 258, 102, 76, 355) := by decide +kernel
theorem ee116_102 : fx_tab 116 102 = some (.ifCond .ne (7), 105, 109, 0) := by decide +kernel
theorem ee116_105 : fx_tab 116 105 = some (.iconst (1), 106, 0, 0) := by decide +kernel
theorem ee116_106 : fx_tab 116 106 = some (.goto (4), 109, 110, 0) := by decide +kernel
theorem ee116_109 : fx_tab 116 109 = some (.iconst (0), 110, 0, 0) := by decide +kernel
theorem ee116_110 : fx_tab 116 110 = some (.istore 6, 112, 6, 0) := by decide +kernel
theorem ee116_112 : fx_tab 116 112 = some (.iload 6, 114, 6, 0) := by decide +kernel
theorem ee116_114 : fx_tab 116 114 = some (.ifCond .eq (8), 117, 122, 0) := by decide +kernel
theorem ee116_117 : fx_tab 116 117 = some (.iload 4, 119, 4, 0) := by decide +kernel
theorem ee116_119 : fx_tab 116 119 = some (.goto (5), 122, 124, 0) := by decide +kernel
theorem ee116_122 : fx_tab 116 122 = some (.iload 5, 124, 5, 0) := by decide +kernel
theorem ee116_124 : fx_tab 116 124 = some (.ireturn, 125, 0, 0) := by decide +kernel
theorem ee117_0 : fx_tab 117 0 = some (.aload_n 0, 1, 0, 0) := by decide +kernel
theorem ee117_1 : fx_tab 117 1 = some (.getfield 25, 4, 2, 17) := by decide +kernel
theorem ee117_4 : fx_tab 117 4 = some (.aload_n 0, 5, 0, 0) := by decide +kernel
theorem ee117_5 : fx_tab 117 5 = some (.invokevirtual 131, 8, 105, 161) := by decide +kernel
theorem ee117_8 : fx_tab 117 8 = some (.invokevirtual 135, 11, 15, 274) := by decide +kernel
theorem ee117_11 : fx_tab 117 11 = some (.iload_n 1, 12, 1, 0) := by decide +kernel
theorem ee117_12 : fx_tab 117 12 = some (.tableswitch (52) (0) (2) #[(28), (36), (44)], 40, 64, 0) := by decide +kernel
theorem ee117_40 : fx_tab 117 40 = some (.aload_n 0, 41, 0, 0) := by decide +kernel
theorem ee117_41 : fx_tab 117 41 = some (.getfield 25, 44, 2, 17) := by decide +kernel
theorem ee117_44 : fx_tab 117 44 = some (.getfield 231, 47, 448, 0) := by decide +kernel
theorem ee117_47 : fx_tab 117 47 = some (.ireturn, 48, 0, 0) := by decide +kernel
theorem ee117_48 : fx_tab 117 48 = some (.aload_n 0, 49, 0, 0) := by decide +kernel
theorem ee117_49 : fx_tab 117 49 = some (.getfield 25, 52, 2, 17) := by decide +kernel
theorem ee117_52 : fx_tab 117 52 = some (.getfield 234, 55, 449, 0) := by decide +kernel
theorem ee117_55 : fx_tab 117 55 = some (.ireturn, 56, 0, 0) := by decide +kernel
theorem ee117_56 : fx_tab 117 56 = some (.aload_n 0, 57, 0, 0) := by decide +kernel
theorem ee117_57 : fx_tab 117 57 = some (.getfield 25, 60, 2, 17) := by decide +kernel
theorem ee117_60 : fx_tab 117 60 = some (.getfield 237, 63, 450, 0) := by decide +kernel
theorem ee117_63 : fx_tab 117 63 = some (.ireturn, 64, 0, 0) := by decide +kernel
theorem ee117_64 : fx_tab 117 64 = some (.iconst (-1), 65, 0, 0) := by decide +kernel
theorem ee117_65 : fx_tab 117 65 = some (.ireturn, 66, 0, 0) := by decide +kernel
theorem ee118_0 : fx_tab 118 0 = some (.aload_n 0, 1, 0, 0) := by decide +kernel
theorem ee118_1 : fx_tab 118 1 = some (.getfield 271, 4, 4, 0) := by decide +kernel
theorem ee118_4 : fx_tab 118 4 = some (.istore_n 1, 5, 1, 0) := by decide +kernel
theorem ee118_5 : fx_tab 118 5 = some (.iload_n 1, 6, 1, 0) := by decide +kernel
theorem ee118_6 : fx_tab 118 6 = some (.aload_n 0, 7, 0, 0) := by decide +kernel
theorem ee118_7 : fx_tab 118 7 = some (.getfield 20, 10, 1, 13) := by decide +kernel
theorem ee118_10 : fx_tab 118 10 = some (.getfield 140, 13, 192, 0) := by decide +kernel
theorem ee118_13 : fx_tab 118 13 = some (.if_icmp .ge (23), 16, 36, 0) := by decide +kernel
theorem ee118_16 : fx_tab 118 16 = some (.aload_n 0, 17, 0, 0) := by decide +kernel
theorem ee118_17 : fx_tab 118 17 = some (.getfield 28, 20, 3, 44) := by decide +kernel
theorem ee118_20 : fx_tab 118 20 = some (.iload_n 1, 21, 1, 0) := by decide +kernel
theorem ee118_21 : fx_tab 118 21 = some (.new 26, 24, 4, 6) := by decide +kernel
theorem ee118_24 : fx_tab 118 24 = some (.dup, 25, 0, 0) := by decide +kernel
theorem ee118_25 : fx_tab 118 25 = some (.iload_n 1, 26, 1, 0) := by decide +kernel
theorem ee118_26 : fx_tab 118 26 = some (.invokespecial 277, 29, 108, 226) := by decide +kernel
theorem ee118_29 : fx_tab 118 29 = some (.aastore, 30, 0, 0) := by decide +kernel
theorem ee118_30 : fx_tab 118 30 = some (.iinc 1 (1), 33, 1, 0) := by decide +kernel
theorem ee118_33 : fx_tab 118 33 = some (.goto (-28), 36, 5, 0) := by decide +kernel
theorem ee118_36 : fx_tab 118 36 = some (.aload_n 0, 37, 0, 0) := by decide +kernel
theorem ee118_37 : fx_tab 118 37 = some (.aload_n 0, 38, 0, 0) := by decide +kernel
theorem ee118_38 : fx_tab 118 38 = some (.getfield 271, 41, 4, 0) := by decide +kernel
theorem ee118_41 : fx_tab 118 41 = some (.aload_n 0, 42, 0, 0) := by decide +kernel
theorem ee118_42 : fx_tab 118 42 = some (.getfield 20, 45, 1, 13) := by decide +kernel
theorem ee118_45 : fx_tab 118 45 = some (.getfield 140, 48, 192, 0) := by decide +kernel
theorem ee118_48 : fx_tab 118 48 = some (.invokestatic 279, 51, 1001, 0) := by decide +kernel
theorem ee118_51 : fx_tab 118 51 = some (.putfield 271, 54, 4, 0) := by decide +kernel
theorem ee118_54 : fx_tab 118 54 = some (.return_, 55, 0, 0) := by decide +kernel
theorem ee119_0 : fx_tab 119 0 = some (.aload_n 0, 1, 0, 0) := by decide +kernel
theorem ee119_1 : fx_tab 119 1 = some (.getfield 20, 4, 1, 13) := by decide +kernel
theorem ee119_4 : fx_tab 119 4 = some (.iload_n 1, 5, 1, 0) := by decide +kernel
theorem ee119_5 : fx_tab 119 5 = some (.invokevirtual 86, 8, 5, 210) := by decide +kernel
theorem ee119_8 : fx_tab 119 8 = some (.ifCond .eq (19), 11, 27, 0) := by decide +kernel
theorem ee119_11 : fx_tab 119 11 = some (.aload_n 0, 12, 0, 0) := by decide +kernel
theorem ee119_12 : fx_tab 119 12 = some (.getfield 20, 15, 1, 13) := by decide +kernel
theorem ee119_15 : fx_tab 119 15 = some (.iload_n 2, 16, 2, 0) := by decide +kernel
theorem ee119_16 : fx_tab 119 16 = some (.invokevirtual 86, 19, 5, 210) := by decide +kernel
theorem ee119_19 : fx_tab 119 19 = some (.ifCond .eq (8), 22, 27, 0) := by decide +kernel
theorem ee119_22 : fx_tab 119 22 = some (.iload_n 1, 23, 1, 0) := by decide +kernel
theorem ee119_23 : fx_tab 119 23 = some (.iload_n 2, 24, 2, 0) := by decide +kernel
theorem ee119_24 : fx_tab 119 24 = some (.if_icmp .ne (5), 27, 29, 0) := by decide +kernel
theorem ee119_27 : fx_tab 119 27 = some (.iconst (0), 28, 0, 0) := by decide +kernel
theorem ee119_28 : fx_tab 119 28 = some (.ireturn, 29, 0, 0) := by decide +kernel
theorem ee119_29 : fx_tab 119 29 = some (.aload_n 0, 30, 0, 0) := by decide +kernel
theorem ee119_30 : fx_tab 119 30 = some (.getfield 28, 33, 3, 44) := by decide +kernel
theorem ee119_33 : fx_tab 119 33 = some (.iload_n 1, 34, 1, 0) := by decide +kernel
theorem ee119_34 : fx_tab 119 34 = some (.aaload, 35, 0, 0) := by decide +kernel
theorem ee119_35 : fx_tab 119 35 = some (.getfield 101, 38, 257, 21) := by decide +kernel
theorem ee119_38 : fx_tab 119 38 = some (.getfield 105, 41, 704, 20) := by decide +kernel
theorem ee119_41 : fx_tab 119 41 = some (.astore 5, 43, 5, 0) := by decide +kernel
theorem ee119_43 : fx_tab 119 43 = some (.iload_n 3, 44, 3, 0) := by decide +kernel
theorem ee119_44 : fx_tab 119 44 = some (.iconst (1), 45, 0, 0) := by decide +kernel
theorem ee119_45 : fx_tab 119 45 = some (.if_icmp .lt (18), 48, 63, 0) := by decide +kernel
theorem ee119_48 : fx_tab 119 48 = some (.iload_n 3, 49, 3, 0) := by decide +kernel
theorem ee119_49 : fx_tab 119 49 = some (.bipush (8), 51, 0, 0) := by decide +kernel
theorem ee119_51 : fx_tab 119 51 = some (.if_icmp .gt (12), 54, 63, 0) := by decide +kernel
theorem ee119_54 : fx_tab 119 54 = some (.aload 5, 56, 5, 0) := by decide +kernel
theorem ee119_56 : fx_tab 119 56 = some (.getfield 110, 59, 641, 0) := by decide +kernel
theorem ee119_59 : fx_tab 119 59 = some (.iconst (4), 60, 0, 0) := by decide +kernel
theorem ee119_60 : fx_tab 119 60 = some (.if_icmp .lt (5), 63, 65, 0) := by decide +kernel
theorem ee119_63 : fx_tab 119 63 = some (.iconst (0), 64, 0, 0) := by decide +kernel
theorem ee119_64 : fx_tab 119 64 = some (.ireturn, 65, 0, 0) := by decide +kernel
theorem ee119_65 : fx_tab 119 65 = some (.aload_n 0, 66, 0, 0) := by decide +kernel
theorem ee119_66 : fx_tab 119 66 = some (.getfield 39, 69, 6, 20) := by decide +kernel
theorem ee119_69 : fx_tab 119 69 = some (.invokevirtual 113, 72, 21, 321) := by decide +kernel
theorem ee119_72 : fx_tab 119 72 = some (.astore 6, 74, 6, 0) := by decide +kernel
theorem ee119_74 : fx_tab 119 74 = some (.aload 6, 76, 6, 0) := by decide +kernel
theorem ee119_76 : fx_tab 119 76 = some (.ifnonnull (12), 79, 88, 0) := by decide +kernel
theorem ee119_79 : fx_tab 119 79 = some (.new 117, 82, 5, 13) := by decide +kernel
theorem ee119_82 : fx_tab 119 82 = some (.dup, 83, 0, 0) := by decide +kernel
theorem ee119_83 : fx_tab 119 83 = some (.invokespecial 119, 86, 58, 241) := by decide +kernel
theorem ee119_86 : fx_tab 119 86 = some (.astore 6, 88, 6, 0) := by decide +kernel
theorem ee119_88 : fx_tab 119 88 = some (.aload 6, 90, 6, 0) := by decide +kernel
theorem ee119_90 : fx_tab 119 90 = some (.iload_n 1, 91, 1, 0) := by decide +kernel
theorem ee119_91 : fx_tab 119 91 = some (.iload_n 2, 92, 2, 0) := by decide +kernel
theorem ee119_92 : fx_tab 119 92 = some (.iload_n 3, 93, 3, 0) := by decide +kernel
theorem ee119_93 : fx_tab 119 93 = some (.iload 4, 95, 4, 0) := by decide +kernel
theorem ee119_95 : fx_tab 119 95 = some (.invokevirtual 120, 98, 109, 245) := by decide +kernel
theorem ee119_98 : fx_tab 119 98 = some (.aload 5, 100, 5, 0) := by decide +kernel
theorem ee119_100 : fx_tab 119 100 = some (.aload 6, 102, 6, 0) := by decide +kernel
theorem ee119_102 : fx_tab 119 102 = some (.invokevirtual 124, 105, 19, 322) := by decide +kernel
theorem ee119_105 : fx_tab 119 105 = some (.aload_n 0, 106, 0, 0) := by decide +kernel
theorem ee119_106 : fx_tab 119 106 = some (.dup, 107, 0, 0) := by decide +kernel
theorem ee119_107 : fx_tab 119 107 = some (.getfield 71, 110, 11, 0) := by decide +kernel
theorem ee119_110 : fx_tab 119 110 = some (.iconst (1), 111, 0, 0) := by decide +kernel
theorem ee119_111 : fx_tab 119 111 = some (.iadd, 112, 0, 0) := by decide +kernel
theorem ee119_112 : fx_tab 119 112 = some (.putfield 71, 115, 11, 0) := by decide +kernel
theorem ee119_115 : fx_tab 119 115 = some (.iconst (1), 116, 0, 0) := by decide +kernel
theorem ee119_116 : fx_tab 119 116 = some (.ireturn, 117, 0, 0) := by decide +kernel
theorem ee120_0 : fx_tab 120 0 = some (.aload_n 1, 1, 1, 0) := by decide +kernel
theorem ee120_1 : fx_tab 120 1 = some (.aload_n 2, 2, 2, 0) := by decide +kernel
theorem ee120_2 : fx_tab 120 2 = some (.invokevirtual 312, 5, 64, 290) := by decide +kernel
theorem ee120_5 : fx_tab 120 5 = some (.astore_n 3, 6, 3, 0) := by decide +kernel
theorem ee120_6 : fx_tab 120 6 = some (.aload_n 3, 7, 3, 0) := by decide +kernel
theorem ee120_7 : fx_tab 120 7 = some (.ifnull (22), 10, 29, 0) := by decide +kernel
theorem ee120_10 : fx_tab 120 10 = some (.aload_n 3, 11, 3, 0) := by decide +kernel
theorem ee120_11 : fx_tab 120 11 = some (.dup, 12, 0, 0) := by decide +kernel
theorem ee120_12 : fx_tab 120 12 = some (.getfield 316, 15, 386, 0) := by decide +kernel
theorem ee120_15 : fx_tab 120 15 = some (.iconst (1), 16, 0, 0) := by decide +kernel
theorem ee120_16 : fx_tab 120 16 = some (.iadd, 17, 0, 0) := by decide +kernel
theorem ee120_17 : fx_tab 120 17 = some (.putfield 316, 20, 386, 0) := by decide +kernel
theorem ee120_20 : fx_tab 120 20 = some (.aload_n 0, 21, 0, 0) := by decide +kernel
theorem ee120_21 : fx_tab 120 21 = some (.aload_n 1, 22, 1, 0) := by decide +kernel
theorem ee120_22 : fx_tab 120 22 = some (.aload_n 3, 23, 3, 0) := by decide +kernel
theorem ee120_23 : fx_tab 120 23 = some (.invokevirtual 187, 26, 104, 163) := by decide +kernel
theorem ee120_26 : fx_tab 120 26 = some (.goto (42), 29, 68, 0) := by decide +kernel
theorem ee120_29 : fx_tab 120 29 = some (.aload_n 2, 30, 2, 0) := by decide +kernel
theorem ee120_30 : fx_tab 120 30 = some (.getfield 244, 33, 128, 15) := by decide +kernel
theorem ee120_33 : fx_tab 120 33 = some (.getfield 321, 36, 328, 1) := by decide +kernel
theorem ee120_36 : fx_tab 120 36 = some (.ifCond .ne (32), 39, 68, 0) := by decide +kernel
theorem ee120_39 : fx_tab 120 39 = some (.aload_n 2, 40, 2, 0) := by decide +kernel
theorem ee120_40 : fx_tab 120 40 = some (.getfield 244, 43, 128, 15) := by decide +kernel
theorem ee120_43 : fx_tab 120 43 = some (.iconst (1), 44, 0, 0) := by decide +kernel
theorem ee120_44 : fx_tab 120 44 = some (.putfield 321, 47, 328, 1) := by decide +kernel
theorem ee120_47 : fx_tab 120 47 = some (.aload_n 1, 48, 1, 0) := by decide +kernel
theorem ee120_48 : fx_tab 120 48 = some (.getfield 216, 51, 512, 20) := by decide +kernel
theorem ee120_51 : fx_tab 120 51 = some (.aload_n 2, 52, 2, 0) := by decide +kernel
theorem ee120_52 : fx_tab 120 52 = some (.getfield 244, 55, 128, 15) := by decide +kernel
theorem ee120_55 : fx_tab 120 55 = some (.invokevirtual 124, 58, 19, 322) := by decide +kernel
theorem ee120_58 : fx_tab 120 58 = some (.aload_n 0, 59, 0, 0) := by decide +kernel
theorem ee120_59 : fx_tab 120 59 = some (.dup, 60, 0, 0) := by decide +kernel
theorem ee120_60 : fx_tab 120 60 = some (.getfield 83, 63, 15, 0) := by decide +kernel
theorem ee120_63 : fx_tab 120 63 = some (.iconst (1), 64, 0, 0) := by decide +kernel
theorem ee120_64 : fx_tab 120 64 = some (.iadd, 65, 0, 0) := by decide +kernel
theorem ee120_65 : fx_tab 120 65 = some (.putfield 83, 68, 15, 0) := by decide +kernel
theorem ee120_68 : fx_tab 120 68 = some (.return_, 69, 0, 0) := by decide +kernel
theorem ee121_0 : fx_tab 121 0 = some (.aload_n 0, 1, 0, 0) := by decide +kernel
theorem ee121_1 : fx_tab 121 1 = some (.getfield 20, 4, 1, 13) := by decide +kernel
theorem ee121_4 : fx_tab 121 4 = some (.iload_n 1, 5, 1, 0) := by decide +kernel
theorem ee121_5 : fx_tab 121 5 = some (.invokevirtual 86, 8, 5, 210) := by decide +kernel
theorem ee121_8 : fx_tab 121 8 = some (.ifCond .ne (13), 11, 21, 0) := by decide +kernel
theorem ee121_11 : fx_tab 121 11 = some (.new 159, 14, 901, 0) := by decide +kernel
theorem ee121_14 : fx_tab 121 14 = some (.dup, 15, 0, 0) := by decide +kernel
theorem ee121_20 : fx_tab 121 20 = some (.athrow, 21, 0, 0) := by decide +kernel
theorem ee121_21 : fx_tab 121 21 = some (.aload_n 0, 22, 0, 0) := by decide +kernel
theorem ee121_22 : fx_tab 121 22 = some (.getfield 28, 25, 3, 44) := by decide +kernel
theorem ee121_25 : fx_tab 121 25 = some (.iload_n 1, 26, 1, 0) := by decide +kernel
theorem ee121_26 : fx_tab 121 26 = some (.aaload, 27, 0, 0) := by decide +kernel
theorem ee121_27 : fx_tab 121 27 = some (.getfield 166, 30, 258, 18) := by decide +kernel
theorem ee121_30 : fx_tab 121 30 = some (.astore_n 2, 31, 2, 0) := by decide +kernel
theorem ee121_31 : fx_tab 121 31 = some (.aload_n 2, 32, 2, 0) := by decide +kernel
theorem ee121_32 : fx_tab 121 32 = some (.getfield 170, 35, 513, 0) := by decide +kernel
theorem ee121_35 : fx_tab 121 35 = some (.ifCond .ne (13), 38, 48, 0) := by decide +kernel
theorem ee121_38 : fx_tab 121 38 = some (.new 175, 41, 902, 0) := by decide +kernel
theorem ee121_41 : fx_tab 121 41 = some (.dup, 42, 0, 0) := by decide +kernel
theorem ee121_47 : fx_tab 121 47 = some (.athrow, 48, 0, 0) := by decide +kernel
theorem ee121_48 : fx_tab 121 48 = some (.aload_n 2, 49, 2, 0) := by decide +kernel
theorem ee121_49 : fx_tab 121 49 = some (.invokevirtual 180, 52, 16, 289) := by decide +kernel
theorem ee121_52 : fx_tab 121 52 = some (.istore_n 3, 53, 3, 0) := by decide +kernel
theorem ee121_53 : fx_tab 121 53 = some (.aload_n 2, 54, 2, 0) := by decide +kernel
theorem ee121_54 : fx_tab 121 54 = some (.invokevirtual 183, 57, 63, 289) := by decide +kernel
theorem ee121_57 : fx_tab 121 57 = some (.astore 4, 59, 4, 0) := by decide +kernel
theorem ee121_59 : fx_tab 121 59 = some (.aload 4, 61, 4, 0) := by decide +kernel
theorem ee121_61 : fx_tab 121 61 = some (.ifnull (10), 64, 71, 0) := by decide +kernel
theorem ee121_64 : fx_tab 121 64 = some (.aload_n 0, 65, 0, 0) := by decide +kernel
theorem ee121_65 : fx_tab 121 65 = some (.aload_n 2, 66, 2, 0) := by decide +kernel
theorem ee121_66 : fx_tab 121 66 = some (.aload 4, 68, 4, 0) := by decide +kernel
theorem ee121_68 : fx_tab 121 68 = some (.invokevirtual 187, 71, 104, 163) := by decide +kernel
theorem ee121_71 : fx_tab 121 71 = some (.iload_n 3, 72, 3, 0) := by decide +kernel
theorem ee121_72 : fx_tab 121 72 = some (.ireturn, 73, 0, 0) := by decide +kernel
theorem ee122_0 : fx_tab 122 0 = some (.aload_n 0, 1, 0, 0) := by decide +kernel
theorem ee122_1 : fx_tab 122 1 = some (.iload_n 2, 2, 2, 0) := by decide +kernel
theorem ee122_2 : fx_tab 122 2 = some (.aload_n 1, 3, 1, 0) := by decide +kernel
theorem ee122_3 : fx_tab 122 3 = some (.iconst (0), 4, 0, 0) := by decide +kernel
theorem ee122_4 : fx_tab 122 4 = some (.aaload, 5, 0, 0) := by decide +kernel
theorem ee122_5 : fx_tab 122 5 = some (.aload_n 1, 6, 1, 0) := by decide +kernel
theorem ee122_6 : fx_tab 122 6 = some (.iconst (1), 7, 0, 0) := by decide +kernel
theorem ee122_7 : fx_tab 122 7 = some (.aaload, 8, 0, 0) := by decide +kernel
theorem ee122_8 : fx_tab 122 8 = some (.iconst (0), 9, 0, 0) := by decide +kernel
theorem ee122_9 : fx_tab 122 9 = some (.invokevirtual 55, 12, 111, 309) := by decide +kernel
theorem ee122_12 : fx_tab 122 12 = some (.aload_n 0, 13, 0, 0) := by decide +kernel
theorem ee122_13 : fx_tab 122 13 = some (.iload_n 2, 14, 2, 0) := by decide +kernel
theorem ee122_14 : fx_tab 122 14 = some (.aload_n 1, 15, 1, 0) := by decide +kernel
theorem ee122_15 : fx_tab 122 15 = some (.iconst (2), 16, 0, 0) := by decide +kernel
theorem ee122_16 : fx_tab 122 16 = some (.aaload, 17, 0, 0) := by decide +kernel
theorem ee122_17 : fx_tab 122 17 = some (.aload_n 1, 18, 1, 0) := by decide +kernel
theorem ee122_18 : fx_tab 122 18 = some (.iconst (3), 19, 0, 0) := by decide +kernel
theorem ee122_19 : fx_tab 122 19 = some (.aaload, 20, 0, 0) := by decide +kernel
theorem ee122_20 : fx_tab 122 20 = some (.iconst (1), 21, 0, 0) := by decide +kernel
theorem ee122_21 : fx_tab 122 21 = some (.invokevirtual 55, 24, 111, 309) := by decide +kernel
theorem ee122_24 : fx_tab 122 24 = some (.aload_n 0, 25, 0, 0) := by decide +kernel
theorem ee122_25 : fx_tab 122 25 = some (.iload_n 2, 26, 2, 0) := by decide +kernel
theorem ee122_26 : fx_tab 122 26 = some (.aload_n 0, 27, 0, 0) := by decide +kernel
theorem ee122_27 : fx_tab 122 27 = some (.getfield 34, 30, 580, 42) := by decide +kernel
theorem ee122_30 : fx_tab 122 30 = some (.iconst (0), 31, 0, 0) := by decide +kernel
theorem ee122_31 : fx_tab 122 31 = some (.aaload, 32, 0, 0) := by decide +kernel
theorem ee122_32 : fx_tab 122 32 = some (.aload_n 0, 33, 0, 0) := by decide +kernel
theorem ee122_33 : fx_tab 122 33 = some (.getfield 34, 36, 580, 42) := by decide +kernel
theorem ee122_36 : fx_tab 122 36 = some (.iconst (1), 37, 0, 0) := by decide +kernel
theorem ee122_37 : fx_tab 122 37 = some (.aaload, 38, 0, 0) := by decide +kernel
theorem ee122_38 : fx_tab 122 38 = some (.iconst (0), 39, 0, 0) := by decide +kernel
theorem ee122_39 : fx_tab 122 39 = some (.invokevirtual 59, 42, 112, 309) := by decide +kernel
theorem ee122_42 : fx_tab 122 42 = some (.aload_n 0, 43, 0, 0) := by decide +kernel
theorem ee122_43 : fx_tab 122 43 = some (.iload_n 2, 44, 2, 0) := by decide +kernel
theorem ee122_44 : fx_tab 122 44 = some (.aload_n 0, 45, 0, 0) := by decide +kernel
theorem ee122_45 : fx_tab 122 45 = some (.getfield 34, 48, 580, 42) := by decide +kernel
theorem ee122_48 : fx_tab 122 48 = some (.iconst (2), 49, 0, 0) := by decide +kernel
theorem ee122_49 : fx_tab 122 49 = some (.aaload, 50, 0, 0) := by decide +kernel
theorem ee122_50 : fx_tab 122 50 = some (.aload_n 0, 51, 0, 0) := by decide +kernel
theorem ee122_51 : fx_tab 122 51 = some (.getfield 34, 54, 580, 42) := by decide +kernel
theorem ee122_54 : fx_tab 122 54 = some (.iconst (3), 55, 0, 0) := by decide +kernel
theorem ee122_55 : fx_tab 122 55 = some (.aaload, 56, 0, 0) := by decide +kernel
theorem ee122_56 : fx_tab 122 56 = some (.iconst (2), 57, 0, 0) := by decide +kernel
theorem ee122_57 : fx_tab 122 57 = some (.invokevirtual 59, 60, 112, 309) := by decide +kernel
theorem ee122_60 : fx_tab 122 60 = some (.return_, 61, 0, 0) := by decide +kernel
theorem ee123_0 : fx_tab 123 0 = some (.iconst (0), 1, 0, 0) := by decide +kernel
theorem ee123_1 : fx_tab 123 1 = some (.istore_n 3, 2, 3, 0) := by decide +kernel
theorem ee123_2 : fx_tab 123 2 = some (.iload_n 3, 3, 3, 0) := by decide +kernel
theorem ee123_3 : fx_tab 123 3 = some (.iconst (4), 4, 0, 0) := by decide +kernel
theorem ee123_4 : fx_tab 123 4 = some (.if_icmp .ge (16), 7, 20, 0) := by decide +kernel
theorem ee123_7 : fx_tab 123 7 = some (.aload_n 0, 8, 0, 0) := by decide +kernel
theorem ee123_8 : fx_tab 123 8 = some (.getfield 11, 11, 576, 42) := by decide +kernel
theorem ee123_11 : fx_tab 123 11 = some (.iload_n 3, 12, 3, 0) := by decide +kernel
theorem ee123_12 : fx_tab 123 12 = some (.aconst_null, 13, 0, 0) := by decide +kernel
theorem ee123_13 : fx_tab 123 13 = some (.aastore, 14, 0, 0) := by decide +kernel
theorem ee123_14 : fx_tab 123 14 = some (.iinc 3 (1), 17, 3, 0) := by decide +kernel
theorem ee123_17 : fx_tab 123 17 = some (.goto (-15), 20, 2, 0) := by decide +kernel
theorem ee123_20 : fx_tab 123 20 = some (.aload_n 0, 21, 0, 0) := by decide +kernel
theorem ee123_21 : fx_tab 123 21 = some (.aload_n 1, 22, 1, 0) := by decide +kernel
theorem ee123_22 : fx_tab 123 22 = some (.invokevirtual 37, 25, 95, 306) := by decide +kernel
theorem ee123_25 : fx_tab 123 25 = some (.istore_n 3, 26, 3, 0) := by decide +kernel
theorem ee123_26 : fx_tab 123 26 = some (.iconst (0), 27, 0, 0) := by decide +kernel
theorem ee123_27 : fx_tab 123 27 = some (.istore 4, 29, 4, 0) := by decide +kernel
theorem ee123_29 : fx_tab 123 29 = some (.iload 4, 31, 4, 0) := by decide +kernel
theorem ee123_31 : fx_tab 123 31 = some (.iload_n 3, 32, 3, 0) := by decide +kernel
theorem ee123_32 : fx_tab 123 32 = some (.if_icmp .ge (49), 35, 81, 0) := by decide +kernel
theorem ee123_35 : fx_tab 123 35 = some (.aload_n 0, 36, 0, 0) := by decide +kernel
theorem ee123_36 : fx_tab 123 36 = some (.iload_n 2, 37, 2, 0) := by decide +kernel
theorem ee123_37 : fx_tab 123 37 = some (.aload_n 0, 38, 0, 0) := by decide +kernel
theorem ee123_38 : fx_tab 123 38 = some (.getfield 31, 41, 579, 42) := by decide +kernel
theorem ee123_41 : fx_tab 123 41 = some (.iload 4, 43, 4, 0) := by decide +kernel
theorem ee123_43 : fx_tab 123 43 = some (.aaload, 44, 0, 0) := by decide +kernel
theorem ee123_44 : fx_tab 123 44 = some (.getfield 41, 47, 128, 15) := by decide +kernel
theorem ee123_47 : fx_tab 123 47 = some (.getfield 45, 50, 321, 0) := by decide +kernel
theorem ee123_50 : fx_tab 123 50 = some (.invokevirtual 51, 53, 110, 307) := by decide +kernel
theorem ee123_53 : fx_tab 123 53 = some (.istore 5, 55, 5, 0) := by decide +kernel
theorem ee123_55 : fx_tab 123 55 = some (.iload 5, 57, 5, 0) := by decide +kernel
theorem ee123_57 : fx_tab 123 57 = some (.iconst (-1), 58, 0, 0) := by decide +kernel
theorem ee123_58 : fx_tab 123 58 = some (.if_icmp .eq (17), 61, 75, 0) := by decide +kernel
theorem ee123_61 : fx_tab 123 61 = some (.aload_n 0, 62, 0, 0) := by decide +kernel
theorem ee123_62 : fx_tab 123 62 = some (.getfield 11, 65, 576, 42) := by decide +kernel
theorem ee123_65 : fx_tab 123 65 = some (.iload 5, 67, 5, 0) := by decide +kernel
theorem ee123_67 : fx_tab 123 67 = some (.aload_n 0, 68, 0, 0) := by decide +kernel
theorem ee123_68 : fx_tab 123 68 = some (.getfield 31, 71, 579, 42) := by decide +kernel
theorem ee123_71 : fx_tab 123 71 = some (.iload 4, 73, 4, 0) := by decide +kernel
theorem ee123_73 : fx_tab 123 73 = some (.aaload, 74, 0, 0) := by decide +kernel
theorem ee123_74 : fx_tab 123 74 = some (.aastore, 75, 0, 0) := by decide +kernel
theorem ee123_75 : fx_tab 123 75 = some (.iinc 4 (1), 78, 4, 0) := by decide +kernel
theorem ee123_78 : fx_tab 123 78 = some (.goto (-49), 81, 29, 0) := by decide +kernel
theorem ee123_81 : fx_tab 123 81 = some (.return_, 82, 0, 0) := by decide +kernel
theorem ee124_0 : fx_tab 124 0 = some (.aload_n 0, 1, 0, 0) := by decide +kernel
theorem ee124_1 : fx_tab 124 1 = some (.iload_n 1, 2, 1, 0) := by decide +kernel
theorem ee124_2 : fx_tab 124 2 = some (.iconst (0), 3, 0, 0) := by decide +kernel
theorem ee124_3 : fx_tab 124 3 = some (.invokevirtual 261, 6, 39, 355) := by decide +kernel
theorem ee124_6 : fx_tab 124 6 = some (.istore_n 2, 7, 2, 0) := by decide +kernel
theorem ee124_7 : fx_tab 124 7 = some (.aload_n 0, 8, 0, 0) := by decide +kernel
theorem ee124_8 : fx_tab 124 8 = some (.iload_n 1, 9, 1, 0) := by decide +kernel
theorem ee124_9 : fx_tab 124 9 = some (.iconst (1), 10, 0, 0) := by decide +kernel
theorem ee124_10 : fx_tab 124 10 = some (.invokevirtual 261, 13, 39, 355) := by decide +kernel
theorem ee124_13 : fx_tab 124 13 = some (.istore_n 3, 14, 3, 0) := by decide +kernel
theorem ee124_14 : fx_tab 124 14 = some (.aload_n 0, 15, 0, 0) := by decide +kernel
theorem ee124_15 : fx_tab 124 15 = some (.iload_n 1, 16, 1, 0) := by decide +kernel
theorem ee124_16 : fx_tab 124 16 = some (.iconst (2), 17, 0, 0) := by decide +kernel
theorem ee124_17 : fx_tab 124 17 = some (.invokevirtual 261, 20, 39, 355) := by decide +kernel
theorem ee124_20 : fx_tab 124 20 = some (.istore 4, 22, 4, 0) := by decide +kernel
theorem ee124_22 : fx_tab 124 22 = some (.aload_n 0, 23, 0, 0) := by decide +kernel
theorem ee124_23 : fx_tab 124 23 = some (.iload_n 1, 24, 1, 0) := by decide +kernel
theorem ee124_24 : fx_tab 124 24 = some (.iconst (3), 25, 0, 0) := by decide +kernel
theorem ee124_25 : fx_tab 124 25 = some (.invokevirtual 261, 28, 39, 355) := by decide +kernel
theorem ee124_28 : fx_tab 124 28 = some (.istore 5, 30, 5, 0) := by decide +kernel
theorem ee124_30 : fx_tab 124 30 = some (.aload_n 0, 31, 0, 0) := by decide +kernel
theorem ee124_31 : fx_tab 124 31 = some (.iload_n 2, 32, 2, 0) := by decide +kernel
theorem ee124_32 : fx_tab 124 32 = some (.iload_n 3, 33, 3, 0) := by decide +kernel
theorem ee124_33 : fx_tab 124 33 = some (.iconst (0), 34, 0, 0) := by decide +kernel
theorem ee124_34 : fx_tab 124 34 = some (.invokevirtual 264, 37, 116, 356) := by decide +kernel
theorem ee124_37 : fx_tab 124 37 = some (.istore 6, 39, 6, 0) := by decide +kernel
theorem ee124_39 : fx_tab 124 39 = some (.aload_n 0, 40, 0, 0) := by decide +kernel
theorem ee124_40 : fx_tab 124 40 = some (.iload 4, 42, 4, 0) := by decide +kernel
theorem ee124_42 : fx_tab 124 42 = some (.iload 5, 44, 5, 0) := by decide +kernel
theorem ee124_44 : fx_tab 124 44 = some (.iconst (0), 45, 0, 0) := by decide +kernel
theorem ee124_45 : fx_tab 124 45 = some (.invokevirtual 264, 48, 116, 356) := by decide +kernel
theorem ee124_48 : fx_tab 124 48 = some (.istore 7, 50, 7, 0) := by decide +kernel
theorem ee124_50 : fx_tab 124 50 = some (.iload_n 2, 51, 2, 0) := by decide +kernel
theorem ee124_51 : fx_tab 124 51 = some (.iload_n 3, 52, 3, 0) := by decide +kernel
theorem ee124_52 : fx_tab 124 52 = some (.iload 6, 54, 6, 0) := by decide +kernel
theorem ee124_54 : fx_tab 124 54 = some (.invokestatic 267, 57, 36, 3) := by decide +kernel
theorem ee124_57 : fx_tab 124 57 = some (.istore 8, 59, 8, 0) := by decide +kernel
theorem ee124_59 : fx_tab 124 59 = some (.iload 4, 61, 4, 0) := by decide +kernel
theorem ee124_61 : fx_tab 124 61 = some (.iload 5, 63, 5, 0) := by decide +kernel
theorem ee124_63 : fx_tab 124 63 = some (.iload 7, 65, 7, 0) := by decide +kernel
theorem ee124_65 : fx_tab 124 65 = some (.invokestatic 267, 68, 36, 3) := by decide +kernel
theorem ee124_68 : fx_tab 124 68 = some (.istore 9, 70, 9, 0) := by decide +kernel
theorem ee124_70 : fx_tab 124 70 = some (.aload_n 0, 71, 0, 0) := by decide +kernel
theorem ee124_71 : fx_tab 124 71 = some (.iload 6, 73, 6, 0) := by decide +kernel
theorem ee124_73 : fx_tab 124 73 = some (.iload 7, 75, 7, 0) := by decide +kernel
theorem ee124_75 : fx_tab 124 75 = some (.iconst (1), 76, 0, 0) := by decide +kernel
theorem ee124_76 : fx_tab 124 76 = some (.invokevirtual 264, 79, 116, 356) := by decide +kernel
theorem ee124_79 : fx_tab 124 79 = some (.istore 10, 81, 10, 0) := by decide +kernel
theorem ee124_81 : fx_tab 124 81 = some (.iload 6, 83, 6, 0) := by decide +kernel
theorem ee124_83 : fx_tab 124 83 = some (.iload 7, 85, 7, 0) := by decide +kernel
theorem ee124_85 : fx_tab 124 85 = some (.iload 10, 87, 10, 0) := by decide +kernel
theorem ee124_87 : fx_tab 124 87 = some (.invokestatic 267, 90, 36, 3) := by decide +kernel
theorem ee124_90 : fx_tab 124 90 = some (.istore 11, 92, 11, 0) := by decide +kernel
theorem ee124_92 : fx_tab 124 92 = some (.aload_n 0, 93, 0, 0) := by decide +kernel
theorem ee124_93 : fx_tab 124 93 = some (.iload 8, 95, 8, 0) := by decide +kernel
theorem ee124_95 : fx_tab 124 95 = some (.iload 9, 97, 9, 0) := by decide +kernel
theorem ee124_97 : fx_tab 124 97 = some (.iconst (3), 98, 0, 0) := by decide +kernel
theorem ee124_98 : fx_tab 124 98 = some (.invokevirtual 264, 101, 116, 356) := by decide +kernel
theorem ee124_101 : fx_tab 124 101 = some (.istore 12, 103, 12, 0) := by decide +kernel
theorem ee124_103 : fx_tab 124 103 = some (.iload 8, 105, 8, 0) := by decide +kernel
theorem ee124_105 : fx_tab 124 105 = some (.iload 9, 107, 9, 0) := by decide +kernel
theorem ee124_107 : fx_tab 124 107 = some (.iload 12, 109, 12, 0) := by decide +kernel
theorem ee124_109 : fx_tab 124 109 = some (.invokestatic 267, 112, 36, 3) := by decide +kernel
theorem ee124_112 : fx_tab 124 112 = some (.istore 13, 114, 13, 0) := by decide +kernel
theorem ee124_114 : fx_tab 124 114 = some (.iload 10, 116, 10, 0) := by decide +kernel
theorem ee124_116 : fx_tab 124 116 = some (.iconst (-1), 117, 0, 0) := by decide +kernel
theorem ee124_117 : fx_tab 124 117 = some (.if_icmp .eq (11), 120, 128, 0) := by decide +kernel
theorem ee124_120 : fx_tab 124 120 = some (.aload_n 0, 121, 0, 0) := by decide +kernel
theorem ee124_121 : fx_tab 124 121 = some (.getfield 38, 124, 786, 70) := by decide +kernel
theorem ee124_124 : fx_tab 124 124 = some (.iload 10, 126, 10, 0) := by decide +kernel
theorem ee124_126 : fx_tab 124 126 = some (.iconst (0), 127, 0, 0) := by decide +kernel
theorem ee124_127 : fx_tab 124 127 = some (.iastore, 128, 0, 0) := by decide +kernel
theorem ee124_128 : fx_tab 124 128 = some (.iload 11, 130, 11, 0) := by decide +kernel
theorem ee124_130 : fx_tab 124 130 = some (.iconst (-1), 131, 0, 0) := by decide +kernel
theorem ee124_131 : fx_tab 124 131 = some (.if_icmp .eq (11), 134, 142, 0) := by decide +kernel
theorem ee124_134 : fx_tab 124 134 = some (.aload_n 0, 135, 0, 0) := by decide +kernel
theorem ee124_135 : fx_tab 124 135 = some (.getfield 38, 138, 786, 70) := by decide +kernel
theorem ee124_138 : fx_tab 124 138 = some (.iload 11, 140, 11, 0) := by decide +kernel
theorem ee124_140 : fx_tab 124 140 = some (.iconst (1), 141, 0, 0) := by decide +kernel
theorem ee124_141 : fx_tab 124 141 = some (.iastore, 142, 0, 0) := by decide +kernel
theorem ee124_142 : fx_tab 124 142 = some (.iload 12, 144, 12, 0) := by decide +kernel
theorem ee124_144 : fx_tab 124 144 = some (.iconst (-1), 145, 0, 0) := by decide +kernel
theorem ee124_145 : fx_tab 124 145 = some (.if_icmp .eq (11), 148, 156, 0) := by decide +kernel
theorem ee124_148 : fx_tab 124 148 = some (.aload_n 0, 149, 0, 0) := by decide +kernel
theorem ee124_149 : fx_tab 124 149 = some (.getfield 38, 152, 786, 70) := by decide +kernel
theorem ee124_152 : fx_tab 124 152 = some (.iload 12, 154, 12, 0) := by decide +kernel
theorem ee124_154 : fx_tab 124 154 = some (.iconst (2), 155, 0, 0) := by decide +kernel
theorem ee124_155 : fx_tab 124 155 = some (.iastore, 156, 0, 0) := by decide +kernel
theorem ee124_156 : fx_tab 124 156 = some (.iload 13, 158, 13, 0) := by decide +kernel
theorem ee124_158 : fx_tab 124 158 = some (.iconst (-1), 159, 0, 0) := by decide +kernel
theorem ee124_159 : fx_tab 124 159 = some (.if_icmp .eq (11), 162, 170, 0) := by decide +kernel
theorem ee124_162 : fx_tab 124 162 = some (.aload_n 0, 163, 0, 0) := by decide +kernel
theorem ee124_163 : fx_tab 124 163 = some (.getfield 38, 166, 786, 70) := by decide +kernel
theorem ee124_166 : fx_tab 124 166 = some (.iload 13, 168, 13, 0) := by decide +kernel
theorem ee124_168 : fx_tab 124 168 = some (.iconst (3), 169, 0, 0) := by decide +kernel
theorem ee124_169 : fx_tab 124 169 = some (.iastore, 170, 0, 0) := by decide +kernel
theorem ee124_170 : fx_tab 124 170 = some (.return_, 171, 0, 0) := by decide +kernel
theorem ee125_0 : fx_tab 125 0 = some (.aload_n 0, 1, 0, 0) := by decide +kernel
theorem ee125_1 : fx_tab 125 1 = some (.iload_n 1, 2, 1, 0) := by decide +kernel
theorem ee125_2 : fx_tab 125 2 = some (.invokevirtual 252, 5, 115, 354) := by decide +kernel
theorem ee125_5 : fx_tab 125 5 = some (.istore_n 2, 6, 2, 0) := by decide +kernel
theorem ee125_6 : fx_tab 125 6 = some (.iload_n 2, 7, 2, 0) := by decide +kernel
theorem ee125_7 : fx_tab 125 7 = some (.iconst (-1), 8, 0, 0) := by decide +kernel
theorem ee125_8 : fx_tab 125 8 = some (.if_icmp .eq (96), 11, 104, 0) := by decide +kernel
theorem ee125_11 : fx_tab 125 11 = some (.iconst (-1), 12, 0, 0) := by decide +kernel
theorem ee125_12 : fx_tab 125 12 = some (.istore_n 3, 13, 3, 0) := by decide +kernel
theorem ee125_13 : fx_tab 125 13 = some (.iconst (-1), 14, 0, 0) := by decide +kernel
theorem ee125_14 : fx_tab 125 14 = some (.istore 4, 16, 4, 0) := by decide +kernel
theorem ee125_16 : fx_tab 125 16 = some (.iconst (3), 17, 0, 0) := by decide +kernel
theorem ee125_17 : fx_tab 125 17 = some (.istore 5, 19, 5, 0) := by decide +kernel
theorem ee125_19 : fx_tab 125 19 = some (.iload 5, 21, 5, 0) := by decide +kernel
theorem ee125_21 : fx_tab 125 21 = some (.ifCond .lt (57), 24, 78, 0) := by decide +kernel
theorem ee125_24 : fx_tab 125 24 = some (.aload_n 0, 25, 0, 0) := by decide +kernel
theorem ee125_25 : fx_tab 125 25 = some (.getfield 7, 28, 775, 71) := by decide +kernel
theorem ee125_28 : fx_tab 125 28 = some (.iconst (4), 29, 0, 0) := by decide +kernel
theorem ee125_29 : fx_tab 125 29 = some (.iload_n 1, 30, 1, 0) := by decide +kernel
theorem ee125_30 : fx_tab 125 30 = some (.imul, 31, 0, 0) := by decide +kernel
theorem ee125_31 : fx_tab 125 31 = some (.iload 5, 33, 5, 0) := by decide +kernel
theorem ee125_33 : fx_tab 125 33 = some (.iadd, 34, 0, 0) := by decide +kernel
theorem ee125_34 : fx_tab 125 34 = some (.baload, 35, 0, 0) := by decide +kernel
theorem ee125_35 : fx_tab 125 35 = some (.ifCond .ne (37), 38, 72, 0) := by decide +kernel
theorem ee125_38 : fx_tab 125 38 = some (.aload_n 0, 39, 0, 0) := by decide +kernel
theorem ee125_39 : fx_tab 125 39 = some (.iload_n 1, 40, 1, 0) := by decide +kernel
theorem ee125_40 : fx_tab 125 40 = some (.iload 5, 42, 5, 0) := by decide +kernel
theorem ee125_42 : fx_tab 125 42 = some (.invokevirtual 255, 45, 33, 355) := by decide +kernel
theorem ee125_45 : fx_tab 125 45 = some (.ifCond .eq (6), 48, 51, 0) := by decide +kernel
theorem ee125_48 : fx_tab 125 48 = some (.goto (24), 51, 72, 0) := by decide +kernel
theorem ee125_51 : fx_tab 125 51 = some (.iload 5, 53, 5, 0) := by decide +kernel
theorem ee125_53 : fx_tab 125 53 = some (.istore 4, 55, 4, 0) := by decide +kernel
theorem ee125_55 : fx_tab 125 55 = some (.aload_n 0, 56, 0, 0) := by decide +kernel
theorem ee125_56 : fx_tab 125 56 = some (.iload_n 2, 57, 2, 0) := by decide +kernel
theorem ee125_57 : fx_tab 125 57 = some (.iload 5, 59, 5, 0) := by decide +kernel
theorem ee125_59 : fx_tab 125 59 = some (.invokevirtual 258, 62, 76, 355) := by decide +kernel
theorem ee125_62 : fx_tab 125 62 = some (.ifCond .eq (8), 65, 70, 0) := by decide +kernel
theorem ee125_65 : fx_tab 125 65 = some (.iload 5, 67, 5, 0) := by decide +kernel
theorem ee125_67 : fx_tab 125 67 = some (.goto (4), 70, 71, 0) := by decide +kernel
theorem ee125_70 : fx_tab 125 70 = some (.iload_n 3, 71, 3, 0) := by decide +kernel
theorem ee125_71 : fx_tab 125 71 = some (.istore_n 3, 72, 3, 0) := by decide +kernel
theorem ee125_72 : fx_tab 125 72 = some (.iinc 5 (-1), 75, 5, 0) := by decide +kernel
theorem ee125_75 : fx_tab 125 75 = some (.goto (-56), 78, 19, 0) := by decide +kernel
theorem ee125_78 : fx_tab 125 78 = some (.aload_n 0, 79, 0, 0) := by decide +kernel
theorem ee125_79 : fx_tab 125 79 = some (.getfield 38, 82, 786, 70) := by decide +kernel
theorem ee125_82 : fx_tab 125 82 = some (.iload_n 2, 83, 2, 0) := by decide +kernel
theorem ee125_83 : fx_tab 125 83 = some (.iload_n 3, 84, 3, 0) := by decide +kernel
theorem ee125_84 : fx_tab 125 84 = some (.iconst (-1), 85, 0, 0) := by decide +kernel
theorem ee125_85 : fx_tab 125 85 = some (.if_icmp .ne (8), 88, 93, 0) := by decide +kernel
theorem ee125_88 : fx_tab 125 88 = some (.iload 4, 90, 4, 0) := by decide +kernel
theorem ee125_90 : fx_tab 125 90 = some (.goto (4), 93, 94, 0) := by decide +kernel
theorem ee125_93 : fx_tab 125 93 = some (.iload_n 3, 94, 3, 0) := by decide +kernel
theorem ee125_94 : fx_tab 125 94 = some (.iastore, 95, 0, 0) := by decide +kernel
theorem ee125_95 : fx_tab 125 95 = some (.aload_n 0, 96, 0, 0) := by decide +kernel
theorem ee125_96 : fx_tab 125 96 = some (.iload_n 1, 97, 1, 0) := by decide +kernel
theorem ee125_97 : fx_tab 125 97 = some (.invokevirtual 252, 100, 115, 354) := by decide +kernel
theorem ee125_100 : fx_tab 125 100 = some (.istore_n 2, 101, 2, 0) := by decide +kernel
theorem ee125_101 : fx_tab 125 101 = some (.goto (-95), 104, 6, 0) := by decide +kernel
theorem ee125_104 : fx_tab 125 104 = some (.return_, 105, 0, 0) := by decide +kernel
theorem ee126_0 : fx_tab 126 0 = some (.aload_n 1, 1, 1, 0) := by decide +kernel
theorem ee126_1 : fx_tab 126 1 = some (.invokevirtual 219, 4, 10, 225) := by decide +kernel
theorem ee126_4 : fx_tab 126 4 = some (.ifCond .ne (5), 7, 9, 0) := by decide +kernel
theorem ee126_7 : fx_tab 126 7 = some (.iconst (0), 8, 0, 0) := by decide +kernel
theorem ee126_8 : fx_tab 126 8 = some (.ireturn, 9, 0, 0) := by decide +kernel
theorem ee126_9 : fx_tab 126 9 = some (.aload_n 0, 10, 0, 0) := by decide +kernel
theorem ee126_10 : fx_tab 126 10 = some (.getfield 58, 13, 7, 0) := by decide +kernel
theorem ee126_13 : fx_tab 126 13 = some (.ifCond .ne (21), 16, 34, 0) := by decide +kernel
theorem ee126_16 : fx_tab 126 16 = some (.aload_n 0, 17, 0, 0) := by decide +kernel
theorem ee126_17 : fx_tab 126 17 = some (.getfield 12, 20, 0, 19) := by decide +kernel
theorem ee126_20 : fx_tab 126 20 = some (.aload_n 1, 21, 1, 0) := by decide +kernel
theorem ee126_21 : fx_tab 126 21 = some (.getfield 240, 24, 259, 42) := by decide +kernel
theorem ee126_24 : fx_tab 126 24 = some (.aload_n 1, 25, 1, 0) := by decide +kernel
theorem ee126_25 : fx_tab 126 25 = some (.getfield 302, 28, 256, 0) := by decide +kernel
theorem ee126_28 : fx_tab 126 28 = some (.invokevirtual 358, 31, 123, 307) := by decide +kernel
theorem ee126_31 : fx_tab 126 31 = some (.goto (18), 34, 49, 0) := by decide +kernel
theorem ee126_34 : fx_tab 126 34 = some (.aload_n 0, 35, 0, 0) := by decide +kernel
theorem ee126_35 : fx_tab 126 35 = some (.getfield 12, 38, 0, 19) := by decide +kernel
theorem ee126_38 : fx_tab 126 38 = some (.aload_n 1, 39, 1, 0) := by decide +kernel
theorem ee126_39 : fx_tab 126 39 = some (.getfield 240, 42, 259, 42) := by decide +kernel
theorem ee126_42 : fx_tab 126 42 = some (.aload_n 1, 43, 1, 0) := by decide +kernel
theorem ee126_43 : fx_tab 126 43 = some (.getfield 302, 46, 256, 0) := by decide +kernel
theorem ee126_46 : fx_tab 126 46 = some (.invokevirtual 362, 49, 122, 307) := by decide +kernel
theorem ee126_49 : fx_tab 126 49 = some (.iconst (0), 50, 0, 0) := by decide +kernel
theorem ee126_50 : fx_tab 126 50 = some (.istore_n 2, 51, 2, 0) := by decide +kernel
theorem ee126_51 : fx_tab 126 51 = some (.iconst (0), 52, 0, 0) := by decide +kernel
theorem ee126_52 : fx_tab 126 52 = some (.istore_n 3, 53, 3, 0) := by decide +kernel
theorem ee126_53 : fx_tab 126 53 = some (.iload_n 3, 54, 3, 0) := by decide +kernel
theorem ee126_54 : fx_tab 126 54 = some (.iconst (4), 55, 0, 0) := by decide +kernel
theorem ee126_55 : fx_tab 126 55 = some (.if_icmp .ge (85), 58, 140, 0) := by decide +kernel
theorem ee126_58 : fx_tab 126 58 = some (.aload_n 0, 59, 0, 0) := by decide +kernel
theorem ee126_59 : fx_tab 126 59 = some (.getfield 12, 62, 0, 19) := by decide +kernel
theorem ee126_62 : fx_tab 126 62 = some (.getfield 365, 65, 576, 42) := by decide +kernel
theorem ee126_65 : fx_tab 126 65 = some (.iload_n 3, 66, 3, 0) := by decide +kernel
theorem ee126_66 : fx_tab 126 66 = some (.aaload, 67, 0, 0) := by decide +kernel
theorem ee126_67 : fx_tab 126 67 = some (.astore 4, 69, 4, 0) := by decide +kernel
theorem ee126_69 : fx_tab 126 69 = some (.aload 4, 71, 4, 0) := by decide +kernel
theorem ee126_71 : fx_tab 126 71 = some (.ifnull (63), 74, 134, 0) := by decide +kernel
theorem ee126_74 : fx_tab 126 74 = some (.iinc 2 (1), 77, 2, 0) := by decide +kernel
theorem ee126_77 : fx_tab 126 77 = some (.aload_n 0, 78, 0, 0) := by decide +kernel
theorem ee126_78 : fx_tab 126 78 = some (.getfield 28, 81, 3, 44) := by decide +kernel
theorem ee126_81 : fx_tab 126 81 = some (.aload_n 0, 82, 0, 0) := by decide +kernel
theorem ee126_82 : fx_tab 126 82 = some (.getfield 20, 85, 1, 13) := by decide +kernel
theorem ee126_85 : fx_tab 126 85 = some (.aload_n 1, 86, 1, 0) := by decide +kernel
theorem ee126_86 : fx_tab 126 86 = some (.getfield 302, 89, 256, 0) := by decide +kernel
theorem ee126_89 : fx_tab 126 89 = some (.iload_n 3, 90, 3, 0) := by decide +kernel
theorem ee126_90 : fx_tab 126 90 = some (.invokevirtual 368, 93, 2, 211) := by decide +kernel
theorem ee126_93 : fx_tab 126 93 = some (.aaload, 94, 0, 0) := by decide +kernel
theorem ee126_94 : fx_tab 126 94 = some (.getfield 371, 97, 260, 42) := by decide +kernel
theorem ee126_97 : fx_tab 126 97 = some (.iload_n 3, 98, 3, 0) := by decide +kernel
theorem ee126_98 : fx_tab 126 98 = some (.aload 4, 100, 4, 0) := by decide +kernel
theorem ee126_100 : fx_tab 126 100 = some (.aastore, 101, 0, 0) := by decide +kernel
theorem ee126_101 : fx_tab 126 101 = some (.aload_n 0, 102, 0, 0) := by decide +kernel
theorem ee126_102 : fx_tab 126 102 = some (.getfield 20, 105, 1, 13) := by decide +kernel
theorem ee126_105 : fx_tab 126 105 = some (.aload_n 1, 106, 1, 0) := by decide +kernel
theorem ee126_106 : fx_tab 126 106 = some (.getfield 302, 109, 256, 0) := by decide +kernel
theorem ee126_109 : fx_tab 126 109 = some (.iload_n 3, 110, 3, 0) := by decide +kernel
theorem ee126_110 : fx_tab 126 110 = some (.aload 4, 112, 4, 0) := by decide +kernel
theorem ee126_112 : fx_tab 126 112 = some (.getfield 244, 115, 128, 15) := by decide +kernel
theorem ee126_115 : fx_tab 126 115 = some (.getfield 257, 118, 321, 0) := by decide +kernel
theorem ee126_118 : fx_tab 126 118 = some (.invokevirtual 374, 121, 88, 212) := by decide +kernel
theorem ee126_121 : fx_tab 126 121 = some (.ifCond .ne (13), 124, 134, 0) := by decide +kernel
theorem ee126_124 : fx_tab 126 124 = some (.aload_n 0, 125, 0, 0) := by decide +kernel
theorem ee126_125 : fx_tab 126 125 = some (.dup, 126, 0, 0) := by decide +kernel
theorem ee126_126 : fx_tab 126 126 = some (.getfield 77, 129, 13, 0) := by decide +kernel
theorem ee126_129 : fx_tab 126 129 = some (.iconst (1), 130, 0, 0) := by decide +kernel
theorem ee126_130 : fx_tab 126 130 = some (.iadd, 131, 0, 0) := by decide +kernel
theorem ee126_131 : fx_tab 126 131 = some (.putfield 77, 134, 13, 0) := by decide +kernel
theorem ee126_134 : fx_tab 126 134 = some (.iinc 3 (1), 137, 3, 0) := by decide +kernel
theorem ee126_137 : fx_tab 126 137 = some (.goto (-84), 140, 53, 0) := by decide +kernel
theorem ee126_140 : fx_tab 126 140 = some (.aload_n 1, 141, 1, 0) := by decide +kernel
theorem ee126_141 : fx_tab 126 141 = some (.dup, 142, 0, 0) := by decide +kernel
theorem ee126_142 : fx_tab 126 142 = some (.getfield 222, 145, 261, 0) := by decide +kernel
theorem ee126_145 : fx_tab 126 145 = some (.iload_n 2, 146, 2, 0) := by decide +kernel
theorem ee126_146 : fx_tab 126 146 = some (.iadd, 147, 0, 0) := by decide +kernel
theorem ee126_147 : fx_tab 126 147 = some (.putfield 222, 150, 261, 0) := by decide +kernel
theorem ee126_150 : fx_tab 126 150 = some (.iload_n 2, 151, 2, 0) := by decide +kernel
theorem ee126_151 : fx_tab 126 151 = some (.ireturn, 152, 0, 0) := by decide +kernel
theorem ee127_0 : fx_tab 127 0 = some (.iconst (0), 1, 0, 0) := by decide +kernel
theorem ee127_1 : fx_tab 127 1 = some (.istore_n 2, 2, 2, 0) := by decide +kernel
theorem ee127_2 : fx_tab 127 2 = some (.iload_n 2, 3, 2, 0) := by decide +kernel
theorem ee127_3 : fx_tab 127 3 = some (.iconst (2), 4, 0, 0) := by decide +kernel
theorem ee127_4 : fx_tab 127 4 = some (.if_icmp .ge (90), 7, 94, 0) := by decide +kernel
theorem ee127_7 : fx_tab 127 7 = some (.aload_n 0, 8, 0, 0) := by decide +kernel
theorem ee127_8 : fx_tab 127 8 = some (.getfield 25, 11, 2, 17) := by decide +kernel
theorem ee127_11 : fx_tab 127 11 = some (.aload_n 1, 12, 1, 0) := by decide +kernel
theorem ee127_12 : fx_tab 127 12 = some (.getfield 240, 15, 259, 42) := by decide +kernel
theorem ee127_15 : fx_tab 127 15 = some (.aload_n 1, 16, 1, 0) := by decide +kernel
theorem ee127_16 : fx_tab 127 16 = some (.getfield 302, 19, 256, 0) := by decide +kernel
theorem ee127_19 : fx_tab 127 19 = some (.invokevirtual 303, 22, 92, 275) := by decide +kernel
theorem ee127_22 : fx_tab 127 22 = some (.istore_n 3, 23, 3, 0) := by decide +kernel
theorem ee127_23 : fx_tab 127 23 = some (.iload_n 3, 24, 3, 0) := by decide +kernel
theorem ee127_24 : fx_tab 127 24 = some (.iconst (-1), 25, 0, 0) := by decide +kernel
theorem ee127_25 : fx_tab 127 25 = some (.if_icmp .ne (4), 28, 29, 0) := by decide +kernel
theorem ee127_28 : fx_tab 127 28 = some (.return_, 29, 0, 0) := by decide +kernel
theorem ee127_29 : fx_tab 127 29 = some (.aload_n 1, 30, 1, 0) := by decide +kernel
theorem ee127_30 : fx_tab 127 30 = some (.getfield 240, 33, 259, 42) := by decide +kernel
theorem ee127_33 : fx_tab 127 33 = some (.iload_n 3, 34, 3, 0) := by decide +kernel
theorem ee127_34 : fx_tab 127 34 = some (.aaload, 35, 0, 0) := by decide +kernel
theorem ee127_35 : fx_tab 127 35 = some (.astore 4, 37, 4, 0) := by decide +kernel
theorem ee127_37 : fx_tab 127 37 = some (.aload_n 1, 38, 1, 0) := by decide +kernel
theorem ee127_38 : fx_tab 127 38 = some (.getfield 240, 41, 259, 42) := by decide +kernel
theorem ee127_41 : fx_tab 127 41 = some (.iload_n 3, 42, 3, 0) := by decide +kernel
theorem ee127_42 : fx_tab 127 42 = some (.aconst_null, 43, 0, 0) := by decide +kernel
theorem ee127_43 : fx_tab 127 43 = some (.aastore, 44, 0, 0) := by decide +kernel
theorem ee127_44 : fx_tab 127 44 = some (.aload 4, 46, 4, 0) := by decide +kernel
theorem ee127_46 : fx_tab 127 46 = some (.getfield 244, 49, 128, 15) := by decide +kernel
theorem ee127_49 : fx_tab 127 49 = some (.dup, 50, 0, 0) := by decide +kernel
theorem ee127_50 : fx_tab 127 50 = some (.getfield 307, 53, 327, 0) := by decide +kernel
theorem ee127_53 : fx_tab 127 53 = some (.iconst (1), 54, 0, 0) := by decide +kernel
theorem ee127_54 : fx_tab 127 54 = some (.isub, 55, 0, 0) := by decide +kernel
theorem ee127_55 : fx_tab 127 55 = some (.putfield 307, 58, 327, 0) := by decide +kernel
theorem ee127_58 : fx_tab 127 58 = some (.aload_n 0, 59, 0, 0) := by decide +kernel
theorem ee127_59 : fx_tab 127 59 = some (.dup, 60, 0, 0) := by decide +kernel
theorem ee127_60 : fx_tab 127 60 = some (.getfield 74, 63, 12, 0) := by decide +kernel
theorem ee127_63 : fx_tab 127 63 = some (.iconst (1), 64, 0, 0) := by decide +kernel
theorem ee127_64 : fx_tab 127 64 = some (.isub, 65, 0, 0) := by decide +kernel
theorem ee127_65 : fx_tab 127 65 = some (.putfield 74, 68, 12, 0) := by decide +kernel
theorem ee127_68 : fx_tab 127 68 = some (.aload_n 0, 69, 0, 0) := by decide +kernel
theorem ee127_69 : fx_tab 127 69 = some (.dup, 70, 0, 0) := by decide +kernel
theorem ee127_70 : fx_tab 127 70 = some (.getfield 80, 73, 14, 0) := by decide +kernel
theorem ee127_73 : fx_tab 127 73 = some (.iconst (1), 74, 0, 0) := by decide +kernel
theorem ee127_74 : fx_tab 127 74 = some (.iadd, 75, 0, 0) := by decide +kernel
theorem ee127_75 : fx_tab 127 75 = some (.putfield 80, 78, 14, 0) := by decide +kernel
theorem ee127_78 : fx_tab 127 78 = some (.aload_n 0, 79, 0, 0) := by decide +kernel
theorem ee127_79 : fx_tab 127 79 = some (.aload_n 1, 80, 1, 0) := by decide +kernel
theorem ee127_80 : fx_tab 127 80 = some (.getfield 166, 83, 258, 18) := by decide +kernel
theorem ee127_83 : fx_tab 127 83 = some (.aload 4, 85, 4, 0) := by decide +kernel
theorem ee127_85 : fx_tab 127 85 = some (.invokevirtual 308, 88, 120, 163) := by decide +kernel
theorem ee127_88 : fx_tab 127 88 = some (.iinc 2 (1), 91, 2, 0) := by decide +kernel
theorem ee127_91 : fx_tab 127 91 = some (.goto (-89), 94, 2, 0) := by decide +kernel
theorem ee127_94 : fx_tab 127 94 = some (.return_, 95, 0, 0) := by decide +kernel
theorem ee128_0 : fx_tab 128 0 = some (.iload_n 1, 1, 1, 0) := by decide +kernel
theorem ee128_1 : fx_tab 128 1 = some (.iconst (2), 2, 0, 0) := by decide +kernel
theorem ee128_2 : fx_tab 128 2 = some (.if_icmp .lt (18), 5, 20, 0) := by decide +kernel
theorem ee128_5 : fx_tab 128 5 = some (.iload_n 1, 6, 1, 0) := by decide +kernel
theorem ee128_6 : fx_tab 128 6 = some (.bipush (8), 8, 0, 0) := by decide +kernel
theorem ee128_8 : fx_tab 128 8 = some (.if_icmp .gt (12), 11, 20, 0) := by decide +kernel
theorem ee128_11 : fx_tab 128 11 = some (.iload_n 2, 12, 2, 0) := by decide +kernel
theorem ee128_12 : fx_tab 128 12 = some (.ifCond .lt (8), 15, 20, 0) := by decide +kernel
theorem ee128_15 : fx_tab 128 15 = some (.iload_n 2, 16, 2, 0) := by decide +kernel
theorem ee128_16 : fx_tab 128 16 = some (.iconst (1), 17, 0, 0) := by decide +kernel
theorem ee128_17 : fx_tab 128 17 = some (.if_icmp .le (5), 20, 22, 0) := by decide +kernel
theorem ee128_20 : fx_tab 128 20 = some (.iconst (0), 21, 0, 0) := by decide +kernel
theorem ee128_21 : fx_tab 128 21 = some (.ireturn, 22, 0, 0) := by decide +kernel
theorem ee128_22 : fx_tab 128 22 = some (.iload_n 3, 23, 3, 0) := by decide +kernel
theorem ee128_23 : fx_tab 128 23 = some (.iconst (1), 24, 0, 0) := by decide +kernel
theorem ee128_24 : fx_tab 128 24 = some (.if_icmp .lt (10), 27, 34, 0) := by decide +kernel
theorem ee128_27 : fx_tab 128 27 = some (.iload_n 3, 28, 3, 0) := by decide +kernel
theorem ee128_28 : fx_tab 128 28 = some (.sipush (1000), 31, 0, 0) := by decide +kernel
theorem ee128_31 : fx_tab 128 31 = some (.if_icmp .le (5), 34, 36, 0) := by decide +kernel
theorem ee128_34 : fx_tab 128 34 = some (.iconst (0), 35, 0, 0) := by decide +kernel
theorem ee128_35 : fx_tab 128 35 = some (.ireturn, 36, 0, 0) := by decide +kernel
theorem ee128_36 : fx_tab 128 36 = some (.aload_n 0, 37, 0, 0) := by decide +kernel
theorem ee128_37 : fx_tab 128 37 = some (.invokevirtual 46, 40, 103, 161) := by decide +kernel
theorem ee128_40 : fx_tab 128 40 = some (.aload_n 0, 41, 0, 0) := by decide +kernel
theorem ee128_41 : fx_tab 128 41 = some (.getfield 20, 44, 1, 13) := by decide +kernel
theorem ee128_44 : fx_tab 128 44 = some (.iload_n 1, 45, 1, 0) := by decide +kernel
theorem ee128_45 : fx_tab 128 45 = some (.invokevirtual 49, 48, 54, 210) := by decide +kernel
theorem ee128_48 : fx_tab 128 48 = some (.aload_n 0, 49, 0, 0) := by decide +kernel
theorem ee128_49 : fx_tab 128 49 = some (.invokevirtual 55, 52, 118, 161) := by decide +kernel
theorem ee128_52 : fx_tab 128 52 = some (.aload_n 0, 53, 0, 0) := by decide +kernel
theorem ee128_53 : fx_tab 128 53 = some (.iload_n 2, 54, 2, 0) := by decide +kernel
theorem ee128_54 : fx_tab 128 54 = some (.putfield 58, 57, 7, 0) := by decide +kernel
theorem ee128_57 : fx_tab 128 57 = some (.aload_n 0, 58, 0, 0) := by decide +kernel
theorem ee128_58 : fx_tab 128 58 = some (.iload_n 3, 59, 3, 0) := by decide +kernel
theorem ee128_59 : fx_tab 128 59 = some (.putfield 62, 62, 8, 0) := by decide +kernel
theorem ee128_62 : fx_tab 128 62 = some (.aload_n 0, 63, 0, 0) := by decide +kernel
theorem ee128_63 : fx_tab 128 63 = some (.iconst (0), 64, 0, 0) := by decide +kernel
theorem ee128_64 : fx_tab 128 64 = some (.putfield 65, 67, 9, 0) := by decide +kernel
theorem ee128_67 : fx_tab 128 67 = some (.aload_n 0, 68, 0, 0) := by decide +kernel
theorem ee128_68 : fx_tab 128 68 = some (.iconst (0), 69, 0, 0) := by decide +kernel
theorem ee128_69 : fx_tab 128 69 = some (.putfield 68, 72, 10, 0) := by decide +kernel
theorem ee128_72 : fx_tab 128 72 = some (.aload_n 0, 73, 0, 0) := by decide +kernel
theorem ee128_73 : fx_tab 128 73 = some (.iconst (0), 74, 0, 0) := by decide +kernel
theorem ee128_74 : fx_tab 128 74 = some (.putfield 71, 77, 11, 0) := by decide +kernel
theorem ee128_77 : fx_tab 128 77 = some (.aload_n 0, 78, 0, 0) := by decide +kernel
theorem ee128_78 : fx_tab 128 78 = some (.iconst (0), 79, 0, 0) := by decide +kernel
theorem ee128_79 : fx_tab 128 79 = some (.putfield 74, 82, 12, 0) := by decide +kernel
theorem ee128_82 : fx_tab 128 82 = some (.aload_n 0, 83, 0, 0) := by decide +kernel
theorem ee128_83 : fx_tab 128 83 = some (.iconst (0), 84, 0, 0) := by decide +kernel
theorem ee128_84 : fx_tab 128 84 = some (.putfield 77, 87, 13, 0) := by decide +kernel
theorem ee128_87 : fx_tab 128 87 = some (.aload_n 0, 88, 0, 0) := by decide +kernel
theorem ee128_88 : fx_tab 128 88 = some (.iconst (0), 89, 0, 0) := by decide +kernel
theorem ee128_89 : fx_tab 128 89 = some (.putfield 80, 92, 14, 0) := by decide +kernel
theorem ee128_92 : fx_tab 128 92 = some (.aload_n 0, 93, 0, 0) := by decide +kernel
theorem ee128_93 : fx_tab 128 93 = some (.iconst (0), 94, 0, 0) := by decide +kernel
theorem ee128_94 : fx_tab 128 94 = some (.putfield 83, 97, 15, 0) := by decide +kernel
theorem ee128_97 : fx_tab 128 97 = some (.iconst (1), 98, 0, 0) := by decide +kernel
theorem ee128_98 : fx_tab 128 98 = some (.ireturn, 99, 0, 0) := by decide +kernel
theorem ee129_0 : fx_tab 129 0 = some (.aload_n 0, 1, 0, 0) := by decide +kernel
theorem ee129_1 : fx_tab 129 1 = some (.iconst (0), 2, 0, 0) := by decide +kernel
theorem ee129_2 : fx_tab 129 2 = some (.putfield 130, 5, 768, 0) := by decide +kernel
theorem ee129_5 : fx_tab 129 5 = some (.aload_n 0, 6, 0, 0) := by decide +kernel
theorem ee129_6 : fx_tab 129 6 = some (.invokevirtual 270, 9, 43, 353) := by decide +kernel
theorem ee129_9 : fx_tab 129 9 = some (.iconst (0), 10, 0, 0) := by decide +kernel
theorem ee129_10 : fx_tab 129 10 = some (.istore_n 1, 11, 1, 0) := by decide +kernel
theorem ee129_11 : fx_tab 129 11 = some (.iload_n 1, 12, 1, 0) := by decide +kernel
theorem ee129_12 : fx_tab 129 12 = some (.aload_n 0, 13, 0, 0) := by decide +kernel
theorem ee129_13 : fx_tab 129 13 = some (.getfield 140, 16, 770, 0) := by decide +kernel
theorem ee129_16 : fx_tab 129 16 = some (.if_icmp .ge (38), 19, 54, 0) := by decide +kernel
theorem ee129_19 : fx_tab 129 19 = some (.iconst (0), 20, 0, 0) := by decide +kernel
theorem ee129_20 : fx_tab 129 20 = some (.istore_n 2, 21, 2, 0) := by decide +kernel
theorem ee129_21 : fx_tab 129 21 = some (.iload_n 2, 22, 2, 0) := by decide +kernel
theorem ee129_22 : fx_tab 129 22 = some (.iconst (2), 23, 0, 0) := by decide +kernel
theorem ee129_23 : fx_tab 129 23 = some (.if_icmp .ge (25), 26, 48, 0) := by decide +kernel
theorem ee129_26 : fx_tab 129 26 = some (.aload_n 0, 27, 0, 0) := by decide +kernel
theorem ee129_27 : fx_tab 129 27 = some (.iload_n 1, 28, 1, 0) := by decide +kernel
theorem ee129_28 : fx_tab 129 28 = some (.invokevirtual 273, 31, 114, 354) := by decide +kernel
theorem ee129_31 : fx_tab 129 31 = some (.istore_n 3, 32, 3, 0) := by decide +kernel
theorem ee129_32 : fx_tab 129 32 = some (.iload_n 3, 33, 3, 0) := by decide +kernel
theorem ee129_33 : fx_tab 129 33 = some (.iconst (-1), 34, 0, 0) := by decide +kernel
theorem ee129_34 : fx_tab 129 34 = some (.if_icmp .eq (8), 37, 42, 0) := by decide +kernel
theorem ee129_37 : fx_tab 129 37 = some (.aload_n 0, 38, 0, 0) := by decide +kernel
theorem ee129_38 : fx_tab 129 38 = some (.iload_n 3, 39, 3, 0) := by decide +kernel
theorem ee129_39 : fx_tab 129 39 = some (.invokevirtual 276, 42, 100, 354) := by decide +kernel
theorem ee129_42 : fx_tab 129 42 = some (.iinc 2 (1), 45, 2, 0) := by decide +kernel
theorem ee129_45 : fx_tab 129 45 = some (.goto (-24), 48, 21, 0) := by decide +kernel
theorem ee129_48 : fx_tab 129 48 = some (.iinc 1 (1), 51, 1, 0) := by decide +kernel
theorem ee129_51 : fx_tab 129 51 = some (.goto (-40), 54, 11, 0) := by decide +kernel
theorem ee129_54 : fx_tab 129 54 = some (.aload_n 0, 55, 0, 0) := by decide +kernel
theorem ee129_55 : fx_tab 129 55 = some (.invokevirtual 279, 58, 98, 353) := by decide +kernel
theorem ee129_58 : fx_tab 129 58 = some (.iconst (0), 59, 0, 0) := by decide +kernel
theorem ee129_59 : fx_tab 129 59 = some (.istore_n 1, 60, 1, 0) := by decide +kernel
theorem ee129_60 : fx_tab 129 60 = some (.iload_n 1, 61, 1, 0) := by decide +kernel
theorem ee129_61 : fx_tab 129 61 = some (.aload_n 0, 62, 0, 0) := by decide +kernel
theorem ee129_62 : fx_tab 129 62 = some (.getfield 155, 65, 778, 0) := by decide +kernel
theorem ee129_65 : fx_tab 129 65 = some (.if_icmp .ge (16), 68, 81, 0) := by decide +kernel
theorem ee129_68 : fx_tab 129 68 = some (.aload_n 0, 69, 0, 0) := by decide +kernel
theorem ee129_69 : fx_tab 129 69 = some (.getfield 38, 72, 786, 70) := by decide +kernel
theorem ee129_72 : fx_tab 129 72 = some (.iload_n 1, 73, 1, 0) := by decide +kernel
theorem ee129_73 : fx_tab 129 73 = some (.iconst (-1), 74, 0, 0) := by decide +kernel
theorem ee129_74 : fx_tab 129 74 = some (.iastore, 75, 0, 0) := by decide +kernel
theorem ee129_75 : fx_tab 129 75 = some (.iinc 1 (1), 78, 1, 0) := by decide +kernel
theorem ee129_78 : fx_tab 129 78 = some (.goto (-18), 81, 60, 0) := by decide +kernel
theorem ee129_81 : fx_tab 129 81 = some (.iconst (0), 82, 0, 0) := by decide +kernel
theorem ee129_82 : fx_tab 129 82 = some (.istore_n 1, 83, 1, 0) := by decide +kernel
theorem ee129_83 : fx_tab 129 83 = some (.iload_n 1, 84, 1, 0) := by decide +kernel
theorem ee129_84 : fx_tab 129 84 = some (.aload_n 0, 85, 0, 0) := by decide +kernel
theorem ee129_85 : fx_tab 129 85 = some (.getfield 140, 88, 770, 0) := by decide +kernel
theorem ee129_88 : fx_tab 129 88 = some (.if_icmp .ge (29), 91, 117, 0) := by decide +kernel
theorem ee129_91 : fx_tab 129 91 = some (.aload_n 0, 92, 0, 0) := by decide +kernel
theorem ee129_92 : fx_tab 129 92 = some (.getfield 143, 95, 771, 0) := by decide +kernel
theorem ee129_95 : fx_tab 129 95 = some (.ifCond .ne (11), 98, 106, 0) := by decide +kernel
theorem ee129_98 : fx_tab 129 98 = some (.aload_n 0, 99, 0, 0) := by decide +kernel
theorem ee129_99 : fx_tab 129 99 = some (.iload_n 1, 100, 1, 0) := by decide +kernel
theorem ee129_100 : fx_tab 129 100 = some (.invokevirtual 282, 103, 125, 354) := by decide +kernel
theorem ee129_103 : fx_tab 129 103 = some (.goto (8), 106, 111, 0) := by decide +kernel
theorem ee129_106 : fx_tab 129 106 = some (.aload_n 0, 107, 0, 0) := by decide +kernel
theorem ee129_107 : fx_tab 129 107 = some (.iload_n 1, 108, 1, 0) := by decide +kernel
theorem ee129_108 : fx_tab 129 108 = some (.invokevirtual 285, 111, 124, 354) := by decide +kernel
theorem ee129_111 : fx_tab 129 111 = some (.iinc 1 (1), 114, 1, 0) := by decide +kernel
theorem ee129_114 : fx_tab 129 114 = some (.goto (-31), 117, 83, 0) := by decide +kernel
theorem ee129_117 : fx_tab 129 117 = some (.iconst (0), 118, 0, 0) := by decide +kernel
theorem ee129_118 : fx_tab 129 118 = some (.istore_n 1, 119, 1, 0) := by decide +kernel
theorem ee129_119 : fx_tab 129 119 = some (.iload_n 1, 120, 1, 0) := by decide +kernel
theorem ee129_120 : fx_tab 129 120 = some (.aload_n 0, 121, 0, 0) := by decide +kernel
theorem ee129_121 : fx_tab 129 121 = some (.getfield 155, 124, 778, 0) := by decide +kernel
theorem ee129_124 : fx_tab 129 124 = some (.if_icmp .ge (37), 127, 161, 0) := by decide +kernel
theorem ee129_127 : fx_tab 129 127 = some (.aload_n 0, 128, 0, 0) := by decide +kernel
theorem ee129_128 : fx_tab 129 128 = some (.dup, 129, 0, 0) := by decide +kernel
theorem ee129_129 : fx_tab 129 129 = some (.getfield 161, 132, 816, 0) := by decide +kernel
theorem ee129_132 : fx_tab 129 132 = some (.aload_n 0, 133, 0, 0) := by decide +kernel
theorem ee129_133 : fx_tab 129 133 = some (.iload_n 1, 134, 1, 0) := by decide +kernel
theorem ee129_134 : fx_tab 129 134 = some (.aload_n 0, 135, 0, 0) := by decide +kernel
theorem ee129_135 : fx_tab 129 135 = some (.getfield 38, 138, 786, 70) := by decide +kernel
theorem ee129_138 : fx_tab 129 138 = some (.iload_n 1, 139, 1, 0) := by decide +kernel
theorem ee129_139 : fx_tab 129 139 = some (.iaload, 140, 0, 0) := by decide +kernel
theorem ee129_140 : fx_tab 129 140 = some (.invokevirtual 258, 143, 76, 355) := by decide +kernel
theorem ee129_143 : fx_tab 129 143 = some (.ifCond .eq (7), 146, 150, 0) := by decide +kernel
theorem ee129_146 : fx_tab 129 146 = some (.iconst (0), 147, 0, 0) := by decide +kernel
theorem ee129_147 : fx_tab 129 147 = some (.goto (4), 150, 151, 0) := by decide +kernel
theorem ee129_150 : fx_tab 129 150 = some (.iconst (1), 151, 0, 0) := by decide +kernel
theorem ee129_151 : fx_tab 129 151 = some (.iadd, 152, 0, 0) := by decide +kernel
theorem ee129_152 : fx_tab 129 152 = some (.putfield 161, 155, 816, 0) := by decide +kernel
theorem ee129_155 : fx_tab 129 155 = some (.iinc 1 (1), 158, 1, 0) := by decide +kernel
theorem ee129_158 : fx_tab 129 158 = some (.goto (-39), 161, 119, 0) := by decide +kernel
theorem ee129_161 : fx_tab 129 161 = some (.iconst (0), 162, 0, 0) := by decide +kernel
theorem ee129_162 : fx_tab 129 162 = some (.istore_n 1, 163, 1, 0) := by decide +kernel
theorem ee129_163 : fx_tab 129 163 = some (.iload_n 1, 164, 1, 0) := by decide +kernel
theorem ee129_164 : fx_tab 129 164 = some (.aload_n 0, 165, 0, 0) := by decide +kernel
theorem ee129_165 : fx_tab 129 165 = some (.getfield 155, 168, 778, 0) := by decide +kernel
theorem ee129_168 : fx_tab 129 168 = some (.if_icmp .ge (58), 171, 226, 0) := by decide +kernel
theorem ee129_171 : fx_tab 129 171 = some (.aload_n 0, 172, 0, 0) := by decide +kernel
theorem ee129_172 : fx_tab 129 172 = some (.getfield 123, 175, 815, 70) := by decide +kernel
theorem ee129_175 : fx_tab 129 175 = some (.aload_n 0, 176, 0, 0) := by decide +kernel
theorem ee129_176 : fx_tab 129 176 = some (.getfield 17, 179, 779, 70) := by decide +kernel
theorem ee129_179 : fx_tab 129 179 = some (.iload_n 1, 180, 1, 0) := by decide +kernel
theorem ee129_180 : fx_tab 129 180 = some (.iaload, 181, 0, 0) := by decide +kernel
theorem ee129_181 : fx_tab 129 181 = some (.dup2, 182, 0, 0) := by decide +kernel
theorem ee129_182 : fx_tab 129 182 = some (.iaload, 183, 0, 0) := by decide +kernel
theorem ee129_183 : fx_tab 129 183 = some (.iconst (1), 184, 0, 0) := by decide +kernel
theorem ee129_184 : fx_tab 129 184 = some (.iadd, 185, 0, 0) := by decide +kernel
theorem ee129_185 : fx_tab 129 185 = some (.iastore, 186, 0, 0) := by decide +kernel
theorem ee129_186 : fx_tab 129 186 = some (.aload_n 0, 187, 0, 0) := by decide +kernel
theorem ee129_187 : fx_tab 129 187 = some (.getfield 17, 190, 779, 70) := by decide +kernel
theorem ee129_190 : fx_tab 129 190 = some (.iload_n 1, 191, 1, 0) := by decide +kernel
theorem ee129_191 : fx_tab 129 191 = some (.aload_n 0, 192, 0, 0) := by decide +kernel
theorem ee129_192 : fx_tab 129 192 = some (.aload_n 0, 193, 0, 0) := by decide +kernel
theorem ee129_193 : fx_tab 129 193 = some (.getfield 17, 196, 779, 70) := by decide +kernel
theorem ee129_196 : fx_tab 129 196 = some (.iload_n 1, 197, 1, 0) := by decide +kernel
theorem ee129_197 : fx_tab 129 197 = some (.iaload, 198, 0, 0) := by decide +kernel
theorem ee129_198 : fx_tab 129 198 = some (.aload_n 0, 199, 0, 0) := by decide +kernel
theorem ee129_199 : fx_tab 129 199 = some (.getfield 38, 202, 786, 70) := by decide +kernel
theorem ee129_202 : fx_tab 129 202 = some (.iload_n 1, 203, 1, 0) := by decide +kernel
theorem ee129_203 : fx_tab 129 203 = some (.iaload, 204, 0, 0) := by decide +kernel
theorem ee129_204 : fx_tab 129 204 = some (.invokevirtual 177, 207, 37, 355) := by decide +kernel
theorem ee129_207 : fx_tab 129 207 = some (.iastore, 208, 0, 0) := by decide +kernel
theorem ee129_208 : fx_tab 129 208 = some (.aload_n 0, 209, 0, 0) := by decide +kernel
theorem ee129_209 : fx_tab 129 209 = some (.getfield 20, 212, 780, 70) := by decide +kernel
theorem ee129_212 : fx_tab 129 212 = some (.iload_n 1, 213, 1, 0) := by decide +kernel
theorem ee129_213 : fx_tab 129 213 = some (.aload_n 0, 214, 0, 0) := by decide +kernel
theorem ee129_214 : fx_tab 129 214 = some (.getfield 38, 217, 786, 70) := by decide +kernel
theorem ee129_217 : fx_tab 129 217 = some (.iload_n 1, 218, 1, 0) := by decide +kernel
theorem ee129_218 : fx_tab 129 218 = some (.iaload, 219, 0, 0) := by decide +kernel
theorem ee129_219 : fx_tab 129 219 = some (.iastore, 220, 0, 0) := by decide +kernel
theorem ee129_220 : fx_tab 129 220 = some (.iinc 1 (1), 223, 1, 0) := by decide +kernel
theorem ee129_223 : fx_tab 129 223 = some (.goto (-60), 226, 163, 0) := by decide +kernel
theorem ee129_226 : fx_tab 129 226 = some (.aload_n 0, 227, 0, 0) := by decide +kernel
theorem ee129_227 : fx_tab 129 227 = some (.dup, 228, 0, 0) := by decide +kernel
theorem ee129_228 : fx_tab 129 228 = some (.getfield 149, 231, 773, 0) := by decide +kernel
theorem ee129_231 : fx_tab 129 231 = some (.iconst (1), 232, 0, 0) := by decide +kernel
theorem ee129_232 : fx_tab 129 232 = some (.iadd, 233, 0, 0) := by decide +kernel
theorem ee129_233 : fx_tab 129 233 = some (.putfield 149, 236, 773, 0) := by decide +kernel
theorem ee129_236 : fx_tab 129 236 = some (.aload_n 0, 237, 0, 0) := by decide +kernel
theorem ee129_237 : fx_tab 129 237 = some (.getfield 155, 240, 778, 0) := by decide +kernel
theorem ee129_240 : fx_tab 129 240 = some (.ireturn, 241, 0, 0) := by decide +kernel
theorem ee130_0 : fx_tab 130 0 = some (.aload_n 0, 1, 0, 0) := by decide +kernel
theorem ee130_1 : fx_tab 130 1 = some (.invokespecial 3, 4, 1000, 0) := by decide +kernel
theorem ee130_4 : fx_tab 130 4 = some (.aload_n 0, 5, 0, 0) := by decide +kernel
theorem ee130_5 : fx_tab 130 5 = some (.new 9, 8, 9, 5) := by decide +kernel
theorem ee130_8 : fx_tab 130 8 = some (.dup, 9, 0, 0) := by decide +kernel
theorem ee130_9 : fx_tab 130 9 = some (.invokespecial 11, 12, 94, 305) := by decide +kernel
theorem ee130_12 : fx_tab 130 12 = some (.putfield 12, 15, 0, 19) := by decide +kernel
theorem ee130_15 : fx_tab 130 15 = some (.aload_n 0, 16, 0, 0) := by decide +kernel
theorem ee130_16 : fx_tab 130 16 = some (.aload_n 0, 17, 0, 0) := by decide +kernel
theorem ee130_17 : fx_tab 130 17 = some (.getfield 12, 20, 0, 19) := by decide +kernel
theorem ee130_20 : fx_tab 130 20 = some (.getfield 16, 23, 577, 13) := by decide +kernel
theorem ee130_23 : fx_tab 130 23 = some (.putfield 20, 26, 1, 13) := by decide +kernel
theorem ee130_26 : fx_tab 130 26 = some (.aload_n 0, 27, 0, 0) := by decide +kernel
theorem ee130_27 : fx_tab 130 27 = some (.aload_n 0, 28, 0, 0) := by decide +kernel
theorem ee130_28 : fx_tab 130 28 = some (.getfield 12, 31, 0, 19) := by decide +kernel
theorem ee130_31 : fx_tab 130 31 = some (.getfield 21, 34, 578, 17) := by decide +kernel
theorem ee130_34 : fx_tab 130 34 = some (.putfield 25, 37, 2, 17) := by decide +kernel
theorem ee130_37 : fx_tab 130 37 = some (.aload_n 0, 38, 0, 0) := by decide +kernel
theorem ee130_38 : fx_tab 130 38 = some (.bipush (64), 40, 0, 0) := by decide +kernel
theorem ee130_40 : fx_tab 130 40 = some (.anewarray 26, 43, 4, 162) := by decide +kernel
theorem ee130_43 : fx_tab 130 43 = some (.putfield 28, 46, 3, 44) := by decide +kernel
theorem ee130_46 : fx_tab 130 46 = some (.aload_n 0, 47, 0, 0) := by decide +kernel
theorem ee130_47 : fx_tab 130 47 = some (.new 32, 50, 10, 3) := by decide +kernel
theorem ee130_50 : fx_tab 130 50 = some (.dup, 51, 0, 0) := by decide +kernel
theorem ee130_51 : fx_tab 130 51 = some (.invokespecial 34, 54, 65, 321) := by decide +kernel
theorem ee130_54 : fx_tab 130 54 = some (.putfield 35, 57, 5, 20) := by decide +kernel
theorem ee130_57 : fx_tab 130 57 = some (.aload_n 0, 58, 0, 0) := by decide +kernel
theorem ee130_58 : fx_tab 130 58 = some (.new 32, 61, 10, 3) := by decide +kernel
theorem ee130_61 : fx_tab 130 61 = some (.dup, 62, 0, 0) := by decide +kernel
theorem ee130_62 : fx_tab 130 62 = some (.invokespecial 34, 65, 65, 321) := by decide +kernel
theorem ee130_65 : fx_tab 130 65 = some (.putfield 39, 68, 6, 20) := by decide +kernel
theorem ee130_68 : fx_tab 130 68 = some (.aload_n 0, 69, 0, 0) := by decide +kernel
theorem ee130_69 : fx_tab 130 69 = some (.iconst (2), 70, 0, 0) := by decide +kernel
theorem ee130_70 : fx_tab 130 70 = some (.iconst (0), 71, 0, 0) := by decide +kernel
theorem ee130_71 : fx_tab 130 71 = some (.iconst (1), 72, 0, 0) := by decide +kernel
theorem ee130_72 : fx_tab 130 72 = some (.invokevirtual 42, 75, 128, 164) := by decide +kernel
theorem ee130_75 : fx_tab 130 75 = some (.pop, 76, 0, 0) := by decide +kernel
theorem ee130_76 : fx_tab 130 76 = some (.return_, 77, 0, 0) := by decide +kernel
theorem ee131_0 : fx_tab 131 0 = some (.aload_n 0, 1, 0, 0) := by decide +kernel
theorem ee131_1 : fx_tab 131 1 = some (.invokevirtual 128, 4, 107, 161) := by decide +kernel
theorem ee131_4 : fx_tab 131 4 = some (.aload_n 0, 5, 0, 0) := by decide +kernel
theorem ee131_5 : fx_tab 131 5 = some (.getfield 25, 8, 2, 17) := by decide +kernel
theorem ee131_8 : fx_tab 131 8 = some (.aload_n 0, 9, 0, 0) := by decide +kernel
theorem ee131_9 : fx_tab 131 9 = some (.invokevirtual 131, 12, 105, 161) := by decide +kernel
theorem ee131_12 : fx_tab 131 12 = some (.invokevirtual 135, 15, 15, 274) := by decide +kernel
theorem ee131_15 : fx_tab 131 15 = some (.iconst (0), 16, 0, 0) := by decide +kernel
theorem ee131_16 : fx_tab 131 16 = some (.istore_n 1, 17, 1, 0) := by decide +kernel
theorem ee131_17 : fx_tab 131 17 = some (.iload_n 1, 18, 1, 0) := by decide +kernel
theorem ee131_18 : fx_tab 131 18 = some (.aload_n 0, 19, 0, 0) := by decide +kernel
theorem ee131_19 : fx_tab 131 19 = some (.getfield 20, 22, 1, 13) := by decide +kernel
theorem ee131_22 : fx_tab 131 22 = some (.getfield 140, 25, 192, 0) := by decide +kernel
theorem ee131_25 : fx_tab 131 25 = some (.if_icmp .ge (19), 28, 44, 0) := by decide +kernel
theorem ee131_28 : fx_tab 131 28 = some (.aload_n 0, 29, 0, 0) := by decide +kernel
theorem ee131_29 : fx_tab 131 29 = some (.aload_n 0, 30, 0, 0) := by decide +kernel
theorem ee131_30 : fx_tab 131 30 = some (.getfield 28, 33, 3, 44) := by decide +kernel
theorem ee131_33 : fx_tab 131 33 = some (.iload_n 1, 34, 1, 0) := by decide +kernel
theorem ee131_34 : fx_tab 131 34 = some (.aaload, 35, 0, 0) := by decide +kernel
theorem ee131_35 : fx_tab 131 35 = some (.invokevirtual 141, 38, 127, 162) := by decide +kernel
theorem ee131_38 : fx_tab 131 38 = some (.iinc 1 (1), 41, 1, 0) := by decide +kernel
theorem ee131_41 : fx_tab 131 41 = some (.goto (-24), 44, 17, 0) := by decide +kernel
theorem ee131_44 : fx_tab 131 44 = some (.aload_n 0, 45, 0, 0) := by decide +kernel
theorem ee131_45 : fx_tab 131 45 = some (.invokevirtual 145, 48, 1, 161) := by decide +kernel
theorem ee131_48 : fx_tab 131 48 = some (.istore_n 1, 49, 1, 0) := by decide +kernel
theorem ee131_49 : fx_tab 131 49 = some (.iconst (0), 50, 0, 0) := by decide +kernel
theorem ee131_50 : fx_tab 131 50 = some (.istore_n 2, 51, 2, 0) := by decide +kernel
theorem ee131_51 : fx_tab 131 51 = some (.iload_n 2, 52, 2, 0) := by decide +kernel
theorem ee131_52 : fx_tab 131 52 = some (.aload_n 0, 53, 0, 0) := by decide +kernel
theorem ee131_53 : fx_tab 131 53 = some (.getfield 20, 56, 1, 13) := by decide +kernel
theorem ee131_56 : fx_tab 131 56 = some (.getfield 140, 59, 192, 0) := by decide +kernel
theorem ee131_59 : fx_tab 131 59 = some (.if_icmp .ge (20), 62, 79, 0) := by decide +kernel
theorem ee131_62 : fx_tab 131 62 = some (.aload_n 0, 63, 0, 0) := by decide +kernel
theorem ee131_63 : fx_tab 131 63 = some (.aload_n 0, 64, 0, 0) := by decide +kernel
theorem ee131_64 : fx_tab 131 64 = some (.getfield 28, 67, 3, 44) := by decide +kernel
theorem ee131_67 : fx_tab 131 67 = some (.iload_n 2, 68, 2, 0) := by decide +kernel
theorem ee131_68 : fx_tab 131 68 = some (.aaload, 69, 0, 0) := by decide +kernel
theorem ee131_69 : fx_tab 131 69 = some (.iload_n 1, 70, 1, 0) := by decide +kernel
theorem ee131_70 : fx_tab 131 70 = some (.invokevirtual 148, 73, 83, 163) := by decide +kernel
theorem ee131_73 : fx_tab 131 73 = some (.iinc 2 (1), 76, 2, 0) := by decide +kernel
theorem ee131_76 : fx_tab 131 76 = some (.goto (-25), 79, 51, 0) := by decide +kernel
theorem ee131_79 : fx_tab 131 79 = some (.iconst (0), 80, 0, 0) := by decide +kernel
theorem ee131_80 : fx_tab 131 80 = some (.istore_n 2, 81, 2, 0) := by decide +kernel
theorem ee131_81 : fx_tab 131 81 = some (.iconst (0), 82, 0, 0) := by decide +kernel
theorem ee131_82 : fx_tab 131 82 = some (.istore_n 3, 83, 3, 0) := by decide +kernel
theorem ee131_83 : fx_tab 131 83 = some (.iload_n 3, 84, 3, 0) := by decide +kernel
theorem ee131_84 : fx_tab 131 84 = some (.aload_n 0, 85, 0, 0) := by decide +kernel
theorem ee131_85 : fx_tab 131 85 = some (.getfield 20, 88, 1, 13) := by decide +kernel
theorem ee131_88 : fx_tab 131 88 = some (.getfield 140, 91, 192, 0) := by decide +kernel
theorem ee131_91 : fx_tab 131 91 = some (.if_icmp .ge (22), 94, 113, 0) := by decide +kernel
theorem ee131_94 : fx_tab 131 94 = some (.iload_n 2, 95, 2, 0) := by decide +kernel
theorem ee131_95 : fx_tab 131 95 = some (.aload_n 0, 96, 0, 0) := by decide +kernel
theorem ee131_96 : fx_tab 131 96 = some (.aload_n 0, 97, 0, 0) := by decide +kernel
theorem ee131_97 : fx_tab 131 97 = some (.getfield 28, 100, 3, 44) := by decide +kernel
theorem ee131_100 : fx_tab 131 100 = some (.iload_n 3, 101, 3, 0) := by decide +kernel
theorem ee131_101 : fx_tab 131 101 = some (.aaload, 102, 0, 0) := by decide +kernel
theorem ee131_102 : fx_tab 131 102 = some (.invokevirtual 152, 105, 126, 162) := by decide +kernel
theorem ee131_105 : fx_tab 131 105 = some (.iadd, 106, 0, 0) := by decide +kernel
theorem ee131_106 : fx_tab 131 106 = some (.istore_n 2, 107, 2, 0) := by decide +kernel
theorem ee131_107 : fx_tab 131 107 = some (.iinc 3 (1), 110, 3, 0) := by decide +kernel
theorem ee131_110 : fx_tab 131 110 = some (.goto (-27), 113, 83, 0) := by decide +kernel
theorem ee131_113 : fx_tab 131 113 = some (.iconst (0), 114, 0, 0) := by decide +kernel
theorem ee131_114 : fx_tab 131 114 = some (.istore_n 3, 115, 3, 0) := by decide +kernel
theorem ee131_115 : fx_tab 131 115 = some (.iload_n 3, 116, 3, 0) := by decide +kernel
theorem ee131_116 : fx_tab 131 116 = some (.aload_n 0, 117, 0, 0) := by decide +kernel
theorem ee131_117 : fx_tab 131 117 = some (.getfield 20, 120, 1, 13) := by decide +kernel
theorem ee131_120 : fx_tab 131 120 = some (.getfield 140, 123, 192, 0) := by decide +kernel
theorem ee131_123 : fx_tab 131 123 = some (.if_icmp .ge (18), 126, 141, 0) := by decide +kernel
theorem ee131_126 : fx_tab 131 126 = some (.aload_n 0, 127, 0, 0) := by decide +kernel
theorem ee131_127 : fx_tab 131 127 = some (.getfield 28, 130, 3, 44) := by decide +kernel
theorem ee131_130 : fx_tab 131 130 = some (.iload_n 3, 131, 3, 0) := by decide +kernel
theorem ee131_131 : fx_tab 131 131 = some (.aaload, 132, 0, 0) := by decide +kernel
theorem ee131_132 : fx_tab 131 132 = some (.invokevirtual 156, 135, 9, 225) := by decide +kernel
theorem ee131_135 : fx_tab 131 135 = some (.iinc 3 (1), 138, 3, 0) := by decide +kernel
theorem ee131_138 : fx_tab 131 138 = some (.goto (-23), 141, 115, 0) := by decide +kernel
theorem ee131_141 : fx_tab 131 141 = some (.aload_n 0, 142, 0, 0) := by decide +kernel
theorem ee131_142 : fx_tab 131 142 = some (.dup, 143, 0, 0) := by decide +kernel
theorem ee131_143 : fx_tab 131 143 = some (.getfield 65, 146, 9, 0) := by decide +kernel
theorem ee131_146 : fx_tab 131 146 = some (.iconst (1), 147, 0, 0) := by decide +kernel
theorem ee131_147 : fx_tab 131 147 = some (.iadd, 148, 0, 0) := by decide +kernel
theorem ee131_148 : fx_tab 131 148 = some (.putfield 65, 151, 9, 0) := by decide +kernel
theorem ee131_151 : fx_tab 131 151 = some (.iload_n 2, 152, 2, 0) := by decide +kernel
theorem ee131_152 : fx_tab 131 152 = some (.ireturn, 153, 0, 0) := by decide +kernel
theorem ee132_0 : fx_tab 132 0 = some (.aload_n 2, 1, 2, 0) := by decide +kernel
theorem ee132_1 : fx_tab 132 1 = some (.iconst (0), 2, 0, 0) := by decide +kernel
theorem ee132_2 : fx_tab 132 2 = some (.aload_n 0, 3, 0, 0) := by decide +kernel
theorem ee132_3 : fx_tab 132 3 = some (.iload_n 1, 4, 1, 0) := by decide +kernel
theorem ee132_4 : fx_tab 132 4 = some (.invokevirtual 7, 7, 121, 162) := by decide +kernel
theorem ee132_7 : fx_tab 132 7 = some (.i2l, 8, 0, 0) := by decide +kernel
theorem ee132_8 : fx_tab 132 8 = some (.lastore, 9, 0, 0) := by decide +kernel
theorem ee132_9 : fx_tab 132 9 = some (.goto (9), 12, 18, 0) := by decide +kernel
theorem ee132_12 : fx_tab 132 12 = some (.astore_n 3, 13, 3, 0) := by decide +kernel
theorem ee132_13 : fx_tab 132 13 = some (.iconst (1), 14, 0, 0) := by decide +kernel
theorem ee132_14 : fx_tab 132 14 = some (.ireturn, 15, 0, 0) := by decide +kernel
theorem ee132_15 : fx_tab 132 15 = some (.astore_n 3, 16, 3, 0) := by decide +kernel
theorem ee132_16 : fx_tab 132 16 = some (.iconst (2), 17, 0, 0) := by decide +kernel
theorem ee132_17 : fx_tab 132 17 = some (.ireturn, 18, 0, 0) := by decide +kernel
theorem ee132_18 : fx_tab 132 18 = some (.iconst (0), 19, 0, 0) := by decide +kernel
theorem ee132_19 : fx_tab 132 19 = some (.ireturn, 20, 0, 0) := by decide +kernel
theorem ee133_0 : fx_tab 133 0 = some (.new 8, 3, 0, 16) := by decide +kernel
theorem ee133_3 : fx_tab 133 3 = some (.dup, 4, 0, 0) := by decide +kernel
theorem ee133_4 : fx_tab 133 4 = some (.invokespecial 17, 7, 130, 161) := by decide +kernel
theorem ee133_7 : fx_tab 133 7 = some (.astore_n 1, 8, 1, 0) := by decide +kernel
theorem ee133_8 : fx_tab 133 8 = some (.new 18, 11, 12, 51) := by decide +kernel
theorem ee133_11 : fx_tab 133 11 = some (.dup, 12, 0, 0) := by decide +kernel
theorem ee133_12 : fx_tab 133 12 = some (.invokespecial 20, 15, 113, 353) := by decide +kernel
theorem ee133_15 : fx_tab 133 15 = some (.astore_n 2, 16, 2, 0) := by decide +kernel
theorem ee133_16 : fx_tab 133 16 = some (.iconst (1), 17, 0, 0) := by decide +kernel
theorem ee133_17 : fx_tab 133 17 = some (.newarray .long, 19, 72, 0) := by decide +kernel
theorem ee133_19 : fx_tab 133 19 = some (.astore_n 3, 20, 3, 0) := by decide +kernel
theorem ee133_20 : fx_tab 133 20 = some (.iconst (0), 21, 0, 0) := by decide +kernel
theorem ee133_21 : fx_tab 133 21 = some (.istore 4, 23, 4, 0) := by decide +kernel
theorem ee133_23 : fx_tab 133 23 = some (.iload 4, 25, 4, 0) := by decide +kernel
theorem ee133_25 : fx_tab 133 25 = some (.aload_n 0, 26, 0, 0) := by decide +kernel
theorem ee133_26 : fx_tab 133 26 = some (.arraylength, 27, 0, 0) := by decide +kernel
theorem ee133_27 : fx_tab 133 27 = some (.iconst (5), 28, 0, 0) := by decide +kernel
theorem ee133_28 : fx_tab 133 28 = some (.isub, 29, 0, 0) := by decide +kernel
theorem ee133_29 : fx_tab 133 29 = some (.if_icmp .gt (527), 32, 556, 0) := by decide +kernel
theorem ee133_32 : fx_tab 133 32 = some (.aload_n 0, 33, 0, 0) := by decide +kernel
theorem ee133_33 : fx_tab 133 33 = some (.iload 4, 35, 4, 0) := by decide +kernel
theorem ee133_35 : fx_tab 133 35 = some (.iaload, 36, 0, 0) := by decide +kernel
theorem ee133_36 : fx_tab 133 36 = some (.bipush (15), 38, 0, 0) := by decide +kernel
theorem ee133_38 : fx_tab 133 38 = some (.iand, 39, 0, 0) := by decide +kernel
theorem ee133_39 : fx_tab 133 39 = some (.tableswitch (511) (0) (10) #[(57), (106), (171), (232), (245), (301), (338), (363), (400), (425), (474)], 96, 550, 0) := by decide +kernel
theorem ee133_96 : fx_tab 133 96 = some (.aload_n 1, 97, 1, 0) := by decide +kernel
theorem ee133_97 : fx_tab 133 97 = some (.aload_n 0, 98, 0, 0) := by decide +kernel
theorem ee133_98 : fx_tab 133 98 = some (.iload 4, 100, 4, 0) := by decide +kernel
theorem ee133_100 : fx_tab 133 100 = some (.iconst (1), 101, 0, 0) := by decide +kernel
theorem ee133_101 : fx_tab 133 101 = some (.iadd, 102, 0, 0) := by decide +kernel
theorem ee133_102 : fx_tab 133 102 = some (.iaload, 103, 0, 0) := by decide +kernel
theorem ee133_103 : fx_tab 133 103 = some (.aload_n 0, 104, 0, 0) := by decide +kernel
theorem ee133_104 : fx_tab 133 104 = some (.iload 4, 106, 4, 0) := by decide +kernel
theorem ee133_106 : fx_tab 133 106 = some (.iconst (2), 107, 0, 0) := by decide +kernel
theorem ee133_107 : fx_tab 133 107 = some (.iadd, 108, 0, 0) := by decide +kernel
theorem ee133_108 : fx_tab 133 108 = some (.iaload, 109, 0, 0) := by decide +kernel
theorem ee133_109 : fx_tab 133 109 = some (.aload_n 0, 110, 0, 0) := by decide +kernel
theorem ee133_110 : fx_tab 133 110 = some (.iload 4, 112, 4, 0) := by decide +kernel
theorem ee133_112 : fx_tab 133 112 = some (.iconst (3), 113, 0, 0) := by decide +kernel
theorem ee133_113 : fx_tab 133 113 = some (.iadd, 114, 0, 0) := by decide +kernel
theorem ee133_114 : fx_tab 133 114 = some (.iaload, 115, 0, 0) := by decide +kernel
theorem ee133_115 : fx_tab 133 115 = some (.invokevirtual 21, 118, 128, 164) := by decide +kernel
theorem ee133_118 : fx_tab 133 118 = some (.aload_n 2, 119, 2, 0) := by decide +kernel
theorem ee133_119 : fx_tab 133 119 = some (.aload_n 0, 120, 0, 0) := by decide +kernel
theorem ee133_120 : fx_tab 133 120 = some (.iload 4, 122, 4, 0) := by decide +kernel
theorem ee133_122 : fx_tab 133 122 = some (.iconst (1), 123, 0, 0) := by decide +kernel
theorem ee133_123 : fx_tab 133 123 = some (.iadd, 124, 0, 0) := by decide +kernel
theorem ee133_124 : fx_tab 133 124 = some (.iaload, 125, 0, 0) := by decide +kernel
theorem ee133_125 : fx_tab 133 125 = some (.aload_n 0, 126, 0, 0) := by decide +kernel
theorem ee133_126 : fx_tab 133 126 = some (.iload 4, 128, 4, 0) := by decide +kernel
theorem ee133_128 : fx_tab 133 128 = some (.iconst (2), 129, 0, 0) := by decide +kernel
theorem ee133_129 : fx_tab 133 129 = some (.iadd, 130, 0, 0) := by decide +kernel
theorem ee133_130 : fx_tab 133 130 = some (.iaload, 131, 0, 0) := by decide +kernel
theorem ee133_131 : fx_tab 133 131 = some (.aload_n 0, 132, 0, 0) := by decide +kernel
theorem ee133_132 : fx_tab 133 132 = some (.iload 4, 134, 4, 0) := by decide +kernel
theorem ee133_134 : fx_tab 133 134 = some (.iconst (3), 135, 0, 0) := by decide +kernel
theorem ee133_135 : fx_tab 133 135 = some (.iadd, 136, 0, 0) := by decide +kernel
theorem ee133_136 : fx_tab 133 136 = some (.iaload, 137, 0, 0) := by decide +kernel
theorem ee133_137 : fx_tab 133 137 = some (.invokevirtual 25, 140, 101, 356) := by decide +kernel
theorem ee133_140 : fx_tab 133 140 = some (.if_icmp .eq (410), 143, 550, 0) := by decide +kernel
theorem ee133_143 : fx_tab 133 143 = some (.iconst (0), 144, 0, 0) := by decide +kernel
theorem ee133_144 : fx_tab 133 144 = some (.ireturn, 145, 0, 0) := by decide +kernel
theorem ee133_145 : fx_tab 133 145 = some (.aload_n 1, 146, 1, 0) := by decide +kernel
theorem ee133_146 : fx_tab 133 146 = some (.aload_n 0, 147, 0, 0) := by decide +kernel
theorem ee133_147 : fx_tab 133 147 = some (.iload 4, 149, 4, 0) := by decide +kernel
theorem ee133_149 : fx_tab 133 149 = some (.iconst (1), 150, 0, 0) := by decide +kernel
theorem ee133_150 : fx_tab 133 150 = some (.iadd, 151, 0, 0) := by decide +kernel
theorem ee133_151 : fx_tab 133 151 = some (.iaload, 152, 0, 0) := by decide +kernel
theorem ee133_152 : fx_tab 133 152 = some (.aload_n 0, 153, 0, 0) := by decide +kernel
theorem ee133_153 : fx_tab 133 153 = some (.iload 4, 155, 4, 0) := by decide +kernel
theorem ee133_155 : fx_tab 133 155 = some (.iconst (2), 156, 0, 0) := by decide +kernel
theorem ee133_156 : fx_tab 133 156 = some (.iadd, 157, 0, 0) := by decide +kernel
theorem ee133_157 : fx_tab 133 157 = some (.iaload, 158, 0, 0) := by decide +kernel
theorem ee133_158 : fx_tab 133 158 = some (.aload_n 0, 159, 0, 0) := by decide +kernel
theorem ee133_159 : fx_tab 133 159 = some (.iload 4, 161, 4, 0) := by decide +kernel
theorem ee133_161 : fx_tab 133 161 = some (.iconst (3), 162, 0, 0) := by decide +kernel
theorem ee133_162 : fx_tab 133 162 = some (.iadd, 163, 0, 0) := by decide +kernel
theorem ee133_163 : fx_tab 133 163 = some (.iaload, 164, 0, 0) := by decide +kernel
theorem ee133_164 : fx_tab 133 164 = some (.ifCond .eq (7), 167, 171, 0) := by decide +kernel
theorem ee133_167 : fx_tab 133 167 = some (.iconst (1), 168, 0, 0) := by decide +kernel
theorem ee133_168 : fx_tab 133 168 = some (.goto (4), 171, 172, 0) := by decide +kernel
theorem ee133_171 : fx_tab 133 171 = some (.iconst (0), 172, 0, 0) := by decide +kernel
theorem ee133_172 : fx_tab 133 172 = some (.invokevirtual 26, 175, 106, 164) := by decide +kernel
theorem ee133_175 : fx_tab 133 175 = some (.aload_n 2, 176, 2, 0) := by decide +kernel
theorem ee133_176 : fx_tab 133 176 = some (.aload_n 0, 177, 0, 0) := by decide +kernel
theorem ee133_177 : fx_tab 133 177 = some (.iload 4, 179, 4, 0) := by decide +kernel
theorem ee133_179 : fx_tab 133 179 = some (.iconst (1), 180, 0, 0) := by decide +kernel
theorem ee133_180 : fx_tab 133 180 = some (.iadd, 181, 0, 0) := by decide +kernel
theorem ee133_181 : fx_tab 133 181 = some (.iaload, 182, 0, 0) := by decide +kernel
theorem ee133_182 : fx_tab 133 182 = some (.aload_n 0, 183, 0, 0) := by decide +kernel
theorem ee133_183 : fx_tab 133 183 = some (.iload 4, 185, 4, 0) := by decide +kernel
theorem ee133_185 : fx_tab 133 185 = some (.iconst (2), 186, 0, 0) := by decide +kernel
theorem ee133_186 : fx_tab 133 186 = some (.iadd, 187, 0, 0) := by decide +kernel
theorem ee133_187 : fx_tab 133 187 = some (.iaload, 188, 0, 0) := by decide +kernel
theorem ee133_188 : fx_tab 133 188 = some (.aload_n 0, 189, 0, 0) := by decide +kernel
theorem ee133_189 : fx_tab 133 189 = some (.iload 4, 191, 4, 0) := by decide +kernel
theorem ee133_191 : fx_tab 133 191 = some (.iconst (3), 192, 0, 0) := by decide +kernel
theorem ee133_192 : fx_tab 133 192 = some (.iadd, 193, 0, 0) := by decide +kernel
theorem ee133_193 : fx_tab 133 193 = some (.iaload, 194, 0, 0) := by decide +kernel
theorem ee133_194 : fx_tab 133 194 = some (.ifCond .eq (7), 197, 201, 0) := by decide +kernel
theorem ee133_197 : fx_tab 133 197 = some (.iconst (1), 198, 0, 0) := by decide +kernel
theorem ee133_198 : fx_tab 133 198 = some (.goto (4), 201, 202, 0) := by decide +kernel
theorem ee133_201 : fx_tab 133 201 = some (.iconst (0), 202, 0, 0) := by decide +kernel
theorem ee133_202 : fx_tab 133 202 = some (.invokevirtual 30, 205, 99, 356) := by decide +kernel
theorem ee133_205 : fx_tab 133 205 = some (.if_icmp .eq (345), 208, 550, 0) := by decide +kernel
theorem ee133_208 : fx_tab 133 208 = some (.iconst (0), 209, 0, 0) := by decide +kernel
theorem ee133_209 : fx_tab 133 209 = some (.ireturn, 210, 0, 0) := by decide +kernel
theorem ee133_210 : fx_tab 133 210 = some (.aload_n 1, 211, 1, 0) := by decide +kernel
theorem ee133_211 : fx_tab 133 211 = some (.aload_n 0, 212, 0, 0) := by decide +kernel
theorem ee133_212 : fx_tab 133 212 = some (.iload 4, 214, 4, 0) := by decide +kernel
theorem ee133_214 : fx_tab 133 214 = some (.iconst (1), 215, 0, 0) := by decide +kernel
theorem ee133_215 : fx_tab 133 215 = some (.iadd, 216, 0, 0) := by decide +kernel
theorem ee133_216 : fx_tab 133 216 = some (.iaload, 217, 0, 0) := by decide +kernel
theorem ee133_217 : fx_tab 133 217 = some (.aload_n 0, 218, 0, 0) := by decide +kernel
theorem ee133_218 : fx_tab 133 218 = some (.iload 4, 220, 4, 0) := by decide +kernel
theorem ee133_220 : fx_tab 133 220 = some (.iconst (2), 221, 0, 0) := by decide +kernel
theorem ee133_221 : fx_tab 133 221 = some (.iadd, 222, 0, 0) := by decide +kernel
theorem ee133_222 : fx_tab 133 222 = some (.iaload, 223, 0, 0) := by decide +kernel
theorem ee133_223 : fx_tab 133 223 = some (.aload_n 0, 224, 0, 0) := by decide +kernel
theorem ee133_224 : fx_tab 133 224 = some (.iload 4, 226, 4, 0) := by decide +kernel
theorem ee133_226 : fx_tab 133 226 = some (.iconst (3), 227, 0, 0) := by decide +kernel
theorem ee133_227 : fx_tab 133 227 = some (.iadd, 228, 0, 0) := by decide +kernel
theorem ee133_228 : fx_tab 133 228 = some (.iaload, 229, 0, 0) := by decide +kernel
theorem ee133_229 : fx_tab 133 229 = some (.aload_n 0, 230, 0, 0) := by decide +kernel
theorem ee133_230 : fx_tab 133 230 = some (.iload 4, 232, 4, 0) := by decide +kernel
theorem ee133_232 : fx_tab 133 232 = some (.iconst (4), 233, 0, 0) := by decide +kernel
theorem ee133_233 : fx_tab 133 233 = some (.iadd, 234, 0, 0) := by decide +kernel
theorem ee133_234 : fx_tab 133 234 = some (.iaload, 235, 0, 0) := by decide +kernel
theorem ee133_235 : fx_tab 133 235 = some (.invokevirtual 31, 238, 119, 165) := by decide +kernel
theorem ee133_238 : fx_tab 133 238 = some (.aload_n 2, 239, 2, 0) := by decide +kernel
theorem ee133_239 : fx_tab 133 239 = some (.aload_n 0, 240, 0, 0) := by decide +kernel
theorem ee133_240 : fx_tab 133 240 = some (.iload 4, 242, 4, 0) := by decide +kernel
theorem ee133_242 : fx_tab 133 242 = some (.iconst (1), 243, 0, 0) := by decide +kernel
theorem ee133_243 : fx_tab 133 243 = some (.iadd, 244, 0, 0) := by decide +kernel
theorem ee133_244 : fx_tab 133 244 = some (.iaload, 245, 0, 0) := by decide +kernel
theorem ee133_245 : fx_tab 133 245 = some (.aload_n 0, 246, 0, 0) := by decide +kernel
theorem ee133_246 : fx_tab 133 246 = some (.iload 4, 248, 4, 0) := by decide +kernel
theorem ee133_248 : fx_tab 133 248 = some (.iconst (2), 249, 0, 0) := by decide +kernel
theorem ee133_249 : fx_tab 133 249 = some (.iadd, 250, 0, 0) := by decide +kernel
theorem ee133_250 : fx_tab 133 250 = some (.iaload, 251, 0, 0) := by decide +kernel
theorem ee133_251 : fx_tab 133 251 = some (.aload_n 0, 252, 0, 0) := by decide +kernel
theorem ee133_252 : fx_tab 133 252 = some (.iload 4, 254, 4, 0) := by decide +kernel
theorem ee133_254 : fx_tab 133 254 = some (.iconst (3), 255, 0, 0) := by decide +kernel
theorem ee133_255 : fx_tab 133 255 = some (.iadd, 256, 0, 0) := by decide +kernel
theorem ee133_256 : fx_tab 133 256 = some (.iaload, 257, 0, 0) := by decide +kernel
theorem ee133_257 : fx_tab 133 257 = some (.aload_n 0, 258, 0, 0) := by decide +kernel
theorem ee133_258 : fx_tab 133 258 = some (.iload 4, 260, 4, 0) := by decide +kernel
theorem ee133_260 : fx_tab 133 260 = some (.iconst (4), 261, 0, 0) := by decide +kernel
theorem ee133_261 : fx_tab 133 261 = some (.iadd, 262, 0, 0) := by decide +kernel
theorem ee133_262 : fx_tab 133 262 = some (.iaload, 263, 0, 0) := by decide +kernel
theorem ee133_263 : fx_tab 133 263 = some (.invokevirtual 35, 266, 79, 357) := by decide +kernel
theorem ee133_266 : fx_tab 133 266 = some (.if_icmp .eq (284), 269, 550, 0) := by decide +kernel
theorem ee133_269 : fx_tab 133 269 = some (.iconst (0), 270, 0, 0) := by decide +kernel
theorem ee133_270 : fx_tab 133 270 = some (.ireturn, 271, 0, 0) := by decide +kernel
theorem ee133_271 : fx_tab 133 271 = some (.aload_n 1, 272, 1, 0) := by decide +kernel
theorem ee133_272 : fx_tab 133 272 = some (.invokevirtual 36, 275, 131, 161) := by decide +kernel
theorem ee133_275 : fx_tab 133 275 = some (.aload_n 2, 276, 2, 0) := by decide +kernel
theorem ee133_276 : fx_tab 133 276 = some (.invokevirtual 40, 279, 129, 353) := by decide +kernel
theorem ee133_279 : fx_tab 133 279 = some (.if_icmp .eq (271), 282, 550, 0) := by decide +kernel
theorem ee133_282 : fx_tab 133 282 = some (.iconst (0), 283, 0, 0) := by decide +kernel
theorem ee133_283 : fx_tab 133 283 = some (.ireturn, 284, 0, 0) := by decide +kernel
theorem ee133_284 : fx_tab 133 284 = some (.aload_n 1, 285, 1, 0) := by decide +kernel
theorem ee133_285 : fx_tab 133 285 = some (.aload_n 0, 286, 0, 0) := by decide +kernel
theorem ee133_286 : fx_tab 133 286 = some (.iload 4, 288, 4, 0) := by decide +kernel
theorem ee133_288 : fx_tab 133 288 = some (.iconst (1), 289, 0, 0) := by decide +kernel
theorem ee133_289 : fx_tab 133 289 = some (.iadd, 290, 0, 0) := by decide +kernel
theorem ee133_290 : fx_tab 133 290 = some (.iaload, 291, 0, 0) := by decide +kernel
theorem ee133_291 : fx_tab 133 291 = some (.aload_n 3, 292, 3, 0) := by decide +kernel
theorem ee133_292 : fx_tab 133 292 = some (.invokestatic 41, 295, 132, 3) := by decide +kernel
theorem ee133_295 : fx_tab 133 295 = some (.istore 5, 297, 5, 0) := by decide +kernel
theorem ee133_297 : fx_tab 133 297 = some (.aload_n 2, 298, 2, 0) := by decide +kernel
theorem ee133_298 : fx_tab 133 298 = some (.aload_n 0, 299, 0, 0) := by decide +kernel
theorem ee133_299 : fx_tab 133 299 = some (.iload 4, 301, 4, 0) := by decide +kernel
theorem ee133_301 : fx_tab 133 301 = some (.iconst (1), 302, 0, 0) := by decide +kernel
theorem ee133_302 : fx_tab 133 302 = some (.iadd, 303, 0, 0) := by decide +kernel
theorem ee133_303 : fx_tab 133 303 = some (.iaload, 304, 0, 0) := by decide +kernel
theorem ee133_304 : fx_tab 133 304 = some (.invokevirtual 46, 307, 102, 354) := by decide +kernel
theorem ee133_307 : fx_tab 133 307 = some (.istore 6, 309, 6, 0) := by decide +kernel
theorem ee133_309 : fx_tab 133 309 = some (.aload_n 2, 310, 2, 0) := by decide +kernel
theorem ee133_310 : fx_tab 133 310 = some (.invokevirtual 47, 313, 44, 353) := by decide +kernel
theorem ee133_313 : fx_tab 133 313 = some (.iload 5, 315, 5, 0) := by decide +kernel
theorem ee133_315 : fx_tab 133 315 = some (.if_icmp .eq (5), 318, 320, 0) := by decide +kernel
theorem ee133_318 : fx_tab 133 318 = some (.iconst (0), 319, 0, 0) := by decide +kernel
theorem ee133_319 : fx_tab 133 319 = some (.ireturn, 320, 0, 0) := by decide +kernel
theorem ee133_320 : fx_tab 133 320 = some (.iload 5, 322, 5, 0) := by decide +kernel
theorem ee133_322 : fx_tab 133 322 = some (.ifCond .ne (15), 325, 337, 0) := by decide +kernel
theorem ee133_325 : fx_tab 133 325 = some (.aload_n 3, 326, 3, 0) := by decide +kernel
theorem ee133_326 : fx_tab 133 326 = some (.iconst (0), 327, 0, 0) := by decide +kernel
theorem ee133_327 : fx_tab 133 327 = some (.laload, 328, 0, 0) := by decide +kernel
theorem ee133_328 : fx_tab 133 328 = some (.iload 6, 330, 6, 0) := by decide +kernel
theorem ee133_330 : fx_tab 133 330 = some (.i2l, 331, 0, 0) := by decide +kernel
theorem ee133_331 : fx_tab 133 331 = some (.lcmp, 332, 0, 0) := by decide +kernel
theorem ee133_332 : fx_tab 133 332 = some (.ifCond .eq (5), 335, 337, 0) := by decide +kernel
theorem ee133_335 : fx_tab 133 335 = some (.iconst (0), 336, 0, 0) := by decide +kernel
theorem ee133_336 : fx_tab 133 336 = some (.ireturn, 337, 0, 0) := by decide +kernel
theorem ee133_337 : fx_tab 133 337 = some (.goto (213), 340, 550, 0) := by decide +kernel
theorem ee133_340 : fx_tab 133 340 = some (.aload_n 1, 341, 1, 0) := by decide +kernel
theorem ee133_341 : fx_tab 133 341 = some (.aload_n 0, 342, 0, 0) := by decide +kernel
theorem ee133_342 : fx_tab 133 342 = some (.iload 4, 344, 4, 0) := by decide +kernel
theorem ee133_344 : fx_tab 133 344 = some (.iconst (1), 345, 0, 0) := by decide +kernel
theorem ee133_345 : fx_tab 133 345 = some (.iadd, 346, 0, 0) := by decide +kernel
theorem ee133_346 : fx_tab 133 346 = some (.iaload, 347, 0, 0) := by decide +kernel
theorem ee133_347 : fx_tab 133 347 = some (.aload_n 0, 348, 0, 0) := by decide +kernel
theorem ee133_348 : fx_tab 133 348 = some (.iload 4, 350, 4, 0) := by decide +kernel
theorem ee133_350 : fx_tab 133 350 = some (.iconst (2), 351, 0, 0) := by decide +kernel
theorem ee133_351 : fx_tab 133 351 = some (.iadd, 352, 0, 0) := by decide +kernel
theorem ee133_352 : fx_tab 133 352 = some (.iaload, 353, 0, 0) := by decide +kernel
theorem ee133_353 : fx_tab 133 353 = some (.invokevirtual 50, 356, 50, 163) := by decide +kernel
theorem ee133_356 : fx_tab 133 356 = some (.aload_n 2, 357, 2, 0) := by decide +kernel
theorem ee133_357 : fx_tab 133 357 = some (.aload_n 0, 358, 0, 0) := by decide +kernel
theorem ee133_358 : fx_tab 133 358 = some (.iload 4, 360, 4, 0) := by decide +kernel
theorem ee133_360 : fx_tab 133 360 = some (.iconst (1), 361, 0, 0) := by decide +kernel
theorem ee133_361 : fx_tab 133 361 = some (.iadd, 362, 0, 0) := by decide +kernel
theorem ee133_362 : fx_tab 133 362 = some (.iaload, 363, 0, 0) := by decide +kernel
theorem ee133_363 : fx_tab 133 363 = some (.aload_n 0, 364, 0, 0) := by decide +kernel
theorem ee133_364 : fx_tab 133 364 = some (.iload 4, 366, 4, 0) := by decide +kernel
theorem ee133_366 : fx_tab 133 366 = some (.iconst (2), 367, 0, 0) := by decide +kernel
theorem ee133_367 : fx_tab 133 367 = some (.iadd, 368, 0, 0) := by decide +kernel
theorem ee133_368 : fx_tab 133 368 = some (.iaload, 369, 0, 0) := by decide +kernel
theorem ee133_369 : fx_tab 133 369 = some (.invokevirtual 54, 372, 81, 355) := by decide +kernel
theorem ee133_372 : fx_tab 133 372 = some (.if_icmp .eq (178), 375, 550, 0) := by decide +kernel
theorem ee133_375 : fx_tab 133 375 = some (.iconst (0), 376, 0, 0) := by decide +kernel
theorem ee133_376 : fx_tab 133 376 = some (.ireturn, 377, 0, 0) := by decide +kernel
theorem ee133_377 : fx_tab 133 377 = some (.aload_n 1, 378, 1, 0) := by decide +kernel
theorem ee133_378 : fx_tab 133 378 = some (.aload_n 0, 379, 0, 0) := by decide +kernel
theorem ee133_379 : fx_tab 133 379 = some (.iload 4, 381, 4, 0) := by decide +kernel
theorem ee133_381 : fx_tab 133 381 = some (.iconst (1), 382, 0, 0) := by decide +kernel
theorem ee133_382 : fx_tab 133 382 = some (.iadd, 383, 0, 0) := by decide +kernel
theorem ee133_383 : fx_tab 133 383 = some (.iaload, 384, 0, 0) := by decide +kernel
theorem ee133_384 : fx_tab 133 384 = some (.invokevirtual 55, 387, 0, 162) := by decide +kernel
theorem ee133_387 : fx_tab 133 387 = some (.aload_n 2, 388, 2, 0) := by decide +kernel
theorem ee133_388 : fx_tab 133 388 = some (.aload_n 0, 389, 0, 0) := by decide +kernel
theorem ee133_389 : fx_tab 133 389 = some (.iload 4, 391, 4, 0) := by decide +kernel
theorem ee133_391 : fx_tab 133 391 = some (.iconst (1), 392, 0, 0) := by decide +kernel
theorem ee133_392 : fx_tab 133 392 = some (.iadd, 393, 0, 0) := by decide +kernel
theorem ee133_393 : fx_tab 133 393 = some (.iaload, 394, 0, 0) := by decide +kernel
theorem ee133_394 : fx_tab 133 394 = some (.invokevirtual 58, 397, 25, 354) := by decide +kernel
theorem ee133_397 : fx_tab 133 397 = some (.if_icmp .eq (153), 400, 550, 0) := by decide +kernel
theorem ee133_400 : fx_tab 133 400 = some (.iconst (0), 401, 0, 0) := by decide +kernel
theorem ee133_401 : fx_tab 133 401 = some (.ireturn, 402, 0, 0) := by decide +kernel
theorem ee133_402 : fx_tab 133 402 = some (.aload_n 1, 403, 1, 0) := by decide +kernel
theorem ee133_403 : fx_tab 133 403 = some (.aload_n 0, 404, 0, 0) := by decide +kernel
theorem ee133_404 : fx_tab 133 404 = some (.iload 4, 406, 4, 0) := by decide +kernel
theorem ee133_406 : fx_tab 133 406 = some (.iconst (1), 407, 0, 0) := by decide +kernel
theorem ee133_407 : fx_tab 133 407 = some (.iadd, 408, 0, 0) := by decide +kernel
theorem ee133_408 : fx_tab 133 408 = some (.iaload, 409, 0, 0) := by decide +kernel
theorem ee133_409 : fx_tab 133 409 = some (.aload_n 0, 410, 0, 0) := by decide +kernel
theorem ee133_410 : fx_tab 133 410 = some (.iload 4, 412, 4, 0) := by decide +kernel
theorem ee133_412 : fx_tab 133 412 = some (.iconst (2), 413, 0, 0) := by decide +kernel
theorem ee133_413 : fx_tab 133 413 = some (.iadd, 414, 0, 0) := by decide +kernel
theorem ee133_414 : fx_tab 133 414 = some (.iaload, 415, 0, 0) := by decide +kernel
theorem ee133_415 : fx_tab 133 415 = some (.invokevirtual 59, 418, 49, 163) := by decide +kernel
theorem ee133_418 : fx_tab 133 418 = some (.aload_n 2, 419, 2, 0) := by decide +kernel
theorem ee133_419 : fx_tab 133 419 = some (.aload_n 0, 420, 0, 0) := by decide +kernel
theorem ee133_420 : fx_tab 133 420 = some (.iload 4, 422, 4, 0) := by decide +kernel
theorem ee133_422 : fx_tab 133 422 = some (.iconst (1), 423, 0, 0) := by decide +kernel
theorem ee133_423 : fx_tab 133 423 = some (.iadd, 424, 0, 0) := by decide +kernel
theorem ee133_424 : fx_tab 133 424 = some (.iaload, 425, 0, 0) := by decide +kernel
theorem ee133_425 : fx_tab 133 425 = some (.aload_n 0, 426, 0, 0) := by decide +kernel
theorem ee133_426 : fx_tab 133 426 = some (.iload 4, 428, 4, 0) := by decide +kernel
theorem ee133_428 : fx_tab 133 428 = some (.iconst (2), 429, 0, 0) := by decide +kernel
theorem ee133_429 : fx_tab 133 429 = some (.iadd, 430, 0, 0) := by decide +kernel
theorem ee133_430 : fx_tab 133 430 = some (.iaload, 431, 0, 0) := by decide +kernel
theorem ee133_431 : fx_tab 133 431 = some (.invokevirtual 62, 434, 78, 355) := by decide +kernel
theorem ee133_434 : fx_tab 133 434 = some (.if_icmp .eq (116), 437, 550, 0) := by decide +kernel
theorem ee133_437 : fx_tab 133 437 = some (.iconst (0), 438, 0, 0) := by decide +kernel
theorem ee133_438 : fx_tab 133 438 = some (.ireturn, 439, 0, 0) := by decide +kernel
theorem ee133_439 : fx_tab 133 439 = some (.aload_n 1, 440, 1, 0) := by decide +kernel
theorem ee133_440 : fx_tab 133 440 = some (.aload_n 0, 441, 0, 0) := by decide +kernel
theorem ee133_441 : fx_tab 133 441 = some (.iload 4, 443, 4, 0) := by decide +kernel
theorem ee133_443 : fx_tab 133 443 = some (.iconst (1), 444, 0, 0) := by decide +kernel
theorem ee133_444 : fx_tab 133 444 = some (.iadd, 445, 0, 0) := by decide +kernel
theorem ee133_445 : fx_tab 133 445 = some (.iaload, 446, 0, 0) := by decide +kernel
theorem ee133_446 : fx_tab 133 446 = some (.invokevirtual 63, 449, 117, 162) := by decide +kernel
theorem ee133_449 : fx_tab 133 449 = some (.aload_n 2, 450, 2, 0) := by decide +kernel
theorem ee133_450 : fx_tab 133 450 = some (.aload_n 0, 451, 0, 0) := by decide +kernel
theorem ee133_451 : fx_tab 133 451 = some (.iload 4, 453, 4, 0) := by decide +kernel
theorem ee133_453 : fx_tab 133 453 = some (.iconst (1), 454, 0, 0) := by decide +kernel
theorem ee133_454 : fx_tab 133 454 = some (.iadd, 455, 0, 0) := by decide +kernel
theorem ee133_455 : fx_tab 133 455 = some (.iaload, 456, 0, 0) := by decide +kernel
theorem ee133_456 : fx_tab 133 456 = some (.invokevirtual 66, 459, 73, 354) := by decide +kernel
theorem ee133_459 : fx_tab 133 459 = some (.if_icmp .eq (91), 462, 550, 0) := by decide +kernel
theorem ee133_462 : fx_tab 133 462 = some (.iconst (0), 463, 0, 0) := by decide +kernel
theorem ee133_463 : fx_tab 133 463 = some (.ireturn, 464, 0, 0) := by decide +kernel
theorem ee133_464 : fx_tab 133 464 = some (.aload_n 1, 465, 1, 0) := by decide +kernel
theorem ee133_465 : fx_tab 133 465 = some (.aload_n 0, 466, 0, 0) := by decide +kernel
theorem ee133_466 : fx_tab 133 466 = some (.iload 4, 468, 4, 0) := by decide +kernel
theorem ee133_468 : fx_tab 133 468 = some (.iconst (1), 469, 0, 0) := by decide +kernel
theorem ee133_469 : fx_tab 133 469 = some (.iadd, 470, 0, 0) := by decide +kernel
theorem ee133_470 : fx_tab 133 470 = some (.iaload, 471, 0, 0) := by decide +kernel
theorem ee133_471 : fx_tab 133 471 = some (.aload_n 0, 472, 0, 0) := by decide +kernel
theorem ee133_472 : fx_tab 133 472 = some (.iload 4, 474, 4, 0) := by decide +kernel
theorem ee133_474 : fx_tab 133 474 = some (.iconst (2), 475, 0, 0) := by decide +kernel
theorem ee133_475 : fx_tab 133 475 = some (.iadd, 476, 0, 0) := by decide +kernel
theorem ee133_476 : fx_tab 133 476 = some (.iaload, 477, 0, 0) := by decide +kernel
theorem ee133_477 : fx_tab 133 477 = some (.aload_n 0, 478, 0, 0) := by decide +kernel
theorem ee133_478 : fx_tab 133 478 = some (.iload 4, 480, 4, 0) := by decide +kernel
theorem ee133_480 : fx_tab 133 480 = some (.iconst (3), 481, 0, 0) := by decide +kernel
theorem ee133_481 : fx_tab 133 481 = some (.iadd, 482, 0, 0) := by decide +kernel
theorem ee133_482 : fx_tab 133 482 = some (.iaload, 483, 0, 0) := by decide +kernel
theorem ee133_483 : fx_tab 133 483 = some (.invokevirtual 67, 486, 48, 164) := by decide +kernel
theorem ee133_486 : fx_tab 133 486 = some (.aload_n 2, 487, 2, 0) := by decide +kernel
theorem ee133_487 : fx_tab 133 487 = some (.aload_n 0, 488, 0, 0) := by decide +kernel
theorem ee133_488 : fx_tab 133 488 = some (.iload 4, 490, 4, 0) := by decide +kernel
theorem ee133_490 : fx_tab 133 490 = some (.iconst (1), 491, 0, 0) := by decide +kernel
theorem ee133_491 : fx_tab 133 491 = some (.iadd, 492, 0, 0) := by decide +kernel
theorem ee133_492 : fx_tab 133 492 = some (.iaload, 493, 0, 0) := by decide +kernel
theorem ee133_493 : fx_tab 133 493 = some (.aload_n 0, 494, 0, 0) := by decide +kernel
theorem ee133_494 : fx_tab 133 494 = some (.iload 4, 496, 4, 0) := by decide +kernel
theorem ee133_496 : fx_tab 133 496 = some (.iconst (2), 497, 0, 0) := by decide +kernel
theorem ee133_497 : fx_tab 133 497 = some (.iadd, 498, 0, 0) := by decide +kernel
theorem ee133_498 : fx_tab 133 498 = some (.iaload, 499, 0, 0) := by decide +kernel
theorem ee133_499 : fx_tab 133 499 = some (.aload_n 0, 500, 0, 0) := by decide +kernel
theorem ee133_500 : fx_tab 133 500 = some (.iload 4, 502, 4, 0) := by decide +kernel
theorem ee133_502 : fx_tab 133 502 = some (.iconst (3), 503, 0, 0) := by decide +kernel
theorem ee133_503 : fx_tab 133 503 = some (.iadd, 504, 0, 0) := by decide +kernel
theorem ee133_504 : fx_tab 133 504 = some (.iaload, 505, 0, 0) := by decide +kernel
theorem ee133_505 : fx_tab 133 505 = some (.invokevirtual 71, 508, 72, 356) := by decide +kernel
theorem ee133_508 : fx_tab 133 508 = some (.if_icmp .eq (42), 511, 550, 0) := by decide +kernel
theorem ee133_511 : fx_tab 133 511 = some (.iconst (0), 512, 0, 0) := by decide +kernel
theorem ee133_512 : fx_tab 133 512 = some (.ireturn, 513, 0, 0) := by decide +kernel
theorem ee133_513 : fx_tab 133 513 = some (.aload_n 1, 514, 1, 0) := by decide +kernel
theorem ee133_514 : fx_tab 133 514 = some (.aload_n 0, 515, 0, 0) := by decide +kernel
theorem ee133_515 : fx_tab 133 515 = some (.iload 4, 517, 4, 0) := by decide +kernel
theorem ee133_517 : fx_tab 133 517 = some (.iconst (1), 518, 0, 0) := by decide +kernel
theorem ee133_518 : fx_tab 133 518 = some (.iadd, 519, 0, 0) := by decide +kernel
theorem ee133_519 : fx_tab 133 519 = some (.iaload, 520, 0, 0) := by decide +kernel
theorem ee133_520 : fx_tab 133 520 = some (.aload_n 0, 521, 0, 0) := by decide +kernel
theorem ee133_521 : fx_tab 133 521 = some (.iload 4, 523, 4, 0) := by decide +kernel
theorem ee133_523 : fx_tab 133 523 = some (.iconst (2), 524, 0, 0) := by decide +kernel
theorem ee133_524 : fx_tab 133 524 = some (.iadd, 525, 0, 0) := by decide +kernel
theorem ee133_525 : fx_tab 133 525 = some (.iaload, 526, 0, 0) := by decide +kernel
theorem ee133_526 : fx_tab 133 526 = some (.invokevirtual 72, 529, 82, 163) := by decide +kernel
theorem ee133_529 : fx_tab 133 529 = some (.aload_n 2, 530, 2, 0) := by decide +kernel
theorem ee133_530 : fx_tab 133 530 = some (.aload_n 0, 531, 0, 0) := by decide +kernel
theorem ee133_531 : fx_tab 133 531 = some (.iload 4, 533, 4, 0) := by decide +kernel
theorem ee133_533 : fx_tab 133 533 = some (.iconst (1), 534, 0, 0) := by decide +kernel
theorem ee133_534 : fx_tab 133 534 = some (.iadd, 535, 0, 0) := by decide +kernel
theorem ee133_535 : fx_tab 133 535 = some (.iaload, 536, 0, 0) := by decide +kernel
theorem ee133_536 : fx_tab 133 536 = some (.aload_n 0, 537, 0, 0) := by decide +kernel
theorem ee133_537 : fx_tab 133 537 = some (.iload 4, 539, 4, 0) := by decide +kernel
theorem ee133_539 : fx_tab 133 539 = some (.iconst (2), 540, 0, 0) := by decide +kernel
theorem ee133_540 : fx_tab 133 540 = some (.iadd, 541, 0, 0) := by decide +kernel
theorem ee133_541 : fx_tab 133 541 = some (.iaload, 542, 0, 0) := by decide +kernel
theorem ee133_542 : fx_tab 133 542 = some (.invokevirtual 75, 545, 70, 355) := by decide +kernel
theorem ee133_545 : fx_tab 133 545 = some (.if_icmp .eq (5), 548, 550, 0) := by decide +kernel
theorem ee133_548 : fx_tab 133 548 = some (.iconst (0), 549, 0, 0) := by decide +kernel
theorem ee133_549 : fx_tab 133 549 = some (.ireturn, 550, 0, 0) := by decide +kernel
theorem ee133_550 : fx_tab 133 550 = some (.iinc 4 (5), 553, 4, 0) := by decide +kernel
theorem ee133_553 : fx_tab 133 553 = some (.goto (-530), 556, 23, 0) := by decide +kernel
theorem ee133_556 : fx_tab 133 556 = some (.iconst (1), 557, 0, 0) := by decide +kernel
theorem ee133_557 : fx_tab 133 557 = some (.ireturn, 558, 0, 0) := by decide +kernel
end
section
/-! the checks: decode and words, by program -/
def fx_wd (w : Nat) (c : Cond) : Bool := decide (lw_tbl[w]? = some c) && goodWord c
def fx_F (f : Nat) : String × String × String × Bool := (fx_cl.getD (f / 64) (fx_R0, fx_F0, 16)).2.1 (f % 64)
def fx_Nf (f : Nat) : Nat := (fx_cl.getD (f / 64) (fx_R0, fx_F0, 16)).2.2
def fx_wc : List Nat := [735, 658, 443, 464, 226, 431, 435, 446, 683, 727, 670, 218, 643, 635, 623, 607, 851, 647, 743, 209, 192, 205, 590, 666, 679, 1192, 1105, 1121, 1141, 1149, 1137, 1077, 1089, 1161, 1045, 1133, 1180, 878, 1113, 1173, 1057, 1101, 1097, 1069, 1036, 1129, 1053, 870, 751, 739, 731, 281, 549, 96, 222, 454, 439, 460, 474, 305, 127, 619, 213, 855, 631, 167, 200, 594, 675, 1125, 1208, 1145, 1204, 1200, 1085, 1049, 1165, 874, 1196, 1061, 1109, 1188, 755, 662, 652, 586, 450, 602, 705, 196, 545, 717, 615, 273, 88, 695, 240, 1081, 1117, 1041, 1093, 867, 1184, 188, 639, 598, 427, 582, 234, 541, 700, 713, 721, 861, 1073, 1157, 1177, 747, 230, 468, 627, 764, 709, 691, 1169, 1153, 687, 611, 184, 1065, 80, 578, 0, 0]
def fx_wi : List Nat := [733, 657, 441, 463, 225, 429, 433, 445, 681, 725, 668, 216, 641, 633, 622, 605, 849, 645, 741, 207, 190, 203, 588, 664, 678, 1190, 1104, 1120, 1140, 1148, 1136, 1076, 1088, 1160, 1044, 1132, 1179, 877, 1112, 1172, 1056, 1100, 1096, 1068, 1034, 1128, 1052, 869, 749, 737, 729, 280, 548, 95, 220, 452, 437, 458, 473, 304, 126, 617, 211, 853, 629, 166, 198, 592, 673, 1124, 1206, 1144, 1202, 1198, 1084, 1048, 1164, 873, 1194, 1059, 1108, 1186, 753, 661, 651, 585, 448, 600, 703, 194, 544, 715, 613, 272, 87, 694, 239, 1080, 1116, 1039, 1092, 865, 1182, 187, 638, 597, 425, 581, 233, 539, 699, 712, 720, 860, 1072, 1156, 1176, 745, 229, 466, 626, 762, 707, 689, 1168, 1152, 686, 610, 182, 1063, 79, 576, 757, 0]
def fx_wsl : List Nat := [734, 13, 442, 3, 1, 430, 434, 0, 682, 726, 669, 217, 642, 634, 9, 606, 850, 646, 742, 208, 191, 204, 589, 665, 15, 1191, 37, 41, 46, 48, 45, 30, 33, 51, 24, 44, 0, 23, 39, 54, 27, 36, 35, 28, 1035, 43, 26, 0, 750, 738, 730, 0, 0, 0, 221, 453, 438, 459, 0, 0, 0, 618, 212, 854, 630, 0, 199, 593, 674, 42, 1207, 47, 1203, 1199, 32, 25, 52, 22, 1195, 1060, 38, 1187, 754, 14, 12, 6, 449, 601, 704, 195, 4, 716, 614, 0, 0, 17, 0, 31, 40, 1040, 34, 866, 1183, 0, 11, 7, 426, 5, 0, 540, 18, 19, 20, 0, 29, 50, 55, 746, 2, 467, 10, 763, 708, 690, 53, 49, 16, 8, 183, 1064, 0, 577, 0, 0]
def fx_wn : List Nat := [57, 57, 59, 59, 59, 59, 59, 59, 62, 62, 62, 66, 66, 66, 60, 60, 64, 64, 64, 61, 61, 61, 63, 63, 63, 68, 68, 68, 68, 68, 68, 68, 68, 68, 68, 68, 68, 68, 68, 68, 68, 68, 68, 68, 68, 68, 68, 68, 57, 57, 57, 65, 70, 59, 59, 59, 59, 59, 69, 66, 60, 60, 64, 64, 64, 61, 63, 63, 63, 68, 68, 68, 68, 68, 68, 68, 68, 68, 68, 68, 68, 68, 57, 57, 57, 57, 59, 59, 59, 62, 69, 60, 60, 64, 58, 58, 63, 68, 68, 68, 68, 68, 68, 57, 57, 57, 57, 57, 62, 69, 58, 58, 58, 68, 68, 68, 68, 57, 57, 57, 57, 57, 58, 58, 68, 68, 57, 57, 57, 68, 57, 57, 56, 56]
def fx_wci : List Nat := [57, 65, 70, 59, 62, 69, 66, 60, 64, 58, 61, 63, 68]
def fx_wcn : List Nat := [77, 278, 546, 93, 231, 471, 302, 124, 270, 85, 164, 237, 858]
def fx_wl : List (List Nat) := [[390, 392, 394, 396, 398, 400, 402, 404, 406, 408, 410, 412, 414, 416, 418, 420], [290, 292, 294, 296], [565, 567, 569, 571], [106, 108, 110, 112, 114, 116, 118], [358, 360, 362, 364, 366, 368], [511, 513, 515, 517, 519, 521, 523, 525, 527, 529, 531, 533, 535], [315, 317, 319], [135, 137, 139], [332, 334, 336, 338, 340, 342], [150, 152, 154, 156, 158], [174, 176, 178], [256, 258, 260, 262, 264, 266], [930, 932, 934, 936, 938, 940, 942, 944, 946, 948, 950, 952, 954, 956, 958, 960, 962, 964, 966, 968, 970, 972, 974, 976, 978, 980, 982, 984, 986, 988, 990, 992, 994, 996, 998, 1000, 1002, 1004, 1006, 1008, 1010, 1012, 1014, 1016, 1018, 1020, 1022, 1024, 1026, 1028, 1030]]
/-- places of the words of Object.<init>: instance, code -/
def fx_wo : Nat × Nat := (82, 83)
end
section
/-! A PURE MACHINE: values (int | reference: tag and address or null | long), a heap as functions (kinds, int fields, reference fields, lengths, contents), and what one instruction does. -/
abbrev fx_V : Type := Int32 ⊕ (Nat × Option Nat) ⊕ Int64
abbrev fx_L : Type := List (Option fx_V)
/-- kinds, int fields, reference fields, lengths, ints of arrays, references of arrays, longs of arrays, next address, slots made -/
abbrev fx_S : Type := (Nat → Nat) × (Nat → Nat → Int32) × (Nat → Nat → Option Nat) × (Nat → Nat) × (Nat → Nat → Int32) × (Nat → Nat → Option Nat) × (Nat → Nat → Int64) × Nat × Nat
def fx_kd (s : fx_S) : Nat → Nat := s.1
def fx_fi (s : fx_S) : Nat → Nat → Int32 := s.2.1
def fx_fr (s : fx_S) : Nat → Nat → Option Nat := s.2.2.1
def fx_ln (s : fx_S) : Nat → Nat := s.2.2.2.1
def fx_ai (s : fx_S) : Nat → Nat → Int32 := s.2.2.2.2.1
def fx_ar (s : fx_S) : Nat → Nat → Option Nat := s.2.2.2.2.2.1
def fx_al (s : fx_S) : Nat → Nat → Int64 := s.2.2.2.2.2.2.1
def fx_nx (s : fx_S) : Nat := s.2.2.2.2.2.2.2.1
def fx_sl (s : fx_S) : Nat := s.2.2.2.2.2.2.2.2
def fx_up {α : Type} (f : Nat → Nat → α) (g a : Nat) (v : α) : Nat → Nat → α := fun h b => if h = g then if b = a then v else f h b else f h b
def fx_sfi (s : fx_S) (f a : Nat) (v : Int32) : fx_S := (s.1, fx_up s.2.1 f a v, s.2.2)
def fx_sfr (s : fx_S) (f a : Nat) (v : Option Nat) : fx_S := (s.1, s.2.1, fx_up s.2.2.1 f a v, s.2.2.2)
def fx_sai (s : fx_S) (a i : Nat) (v : Int32) : fx_S := (s.1, s.2.1, s.2.2.1, s.2.2.2.1, fx_up s.2.2.2.2.1 a i v, s.2.2.2.2.2)
def fx_sar (s : fx_S) (a i : Nat) (v : Option Nat) : fx_S := (s.1, s.2.1, s.2.2.1, s.2.2.2.1, s.2.2.2.2.1, fx_up s.2.2.2.2.2.1 a i v, s.2.2.2.2.2.2)
def fx_sal (s : fx_S) (a i : Nat) (v : Int64) : fx_S := (s.1, s.2.1, s.2.2.1, s.2.2.2.1, s.2.2.2.2.1, s.2.2.2.2.2.1, fx_up s.2.2.2.2.2.2.1 a i v, s.2.2.2.2.2.2.2)
def fx_at {α : Type} (f : Nat → α) (a : Nat) (v : α) : Nat → α := fun b => if b = a then v else f b
def fx_col {α : Type} (f : Nat → Nat → α) (a : Nat) (v : α) : Nat → Nat → α := fun g b => if b = a then v else f g b
def fx_new (s : fx_S) (tag n : Nat) : fx_S := (fx_at s.1 (fx_nx s) tag, fx_col s.2.1 (fx_nx s) 0, fx_col s.2.2.1 (fx_nx s) none, s.2.2.2.1, s.2.2.2.2.1, s.2.2.2.2.2.1, s.2.2.2.2.2.2.1, fx_nx s + 1, fx_sl s + n)
def fx_newa (s : fx_S) (tag n : Nat) : fx_S := (fx_at s.1 (fx_nx s) tag, s.2.1, s.2.2.1, fx_at s.2.2.2.1 (fx_nx s) n, fx_at s.2.2.2.2.1 (fx_nx s) (fun _ => 0), fx_at s.2.2.2.2.2.1 (fx_nx s) (fun _ => none), fx_at s.2.2.2.2.2.2.1 (fx_nx s) (fun _ => 0), fx_nx s + 1, fx_sl s + n)
def fx_get : fx_L → Nat → Option fx_V
  | [], _ => none
  | x :: _, 0 => x
  | _ :: l, n + 1 => fx_get l n
def fx_set : fx_L → Nat → fx_V → fx_L
  | [], _, _ => []
  | _ :: l, 0, v => some v :: l
  | x :: l, n + 1, v => x :: fx_set l n v
def fx_pad : Nat → List fx_V → fx_L
  | n, [] => List.replicate n none
  | n, v :: l => some v :: fx_pad (n - 1) l
def fx_pop : Nat → List fx_V → List fx_V → Option (List fx_V × List fx_V)
  | 0, acc, st => some (acc, st)
  | _ + 1, _, [] => none
  | n + 1, acc, v :: st => fx_pop n (v :: acc) st
def fx_ic (n : Int) : Int32 := match n with
  | .ofNat k => nI k
  | .negSucc k => Int32.ofInt (.negSucc k)
def fx_cz (c : Jvm.ClassFile.Cond) (x : Int32) : Prop := match c with
  | .eq => x = 0
  | .ne => ¬ x = 0
  | .lt => x < 0
  | .ge => 0 ≤ x
  | .gt => 0 < x
  | .le => x ≤ 0
def fx_cc2 (c : Jvm.ClassFile.Cond) (x y : Int32) : Prop := match c with
  | .eq => x = y
  | .ne => ¬ x = y
  | .lt => x < y
  | .ge => y ≤ x
  | .gt => y < x
  | .le => x ≤ y
abbrev fx_N : Type := Nat × fx_L × List fx_V × fx_S
/-- what an instruction does: it goes on, if a condition holds | it branches | it leaves | it calls -/
abbrev fx_A : Type := (Prop × fx_N) ⊕ (Prop × fx_N × fx_N) ⊕ (Prop × Option fx_V × fx_S) ⊕ (Prop × Nat × List fx_V × fx_N)
def fx_J (C : Prop) (pc : Nat) (ls : fx_L) (st : List fx_V) (s : fx_S) : Option fx_A := some (.inl (C, pc, ls, st, s))
def fx_B (C : Prop) (p1 p2 : Nat) (ls : fx_L) (st : List fx_V) (s : fx_S) : Option fx_A := some (.inr (.inl (C, (p1, ls, st, s), (p2, ls, st, s))))
def fx_T (C : Prop) (r : Option fx_V) (s : fx_S) : Option fx_A := some (.inr (.inr (.inl (C, r, s))))
def fx_K (m : Nat) (as : List fx_V) (pc : Nat) (ls : fx_L) (st : List fx_V) (s : fx_S) : Option fx_A := some (.inr (.inr (.inr (True, m, as, pc, ls, st, s))))
def fx_sw (pc : Nat) (d lo hi : Int) (offs : Array Int) (x : Int32) : Nat := ((pc : Int) + (if x.toInt < lo ∨ hi < x.toInt then d else (offs[(x.toInt - lo).toNat]?).getD d)).toNat
/-- the tags of the arrays of references that are made: Arrival, Flit, Node, Packet, Place -/
def fx_ia (c : Nat) : Bool := c == 41 || c == 42 || c == 44 || c == 45 || c == 46
/-- no long among the arguments -/
def fx_nol : List fx_V → Bool
  | [] => true
  | .inr (.inr _) :: _ => false
  | _ :: l => fx_nol l
/-- one instruction at pc, the next one at np; r1, r2: what the constant pool says -/
def fx_act (mi pc : Nat) (i : Instr) (np r1 r2 : Nat) (ls : fx_L) (st : List fx_V) (s : fx_S) : Option fx_A := match i with
  | .iconst n => fx_J True np ls (.inl (fx_ic n) :: st) s
  | .bipush n => fx_J True np ls (.inl (fx_ic n) :: st) s
  | .sipush n => fx_J True np ls (.inl (fx_ic n) :: st) s
  | .ldc _ => fx_J True np ls (.inl (nI r1) :: st) s
  | .aconst_null => fx_J True np ls (.inr (.inl (0, none)) :: st) s
  | .iload_n _ => match fx_get ls r1 with
    | some (.inl x) => fx_J True np ls (.inl x :: st) s
    | _ => none
  | .iload _ => match fx_get ls r1 with
    | some (.inl x) => fx_J True np ls (.inl x :: st) s
    | _ => none
  | .aload_n _ => match fx_get ls r1 with
    | some (.inr (.inl v)) => fx_J True np ls (.inr (.inl v) :: st) s
    | _ => none
  | .aload _ => match fx_get ls r1 with
    | some (.inr (.inl v)) => fx_J True np ls (.inr (.inl v) :: st) s
    | _ => none
  | .istore_n _ => match st with
    | .inl x :: st' => fx_J True np (fx_set ls r1 (.inl x)) st' s
    | _ => none
  | .istore _ => match st with
    | .inl x :: st' => fx_J True np (fx_set ls r1 (.inl x)) st' s
    | _ => none
  | .astore_n _ => match st with
    | .inr (.inl v) :: st' => fx_J True np (fx_set ls r1 (.inr (.inl v))) st' s
    | _ => none
  | .astore _ => match st with
    | .inr (.inl v) :: st' => fx_J True np (fx_set ls r1 (.inr (.inl v))) st' s
    | _ => none
  | .iinc _ c => match fx_get ls r1 with
    | some (.inl x) => fx_J True np (fx_set ls r1 (.inl (x + fx_ic c))) st s
    | _ => none
  | .iadd => match st with
    | .inl y :: .inl x :: st' => fx_J True np ls (.inl (x + y) :: st') s
    | _ => none
  | .isub => match st with
    | .inl y :: .inl x :: st' => fx_J True np ls (.inl (x - y) :: st') s
    | _ => none
  | .imul => match st with
    | .inl y :: .inl x :: st' => fx_J True np ls (.inl (x * y) :: st') s
    | _ => none
  | .idiv => match st with
    | .inl y :: .inl x :: st' => fx_J (¬ y = 0) np ls (.inl (x / y) :: st') s
    | _ => none
  | .irem => match st with
    | .inl y :: .inl x :: st' => fx_J (¬ y = 0) np ls (.inl (x - x / y * y) :: st') s
    | _ => none
  | .iand => match st with
    | .inl y :: .inl x :: st' => fx_J True np ls (.inl (x &&& y) :: st') s
    | _ => none
  | .ior => match st with
    | .inl y :: .inl x :: st' => fx_J True np ls (.inl (x ||| y) :: st') s
    | _ => none
  | .ixor => match st with
    | .inl y :: .inl x :: st' => fx_J True np ls (.inl (x ^^^ y) :: st') s
    | _ => none
  | .ishl => match st with
    | .inl y :: .inl x :: st' => fx_J True np ls (.inl (x <<< (y &&& 31)) :: st') s
    | _ => none
  | .i2l => match st with
    | .inl x :: st' => fx_J True np ls (.inr (.inr x.toInt64) :: st') s
    | _ => none
  | .lcmp => match st with
    | .inr (.inr y) :: .inr (.inr x) :: st' => fx_J True np ls (.inl (lg_cmp x y) :: st') s
    | _ => none
  | .dup => match st with
    | .inl x :: st' => fx_J True np ls (.inl x :: .inl x :: st') s
    | .inr (.inl v) :: st' => fx_J True np ls (.inr (.inl v) :: .inr (.inl v) :: st') s
    | _ => none
  | .dup2 => match st with
    | .inl x :: .inr (.inl v) :: st' => fx_J True np ls (.inl x :: .inr (.inl v) :: .inl x :: .inr (.inl v) :: st') s
    | _ => none
  | .pop => match st with
    | .inl _ :: st' => fx_J True np ls st' s
    | .inr (.inl _) :: st' => fx_J True np ls st' s
    | _ => none
  | .goto _ => fx_J True r1 ls st s
  | .ifCond c _ => match st with
    | .inl x :: st' => fx_B (fx_cz c x) r1 np ls st' s
    | _ => none
  | .if_icmp c _ => match st with
    | .inl y :: .inl x :: st' => fx_B (fx_cc2 c x y) r1 np ls st' s
    | _ => none
  | .ifnull _ => match st with
    | .inr (.inl (_, o)) :: st' => fx_B (o = none) r1 np ls st' s
    | _ => none
  | .ifnonnull _ => match st with
    | .inr (.inl (_, o)) :: st' => fx_B (o = none) np r1 ls st' s
    | _ => none
  | .if_acmp .eq _ => match st with
    | .inr (.inl (_, o)) :: .inr (.inl (_, q)) :: st' => fx_B (q = o) r1 np ls st' s
    | _ => none
  | .if_acmp .ne _ => match st with
    | .inr (.inl (_, o)) :: .inr (.inl (_, q)) :: st' => fx_B (q = o) np r1 ls st' s
    | _ => none
  | .tableswitch d lo hi offs => match st with
    | .inl x :: st' => fx_J True (fx_sw pc d lo hi offs x) ls st' s
    | _ => none
  | .getfield _ => match st with
    | .inr (.inl (c, some a)) :: st' => bif c == 10 + r1 / 64 then (bif Nat.ble r2 1 then fx_J True np ls (.inl (fx_fi s r1 a) :: st') s else fx_J True np ls (.inr (.inl (r2, fx_fr s r1 a)) :: st') s) else none
    | _ => none
  | .putfield _ => match st with
    | .inl x :: .inr (.inl (c, some a)) :: st' => bif c == 10 + r1 / 64 && Nat.ble r2 1 then fx_J (r2 = 1 → x = 0 ∨ x = 1) np ls st' (fx_sfi s r1 a x) else none
    | .inr (.inl (c2, v)) :: .inr (.inl (c, some a)) :: st' => bif c == 10 + r1 / 64 && Nat.ble 2 r2 then fx_J (c2 = r2 ∨ v = none) np ls st' (fx_sfr s r1 a v) else none
    | _ => none
  | .new _ => bif Nat.ble 900 r1 then fx_T True (some (.inr (.inl (r1, none)))) s else bif Nat.ble r1 12 then fx_J True np ls (.inr (.inl (10 + r1, some (fx_nx s))) :: st) (fx_new s (10 + r1) r2) else none
  | .newarray _ => match st with
    | .inl x :: st' => bif Nat.ble 70 r1 && Nat.ble r1 72 then fx_J (¬ x < 0 ∧ x.toNatClampNeg ≤ 40000) np ls (.inr (.inl (r1, some (fx_nx s))) :: st') (fx_newa s r1 x.toNatClampNeg) else none
    | _ => none
  | .anewarray _ => match st with
    | .inl x :: st' => bif fx_ia (40 + r1) then fx_J (¬ x < 0 ∧ x.toNatClampNeg ≤ 40000) np ls (.inr (.inl (40 + r1, some (fx_nx s))) :: st') (fx_newa s (40 + r1) x.toNatClampNeg) else none
    | _ => none
  | .arraylength => match st with
    | .inr (.inl (c, some a)) :: st' => bif c == 73 then fx_J True np ls (.inl (nI (fx_ln s a)) :: st') s else none
    | _ => none
  | .iaload => match st with
    | .inl i :: .inr (.inl (c, some a)) :: st' => bif c == 70 || c == 73 then fx_J (vp_in i (fx_ln s a)) np ls (.inl (fx_ai s a i.toNatClampNeg) :: st') s else none
    | _ => none
  | .baload => match st with
    | .inl i :: .inr (.inl (c, some a)) :: st' => bif c == 71 then fx_J (vp_in i (fx_ln s a)) np ls (.inl (fx_ai s a i.toNatClampNeg) :: st') s else none
    | _ => none
  | .laload => match st with
    | .inl i :: .inr (.inl (c, some a)) :: st' => bif c == 72 then fx_J (vp_in i (fx_ln s a)) np ls (.inr (.inr (fx_al s a i.toNatClampNeg)) :: st') s else none
    | _ => none
  | .aaload => match st with
    | .inl i :: .inr (.inl (c, some a)) :: st' => bif fx_ia c then fx_J (vp_in i (fx_ln s a)) np ls (.inr (.inl (c - 30, fx_ar s a i.toNatClampNeg)) :: st') s else none
    | _ => none
  | .iastore => match st with
    | .inl x :: .inl i :: .inr (.inl (c, some a)) :: st' => bif c == 70 then fx_J (vp_in i (fx_ln s a)) np ls st' (fx_sai s a i.toNatClampNeg x) else none
    | _ => none
  | .bastore => match st with
    | .inl x :: .inl i :: .inr (.inl (c, some a)) :: st' => bif c == 71 then fx_J (vp_in i (fx_ln s a) ∧ (x = 0 ∨ x = 1)) np ls st' (fx_sai s a i.toNatClampNeg x) else none
    | _ => none
  | .lastore => match st with
    | .inr (.inr x) :: .inl i :: .inr (.inl (c, some a)) :: st' => bif c == 72 then fx_J (vp_in i (fx_ln s a)) np ls st' (fx_sal s a i.toNatClampNeg x) else none
    | _ => none
  | .aastore => match st with
    | .inr (.inl (c2, v)) :: .inl i :: .inr (.inl (c, some a)) :: st' => bif fx_ia c then fx_J (vp_in i (fx_ln s a) ∧ (c2 = c - 30 ∨ v = none)) np ls st' (fx_sar s a i.toNatClampNeg v) else none
    | _ => none
  | .ireturn => match st with
    | [.inl x] => fx_T (fx_rt mi = 2 → x = 0 ∨ x = 1) (some (.inl x)) s
    | _ => none
  | .areturn => match st with
    | [.inr (.inl v)] => fx_T True (some (.inr (.inl v))) s
    | _ => none
  | .return_ => match st with
    | [] => fx_T True none s
    | _ => none
  | .invokespecial _ => bif r1 == 1000 then (match st with
    | .inr (.inl (_, some _)) :: st' => bif Nat.ble st'.length 4 then fx_J True np ls st' s else none
    | _ => none) else match fx_pop (r2 % 16) [] st with
    | some (.inr (.inl (c, some a)) :: as, st') => bif c == r2 / 16 && Nat.ble st'.length 4 && fx_nol as then fx_K r1 (.inr (.inl (c, some a)) :: as) np ls st' s else none
    | _ => none
  | .invokevirtual _ => match fx_pop (r2 % 16) [] st with
    | some (.inr (.inl (c, some a)) :: as, st') => bif c == r2 / 16 && Nat.ble st'.length 4 && fx_nol as then fx_K r1 (.inr (.inl (c, some a)) :: as) np ls st' s else none
    | _ => none
  | .invokestatic _ => bif r1 == 1001 then (match st with
    | .inl y :: .inl x :: st' => bif Nat.ble st'.length 4 then fx_J True np ls (.inl (if x < y then y else x) :: st') s else none
    | _ => none) else match fx_pop (r2 % 16) [] st with
    | some (as, st') => bif Nat.ble st'.length 4 && fx_nol as then fx_K r1 as np ls st' s else none
    | _ => none
  | _ => none
abbrev fx_Q : Type := Option fx_V → fx_S → Prop
def fx_go (X : Nat → Nat → fx_L → List fx_V → fx_S → fx_Q → Prop) (mi : Nat) (Q : fx_Q) : Option fx_A → Prop
  | none => False
  | some (.inl (C, pc, ls, st, s)) => C ∧ X mi pc ls st s Q
  | some (.inr (.inl (C, (p1, l1, t1, s1), (p2, l2, t2, s2)))) => (C → X mi p1 l1 t1 s1 Q) ∧ (¬ C → X mi p2 l2 t2 s2 Q)
  | some (.inr (.inr (.inl (C, r, s)))) => C ∧ Q r s
  | some (.inr (.inr (.inr (C, m2, as, pc, ls, st, s)))) => C ∧ X m2 0 (fx_pad (fx_ml m2) as) [] s (fun r s1 => X mi pc ls (r.toList ++ st) s1 Q)
def fx_wp : Nat → Nat → Nat → fx_L → List fx_V → fx_S → fx_Q → Prop
  | 0, _, _, _, _, _, _ => False
  | n + 1, mi, pc, ls, st, s, Q => match fx_tab mi pc with
    | none => False
    | some (i, np, r1, r2) => fx_go (fx_wp n) mi Q (fx_act mi pc i np r1 r2 ls st s)
theorem fx_go_mono {X X' : Nat → Nat → fx_L → List fx_V → fx_S → fx_Q → Prop} (hX : ∀ mi pc ls st s Q Q', (∀ r s, Q r s → Q' r s) → X mi pc ls st s Q → X' mi pc ls st s Q') {mi : Nat} {Q Q' : fx_Q} (hQ : ∀ r s, Q r s → Q' r s) : ∀ a, fx_go X mi Q a → fx_go X' mi Q' a
  | none, h => h
  | some (.inl (_, _, _, _, _)), h => ⟨h.1, hX _ _ _ _ _ _ _ hQ h.2⟩
  | some (.inr (.inl (_, (_, _, _, _), (_, _, _, _)))), h => ⟨fun c => hX _ _ _ _ _ _ _ hQ (h.1 c), fun c => hX _ _ _ _ _ _ _ hQ (h.2 c)⟩
  | some (.inr (.inr (.inl (_, _, _)))), h => ⟨h.1, hQ _ _ h.2⟩
  | some (.inr (.inr (.inr (_, _, _, _, _, _, _)))), h => ⟨h.1, hX _ _ _ _ _ _ _ (fun _ _ h2 => hX _ _ _ _ _ _ _ hQ h2) h.2⟩
theorem fx_mono : ∀ n mi pc ls st s Q Q', (∀ r s, Q r s → Q' r s) → fx_wp n mi pc ls st s Q → fx_wp n mi pc ls st s Q' := by
  intro n
  induction n with
  | zero => intro mi pc ls st s Q Q' _ h; exact h
  | succ n ih =>
    intro mi pc ls st s Q Q' hQ h
    simp only [fx_wp] at h ⊢
    cases ht : fx_tab mi pc with
    | none => rw [ht] at h; exact h
    | some e => obtain ⟨i, np, r1, r2⟩ := e; rw [ht] at h; exact fx_go_mono ih hQ _ h
theorem fx_fuel : ∀ n mi pc ls st s Q, fx_wp n mi pc ls st s Q → fx_wp (n + 1) mi pc ls st s Q := by
  intro n
  induction n with
  | zero => intro mi pc ls st s Q h; exact h.elim
  | succ n ih =>
    intro mi pc ls st s Q h
    rw [fx_wp] at h ⊢
    cases ht : fx_tab mi pc with
    | none => rw [ht] at h; exact h
    | some e => obtain ⟨i, np, r1, r2⟩ := e; rw [ht] at h; exact fx_go_mono (X := fx_wp n) (X' := fx_wp (n + 1)) (fun mi pc ls st s Q Q' hQ h => fx_mono _ _ _ _ _ _ _ _ hQ (ih _ _ _ _ _ _ h)) (fun _ _ h => h) _ h
theorem fx_le {n k mi pc : Nat} {ls : fx_L} {st : List fx_V} {s : fx_S} {Q : fx_Q} (hk : n ≤ k) (h : fx_wp n mi pc ls st s Q) : fx_wp k mi pc ls st s Q := by
  induction hk with
  | refl => exact h
  | step _ ih => exact fx_fuel _ _ _ _ _ _ _ ih
/-- a run has one end -/
def fx_eq (r : Option fx_V) (s : fx_S) : fx_Q := fun r1 s1 => r1 = r ∧ s1 = s
theorem fx_one : ∀ n mi pc ls st s Q, fx_wp n mi pc ls st s Q → ∃ r s', Q r s' ∧ fx_wp n mi pc ls st s (fx_eq r s') := by
  intro n
  induction n with
  | zero => intro mi pc ls st s Q h; exact h.elim
  | succ n ih =>
    intro mi pc ls st s Q h
    simp only [fx_wp] at h ⊢
    cases ht : fx_tab mi pc with
    | none => rw [ht] at h; exact h.elim
    | some e =>
      obtain ⟨i, np, r1, r2⟩ := e
      rw [ht] at h
      dsimp only at h ⊢
      generalize fx_act mi pc i np r1 r2 ls st s = a at h ⊢
      match a, h with
      | none, h => exact h.elim
      | some (.inl (_, _, _, _, _)), h =>
        obtain ⟨r, s', h1, h2⟩ := ih _ _ _ _ _ _ h.2
        exact ⟨r, s', h1, h.1, h2⟩
      | some (.inr (.inl (C, (_, _, _, _), (_, _, _, _)))), h =>
        by_cases c : C
        · obtain ⟨r, s', h1, h2⟩ := ih _ _ _ _ _ _ (h.1 c)
          exact ⟨r, s', h1, fun _ => h2, fun q => absurd c q⟩
        · obtain ⟨r, s', h1, h2⟩ := ih _ _ _ _ _ _ (h.2 c)
          exact ⟨r, s', h1, fun q => absurd q c, fun _ => h2⟩
      | some (.inr (.inr (.inl (_, r, s')))), h => exact ⟨r, s', h.2, h.1, rfl, rfl⟩
      | some (.inr (.inr (.inr (_, _, _, _, _, _, _)))), h =>
        obtain ⟨r1, s1, h1, h2⟩ := ih _ _ _ _ _ _ h.2
        obtain ⟨r, s', h3, h4⟩ := ih _ _ _ _ _ _ h1
        refine ⟨r, s', h3, h.1, fx_mono _ _ _ _ _ _ _ _ (fun r2 s2 h5 => ?_) h2⟩
        obtain ⟨e1, e2⟩ := h5
        subst e1; subst e2
        exact h4
/-- THE WORDS OF THE PURE WALK -/
def fx_W (mi pc : Nat) (ls : fx_L) (st : List fx_V) (s : fx_S) (Q : fx_Q) : Prop := ∃ n, fx_wp n mi pc ls st s Q
def fx_M (mi : Nat) (as : List fx_V) (s : fx_S) (Q : fx_Q) : Prop := fx_W mi 0 (fx_pad (fx_ml mi) as) [] s Q
section
variable {mi pc np r1 r2 : Nat} {i : Instr} {ls : fx_L} {st : List fx_V} {s : fx_S} {Q : fx_Q}
theorem xx_j {C : Prop} {pc' : Nat} {ls' : fx_L} {st' : List fx_V} {s' : fx_S} (ht : fx_tab mi pc = some (i, np, r1, r2)) (ha : fx_act mi pc i np r1 r2 ls st s = fx_J C pc' ls' st' s') (hC : C) (k : fx_W mi pc' ls' st' s' Q) : fx_W mi pc ls st s Q := by
  obtain ⟨n, h⟩ := k
  refine ⟨n + 1, ?_⟩
  simp only [fx_wp, ht, ha]
  exact ⟨hC, h⟩
theorem xx_b {C : Prop} {p1 p2 : Nat} {ls' : fx_L} {st' : List fx_V} {s' : fx_S} (ht : fx_tab mi pc = some (i, np, r1, r2)) (ha : fx_act mi pc i np r1 r2 ls st s = fx_B C p1 p2 ls' st' s') (k1 : C → fx_W mi p1 ls' st' s' Q) (k2 : ¬ C → fx_W mi p2 ls' st' s' Q) : fx_W mi pc ls st s Q := by
  by_cases c : C
  · obtain ⟨n, h⟩ := k1 c
    refine ⟨n + 1, ?_⟩
    simp only [fx_wp, ht, ha]
    exact ⟨fun _ => h, fun q => absurd c q⟩
  · obtain ⟨n, h⟩ := k2 c
    refine ⟨n + 1, ?_⟩
    simp only [fx_wp, ht, ha]
    exact ⟨fun q => absurd q c, fun _ => h⟩
theorem xx_r {C : Prop} {r : Option fx_V} {s' : fx_S} (ht : fx_tab mi pc = some (i, np, r1, r2)) (ha : fx_act mi pc i np r1 r2 ls st s = fx_T C r s') (hC : C) (k : Q r s') : fx_W mi pc ls st s Q := by
  refine ⟨1, ?_⟩
  simp only [fx_wp, ht, ha]
  exact ⟨hC, k⟩
theorem xx_c {m2 pc' : Nat} {as : List fx_V} {ls' : fx_L} {st' : List fx_V} {s' : fx_S} (ht : fx_tab mi pc = some (i, np, r1, r2)) (ha : fx_act mi pc i np r1 r2 ls st s = fx_K m2 as pc' ls' st' s') (k : fx_M m2 as s' (fun r s1 => fx_W mi pc' ls' (r.toList ++ st') s1 Q)) : fx_W mi pc ls st s Q := by
  obtain ⟨n, h⟩ := k
  obtain ⟨r, s1, ⟨n2, h1⟩, h2⟩ := fx_one _ _ _ _ _ _ _ h
  refine ⟨max n n2 + 1, ?_⟩
  simp only [fx_wp, ht, ha]
  refine ⟨trivial, fx_mono _ _ _ _ _ _ _ _ (fun r2 s2 h5 => ?_) (fx_le (Nat.le_max_left n n2) h2)⟩
  obtain ⟨e1, e2⟩ := h5
  subst e1; subst e2
  exact fx_le (Nat.le_max_right n n2) h1
theorem xx_q {Q' : fx_Q} (h : fx_W mi pc ls st s Q') (hQ : ∀ r s, Q' r s → Q r s) : fx_W mi pc ls st s Q := by
  obtain ⟨n, h⟩ := h
  exact ⟨n, fx_mono _ _ _ _ _ _ _ _ hQ h⟩
theorem xx_i {as : List fx_V} {n : Nat} (hn : fx_ml mi = n) (h : fx_W mi 0 (fx_pad n as) [] s Q) : fx_M mi as s Q := by
  subst hn
  exact h
end
end
section
/-! TYPES, purely: addresses on the stack, in locals and in cells have the kinds that their tags say. -/
def fx_fresh (s : fx_S) : Prop := ∀ a, fx_nx s ≤ a → fx_kd s a = 0
def fx_wt (s : fx_S) : Prop := (∀ a f b, fx_kd s a = 10 + f / 64 → 2 ≤ fx_ft f → fx_fr s f a = some b → fx_kd s b = fx_ft f) ∧ (∀ a j b, fx_ia (fx_kd s a) = true → fx_ar s a j = some b → fx_kd s b = fx_kd s a - 30)
def fx_tv (s : fx_S) : fx_V → Prop
  | .inr (.inl (c, some b)) => fx_kd s b = c ∧ c ≠ 0
  | _ => True
def fx_tl (s : fx_S) (ls : fx_L) : Prop := ∀ i v, fx_get ls i = some v → fx_tv s v
def fx_ts (s : fx_S) (st : List fx_V) : Prop := ∀ v ∈ st, fx_tv s v
def fx_ext (s t : fx_S) : Prop := fx_nx s ≤ fx_nx t ∧ fx_sl s ≤ fx_sl t ∧ ∀ a, fx_kd s a ≠ 0 → fx_kd t a = fx_kd s a
theorem fx_ext.rf (s : fx_S) : fx_ext s s := ⟨Nat.le_refl _, Nat.le_refl _, fun _ _ => rfl⟩
theorem fx_ext.tr {s t u : fx_S} (h : fx_ext s t) (g : fx_ext t u) : fx_ext s u := ⟨Nat.le_trans h.1 g.1, Nat.le_trans h.2.1 g.2.1, fun a ha => by
  have e := h.2.2 a ha
  rw [g.2.2 a (by rw [e]; exact ha), e]⟩
theorem fx_tv.ext {s t : fx_S} (h : fx_ext s t) : ∀ {v : fx_V}, fx_tv s v → fx_tv t v
  | .inl _, _ => trivial
  | .inr (.inr _), _ => trivial
  | .inr (.inl (_, none)), _ => trivial
  | .inr (.inl (_, some b)), g => ⟨(h.2.2 b (by rw [g.1]; exact g.2)).trans g.1, g.2⟩
theorem fx_ts.ext {s t : fx_S} (h : fx_ext s t) {st : List fx_V} (g : fx_ts s st) : fx_ts t st := fun v hv => (g v hv).ext h
theorem fx_tl.ext {s t : fx_S} (h : fx_ext s t) {ls : fx_L} (g : fx_tl s ls) : fx_tl t ls := fun i v hv => (g i v hv).ext h
def fx_okT (i : Instr) (r1 r2 : Nat) : Bool := match i with
  | .getfield _ => fx_ft r1 == r2
  | .putfield _ => fx_ft r1 == r2
  | _ => true
theorem fx_get_set : ∀ (ls : fx_L) (i j : Nat) (v w : fx_V), fx_get (fx_set ls i v) j = some w → w = v ∨ fx_get ls j = some w
  | [], _, _, _, _, h => by simp [fx_set, fx_get] at h
  | _ :: l, 0, 0, v, w, h => by simp [fx_set, fx_get] at h; exact Or.inl h.symm
  | _ :: l, 0, j + 1, v, w, h => by simp [fx_set, fx_get] at h; exact Or.inr (by simpa [fx_get] using h)
  | x :: l, i + 1, 0, v, w, h => by simp [fx_set, fx_get] at h; exact Or.inr (by simpa [fx_get] using h)
  | x :: l, i + 1, j + 1, v, w, h => by
    simp [fx_set, fx_get] at h
    simpa [fx_get] using fx_get_set l i j v w h
theorem fx_set_len : ∀ (ls : fx_L) (i : Nat) (v : fx_V), (fx_set ls i v).length = ls.length
  | [], _, _ => rfl
  | _ :: _, 0, _ => rfl
  | _ :: l, i + 1, v => by simp [fx_set, fx_set_len l i v]
theorem fx_pop_spec : ∀ (n : Nat) (acc st as st' : List fx_V), fx_pop n acc st = some (as, st') → ∃ xs : List fx_V, as = xs.reverse ++ acc ∧ st = xs ++ st' ∧ xs.length = n
  | 0, acc, st, as, st', h => by simp [fx_pop] at h; exact ⟨[], by simp [h.1], by simp [h.2], rfl⟩
  | n + 1, acc, [], as, st', h => by simp [fx_pop] at h
  | n + 1, acc, v :: st, as, st', h => by
    simp only [fx_pop] at h
    obtain ⟨xs, h1, h2, h3⟩ := fx_pop_spec n (v :: acc) st as st' h
    exact ⟨v :: xs, by simp [h1], by simp [h2], by simp [h3]⟩
theorem fx_get_rep : ∀ (n i : Nat) (v : fx_V), fx_get (List.replicate n none) i = some v → False
  | 0, i, v, h => by simp [fx_get] at h
  | n + 1, 0, v, h => by simp [List.replicate_succ, fx_get] at h
  | n + 1, i + 1, v, h => fx_get_rep n i v (by simpa [List.replicate_succ, fx_get] using h)
theorem fx_get_pad : ∀ (n : Nat) (as : List fx_V) (i : Nat) (v : fx_V), fx_get (fx_pad n as) i = some v → as[i]? = some v
  | n, [], i, v, h => (fx_get_rep n i v h).elim
  | n, a :: l, 0, v, h => by simpa [fx_pad, fx_get] using h
  | n, a :: l, i + 1, v, h => by
    have := fx_get_pad (n - 1) l i v (by simpa [fx_pad, fx_get] using h)
    simpa using this
theorem fx_pad_len : ∀ (n : Nat) (as : List fx_V), as.length ≤ n → (fx_pad n as).length = n
  | n, [], _ => by simp [fx_pad]
  | n, a :: l, h => by
    have h1 : l.length + 1 ≤ n := h
    simp only [fx_pad, List.length_cons, fx_pad_len (n - 1) l (by omega)]
    omega
def fx_inv (s : fx_S) (ls : fx_L) (st : List fx_V) : Prop := fx_fresh s ∧ fx_wt s ∧ fx_tl s ls ∧ fx_ts s st
theorem fx_ts.hd {s : fx_S} {v : fx_V} {st : List fx_V} (h : fx_ts s (v :: st)) : fx_tv s v := h v List.mem_cons_self
theorem fx_ts.tl {s : fx_S} {v : fx_V} {st : List fx_V} (h : fx_ts s (v :: st)) : fx_ts s st := fun w hw => h w (List.mem_cons_of_mem _ hw)
theorem fx_ts.cons {s : fx_S} {v : fx_V} {st : List fx_V} (h : fx_ts s st) (g : fx_tv s v) : fx_ts s (v :: st) := fun w hw => by
  rcases List.mem_cons.mp hw with e | e
  · rw [e]; exact g
  · exact h w e
theorem fx_tl.set {s : fx_S} {v : fx_V} {ls : fx_L} {i : Nat} (h : fx_tl s ls) (g : fx_tv s v) : fx_tl s (fx_set ls i v) := fun j w hw => by
  rcases fx_get_set ls i j v w hw with e | e
  · rw [e]; exact g
  · exact h j w e
theorem fx_ext_sfi (s : fx_S) (f a : Nat) (v : Int32) : fx_ext s (fx_sfi s f a v) := ⟨Nat.le_refl _, Nat.le_refl _, fun _ _ => rfl⟩
theorem fx_ext_sfr (s : fx_S) (f a : Nat) (v : Option Nat) : fx_ext s (fx_sfr s f a v) := ⟨Nat.le_refl _, Nat.le_refl _, fun _ _ => rfl⟩
theorem fx_ext_sai (s : fx_S) (f a : Nat) (v : Int32) : fx_ext s (fx_sai s f a v) := ⟨Nat.le_refl _, Nat.le_refl _, fun _ _ => rfl⟩
theorem fx_ext_sar (s : fx_S) (f a : Nat) (v : Option Nat) : fx_ext s (fx_sar s f a v) := ⟨Nat.le_refl _, Nat.le_refl _, fun _ _ => rfl⟩
theorem fx_ext_sal (s : fx_S) (f a : Nat) (v : Int64) : fx_ext s (fx_sal s f a v) := ⟨Nat.le_refl _, Nat.le_refl _, fun _ _ => rfl⟩
theorem fx_at_ext {s t : fx_S} {tag n : Nat} (hf : fx_fresh s) (h1 : fx_kd t = fx_at (fx_kd s) (fx_nx s) tag) (h2 : fx_nx t = fx_nx s + 1) (h3 : fx_sl t = fx_sl s + n) : fx_ext s t := by
  refine ⟨by omega, by omega, fun a ha => ?_⟩
  rw [h1]
  have : a ≠ fx_nx s := fun e => ha (hf a (by omega))
  simp [fx_at, this]
theorem fx_ext_new {s : fx_S} (tag n : Nat) (hf : fx_fresh s) : fx_ext s (fx_new s tag n) := fx_at_ext (tag := tag) (n := n) hf rfl rfl rfl
theorem fx_ext_newa {s : fx_S} (tag n : Nat) (hf : fx_fresh s) : fx_ext s (fx_newa s tag n) := fx_at_ext (tag := tag) (n := n) hf rfl rfl rfl
theorem fx_fresh_at {s t : fx_S} {tag : Nat} (hf : fx_fresh s) (h1 : fx_kd t = fx_at (fx_kd s) (fx_nx s) tag) (h2 : fx_nx t = fx_nx s + 1) : fx_fresh t := by
  intro a ha
  rw [h1]
  have : a ≠ fx_nx s := by omega
  simp only [fx_at, this, if_false]
  exact hf a (by omega)
theorem fx_wt_new {s : fx_S} (tag n : Nat) (ht : fx_ia tag = false) (hf : fx_fresh s) (h : fx_wt s) : fx_wt (fx_new s tag n) := by
  have he := fx_ext_new tag n hf
  refine ⟨fun a f b h1 h2 h3 => ?_, fun a j b h1 h3 => ?_⟩
  · have h3' : fx_col (fx_fr s) (fx_nx s) none f a = some b := h3
    have h1' : fx_at (fx_kd s) (fx_nx s) tag a = 10 + f / 64 := h1
    by_cases e : a = fx_nx s
    · simp [fx_col, e] at h3'
    · simp only [fx_col, e, if_false] at h3'
      simp only [fx_at, e, if_false] at h1'
      have := h.1 a f b h1' h2 h3'
      rw [he.2.2 b (by rw [this]; omega)]
      exact this
  · have h1' : fx_ia (fx_at (fx_kd s) (fx_nx s) tag a) = true := h1
    have hk : fx_kd (fx_new s tag n) a = fx_at (fx_kd s) (fx_nx s) tag a := rfl
    have h3' : fx_ar s a j = some b := h3
    by_cases e : a = fx_nx s
    · simp [fx_at, e, ht] at h1'
    · rw [hk]
      simp only [fx_at, e, if_false] at h1' ⊢
      have := h.2 a j b h1' h3'
      have h5 : 41 ≤ fx_kd s a := by
        simp only [fx_ia, Bool.or_eq_true, beq_iff_eq] at h1'
        omega
      rw [he.2.2 b (by rw [this]; omega)]
      exact this
theorem fx_ft_lt {f : Nat} (h : 2 ≤ fx_ft f) : f / 64 < 13 := by
  rcases Nat.lt_or_ge (f / 64) 13 with g | g
  · exact g
  · exfalso
    have h1 : fx_ftL.length ≤ f / 64 := g
    simp only [fx_ft, List.getD_eq_getElem?_getD, List.getElem?_eq_none h1] at h
    simp at h
theorem fx_wt_newa {s : fx_S} (tag n : Nat) (ht : 40 ≤ tag) (hf : fx_fresh s) (h : fx_wt s) : fx_wt (fx_newa s tag n) := by
  have he := fx_ext_newa tag n hf
  refine ⟨fun a f b h1 h2 h3 => ?_, fun a j b h1 h3 => ?_⟩
  · have h3' : fx_fr s f a = some b := h3
    have h1' : fx_at (fx_kd s) (fx_nx s) tag a = 10 + f / 64 := h1
    by_cases e : a = fx_nx s
    · have := fx_ft_lt h2
      simp only [fx_at, e, if_true] at h1'
      omega
    · simp only [fx_at, e, if_false] at h1'
      have := h.1 a f b h1' h2 h3'
      rw [he.2.2 b (by rw [this]; omega)]
      exact this
  · have h1' : fx_ia (fx_at (fx_kd s) (fx_nx s) tag a) = true := h1
    have hk : fx_kd (fx_newa s tag n) a = fx_at (fx_kd s) (fx_nx s) tag a := rfl
    have h3' : fx_at (fx_ar s) (fx_nx s) (fun _ => none) a j = some b := h3
    by_cases e : a = fx_nx s
    · simp [fx_at, e] at h3'
    · rw [hk]
      simp only [fx_at, e, if_false] at h1' h3' ⊢
      have := h.2 a j b h1' h3'
      have h5 : 41 ≤ fx_kd s a := by
        simp only [fx_ia, Bool.or_eq_true, beq_iff_eq] at h1'
        omega
      rw [he.2.2 b (by rw [this]; omega)]
      exact this
theorem fx_up_same {α : Type} (f : Nat → Nat → α) (g a : Nat) (v : α) : fx_up f g a v g a = v := by simp [fx_up]
theorem fx_wt_sfr {s : fx_S} {f a : Nat} {v : Option Nat} (h : fx_wt s) (hv : ∀ b, v = some b → fx_kd s b = fx_ft f) : fx_wt (fx_sfr s f a v) := by
  refine ⟨fun x g b h1 h2 h3 => ?_, h.2⟩
  have h3' : fx_up (fx_fr s) f a v g x = some b := h3
  by_cases e : g = f ∧ x = a
  · obtain ⟨e1, e2⟩ := e
    subst e1; subst e2
    rw [fx_up_same] at h3'
    exact hv b h3'
  · have : fx_up (fx_fr s) f a v g x = fx_fr s g x := by
      unfold fx_up
      by_cases e1 : g = f
      · have e2 : ¬ x = a := fun q => e ⟨e1, q⟩
        simp [e1, e2]
      · simp [e1]
    rw [this] at h3'
    exact h.1 x g b h1 h2 h3'
theorem fx_wt_sar {s : fx_S} {a j : Nat} {v : Option Nat} (h : fx_wt s) (hv : ∀ b, v = some b → fx_kd s b = fx_kd s a - 30) : fx_wt (fx_sar s a j v) := by
  refine ⟨h.1, fun x k b h1 h3 => ?_⟩
  have h3' : fx_up (fx_ar s) a j v x k = some b := h3
  by_cases e : x = a ∧ k = j
  · obtain ⟨e1, e2⟩ := e
    subst e1; subst e2
    rw [fx_up_same] at h3'
    exact hv b h3'
  · have : fx_up (fx_ar s) a j v x k = fx_ar s x k := by
      unfold fx_up
      by_cases e1 : x = a
      · have e2 : ¬ k = j := fun q => e ⟨e1, q⟩
        simp [e1, e2]
      · simp [e1]
    rw [this] at h3'
    exact h.2 x k b h1 h3'
/-- what an action keeps -/
def fx_kept (s : fx_S) (ls : fx_L) (st : List fx_V) : Option fx_A → Prop
  | none => True
  | some (.inl (C, _, ls', st', s')) => C → fx_inv s' ls' st' ∧ fx_ext s s' ∧ ls'.length = ls.length
  | some (.inr (.inl (_, (_, l1, t1, s1), (_, l2, t2, s2)))) => s1 = s ∧ s2 = s ∧ l1 = ls ∧ l2 = ls ∧ fx_ts s t1 ∧ fx_ts s t2
  | some (.inr (.inr (.inl (_, r, s')))) => s' = s ∧ ∀ v, r = some v → fx_tv s v
  | some (.inr (.inr (.inr (_, _, as, _, ls', st', s')))) => s' = s ∧ ls' = ls ∧ (∃ xs : List fx_V, as = xs.reverse ∧ st = xs ++ st')
end
section
section
variable {mi pc : Nat} {i : Instr} {np r1 r2 : Nat} {ls : fx_L} {st : List fx_V} {s : fx_S}
theorem fx_keepJ {C : Prop} {pc' : Nat} {st' : List fx_V} (h : fx_inv s ls st) (hst : C → fx_ts s st') : fx_kept s ls st (fx_J C pc' ls st' s) := fun c => ⟨⟨h.1, h.2.1, h.2.2.1, hst c⟩, fx_ext.rf s, rfl⟩
theorem fx_keepL {C : Prop} {pc' k : Nat} {st' : List fx_V} {v : fx_V} (h : fx_inv s ls st) (hv : fx_tv s v) (hst : fx_ts s st') : fx_kept s ls st (fx_J C pc' (fx_set ls k v) st' s) := fun _ => ⟨⟨h.1, h.2.1, h.2.2.1.set hv, hst⟩, fx_ext.rf s, fx_set_len _ _ _⟩
theorem fx_keepS {C : Prop} {pc' : Nat} {st' : List fx_V} {s' : fx_S} (h : fx_inv s ls st) (he : fx_ext s s') (hf : fx_fresh s') (hw : C → fx_wt s') (hst : C → fx_ts s' st') : fx_kept s ls st (fx_J C pc' ls st' s') := fun c => ⟨⟨hf, hw c, h.2.2.1.ext he, hst c⟩, he, rfl⟩
theorem fx_keepB {C : Prop} {p1 p2 : Nat} {st' : List fx_V} (hst : fx_ts s st') : fx_kept s ls st (fx_B C p1 p2 ls st' s) := ⟨rfl, rfl, rfl, rfl, hst, hst⟩
theorem fx_keepK {m2 k : Nat} {as st' : List fx_V} (hp : fx_pop k [] st = some (as, st')) : fx_kept s ls st (fx_K m2 as np ls st' s) := by
  obtain ⟨xs, h1, h2, -⟩ := fx_pop_spec k [] st as st' hp
  exact ⟨rfl, rfl, xs, by simpa using h1, h2⟩
set_option maxHeartbeats 4000000 in
theorem fx_keeps (hok : fx_okT i r1 r2 = true) (h : fx_inv s ls st) : fx_kept s ls st (fx_act mi pc i np r1 r2 ls st s) := by
  obtain ⟨hf, hw, hl, hs⟩ := id h
  unfold fx_act
  split
  all_goals try exact fx_keepJ h (fun _ => hs.cons trivial)
  all_goals try exact fx_keepJ h (fun _ => hs)
  all_goals try (split <;> first | exact trivial | exact fx_keepJ h (fun _ => hs.cons trivial) | exact fx_keepJ h (fun _ => hs.cons (hl _ _ ‹_›)) | exact fx_keepJ h (fun _ => hs.tl.tl.cons trivial) | exact fx_keepJ h (fun _ => hs.tl.cons trivial) | exact fx_keepJ h (fun _ => hs.tl) | exact fx_keepL h trivial hs.tl | exact fx_keepL h hs.hd hs.tl | exact fx_keepL h trivial hs | exact fx_keepB hs.tl | exact fx_keepB hs.tl.tl | exact fx_keepJ h (fun _ => hs.cons trivial) | exact fx_keepJ h (fun _ => hs.cons hs.hd) | exact fx_keepJ h (fun _ => (hs.cons hs.tl.hd).cons hs.hd))
  · -- getfield
    split
    · rename_i c a st' 
      cases hc : (c == 10 + r1 / 64)
      · exact trivial
      · cases h2 : Nat.ble r2 1
        · refine fx_keepJ h (fun _ => hs.tl.cons ?_)
          have hr : fx_ft r1 = r2 := by simpa [fx_okT] using hok
          have h3 : 2 ≤ r2 := by
            rcases Nat.lt_or_ge 1 r2 with q | q
            · exact q
            · rw [Nat.ble_eq_true_of_le q] at h2; cases h2
          have hk := hs.hd
          have hc' : c = 10 + r1 / 64 := by simpa using hc
          cases hb : fx_fr s r1 a with
          | none => exact trivial
          | some b => exact ⟨by rw [← hr]; exact hw.1 a r1 b (hk.1.trans hc') (by omega) hb, by omega⟩
        · exact fx_keepJ h (fun _ => hs.tl.cons trivial)
    · exact trivial
  · -- putfield
    split
    · rename_i x c a st'
      cases hc : (c == 10 + r1 / 64 && Nat.ble r2 1)
      · exact trivial
      · exact fx_keepS h (fx_ext_sfi s _ _ _) hf (fun _ => hw) (fun _ => hs.tl.tl)
    · rename_i c2 v c a st'
      cases hc : (c == 10 + r1 / 64 && Nat.ble 2 r2)
      · exact trivial
      · have hr : fx_ft r1 = r2 := by simpa [fx_okT] using hok
        refine fx_keepS h (fx_ext_sfr s _ _ _) hf (fun g => fx_wt_sfr hw (fun b hb => ?_)) (fun _ => hs.tl.tl)
        subst hb
        rcases g with g | g
        · rw [hr, ← g]; exact hs.hd.1
        · cases g
    · exact trivial
  · -- new
    cases Nat.ble 900 r1
    · cases h1 : Nat.ble r1 12
      · exact trivial
      · have h1' : r1 ≤ 12 := Nat.le_of_ble_eq_true h1
        have ht : fx_ia (10 + r1) = false := by
          simp only [fx_ia, Bool.or_eq_false_iff, beq_eq_false_iff_ne]
          omega
        have he := fx_ext_new (10 + r1) r2 hf
        refine fx_keepS h he (fx_fresh_at hf rfl rfl) (fun _ => fx_wt_new _ _ ht hf hw) (fun _ => (hs.ext he).cons ⟨?_, by omega⟩)
        show fx_at (fx_kd s) (fx_nx s) (10 + r1) (fx_nx s) = _
        simp [fx_at]
    · exact ⟨rfl, fun v hv => by cases hv; exact trivial⟩
  · -- newarray
    split
    · cases h1 : (Nat.ble 70 r1 && Nat.ble r1 72)
      · exact trivial
      · rename_i x st'
        simp only [Bool.and_eq_true] at h1
        have h1' : 70 ≤ r1 := Nat.le_of_ble_eq_true h1.1
        have he := fx_ext_newa r1 x.toNatClampNeg hf
        refine fx_keepS h he (fx_fresh_at hf rfl rfl) (fun _ => fx_wt_newa _ _ (by omega) hf hw) (fun _ => (hs.tl.ext he).cons ⟨?_, by omega⟩)
        show fx_at (fx_kd s) (fx_nx s) r1 (fx_nx s) = _
        simp [fx_at]
    · exact trivial
  · -- anewarray
    split
    · cases h1 : fx_ia (40 + r1)
      · exact trivial
      · rename_i x st'
        have he := fx_ext_newa (40 + r1) x.toNatClampNeg hf
        refine fx_keepS h he (fx_fresh_at hf rfl rfl) (fun _ => fx_wt_newa _ _ (by omega) hf hw) (fun _ => (hs.tl.ext he).cons ⟨?_, by omega⟩)
        show fx_at (fx_kd s) (fx_nx s) (40 + r1) (fx_nx s) = _
        simp [fx_at]
    · exact trivial
  · -- arraylength
    split
    · rename_i c a st'
      cases hc : (c == 73)
      · exact trivial
      · exact fx_keepJ h (fun _ => hs.tl.cons trivial)
    · exact trivial
  · -- iaload
    split
    · rename_i j c a st'
      cases hc : (c == 70 || c == 73)
      · exact trivial
      · exact fx_keepJ h (fun _ => hs.tl.tl.cons trivial)
    · exact trivial
  · -- baload
    split
    · rename_i j c a st'
      cases hc : (c == 71)
      · exact trivial
      · exact fx_keepJ h (fun _ => hs.tl.tl.cons trivial)
    · exact trivial
  · -- laload
    split
    · rename_i j c a st'
      cases hc : (c == 72)
      · exact trivial
      · exact fx_keepJ h (fun _ => hs.tl.tl.cons trivial)
    · exact trivial
  · -- aaload
    split
    · rename_i j c a st'
      cases hc : fx_ia c
      · exact trivial
      · refine fx_keepJ h (fun _ => hs.tl.tl.cons ?_)
        have hk := hs.tl.hd
        have h5 : 41 ≤ c := by
          simp only [fx_ia, Bool.or_eq_true, beq_iff_eq] at hc
          omega
        cases hb : fx_ar s a j.toNatClampNeg with
        | none => exact trivial
        | some b => exact ⟨by rw [hw.2 a _ b (by rw [hk.1]; exact hc) hb, hk.1], by omega⟩
    · exact trivial
  · -- iastore
    split
    · rename_i x j c a st'
      cases hc : (c == 70)
      · exact trivial
      · exact fx_keepS h (fx_ext_sai s _ _ _) hf (fun _ => hw) (fun _ => hs.tl.tl.tl)
    · exact trivial
  · -- bastore
    split
    · rename_i x j c a st'
      cases hc : (c == 71)
      · exact trivial
      · exact fx_keepS h (fx_ext_sai s _ _ _) hf (fun _ => hw) (fun _ => hs.tl.tl.tl)
    · exact trivial
  · -- lastore
    split
    · rename_i x j c a st'
      cases hc : (c == 72)
      · exact trivial
      · exact fx_keepS h (fx_ext_sal s _ _ _) hf (fun _ => hw) (fun _ => hs.tl.tl.tl)
    · exact trivial
  · -- aastore
    split
    · rename_i c2 v j c a st'
      cases hc : fx_ia c
      · exact trivial
      · refine fx_keepS h (fx_ext_sar s _ _ _) hf (fun g => fx_wt_sar hw (fun b hb => ?_)) (fun _ => hs.tl.tl.tl)
        subst hb
        rcases g.2 with g | g
        · rw [hs.tl.tl.hd.1, ← g]; exact hs.hd.1
        · cases g
    · exact trivial
  · -- ireturn
    split
    · exact ⟨rfl, fun v hv => by cases hv; exact trivial⟩
    · exact trivial
  · split
    · exact ⟨rfl, fun v hv => by cases hv; exact hs.hd⟩
    · exact trivial
  · split
    · exact ⟨rfl, fun v hv => by cases hv⟩
    · exact trivial
  · -- invokespecial
    cases (r1 == 1000)
    · dsimp only [cond]
      split
      · rename_i c a as st' hp
        cases (c == r2 / 16 && Nat.ble st'.length 4 && fx_nol as)
        · exact trivial
        · exact fx_keepK hp
      · exact trivial
    · dsimp only [cond]
      split
      · rename_i st'
        cases (Nat.ble st'.length 4)
        · exact trivial
        · exact fx_keepJ h (fun _ => hs.tl)
      · exact trivial
  · split
    · rename_i c a as st' hp
      cases (c == r2 / 16 && Nat.ble st'.length 4 && fx_nol as)
      · exact trivial
      · exact fx_keepK hp
    · exact trivial
  · cases (r1 == 1001)
    · dsimp only [cond]
      split
      · rename_i as st' hp
        cases (Nat.ble st'.length 4 && fx_nol as)
        · exact trivial
        · exact fx_keepK hp
      · exact trivial
    · dsimp only [cond]
      split
      · rename_i y x st'
        cases (Nat.ble st'.length 4)
        · exact trivial
        · exact fx_keepJ h (fun _ => hs.tl.tl.cons trivial)
      · exact trivial
  · exact trivial
end
end
section
def fx_lk (w : Nat) (c d : Cond) : Bool := fx_wd w c || decide (lw_tbl[w]? = some d)
def fx_Cn (ci : Nat) : String := (fx_cl.getD ci (fx_R0, fx_F0, 16)).1
def fx_Cs (ci : Nat) : Nat := (fx_cl.getD ci (fx_R0, fx_F0, 16)).2.2
/-- a call: ranks and words of stack fall, the count of arguments, the link -/
def fx_okC (mi idx r1 n w : Nat) : Bool := Nat.blt r1 133 && Nat.blt (fx_rk r1) (fx_rk mi) && Nat.ble (19 + fx_ml r1 + fx_lw r1) (fx_lw mi) && decide ((parseMethodDescriptor (fx_yy r1).desc).map (fun d => d.parameters.length) = some n) && fx_lk w (.methodLink (fx_yy mi).cls idx (fx_yy r1)) (.methodLinkNest (fx_yy mi).cls idx (fx_yy r1) "FlitTorus")
def fx_okE (mi : Nat) (e : fx_E) : Bool := match e with
  | (pc, (i, np, r1, r2), w) => fx_okT i r1 r2 && decide (decode (fx_cc mi) pc = .ok (i, np - pc)) && (match i with
    | .iconst n => np == pc + 1 && decide (Int32.ofInt n = fx_ic n)
    | .bipush n => np == pc + 2 && decide ((Int8.ofInt n).toInt32 = fx_ic n)
    | .sipush n => np == pc + 3 && decide ((Int16.ofInt n).toInt32 = fx_ic n)
    | .ldc idx => np == pc + 2 && fx_wd w (.constant (fx_yy mi).cls idx (nI r1))
    | .iload_n k => np == pc + 1 && k.val == r1
    | .aload_n k => np == pc + 1 && k.val == r1
    | .istore_n k => np == pc + 1 && k.val == r1 && Nat.blt r1 (fx_ml mi)
    | .astore_n k => np == pc + 1 && k.val == r1 && Nat.blt r1 (fx_ml mi)
    | .iload k => np == pc + 2 && k == r1
    | .aload k => np == pc + 2 && k == r1
    | .istore k => np == pc + 2 && k == r1 && Nat.blt r1 (fx_ml mi)
    | .astore k => np == pc + 2 && k == r1 && Nat.blt r1 (fx_ml mi)
    | .iinc k c => np == pc + 3 && k == r1 && Nat.blt r1 (fx_ml mi) && decide (Int32.ofInt c = fx_ic c)
    | .goto off => np == pc + 3 && decide ((pc : Int) + off = (r1 : Int))
    | .ifCond _ off => np == pc + 3 && decide ((pc : Int) + off = (r1 : Int))
    | .if_icmp _ off => np == pc + 3 && decide ((pc : Int) + off = (r1 : Int))
    | .if_acmp _ off => np == pc + 3 && decide ((pc : Int) + off = (r1 : Int))
    | .ifnull off => np == pc + 3 && decide ((pc : Int) + off = (r1 : Int))
    | .ifnonnull off => np == pc + 3 && decide ((pc : Int) + off = (r1 : Int))
    | .tableswitch d lo hi offs => decide (0 ≤ (pc : Int) + d) && offs.toList.all (fun q => decide (0 ≤ (pc : Int) + q)) && decide (offs.size = (hi - lo + 1).toNat)
    | .getfield idx => np == pc + 3 && Nat.blt (r1 / 64) 13 && Nat.blt (r1 % 64) (fx_Nf r1) && fx_wd w (.fieldLink (fx_yy mi).cls idx (fx_F r1).1 (fx_F r1).2.1 (fx_F r1).2.2.1)
    | .putfield idx => np == pc + 3 && Nat.blt (r1 / 64) 13 && Nat.blt (r1 % 64) (fx_Nf r1) && fx_wd w (.fieldLink (fx_yy mi).cls idx (fx_F r1).1 (fx_F r1).2.1 (fx_F r1).2.2.1) && (!(fx_F r1).2.2.2 || ((fx_yy mi).name == "<init>" && (fx_yy mi).cls == (fx_F r1).1))
    | .new idx => np == pc + 3 && (Nat.ble 900 r1 || (fx_wd w (.classLink (fx_yy mi).cls idx (fx_Cn r1)) && r2 == fx_Cs r1))
    | .newarray t => np == pc + 2 && fx_wd w (.arrayClass (newarray.typeOf t)) && (match t with
      | .int => r1 == 70
      | .boolean => r1 == 71
      | .long => r1 == 72
      | _ => false)
    | .anewarray idx => np == pc + 3 && fx_wd w (.classLink (fx_yy mi).cls idx (fx_Cn r1)) && Nat.blt r1 13
    | .invokespecial idx => np == pc + 3 && (bif r1 == 1000 then fx_wd w (.methodLink (fx_yy mi).cls idx Lib.objectInit) && Nat.ble 1 (fx_rk mi) && Nat.ble 20 (fx_lw mi) else (fx_yy r1).name == "<init>" && r2 / 16 == 10 + fx_ci r1 && Nat.ble 1 (r2 % 16) && fx_okC mi idx r1 (r2 % 16 - 1) w)
    | .invokevirtual idx => np == pc + 3 && r2 / 16 == 10 + fx_ci r1 && Nat.ble 1 (r2 % 16) && fx_okC mi idx r1 (r2 % 16 - 1) w
    | .invokestatic idx => np == pc + 3 && (bif r1 == 1001 then fx_wd w (.methodLink (fx_yy mi).cls idx Lib.Math.max.name) && Nat.ble 1 (fx_rk mi) && Nat.ble 24 (fx_lw mi) else fx_okC mi idx r1 (r2 % 16) w)
    | _ => np == pc + 1)
theorem fx_ok0 : fx_c0.all (fx_okE 0) = true := by decide +kernel
theorem fx_ok1 : fx_c1.all (fx_okE 1) = true := by decide +kernel
theorem fx_ok2 : fx_c2.all (fx_okE 2) = true := by decide +kernel
theorem fx_ok3 : fx_c3.all (fx_okE 3) = true := by decide +kernel
theorem fx_ok4 : fx_c4.all (fx_okE 4) = true := by decide +kernel
theorem fx_ok5 : fx_c5.all (fx_okE 5) = true := by decide +kernel
theorem fx_ok6 : fx_c6.all (fx_okE 6) = true := by decide +kernel
theorem fx_ok7 : fx_c7.all (fx_okE 7) = true := by decide +kernel
theorem fx_ok8 : fx_c8.all (fx_okE 8) = true := by decide +kernel
theorem fx_ok9 : fx_c9.all (fx_okE 9) = true := by decide +kernel
theorem fx_ok10 : fx_c10.all (fx_okE 10) = true := by decide +kernel
theorem fx_ok11 : fx_c11.all (fx_okE 11) = true := by decide +kernel
theorem fx_ok12 : fx_c12.all (fx_okE 12) = true := by decide +kernel
theorem fx_ok13 : fx_c13.all (fx_okE 13) = true := by decide +kernel
theorem fx_ok14 : fx_c14.all (fx_okE 14) = true := by decide +kernel
theorem fx_ok15 : fx_c15.all (fx_okE 15) = true := by decide +kernel
theorem fx_ok16 : fx_c16.all (fx_okE 16) = true := by decide +kernel
theorem fx_ok17 : fx_c17.all (fx_okE 17) = true := by decide +kernel
theorem fx_ok18 : fx_c18.all (fx_okE 18) = true := by decide +kernel
theorem fx_ok19 : fx_c19.all (fx_okE 19) = true := by decide +kernel
theorem fx_ok20 : fx_c20.all (fx_okE 20) = true := by decide +kernel
theorem fx_ok21 : fx_c21.all (fx_okE 21) = true := by decide +kernel
theorem fx_ok22 : fx_c22.all (fx_okE 22) = true := by decide +kernel
theorem fx_ok23 : fx_c23.all (fx_okE 23) = true := by decide +kernel
theorem fx_ok24 : fx_c24.all (fx_okE 24) = true := by decide +kernel
theorem fx_ok25 : fx_c25.all (fx_okE 25) = true := by decide +kernel
theorem fx_ok26 : fx_c26.all (fx_okE 26) = true := by decide +kernel
theorem fx_ok27 : fx_c27.all (fx_okE 27) = true := by decide +kernel
theorem fx_ok28 : fx_c28.all (fx_okE 28) = true := by decide +kernel
theorem fx_ok29 : fx_c29.all (fx_okE 29) = true := by decide +kernel
theorem fx_ok30 : fx_c30.all (fx_okE 30) = true := by decide +kernel
theorem fx_ok31 : fx_c31.all (fx_okE 31) = true := by decide +kernel
theorem fx_ok32 : fx_c32.all (fx_okE 32) = true := by decide +kernel
theorem fx_ok33 : fx_c33.all (fx_okE 33) = true := by decide +kernel
theorem fx_ok34 : fx_c34.all (fx_okE 34) = true := by decide +kernel
theorem fx_ok35 : fx_c35.all (fx_okE 35) = true := by decide +kernel
theorem fx_ok36 : fx_c36.all (fx_okE 36) = true := by decide +kernel
theorem fx_ok37 : fx_c37.all (fx_okE 37) = true := by decide +kernel
theorem fx_ok38 : fx_c38.all (fx_okE 38) = true := by decide +kernel
theorem fx_ok39 : fx_c39.all (fx_okE 39) = true := by decide +kernel
theorem fx_ok40 : fx_c40.all (fx_okE 40) = true := by decide +kernel
theorem fx_ok41 : fx_c41.all (fx_okE 41) = true := by decide +kernel
theorem fx_ok42 : fx_c42.all (fx_okE 42) = true := by decide +kernel
theorem fx_ok43 : fx_c43.all (fx_okE 43) = true := by decide +kernel
theorem fx_ok44 : fx_c44.all (fx_okE 44) = true := by decide +kernel
theorem fx_ok45 : fx_c45.all (fx_okE 45) = true := by decide +kernel
theorem fx_ok46 : fx_c46.all (fx_okE 46) = true := by decide +kernel
theorem fx_ok47 : fx_c47.all (fx_okE 47) = true := by decide +kernel
theorem fx_ok48 : fx_c48.all (fx_okE 48) = true := by decide +kernel
theorem fx_ok49 : fx_c49.all (fx_okE 49) = true := by decide +kernel
theorem fx_ok50 : fx_c50.all (fx_okE 50) = true := by decide +kernel
theorem fx_ok51 : fx_c51.all (fx_okE 51) = true := by decide +kernel
theorem fx_ok52 : fx_c52.all (fx_okE 52) = true := by decide +kernel
theorem fx_ok53 : fx_c53.all (fx_okE 53) = true := by decide +kernel
theorem fx_ok54 : fx_c54.all (fx_okE 54) = true := by decide +kernel
theorem fx_ok55 : fx_c55.all (fx_okE 55) = true := by decide +kernel
theorem fx_ok56 : fx_c56.all (fx_okE 56) = true := by decide +kernel
theorem fx_ok57 : fx_c57.all (fx_okE 57) = true := by decide +kernel
theorem fx_ok58 : fx_c58.all (fx_okE 58) = true := by decide +kernel
theorem fx_ok59 : fx_c59.all (fx_okE 59) = true := by decide +kernel
theorem fx_ok60 : fx_c60.all (fx_okE 60) = true := by decide +kernel
theorem fx_ok61 : fx_c61.all (fx_okE 61) = true := by decide +kernel
theorem fx_ok62 : fx_c62.all (fx_okE 62) = true := by decide +kernel
theorem fx_ok63 : fx_c63.all (fx_okE 63) = true := by decide +kernel
theorem fx_ok64 : fx_c64.all (fx_okE 64) = true := by decide +kernel
theorem fx_ok65 : fx_c65.all (fx_okE 65) = true := by decide +kernel
theorem fx_ok66 : fx_c66.all (fx_okE 66) = true := by decide +kernel
theorem fx_ok67 : fx_c67.all (fx_okE 67) = true := by decide +kernel
theorem fx_ok68 : fx_c68.all (fx_okE 68) = true := by decide +kernel
theorem fx_ok69 : fx_c69.all (fx_okE 69) = true := by decide +kernel
theorem fx_ok70 : fx_c70.all (fx_okE 70) = true := by decide +kernel
theorem fx_ok71 : fx_c71.all (fx_okE 71) = true := by decide +kernel
theorem fx_ok72 : fx_c72.all (fx_okE 72) = true := by decide +kernel
theorem fx_ok73 : fx_c73.all (fx_okE 73) = true := by decide +kernel
theorem fx_ok74 : fx_c74.all (fx_okE 74) = true := by decide +kernel
theorem fx_ok75 : fx_c75.all (fx_okE 75) = true := by decide +kernel
theorem fx_ok76 : fx_c76.all (fx_okE 76) = true := by decide +kernel
theorem fx_ok77 : fx_c77.all (fx_okE 77) = true := by decide +kernel
theorem fx_ok78 : fx_c78.all (fx_okE 78) = true := by decide +kernel
theorem fx_ok79 : fx_c79.all (fx_okE 79) = true := by decide +kernel
theorem fx_ok80 : fx_c80.all (fx_okE 80) = true := by decide +kernel
theorem fx_ok81 : fx_c81.all (fx_okE 81) = true := by decide +kernel
theorem fx_ok82 : fx_c82.all (fx_okE 82) = true := by decide +kernel
theorem fx_ok83 : fx_c83.all (fx_okE 83) = true := by decide +kernel
theorem fx_ok84 : fx_c84.all (fx_okE 84) = true := by decide +kernel
theorem fx_ok85 : fx_c85.all (fx_okE 85) = true := by decide +kernel
theorem fx_ok86 : fx_c86.all (fx_okE 86) = true := by decide +kernel
theorem fx_ok87 : fx_c87.all (fx_okE 87) = true := by decide +kernel
theorem fx_ok88 : fx_c88.all (fx_okE 88) = true := by decide +kernel
theorem fx_ok89 : fx_c89.all (fx_okE 89) = true := by decide +kernel
theorem fx_ok90 : fx_c90.all (fx_okE 90) = true := by decide +kernel
theorem fx_ok91 : fx_c91.all (fx_okE 91) = true := by decide +kernel
theorem fx_ok92 : fx_c92.all (fx_okE 92) = true := by decide +kernel
theorem fx_ok93 : fx_c93.all (fx_okE 93) = true := by decide +kernel
theorem fx_ok94 : fx_c94.all (fx_okE 94) = true := by decide +kernel
theorem fx_ok95 : fx_c95.all (fx_okE 95) = true := by decide +kernel
theorem fx_ok96 : fx_c96.all (fx_okE 96) = true := by decide +kernel
theorem fx_ok97 : fx_c97.all (fx_okE 97) = true := by decide +kernel
theorem fx_ok98 : fx_c98.all (fx_okE 98) = true := by decide +kernel
theorem fx_ok99 : fx_c99.all (fx_okE 99) = true := by decide +kernel
theorem fx_ok100 : fx_c100.all (fx_okE 100) = true := by decide +kernel
theorem fx_ok101 : fx_c101.all (fx_okE 101) = true := by decide +kernel
theorem fx_ok102 : fx_c102.all (fx_okE 102) = true := by decide +kernel
theorem fx_ok103 : fx_c103.all (fx_okE 103) = true := by decide +kernel
theorem fx_ok104 : fx_c104.all (fx_okE 104) = true := by decide +kernel
theorem fx_ok105 : fx_c105.all (fx_okE 105) = true := by decide +kernel
theorem fx_ok106 : fx_c106.all (fx_okE 106) = true := by decide +kernel
theorem fx_ok107 : fx_c107.all (fx_okE 107) = true := by decide +kernel
theorem fx_ok108 : fx_c108.all (fx_okE 108) = true := by decide +kernel
theorem fx_ok109 : fx_c109.all (fx_okE 109) = true := by decide +kernel
theorem fx_ok110 : fx_c110.all (fx_okE 110) = true := by decide +kernel
theorem fx_ok111 : fx_c111.all (fx_okE 111) = true := by decide +kernel
theorem fx_ok112 : fx_c112.all (fx_okE 112) = true := by decide +kernel
theorem fx_ok113 : fx_c113.all (fx_okE 113) = true := by decide +kernel
theorem fx_ok114 : fx_c114.all (fx_okE 114) = true := by decide +kernel
theorem fx_ok115 : fx_c115.all (fx_okE 115) = true := by decide +kernel
theorem fx_ok116 : fx_c116.all (fx_okE 116) = true := by decide +kernel
theorem fx_ok117 : fx_c117.all (fx_okE 117) = true := by decide +kernel
theorem fx_ok118 : fx_c118.all (fx_okE 118) = true := by decide +kernel
theorem fx_ok119 : fx_c119.all (fx_okE 119) = true := by decide +kernel
theorem fx_ok120 : fx_c120.all (fx_okE 120) = true := by decide +kernel
theorem fx_ok121 : fx_c121.all (fx_okE 121) = true := by decide +kernel
theorem fx_ok122 : fx_c122.all (fx_okE 122) = true := by decide +kernel
theorem fx_ok123 : fx_c123.all (fx_okE 123) = true := by decide +kernel
theorem fx_ok124 : fx_c124.all (fx_okE 124) = true := by decide +kernel
theorem fx_ok125 : fx_c125.all (fx_okE 125) = true := by decide +kernel
theorem fx_ok126 : fx_c126.all (fx_okE 126) = true := by decide +kernel
theorem fx_ok127 : fx_c127.all (fx_okE 127) = true := by decide +kernel
theorem fx_ok128 : fx_c128.all (fx_okE 128) = true := by decide +kernel
theorem fx_ok129 : fx_c129.all (fx_okE 129) = true := by decide +kernel
theorem fx_ok130 : fx_c130.all (fx_okE 130) = true := by decide +kernel
theorem fx_ok131 : fx_c131.all (fx_okE 131) = true := by decide +kernel
theorem fx_ok132 : fx_c132.all (fx_okE 132) = true := by decide +kernel
theorem fx_ok133 : fx_c133.all (fx_okE 133) = true := by decide +kernel
end
section
def fx_isS (mi : Nat) : Bool := fx_wd (fx_wi.getD mi 0) (.static (fx_yy mi))
def fx_isI (mi : Nat) : Bool := fx_wd (fx_wi.getD mi 0) (.instanceMethod (fx_yy mi))
def fx_isV (mi : Nat) : Bool := fx_isI mi && fx_wd (fx_wsl.getD mi 0) (.selects (fx_yy mi).cls (fx_yy mi) (fx_yy mi))
def fx_kindE (e : fx_E) : Bool := match e with
  | (_, (i, _, r1, r2), _) => match i with
    | .invokespecial _ => r1 == 1000 || (fx_isI r1 && Nat.blt r1 132 && Nat.ble (r2 % 16) (fx_ml r1))
    | .invokevirtual _ => fx_isV r1 && Nat.blt r1 132 && Nat.ble (r2 % 16) (fx_ml r1)
    | .invokestatic _ => r1 == 1001 || (fx_isS r1 && Nat.ble r1 132 && Nat.ble (r2 % 16) (fx_ml r1))
    | _ => true
def fx_rtok (mi : Nat) : Bool := match fx_rt mi, fx_re mi with
  | 0, none => true
  | 1, some .int => true
  | 2, some .boolean => true
  | 3, some (.object _) => true
  | _, _ => false
def fx_okM (mi : Nat) : Bool := fx_wd (fx_wn.getD mi 0) (.initialized (fx_yy mi).cls) && plainName (fx_yy mi).cls && !((fx_yy mi).cls == "java/lang/invoke/MethodHandle") && !((fx_yy mi).cls == "java/lang/invoke/VarHandle") && fx_rtok mi && ((fx_yy mi).cls == fx_Cn (fx_ci mi) && Nat.blt (fx_ci mi) 13 || fx_isS mi)
/-- no exception is made but in take; take is called in the law's own take alone -/
def fx_exE (mi : Nat) (e : fx_E) : Bool := match e with
  | (_, (i, _, r1, _), _) => match i with
    | .new _ => Nat.blt r1 900 || mi == mm_Torus_take
    | .invokespecial _ => !(r1 == mm_Torus_take)
    | .invokevirtual _ => !(r1 == mm_Torus_take) || mi == 132
    | .invokestatic _ => !(r1 == mm_Torus_take) && (!(r1 == 132) || mi == 133)
    | _ => true
theorem fx_exs : fx_cs.zipIdx.all (fun q => q.1.all (fx_exE q.2)) = true := by decide +kernel
theorem fx_inits : (List.range 132).all (fun mi => !((fx_yy mi).name == "<init>") || decide (fx_re mi = none)) = true := by decide +kernel
theorem fx_kinds : fx_cs.all (fun l => l.all fx_kindE) = true := by decide +kernel
set_option maxRecDepth 20000 in
theorem fx_cw0 : lw_tbl[735]? = some (Cond.code (fx_yy 0) (fx_cc 0) (fx_ml 0) (fx_re 0)) := rfl
set_option maxRecDepth 20000 in
theorem fx_cw1 : lw_tbl[658]? = some (Cond.code (fx_yy 1) (fx_cc 1) (fx_ml 1) (fx_re 1)) := rfl
set_option maxRecDepth 20000 in
theorem fx_cw2 : lw_tbl[443]? = some (Cond.code (fx_yy 2) (fx_cc 2) (fx_ml 2) (fx_re 2)) := rfl
set_option maxRecDepth 20000 in
theorem fx_cw3 : lw_tbl[464]? = some (Cond.code (fx_yy 3) (fx_cc 3) (fx_ml 3) (fx_re 3)) := rfl
set_option maxRecDepth 20000 in
theorem fx_cw4 : lw_tbl[226]? = some (Cond.code (fx_yy 4) (fx_cc 4) (fx_ml 4) (fx_re 4)) := rfl
set_option maxRecDepth 20000 in
theorem fx_cw5 : lw_tbl[431]? = some (Cond.code (fx_yy 5) (fx_cc 5) (fx_ml 5) (fx_re 5)) := rfl
set_option maxRecDepth 20000 in
theorem fx_cw6 : lw_tbl[435]? = some (Cond.code (fx_yy 6) (fx_cc 6) (fx_ml 6) (fx_re 6)) := rfl
set_option maxRecDepth 20000 in
theorem fx_cw7 : lw_tbl[446]? = some (Cond.code (fx_yy 7) (fx_cc 7) (fx_ml 7) (fx_re 7)) := rfl
set_option maxRecDepth 20000 in
theorem fx_cw8 : lw_tbl[683]? = some (Cond.code (fx_yy 8) (fx_cc 8) (fx_ml 8) (fx_re 8)) := rfl
set_option maxRecDepth 20000 in
theorem fx_cw9 : lw_tbl[727]? = some (Cond.code (fx_yy 9) (fx_cc 9) (fx_ml 9) (fx_re 9)) := rfl
set_option maxRecDepth 20000 in
theorem fx_cw10 : lw_tbl[670]? = some (Cond.code (fx_yy 10) (fx_cc 10) (fx_ml 10) (fx_re 10)) := rfl
set_option maxRecDepth 20000 in
theorem fx_cw11 : lw_tbl[218]? = some (Cond.code (fx_yy 11) (fx_cc 11) (fx_ml 11) (fx_re 11)) := rfl
set_option maxRecDepth 20000 in
theorem fx_cw12 : lw_tbl[643]? = some (Cond.code (fx_yy 12) (fx_cc 12) (fx_ml 12) (fx_re 12)) := rfl
set_option maxRecDepth 20000 in
theorem fx_cw13 : lw_tbl[635]? = some (Cond.code (fx_yy 13) (fx_cc 13) (fx_ml 13) (fx_re 13)) := rfl
set_option maxRecDepth 20000 in
theorem fx_cw14 : lw_tbl[623]? = some (Cond.code (fx_yy 14) (fx_cc 14) (fx_ml 14) (fx_re 14)) := rfl
set_option maxRecDepth 20000 in
theorem fx_cw15 : lw_tbl[607]? = some (Cond.code (fx_yy 15) (fx_cc 15) (fx_ml 15) (fx_re 15)) := rfl
set_option maxRecDepth 20000 in
theorem fx_cw16 : lw_tbl[851]? = some (Cond.code (fx_yy 16) (fx_cc 16) (fx_ml 16) (fx_re 16)) := rfl
set_option maxRecDepth 20000 in
theorem fx_cw17 : lw_tbl[647]? = some (Cond.code (fx_yy 17) (fx_cc 17) (fx_ml 17) (fx_re 17)) := rfl
set_option maxRecDepth 20000 in
theorem fx_cw18 : lw_tbl[743]? = some (Cond.code (fx_yy 18) (fx_cc 18) (fx_ml 18) (fx_re 18)) := rfl
set_option maxRecDepth 20000 in
theorem fx_cw19 : lw_tbl[209]? = some (Cond.code (fx_yy 19) (fx_cc 19) (fx_ml 19) (fx_re 19)) := rfl
set_option maxRecDepth 20000 in
theorem fx_cw20 : lw_tbl[192]? = some (Cond.code (fx_yy 20) (fx_cc 20) (fx_ml 20) (fx_re 20)) := rfl
set_option maxRecDepth 20000 in
theorem fx_cw21 : lw_tbl[205]? = some (Cond.code (fx_yy 21) (fx_cc 21) (fx_ml 21) (fx_re 21)) := rfl
set_option maxRecDepth 20000 in
theorem fx_cw22 : lw_tbl[590]? = some (Cond.code (fx_yy 22) (fx_cc 22) (fx_ml 22) (fx_re 22)) := rfl
set_option maxRecDepth 20000 in
theorem fx_cw23 : lw_tbl[666]? = some (Cond.code (fx_yy 23) (fx_cc 23) (fx_ml 23) (fx_re 23)) := rfl
set_option maxRecDepth 20000 in
theorem fx_cw24 : lw_tbl[679]? = some (Cond.code (fx_yy 24) (fx_cc 24) (fx_ml 24) (fx_re 24)) := rfl
set_option maxRecDepth 20000 in
theorem fx_cw25 : lw_tbl[1192]? = some (Cond.code (fx_yy 25) (fx_cc 25) (fx_ml 25) (fx_re 25)) := rfl
set_option maxRecDepth 20000 in
theorem fx_cw26 : lw_tbl[1105]? = some (Cond.code (fx_yy 26) (fx_cc 26) (fx_ml 26) (fx_re 26)) := rfl
set_option maxRecDepth 20000 in
theorem fx_cw27 : lw_tbl[1121]? = some (Cond.code (fx_yy 27) (fx_cc 27) (fx_ml 27) (fx_re 27)) := rfl
set_option maxRecDepth 20000 in
theorem fx_cw28 : lw_tbl[1141]? = some (Cond.code (fx_yy 28) (fx_cc 28) (fx_ml 28) (fx_re 28)) := rfl
set_option maxRecDepth 20000 in
theorem fx_cw29 : lw_tbl[1149]? = some (Cond.code (fx_yy 29) (fx_cc 29) (fx_ml 29) (fx_re 29)) := rfl
set_option maxRecDepth 20000 in
theorem fx_cw30 : lw_tbl[1137]? = some (Cond.code (fx_yy 30) (fx_cc 30) (fx_ml 30) (fx_re 30)) := rfl
set_option maxRecDepth 20000 in
theorem fx_cw31 : lw_tbl[1077]? = some (Cond.code (fx_yy 31) (fx_cc 31) (fx_ml 31) (fx_re 31)) := rfl
set_option maxRecDepth 20000 in
theorem fx_cw32 : lw_tbl[1089]? = some (Cond.code (fx_yy 32) (fx_cc 32) (fx_ml 32) (fx_re 32)) := rfl
set_option maxRecDepth 20000 in
theorem fx_cw33 : lw_tbl[1161]? = some (Cond.code (fx_yy 33) (fx_cc 33) (fx_ml 33) (fx_re 33)) := rfl
set_option maxRecDepth 20000 in
theorem fx_cw34 : lw_tbl[1045]? = some (Cond.code (fx_yy 34) (fx_cc 34) (fx_ml 34) (fx_re 34)) := rfl
set_option maxRecDepth 20000 in
theorem fx_cw35 : lw_tbl[1133]? = some (Cond.code (fx_yy 35) (fx_cc 35) (fx_ml 35) (fx_re 35)) := rfl
set_option maxRecDepth 20000 in
theorem fx_cw36 : lw_tbl[1180]? = some (Cond.code (fx_yy 36) (fx_cc 36) (fx_ml 36) (fx_re 36)) := rfl
set_option maxRecDepth 20000 in
theorem fx_cw37 : lw_tbl[878]? = some (Cond.code (fx_yy 37) (fx_cc 37) (fx_ml 37) (fx_re 37)) := rfl
set_option maxRecDepth 20000 in
theorem fx_cw38 : lw_tbl[1113]? = some (Cond.code (fx_yy 38) (fx_cc 38) (fx_ml 38) (fx_re 38)) := rfl
set_option maxRecDepth 20000 in
theorem fx_cw39 : lw_tbl[1173]? = some (Cond.code (fx_yy 39) (fx_cc 39) (fx_ml 39) (fx_re 39)) := rfl
set_option maxRecDepth 20000 in
theorem fx_cw40 : lw_tbl[1057]? = some (Cond.code (fx_yy 40) (fx_cc 40) (fx_ml 40) (fx_re 40)) := rfl
set_option maxRecDepth 20000 in
theorem fx_cw41 : lw_tbl[1101]? = some (Cond.code (fx_yy 41) (fx_cc 41) (fx_ml 41) (fx_re 41)) := rfl
set_option maxRecDepth 20000 in
theorem fx_cw42 : lw_tbl[1097]? = some (Cond.code (fx_yy 42) (fx_cc 42) (fx_ml 42) (fx_re 42)) := rfl
set_option maxRecDepth 20000 in
theorem fx_cw43 : lw_tbl[1069]? = some (Cond.code (fx_yy 43) (fx_cc 43) (fx_ml 43) (fx_re 43)) := rfl
set_option maxRecDepth 20000 in
theorem fx_cw44 : lw_tbl[1036]? = some (Cond.code (fx_yy 44) (fx_cc 44) (fx_ml 44) (fx_re 44)) := rfl
set_option maxRecDepth 20000 in
theorem fx_cw45 : lw_tbl[1129]? = some (Cond.code (fx_yy 45) (fx_cc 45) (fx_ml 45) (fx_re 45)) := rfl
set_option maxRecDepth 20000 in
theorem fx_cw46 : lw_tbl[1053]? = some (Cond.code (fx_yy 46) (fx_cc 46) (fx_ml 46) (fx_re 46)) := rfl
set_option maxRecDepth 20000 in
theorem fx_cw47 : lw_tbl[870]? = some (Cond.code (fx_yy 47) (fx_cc 47) (fx_ml 47) (fx_re 47)) := rfl
set_option maxRecDepth 20000 in
theorem fx_cw48 : lw_tbl[751]? = some (Cond.code (fx_yy 48) (fx_cc 48) (fx_ml 48) (fx_re 48)) := rfl
set_option maxRecDepth 20000 in
theorem fx_cw49 : lw_tbl[739]? = some (Cond.code (fx_yy 49) (fx_cc 49) (fx_ml 49) (fx_re 49)) := rfl
set_option maxRecDepth 20000 in
theorem fx_cw50 : lw_tbl[731]? = some (Cond.code (fx_yy 50) (fx_cc 50) (fx_ml 50) (fx_re 50)) := rfl
set_option maxRecDepth 20000 in
theorem fx_cw51 : lw_tbl[281]? = some (Cond.code (fx_yy 51) (fx_cc 51) (fx_ml 51) (fx_re 51)) := rfl
set_option maxRecDepth 20000 in
theorem fx_cw52 : lw_tbl[549]? = some (Cond.code (fx_yy 52) (fx_cc 52) (fx_ml 52) (fx_re 52)) := rfl
set_option maxRecDepth 20000 in
theorem fx_cw53 : lw_tbl[96]? = some (Cond.code (fx_yy 53) (fx_cc 53) (fx_ml 53) (fx_re 53)) := rfl
set_option maxRecDepth 20000 in
theorem fx_cw54 : lw_tbl[222]? = some (Cond.code (fx_yy 54) (fx_cc 54) (fx_ml 54) (fx_re 54)) := rfl
set_option maxRecDepth 20000 in
theorem fx_cw55 : lw_tbl[454]? = some (Cond.code (fx_yy 55) (fx_cc 55) (fx_ml 55) (fx_re 55)) := rfl
set_option maxRecDepth 20000 in
theorem fx_cw56 : lw_tbl[439]? = some (Cond.code (fx_yy 56) (fx_cc 56) (fx_ml 56) (fx_re 56)) := rfl
set_option maxRecDepth 20000 in
theorem fx_cw57 : lw_tbl[460]? = some (Cond.code (fx_yy 57) (fx_cc 57) (fx_ml 57) (fx_re 57)) := rfl
set_option maxRecDepth 20000 in
theorem fx_cw58 : lw_tbl[474]? = some (Cond.code (fx_yy 58) (fx_cc 58) (fx_ml 58) (fx_re 58)) := rfl
set_option maxRecDepth 20000 in
theorem fx_cw59 : lw_tbl[305]? = some (Cond.code (fx_yy 59) (fx_cc 59) (fx_ml 59) (fx_re 59)) := rfl
set_option maxRecDepth 20000 in
theorem fx_cw60 : lw_tbl[127]? = some (Cond.code (fx_yy 60) (fx_cc 60) (fx_ml 60) (fx_re 60)) := rfl
set_option maxRecDepth 20000 in
theorem fx_cw61 : lw_tbl[619]? = some (Cond.code (fx_yy 61) (fx_cc 61) (fx_ml 61) (fx_re 61)) := rfl
set_option maxRecDepth 20000 in
theorem fx_cw62 : lw_tbl[213]? = some (Cond.code (fx_yy 62) (fx_cc 62) (fx_ml 62) (fx_re 62)) := rfl
set_option maxRecDepth 20000 in
theorem fx_cw63 : lw_tbl[855]? = some (Cond.code (fx_yy 63) (fx_cc 63) (fx_ml 63) (fx_re 63)) := rfl
set_option maxRecDepth 20000 in
theorem fx_cw64 : lw_tbl[631]? = some (Cond.code (fx_yy 64) (fx_cc 64) (fx_ml 64) (fx_re 64)) := rfl
set_option maxRecDepth 20000 in
theorem fx_cw65 : lw_tbl[167]? = some (Cond.code (fx_yy 65) (fx_cc 65) (fx_ml 65) (fx_re 65)) := rfl
set_option maxRecDepth 20000 in
theorem fx_cw66 : lw_tbl[200]? = some (Cond.code (fx_yy 66) (fx_cc 66) (fx_ml 66) (fx_re 66)) := rfl
set_option maxRecDepth 20000 in
theorem fx_cw67 : lw_tbl[594]? = some (Cond.code (fx_yy 67) (fx_cc 67) (fx_ml 67) (fx_re 67)) := rfl
set_option maxRecDepth 20000 in
theorem fx_cw68 : lw_tbl[675]? = some (Cond.code (fx_yy 68) (fx_cc 68) (fx_ml 68) (fx_re 68)) := rfl
set_option maxRecDepth 20000 in
theorem fx_cw69 : lw_tbl[1125]? = some (Cond.code (fx_yy 69) (fx_cc 69) (fx_ml 69) (fx_re 69)) := rfl
set_option maxRecDepth 20000 in
theorem fx_cw70 : lw_tbl[1208]? = some (Cond.code (fx_yy 70) (fx_cc 70) (fx_ml 70) (fx_re 70)) := rfl
set_option maxRecDepth 20000 in
theorem fx_cw71 : lw_tbl[1145]? = some (Cond.code (fx_yy 71) (fx_cc 71) (fx_ml 71) (fx_re 71)) := rfl
set_option maxRecDepth 20000 in
theorem fx_cw72 : lw_tbl[1204]? = some (Cond.code (fx_yy 72) (fx_cc 72) (fx_ml 72) (fx_re 72)) := rfl
set_option maxRecDepth 20000 in
theorem fx_cw73 : lw_tbl[1200]? = some (Cond.code (fx_yy 73) (fx_cc 73) (fx_ml 73) (fx_re 73)) := rfl
set_option maxRecDepth 20000 in
theorem fx_cw74 : lw_tbl[1085]? = some (Cond.code (fx_yy 74) (fx_cc 74) (fx_ml 74) (fx_re 74)) := rfl
set_option maxRecDepth 20000 in
theorem fx_cw75 : lw_tbl[1049]? = some (Cond.code (fx_yy 75) (fx_cc 75) (fx_ml 75) (fx_re 75)) := rfl
set_option maxRecDepth 20000 in
theorem fx_cw76 : lw_tbl[1165]? = some (Cond.code (fx_yy 76) (fx_cc 76) (fx_ml 76) (fx_re 76)) := rfl
set_option maxRecDepth 20000 in
theorem fx_cw77 : lw_tbl[874]? = some (Cond.code (fx_yy 77) (fx_cc 77) (fx_ml 77) (fx_re 77)) := rfl
set_option maxRecDepth 20000 in
theorem fx_cw78 : lw_tbl[1196]? = some (Cond.code (fx_yy 78) (fx_cc 78) (fx_ml 78) (fx_re 78)) := rfl
set_option maxRecDepth 20000 in
theorem fx_cw79 : lw_tbl[1061]? = some (Cond.code (fx_yy 79) (fx_cc 79) (fx_ml 79) (fx_re 79)) := rfl
set_option maxRecDepth 20000 in
theorem fx_cw80 : lw_tbl[1109]? = some (Cond.code (fx_yy 80) (fx_cc 80) (fx_ml 80) (fx_re 80)) := rfl
set_option maxRecDepth 20000 in
theorem fx_cw81 : lw_tbl[1188]? = some (Cond.code (fx_yy 81) (fx_cc 81) (fx_ml 81) (fx_re 81)) := rfl
set_option maxRecDepth 20000 in
theorem fx_cw82 : lw_tbl[755]? = some (Cond.code (fx_yy 82) (fx_cc 82) (fx_ml 82) (fx_re 82)) := rfl
set_option maxRecDepth 20000 in
theorem fx_cw83 : lw_tbl[662]? = some (Cond.code (fx_yy 83) (fx_cc 83) (fx_ml 83) (fx_re 83)) := rfl
set_option maxRecDepth 20000 in
theorem fx_cw84 : lw_tbl[652]? = some (Cond.code (fx_yy 84) (fx_cc 84) (fx_ml 84) (fx_re 84)) := rfl
set_option maxRecDepth 20000 in
theorem fx_cw85 : lw_tbl[586]? = some (Cond.code (fx_yy 85) (fx_cc 85) (fx_ml 85) (fx_re 85)) := rfl
set_option maxRecDepth 20000 in
theorem fx_cw86 : lw_tbl[450]? = some (Cond.code (fx_yy 86) (fx_cc 86) (fx_ml 86) (fx_re 86)) := rfl
set_option maxRecDepth 20000 in
theorem fx_cw87 : lw_tbl[602]? = some (Cond.code (fx_yy 87) (fx_cc 87) (fx_ml 87) (fx_re 87)) := rfl
set_option maxRecDepth 20000 in
theorem fx_cw88 : lw_tbl[705]? = some (Cond.code (fx_yy 88) (fx_cc 88) (fx_ml 88) (fx_re 88)) := rfl
set_option maxRecDepth 20000 in
theorem fx_cw89 : lw_tbl[196]? = some (Cond.code (fx_yy 89) (fx_cc 89) (fx_ml 89) (fx_re 89)) := rfl
set_option maxRecDepth 20000 in
theorem fx_cw90 : lw_tbl[545]? = some (Cond.code (fx_yy 90) (fx_cc 90) (fx_ml 90) (fx_re 90)) := rfl
set_option maxRecDepth 20000 in
theorem fx_cw91 : lw_tbl[717]? = some (Cond.code (fx_yy 91) (fx_cc 91) (fx_ml 91) (fx_re 91)) := rfl
set_option maxRecDepth 20000 in
theorem fx_cw92 : lw_tbl[615]? = some (Cond.code (fx_yy 92) (fx_cc 92) (fx_ml 92) (fx_re 92)) := rfl
set_option maxRecDepth 20000 in
theorem fx_cw93 : lw_tbl[273]? = some (Cond.code (fx_yy 93) (fx_cc 93) (fx_ml 93) (fx_re 93)) := rfl
set_option maxRecDepth 20000 in
theorem fx_cw94 : lw_tbl[88]? = some (Cond.code (fx_yy 94) (fx_cc 94) (fx_ml 94) (fx_re 94)) := rfl
set_option maxRecDepth 20000 in
theorem fx_cw95 : lw_tbl[695]? = some (Cond.code (fx_yy 95) (fx_cc 95) (fx_ml 95) (fx_re 95)) := rfl
set_option maxRecDepth 20000 in
theorem fx_cw96 : lw_tbl[240]? = some (Cond.code (fx_yy 96) (fx_cc 96) (fx_ml 96) (fx_re 96)) := rfl
set_option maxRecDepth 20000 in
theorem fx_cw97 : lw_tbl[1081]? = some (Cond.code (fx_yy 97) (fx_cc 97) (fx_ml 97) (fx_re 97)) := rfl
set_option maxRecDepth 20000 in
theorem fx_cw98 : lw_tbl[1117]? = some (Cond.code (fx_yy 98) (fx_cc 98) (fx_ml 98) (fx_re 98)) := rfl
set_option maxRecDepth 20000 in
theorem fx_cw99 : lw_tbl[1041]? = some (Cond.code (fx_yy 99) (fx_cc 99) (fx_ml 99) (fx_re 99)) := rfl
set_option maxRecDepth 20000 in
theorem fx_cw100 : lw_tbl[1093]? = some (Cond.code (fx_yy 100) (fx_cc 100) (fx_ml 100) (fx_re 100)) := rfl
set_option maxRecDepth 20000 in
theorem fx_cw101 : lw_tbl[867]? = some (Cond.code (fx_yy 101) (fx_cc 101) (fx_ml 101) (fx_re 101)) := rfl
set_option maxRecDepth 20000 in
theorem fx_cw102 : lw_tbl[1184]? = some (Cond.code (fx_yy 102) (fx_cc 102) (fx_ml 102) (fx_re 102)) := rfl
set_option maxRecDepth 20000 in
theorem fx_cw103 : lw_tbl[188]? = some (Cond.code (fx_yy 103) (fx_cc 103) (fx_ml 103) (fx_re 103)) := rfl
set_option maxRecDepth 20000 in
theorem fx_cw104 : lw_tbl[639]? = some (Cond.code (fx_yy 104) (fx_cc 104) (fx_ml 104) (fx_re 104)) := rfl
set_option maxRecDepth 20000 in
theorem fx_cw105 : lw_tbl[598]? = some (Cond.code (fx_yy 105) (fx_cc 105) (fx_ml 105) (fx_re 105)) := rfl
set_option maxRecDepth 20000 in
theorem fx_cw106 : lw_tbl[427]? = some (Cond.code (fx_yy 106) (fx_cc 106) (fx_ml 106) (fx_re 106)) := rfl
set_option maxRecDepth 20000 in
theorem fx_cw107 : lw_tbl[582]? = some (Cond.code (fx_yy 107) (fx_cc 107) (fx_ml 107) (fx_re 107)) := rfl
set_option maxRecDepth 20000 in
theorem fx_cw108 : lw_tbl[234]? = some (Cond.code (fx_yy 108) (fx_cc 108) (fx_ml 108) (fx_re 108)) := rfl
set_option maxRecDepth 20000 in
theorem fx_cw109 : lw_tbl[541]? = some (Cond.code (fx_yy 109) (fx_cc 109) (fx_ml 109) (fx_re 109)) := rfl
set_option maxRecDepth 20000 in
theorem fx_cw110 : lw_tbl[700]? = some (Cond.code (fx_yy 110) (fx_cc 110) (fx_ml 110) (fx_re 110)) := rfl
set_option maxRecDepth 20000 in
theorem fx_cw111 : lw_tbl[713]? = some (Cond.code (fx_yy 111) (fx_cc 111) (fx_ml 111) (fx_re 111)) := rfl
set_option maxRecDepth 20000 in
theorem fx_cw112 : lw_tbl[721]? = some (Cond.code (fx_yy 112) (fx_cc 112) (fx_ml 112) (fx_re 112)) := rfl
set_option maxRecDepth 20000 in
theorem fx_cw113 : lw_tbl[861]? = some (Cond.code (fx_yy 113) (fx_cc 113) (fx_ml 113) (fx_re 113)) := rfl
set_option maxRecDepth 20000 in
theorem fx_cw114 : lw_tbl[1073]? = some (Cond.code (fx_yy 114) (fx_cc 114) (fx_ml 114) (fx_re 114)) := rfl
set_option maxRecDepth 20000 in
theorem fx_cw115 : lw_tbl[1157]? = some (Cond.code (fx_yy 115) (fx_cc 115) (fx_ml 115) (fx_re 115)) := rfl
set_option maxRecDepth 20000 in
theorem fx_cw116 : lw_tbl[1177]? = some (Cond.code (fx_yy 116) (fx_cc 116) (fx_ml 116) (fx_re 116)) := rfl
set_option maxRecDepth 20000 in
theorem fx_cw117 : lw_tbl[747]? = some (Cond.code (fx_yy 117) (fx_cc 117) (fx_ml 117) (fx_re 117)) := rfl
set_option maxRecDepth 20000 in
theorem fx_cw118 : lw_tbl[230]? = some (Cond.code (fx_yy 118) (fx_cc 118) (fx_ml 118) (fx_re 118)) := rfl
set_option maxRecDepth 20000 in
theorem fx_cw119 : lw_tbl[468]? = some (Cond.code (fx_yy 119) (fx_cc 119) (fx_ml 119) (fx_re 119)) := rfl
set_option maxRecDepth 20000 in
theorem fx_cw120 : lw_tbl[627]? = some (Cond.code (fx_yy 120) (fx_cc 120) (fx_ml 120) (fx_re 120)) := rfl
set_option maxRecDepth 20000 in
theorem fx_cw121 : lw_tbl[764]? = some (Cond.code (fx_yy 121) (fx_cc 121) (fx_ml 121) (fx_re 121)) := rfl
set_option maxRecDepth 20000 in
theorem fx_cw122 : lw_tbl[709]? = some (Cond.code (fx_yy 122) (fx_cc 122) (fx_ml 122) (fx_re 122)) := rfl
set_option maxRecDepth 20000 in
theorem fx_cw123 : lw_tbl[691]? = some (Cond.code (fx_yy 123) (fx_cc 123) (fx_ml 123) (fx_re 123)) := rfl
set_option maxRecDepth 20000 in
theorem fx_cw124 : lw_tbl[1169]? = some (Cond.code (fx_yy 124) (fx_cc 124) (fx_ml 124) (fx_re 124)) := rfl
set_option maxRecDepth 20000 in
theorem fx_cw125 : lw_tbl[1153]? = some (Cond.code (fx_yy 125) (fx_cc 125) (fx_ml 125) (fx_re 125)) := rfl
set_option maxRecDepth 20000 in
theorem fx_cw126 : lw_tbl[687]? = some (Cond.code (fx_yy 126) (fx_cc 126) (fx_ml 126) (fx_re 126)) := rfl
set_option maxRecDepth 20000 in
theorem fx_cw127 : lw_tbl[611]? = some (Cond.code (fx_yy 127) (fx_cc 127) (fx_ml 127) (fx_re 127)) := rfl
set_option maxRecDepth 20000 in
theorem fx_cw128 : lw_tbl[184]? = some (Cond.code (fx_yy 128) (fx_cc 128) (fx_ml 128) (fx_re 128)) := rfl
set_option maxRecDepth 20000 in
theorem fx_cw129 : lw_tbl[1065]? = some (Cond.code (fx_yy 129) (fx_cc 129) (fx_ml 129) (fx_re 129)) := rfl
set_option maxRecDepth 20000 in
theorem fx_cw130 : lw_tbl[80]? = some (Cond.code (fx_yy 130) (fx_cc 130) (fx_ml 130) (fx_re 130)) := rfl
set_option maxRecDepth 20000 in
theorem fx_cw131 : lw_tbl[578]? = some (Cond.code (fx_yy 131) (fx_cc 131) (fx_ml 131) (fx_re 131)) := rfl
set_option maxRecDepth 20000 in
theorem fx_maxc : lw_tbl[373]? = some (Cond.code Lib.Math.max.name Lib.Math.max.code 2 (some .int)) := by decide +kernel
theorem fx_maxs : fx_wd 372 (.static Lib.Math.max.name) = true := by decide +kernel
theorem fx_maxn : fx_wd 67 (.initialized "java/lang/Math") = true := by decide +kernel
def fx_cwA_0_l : List Nat := [0, 1, 2, 3, 4, 5, 6, 7, 8, 9, 10, 11, 12, 13, 14, 15, 16, 17, 18, 19]
theorem fx_cwA_0 : ∀ q ∈ fx_cwA_0_l, ∃ w : Nat, lw_tbl[w]? = some (Cond.code (fx_yy q) (fx_cc q) (fx_ml q) (fx_re q)) := List.forall_mem_cons.mpr ⟨⟨_, fx_cw0⟩, List.forall_mem_cons.mpr ⟨⟨_, fx_cw1⟩, List.forall_mem_cons.mpr ⟨⟨_, fx_cw2⟩, List.forall_mem_cons.mpr ⟨⟨_, fx_cw3⟩, List.forall_mem_cons.mpr ⟨⟨_, fx_cw4⟩, List.forall_mem_cons.mpr ⟨⟨_, fx_cw5⟩, List.forall_mem_cons.mpr ⟨⟨_, fx_cw6⟩, List.forall_mem_cons.mpr ⟨⟨_, fx_cw7⟩, List.forall_mem_cons.mpr ⟨⟨_, fx_cw8⟩, List.forall_mem_cons.mpr ⟨⟨_, fx_cw9⟩, List.forall_mem_cons.mpr ⟨⟨_, fx_cw10⟩, List.forall_mem_cons.mpr ⟨⟨_, fx_cw11⟩, List.forall_mem_cons.mpr ⟨⟨_, fx_cw12⟩, List.forall_mem_cons.mpr ⟨⟨_, fx_cw13⟩, List.forall_mem_cons.mpr ⟨⟨_, fx_cw14⟩, List.forall_mem_cons.mpr ⟨⟨_, fx_cw15⟩, List.forall_mem_cons.mpr ⟨⟨_, fx_cw16⟩, List.forall_mem_cons.mpr ⟨⟨_, fx_cw17⟩, List.forall_mem_cons.mpr ⟨⟨_, fx_cw18⟩, List.forall_mem_cons.mpr ⟨⟨_, fx_cw19⟩, fun _ h => absurd h List.not_mem_nil⟩⟩⟩⟩⟩⟩⟩⟩⟩⟩⟩⟩⟩⟩⟩⟩⟩⟩⟩⟩
def fx_cwA_1_l : List Nat := [20, 21, 22, 23, 24, 25, 26, 27, 28, 29, 30, 31, 32, 33, 34, 35, 36, 37, 38, 39]
theorem fx_cwA_1 : ∀ q ∈ fx_cwA_1_l, ∃ w : Nat, lw_tbl[w]? = some (Cond.code (fx_yy q) (fx_cc q) (fx_ml q) (fx_re q)) := List.forall_mem_cons.mpr ⟨⟨_, fx_cw20⟩, List.forall_mem_cons.mpr ⟨⟨_, fx_cw21⟩, List.forall_mem_cons.mpr ⟨⟨_, fx_cw22⟩, List.forall_mem_cons.mpr ⟨⟨_, fx_cw23⟩, List.forall_mem_cons.mpr ⟨⟨_, fx_cw24⟩, List.forall_mem_cons.mpr ⟨⟨_, fx_cw25⟩, List.forall_mem_cons.mpr ⟨⟨_, fx_cw26⟩, List.forall_mem_cons.mpr ⟨⟨_, fx_cw27⟩, List.forall_mem_cons.mpr ⟨⟨_, fx_cw28⟩, List.forall_mem_cons.mpr ⟨⟨_, fx_cw29⟩, List.forall_mem_cons.mpr ⟨⟨_, fx_cw30⟩, List.forall_mem_cons.mpr ⟨⟨_, fx_cw31⟩, List.forall_mem_cons.mpr ⟨⟨_, fx_cw32⟩, List.forall_mem_cons.mpr ⟨⟨_, fx_cw33⟩, List.forall_mem_cons.mpr ⟨⟨_, fx_cw34⟩, List.forall_mem_cons.mpr ⟨⟨_, fx_cw35⟩, List.forall_mem_cons.mpr ⟨⟨_, fx_cw36⟩, List.forall_mem_cons.mpr ⟨⟨_, fx_cw37⟩, List.forall_mem_cons.mpr ⟨⟨_, fx_cw38⟩, List.forall_mem_cons.mpr ⟨⟨_, fx_cw39⟩, fun _ h => absurd h List.not_mem_nil⟩⟩⟩⟩⟩⟩⟩⟩⟩⟩⟩⟩⟩⟩⟩⟩⟩⟩⟩⟩
def fx_cwA_2_l : List Nat := [40, 41, 42, 43, 44, 45, 46, 47, 48, 49, 50, 51, 52, 53, 54, 55, 56, 57, 58, 59]
theorem fx_cwA_2 : ∀ q ∈ fx_cwA_2_l, ∃ w : Nat, lw_tbl[w]? = some (Cond.code (fx_yy q) (fx_cc q) (fx_ml q) (fx_re q)) := List.forall_mem_cons.mpr ⟨⟨_, fx_cw40⟩, List.forall_mem_cons.mpr ⟨⟨_, fx_cw41⟩, List.forall_mem_cons.mpr ⟨⟨_, fx_cw42⟩, List.forall_mem_cons.mpr ⟨⟨_, fx_cw43⟩, List.forall_mem_cons.mpr ⟨⟨_, fx_cw44⟩, List.forall_mem_cons.mpr ⟨⟨_, fx_cw45⟩, List.forall_mem_cons.mpr ⟨⟨_, fx_cw46⟩, List.forall_mem_cons.mpr ⟨⟨_, fx_cw47⟩, List.forall_mem_cons.mpr ⟨⟨_, fx_cw48⟩, List.forall_mem_cons.mpr ⟨⟨_, fx_cw49⟩, List.forall_mem_cons.mpr ⟨⟨_, fx_cw50⟩, List.forall_mem_cons.mpr ⟨⟨_, fx_cw51⟩, List.forall_mem_cons.mpr ⟨⟨_, fx_cw52⟩, List.forall_mem_cons.mpr ⟨⟨_, fx_cw53⟩, List.forall_mem_cons.mpr ⟨⟨_, fx_cw54⟩, List.forall_mem_cons.mpr ⟨⟨_, fx_cw55⟩, List.forall_mem_cons.mpr ⟨⟨_, fx_cw56⟩, List.forall_mem_cons.mpr ⟨⟨_, fx_cw57⟩, List.forall_mem_cons.mpr ⟨⟨_, fx_cw58⟩, List.forall_mem_cons.mpr ⟨⟨_, fx_cw59⟩, fun _ h => absurd h List.not_mem_nil⟩⟩⟩⟩⟩⟩⟩⟩⟩⟩⟩⟩⟩⟩⟩⟩⟩⟩⟩⟩
def fx_cwA_3_l : List Nat := [60, 61, 62, 63, 64, 65, 66, 67, 68, 69, 70, 71, 72, 73, 74, 75, 76, 77, 78, 79]
theorem fx_cwA_3 : ∀ q ∈ fx_cwA_3_l, ∃ w : Nat, lw_tbl[w]? = some (Cond.code (fx_yy q) (fx_cc q) (fx_ml q) (fx_re q)) := List.forall_mem_cons.mpr ⟨⟨_, fx_cw60⟩, List.forall_mem_cons.mpr ⟨⟨_, fx_cw61⟩, List.forall_mem_cons.mpr ⟨⟨_, fx_cw62⟩, List.forall_mem_cons.mpr ⟨⟨_, fx_cw63⟩, List.forall_mem_cons.mpr ⟨⟨_, fx_cw64⟩, List.forall_mem_cons.mpr ⟨⟨_, fx_cw65⟩, List.forall_mem_cons.mpr ⟨⟨_, fx_cw66⟩, List.forall_mem_cons.mpr ⟨⟨_, fx_cw67⟩, List.forall_mem_cons.mpr ⟨⟨_, fx_cw68⟩, List.forall_mem_cons.mpr ⟨⟨_, fx_cw69⟩, List.forall_mem_cons.mpr ⟨⟨_, fx_cw70⟩, List.forall_mem_cons.mpr ⟨⟨_, fx_cw71⟩, List.forall_mem_cons.mpr ⟨⟨_, fx_cw72⟩, List.forall_mem_cons.mpr ⟨⟨_, fx_cw73⟩, List.forall_mem_cons.mpr ⟨⟨_, fx_cw74⟩, List.forall_mem_cons.mpr ⟨⟨_, fx_cw75⟩, List.forall_mem_cons.mpr ⟨⟨_, fx_cw76⟩, List.forall_mem_cons.mpr ⟨⟨_, fx_cw77⟩, List.forall_mem_cons.mpr ⟨⟨_, fx_cw78⟩, List.forall_mem_cons.mpr ⟨⟨_, fx_cw79⟩, fun _ h => absurd h List.not_mem_nil⟩⟩⟩⟩⟩⟩⟩⟩⟩⟩⟩⟩⟩⟩⟩⟩⟩⟩⟩⟩
def fx_cwA_4_l : List Nat := [80, 81, 82, 83, 84, 85, 86, 87, 88, 89, 90, 91, 92, 93, 94, 95, 96, 97, 98, 99]
theorem fx_cwA_4 : ∀ q ∈ fx_cwA_4_l, ∃ w : Nat, lw_tbl[w]? = some (Cond.code (fx_yy q) (fx_cc q) (fx_ml q) (fx_re q)) := List.forall_mem_cons.mpr ⟨⟨_, fx_cw80⟩, List.forall_mem_cons.mpr ⟨⟨_, fx_cw81⟩, List.forall_mem_cons.mpr ⟨⟨_, fx_cw82⟩, List.forall_mem_cons.mpr ⟨⟨_, fx_cw83⟩, List.forall_mem_cons.mpr ⟨⟨_, fx_cw84⟩, List.forall_mem_cons.mpr ⟨⟨_, fx_cw85⟩, List.forall_mem_cons.mpr ⟨⟨_, fx_cw86⟩, List.forall_mem_cons.mpr ⟨⟨_, fx_cw87⟩, List.forall_mem_cons.mpr ⟨⟨_, fx_cw88⟩, List.forall_mem_cons.mpr ⟨⟨_, fx_cw89⟩, List.forall_mem_cons.mpr ⟨⟨_, fx_cw90⟩, List.forall_mem_cons.mpr ⟨⟨_, fx_cw91⟩, List.forall_mem_cons.mpr ⟨⟨_, fx_cw92⟩, List.forall_mem_cons.mpr ⟨⟨_, fx_cw93⟩, List.forall_mem_cons.mpr ⟨⟨_, fx_cw94⟩, List.forall_mem_cons.mpr ⟨⟨_, fx_cw95⟩, List.forall_mem_cons.mpr ⟨⟨_, fx_cw96⟩, List.forall_mem_cons.mpr ⟨⟨_, fx_cw97⟩, List.forall_mem_cons.mpr ⟨⟨_, fx_cw98⟩, List.forall_mem_cons.mpr ⟨⟨_, fx_cw99⟩, fun _ h => absurd h List.not_mem_nil⟩⟩⟩⟩⟩⟩⟩⟩⟩⟩⟩⟩⟩⟩⟩⟩⟩⟩⟩⟩
def fx_cwA_5_l : List Nat := [100, 101, 102, 103, 104, 105, 106, 107, 108, 109, 110, 111, 112, 113, 114, 115, 116, 117, 118, 119]
theorem fx_cwA_5 : ∀ q ∈ fx_cwA_5_l, ∃ w : Nat, lw_tbl[w]? = some (Cond.code (fx_yy q) (fx_cc q) (fx_ml q) (fx_re q)) := List.forall_mem_cons.mpr ⟨⟨_, fx_cw100⟩, List.forall_mem_cons.mpr ⟨⟨_, fx_cw101⟩, List.forall_mem_cons.mpr ⟨⟨_, fx_cw102⟩, List.forall_mem_cons.mpr ⟨⟨_, fx_cw103⟩, List.forall_mem_cons.mpr ⟨⟨_, fx_cw104⟩, List.forall_mem_cons.mpr ⟨⟨_, fx_cw105⟩, List.forall_mem_cons.mpr ⟨⟨_, fx_cw106⟩, List.forall_mem_cons.mpr ⟨⟨_, fx_cw107⟩, List.forall_mem_cons.mpr ⟨⟨_, fx_cw108⟩, List.forall_mem_cons.mpr ⟨⟨_, fx_cw109⟩, List.forall_mem_cons.mpr ⟨⟨_, fx_cw110⟩, List.forall_mem_cons.mpr ⟨⟨_, fx_cw111⟩, List.forall_mem_cons.mpr ⟨⟨_, fx_cw112⟩, List.forall_mem_cons.mpr ⟨⟨_, fx_cw113⟩, List.forall_mem_cons.mpr ⟨⟨_, fx_cw114⟩, List.forall_mem_cons.mpr ⟨⟨_, fx_cw115⟩, List.forall_mem_cons.mpr ⟨⟨_, fx_cw116⟩, List.forall_mem_cons.mpr ⟨⟨_, fx_cw117⟩, List.forall_mem_cons.mpr ⟨⟨_, fx_cw118⟩, List.forall_mem_cons.mpr ⟨⟨_, fx_cw119⟩, fun _ h => absurd h List.not_mem_nil⟩⟩⟩⟩⟩⟩⟩⟩⟩⟩⟩⟩⟩⟩⟩⟩⟩⟩⟩⟩
def fx_cwA_6_l : List Nat := [120, 121, 122, 123, 124, 125, 126, 127, 128, 129, 130, 131]
theorem fx_cwA_6 : ∀ q ∈ fx_cwA_6_l, ∃ w : Nat, lw_tbl[w]? = some (Cond.code (fx_yy q) (fx_cc q) (fx_ml q) (fx_re q)) := List.forall_mem_cons.mpr ⟨⟨_, fx_cw120⟩, List.forall_mem_cons.mpr ⟨⟨_, fx_cw121⟩, List.forall_mem_cons.mpr ⟨⟨_, fx_cw122⟩, List.forall_mem_cons.mpr ⟨⟨_, fx_cw123⟩, List.forall_mem_cons.mpr ⟨⟨_, fx_cw124⟩, List.forall_mem_cons.mpr ⟨⟨_, fx_cw125⟩, List.forall_mem_cons.mpr ⟨⟨_, fx_cw126⟩, List.forall_mem_cons.mpr ⟨⟨_, fx_cw127⟩, List.forall_mem_cons.mpr ⟨⟨_, fx_cw128⟩, List.forall_mem_cons.mpr ⟨⟨_, fx_cw129⟩, List.forall_mem_cons.mpr ⟨⟨_, fx_cw130⟩, List.forall_mem_cons.mpr ⟨⟨_, fx_cw131⟩, fun _ h => absurd h List.not_mem_nil⟩⟩⟩⟩⟩⟩⟩⟩⟩⟩⟩⟩
theorem fx_cwA : ∀ q ∈ fx_cwA_0_l ++ (fx_cwA_1_l ++ (fx_cwA_2_l ++ (fx_cwA_3_l ++ (fx_cwA_4_l ++ (fx_cwA_5_l ++ (fx_cwA_6_l)))))), ∃ w : Nat, lw_tbl[w]? = some (Cond.code (fx_yy q) (fx_cc q) (fx_ml q) (fx_re q)) := by
  intro q hq
  rcases List.mem_append.mp hq with hq | hq
  · exact fx_cwA_0 q hq
  rcases List.mem_append.mp hq with hq | hq
  · exact fx_cwA_1 q hq
  rcases List.mem_append.mp hq with hq | hq
  · exact fx_cwA_2 q hq
  rcases List.mem_append.mp hq with hq | hq
  · exact fx_cwA_3 q hq
  rcases List.mem_append.mp hq with hq | hq
  · exact fx_cwA_4 q hq
  rcases List.mem_append.mp hq with hq | hq
  · exact fx_cwA_5 q hq
  exact fx_cwA_6 q hq
theorem fx_cwR : List.range 132 = fx_cwA_0_l ++ (fx_cwA_1_l ++ (fx_cwA_2_l ++ (fx_cwA_3_l ++ (fx_cwA_4_l ++ (fx_cwA_5_l ++ (fx_cwA_6_l)))))) := by decide +kernel
theorem fx_k2 (w : Cond) (h : k2_isCode w = true) : goodWord w = true := by
  cases w <;> first | rfl | cases h
theorem fx_cwIn {mi : Nat} (h : mi < 132) : Cond.code (fx_yy mi) (fx_cc mi) (fx_ml mi) (fx_re mi) ∈ lw_tbl := by
  obtain ⟨w, hw⟩ := fx_cwA mi (by rw [← fx_cwR]; exact List.mem_range.mpr h)
  exact List.mem_of_getElem? hw
theorem fx_okMs : (List.range 132).all fx_okM = true := by decide +kernel
def fx_tL : List (Nat → FieldType) := [fx_t0, fx_t1, fx_t2, fx_t3, fx_t4, fx_t5, fx_t6, fx_t7, fx_t8, fx_t9, fx_t10, fx_t11, fx_t12]
def fx_ty (ci : Nat) : Nat → FieldType := fx_tL.getD ci fx_t0
def fx_isRT (t : FieldType) : Bool := match t with
  | .object _ => true
  | .array _ => true
  | _ => false
def fx_okF (ci : Nat) (r : vw_C) : Bool := ((List.range r.2.2).all fun k => decide (parseFieldDescriptor (r.2.1 k).2.2.1 = some (fx_ty ci k)) && decide ((r.2.1 k).1 = r.1) && (match fx_ft (64 * ci + k) with
    | 0 => decide (fx_ty ci k = .int)
    | 1 => decide (fx_ty ci k = .boolean)
    | _ => fx_isRT (fx_ty ci k))) && ((List.range r.2.2).all fun k => fx_wd ((fx_wl.getD ci []).getD k 0) (u_lay r.1 r.2.1 k)) && fx_wd (fx_wci.getD ci 0) (.initialized r.1) && fx_wd (fx_wcn.getD ci 0) (.instantiable r.1 r.2.2) && Nat.blt r.2.2 64
def fx_okD (r : vw_C) : Bool := (List.range r.2.2).all fun a => (List.range r.2.2).all fun b => a == b || !((r.2.1 a).2.1 == (r.2.1 b).2.1)
theorem fx_okFs : fx_cl.zipIdx.all (fun q => fx_okF q.2 q.1) = true := by decide +kernel
theorem fx_okDs : fx_cl.all fx_okD = true := by decide +kernel
theorem fx_obj_i : fx_wd fx_wo.1 (.instanceMethod Lib.objectInit) = true := by decide +kernel
theorem fx_obj_c : fx_wd fx_wo.2 (.code Lib.objectInit ⟨#[0xb1]⟩ 1 none) = true := by decide +kernel

def fx_okA_0_l : List (List fx_E × Nat) := [(fx_c0, 0), (fx_c1, 1), (fx_c2, 2), (fx_c3, 3), (fx_c4, 4), (fx_c5, 5), (fx_c6, 6), (fx_c7, 7), (fx_c8, 8), (fx_c9, 9), (fx_c10, 10), (fx_c11, 11), (fx_c12, 12), (fx_c13, 13), (fx_c14, 14), (fx_c15, 15), (fx_c16, 16), (fx_c17, 17), (fx_c18, 18), (fx_c19, 19)]
theorem fx_okA_0 : ∀ q ∈ fx_okA_0_l, q.1.all (fx_okE q.2) = true := List.forall_mem_cons.mpr ⟨fx_ok0, List.forall_mem_cons.mpr ⟨fx_ok1, List.forall_mem_cons.mpr ⟨fx_ok2, List.forall_mem_cons.mpr ⟨fx_ok3, List.forall_mem_cons.mpr ⟨fx_ok4, List.forall_mem_cons.mpr ⟨fx_ok5, List.forall_mem_cons.mpr ⟨fx_ok6, List.forall_mem_cons.mpr ⟨fx_ok7, List.forall_mem_cons.mpr ⟨fx_ok8, List.forall_mem_cons.mpr ⟨fx_ok9, List.forall_mem_cons.mpr ⟨fx_ok10, List.forall_mem_cons.mpr ⟨fx_ok11, List.forall_mem_cons.mpr ⟨fx_ok12, List.forall_mem_cons.mpr ⟨fx_ok13, List.forall_mem_cons.mpr ⟨fx_ok14, List.forall_mem_cons.mpr ⟨fx_ok15, List.forall_mem_cons.mpr ⟨fx_ok16, List.forall_mem_cons.mpr ⟨fx_ok17, List.forall_mem_cons.mpr ⟨fx_ok18, List.forall_mem_cons.mpr ⟨fx_ok19, fun _ h => absurd h List.not_mem_nil⟩⟩⟩⟩⟩⟩⟩⟩⟩⟩⟩⟩⟩⟩⟩⟩⟩⟩⟩⟩
def fx_okA_1_l : List (List fx_E × Nat) := [(fx_c20, 20), (fx_c21, 21), (fx_c22, 22), (fx_c23, 23), (fx_c24, 24), (fx_c25, 25), (fx_c26, 26), (fx_c27, 27), (fx_c28, 28), (fx_c29, 29), (fx_c30, 30), (fx_c31, 31), (fx_c32, 32), (fx_c33, 33), (fx_c34, 34), (fx_c35, 35), (fx_c36, 36), (fx_c37, 37), (fx_c38, 38), (fx_c39, 39)]
theorem fx_okA_1 : ∀ q ∈ fx_okA_1_l, q.1.all (fx_okE q.2) = true := List.forall_mem_cons.mpr ⟨fx_ok20, List.forall_mem_cons.mpr ⟨fx_ok21, List.forall_mem_cons.mpr ⟨fx_ok22, List.forall_mem_cons.mpr ⟨fx_ok23, List.forall_mem_cons.mpr ⟨fx_ok24, List.forall_mem_cons.mpr ⟨fx_ok25, List.forall_mem_cons.mpr ⟨fx_ok26, List.forall_mem_cons.mpr ⟨fx_ok27, List.forall_mem_cons.mpr ⟨fx_ok28, List.forall_mem_cons.mpr ⟨fx_ok29, List.forall_mem_cons.mpr ⟨fx_ok30, List.forall_mem_cons.mpr ⟨fx_ok31, List.forall_mem_cons.mpr ⟨fx_ok32, List.forall_mem_cons.mpr ⟨fx_ok33, List.forall_mem_cons.mpr ⟨fx_ok34, List.forall_mem_cons.mpr ⟨fx_ok35, List.forall_mem_cons.mpr ⟨fx_ok36, List.forall_mem_cons.mpr ⟨fx_ok37, List.forall_mem_cons.mpr ⟨fx_ok38, List.forall_mem_cons.mpr ⟨fx_ok39, fun _ h => absurd h List.not_mem_nil⟩⟩⟩⟩⟩⟩⟩⟩⟩⟩⟩⟩⟩⟩⟩⟩⟩⟩⟩⟩
def fx_okA_2_l : List (List fx_E × Nat) := [(fx_c40, 40), (fx_c41, 41), (fx_c42, 42), (fx_c43, 43), (fx_c44, 44), (fx_c45, 45), (fx_c46, 46), (fx_c47, 47), (fx_c48, 48), (fx_c49, 49), (fx_c50, 50), (fx_c51, 51), (fx_c52, 52), (fx_c53, 53), (fx_c54, 54), (fx_c55, 55), (fx_c56, 56), (fx_c57, 57), (fx_c58, 58), (fx_c59, 59)]
theorem fx_okA_2 : ∀ q ∈ fx_okA_2_l, q.1.all (fx_okE q.2) = true := List.forall_mem_cons.mpr ⟨fx_ok40, List.forall_mem_cons.mpr ⟨fx_ok41, List.forall_mem_cons.mpr ⟨fx_ok42, List.forall_mem_cons.mpr ⟨fx_ok43, List.forall_mem_cons.mpr ⟨fx_ok44, List.forall_mem_cons.mpr ⟨fx_ok45, List.forall_mem_cons.mpr ⟨fx_ok46, List.forall_mem_cons.mpr ⟨fx_ok47, List.forall_mem_cons.mpr ⟨fx_ok48, List.forall_mem_cons.mpr ⟨fx_ok49, List.forall_mem_cons.mpr ⟨fx_ok50, List.forall_mem_cons.mpr ⟨fx_ok51, List.forall_mem_cons.mpr ⟨fx_ok52, List.forall_mem_cons.mpr ⟨fx_ok53, List.forall_mem_cons.mpr ⟨fx_ok54, List.forall_mem_cons.mpr ⟨fx_ok55, List.forall_mem_cons.mpr ⟨fx_ok56, List.forall_mem_cons.mpr ⟨fx_ok57, List.forall_mem_cons.mpr ⟨fx_ok58, List.forall_mem_cons.mpr ⟨fx_ok59, fun _ h => absurd h List.not_mem_nil⟩⟩⟩⟩⟩⟩⟩⟩⟩⟩⟩⟩⟩⟩⟩⟩⟩⟩⟩⟩
def fx_okA_3_l : List (List fx_E × Nat) := [(fx_c60, 60), (fx_c61, 61), (fx_c62, 62), (fx_c63, 63), (fx_c64, 64), (fx_c65, 65), (fx_c66, 66), (fx_c67, 67), (fx_c68, 68), (fx_c69, 69), (fx_c70, 70), (fx_c71, 71), (fx_c72, 72), (fx_c73, 73), (fx_c74, 74), (fx_c75, 75), (fx_c76, 76), (fx_c77, 77), (fx_c78, 78), (fx_c79, 79)]
theorem fx_okA_3 : ∀ q ∈ fx_okA_3_l, q.1.all (fx_okE q.2) = true := List.forall_mem_cons.mpr ⟨fx_ok60, List.forall_mem_cons.mpr ⟨fx_ok61, List.forall_mem_cons.mpr ⟨fx_ok62, List.forall_mem_cons.mpr ⟨fx_ok63, List.forall_mem_cons.mpr ⟨fx_ok64, List.forall_mem_cons.mpr ⟨fx_ok65, List.forall_mem_cons.mpr ⟨fx_ok66, List.forall_mem_cons.mpr ⟨fx_ok67, List.forall_mem_cons.mpr ⟨fx_ok68, List.forall_mem_cons.mpr ⟨fx_ok69, List.forall_mem_cons.mpr ⟨fx_ok70, List.forall_mem_cons.mpr ⟨fx_ok71, List.forall_mem_cons.mpr ⟨fx_ok72, List.forall_mem_cons.mpr ⟨fx_ok73, List.forall_mem_cons.mpr ⟨fx_ok74, List.forall_mem_cons.mpr ⟨fx_ok75, List.forall_mem_cons.mpr ⟨fx_ok76, List.forall_mem_cons.mpr ⟨fx_ok77, List.forall_mem_cons.mpr ⟨fx_ok78, List.forall_mem_cons.mpr ⟨fx_ok79, fun _ h => absurd h List.not_mem_nil⟩⟩⟩⟩⟩⟩⟩⟩⟩⟩⟩⟩⟩⟩⟩⟩⟩⟩⟩⟩
def fx_okA_4_l : List (List fx_E × Nat) := [(fx_c80, 80), (fx_c81, 81), (fx_c82, 82), (fx_c83, 83), (fx_c84, 84), (fx_c85, 85), (fx_c86, 86), (fx_c87, 87), (fx_c88, 88), (fx_c89, 89), (fx_c90, 90), (fx_c91, 91), (fx_c92, 92), (fx_c93, 93), (fx_c94, 94), (fx_c95, 95), (fx_c96, 96), (fx_c97, 97), (fx_c98, 98), (fx_c99, 99)]
theorem fx_okA_4 : ∀ q ∈ fx_okA_4_l, q.1.all (fx_okE q.2) = true := List.forall_mem_cons.mpr ⟨fx_ok80, List.forall_mem_cons.mpr ⟨fx_ok81, List.forall_mem_cons.mpr ⟨fx_ok82, List.forall_mem_cons.mpr ⟨fx_ok83, List.forall_mem_cons.mpr ⟨fx_ok84, List.forall_mem_cons.mpr ⟨fx_ok85, List.forall_mem_cons.mpr ⟨fx_ok86, List.forall_mem_cons.mpr ⟨fx_ok87, List.forall_mem_cons.mpr ⟨fx_ok88, List.forall_mem_cons.mpr ⟨fx_ok89, List.forall_mem_cons.mpr ⟨fx_ok90, List.forall_mem_cons.mpr ⟨fx_ok91, List.forall_mem_cons.mpr ⟨fx_ok92, List.forall_mem_cons.mpr ⟨fx_ok93, List.forall_mem_cons.mpr ⟨fx_ok94, List.forall_mem_cons.mpr ⟨fx_ok95, List.forall_mem_cons.mpr ⟨fx_ok96, List.forall_mem_cons.mpr ⟨fx_ok97, List.forall_mem_cons.mpr ⟨fx_ok98, List.forall_mem_cons.mpr ⟨fx_ok99, fun _ h => absurd h List.not_mem_nil⟩⟩⟩⟩⟩⟩⟩⟩⟩⟩⟩⟩⟩⟩⟩⟩⟩⟩⟩⟩
def fx_okA_5_l : List (List fx_E × Nat) := [(fx_c100, 100), (fx_c101, 101), (fx_c102, 102), (fx_c103, 103), (fx_c104, 104), (fx_c105, 105), (fx_c106, 106), (fx_c107, 107), (fx_c108, 108), (fx_c109, 109), (fx_c110, 110), (fx_c111, 111), (fx_c112, 112), (fx_c113, 113), (fx_c114, 114), (fx_c115, 115), (fx_c116, 116), (fx_c117, 117), (fx_c118, 118), (fx_c119, 119)]
theorem fx_okA_5 : ∀ q ∈ fx_okA_5_l, q.1.all (fx_okE q.2) = true := List.forall_mem_cons.mpr ⟨fx_ok100, List.forall_mem_cons.mpr ⟨fx_ok101, List.forall_mem_cons.mpr ⟨fx_ok102, List.forall_mem_cons.mpr ⟨fx_ok103, List.forall_mem_cons.mpr ⟨fx_ok104, List.forall_mem_cons.mpr ⟨fx_ok105, List.forall_mem_cons.mpr ⟨fx_ok106, List.forall_mem_cons.mpr ⟨fx_ok107, List.forall_mem_cons.mpr ⟨fx_ok108, List.forall_mem_cons.mpr ⟨fx_ok109, List.forall_mem_cons.mpr ⟨fx_ok110, List.forall_mem_cons.mpr ⟨fx_ok111, List.forall_mem_cons.mpr ⟨fx_ok112, List.forall_mem_cons.mpr ⟨fx_ok113, List.forall_mem_cons.mpr ⟨fx_ok114, List.forall_mem_cons.mpr ⟨fx_ok115, List.forall_mem_cons.mpr ⟨fx_ok116, List.forall_mem_cons.mpr ⟨fx_ok117, List.forall_mem_cons.mpr ⟨fx_ok118, List.forall_mem_cons.mpr ⟨fx_ok119, fun _ h => absurd h List.not_mem_nil⟩⟩⟩⟩⟩⟩⟩⟩⟩⟩⟩⟩⟩⟩⟩⟩⟩⟩⟩⟩
def fx_okA_6_l : List (List fx_E × Nat) := [(fx_c120, 120), (fx_c121, 121), (fx_c122, 122), (fx_c123, 123), (fx_c124, 124), (fx_c125, 125), (fx_c126, 126), (fx_c127, 127), (fx_c128, 128), (fx_c129, 129), (fx_c130, 130), (fx_c131, 131), (fx_c132, 132), (fx_c133, 133)]
theorem fx_okA_6 : ∀ q ∈ fx_okA_6_l, q.1.all (fx_okE q.2) = true := List.forall_mem_cons.mpr ⟨fx_ok120, List.forall_mem_cons.mpr ⟨fx_ok121, List.forall_mem_cons.mpr ⟨fx_ok122, List.forall_mem_cons.mpr ⟨fx_ok123, List.forall_mem_cons.mpr ⟨fx_ok124, List.forall_mem_cons.mpr ⟨fx_ok125, List.forall_mem_cons.mpr ⟨fx_ok126, List.forall_mem_cons.mpr ⟨fx_ok127, List.forall_mem_cons.mpr ⟨fx_ok128, List.forall_mem_cons.mpr ⟨fx_ok129, List.forall_mem_cons.mpr ⟨fx_ok130, List.forall_mem_cons.mpr ⟨fx_ok131, List.forall_mem_cons.mpr ⟨fx_ok132, List.forall_mem_cons.mpr ⟨fx_ok133, fun _ h => absurd h List.not_mem_nil⟩⟩⟩⟩⟩⟩⟩⟩⟩⟩⟩⟩⟩⟩
theorem fx_okA : ∀ q ∈ fx_okA_0_l ++ (fx_okA_1_l ++ (fx_okA_2_l ++ (fx_okA_3_l ++ (fx_okA_4_l ++ (fx_okA_5_l ++ (fx_okA_6_l)))))), q.1.all (fx_okE q.2) = true := by
  intro q hq
  rcases List.mem_append.mp hq with hq | hq
  · exact fx_okA_0 q hq
  rcases List.mem_append.mp hq with hq | hq
  · exact fx_okA_1 q hq
  rcases List.mem_append.mp hq with hq | hq
  · exact fx_okA_2 q hq
  rcases List.mem_append.mp hq with hq | hq
  · exact fx_okA_3 q hq
  rcases List.mem_append.mp hq with hq | hq
  · exact fx_okA_4 q hq
  rcases List.mem_append.mp hq with hq | hq
  · exact fx_okA_5 q hq
  exact fx_okA_6 q hq
set_option maxRecDepth 20000 in
theorem fx_okR : fx_cs.zipIdx = fx_okA_0_l ++ (fx_okA_1_l ++ (fx_okA_2_l ++ (fx_okA_3_l ++ (fx_okA_4_l ++ (fx_okA_5_l ++ (fx_okA_6_l)))))) := rfl
theorem fx_oks : fx_cs.zipIdx.all (fun q => q.1.all (fx_okE q.2)) = true := by
  rw [List.all_eq_true, fx_okR]
  exact fx_okA
end
section
/-- the good words -/
def fx_T1 : List Cond := lw_tbl.filter goodWord
theorem fx_wd_in {w : Nat} {c : Cond} (h : fx_wd w c = true) : c ∈ fx_T1 := by
  simp only [fx_wd, Bool.and_eq_true, decide_eq_true_eq] at h
  exact List.mem_filter.mpr ⟨List.mem_of_getElem? h.1, h.2⟩
theorem fx_T1_good {c : Cond} (h : c ∈ fx_T1) : c ∈ lw_tbl ∧ goodWord c = true := List.mem_filter.mp h
theorem fx_look_mem {pc : Nat} {i : fx_I} : ∀ (l : List fx_E), fx_look pc l = some i → ∃ w, (pc, i, w) ∈ l
  | [], h => by simp [fx_look] at h
  | (q, j, w) :: l, h => by
    simp only [fx_look] at h
    by_cases e : q = pc
    · subst e
      simp at h
      subst h
      exact ⟨w, List.mem_cons_self⟩
    · have e' : (q == pc) = false := by simpa using e
      rw [e'] at h
      obtain ⟨w', hw⟩ := fx_look_mem l h
      exact ⟨w', List.mem_cons_of_mem _ hw⟩
/-- what the checks say of an instruction -/
theorem fx_entry {mi pc : Nat} {i : fx_I} (h : fx_tab mi pc = some i) : ∃ w, fx_okE mi (pc, i, w) = true ∧ fx_kindE (pc, i, w) = true ∧ fx_exE mi (pc, i, w) = true := by
  obtain ⟨w, hw⟩ := fx_look_mem _ h
  refine ⟨w, ?_⟩
  unfold fx_code at hw
  rw [List.getD_eq_getElem?_getD] at hw
  cases hc : fx_cs[mi]? with
  | none => rw [hc] at hw; simp at hw
  | some l =>
    rw [hc] at hw
    have hl : l ∈ fx_cs := List.mem_of_getElem? hc
    have hz : (l, mi) ∈ fx_cs.zipIdx := by
      rw [List.mem_iff_getElem?]
      exact ⟨mi, by rw [List.getElem?_zipIdx, hc]; simp⟩
    refine ⟨List.all_eq_true.mp (List.all_eq_true.mp fx_oks _ hz) _ hw, List.all_eq_true.mp (List.all_eq_true.mp fx_kinds _ hl) _ hw, List.all_eq_true.mp (List.all_eq_true.mp fx_exs _ hz) _ hw⟩
theorem fx_meth {mi : Nat} (h : mi < 132) : fx_okM mi = true := List.all_eq_true.mp fx_okMs _ (List.mem_range.mpr h)
theorem fx_clsF {ci : Nat} {r : vw_C} (h : fx_cl[ci]? = some r) : fx_okF ci r = true := by
  have hz : (r, ci) ∈ fx_cl.zipIdx := by
    rw [List.mem_iff_getElem?]
    exact ⟨ci, by rw [List.getElem?_zipIdx, h]; simp⟩
  exact List.all_eq_true.mp fx_okFs _ hz
theorem fx_over {ci : Nat} {r : vw_C} (h : fx_ia (40 + ci) = true) (hr : fx_cl[ci]? = some r) : Cond.arrayOver (.object r.1) ∈ lw_tbl := by
  simp only [fx_ia, Bool.or_eq_true, beq_iff_eq] at h
  rcases (show ci = 1 ∨ ci = 2 ∨ ci = 4 ∨ ci = 5 ∨ ci = 6 by omega) with h | h | h | h | h <;> subst h <;> cases hr
  · exact List.mem_of_getElem? (i := 301) (by decide +kernel)
  · exact List.mem_of_getElem? (i := 91) (by decide +kernel)
  · exact List.mem_of_getElem? (i := 162) (by decide +kernel)
  · exact List.mem_of_getElem? (i := 245) (by decide +kernel)
  · exact List.mem_of_getElem? (i := 300) (by decide +kernel)
theorem fx_clsD {ci : Nat} {r : vw_C} (h : fx_cl[ci]? = some r) : fx_okD r = true := List.all_eq_true.mp fx_okDs _ (List.mem_of_getElem? h)
end
section
/-! THE HEAP OF THE MACHINE HOLDS THE PURE HEAP -/
def fx_fv (s : fx_S) (f a : Nat) : Value := bif Nat.ble (fx_ft f) 1 then .int (fx_fi s f a) else va_rf (fx_fr s f a)
def fx_cellok (D : va_G) (dA : Nat → ClassId) (scr : Cell) (s : fx_S) (H : Heap) (a : Nat) : Prop :=
  (∀ ci r, fx_kd s a = 10 + ci → fx_cl[ci]? = some r → t_OB a (D.1 ci) r.2.2 (D.2 ci) H (fun k => fx_fv s (64 * ci + k) a)) ∧
  (fx_kd s a = 70 → H[a]? = some (arrV (dA 70) (fx_ln s a) (fun j => .int (fx_ai s a j)))) ∧
  (fx_kd s a = 71 → H[a]? = some (arrV (dA 71) (fx_ln s a) (fun j => .int (fx_ai s a j)))) ∧
  (fx_kd s a = 72 → H[a]? = some (arrV (dA 72) (fx_ln s a) (fun j => .long (fx_al s a j)))) ∧
  (fx_ia (fx_kd s a) = true → H[a]? = some (arrV (dA (fx_kd s a)) (fx_ln s a) (fun j => va_rf (fx_ar s a j)))) ∧
  (fx_kd s a = 73 → H[a]? = some scr ∧ scr.vm ≠ .unknown ∧ scr.slots.size = fx_ln s a ∧ ∀ j, j < fx_ln s a → scr.slots[j]? = some (.int (fx_ai s a j)))
def fx_rep (D : va_G) (dA : Nat → ClassId) (scr : Cell) (sz0 : Nat) (s : fx_S) (H : Heap) : Prop :=
  H.size = fx_nx s ∧ sz0 ≤ fx_nx s ∧ (∀ a, fx_kd s a ≠ 0 → fx_kd s a ≠ 73 → sz0 ≤ a) ∧ ∀ a, fx_cellok D dA scr s H a
section
variable {D : va_G} {dA : Nat → ClassId} {scr : Cell} {sz0 : Nat} {s s1 : fx_S} {H H1 : Heap} {a : Nat}
theorem fx_fv_cong {f : Nat} (hfi : ∀ g, fx_fi s1 g a = fx_fi s g a) (hfr : ∀ g, fx_fr s1 g a = fx_fr s g a) : fx_fv s1 f a = fx_fv s f a := by
  unfold fx_fv
  rw [hfi, hfr]
theorem fx_cellok.cong (h : fx_cellok D dA scr s H a) (hk : fx_kd s1 a = fx_kd s a) (hfi : ∀ g, fx_fi s1 g a = fx_fi s g a) (hfr : ∀ g, fx_fr s1 g a = fx_fr s g a) (hln : fx_ln s1 a = fx_ln s a) (hai : fx_ai s1 a = fx_ai s a) (har : fx_ar s1 a = fx_ar s a) (hal : fx_al s1 a = fx_al s a) (hH : H1[a]? = H[a]?) : fx_cellok D dA scr s1 H1 a := by
  obtain ⟨h1, h2, h3, h4, h5, h6⟩ := h
  refine ⟨fun ci r g1 g2 => ?_, fun g => ?_, fun g => ?_, fun g => ?_, fun g => ?_, fun g => ?_⟩
  · exact ((h1 ci r (hk ▸ g1) g2).kept hH).to (fun k _ => (fx_fv_cong hfi hfr).symm)
  · rw [hH, hln, hai]; exact h2 (hk ▸ g)
  · rw [hH, hln, hai]; exact h3 (hk ▸ g)
  · rw [hH, hln, hal]; exact h4 (hk ▸ g)
  · rw [hH, hln, har, hk]; exact h5 (hk ▸ g)
  · rw [hH, hln, hai]; exact h6 (hk ▸ g)
theorem fx_rep.upd (h : fx_rep D dA scr sz0 s H) (hz : H1.size = H.size) (ho : ∀ q, q ≠ a → H1[q]? = H[q]?) (hk : fx_kd s1 = fx_kd s) (hn : fx_nx s1 = fx_nx s)
    (hoff : ∀ b, b ≠ a → (∀ g, fx_fi s1 g b = fx_fi s g b) ∧ (∀ g, fx_fr s1 g b = fx_fr s g b) ∧ fx_ln s1 b = fx_ln s b ∧ fx_ai s1 b = fx_ai s b ∧ fx_ar s1 b = fx_ar s b ∧ fx_al s1 b = fx_al s b)
    (ha : fx_cellok D dA scr s1 H1 a) : fx_rep D dA scr sz0 s1 H1 := by
  obtain ⟨h1, h2, h3, h4⟩ := h
  refine ⟨by rw [hz, hn, h1], by rw [hn]; exact h2, fun b => by rw [hk]; exact h3 b, fun b => ?_⟩
  by_cases e : b = a
  · rw [e]; exact ha
  · obtain ⟨g1, g2, g3, g4, g5, g6⟩ := hoff b e
    exact (h4 b).cong (by rw [hk]) g1 g2 g3 g4 g5 g6 (ho b e)
theorem fx_rep.push {tag : Nat} (h : fx_rep D dA scr sz0 s H) (hz : H1.size = H.size + 1) (ho : ∀ q, q < H.size → H1[q]? = H[q]?) (hk : fx_kd s1 = fx_at (fx_kd s) (fx_nx s) tag) (hn : fx_nx s1 = fx_nx s + 1) (hfr : fx_fresh s)
    (hoff : ∀ b, b ≠ fx_nx s → (∀ g, fx_fi s1 g b = fx_fi s g b) ∧ (∀ g, fx_fr s1 g b = fx_fr s g b) ∧ fx_ln s1 b = fx_ln s b ∧ fx_ai s1 b = fx_ai s b ∧ fx_ar s1 b = fx_ar s b ∧ fx_al s1 b = fx_al s b)
    (ha : fx_cellok D dA scr s1 H1 (fx_nx s)) : fx_rep D dA scr sz0 s1 H1 := by
  obtain ⟨h1, h2, h3, h4⟩ := h
  refine ⟨by rw [hz, hn, h1], by rw [hn]; omega, fun b => ?_, fun b => ?_⟩
  · rw [hk]
    by_cases e : b = fx_nx s
    · intro _ _; omega
    · simp only [fx_at, e, if_false]; exact h3 b
  · by_cases e : b = fx_nx s
    · rw [e]; exact ha
    · obtain ⟨g1, g2, g3, g4, g5, g6⟩ := hoff b e
      rcases Nat.lt_or_ge b (fx_nx s) with q | q
      · exact (h4 b).cong (by rw [hk]; simp [fx_at, e]) g1 g2 g3 g4 g5 g6 (ho b (by omega))
      · have k0 : fx_kd s1 b = 0 := by rw [hk]; simp only [fx_at, e, if_false]; exact hfr b q
        unfold fx_cellok
        rw [k0]
        exact ⟨fun ci r g _ => by omega, fun g => by omega, fun g => by omega, fun g => by omega, fun g => absurd g (by decide), fun g => by omega⟩
theorem fx_up_ne {α : Type} {f : Nat → Nat → α} {g x b y : Nat} {v : α} (h : ¬ (g = x ∧ b = y)) : fx_up f x y v g b = f g b := by
  unfold fx_up
  by_cases e1 : g = x
  · have e2 : ¬ b = y := fun q => h ⟨e1, q⟩
    simp [e1, e2]
  · simp [e1]
/-- a field of an object is set -/
theorem fx_rep.field {ci k : Nat} {r : vw_C} {v : Value} (h : fx_rep D dA scr sz0 s H) (hka : fx_kd s a = 10 + ci) (hr : fx_cl[ci]? = some r) (hk : k < r.2.2) (hN : r.2.2 < 64) (hap : ∀ x y, x < r.2.2 → y < r.2.2 → x ≠ y → D.2 ci x ≠ D.2 ci y)
    {cell : Cell} (hc : H[a]? = some cell) (he : H1[a]? = some (cell.setSlot (D.2 ci k) v)) (hz : H1.size = H.size) (ho : ∀ q, q ≠ a → H1[q]? = H[q]?)
    (hkd : fx_kd s1 = fx_kd s) (hn : fx_nx s1 = fx_nx s) (hln : fx_ln s1 = fx_ln s) (hai : fx_ai s1 = fx_ai s) (har : fx_ar s1 = fx_ar s) (hal : fx_al s1 = fx_al s)
    (hoff : ∀ b, b ≠ a → (∀ g, fx_fi s1 g b = fx_fi s g b) ∧ (∀ g, fx_fr s1 g b = fx_fr s g b)) (hfv : fx_fv s1 (64 * ci + k) a = v) (hfo : ∀ j, j ≠ k → j < r.2.2 → fx_fv s1 (64 * ci + j) a = fx_fv s (64 * ci + j) a) : fx_rep D dA scr sz0 s1 H1 := by
  refine h.upd hz ho hkd hn (fun b hb => ⟨(hoff b hb).1, (hoff b hb).2, by rw [hln], by rw [hai], by rw [har], by rw [hal]⟩) ?_
  obtain ⟨g1, -⟩ := h.2.2.2 a
  have hci : ci < 13 := (List.getElem?_eq_some_iff.mp hr).1
  obtain ⟨cell', q1, q2, q3, q4⟩ := g1 ci r hka hr
  cases hc.symm.trans q1
  have hkk : fx_kd s1 a = 10 + ci := by rw [hkd]; exact hka
  refine ⟨fun cj r' e1 e2 => ?_, fun g => by omega, fun g => by omega, fun g => by omega, fun g => ?_, fun g => by omega⟩
  · have : cj = ci := by omega
    subst this
    cases hr.symm.trans e2
    refine (show t_OB a (D.1 cj) r.2.2 (D.2 cj) H1 (updV (fun j => fx_fv s (64 * cj + j) a) k v) from ⟨_, he, q2, q3, t_set q4 hap hk v⟩).to (fun j hj => ?_)
    by_cases e : j = k
    · subst e; simp [updV, hfv]
    · simp [updV, e, hfo j e hj]
  · rw [hkk] at g
    simp only [fx_ia, Bool.or_eq_true, beq_iff_eq] at g
    omega
end
end
section
/-! WHERE A METHOD STANDS -/
def fx_val : fx_V → Value
  | .inl x => .int x
  | .inr (.inl (_, o)) => va_rf o
  | .inr (.inr x) => .long x
def fx_pairs : Nat → fx_L → List (Nat × Value)
  | _, [] => []
  | k, none :: l => fx_pairs (k + 1) l
  | k, some v :: l => (k, fx_val v) :: fx_pairs (k + 1) l
theorem fx_pairs_mem : ∀ (ls : fx_L) (k : Nat) (q : Nat × Value), q ∈ fx_pairs k ls ↔ ∃ i v, q = (k + i, fx_val v) ∧ fx_get ls i = some v
  | [], k, q => by simp [fx_pairs, fx_get]
  | none :: l, k, q => by
    simp only [fx_pairs]
    rw [fx_pairs_mem l (k + 1) q]
    constructor
    · rintro ⟨i, v, h1, h2⟩
      exact ⟨i + 1, v, by rw [h1]; congr 1; omega, by simpa [fx_get] using h2⟩
    · rintro ⟨i, v, h1, h2⟩
      cases i with
      | zero => simp [fx_get] at h2
      | succ i => exact ⟨i, v, by rw [h1]; congr 1; omega, by simpa [fx_get] using h2⟩
  | some w :: l, k, q => by
    simp only [fx_pairs, List.mem_cons]
    rw [fx_pairs_mem l (k + 1) q]
    constructor
    · rintro (h | ⟨i, v, h1, h2⟩)
      · exact ⟨0, w, by rw [h]; rfl, by simp [fx_get]⟩
      · exact ⟨i + 1, v, by rw [h1]; congr 1; omega, by simpa [fx_get] using h2⟩
    · rintro ⟨i, v, h1, h2⟩
      cases i with
      | zero => simp [fx_get] at h2; subst h2; exact Or.inl h1
      | succ i => exact Or.inr ⟨i, v, by rw [h1]; congr 1; omega, by simpa [fx_get] using h2⟩
/-- the locals: none of them a long -/
def fx_lo (ls : fx_L) (LS : Array Slot) : Prop := lv_has LS ls.length (fx_pairs 0 ls) ∧ ∀ i v, fx_get ls i = some v → (fx_val v).category = 1
theorem fx_lo.at {ls : fx_L} {LS : Array Slot} (h : fx_lo ls LS) {i : Nat} {v : fx_V} (hv : fx_get ls i = some v) : LS[i]? = some (.val (fx_val v)) := h.1.2.2 (i, fx_val v) ((fx_pairs_mem ls 0 _).mpr ⟨i, v, by simp, hv⟩)
theorem fx_get_set_self : ∀ (ls : fx_L) (i : Nat) (v : fx_V), i < ls.length → fx_get (fx_set ls i v) i = some v
  | [], i, v, h => by simp at h
  | x :: l, 0, v, h => rfl
  | x :: l, i + 1, v, h => by simpa [fx_set, fx_get] using fx_get_set_self l i v (by simpa using h)
theorem fx_get_set_ne : ∀ (ls : fx_L) (i j : Nat) (v : fx_V), i ≠ j → fx_get (fx_set ls i v) j = fx_get ls j
  | [], i, j, v, h => rfl
  | x :: l, 0, 0, v, h => absurd rfl h
  | x :: l, 0, j + 1, v, h => rfl
  | x :: l, i + 1, 0, v, h => rfl
  | x :: l, i + 1, j + 1, v, h => by simpa [fx_set, fx_get] using fx_get_set_ne l i j v (fun e => h (by rw [e]))
theorem fx_lo.set {ls : fx_L} {LS LS' : Array Slot} (h : fx_lo ls LS) {i : Nat} {v : fx_V} (hi : i < ls.length) (hc : (fx_val v).category = 1) (h' : lv_has LS' ls.length ((i, fx_val v) :: (fx_pairs 0 ls).filter (fun q => !(q.1 == i) && !(q.1 + 1 == i && q.2.category == 2)))) : fx_lo (fx_set ls i v) LS' := by
  refine ⟨⟨by rw [fx_set_len]; exact h'.1, h'.2.1, fun q hq => ?_⟩, fun j w hw => ?_⟩
  · obtain ⟨j, w, e1, e2⟩ := (fx_pairs_mem _ 0 q).mp hq
    rw [Nat.zero_add] at e1
    subst e1
    by_cases e : i = j
    · subst e
      rw [fx_get_set_self ls i v hi] at e2
      cases e2
      exact h'.2.2 _ List.mem_cons_self
    · rw [fx_get_set_ne ls i j v e] at e2
      refine h'.2.2 _ (List.mem_cons_of_mem _ (List.mem_filter.mpr ⟨(fx_pairs_mem ls 0 _).mpr ⟨j, w, by simp, e2⟩, ?_⟩))
      have c1 := h.2 j w e2
      have e' : ¬ j = i := fun q => e q.symm
      simp [e', c1]
  · by_cases e : i = j
    · subst e
      rw [fx_get_set_self ls i v hi] at hw
      cases hw
      exact hc
    · rw [fx_get_set_ne ls i j v e] at hw
      exact h.2 j w hw
def fx_tys (dA : Nat → ClassId) : List (ClassId × FieldType) := [(dA 70, .int), (dA 71, .boolean), (dA 72, .long), (dA 41, .object fx_R1), (dA 42, .object fx_R2), (dA 44, .object fx_R4), (dA 45, .object fx_R5), (dA 46, .object fx_R6)]
/-- the place of an array's kind among them, by its tag, and the class of its elements -/
theorem fx_tys_ia (dA : Nat → ClassId) {c : Nat} (h : fx_ia c = true) : ∃ (t : Nat) (r : vw_C), (fx_tys dA)[t]? = some (dA c, .object r.1) ∧ fx_cl[c - 40]? = some r := by
  simp only [fx_ia, Bool.or_eq_true, beq_iff_eq] at h
  rcases h with (((h | h) | h) | h) | h <;> subst h
  · exact ⟨3, _, rfl, rfl⟩
  · exact ⟨4, _, rfl, rfl⟩
  · exact ⟨5, _, rfl, rfl⟩
  · exact ⟨6, _, rfl, rfl⟩
  · exact ⟨7, _, rfl, rfl⟩
def fx_ctx (D : va_G) (dA : Nat → ClassId) (scr : Cell) (U : State) : Prop := va_K D fx_cl (fx_tys dA) U ∧ (∀ own idx y, Cond.methodLinkNest own idx y "FlitTorus" ∈ lw_tbl → va_Nw (.methodLinkNest own idx y "FlitTorus") U) ∧ (∀ C, Cond.arrayOver (.object C) ∈ lw_tbl → va_AO C U) ∧ U.isArrayOf scr .int
theorem fx_ctx.warm {D : va_G} {dA : Nat → ClassId} {scr : Cell} {u U : State} (hW : u.WarmedH U.vm) (h : fx_ctx D dA scr u) : fx_ctx D dA scr U :=
  ⟨va_K.moved hW.alike h.1, fun own idx y hw => va_Nw.warmM hW (h.2.1 own idx y hw), fun C hC => va_AO.moved hW.alike (h.2.2.1 C hC), State.isArrayOf_alike hW.alike h.2.2.2⟩
def fx_in (mi : Nat) (p : Program) (R : Room) (u : State) (m : MethodId) (args : Array Value) (meth : Method) (c : Code) (D : va_G) (dA : Nat → ClassId) (scr : Cell) : Prop :=
  p.tables.exec = Jvm.exec ∧ c.code = fx_cc mi ∧ c.maxLocals = fx_ml mi ∧ u.vm.findClass (fx_yy mi).cls = some m.cls ∧ (∀ w ∈ fx_T1, w.before args u = true) ∧ meth.name = (fx_yy mi).name ∧ fx_rk mi ≤ R.frames ∧ fx_lw mi ≤ R.locals ∧ fx_ctx D dA scr u
/-- from here the machine goes on -/
def fx_Sd (p : Program) (l : Launch) (e : Env) (R : Room) (u : State) (m : MethodId) (args : Array Value) (below : List Frame) (meth : Method) (c : Code) (Qf : State → Prop) (D : va_G) (dA : Nat → ClassId) (scr : Cell) (sz0 nS lS : Nat) (pc : Nat) (ls : fx_L) (st : List fx_V) (s : fx_S) : Prop :=
  nS ≤ fx_nx s → lS ≤ fx_sl s → ∀ (H : Heap) (locs : List Loc) (LS : Array Slot), fx_rep D dA scr sz0 s H → fx_lo ls LS → va_S (fun q => sz0 ≤ q) u.heap H locs → W p l e R u m args below meth c H locs (fx_nx s - nS) (fx_sl s - lS) Qf (F0 m pc LS (st.map fx_val))
theorem fx_J_inj {C C' : Prop} {pc pc' : Nat} {ls ls' : fx_L} {st st' : List fx_V} {s s' : fx_S} (h : fx_J C pc ls st s = fx_J C' pc' ls' st' s') : C = C' ∧ pc = pc' ∧ ls = ls' ∧ st = st' ∧ s = s' := by
  simp only [fx_J, Option.some.injEq, Sum.inl.injEq, Prod.mk.injEq] at h
  exact h
end
section
/-! ROWS OF THE MACHINE over the pure heap: fields, objects, arrays -/
theorem fx_cls_in {ci : Nat} {r : vw_C} (h : fx_cl[ci]? = some r) : ∀ w ∈ u_ws r.1 r.2.1 r.2.2, w ∈ fx_T1 := by
  intro w hw
  obtain ⟨k, hk, rfl⟩ := List.mem_map.mp hw
  have h1 := fx_clsF h
  simp only [fx_okF, Bool.and_eq_true] at h1
  exact fx_wd_in (List.all_eq_true.mp h1.1.1.1.2 k hk)
theorem fx_cls_w {ci : Nat} {r : vw_C} (h : fx_cl[ci]? = some r) : Cond.initialized r.1 ∈ fx_T1 ∧ Cond.instantiable r.1 r.2.2 ∈ fx_T1 ∧ r.2.2 < 64 := by
  have h1 := fx_clsF h
  simp only [fx_okF, Bool.and_eq_true] at h1
  exact ⟨fx_wd_in h1.1.1.2, fx_wd_in h1.1.2, by simpa [Nat.blt_eq] using h1.2⟩
theorem fx_cls_t {ci : Nat} {r : vw_C} (h : fx_cl[ci]? = some r) {k : Nat} (hk : k < r.2.2) : parseFieldDescriptor (r.2.1 k).2.2.1 = some (fx_ty ci k) ∧ (r.2.1 k).1 = r.1 ∧ (fx_ft (64 * ci + k) = 0 → fx_ty ci k = .int) ∧ (fx_ft (64 * ci + k) = 1 → fx_ty ci k = .boolean) ∧ (2 ≤ fx_ft (64 * ci + k) → fx_isRT (fx_ty ci k) = true) := by
  have h1 := fx_clsF h
  simp only [fx_okF, Bool.and_eq_true] at h1
  have h2 := List.all_eq_true.mp h1.1.1.1.1 k (List.mem_range.mpr hk)
  simp only [Bool.and_eq_true, decide_eq_true_eq] at h2
  obtain ⟨⟨g1, g2⟩, g3⟩ := h2
  refine ⟨g1, g2, fun e => ?_, fun e => ?_, fun e => ?_⟩
  · rw [e] at g3; simpa using g3
  · rw [e] at g3; simpa using g3
  · match hf : fx_ft (64 * ci + k), e, g3 with
    | 0, e, _ => omega
    | 1, e, _ => omega
    | n + 2, _, g3 => exact g3
theorem fx_cls_n {ci : Nat} {r : vw_C} (h : fx_cl[ci]? = some r) : ∀ a, a < r.2.2 → ∀ b, b < r.2.2 → a ≠ b → (r.2.1 a).2.1 ≠ (r.2.1 b).2.1 := by
  intro a ha b hb hne
  have h1 := fx_clsD h
  simp only [fx_okD] at h1
  have h2 := List.all_eq_true.mp (List.all_eq_true.mp h1 a (List.mem_range.mpr ha)) b (List.mem_range.mpr hb)
  simp only [Bool.or_eq_true, beq_iff_eq, Bool.not_eq_true'] at h2
  rcases h2 with h2 | h2
  · exact absurd h2 hne
  · exact fun q => by rw [q] at h2; simp at h2
theorem fx_cls_ex {ci : Nat} (h : ci < 13) : ∃ r, fx_cl[ci]? = some r := ⟨_, List.getElem?_eq_getElem (show ci < fx_cl.length from h)⟩
theorem fx_F_eq {f : Nat} {r : vw_C} (h : fx_cl[f / 64]? = some r) : fx_F f = r.2.1 (f % 64) ∧ fx_Nf f = r.2.2 := by
  unfold fx_F fx_Nf
  rw [List.getD_eq_getElem?_getD, h]
  exact ⟨rfl, rfl⟩
theorem fx_Cn_eq {ci : Nat} {r : vw_C} (h : fx_cl[ci]? = some r) : fx_Cn ci = r.1 ∧ fx_Cs ci = r.2.2 := by
  unfold fx_Cn fx_Cs
  rw [List.getD_eq_getElem?_getD, h]
  exact ⟨rfl, rfl⟩
section
variable {p : Program} {l : Launch} {e : Env} {R : Room} {u : State} {m : MethodId} {args : Array Value} {below : List Frame} {meth : Method} {c : Code} {Qf : State → Prop} {D : va_G} {dA : Nat → ClassId} {scr : Cell} {sz0 : Nat} {mi pc : Nat} {s : fx_S} {H : Heap} {locs : List Loc} {cells slots : Nat} {LS : Array Slot} {rest : List Value} {a f idx : Nat}
theorem fx_apart (I : fx_in mi p R u m args meth c D dA scr) {ci : Nat} {r : vw_C} (h : fx_cl[ci]? = some r) : ∀ x y, x < r.2.2 → y < r.2.2 → x ≠ y → D.2 ci x ≠ D.2 ci y := by
  obtain ⟨hx, hb, hml, hown, hts, hnm, hfr, hlo, hctx⟩ := I
  exact va_apart (own := r.1) (T := r.2.1) (C := r.1) (N := r.2.2) hts (fx_cls_in h) (fx_ty ci) (fun k hk => (fx_cls_t h hk).1) (fx_cls_n h) hctx.1 h
theorem fx_getf (I : fx_in mi p R u m args meth c D dA scr) (hd : decode (fx_cc mi) pc = .ok (.getfield idx, 3)) (hlk : Cond.fieldLink (fx_yy mi).cls idx (fx_F f).1 (fx_F f).2.1 (fx_F f).2.2.1 ∈ fx_T1) (hf1 : f / 64 < 13) (hf2 : f % 64 < fx_Nf f) (hka : fx_kd s a = 10 + f / 64) (hrep : fx_rep D dA scr sz0 s H)
    (k : W p l e R u m args below meth c H locs cells slots Qf (F0 m (pc + 3) LS (fx_fv s f a :: rest))) : W p l e R u m args below meth c H locs cells slots Qf (F0 m pc LS (.ref a :: rest)) := by
  obtain ⟨r, hr⟩ := fx_cls_ex hf1
  obtain ⟨e1, e2⟩ := fx_F_eq hr
  rw [e1] at hlk
  rw [e2] at hf2
  obtain ⟨cell, q1, q2, q3, q4⟩ := (hrep.2.2.2 a).1 (f / 64) r hka hr
  obtain ⟨hx, hb, hml, hown, hts, hnm, hfr, hlo, hctx⟩ := I
  obtain ⟨hS, hfc, kC, hkC, hkind⟩ := hctx.1.1 (f / 64) _ hr
  obtain ⟨cf, kf, fi, fd, hi, hsl⟩ := hS (f % 64) hf2
  refine W.getf hx hb hown (hts _ hlk) hi (u_facts hfc hkC (u_lays hts (fx_cls_in hr) hf2) hi).1 q1 (by rw [q3]; exact fun h => by cases h) (v := fx_fv s f a) ?_ rfl rfl hd k
  rw [hsl, q4 (f % 64) hf2]
  show some (fx_fv s (64 * (f / 64) + f % 64) a) = _
  rw [show 64 * (f / 64) + f % 64 = f by omega]
theorem fx_putf (I : fx_in mi p R u m args meth c D dA scr) (hd : decode (fx_cc mi) pc = .ok (.putfield idx, 3)) (hlk : Cond.fieldLink (fx_yy mi).cls idx (fx_F f).1 (fx_F f).2.1 (fx_F f).2.2.1 ∈ fx_T1) (hf1 : f / 64 < 13) (hf2 : f % 64 < fx_Nf f) (hfin : (fx_F f).2.2.2 = false ∨ ((fx_yy mi).name = "<init>" ∧ (fx_yy mi).cls = (fx_F f).1)) (hka : fx_kd s a = 10 + f / 64) (hrep : fx_rep D dA scr sz0 s H) {v : Value} (hn : narrow (fx_ty (f / 64) (f % 64)) v = v) (hfit : fits (fx_ty (f / 64) (f % 64)) v = true) (hS0 : va_S (fun q => sz0 ≤ q) u.heap H locs)
    (k : ∀ (H1 : Heap) (locs1 : List Loc) (cell : Cell), H[a]? = some cell → H1[a]? = some (cell.setSlot (D.2 (f / 64) (f % 64)) v) → H1.size = H.size → (∀ q, q ≠ a → H1[q]? = H[q]?) → va_S (fun q => sz0 ≤ q) u.heap H1 locs1 → W p l e R u m args below meth c H1 locs1 cells slots Qf (F0 m (pc + 3) LS rest)) : W p l e R u m args below meth c H locs cells slots Qf (F0 m pc LS (v :: .ref a :: rest)) := by
  obtain ⟨r, hr⟩ := fx_cls_ex hf1
  obtain ⟨e1, e2⟩ := fx_F_eq hr
  rw [e1] at hlk hfin
  rw [e2] at hf2
  have hsz : sz0 ≤ a := hrep.2.2.1 a (by omega) (by omega)
  obtain ⟨cell, q1, q2, q3, q4⟩ := (hrep.2.2.2 a).1 (f / 64) r hka hr
  obtain ⟨hx, hb, hml, hown, hts, hnm, hfr, hlo, hctx⟩ := I
  obtain ⟨hS, hfc, kC, hkC, hkind⟩ := hctx.1.1 (f / 64) _ hr
  obtain ⟨cf, kf, fi, fd, hi, hsl⟩ := hS (f % 64) hf2
  have hty := (fx_cls_t hr hf2).1
  have hlay := hts _ (fx_cls_in hr _ (u_in_lay hf2))
  have hst := (u_facts hfc hkC (u_lays hts (fx_cls_in hr) hf2) hi).1
  by_cases hf : (r.2.1 (f % 64)).2.2.2 = false
  · unfold u_lay at hlay
    rw [if_neg (by rw [hf]; decide)] at hlay
    have h6 := u_store hfc hkC hkind hlay hi hty hn hfit
    refine W.putK hx hb (f := fd) ⟨hown, hts _ hlk, ⟨_, _, _, hi⟩, hst⟩ (by rw [q2]; exact h6) q1 q3 (by rw [hsl]; exact k2_hasslot (q4 _ hf2)) rfl rfl hd fun H' e1 e2 e3 => ?_
    rw [hsl] at e1 ⊢
    exact k H' _ cell q1 e1 e2 e3 (hS0.put e2 e3 hsz)
  · have hf' : (r.2.1 (f % 64)).2.2.2 = true := by simpa using hf
    obtain ⟨hi1, hi2⟩ := hfin.resolve_left hf
    unfold u_lay at hlay
    rw [if_pos hf'] at hlay
    have hcf : m.cls = cf := by
      obtain ⟨_, _, c', _, _, _, -, -, hf', -, -, -, hown2, -⟩ := Cond.laysFinal_spec hlay
      have e1 : c' = cf := by have := hi.symm.trans hf'; simp at this; exact this.1.symm
      rw [← hi2] at hown2
      rw [← e1]; exact Option.some.inj (hown.symm.trans hown2)
    have h6 := u_fits hfc hkC hkind (Or.inr hlay) hi hty hn hfit
    refine W.putFinK hx hb hown (hts _ hlk) hi hst hcf (by rw [hnm]; exact hi1) (by rw [q2]; exact h6) q1 q3 (by rw [hsl]; exact k2_hasslot (q4 _ hf2)) rfl rfl hd fun H' e1 e2 e3 => ?_
    rw [hsl] at e1 ⊢
    exact k H' _ cell q1 e1 e2 e3 (hS0.put e2 e3 hsz)
theorem fx_fv_i {t : fx_S} {g b : Nat} (h : fx_ft g ≤ 1) : fx_fv t g b = .int (fx_fi t g b) := by
  unfold fx_fv
  rw [Nat.ble_eq_true_of_le h]
  rfl
theorem fx_fv_r {t : fx_S} {g b : Nat} (h : 2 ≤ fx_ft g) : fx_fv t g b = va_rf (fx_fr t g b) := by
  unfold fx_fv
  have : Nat.ble (fx_ft g) 1 = false := by
    cases q : Nat.ble (fx_ft g) 1
    · rfl
    · have := Nat.le_of_ble_eq_true q; omega
  rw [this]
  rfl
theorem fx_puti (I : fx_in mi p R u m args meth c D dA scr) (hd : decode (fx_cc mi) pc = .ok (.putfield idx, 3)) (hlk : Cond.fieldLink (fx_yy mi).cls idx (fx_F f).1 (fx_F f).2.1 (fx_F f).2.2.1 ∈ fx_T1) (hf1 : f / 64 < 13) (hf2 : f % 64 < fx_Nf f) (hfin : (fx_F f).2.2.2 = false ∨ ((fx_yy mi).name = "<init>" ∧ (fx_yy mi).cls = (fx_F f).1)) (hka : fx_kd s a = 10 + f / 64) (hrep : fx_rep D dA scr sz0 s H) {x : Int32} (ht : fx_ft f ≤ 1) (hx1 : fx_ft f = 1 → x = 0 ∨ x = 1) (hS0 : va_S (fun q => sz0 ≤ q) u.heap H locs)
    (k : ∀ (H1 : Heap) (locs1 : List Loc), fx_rep D dA scr sz0 (fx_sfi s f a x) H1 → va_S (fun q => sz0 ≤ q) u.heap H1 locs1 → W p l e R u m args below meth c H1 locs1 cells slots Qf (F0 m (pc + 3) LS rest)) : W p l e R u m args below meth c H locs cells slots Qf (F0 m pc LS (.int x :: .ref a :: rest)) := by
  obtain ⟨r, hr⟩ := fx_cls_ex hf1
  have hk2 : f % 64 < r.2.2 := by rw [← (fx_F_eq hr).2]; exact hf2
  have hff : 64 * (f / 64) + f % 64 = f := by omega
  obtain ⟨-, -, t0, t1, -⟩ := fx_cls_t hr hk2
  rw [hff] at t0 t1
  have hnf : narrow (fx_ty (f / 64) (f % 64)) (.int x) = .int x ∧ fits (fx_ty (f / 64) (f % 64)) (.int x) = true := by
    rcases (show fx_ft f = 0 ∨ fx_ft f = 1 by omega) with h | h
    · rw [t0 h]; exact ⟨rfl, rfl⟩
    · rw [t1 h]
      rcases hx1 h with e | e <;> subst e <;> exact ⟨by decide, by decide⟩
  refine fx_putf I hd hlk hf1 hf2 hfin hka hrep hnf.1 hnf.2 hS0 fun H1 locs1 cell g1 g2 g3 g4 g5 => k H1 locs1 ?_ g5
  refine hrep.field hka hr hk2 (fx_cls_w hr).2.2 (fx_apart I hr) g1 g2 g3 g4 rfl rfl rfl rfl rfl rfl (fun b hb => ⟨fun g => fx_up_ne (fun q => hb q.2), fun g => rfl⟩) ?_ (fun j hj hj2 => ?_)
  · rw [hff, fx_fv_i ht]
    exact congrArg Value.int (fx_up_same _ _ _ _)
  · unfold fx_fv
    have : fx_fi (fx_sfi s f a x) (64 * (f / 64) + j) a = fx_fi s (64 * (f / 64) + j) a := fx_up_ne (fun q => hj (by omega))
    rw [this]
    rfl
theorem fx_putr (I : fx_in mi p R u m args meth c D dA scr) (hd : decode (fx_cc mi) pc = .ok (.putfield idx, 3)) (hlk : Cond.fieldLink (fx_yy mi).cls idx (fx_F f).1 (fx_F f).2.1 (fx_F f).2.2.1 ∈ fx_T1) (hf1 : f / 64 < 13) (hf2 : f % 64 < fx_Nf f) (hfin : (fx_F f).2.2.2 = false ∨ ((fx_yy mi).name = "<init>" ∧ (fx_yy mi).cls = (fx_F f).1)) (hka : fx_kd s a = 10 + f / 64) (hrep : fx_rep D dA scr sz0 s H) {v : Option Nat} (ht : 2 ≤ fx_ft f) (hS0 : va_S (fun q => sz0 ≤ q) u.heap H locs)
    (k : ∀ (H1 : Heap) (locs1 : List Loc), fx_rep D dA scr sz0 (fx_sfr s f a v) H1 → va_S (fun q => sz0 ≤ q) u.heap H1 locs1 → W p l e R u m args below meth c H1 locs1 cells slots Qf (F0 m (pc + 3) LS rest)) : W p l e R u m args below meth c H locs cells slots Qf (F0 m pc LS (va_rf v :: .ref a :: rest)) := by
  obtain ⟨r, hr⟩ := fx_cls_ex hf1
  have hk2 : f % 64 < r.2.2 := by rw [← (fx_F_eq hr).2]; exact hf2
  have hff : 64 * (f / 64) + f % 64 = f := by omega
  obtain ⟨-, -, -, -, t2⟩ := fx_cls_t hr hk2
  rw [hff] at t2
  have hnf : narrow (fx_ty (f / 64) (f % 64)) (va_rf v) = va_rf v ∧ fits (fx_ty (f / 64) (f % 64)) (va_rf v) = true := by
    have h := t2 ht
    cases hty : fx_ty (f / 64) (f % 64) <;> rw [hty] at h <;> first | (cases h; done) | (cases v <;> exact ⟨rfl, rfl⟩)
  refine fx_putf I hd hlk hf1 hf2 hfin hka hrep hnf.1 hnf.2 hS0 fun H1 locs1 cell g1 g2 g3 g4 g5 => k H1 locs1 ?_ g5
  refine hrep.field hka hr hk2 (fx_cls_w hr).2.2 (fx_apart I hr) g1 g2 g3 g4 rfl rfl rfl rfl rfl rfl (fun b hb => ⟨fun g => rfl, fun g => fx_up_ne (fun q => hb q.2)⟩) ?_ (fun j hj hj2 => ?_)
  · rw [hff, fx_fv_r ht]
    exact congrArg va_rf (fx_up_same _ _ _ _)
  · unfold fx_fv
    have : fx_fr (fx_sfr s f a v) (64 * (f / 64) + j) a = fx_fr s (64 * (f / 64) + j) a := fx_up_ne (fun q => hj (by omega))
    rw [this]
    rfl
end
end
section
section
variable {p : Program} {l : Launch} {e : Env} {R : Room} {u : State} {m : MethodId} {args : Array Value} {below : List Frame} {meth : Method} {c : Code} {Qf : State → Prop} {D : va_G} {dA : Nat → ClassId} {scr : Cell} {sz0 : Nat} {mi pc : Nat} {s : fx_S} {H : Heap} {locs : List Loc} {cells slots : Nat} {LS : Array Slot} {rest : List Value} {a f idx : Nat}
theorem fx_S_push {H1 : Heap} (h : va_S (fun q => sz0 ≤ q) u.heap H locs) (z : H1.size = H.size + 1) (o : ∀ q, q < H.size → H1[q]? = H[q]?) : va_S (fun q => sz0 ≤ q) u.heap H1 locs :=
  ⟨Nat.le_trans h.1 (by omega), fun x h1 h2 => (o x (Nat.lt_of_lt_of_le h1 h.1)).trans (h.2.1 x h1 h2), h.2.2⟩
theorem fx_newo (I : fx_in mi p R u m args meth c D dA scr) {ci : Nat} {r : vw_C} (hr : fx_cl[ci]? = some r) (hd : decode (fx_cc mi) pc = .ok (.new idx, 3)) (hlk : Cond.classLink (fx_yy mi).cls idx r.1 ∈ fx_T1) (hfresh : fx_fresh s) (hrep : fx_rep D dA scr sz0 s H) (hcells : cells + 1 ≤ R.cells) (hslots : slots + r.2.2 ≤ R.slots) (hS0 : va_S (fun q => sz0 ≤ q) u.heap H locs)
    (k : ∀ H1 : Heap, fx_rep D dA scr sz0 (fx_new s (10 + ci) r.2.2) H1 → va_S (fun q => sz0 ≤ q) u.heap H1 locs → W p l e R u m args below meth c H1 locs (cells + 1) (slots + r.2.2) Qf (F0 m (pc + 3) LS (.ref (fx_nx s) :: rest))) : W p l e R u m args below meth c H locs cells slots Qf (F0 m pc LS rest) := by
  obtain ⟨hx, hb, hml, hown, hts, hnm, hfr, hlo, hctx⟩ := I
  have hKn := hctx.1.1 ci _ hr
  obtain ⟨w1, w2, w3⟩ := fx_cls_w hr
  have hci : ci < 13 := (List.getElem?_eq_some_iff.mp hr).1
  refine W.newcK hx hb hown (hts _ hlk) (hts _ w2) (hts _ w1) rfl hd hcells hslots hKn.2.1 hrep.1 fun H1 kC hkC e1 z1 o1 => ?_
  rw [← hrep.1] at z1 o1
  refine k H1 (hrep.push (tag := 10 + ci) z1 o1 rfl rfl hfresh (fun b hb => ⟨fun g => ?_, fun g => ?_, rfl, rfl, rfl, rfl⟩) ?_) (fx_S_push hS0 z1 o1)
  · show fx_col (fx_fi s) (fx_nx s) 0 g b = _
    simp [fx_col, hb]
  · show fx_col (fx_fr s) (fx_nx s) none g b = _
    simp [fx_col, hb]
  · have hk0 : fx_kd (fx_new s (10 + ci) r.2.2) (fx_nx s) = 10 + ci := by
      show fx_at (fx_kd s) (fx_nx s) (10 + ci) (fx_nx s) = _
      simp [fx_at]
    refine ⟨fun cj r' g1 g2 => ?_, fun g => by omega, fun g => by omega, fun g => by omega, fun g => ?_, fun g => by omega⟩
    · have : cj = ci := by omega
      subst this
      cases hr.symm.trans g2
      refine (u_born (fx_ty cj) hts (fx_cls_in hr) hKn hkC e1 (fun k hk => (fx_cls_t hr hk).1)).to (fun j hj => ?_)
      obtain ⟨-, -, t0, t1, t2⟩ := fx_cls_t hr hj
      have i0 : fx_fi (fx_new s (10 + cj) r.2.2) (64 * cj + j) (fx_nx s) = 0 := by
        show fx_col (fx_fi s) (fx_nx s) 0 (64 * cj + j) (fx_nx s) = _
        simp [fx_col]
      have r0 : fx_fr (fx_new s (10 + cj) r.2.2) (64 * cj + j) (fx_nx s) = none := by
        show fx_col (fx_fr s) (fx_nx s) none (64 * cj + j) (fx_nx s) = _
        simp [fx_col]
      rcases (show fx_ft (64 * cj + j) = 0 ∨ fx_ft (64 * cj + j) = 1 ∨ 2 ≤ fx_ft (64 * cj + j) by omega) with h | h | h
      · rw [t0 h, fx_fv_i (by omega), i0]; rfl
      · rw [t1 h, fx_fv_i (by omega), i0]; rfl
      · rw [fx_fv_r h, r0]
        have h3 := t2 h
        cases hty : fx_ty cj j <;> rw [hty] at h3 <;> first | (cases h3; done) | rfl
    · rw [hk0] at g
      simp only [fx_ia, Bool.or_eq_true, beq_iff_eq] at g
      omega
theorem fx_newp (I : fx_in mi p R u m args meth c D dA scr) {atype : ArrayType} {tag t0 : Nat} (hty : (fx_tys dA)[t0]? = some (dA tag, newarray.typeOf atype)) (htag : (tag = 70 ∧ newarray.typeOf atype = .int) ∨ (tag = 71 ∧ newarray.typeOf atype = .boolean) ∨ (tag = 72 ∧ newarray.typeOf atype = .long)) (hd : decode (fx_cc mi) pc = .ok (.newarray atype, 2)) (hw : Cond.arrayClass (newarray.typeOf atype) ∈ fx_T1) (hfresh : fx_fresh s) (hrep : fx_rep D dA scr sz0 s H) {n : Int32} (hn : ¬ n < 0) (hn2 : n.toNatClampNeg ≤ 40000) (hcells : cells + 1 ≤ R.cells) (hslots : slots + n.toNatClampNeg ≤ R.slots) (hS0 : va_S (fun q => sz0 ≤ q) u.heap H locs)
    (k : ∀ H1 : Heap, fx_rep D dA scr sz0 (fx_newa s tag n.toNatClampNeg) H1 → va_S (fun q => sz0 ≤ q) u.heap H1 locs → W p l e R u m args below meth c H1 locs (cells + 1) (slots + n.toNatClampNeg) Qf (F0 m (pc + 2) LS (.ref (fx_nx s) :: rest))) : W p l e R u m args below meth c H locs cells slots Qf (F0 m pc LS (.int n :: rest)) := by
  obtain ⟨hx, hb, hml, hown, hts, hnm, hfr, hlo, hctx⟩ := I
  have hra := (hctx.1.2 t0 _ hty).2
  refine va_newaK hx hb (hts _ hw) rfl hd rfl hn rfl ?_ hcells hslots hrep.1 fun H1 cA e1 z1 o1 hAr hNm => ?_
  · rcases htag with ⟨-, h⟩ | ⟨-, h⟩ | ⟨-, h⟩ <;> rw [h] <;> simp only [componentBytes] <;> omega
  have hcA : cA = dA tag := by
    have : u.vm.findClass ("[" ++ (newarray.typeOf atype).toString) = some (dA tag) := by
      rcases htag with ⟨-, h⟩ | ⟨-, h⟩ | ⟨-, h⟩ <;> rw [h] at hra ⊢ <;> exact hra
    exact Option.some.inj (hNm.symm.trans this)
  subst hcA
  rw [← hrep.1] at z1 o1
  have hk0 : fx_kd (fx_newa s tag n.toNatClampNeg) (fx_nx s) = tag := by
    show fx_at (fx_kd s) (fx_nx s) tag (fx_nx s) = _
    simp [fx_at]
  have hl0 : fx_ln (fx_newa s tag n.toNatClampNeg) (fx_nx s) = n.toNatClampNeg := by
    show fx_at (fx_ln s) (fx_nx s) n.toNatClampNeg (fx_nx s) = _
    simp [fx_at]
  have ha0 : fx_ai (fx_newa s tag n.toNatClampNeg) (fx_nx s) = fun _ => 0 := by
    show fx_at (fx_ai s) (fx_nx s) (fun _ => 0) (fx_nx s) = _
    simp [fx_at]
  have hg0 : fx_al (fx_newa s tag n.toNatClampNeg) (fx_nx s) = fun _ => 0 := by
    show fx_at (fx_al s) (fx_nx s) (fun _ => 0) (fx_nx s) = _
    simp [fx_at]
  refine k H1 (hrep.push (tag := tag) z1 o1 rfl rfl hfresh (fun b hb => ⟨fun g => rfl, fun g => rfl, ?_, ?_, ?_, ?_⟩) ?_) (fx_S_push hS0 z1 o1)
  · show fx_at (fx_ln s) (fx_nx s) n.toNatClampNeg b = _
    simp [fx_at, hb]
  · show fx_at (fx_ai s) (fx_nx s) (fun _ => 0) b = _
    simp [fx_at, hb]
  · show fx_at (fx_ar s) (fx_nx s) (fun _ => none) b = _
    simp [fx_at, hb]
  · show fx_at (fx_al s) (fx_nx s) (fun _ => 0) b = _
    simp [fx_at, hb]
  · refine ⟨fun cj r' g1 g2 => ?_, fun g => ?_, fun g => ?_, fun g => ?_, fun g => ?_, fun g => ?_⟩
    · have hcj : cj < 13 := (List.getElem?_eq_some_iff.mp g2).1
      rw [hk0] at g1
      omega
    · rw [hk0] at g
      rw [hl0, ha0, ← g, e1]
      rcases htag with ⟨h0, h⟩ | ⟨h0, h⟩ | ⟨h0, h⟩
      · rw [h]; rfl
      · omega
      · omega
    · rw [hk0] at g
      rw [hl0, ha0, ← g, e1]
      rcases htag with ⟨h0, h⟩ | ⟨h0, h⟩ | ⟨h0, h⟩
      · omega
      · rw [h]; rfl
      · omega
    · rw [hk0] at g
      rw [hl0, hg0, ← g, e1]
      rcases htag with ⟨h0, h⟩ | ⟨h0, h⟩ | ⟨h0, h⟩
      · omega
      · omega
      · rw [h]; rfl
    · rw [hk0] at g
      simp only [fx_ia, Bool.or_eq_true, beq_iff_eq] at g
      omega
    · rw [hk0] at g
      omega
theorem fx_newr (I : fx_in mi p R u m args meth c D dA scr) {ci : Nat} {r : vw_C} (hr : fx_cl[ci]? = some r) (hia : fx_ia (40 + ci) = true) (hd : decode (fx_cc mi) pc = .ok (.anewarray idx, 3)) (hlk : Cond.classLink (fx_yy mi).cls idx r.1 ∈ fx_T1) (hov : Cond.arrayOver (.object r.1) ∈ lw_tbl) (hfresh : fx_fresh s) (hrep : fx_rep D dA scr sz0 s H) {n : Int32} (hn : ¬ n < 0) (hn2 : n.toNatClampNeg ≤ 40000) (hcells : cells + 1 ≤ R.cells) (hslots : slots + n.toNatClampNeg ≤ R.slots) (hS0 : va_S (fun q => sz0 ≤ q) u.heap H locs)
    (k : ∀ H1 : Heap, fx_rep D dA scr sz0 (fx_newa s (40 + ci) n.toNatClampNeg) H1 → va_S (fun q => sz0 ≤ q) u.heap H1 locs → W p l e R u m args below meth c H1 locs (cells + 1) (slots + n.toNatClampNeg) Qf (F0 m (pc + 3) LS (.ref (fx_nx s) :: rest))) : W p l e R u m args below meth c H locs cells slots Qf (F0 m pc LS (.int n :: rest)) := by
  obtain ⟨hx, hb, hml, hown, hts, hnm, hfr, hlo, hctx⟩ := I
  obtain ⟨t, r', ht, hr'⟩ := fx_tys_ia dA hia
  rw [show 40 + ci - 40 = ci by omega] at hr'
  cases hr.symm.trans hr'
  obtain ⟨kA, comp, k1, k2, k3, k4⟩ := (hctx.1.2 t _ ht).2
  refine W.anew hx hb hown (hts _ hlk) (va_AO.use (hctx.2.2.1 _ hov)) rfl hd rfl hn (by omega) hcells hslots fun cA kA' comp' f1 f2 f3 f4 => ?_
  have hcA : cA = dA (40 + ci) := Option.some.inj (f1.symm.trans k4)
  subst hcA
  generalize hH1 : H.push ({ cls := dA (40 + ci), slots := Array.replicate n.toNatClampNeg .null, vm := .none } : Cell) = H1
  have z1 : H1.size = H.size + 1 := by rw [← hH1, Array.size_push]
  have e1 : H1[H.size]? = some (arrV (dA (40 + ci)) n.toNatClampNeg (fun _ => .null)) := by rw [← hH1, Array.getElem?_push_size, ← arrV_new]
  have o1 : ∀ q : Nat, q < H.size → H1[q]? = H[q]? := fun q hq => by rw [← hH1, Array.getElem?_push, if_neg (Nat.ne_of_lt hq)]
  rw [hrep.1] at e1
  have hk0 : fx_kd (fx_newa s (40 + ci) n.toNatClampNeg) (fx_nx s) = 40 + ci := by
    show fx_at (fx_kd s) (fx_nx s) (40 + ci) (fx_nx s) = _
    simp [fx_at]
  have hl0 : fx_ln (fx_newa s (40 + ci) n.toNatClampNeg) (fx_nx s) = n.toNatClampNeg := by
    show fx_at (fx_ln s) (fx_nx s) n.toNatClampNeg (fx_nx s) = _
    simp [fx_at]
  have ha0 : fx_ar (fx_newa s (40 + ci) n.toNatClampNeg) (fx_nx s) = fun _ => none := by
    show fx_at (fx_ar s) (fx_nx s) (fun _ => none) (fx_nx s) = _
    simp [fx_at]
  have hcl : ci < 13 := (List.getElem?_eq_some_iff.mp hr).1
  rw [show H.size = fx_nx s from hrep.1]
  refine k H1 (hrep.push (tag := 40 + ci) z1 o1 rfl rfl hfresh (fun b hb => ⟨fun g => rfl, fun g => rfl, ?_, ?_, ?_, ?_⟩) ?_) (fx_S_push hS0 z1 o1)
  · show fx_at (fx_ln s) (fx_nx s) n.toNatClampNeg b = _
    simp [fx_at, hb]
  · show fx_at (fx_ai s) (fx_nx s) (fun _ => 0) b = _
    simp [fx_at, hb]
  · show fx_at (fx_ar s) (fx_nx s) (fun _ => none) b = _
    simp [fx_at, hb]
  · show fx_at (fx_al s) (fx_nx s) (fun _ => 0) b = _
    simp [fx_at, hb]
  · refine ⟨fun cj r' g1 g2 => ?_, fun g => by omega, fun g => by omega, fun g => by omega, fun g => ?_, fun g => by omega⟩
    · have hcj : cj < 13 := (List.getElem?_eq_some_iff.mp g2).1
      rw [hk0] at g1
      omega
    · rw [hk0, hl0, ha0]
      exact e1
/-- arrays are read -/
theorem fx_aldI (I : fx_in mi p R u m args meth c D dA scr) (hd : decode (fx_cc mi) pc = .ok (.iaload, 1)) (hka : fx_kd s a = 70 ∨ fx_kd s a = 73) (hrep : fx_rep D dA scr sz0 s H) {j : Int32} (hin : vp_in j (fx_ln s a))
    (k : W p l e R u m args below meth c H locs cells slots Qf (F0 m (pc + 1) LS (.int (fx_ai s a j.toNatClampNeg) :: rest))) : W p l e R u m args below meth c H locs cells slots Qf (F0 m pc LS (.int j :: .ref a :: rest)) := by
  obtain ⟨hx, hb, hml, hown, hts, hnm, hfr, hlo, hctx⟩ := I
  have hlt : j.toNatClampNeg < fx_ln s a := Nat.not_le.mp fun q => hin (Or.inr q)
  obtain ⟨-, h2, -, -, -, h6⟩ := hrep.2.2.2 a
  rcases hka with h | h
  · exact W.iald (v := .int (fx_ai s a j.toNatClampNeg)) hx hb (h2 h) ((hctx.1.2 0 _ rfl).1 _ _) (fun q => by cases q) (by rw [arrV_size]; exact hin) (by rw [arrV_read _ _ hlt]) rfl rfl hd k
  · obtain ⟨g1, g2, g3, g4⟩ := h6 h
    exact W.iald (v := .int (fx_ai s a j.toNatClampNeg)) hx hb g1 hctx.2.2.2 g2 (by rw [g3]; exact hin) (g4 _ hlt) rfl rfl hd k
theorem fx_aldZ (I : fx_in mi p R u m args meth c D dA scr) (hd : decode (fx_cc mi) pc = .ok (.baload, 1)) (hka : fx_kd s a = 71) (hrep : fx_rep D dA scr sz0 s H) {j : Int32} (hin : vp_in j (fx_ln s a))
    (k : W p l e R u m args below meth c H locs cells slots Qf (F0 m (pc + 1) LS (.int (fx_ai s a j.toNatClampNeg) :: rest))) : W p l e R u m args below meth c H locs cells slots Qf (F0 m pc LS (.int j :: .ref a :: rest)) := by
  obtain ⟨hx, hb, hml, hown, hts, hnm, hfr, hlo, hctx⟩ := I
  have hlt : j.toNatClampNeg < fx_ln s a := Nat.not_le.mp fun q => hin (Or.inr q)
  obtain ⟨-, -, h3, -, -, -⟩ := hrep.2.2.2 a
  exact W.zald (v := .int (fx_ai s a j.toNatClampNeg)) hx hb (h3 hka) ((hctx.1.2 1 _ rfl).1 _ _) (fun q => by cases q) (by rw [arrV_size]; exact hin) (by rw [arrV_read _ _ hlt]) rfl rfl hd k
theorem fx_aldL (I : fx_in mi p R u m args meth c D dA scr) (hd : decode (fx_cc mi) pc = .ok (.laload, 1)) (hka : fx_kd s a = 72) (hrep : fx_rep D dA scr sz0 s H) {j : Int32} (hin : vp_in j (fx_ln s a))
    (k : W p l e R u m args below meth c H locs cells slots Qf (F0 m (pc + 1) LS (.long (fx_al s a j.toNatClampNeg) :: rest))) : W p l e R u m args below meth c H locs cells slots Qf (F0 m pc LS (.int j :: .ref a :: rest)) := by
  obtain ⟨hx, hb, hml, hown, hts, hnm, hfr, hlo, hctx⟩ := I
  have hlt : j.toNatClampNeg < fx_ln s a := Nat.not_le.mp fun q => hin (Or.inr q)
  obtain ⟨-, -, -, h4, -, -⟩ := hrep.2.2.2 a
  exact W.lald (v := .long (fx_al s a j.toNatClampNeg)) hx hb (h4 hka) ((hctx.1.2 2 _ rfl).1 _ _) (fun q => by cases q) (by rw [arrV_size]; exact hin) (by rw [arrV_read _ _ hlt]) rfl rfl hd k
theorem fx_aldR (I : fx_in mi p R u m args meth c D dA scr) (hd : decode (fx_cc mi) pc = .ok (.aaload, 1)) (hka : fx_ia (fx_kd s a) = true) (hrep : fx_rep D dA scr sz0 s H) {j : Int32} (hin : vp_in j (fx_ln s a))
    (k : W p l e R u m args below meth c H locs cells slots Qf (F0 m (pc + 1) LS (va_rf (fx_ar s a j.toNatClampNeg) :: rest))) : W p l e R u m args below meth c H locs cells slots Qf (F0 m pc LS (.int j :: .ref a :: rest)) := by
  obtain ⟨hx, hb, hml, hown, hts, hnm, hfr, hlo, hctx⟩ := I
  have hlt : j.toNatClampNeg < fx_ln s a := Nat.not_le.mp fun q => hin (Or.inr q)
  obtain ⟨-, -, -, -, h5, -⟩ := hrep.2.2.2 a
  obtain ⟨t, r, ht, -⟩ := fx_tys_ia dA hka
  exact W.aald (v := va_rf (fx_ar s a j.toNatClampNeg)) (ty := .object r.1) hx hb (h5 hka) ((hctx.1.2 t _ ht).1 _ _) rfl (fun q => by cases q) (by rw [arrV_size]; exact hin) (by rw [arrV_read _ _ hlt]) rfl rfl hd k
end
end
section
section
variable {p : Program} {l : Launch} {e : Env} {R : Room} {u : State} {m : MethodId} {args : Array Value} {below : List Frame} {meth : Method} {c : Code} {Qf : State → Prop} {D : va_G} {dA : Nat → ClassId} {scr : Cell} {sz0 : Nat} {mi pc : Nat} {s : fx_S} {H : Heap} {locs : List Loc} {cells slots : Nat} {LS : Array Slot} {rest : List Value} {a f idx : Nat}
theorem fx_up_row {α : Type} (f : Nat → Nat → α) (a i : Nat) (v : α) (j : Nat) : fx_up f a i v a j = if j = i then v else f a j := by simp [fx_up]
theorem fx_up_off {α : Type} (f : Nat → Nat → α) {a i b : Nat} {v : α} (h : b ≠ a) : fx_up f a i v b = f b := by
  funext j
  exact fx_up_ne (fun q => h q.1)
theorem fx_rep_sai {H1 : Heap} {i : Nat} {x : Int32} {tag : Nat} (htag : tag = 70 ∨ tag = 71) (hka : fx_kd s a = tag) (hrep : fx_rep D dA scr sz0 s H) (z : H1.size = H.size) (oq : ∀ q, q ≠ a → H1[q]? = H[q]?) (he : H1[a]? = some ((arrV (dA tag) (fx_ln s a) (fun j => .int (fx_ai s a j))).setSlot i (.int x))) : fx_rep D dA scr sz0 (fx_sai s a i x) H1 := by
  refine hrep.upd z oq rfl rfl (fun b hb => ⟨fun g => rfl, fun g => rfl, rfl, fx_up_off _ hb, rfl, rfl⟩) ?_
  have hkk : fx_kd (fx_sai s a i x) a = tag := hka
  have key : H1[a]? = some (arrV (dA tag) (fx_ln s a) (fun j => .int (fx_ai (fx_sai s a i x) a j))) := by
    rw [he, arrV_store]
    congr 2
    funext j
    show _ = Value.int (fx_up (fx_ai s) a i x a j)
    rw [fx_up_row]
    by_cases q : j = i
    · simp [updV, q]
    · simp [updV, q]
  refine ⟨fun cj r' g1 g2 => ?_, fun g => ?_, fun g => ?_, fun g => by omega, fun g => ?_, fun g => by omega⟩
  · have hcj : cj < 13 := (List.getElem?_eq_some_iff.mp g2).1
    omega
  · have : tag = 70 := by omega
    subst this; exact key
  · have : tag = 71 := by omega
    subst this; exact key
  · rw [hkk] at g
    simp only [fx_ia, Bool.or_eq_true, beq_iff_eq] at g
    omega
theorem fx_astI (I : fx_in mi p R u m args meth c D dA scr) (hd : decode (fx_cc mi) pc = .ok (.iastore, 1)) (hka : fx_kd s a = 70) (hrep : fx_rep D dA scr sz0 s H) {j x : Int32} (hin : vp_in j (fx_ln s a)) (hS0 : va_S (fun q => sz0 ≤ q) u.heap H locs)
    (k : ∀ (H1 : Heap) (locs1 : List Loc), fx_rep D dA scr sz0 (fx_sai s a j.toNatClampNeg x) H1 → va_S (fun q => sz0 ≤ q) u.heap H1 locs1 → W p l e R u m args below meth c H1 locs1 cells slots Qf (F0 m (pc + 1) LS rest)) : W p l e R u m args below meth c H locs cells slots Qf (F0 m pc LS (.int x :: .int j :: .ref a :: rest)) := by
  obtain ⟨hx, hb, hml, hown, hts, hnm, hfr, hlo, hctx⟩ := I
  have hsz : sz0 ≤ a := hrep.2.2.1 a (by omega) (by omega)
  obtain ⟨-, h2, -, -, -, -⟩ := hrep.2.2.2 a
  refine W.iast hx hb (h2 hka) ((hctx.1.2 0 _ rfl).1 _ _) (fun q => by cases q) (by rw [arrV_size]; exact hin) rfl rfl hd fun H1 e1 z oq => ?_
  exact k H1 _ (fx_rep_sai (Or.inl rfl) hka hrep z oq e1) (hS0.put z oq hsz)
theorem fx_astZ (I : fx_in mi p R u m args meth c D dA scr) (hd : decode (fx_cc mi) pc = .ok (.bastore, 1)) (hka : fx_kd s a = 71) (hrep : fx_rep D dA scr sz0 s H) {j x : Int32} (hin : vp_in j (fx_ln s a)) (hx1 : x = 0 ∨ x = 1) (hS0 : va_S (fun q => sz0 ≤ q) u.heap H locs)
    (k : ∀ (H1 : Heap) (locs1 : List Loc), fx_rep D dA scr sz0 (fx_sai s a j.toNatClampNeg x) H1 → va_S (fun q => sz0 ≤ q) u.heap H1 locs1 → W p l e R u m args below meth c H1 locs1 cells slots Qf (F0 m (pc + 1) LS rest)) : W p l e R u m args below meth c H locs cells slots Qf (F0 m pc LS (.int x :: .int j :: .ref a :: rest)) := by
  obtain ⟨hx, hb, hml, hown, hts, hnm, hfr, hlo, hctx⟩ := I
  have hsz : sz0 ≤ a := hrep.2.2.1 a (by omega) (by omega)
  obtain ⟨-, -, h3, -, -, -⟩ := hrep.2.2.2 a
  have hnar : narrow .boolean (.int x) = .int x := by rcases hx1 with e | e <;> subst e <;> decide
  refine W.zast hx hb (h3 hka) ((hctx.1.2 1 _ rfl).1 _ _) (fun q => by cases q) (by rw [arrV_size]; exact hin) rfl rfl hd fun H1 e1 z oq => ?_
  rw [hnar] at e1
  exact k H1 _ (fx_rep_sai (Or.inr rfl) hka hrep z oq e1) (hS0.put z oq hsz)
theorem fx_astL (I : fx_in mi p R u m args meth c D dA scr) (hd : decode (fx_cc mi) pc = .ok (.lastore, 1)) (hka : fx_kd s a = 72) (hrep : fx_rep D dA scr sz0 s H) {j : Int32} {x : Int64} (hin : vp_in j (fx_ln s a)) (hS0 : va_S (fun q => sz0 ≤ q) u.heap H locs)
    (k : ∀ (H1 : Heap) (locs1 : List Loc), fx_rep D dA scr sz0 (fx_sal s a j.toNatClampNeg x) H1 → va_S (fun q => sz0 ≤ q) u.heap H1 locs1 → W p l e R u m args below meth c H1 locs1 cells slots Qf (F0 m (pc + 1) LS rest)) : W p l e R u m args below meth c H locs cells slots Qf (F0 m pc LS (.long x :: .int j :: .ref a :: rest)) := by
  obtain ⟨hx, hb, hml, hown, hts, hnm, hfr, hlo, hctx⟩ := I
  have hsz : sz0 ≤ a := hrep.2.2.1 a (by omega) (by omega)
  obtain ⟨-, -, -, h4, -, -⟩ := hrep.2.2.2 a
  refine W.last hx hb (h4 hka) ((hctx.1.2 2 _ rfl).1 _ _) (fun q => by cases q) (by rw [arrV_size]; exact hin) rfl rfl hd fun H1 e1 z oq => ?_
  refine k H1 _ (hrep.upd z oq rfl rfl (fun b hb => ⟨fun g => rfl, fun g => rfl, rfl, rfl, rfl, fx_up_off _ hb⟩) ?_) (hS0.put z oq hsz)
  have hkk : fx_kd (fx_sal s a j.toNatClampNeg x) a = 72 := hka
  refine ⟨fun cj r' g1 g2 => ?_, fun g => by omega, fun g => by omega, fun g => ?_, fun g => ?_, fun g => by omega⟩
  · have hcj : cj < 13 := (List.getElem?_eq_some_iff.mp g2).1
    omega
  · rw [e1, arrV_store]
    congr 2
    funext i
    show _ = Value.long (fx_up (fx_al s) a j.toNatClampNeg x a i)
    rw [fx_up_row]
    by_cases q : i = j.toNatClampNeg
    · simp [updV, q]
    · simp [updV, q]
  · rw [hkk] at g
    simp only [fx_ia, Bool.or_eq_true, beq_iff_eq] at g
    omega
theorem fx_rep_sar {H1 : Heap} {i : Nat} {v : Option Nat} (hia : fx_ia (fx_kd s a) = true) (hrep : fx_rep D dA scr sz0 s H) (z : H1.size = H.size) (oq : ∀ q, q ≠ a → H1[q]? = H[q]?) (he : H1[a]? = some ((arrV (dA (fx_kd s a)) (fx_ln s a) (fun j => va_rf (fx_ar s a j))).setSlot i (va_rf v))) : fx_rep D dA scr sz0 (fx_sar s a i v) H1 := by
  refine hrep.upd z oq rfl rfl (fun b hb => ⟨fun g => rfl, fun g => rfl, rfl, rfl, fx_up_off _ hb, rfl⟩) ?_
  have hkk : fx_kd (fx_sar s a i v) a = fx_kd s a := rfl
  have hr : 41 ≤ fx_kd s a ∧ fx_kd s a ≤ 46 := by
    simp only [fx_ia, Bool.or_eq_true, beq_iff_eq] at hia
    omega
  refine ⟨fun cj r' g1 g2 => ?_, fun g => by omega, fun g => by omega, fun g => by omega, fun g => ?_, fun g => by omega⟩
  · have hcj : cj < 13 := (List.getElem?_eq_some_iff.mp g2).1
    omega
  · rw [hkk, he, arrV_store]
    congr 2
    funext j
    show _ = va_rf (fx_up (fx_ar s) a i v a j)
    rw [fx_up_row]
    by_cases q : j = i
    · simp [updV, q]
    · simp [updV, q]
theorem fx_astR (I : fx_in mi p R u m args meth c D dA scr) (hd : decode (fx_cc mi) pc = .ok (.aastore, 1)) (hka : fx_ia (fx_kd s a) = true) (hrep : fx_rep D dA scr sz0 s H) {j : Int32} {v : Option Nat} (hin : vp_in j (fx_ln s a)) (hv : ∀ b, v = some b → fx_kd s b = fx_kd s a - 30) (hS0 : va_S (fun q => sz0 ≤ q) u.heap H locs)
    (k : ∀ (H1 : Heap) (locs1 : List Loc), fx_rep D dA scr sz0 (fx_sar s a j.toNatClampNeg v) H1 → va_S (fun q => sz0 ≤ q) u.heap H1 locs1 → W p l e R u m args below meth c H1 locs1 cells slots Qf (F0 m (pc + 1) LS rest)) : W p l e R u m args below meth c H locs cells slots Qf (F0 m pc LS (va_rf v :: .int j :: .ref a :: rest)) := by
  obtain ⟨hx, hb, hml, hown, hts, hnm, hfr, hlo, hctx⟩ := I
  have hlt : j.toNatClampNeg < fx_ln s a := Nat.not_le.mp fun q => hin (Or.inr q)
  have h0 : ¬ j < 0 := fun q => hin (Or.inl q)
  have hrg : 41 ≤ fx_kd s a ∧ fx_kd s a ≤ 46 := by
    have hia := hka
    simp only [fx_ia, Bool.or_eq_true, beq_iff_eq] at hia
    omega
  have hsz : sz0 ≤ a := hrep.2.2.1 a (by omega) (by omega)
  obtain ⟨-, -, -, -, h5, -⟩ := hrep.2.2.2 a
  obtain ⟨t, r, ht, hr⟩ := fx_tys_ia dA hka
  cases v with
  | none =>
    refine va_WaastN (C := r.1) hx hb (h5 hka) ((hctx.1.2 t _ ht).1 _ _) (fun q => by cases q) (by rw [arrV_size]; exact hin) rfl rfl hd fun H1 e1 z oq => ?_
    exact k H1 _ (fx_rep_sar (v := none) hka hrep z oq e1) (hS0.put z oq hsz)
  | some b =>
    have hkb := hv b rfl
    obtain ⟨cellV, g1, g2, g3, -⟩ := (hrep.2.2.2 b).1 (fx_kd s a - 40) r (by omega) hr
    have hcls := (hctx.1.1 (fx_kd s a - 40) r hr).2
    obtain ⟨kA, comp, k1, k2, k3, -⟩ := (hctx.1.2 t _ ht).2
    have hcomp : comp = D.1 (fx_kd s a - 40) := Option.some.inj (k3.symm.trans hcls.1)
    subst hcomp
    obtain ⟨kC, hkC, -⟩ := hcls.2
    refine W.aast hx hb (h5 hka) (fun q h => by cases h) (fun h => by cases h) k1 k2 rfl hkC ⟨h0, by rw [arrV_size]; exact hlt⟩ g1 (fun q h => by rw [g3] at h; cases h) (by rw [g2]; exact hkC) (by rw [g2]; exact va_assign hcls) rfl rfl hd fun H1 e1 z oq => ?_
    exact k H1 _ (fx_rep_sar (v := some b) hka hrep z oq e1) (hS0.put z oq hsz)
end
end
section
theorem fx_cat : ∀ st : List fx_V, ((st.map fx_val).map fun v => v.category).sum ≤ 2 * st.length
  | [] => Nat.le_refl _
  | v :: l => by
    have h1 := fx_cat l
    have h2 : (fx_val v).category ≤ 2 := by rcases lv_cat (fx_val v) with h | h <;> omega
    simp only [List.map_cons, List.sum_cons, List.length_cons]
    omega
theorem fx_maxcIn : Cond.code Lib.Math.max.name Lib.Math.max.code 2 (some .int) ∈ fx_T1 := List.mem_filter.mpr ⟨List.mem_of_getElem? fx_maxc, rfl⟩
section
variable {p : Program} {l : Launch} {e : Env} {R : Room} {u : State} {m : MethodId} {args : Array Value} {below : List Frame} {meth : Method} {c : Code} {Qf : State → Prop} {D : va_G} {dA : Nat → ClassId} {scr : Cell} {sz0 nS lS : Nat} {mi pc np r1 r2 : Nat} {i : Instr} {ls : fx_L} {st : List fx_V} {s : fx_S}
set_option maxHeartbeats 8000000 in
theorem fx_stepJ (I : fx_in mi p R u m args meth c D dA scr) (ht : fx_tab mi pc = some (i, np, r1, r2)) (hl : ls.length = fx_ml mi) (hv : fx_inv s ls st) {C : Prop} {pc' : Nat} {ls' : fx_L} {st' : List fx_V} {s' : fx_S} (ha : fx_act mi pc i np r1 r2 ls st s = fx_J C pc' ls' st' s') (hC : C) (hcells : fx_nx s' - nS ≤ R.cells) (hslots : fx_sl s' - lS ≤ R.slots)
    (k : fx_Sd p l e R u m args below meth c Qf D dA scr sz0 nS lS pc' ls' st' s') : fx_Sd p l e R u m args below meth c Qf D dA scr sz0 nS lS pc ls st s := by
  intro hn1 hl1 H locs LS hrep hlo hS
  obtain ⟨w, hok, -⟩ := fx_entry ht
  have I' := I
  obtain ⟨hx, hb, hml, hown, hts, hnm, hfr, hlw, hctx⟩ := I
  simp only [fx_okE, Bool.and_eq_true, decide_eq_true_eq] at hok
  obtain ⟨⟨hokT, hd⟩, hok⟩ := hok
  unfold fx_act at ha
  split at ha
  · -- iconst
    obtain ⟨rfl, rfl, rfl, rfl, rfl⟩ := fx_J_inj ha
    simp only [Bool.and_eq_true, beq_iff_eq, decide_eq_true_eq] at hok
    obtain ⟨h1, h2⟩ := hok
    rw [h1, show pc + 1 - pc = 1 by omega] at hd
    rw [h1] at k
    exact lv_iconst hx hb hd h2 (k hn1 hl1 H locs LS hrep hlo hS)
  · -- bipush
    obtain ⟨rfl, rfl, rfl, rfl, rfl⟩ := fx_J_inj ha
    simp only [Bool.and_eq_true, beq_iff_eq, decide_eq_true_eq] at hok
    obtain ⟨h1, h2⟩ := hok
    rw [h1, show pc + 2 - pc = 2 by omega] at hd
    rw [h1] at k
    exact lv_bipush hx hb hd h2 (k hn1 hl1 H locs LS hrep hlo hS)
  · -- sipush
    obtain ⟨rfl, rfl, rfl, rfl, rfl⟩ := fx_J_inj ha
    simp only [Bool.and_eq_true, beq_iff_eq, decide_eq_true_eq] at hok
    obtain ⟨h1, h2⟩ := hok
    rw [h1, show pc + 3 - pc = 3 by omega] at hd
    rw [h1] at k
    exact lv_sipush hx hb hd h2 (k hn1 hl1 H locs LS hrep hlo hS)
  · -- ldc
    obtain ⟨rfl, rfl, rfl, rfl, rfl⟩ := fx_J_inj ha
    simp only [Bool.and_eq_true, beq_iff_eq, decide_eq_true_eq] at hok
    obtain ⟨h1, h2⟩ := hok
    rw [h1, show pc + 2 - pc = 2 by omega] at hd
    rw [h1] at k
    exact lv_ldc hx hb hown (hts _ (fx_wd_in h2)) hd (k hn1 hl1 H locs LS hrep hlo hS)
  · -- aconst_null
    obtain ⟨rfl, rfl, rfl, rfl, rfl⟩ := fx_J_inj ha
    simp only [beq_iff_eq] at hok
    rw [hok, show pc + 1 - pc = 1 by omega] at hd
    rw [hok] at k
    exact lv_null hx hb hd (k hn1 hl1 H locs LS hrep hlo hS)
  · -- iload_n
    simp only [Bool.and_eq_true, beq_iff_eq, decide_eq_true_eq] at hok
    obtain ⟨h1, h2⟩ := hok
    rw [h1, show pc + 1 - pc = 1 by omega] at hd
    split at ha
    · rename_i x hg
      obtain ⟨rfl, rfl, rfl, rfl, rfl⟩ := fx_J_inj ha
      rw [h1] at k
      have hL := hlo.at hg
      exact lv_iload_n hx hb hd h2 hL (k hn1 hl1 H locs LS hrep hlo hS)
    · exact absurd ha (by simp [fx_J])
  · -- iload
    simp only [Bool.and_eq_true, beq_iff_eq, decide_eq_true_eq] at hok
    obtain ⟨h1, h2⟩ := hok
    rw [h1, show pc + 2 - pc = 2 by omega] at hd
    split at ha
    · rename_i x hg
      obtain ⟨rfl, rfl, rfl, rfl, rfl⟩ := fx_J_inj ha
      rw [h1] at k
      have hL := hlo.at hg
      exact lv_iload hx hb hd (by rw [h2]; exact hL) (k hn1 hl1 H locs LS hrep hlo hS)
    · exact absurd ha (by simp [fx_J])
  · -- aload_n
    simp only [Bool.and_eq_true, beq_iff_eq, decide_eq_true_eq] at hok
    obtain ⟨h1, h2⟩ := hok
    rw [h1, show pc + 1 - pc = 1 by omega] at hd
    split at ha
    · rename_i v hg
      obtain ⟨rfl, rfl, rfl, rfl, rfl⟩ := fx_J_inj ha
      rw [h1] at k
      have hL := hlo.at hg
      obtain ⟨tg, o⟩ := v
      have kk := k hn1 hl1 H locs LS hrep hlo hS
      cases o with
      | none => exact lv_aload_nN hx hb hd h2 hL kk
      | some y => exact lv_aload_n hx hb hd h2 hL kk
    · exact absurd ha (by simp [fx_J])
  · -- aload
    simp only [Bool.and_eq_true, beq_iff_eq, decide_eq_true_eq] at hok
    obtain ⟨h1, h2⟩ := hok
    rw [h1, show pc + 2 - pc = 2 by omega] at hd
    split at ha
    · rename_i v hg
      obtain ⟨rfl, rfl, rfl, rfl, rfl⟩ := fx_J_inj ha
      rw [h1] at k
      have hL := hlo.at hg
      obtain ⟨tg, o⟩ := v
      have kk := k hn1 hl1 H locs LS hrep hlo hS
      cases o with
      | none => exact lv_aloadN hx hb hd (by rw [h2]; exact hL) kk
      | some y => exact lv_aload hx hb hd (by rw [h2]; exact hL) kk
    · exact absurd ha (by simp [fx_J])
  · -- istore_n
    simp only [Bool.and_eq_true, beq_iff_eq, decide_eq_true_eq, Nat.blt_eq] at hok
    obtain ⟨⟨h1, h2⟩, h3⟩ := hok
    rw [h1, show pc + 1 - pc = 1 by omega] at hd
    split at ha
    · rename_i x st'
      obtain ⟨rfl, rfl, rfl, rfl, rfl⟩ := fx_J_inj ha
      rw [h1] at k
      refine lv_istore_n (i := r1) hx hb hd h2 hlo.1 (by rw [hl]; exact h3) rfl (fun LS' hL' => ?_)
      exact k hn1 hl1 H locs LS' hrep (hlo.set (by rw [hl]; exact h3) rfl hL') hS
    · exact absurd ha (by simp [fx_J])
  · -- istore
    simp only [Bool.and_eq_true, beq_iff_eq, decide_eq_true_eq, Nat.blt_eq] at hok
    obtain ⟨⟨h1, h2⟩, h3⟩ := hok
    rw [h1, show pc + 2 - pc = 2 by omega] at hd
    split at ha
    · rename_i x st'
      obtain ⟨rfl, rfl, rfl, rfl, rfl⟩ := fx_J_inj ha
      rw [h1] at k
      refine lv_istore (i := r1) hx hb (by rw [← h2]; exact hd) hlo.1 (by rw [hl]; exact h3) rfl (fun LS' hL' => ?_)
      exact k hn1 hl1 H locs LS' hrep (hlo.set (by rw [hl]; exact h3) rfl hL') hS
    · exact absurd ha (by simp [fx_J])
  · -- astore_n
    simp only [Bool.and_eq_true, beq_iff_eq, decide_eq_true_eq, Nat.blt_eq] at hok
    obtain ⟨⟨h1, h2⟩, h3⟩ := hok
    rw [h1, show pc + 1 - pc = 1 by omega] at hd
    split at ha
    · rename_i v st'
      obtain ⟨rfl, rfl, rfl, rfl, rfl⟩ := fx_J_inj ha
      rw [h1] at k
      obtain ⟨tg, o⟩ := v
      cases o with
      | none =>
        refine lv_astore_nN (i := r1) hx hb hd h2 hlo.1 (by rw [hl]; exact h3) rfl (fun LS' hL' => ?_)
        exact k hn1 hl1 H locs LS' hrep (hlo.set (by rw [hl]; exact h3) rfl hL') hS
      | some y =>
        refine lv_astore_n (i := r1) hx hb hd h2 hlo.1 (by rw [hl]; exact h3) rfl (fun LS' hL' => ?_)
        exact k hn1 hl1 H locs LS' hrep (hlo.set (by rw [hl]; exact h3) rfl hL') hS
    · exact absurd ha (by simp [fx_J])
  · -- astore
    simp only [Bool.and_eq_true, beq_iff_eq, decide_eq_true_eq, Nat.blt_eq] at hok
    obtain ⟨⟨h1, h2⟩, h3⟩ := hok
    rw [h1, show pc + 2 - pc = 2 by omega] at hd
    split at ha
    · rename_i v st'
      obtain ⟨rfl, rfl, rfl, rfl, rfl⟩ := fx_J_inj ha
      rw [h1] at k
      obtain ⟨tg, o⟩ := v
      cases o with
      | none =>
        refine lv_astoreN (i := r1) hx hb (by rw [← h2]; exact hd) hlo.1 (by rw [hl]; exact h3) rfl (fun LS' hL' => ?_)
        exact k hn1 hl1 H locs LS' hrep (hlo.set (by rw [hl]; exact h3) rfl hL') hS
      | some y =>
        refine lv_astore (i := r1) hx hb (by rw [← h2]; exact hd) hlo.1 (by rw [hl]; exact h3) rfl (fun LS' hL' => ?_)
        exact k hn1 hl1 H locs LS' hrep (hlo.set (by rw [hl]; exact h3) rfl hL') hS
    · exact absurd ha (by simp [fx_J])
  · -- iinc
    simp only [Bool.and_eq_true, beq_iff_eq, decide_eq_true_eq, Nat.blt_eq] at hok
    obtain ⟨⟨⟨h1, h2⟩, h3⟩, h4⟩ := hok
    rw [h1, show pc + 3 - pc = 3 by omega] at hd
    split at ha
    · rename_i x hg
      obtain ⟨rfl, rfl, rfl, rfl, rfl⟩ := fx_J_inj ha
      rw [h1] at k
      rw [h2] at hd
      obtain ⟨q, hq⟩ := List.getElem?_of_mem ((fx_pairs_mem ls 0 (r1, Value.int x)).mpr ⟨r1, .inl x, by simp [fx_val], hg⟩)
      refine lv_iinc hx hb hd hlo.1 hq (by rw [h4]) (by rw [hl]; exact h3) rfl (fun LS' hL' => ?_)
      exact k hn1 hl1 H locs LS' hrep (hlo.set (v := .inl (x + fx_ic _)) (by rw [hl]; exact h3) rfl hL') hS
    · exact absurd ha (by simp [fx_J])
  · -- iadd
    simp only [beq_iff_eq] at hok
    rw [hok, show pc + 1 - pc = 1 by omega] at hd
    split at ha
    · rename_i y x st'
      obtain ⟨rfl, rfl, rfl, rfl, rfl⟩ := fx_J_inj ha
      rw [hok] at k
      exact lv_iadd hx hb hd (k hn1 hl1 H locs LS hrep hlo hS)
    · exact absurd ha (by simp [fx_J])
  · -- isub
    simp only [beq_iff_eq] at hok
    rw [hok, show pc + 1 - pc = 1 by omega] at hd
    split at ha
    · rename_i y x st'
      obtain ⟨rfl, rfl, rfl, rfl, rfl⟩ := fx_J_inj ha
      rw [hok] at k
      exact lv_isub hx hb hd (k hn1 hl1 H locs LS hrep hlo hS)
    · exact absurd ha (by simp [fx_J])
  · -- imul
    simp only [beq_iff_eq] at hok
    rw [hok, show pc + 1 - pc = 1 by omega] at hd
    split at ha
    · rename_i y x st'
      obtain ⟨rfl, rfl, rfl, rfl, rfl⟩ := fx_J_inj ha
      rw [hok] at k
      exact lv_imul hx hb hd (k hn1 hl1 H locs LS hrep hlo hS)
    · exact absurd ha (by simp [fx_J])
  · -- idiv
    simp only [beq_iff_eq] at hok
    rw [hok, show pc + 1 - pc = 1 by omega] at hd
    split at ha
    · rename_i y x st'
      obtain ⟨rfl, rfl, rfl, rfl, rfl⟩ := fx_J_inj ha
      rw [hok] at k
      exact lv_idiv hx hb hd hC (k hn1 hl1 H locs LS hrep hlo hS)
    · exact absurd ha (by simp [fx_J])
  · -- irem
    simp only [beq_iff_eq] at hok
    rw [hok, show pc + 1 - pc = 1 by omega] at hd
    split at ha
    · rename_i y x st'
      obtain ⟨rfl, rfl, rfl, rfl, rfl⟩ := fx_J_inj ha
      rw [hok] at k
      exact lv_irem hx hb hd hC (k hn1 hl1 H locs LS hrep hlo hS)
    · exact absurd ha (by simp [fx_J])
  · -- iand
    simp only [beq_iff_eq] at hok
    rw [hok, show pc + 1 - pc = 1 by omega] at hd
    split at ha
    · rename_i y x st'
      obtain ⟨rfl, rfl, rfl, rfl, rfl⟩ := fx_J_inj ha
      rw [hok] at k
      exact lv_iand hx hb hd (k hn1 hl1 H locs LS hrep hlo hS)
    · exact absurd ha (by simp [fx_J])
  · -- ior
    simp only [beq_iff_eq] at hok
    rw [hok, show pc + 1 - pc = 1 by omega] at hd
    split at ha
    · rename_i y x st'
      obtain ⟨rfl, rfl, rfl, rfl, rfl⟩ := fx_J_inj ha
      rw [hok] at k
      exact lv_ior hx hb hd (k hn1 hl1 H locs LS hrep hlo hS)
    · exact absurd ha (by simp [fx_J])
  · -- ixor
    simp only [beq_iff_eq] at hok
    rw [hok, show pc + 1 - pc = 1 by omega] at hd
    split at ha
    · rename_i y x st'
      obtain ⟨rfl, rfl, rfl, rfl, rfl⟩ := fx_J_inj ha
      rw [hok] at k
      exact lv_ixor hx hb hd (k hn1 hl1 H locs LS hrep hlo hS)
    · exact absurd ha (by simp [fx_J])
  · -- ishl
    simp only [beq_iff_eq] at hok
    rw [hok, show pc + 1 - pc = 1 by omega] at hd
    split at ha
    · rename_i y x st'
      obtain ⟨rfl, rfl, rfl, rfl, rfl⟩ := fx_J_inj ha
      rw [hok] at k
      exact lv_ishl hx hb hd (k hn1 hl1 H locs LS hrep hlo hS)
    · exact absurd ha (by simp [fx_J])
  · -- i2l
    simp only [beq_iff_eq] at hok
    rw [hok, show pc + 1 - pc = 1 by omega] at hd
    split at ha
    · rename_i x st'
      obtain ⟨rfl, rfl, rfl, rfl, rfl⟩ := fx_J_inj ha
      rw [hok] at k
      exact lv_i2l hx hb hd rfl (k hn1 hl1 H locs LS hrep hlo hS)
    · exact absurd ha (by simp [fx_J])
  · -- lcmp
    simp only [beq_iff_eq] at hok
    rw [hok, show pc + 1 - pc = 1 by omega] at hd
    split at ha
    · rename_i y x st'
      obtain ⟨rfl, rfl, rfl, rfl, rfl⟩ := fx_J_inj ha
      rw [hok] at k
      exact W.lcmp hx hb hd (k hn1 hl1 H locs LS hrep hlo hS)
    · exact absurd ha (by simp [fx_J])
  · -- dup
    simp only [beq_iff_eq] at hok
    rw [hok, show pc + 1 - pc = 1 by omega] at hd
    split at ha
    · rename_i x st'
      obtain ⟨rfl, rfl, rfl, rfl, rfl⟩ := fx_J_inj ha
      rw [hok] at k
      exact lv_dup hx hb hd rfl (k hn1 hl1 H locs LS hrep hlo hS)
    · rename_i v st'
      obtain ⟨rfl, rfl, rfl, rfl, rfl⟩ := fx_J_inj ha
      rw [hok] at k
      obtain ⟨tg, o⟩ := v
      exact lv_dup hx hb hd (by cases o <;> rfl) (k hn1 hl1 H locs LS hrep hlo hS)
    · exact absurd ha (by simp [fx_J])
  · -- dup2
    simp only [beq_iff_eq] at hok
    rw [hok, show pc + 1 - pc = 1 by omega] at hd
    split at ha
    · rename_i x v st'
      obtain ⟨rfl, rfl, rfl, rfl, rfl⟩ := fx_J_inj ha
      rw [hok] at k
      obtain ⟨tg, o⟩ := v
      exact lv_dup2_11 hx hb hd rfl (by cases o <;> rfl) (k hn1 hl1 H locs LS hrep hlo hS)
    · exact absurd ha (by simp [fx_J])
  · -- pop
    simp only [beq_iff_eq] at hok
    rw [hok, show pc + 1 - pc = 1 by omega] at hd
    split at ha
    · rename_i x st'
      obtain ⟨rfl, rfl, rfl, rfl, rfl⟩ := fx_J_inj ha
      rw [hok] at k
      exact lv_pop hx hb hd rfl (k hn1 hl1 H locs LS hrep hlo hS)
    · rename_i v st'
      obtain ⟨rfl, rfl, rfl, rfl, rfl⟩ := fx_J_inj ha
      rw [hok] at k
      obtain ⟨tg, o⟩ := v
      exact lv_pop hx hb hd (by cases o <;> rfl) (k hn1 hl1 H locs LS hrep hlo hS)
    · exact absurd ha (by simp [fx_J])
  · -- goto
    simp only [Bool.and_eq_true, beq_iff_eq, decide_eq_true_eq] at hok
    obtain ⟨h1, h2⟩ := hok
    rw [h1, show pc + 3 - pc = 3 by omega] at hd
    obtain ⟨rfl, rfl, rfl, rfl, rfl⟩ := fx_J_inj ha
    exact lv_goto hx hb hd h2 (k hn1 hl1 H locs LS hrep hlo hS)
  · -- ifCond
    split at ha
    · exact absurd ha (by simp [fx_J, fx_B])
    · exact absurd ha (by simp [fx_J])
  · -- if_icmp
    split at ha
    · exact absurd ha (by simp [fx_J, fx_B])
    · exact absurd ha (by simp [fx_J])
  · -- ifnull
    split at ha
    · exact absurd ha (by simp [fx_J, fx_B])
    · exact absurd ha (by simp [fx_J])
  · -- ifnonnull
    split at ha
    · exact absurd ha (by simp [fx_J, fx_B])
    · exact absurd ha (by simp [fx_J])
  · -- acmpeq
    split at ha
    · exact absurd ha (by simp [fx_J, fx_B])
    · exact absurd ha (by simp [fx_J])
  · -- acmpne
    split at ha
    · exact absurd ha (by simp [fx_J, fx_B])
    · exact absurd ha (by simp [fx_J])
  · -- tableswitch
    rename_i d lo hi offs
    simp only [Bool.and_eq_true, decide_eq_true_eq] at hok
    obtain ⟨⟨h1, h2⟩, h3⟩ := hok
    split at ha
    · rename_i x st'
      obtain ⟨rfl, rfl, rfl, rfl, rfl⟩ := fx_J_inj ha
      have kk := k hn1 hl1 H locs LS hrep hlo hS
      by_cases hr : x.toInt < lo ∨ hi < x.toInt
      · exact lv_tableOut hx hb hd hr (tgt := fx_sw pc d lo hi offs x) (by simp only [fx_sw, if_pos hr]; omega) kk
      · have hlt : (x.toInt - lo).toNat < offs.size := by rw [h3]; omega
        have ho : offs[(x.toInt - lo).toNat]? = some offs[(x.toInt - lo).toNat] := Array.getElem?_eq_getElem hlt
        have h4 := List.all_eq_true.mp h2 _ (Array.getElem_mem_toList hlt)
        simp only [decide_eq_true_eq] at h4
        exact lv_tableIn hx hb hd (fun q => hr (Or.inl q)) (fun q => hr (Or.inr q)) ho (tgt := fx_sw pc d lo hi offs x) (by simp only [fx_sw, if_neg hr, ho, Option.getD_some]; omega) kk
    · exact absurd ha (by simp [fx_J])
  · -- getfield
    simp only [Bool.and_eq_true, beq_iff_eq, Nat.blt_eq] at hok
    obtain ⟨⟨⟨h1, h2⟩, h3⟩, h4⟩ := hok
    rw [h1, show pc + 3 - pc = 3 by omega] at hd
    split at ha
    · rename_i c' a st'
      cases hc : (c' == 10 + r1 / 64)
      · rw [hc] at ha; exact absurd ha (by simp [fx_J])
      · have hc' : c' = 10 + r1 / 64 := by simpa using hc
        rw [hc] at ha
        have hka := (hv.2.2.2.hd).1.trans hc'
        have hr : fx_ft r1 = r2 := by simpa [fx_okT] using hokT
        cases h5 : Nat.ble r2 1
        · rw [h5] at ha
          obtain ⟨rfl, rfl, rfl, rfl, rfl⟩ := fx_J_inj ha
          rw [h1] at k
          refine fx_getf I' hd (fx_wd_in h4) h2 h3 hka hrep ?_
          rw [fx_fv_r (by rw [hr]; exact Nat.lt_of_not_le (fun q => by rw [Nat.ble_eq_true_of_le q] at h5; cases h5))]
          exact k hn1 hl1 H locs LS hrep hlo hS
        · rw [h5] at ha
          obtain ⟨rfl, rfl, rfl, rfl, rfl⟩ := fx_J_inj ha
          rw [h1] at k
          refine fx_getf I' hd (fx_wd_in h4) h2 h3 hka hrep ?_
          rw [fx_fv_i (by rw [hr]; exact Nat.le_of_ble_eq_true h5)]
          exact k hn1 hl1 H locs LS hrep hlo hS
    · exact absurd ha (by simp [fx_J])
  · -- putfield
    simp only [Bool.and_eq_true, beq_iff_eq, Nat.blt_eq, Bool.or_eq_true, Bool.not_eq_true'] at hok
    obtain ⟨⟨⟨⟨h1, h2⟩, h3⟩, h4⟩, h5⟩ := hok
    rw [h1, show pc + 3 - pc = 3 by omega] at hd
    have hr : fx_ft r1 = r2 := by simpa [fx_okT] using hokT
    split at ha
    · rename_i x c' a st'
      cases hc : (c' == 10 + r1 / 64 && Nat.ble r2 1)
      · rw [hc] at ha; exact absurd ha (by simp [fx_J])
      · rw [hc] at ha
        simp only [Bool.and_eq_true, beq_iff_eq] at hc
        obtain ⟨rfl, rfl, rfl, rfl, rfl⟩ := fx_J_inj ha
        rw [h1] at k
        have hka := (hv.2.2.2.tl.hd).1.trans hc.1
        exact fx_puti I' hd (fx_wd_in h4) h2 h3 h5 hka hrep (by rw [hr]; exact Nat.le_of_ble_eq_true hc.2) (fun q => hC (by rw [← hr]; exact q)) hS (fun H1 locs1 g1 g2 => k hn1 hl1 H1 locs1 LS g1 hlo g2)
    · rename_i c2 v c' a st'
      cases hc : (c' == 10 + r1 / 64 && Nat.ble 2 r2)
      · rw [hc] at ha; exact absurd ha (by simp [fx_J])
      · rw [hc] at ha
        simp only [Bool.and_eq_true, beq_iff_eq] at hc
        obtain ⟨rfl, rfl, rfl, rfl, rfl⟩ := fx_J_inj ha
        rw [h1] at k
        have hka := (hv.2.2.2.tl.hd).1.trans hc.1
        exact fx_putr I' hd (fx_wd_in h4) h2 h3 h5 hka hrep (by rw [hr]; exact Nat.le_of_ble_eq_true hc.2) hS (fun H1 locs1 g1 g2 => k hn1 hl1 H1 locs1 LS g1 hlo g2)
    · exact absurd ha (by simp [fx_J])
  · -- new
    cases h9 : Nat.ble 900 r1
    · rw [h9] at ha
      cases h8 : Nat.ble r1 12
      · rw [h8] at ha; exact absurd ha (by simp [fx_J])
      · rw [h8] at ha
        obtain ⟨rfl, rfl, rfl, rfl, rfl⟩ := fx_J_inj ha
        simp only [Bool.and_eq_true, beq_iff_eq, Bool.or_eq_true, h9, Bool.false_eq_true, false_or] at hok
        obtain ⟨h1, h2, h3⟩ := hok
        rw [h1, show pc + 3 - pc = 3 by omega] at hd
        rw [h1] at k
        obtain ⟨r, hr⟩ := fx_cls_ex (ci := r1) (by have := Nat.le_of_ble_eq_true h8; omega)
        obtain ⟨e1, e2⟩ := fx_Cn_eq hr
        rw [e1] at h2
        rw [e2] at h3
        subst h3
        have a1 : fx_nx (fx_new s (10 + r1) r.2.2) = fx_nx s + 1 := rfl
        have a2 : fx_sl (fx_new s (10 + r1) r.2.2) = fx_sl s + r.2.2 := rfl
        rw [a1] at hcells
        rw [a2] at hslots
        refine fx_newo I' hr hd (fx_wd_in h2) hv.1 hrep (by omega) (by omega) hS (fun H1 g1 g2 => ?_)
        have kk := k (by rw [a1]; omega) (by rw [a2]; omega) H1 locs LS g1 hlo g2
        rw [a1, a2, show fx_nx s + 1 - nS = fx_nx s - nS + 1 by omega, show fx_sl s + r.2.2 - lS = fx_sl s - lS + r.2.2 by omega] at kk
        exact kk
    · rw [h9] at ha; exact absurd ha (by simp [fx_J, fx_T])
  · -- newarray
    rename_i atype
    split at ha
    · rename_i x st'
      cases h8 : (Nat.ble 70 r1 && Nat.ble r1 72)
      · rw [h8] at ha; exact absurd ha (by simp [fx_J])
      · rw [h8] at ha
        obtain ⟨rfl, rfl, rfl, rfl, rfl⟩ := fx_J_inj ha
        simp only [Bool.and_eq_true, beq_iff_eq] at hok
        obtain ⟨⟨h1, h2⟩, h3⟩ := hok
        rw [h1, show pc + 2 - pc = 2 by omega] at hd
        rw [h1] at k
        have a1 : fx_nx (fx_newa s r1 x.toNatClampNeg) = fx_nx s + 1 := rfl
        have a2 : fx_sl (fx_newa s r1 x.toNatClampNeg) = fx_sl s + x.toNatClampNeg := rfl
        rw [a1] at hcells
        rw [a2] at hslots
        have hk3 : ∃ t0 : Nat, (fx_tys dA)[t0]? = some (dA r1, newarray.typeOf atype) ∧ ((r1 = 70 ∧ newarray.typeOf atype = .int) ∨ (r1 = 71 ∧ newarray.typeOf atype = .boolean) ∨ (r1 = 72 ∧ newarray.typeOf atype = .long)) := by
          cases atype <;> simp at h3 <;> subst h3
          · exact ⟨1, rfl, Or.inr (Or.inl ⟨rfl, rfl⟩)⟩
          · exact ⟨0, rfl, Or.inl ⟨rfl, rfl⟩⟩
          · exact ⟨2, rfl, Or.inr (Or.inr ⟨rfl, rfl⟩)⟩
        obtain ⟨t0, g1, g2⟩ := hk3
        refine fx_newp I' g1 g2 hd (fx_wd_in h2) hv.1 hrep hC.1 hC.2 (by omega) (by omega) hS (fun H1 g1 g2 => ?_)
        have kk := k (by rw [a1]; omega) (by rw [a2]; omega) H1 locs LS g1 hlo g2
        rw [a1, a2, show fx_nx s + 1 - nS = fx_nx s - nS + 1 by omega, show fx_sl s + x.toNatClampNeg - lS = fx_sl s - lS + x.toNatClampNeg by omega] at kk
        exact kk
    · exact absurd ha (by simp [fx_J])
  · -- anewarray
    split at ha
    · rename_i x st'
      cases h8 : fx_ia (40 + r1)
      · rw [h8] at ha; exact absurd ha (by simp [fx_J])
      · rw [h8] at ha
        obtain ⟨rfl, rfl, rfl, rfl, rfl⟩ := fx_J_inj ha
        simp only [Bool.and_eq_true, beq_iff_eq, Nat.blt_eq] at hok
        obtain ⟨⟨h1, h2⟩, h3⟩ := hok
        rw [h1, show pc + 3 - pc = 3 by omega] at hd
        rw [h1] at k
        obtain ⟨r, hr⟩ := fx_cls_ex h3
        rw [(fx_Cn_eq hr).1] at h2
        have a1 : fx_nx (fx_newa s (40 + r1) x.toNatClampNeg) = fx_nx s + 1 := rfl
        have a2 : fx_sl (fx_newa s (40 + r1) x.toNatClampNeg) = fx_sl s + x.toNatClampNeg := rfl
        rw [a1] at hcells
        rw [a2] at hslots
        refine fx_newr I' hr h8 hd (fx_wd_in h2) (fx_over h8 hr) hv.1 hrep hC.1 hC.2 (by omega) (by omega) hS (fun H1 g1 g2 => ?_)
        have kk := k (by rw [a1]; omega) (by rw [a2]; omega) H1 locs LS g1 hlo g2
        rw [a1, a2, show fx_nx s + 1 - nS = fx_nx s - nS + 1 by omega, show fx_sl s + x.toNatClampNeg - lS = fx_sl s - lS + x.toNatClampNeg by omega] at kk
        exact kk
    · exact absurd ha (by simp [fx_J])
  · -- arraylength
    simp only [beq_iff_eq] at hok
    rw [hok, show pc + 1 - pc = 1 by omega] at hd
    split at ha
    · rename_i c' a st'
      cases hc : (c' == 73)
      · rw [hc] at ha; exact absurd ha (by simp [fx_J])
      · rw [hc] at ha
        obtain ⟨rfl, rfl, rfl, rfl, rfl⟩ := fx_J_inj ha
        rw [hok] at k
        have hka : fx_kd s a = 73 := (hv.2.2.2.hd).1.trans (by simpa using hc)
        obtain ⟨g1, g2, g3, g4⟩ := (hrep.2.2.2 a).2.2.2.2.2 hka
        exact W.alen (n := nI (fx_ln s a)) hx hb g1 hctx.2.2.2 (by rw [g3]; rfl) rfl rfl hd (k hn1 hl1 H locs LS hrep hlo hS)
    · exact absurd ha (by simp [fx_J])
  · -- iaload
    simp only [beq_iff_eq] at hok
    rw [hok, show pc + 1 - pc = 1 by omega] at hd
    split at ha
    · rename_i j c' a st'
      cases hc : (c' == 70 || c' == 73)
      · rw [hc] at ha; exact absurd ha (by simp [fx_J])
      · rw [hc] at ha
        obtain ⟨rfl, rfl, rfl, rfl, rfl⟩ := fx_J_inj ha
        rw [hok] at k
        have hk0 := (hv.2.2.2.tl.hd).1
        exact fx_aldI I' hd (by rw [hk0]; simpa using hc) hrep hC (k hn1 hl1 H locs LS hrep hlo hS)
    · exact absurd ha (by simp [fx_J])
  · -- baload
    simp only [beq_iff_eq] at hok
    rw [hok, show pc + 1 - pc = 1 by omega] at hd
    split at ha
    · rename_i j c' a st'
      cases hc : (c' == 71)
      · rw [hc] at ha; exact absurd ha (by simp [fx_J])
      · rw [hc] at ha
        obtain ⟨rfl, rfl, rfl, rfl, rfl⟩ := fx_J_inj ha
        rw [hok] at k
        have hk0 := (hv.2.2.2.tl.hd).1
        exact fx_aldZ I' hd (by rw [hk0]; simpa using hc) hrep hC (k hn1 hl1 H locs LS hrep hlo hS)
    · exact absurd ha (by simp [fx_J])
  · -- laload
    simp only [beq_iff_eq] at hok
    rw [hok, show pc + 1 - pc = 1 by omega] at hd
    split at ha
    · rename_i j c' a st'
      cases hc : (c' == 72)
      · rw [hc] at ha; exact absurd ha (by simp [fx_J])
      · rw [hc] at ha
        obtain ⟨rfl, rfl, rfl, rfl, rfl⟩ := fx_J_inj ha
        rw [hok] at k
        have hk0 := (hv.2.2.2.tl.hd).1
        exact fx_aldL I' hd (by rw [hk0]; simpa using hc) hrep hC (k hn1 hl1 H locs LS hrep hlo hS)
    · exact absurd ha (by simp [fx_J])
  · -- aaload
    simp only [beq_iff_eq] at hok
    rw [hok, show pc + 1 - pc = 1 by omega] at hd
    split at ha
    · rename_i j c' a st'
      cases hc : (fx_ia c')
      · rw [hc] at ha; exact absurd ha (by simp [fx_J])
      · rw [hc] at ha
        obtain ⟨rfl, rfl, rfl, rfl, rfl⟩ := fx_J_inj ha
        rw [hok] at k
        have hk0 := (hv.2.2.2.tl.hd).1
        exact fx_aldR I' hd (by rw [hk0]; exact hc) hrep hC (k hn1 hl1 H locs LS hrep hlo hS)
    · exact absurd ha (by simp [fx_J])
  · -- iastore
    simp only [beq_iff_eq] at hok
    rw [hok, show pc + 1 - pc = 1 by omega] at hd
    split at ha
    · rename_i x j c' a st'
      cases hc : (c' == 70)
      · rw [hc] at ha; exact absurd ha (by simp [fx_J])
      · rw [hc] at ha
        obtain ⟨rfl, rfl, rfl, rfl, rfl⟩ := fx_J_inj ha
        rw [hok] at k
        have hk0 := (hv.2.2.2.tl.tl.hd).1
        exact fx_astI I' hd (by rw [hk0]; simpa using hc) hrep hC hS (fun H1 locs1 g1 g2 => k hn1 hl1 H1 locs1 LS g1 hlo g2)
    · exact absurd ha (by simp [fx_J])
  · -- bastore
    simp only [beq_iff_eq] at hok
    rw [hok, show pc + 1 - pc = 1 by omega] at hd
    split at ha
    · rename_i x j c' a st'
      cases hc : (c' == 71)
      · rw [hc] at ha; exact absurd ha (by simp [fx_J])
      · rw [hc] at ha
        obtain ⟨rfl, rfl, rfl, rfl, rfl⟩ := fx_J_inj ha
        rw [hok] at k
        have hk0 := (hv.2.2.2.tl.tl.hd).1
        exact fx_astZ I' hd (by rw [hk0]; simpa using hc) hrep hC.1 hC.2 hS (fun H1 locs1 g1 g2 => k hn1 hl1 H1 locs1 LS g1 hlo g2)
    · exact absurd ha (by simp [fx_J])
  · -- lastore
    simp only [beq_iff_eq] at hok
    rw [hok, show pc + 1 - pc = 1 by omega] at hd
    split at ha
    · rename_i x j c' a st'
      cases hc : (c' == 72)
      · rw [hc] at ha; exact absurd ha (by simp [fx_J])
      · rw [hc] at ha
        obtain ⟨rfl, rfl, rfl, rfl, rfl⟩ := fx_J_inj ha
        rw [hok] at k
        have hk0 := (hv.2.2.2.tl.tl.hd).1
        exact fx_astL I' hd (by rw [hk0]; simpa using hc) hrep hC hS (fun H1 locs1 g1 g2 => k hn1 hl1 H1 locs1 LS g1 hlo g2)
    · exact absurd ha (by simp [fx_J])
  · -- aastore
    simp only [beq_iff_eq] at hok
    rw [hok, show pc + 1 - pc = 1 by omega] at hd
    split at ha
    · rename_i c2 v j c' a st'
      cases hc : fx_ia c'
      · rw [hc] at ha; exact absurd ha (by simp [fx_J])
      · rw [hc] at ha
        obtain ⟨rfl, rfl, rfl, rfl, rfl⟩ := fx_J_inj ha
        rw [hok] at k
        have hk0 := (hv.2.2.2.tl.tl.hd).1
        refine fx_astR I' hd (by rw [hk0]; exact hc) hrep hC.1 (fun b hb => ?_) hS (fun H1 locs1 g1 g2 => k hn1 hl1 H1 locs1 LS g1 hlo g2)
        subst hb
        rcases hC.2 with q | q
        · rw [hk0, ← q]; exact (hv.2.2.2.hd).1
        · cases q
    · exact absurd ha (by simp [fx_J])
  · -- ireturn
    split at ha
    · exact absurd ha (by simp [fx_J, fx_T])
    · exact absurd ha (by simp [fx_J])
  · -- areturn
    split at ha
    · exact absurd ha (by simp [fx_J, fx_T])
    · exact absurd ha (by simp [fx_J])
  · -- return_
    split at ha
    · exact absurd ha (by simp [fx_J, fx_T])
    · exact absurd ha (by simp [fx_J])
  · -- invokespecial
    cases h9 : (r1 == 1000)
    · rw [h9] at ha
      dsimp only [cond] at ha
      split at ha
      · rename_i c' a as st' hp
        cases hq : (c' == r2 / 16 && Nat.ble st'.length 4 && fx_nol as) <;> rw [hq] at ha <;> exact absurd ha (by simp [fx_J, fx_K])
      · exact absurd ha (by simp [fx_J])
    · rw [h9] at ha
      dsimp only [cond] at ha
      split at ha
      · rename_i c' a st'
        cases h8 : Nat.ble st'.length 4
        · rw [h8] at ha; exact absurd ha (by simp [fx_J])
        · rw [h8] at ha
          obtain ⟨rfl, rfl, rfl, rfl, rfl⟩ := fx_J_inj ha
          simp only [Bool.and_eq_true, beq_iff_eq, h9, cond_true] at hok
          obtain ⟨h1, ⟨h2, h3⟩, h4⟩ := hok
          rw [h1, show pc + 3 - pc = 3 by omega] at hd
          rw [h1] at k
          have h3' := Nat.le_of_ble_eq_true h3
          have h4' := Nat.le_of_ble_eq_true h4
          have h8' := Nat.le_of_ble_eq_true h8
          refine W.objInit hx hb hown (hts _ (fx_wd_in h2)) (hts _ (fx_wd_in fx_obj_i)) (hts _ (fx_wd_in fx_obj_c)) rfl (by rw [hml, ← hl]; exact hlo.1.1) rfl hd (by omega) ?_ (k hn1 hl1 H locs LS hrep hlo hS)
          have := fx_cat st'
          show 2 * 0 + _ + 12 ≤ _
          omega
      · exact absurd ha (by simp [fx_J])
  · -- invokevirtual
    split at ha
    · rename_i c' a as st' hp
      cases hq : (c' == r2 / 16 && Nat.ble st'.length 4 && fx_nol as) <;> rw [hq] at ha <;> exact absurd ha (by simp [fx_J, fx_K])
    · exact absurd ha (by simp [fx_J])
  · -- invokestatic
    cases h9 : (r1 == 1001)
    · rw [h9] at ha
      dsimp only [cond] at ha
      split at ha
      · rename_i as st' hp
        cases hq : (Nat.ble st'.length 4 && fx_nol as) <;> rw [hq] at ha <;> exact absurd ha (by simp [fx_J, fx_K])
      · exact absurd ha (by simp [fx_J])
    · rw [h9] at ha
      dsimp only [cond] at ha
      split at ha
      · rename_i y x st'
        cases h8 : Nat.ble st'.length 4
        · rw [h8] at ha; exact absurd ha (by simp [fx_J])
        · rw [h8] at ha
          obtain ⟨rfl, rfl, rfl, rfl, rfl⟩ := fx_J_inj ha
          simp only [Bool.and_eq_true, beq_iff_eq, h9, cond_true] at hok
          obtain ⟨h1, ⟨h2, h3⟩, h4⟩ := hok
          rw [h1, show pc + 3 - pc = 3 by omega] at hd
          rw [h1] at k
          have h3' := Nat.le_of_ble_eq_true h3
          have h4' := Nat.le_of_ble_eq_true h4
          have h8' := Nat.le_of_ble_eq_true h8
          have := fx_cat st'
          exact va_mmax hx hb (by rw [hml, ← hl]; exact hlo.1.1.symm) hown (hts _ (fx_wd_in h2)) (hts _ (fx_wd_in fx_maxs)) (hts _ (fx_wd_in fx_maxn)) (hts _ fx_maxcIn) (by omega) (by omega) hcells hslots hd (k hn1 hl1 H locs LS hrep hlo hS)
      · exact absurd ha (by simp [fx_J])
  · exact absurd ha (by simp [fx_J])
end
end
