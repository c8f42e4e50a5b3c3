section
-- ===== PART A: goes FIRST, ahead of the names: the tables' words, and 'selects' of the private methods out of them =====
/-- a private method of a class that the tables say can be made, by its rows of tables_1 -/
def lw_okq (q : MethodName × Nat) : Prop := (q.1.cls ≠ "java/lang/invoke/MethodHandle" ∧ q.1.cls ≠ "java/lang/invoke/VarHandle") ∧ Cond.instantiable q.1.cls q.2 ∈ tables_1 ∧ Cond.privateMethod q.1 ∈ tables_1 ∧ Cond.instanceMethod q.1 ∈ tables_1
theorem lw_p0 : lw_okq (⟨"NobodyFirst$Reader", "readNumbers", "([BII)Z"⟩, 2) := ⟨⟨by decide +kernel, by decide +kernel⟩, List.mem_of_getElem? (i := 27) (by decide +kernel), List.mem_of_getElem? (i := 453) (by decide +kernel), List.mem_of_getElem? (i := 454) (by decide +kernel)⟩
theorem lw_p1 : lw_okq (⟨"NobodyFirst$Reader", "readNumber", "([BI)I"⟩, 2) := ⟨⟨by decide +kernel, by decide +kernel⟩, List.mem_of_getElem? (i := 27) (by decide +kernel), List.mem_of_getElem? (i := 459) (by decide +kernel), List.mem_of_getElem? (i := 460) (by decide +kernel)⟩
theorem lw_p2 : lw_okq (⟨"NobodyFirst$Reader", "enter", "(ILNobodyFirst$Party;)Z"⟩, 2) := ⟨⟨by decide +kernel, by decide +kernel⟩, List.mem_of_getElem? (i := 27) (by decide +kernel), List.mem_of_getElem? (i := 467) (by decide +kernel), List.mem_of_getElem? (i := 468) (by decide +kernel)⟩
theorem lw_p3 : lw_okq (⟨"NobodyFirst", "isGuest", "(I)Z"⟩, 9) := ⟨⟨by decide +kernel, by decide +kernel⟩, List.mem_of_getElem? (i := 19) (by decide +kernel), List.mem_of_getElem? (i := 513) (by decide +kernel), List.mem_of_getElem? (i := 514) (by decide +kernel)⟩
theorem lw_p4 : lw_okq (⟨"NobodyFirst", "passAsItIs", "()V"⟩, 9) := ⟨⟨by decide +kernel, by decide +kernel⟩, List.mem_of_getElem? (i := 19) (by decide +kernel), List.mem_of_getElem? (i := 521) (by decide +kernel), List.mem_of_getElem? (i := 522) (by decide +kernel)⟩
theorem lw_p5 : lw_okq (⟨"NobodyFirst$Evening", "goOnFrom", "(I)I"⟩, 14) := ⟨⟨by decide +kernel, by decide +kernel⟩, List.mem_of_getElem? (i := 161) (by decide +kernel), List.mem_of_getElem? (i := 539) (by decide +kernel), List.mem_of_getElem? (i := 540) (by decide +kernel)⟩
theorem lw_p6 : lw_okq (⟨"NobodyFirst$Evening", "nextChange", "(I)I"⟩, 14) := ⟨⟨by decide +kernel, by decide +kernel⟩, List.mem_of_getElem? (i := 161) (by decide +kernel), List.mem_of_getElem? (i := 543) (by decide +kernel), List.mem_of_getElem? (i := 544) (by decide +kernel)⟩
theorem lw_p7 : lw_okq (⟨"NobodyFirst$Evening", "sits", "(I)Z"⟩, 14) := ⟨⟨by decide +kernel, by decide +kernel⟩, List.mem_of_getElem? (i := 161) (by decide +kernel), List.mem_of_getElem? (i := 548) (by decide +kernel), List.mem_of_getElem? (i := 549) (by decide +kernel)⟩
theorem lw_p8 : lw_okq (⟨"NobodyFirst$Evening", "pairFrom", "(II)I"⟩, 14) := ⟨⟨by decide +kernel, by decide +kernel⟩, List.mem_of_getElem? (i := 161) (by decide +kernel), List.mem_of_getElem? (i := 552) (by decide +kernel), List.mem_of_getElem? (i := 553) (by decide +kernel)⟩
theorem lw_p9 : lw_okq (⟨"NobodyFirst$Evening", "goesAfter", "(I)I"⟩, 14) := ⟨⟨by decide +kernel, by decide +kernel⟩, List.mem_of_getElem? (i := 161) (by decide +kernel), List.mem_of_getElem? (i := 569) (by decide +kernel), List.mem_of_getElem? (i := 570) (by decide +kernel)⟩
theorem lw_p10 : lw_okq (⟨"NobodyFirst", "allWithBus", "(II)I"⟩, 9) := ⟨⟨by decide +kernel, by decide +kernel⟩, List.mem_of_getElem? (i := 19) (by decide +kernel), List.mem_of_getElem? (i := 627) (by decide +kernel), List.mem_of_getElem? (i := 628) (by decide +kernel)⟩
theorem lw_p11 : lw_okq (⟨"NobodyFirst", "allWithBell", "(I)I"⟩, 9) := ⟨⟨by decide +kernel, by decide +kernel⟩, List.mem_of_getElem? (i := 19) (by decide +kernel), List.mem_of_getElem? (i := 643) (by decide +kernel), List.mem_of_getElem? (i := 644) (by decide +kernel)⟩
theorem lw_p12 : lw_okq (⟨"NobodyFirst$Giving", "choose", "(II)V"⟩, 4) := ⟨⟨by decide +kernel, by decide +kernel⟩, List.mem_of_getElem? (i := 212) (by decide +kernel), List.mem_of_getElem? (i := 665) (by decide +kernel), List.mem_of_getElem? (i := 666) (by decide +kernel)⟩
theorem lw_p13 : lw_okq (⟨"NobodyFirst$Giving", "giveChosen", "(LNobodyFirst$Party;LNobodyFirst$Evening;)I"⟩, 4) := ⟨⟨by decide +kernel, by decide +kernel⟩, List.mem_of_getElem? (i := 212) (by decide +kernel), List.mem_of_getElem? (i := 669) (by decide +kernel), List.mem_of_getElem? (i := 670) (by decide +kernel)⟩
theorem lw_p14 : lw_okq (⟨"NobodyFirst$Game", "isFirstAlone", "(I)Z"⟩, 9) := ⟨⟨by decide +kernel, by decide +kernel⟩, List.mem_of_getElem? (i := 233) (by decide +kernel), List.mem_of_getElem? (i := 701) (by decide +kernel), List.mem_of_getElem? (i := 702) (by decide +kernel)⟩
theorem lw_p15 : lw_okq (⟨"NobodyFirst$Game", "choose", "(I)V"⟩, 9) := ⟨⟨by decide +kernel, by decide +kernel⟩, List.mem_of_getElem? (i := 233) (by decide +kernel), List.mem_of_getElem? (i := 714) (by decide +kernel), List.mem_of_getElem? (i := 715) (by decide +kernel)⟩
def lw_privs_1 : List (MethodName × Nat) := [(⟨"NobodyFirst$Reader", "readNumbers", "([BII)Z"⟩, 2), (⟨"NobodyFirst$Reader", "readNumber", "([BI)I"⟩, 2), (⟨"NobodyFirst$Reader", "enter", "(ILNobodyFirst$Party;)Z"⟩, 2), (⟨"NobodyFirst", "isGuest", "(I)Z"⟩, 9), (⟨"NobodyFirst", "passAsItIs", "()V"⟩, 9), (⟨"NobodyFirst$Evening", "goOnFrom", "(I)I"⟩, 14), (⟨"NobodyFirst$Evening", "nextChange", "(I)I"⟩, 14), (⟨"NobodyFirst$Evening", "sits", "(I)Z"⟩, 14), (⟨"NobodyFirst$Evening", "pairFrom", "(II)I"⟩, 14), (⟨"NobodyFirst$Evening", "goesAfter", "(I)I"⟩, 14), (⟨"NobodyFirst", "allWithBus", "(II)I"⟩, 9), (⟨"NobodyFirst", "allWithBell", "(I)I"⟩, 9), (⟨"NobodyFirst$Giving", "choose", "(II)V"⟩, 4), (⟨"NobodyFirst$Giving", "giveChosen", "(LNobodyFirst$Party;LNobodyFirst$Evening;)I"⟩, 4), (⟨"NobodyFirst$Game", "isFirstAlone", "(I)Z"⟩, 9), (⟨"NobodyFirst$Game", "choose", "(I)V"⟩, 9)]
theorem lw_r1 : ∀ q ∈ lw_privs_1, lw_okq q := List.forall_mem_cons.mpr ⟨lw_p0, List.forall_mem_cons.mpr ⟨lw_p1, List.forall_mem_cons.mpr ⟨lw_p2, List.forall_mem_cons.mpr ⟨lw_p3, List.forall_mem_cons.mpr ⟨lw_p4, List.forall_mem_cons.mpr ⟨lw_p5, List.forall_mem_cons.mpr ⟨lw_p6, List.forall_mem_cons.mpr ⟨lw_p7, List.forall_mem_cons.mpr ⟨lw_p8, List.forall_mem_cons.mpr ⟨lw_p9, List.forall_mem_cons.mpr ⟨lw_p10, List.forall_mem_cons.mpr ⟨lw_p11, List.forall_mem_cons.mpr ⟨lw_p12, List.forall_mem_cons.mpr ⟨lw_p13, List.forall_mem_cons.mpr ⟨lw_p14, List.forall_mem_cons.mpr ⟨lw_p15, fun _ h => absurd h List.not_mem_nil⟩⟩⟩⟩⟩⟩⟩⟩⟩⟩⟩⟩⟩⟩⟩⟩
theorem lw_p16 : lw_okq (⟨"NobodyFirst$Game", "weighChoice", "()V"⟩, 9) := ⟨⟨by decide +kernel, by decide +kernel⟩, List.mem_of_getElem? (i := 233) (by decide +kernel), List.mem_of_getElem? (i := 718) (by decide +kernel), List.mem_of_getElem? (i := 719) (by decide +kernel)⟩
theorem lw_p17 : lw_okq (⟨"NobodyFirst$Game", "isRest", "()Z"⟩, 9) := ⟨⟨by decide +kernel, by decide +kernel⟩, List.mem_of_getElem? (i := 233) (by decide +kernel), List.mem_of_getElem? (i := 724) (by decide +kernel), List.mem_of_getElem? (i := 725) (by decide +kernel)⟩
theorem lw_p18 : lw_okq (⟨"NobodyFirst$Game", "wouldRatherMove", "(I)Z"⟩, 9) := ⟨⟨by decide +kernel, by decide +kernel⟩, List.mem_of_getElem? (i := 233) (by decide +kernel), List.mem_of_getElem? (i := 728) (by decide +kernel), List.mem_of_getElem? (i := 729) (by decide +kernel)⟩
theorem lw_p19 : lw_okq (⟨"NobodyFirst$History", "placeOf", "(I)LNobodyFirst$Told;"⟩, 5) := ⟨⟨by decide +kernel, by decide +kernel⟩, List.mem_of_getElem? (i := 272) (by decide +kernel), List.mem_of_getElem? (i := 813) (by decide +kernel), List.mem_of_getElem? (i := 814) (by decide +kernel)⟩
theorem lw_p20 : lw_okq (⟨"NobodyFirstModel", "noEvening", "(I)V"⟩, 40) := ⟨⟨by decide +kernel, by decide +kernel⟩, List.mem_of_getElem? (i := 834) (by decide +kernel), List.mem_of_getElem? (i := 840) (by decide +kernel), List.mem_of_getElem? (i := 841) (by decide +kernel)⟩
theorem lw_p21 : lw_okq (⟨"NobodyFirstModel", "readAll", "()I"⟩, 40) := ⟨⟨by decide +kernel, by decide +kernel⟩, List.mem_of_getElem? (i := 834) (by decide +kernel), List.mem_of_getElem? (i := 982) (by decide +kernel), List.mem_of_getElem? (i := 983) (by decide +kernel)⟩
theorem lw_p22 : lw_okq (⟨"NobodyFirstModel", "item", "()Z"⟩, 40) := ⟨⟨by decide +kernel, by decide +kernel⟩, List.mem_of_getElem? (i := 834) (by decide +kernel), List.mem_of_getElem? (i := 986) (by decide +kernel), List.mem_of_getElem? (i := 987) (by decide +kernel)⟩
theorem lw_p23 : lw_okq (⟨"NobodyFirstModel", "byteAt", "(I)I"⟩, 40) := ⟨⟨by decide +kernel, by decide +kernel⟩, List.mem_of_getElem? (i := 834) (by decide +kernel), List.mem_of_getElem? (i := 990) (by decide +kernel), List.mem_of_getElem? (i := 991) (by decide +kernel)⟩
theorem lw_p24 : lw_okq (⟨"NobodyFirstModel", "guestItem", "()Z"⟩, 40) := ⟨⟨by decide +kernel, by decide +kernel⟩, List.mem_of_getElem? (i := 834) (by decide +kernel), List.mem_of_getElem? (i := 994) (by decide +kernel), List.mem_of_getElem? (i := 995) (by decide +kernel)⟩
theorem lw_p25 : lw_okq (⟨"NobodyFirstModel", "figures", "(I)Z"⟩, 40) := ⟨⟨by decide +kernel, by decide +kernel⟩, List.mem_of_getElem? (i := 834) (by decide +kernel), List.mem_of_getElem? (i := 998) (by decide +kernel), List.mem_of_getElem? (i := 999) (by decide +kernel)⟩
theorem lw_p26 : lw_okq (⟨"NobodyFirstModel", "lookItem", "()Z"⟩, 40) := ⟨⟨by decide +kernel, by decide +kernel⟩, List.mem_of_getElem? (i := 834) (by decide +kernel), List.mem_of_getElem? (i := 1009) (by decide +kernel), List.mem_of_getElem? (i := 1010) (by decide +kernel)⟩
theorem lw_p27 : lw_okq (⟨"NobodyFirstModel", "copyTold", "(II)V"⟩, 40) := ⟨⟨by decide +kernel, by decide +kernel⟩, List.mem_of_getElem? (i := 834) (by decide +kernel), List.mem_of_getElem? (i := 1018) (by decide +kernel), List.mem_of_getElem? (i := 1019) (by decide +kernel)⟩
theorem lw_p28 : lw_okq (⟨"NobodyFirstModel", "isGuest", "(I)Z"⟩, 40) := ⟨⟨by decide +kernel, by decide +kernel⟩, List.mem_of_getElem? (i := 834) (by decide +kernel), List.mem_of_getElem? (i := 1026) (by decide +kernel), List.mem_of_getElem? (i := 1027) (by decide +kernel)⟩
theorem lw_p29 : lw_okq (⟨"NobodyFirstModel", "goAsItIs", "()V"⟩, 40) := ⟨⟨by decide +kernel, by decide +kernel⟩, List.mem_of_getElem? (i := 834) (by decide +kernel), List.mem_of_getElem? (i := 1038) (by decide +kernel), List.mem_of_getElem? (i := 1039) (by decide +kernel)⟩
theorem lw_p30 : lw_okq (⟨"NobodyFirstModel", "asItIs", "()V"⟩, 40) := ⟨⟨by decide +kernel, by decide +kernel⟩, List.mem_of_getElem? (i := 834) (by decide +kernel), List.mem_of_getElem? (i := 1042) (by decide +kernel), List.mem_of_getElem? (i := 1043) (by decide +kernel)⟩
theorem lw_p31 : lw_okq (⟨"NobodyFirstModel", "goEvening", "()V"⟩, 40) := ⟨⟨by decide +kernel, by decide +kernel⟩, List.mem_of_getElem? (i := 834) (by decide +kernel), List.mem_of_getElem? (i := 1046) (by decide +kernel), List.mem_of_getElem? (i := 1047) (by decide +kernel)⟩
def lw_privs_2 : List (MethodName × Nat) := [(⟨"NobodyFirst$Game", "weighChoice", "()V"⟩, 9), (⟨"NobodyFirst$Game", "isRest", "()Z"⟩, 9), (⟨"NobodyFirst$Game", "wouldRatherMove", "(I)Z"⟩, 9), (⟨"NobodyFirst$History", "placeOf", "(I)LNobodyFirst$Told;"⟩, 5), (⟨"NobodyFirstModel", "noEvening", "(I)V"⟩, 40), (⟨"NobodyFirstModel", "readAll", "()I"⟩, 40), (⟨"NobodyFirstModel", "item", "()Z"⟩, 40), (⟨"NobodyFirstModel", "byteAt", "(I)I"⟩, 40), (⟨"NobodyFirstModel", "guestItem", "()Z"⟩, 40), (⟨"NobodyFirstModel", "figures", "(I)Z"⟩, 40), (⟨"NobodyFirstModel", "lookItem", "()Z"⟩, 40), (⟨"NobodyFirstModel", "copyTold", "(II)V"⟩, 40), (⟨"NobodyFirstModel", "isGuest", "(I)Z"⟩, 40), (⟨"NobodyFirstModel", "goAsItIs", "()V"⟩, 40), (⟨"NobodyFirstModel", "asItIs", "()V"⟩, 40), (⟨"NobodyFirstModel", "goEvening", "()V"⟩, 40)]
theorem lw_r2 : ∀ q ∈ lw_privs_2, lw_okq q := List.forall_mem_cons.mpr ⟨lw_p16, List.forall_mem_cons.mpr ⟨lw_p17, List.forall_mem_cons.mpr ⟨lw_p18, List.forall_mem_cons.mpr ⟨lw_p19, List.forall_mem_cons.mpr ⟨lw_p20, List.forall_mem_cons.mpr ⟨lw_p21, List.forall_mem_cons.mpr ⟨lw_p22, List.forall_mem_cons.mpr ⟨lw_p23, List.forall_mem_cons.mpr ⟨lw_p24, List.forall_mem_cons.mpr ⟨lw_p25, List.forall_mem_cons.mpr ⟨lw_p26, List.forall_mem_cons.mpr ⟨lw_p27, List.forall_mem_cons.mpr ⟨lw_p28, List.forall_mem_cons.mpr ⟨lw_p29, List.forall_mem_cons.mpr ⟨lw_p30, List.forall_mem_cons.mpr ⟨lw_p31, fun _ h => absurd h List.not_mem_nil⟩⟩⟩⟩⟩⟩⟩⟩⟩⟩⟩⟩⟩⟩⟩⟩
theorem lw_p32 : lw_okq (⟨"NobodyFirstModel", "standsAt", "(II)Z"⟩, 40) := ⟨⟨by decide +kernel, by decide +kernel⟩, List.mem_of_getElem? (i := 834) (by decide +kernel), List.mem_of_getElem? (i := 1051) (by decide +kernel), List.mem_of_getElem? (i := 1052) (by decide +kernel)⟩
theorem lw_p33 : lw_okq (⟨"NobodyFirstModel", "doesPress", "(II)Z"⟩, 40) := ⟨⟨by decide +kernel, by decide +kernel⟩, List.mem_of_getElem? (i := 834) (by decide +kernel), List.mem_of_getElem? (i := 1055) (by decide +kernel), List.mem_of_getElem? (i := 1056) (by decide +kernel)⟩
theorem lw_p34 : lw_okq (⟨"NobodyFirstModel", "isBus", "(I)Z"⟩, 40) := ⟨⟨by decide +kernel, by decide +kernel⟩, List.mem_of_getElem? (i := 834) (by decide +kernel), List.mem_of_getElem? (i := 1059) (by decide +kernel), List.mem_of_getElem? (i := 1060) (by decide +kernel)⟩
theorem lw_p35 : lw_okq (⟨"NobodyFirstModel", "shameOf", "(II)I"⟩, 40) := ⟨⟨by decide +kernel, by decide +kernel⟩, List.mem_of_getElem? (i := 834) (by decide +kernel), List.mem_of_getElem? (i := 1063) (by decide +kernel), List.mem_of_getElem? (i := 1064) (by decide +kernel)⟩
theorem lw_p36 : lw_okq (⟨"NobodyFirstModel", "counts", "(II)Z"⟩, 40) := ⟨⟨by decide +kernel, by decide +kernel⟩, List.mem_of_getElem? (i := 834) (by decide +kernel), List.mem_of_getElem? (i := 1067) (by decide +kernel), List.mem_of_getElem? (i := 1068) (by decide +kernel)⟩
theorem lw_p37 : lw_okq (⟨"NobodyFirstModel", "stoodAhead", "(I)I"⟩, 40) := ⟨⟨by decide +kernel, by decide +kernel⟩, List.mem_of_getElem? (i := 834) (by decide +kernel), List.mem_of_getElem? (i := 1077) (by decide +kernel), List.mem_of_getElem? (i := 1078) (by decide +kernel)⟩
theorem lw_p38 : lw_okq (⟨"NobodyFirstModel", "allWasted", "()I"⟩, 40) := ⟨⟨by decide +kernel, by decide +kernel⟩, List.mem_of_getElem? (i := 834) (by decide +kernel), List.mem_of_getElem? (i := 1101) (by decide +kernel), List.mem_of_getElem? (i := 1102) (by decide +kernel)⟩
theorem lw_p39 : lw_okq (⟨"NobodyFirstModel", "lastOf", "()I"⟩, 40) := ⟨⟨by decide +kernel, by decide +kernel⟩, List.mem_of_getElem? (i := 834) (by decide +kernel), List.mem_of_getElem? (i := 1105) (by decide +kernel), List.mem_of_getElem? (i := 1106) (by decide +kernel)⟩
theorem lw_p40 : lw_okq (⟨"NobodyFirstModel", "freesOf", "(II)I"⟩, 40) := ⟨⟨by decide +kernel, by decide +kernel⟩, List.mem_of_getElem? (i := 834) (by decide +kernel), List.mem_of_getElem? (i := 1117) (by decide +kernel), List.mem_of_getElem? (i := 1118) (by decide +kernel)⟩
theorem lw_p41 : lw_okq (⟨"NobodyFirstModel", "bellOf", "(I)I"⟩, 40) := ⟨⟨by decide +kernel, by decide +kernel⟩, List.mem_of_getElem? (i := 834) (by decide +kernel), List.mem_of_getElem? (i := 1129) (by decide +kernel), List.mem_of_getElem? (i := 1130) (by decide +kernel)⟩
theorem lw_p42 : lw_okq (⟨"NobodyFirstModel", "givenBy", "(I)I"⟩, 40) := ⟨⟨by decide +kernel, by decide +kernel⟩, List.mem_of_getElem? (i := 834) (by decide +kernel), List.mem_of_getElem? (i := 1142) (by decide +kernel), List.mem_of_getElem? (i := 1143) (by decide +kernel)⟩
theorem lw_p43 : lw_okq (⟨"NobodyFirstModel", "layGame", "()V"⟩, 40) := ⟨⟨by decide +kernel, by decide +kernel⟩, List.mem_of_getElem? (i := 834) (by decide +kernel), List.mem_of_getElem? (i := 1150) (by decide +kernel), List.mem_of_getElem? (i := 1151) (by decide +kernel)⟩
theorem lw_p44 : lw_okq (⟨"NobodyFirstModel", "costOf", "(I)I"⟩, 40) := ⟨⟨by decide +kernel, by decide +kernel⟩, List.mem_of_getElem? (i := 834) (by decide +kernel), List.mem_of_getElem? (i := 1155) (by decide +kernel), List.mem_of_getElem? (i := 1156) (by decide +kernel)⟩
theorem lw_p45 : lw_okq (⟨"NobodyFirstModel", "codesOf", "()I"⟩, 40) := ⟨⟨by decide +kernel, by decide +kernel⟩, List.mem_of_getElem? (i := 834) (by decide +kernel), List.mem_of_getElem? (i := 1163) (by decide +kernel), List.mem_of_getElem? (i := 1164) (by decide +kernel)⟩
theorem lw_p46 : lw_okq (⟨"NobodyFirstModel", "takeSlots", "(I)V"⟩, 40) := ⟨⟨by decide +kernel, by decide +kernel⟩, List.mem_of_getElem? (i := 834) (by decide +kernel), List.mem_of_getElem? (i := 1167) (by decide +kernel), List.mem_of_getElem? (i := 1168) (by decide +kernel)⟩
theorem lw_p47 : lw_okq (⟨"NobodyFirstModel", "isRest", "()Z"⟩, 40) := ⟨⟨by decide +kernel, by decide +kernel⟩, List.mem_of_getElem? (i := 834) (by decide +kernel), List.mem_of_getElem? (i := 1171) (by decide +kernel), List.mem_of_getElem? (i := 1172) (by decide +kernel)⟩
def lw_privs_3 : List (MethodName × Nat) := [(⟨"NobodyFirstModel", "standsAt", "(II)Z"⟩, 40), (⟨"NobodyFirstModel", "doesPress", "(II)Z"⟩, 40), (⟨"NobodyFirstModel", "isBus", "(I)Z"⟩, 40), (⟨"NobodyFirstModel", "shameOf", "(II)I"⟩, 40), (⟨"NobodyFirstModel", "counts", "(II)Z"⟩, 40), (⟨"NobodyFirstModel", "stoodAhead", "(I)I"⟩, 40), (⟨"NobodyFirstModel", "allWasted", "()I"⟩, 40), (⟨"NobodyFirstModel", "lastOf", "()I"⟩, 40), (⟨"NobodyFirstModel", "freesOf", "(II)I"⟩, 40), (⟨"NobodyFirstModel", "bellOf", "(I)I"⟩, 40), (⟨"NobodyFirstModel", "givenBy", "(I)I"⟩, 40), (⟨"NobodyFirstModel", "layGame", "()V"⟩, 40), (⟨"NobodyFirstModel", "costOf", "(I)I"⟩, 40), (⟨"NobodyFirstModel", "codesOf", "()I"⟩, 40), (⟨"NobodyFirstModel", "takeSlots", "(I)V"⟩, 40), (⟨"NobodyFirstModel", "isRest", "()Z"⟩, 40)]
theorem lw_r3 : ∀ q ∈ lw_privs_3, lw_okq q := List.forall_mem_cons.mpr ⟨lw_p32, List.forall_mem_cons.mpr ⟨lw_p33, List.forall_mem_cons.mpr ⟨lw_p34, List.forall_mem_cons.mpr ⟨lw_p35, List.forall_mem_cons.mpr ⟨lw_p36, List.forall_mem_cons.mpr ⟨lw_p37, List.forall_mem_cons.mpr ⟨lw_p38, List.forall_mem_cons.mpr ⟨lw_p39, List.forall_mem_cons.mpr ⟨lw_p40, List.forall_mem_cons.mpr ⟨lw_p41, List.forall_mem_cons.mpr ⟨lw_p42, List.forall_mem_cons.mpr ⟨lw_p43, List.forall_mem_cons.mpr ⟨lw_p44, List.forall_mem_cons.mpr ⟨lw_p45, List.forall_mem_cons.mpr ⟨lw_p46, List.forall_mem_cons.mpr ⟨lw_p47, fun _ h => absurd h List.not_mem_nil⟩⟩⟩⟩⟩⟩⟩⟩⟩⟩⟩⟩⟩⟩⟩⟩
theorem lw_p48 : lw_okq (⟨"NobodyFirstModel", "sumOfCosts", "()I"⟩, 40) := ⟨⟨by decide +kernel, by decide +kernel⟩, List.mem_of_getElem? (i := 834) (by decide +kernel), List.mem_of_getElem? (i := 1179) (by decide +kernel), List.mem_of_getElem? (i := 1180) (by decide +kernel)⟩
theorem lw_p49 : lw_okq (⟨"NobodyFirstModel", "sinceOf", "(II)J"⟩, 40) := ⟨⟨by decide +kernel, by decide +kernel⟩, List.mem_of_getElem? (i := 834) (by decide +kernel), List.mem_of_getElem? (i := 1195) (by decide +kernel), List.mem_of_getElem? (i := 1196) (by decide +kernel)⟩
theorem lw_p50 : lw_okq (⟨"NobodyFirstModel", "note", "(I)V"⟩, 40) := ⟨⟨by decide +kernel, by decide +kernel⟩, List.mem_of_getElem? (i := 834) (by decide +kernel), List.mem_of_getElem? (i := 1218) (by decide +kernel), List.mem_of_getElem? (i := 1219) (by decide +kernel)⟩
theorem lw_p51 : lw_okq (⟨"NobodyFirstModel", "pairMany", "()I"⟩, 40) := ⟨⟨by decide +kernel, by decide +kernel⟩, List.mem_of_getElem? (i := 834) (by decide +kernel), List.mem_of_getElem? (i := 1242) (by decide +kernel), List.mem_of_getElem? (i := 1243) (by decide +kernel)⟩
def lw_privs_4 : List (MethodName × Nat) := [(⟨"NobodyFirstModel", "sumOfCosts", "()I"⟩, 40), (⟨"NobodyFirstModel", "sinceOf", "(II)J"⟩, 40), (⟨"NobodyFirstModel", "note", "(I)V"⟩, 40), (⟨"NobodyFirstModel", "pairMany", "()I"⟩, 40)]
theorem lw_r4 : ∀ q ∈ lw_privs_4, lw_okq q := List.forall_mem_cons.mpr ⟨lw_p48, List.forall_mem_cons.mpr ⟨lw_p49, List.forall_mem_cons.mpr ⟨lw_p50, List.forall_mem_cons.mpr ⟨lw_p51, fun _ h => absurd h List.not_mem_nil⟩⟩⟩⟩
def lw_privs : List (MethodName × Nat) := lw_privs_1 ++ (lw_privs_2 ++ (lw_privs_3 ++ (lw_privs_4)))
def lw_tbl : List Cond := k2_sels lw_privs ++ tables_1
theorem lw_privs_ok : ∀ q ∈ lw_privs, lw_okq q := by
  show ∀ q ∈ lw_privs_1 ++ (lw_privs_2 ++ (lw_privs_3 ++ (lw_privs_4))), lw_okq q
  exact List.forall_mem_append.mpr ⟨lw_r1, List.forall_mem_append.mpr ⟨lw_r2, List.forall_mem_append.mpr ⟨lw_r3, lw_r4⟩⟩⟩
end
section
def RX0 : String := "NobodyFirst$Evening"
def TX0 : u_T := fun k => match k with
  | 0 => ("NobodyFirst$Evening", "party", "LNobodyFirst$Party;", false)
  | 1 => ("NobodyFirst$Evening", "kind", "[I", true)
  | 2 => ("NobodyFirst$Evening", "goesFrom", "[I", true)
  | 3 => ("NobodyFirst$Evening", "signs", "I", false)
  | 4 => ("NobodyFirst$Evening", "signMinute", "[I", true)
  | 5 => ("NobodyFirst$Evening", "signWorth", "[I", true)
  | 6 => ("NobodyFirst$Evening", "heardBy", "[I", true)
  | 7 => ("NobodyFirst$Evening", "allStandAt", "I", false)
  | 8 => ("NobodyFirst$Evening", "present", "I", false)
  | 9 => ("NobodyFirst$Evening", "stood", "I", false)
  | 10 => ("NobodyFirst$Evening", "guestsStood", "I", false)
  | 11 => ("NobodyFirst$Evening", "ready", "[I", true)
  | 12 => ("NobodyFirst$Evening", "stands", "[I", true)
  | _ => ("NobodyFirst$Evening", "goes", "[I", true)
def tyX0 : Nat → FieldType := fun k => match k with
  | 0 => .object "NobodyFirst$Party"
  | 1 => .array .int
  | 2 => .array .int
  | 3 => .int
  | 4 => .array .int
  | 5 => .array .int
  | 6 => .array .int
  | 7 => .int
  | 8 => .int
  | 9 => .int
  | 10 => .int
  | 11 => .array .int
  | 12 => .array .int
  | _ => .array .int
theorem nmX0 : ∀ a, a < 14 → ∀ b, b < 14 → a ≠ b → (TX0 a).2.1 ≠ (TX0 b).2.1 := by decide +kernel
theorem tyX0_ok : ∀ k, k < 14 → parseFieldDescriptor (TX0 k).2.2.1 = some (tyX0 k) := by decide +kernel
abbrev cX0_init : ByteArray := prog_2_method_1_code
def yX0_init : MethodName := ⟨RX0, "<init>", "()V"⟩
abbrev cX0_prepare : ByteArray := prog_2_method_2_code
def yX0_prepare : MethodName := ⟨RX0, "prepare", "(LNobodyFirst$Party;)V"⟩
abbrev cX0_addSign : ByteArray := prog_2_method_3_code
def yX0_addSign : MethodName := ⟨RX0, "addSign", "(II)V"⟩
abbrev cX0_dropAddedSigns : ByteArray := prog_2_method_4_code
def yX0_dropAddedSigns : MethodName := ⟨RX0, "dropAddedSigns", "()V"⟩
abbrev cX0_makeBus : ByteArray := prog_2_method_5_code
def yX0_makeBus : MethodName := ⟨RX0, "makeBus", "(II)V"⟩
abbrev cX0_ringAt : ByteArray := prog_2_method_6_code
def yX0_ringAt : MethodName := ⟨RX0, "ringAt", "(I)V"⟩
abbrev cX0_drawWhoHears : ByteArray := prog_2_method_7_code
def yX0_drawWhoHears : MethodName := ⟨RX0, "drawWhoHears", "(I)V"⟩
abbrev cX0_pass : ByteArray := prog_2_method_8_code
def yX0_pass : MethodName := ⟨RX0, "pass", "()V"⟩
abbrev cX0_goOnFrom : ByteArray := prog_2_method_9_code
def yX0_goOnFrom : MethodName := ⟨RX0, "goOnFrom", "(I)I"⟩
abbrev cX0_nextChange : ByteArray := prog_2_method_10_code
def yX0_nextChange : MethodName := ⟨RX0, "nextChange", "(I)I"⟩
abbrev cX0_sits : ByteArray := prog_2_method_11_code
def yX0_sits : MethodName := ⟨RX0, "sits", "(I)Z"⟩
abbrev cX0_pairFrom : ByteArray := prog_2_method_12_code
def yX0_pairFrom : MethodName := ⟨RX0, "pairFrom", "(II)I"⟩
abbrev cX0_lookAt : ByteArray := prog_2_method_13_code
def yX0_lookAt : MethodName := ⟨RX0, "lookAt", "(I)V"⟩
abbrev cX0_pressesFrom : ByteArray := prog_2_method_14_code
def yX0_pressesFrom : MethodName := ⟨RX0, "pressesFrom", "(II)I"⟩
abbrev cX0_shameAt : ByteArray := prog_2_method_15_code
def yX0_shameAt : MethodName := ⟨RX0, "shameAt", "(II)I"⟩
abbrev cX0_goesAfter : ByteArray := prog_2_method_16_code
def yX0_goesAfter : MethodName := ⟨RX0, "goesAfter", "(I)I"⟩
abbrev cX0_standsIn : ByteArray := prog_2_method_17_code
def yX0_standsIn : MethodName := ⟨RX0, "standsIn", "(I)I"⟩
abbrev cX0_goesIn : ByteArray := prog_2_method_18_code
def yX0_goesIn : MethodName := ⟨RX0, "goesIn", "(I)I"⟩
abbrev cX0_lastGoes : ByteArray := prog_2_method_19_code
def yX0_lastGoes : MethodName := ⟨RX0, "lastGoes", "()I"⟩
abbrev cX0_wastedBy : ByteArray := prog_2_method_20_code
def yX0_wastedBy : MethodName := ⟨RX0, "wastedBy", "(I)I"⟩
abbrev cX0_wastedByHost : ByteArray := prog_2_method_21_code
def yX0_wastedByHost : MethodName := ⟨RX0, "wastedByHost", "()I"⟩
abbrev cX0_wastedByAll : ByteArray := prog_2_method_22_code
def yX0_wastedByAll : MethodName := ⟨RX0, "wastedByAll", "()I"⟩
def RX1 : String := "NobodyFirst$Game"
def TX1 : u_T := fun k => match k with
  | 0 => ("NobodyFirst$Game", "known", "Z", false)
  | 1 => ("NobodyFirst$Game", "pairs", "I", false)
  | 2 => ("NobodyFirst$Game", "wouldGo", "[I", true)
  | 3 => ("NobodyFirst$Game", "ownShame", "[I", true)
  | 4 => ("NobodyFirst$Game", "slot", "[I", true)
  | 5 => ("NobodyFirst$Game", "firstRest", "[I", true)
  | 6 => ("NobodyFirst$Game", "restsFound", "I", false)
  | 7 => ("NobodyFirst$Game", "leastOfRests", "I", false)
  | _ => ("NobodyFirst$Game", "leastOfAll", "I", false)
def tyX1 : Nat → FieldType := fun k => match k with
  | 0 => .boolean
  | 1 => .int
  | 2 => .array .int
  | 3 => .array .int
  | 4 => .array .int
  | 5 => .array .int
  | 6 => .int
  | 7 => .int
  | _ => .int
theorem nmX1 : ∀ a, a < 9 → ∀ b, b < 9 → a ≠ b → (TX1 a).2.1 ≠ (TX1 b).2.1 := by decide +kernel
theorem tyX1_ok : ∀ k, k < 9 → parseFieldDescriptor (TX1 k).2.2.1 = some (tyX1 k) := by decide +kernel
abbrev cX1_init : ByteArray := prog_3_method_1_code
def yX1_init : MethodName := ⟨RX1, "<init>", "()V"⟩
abbrev cX1_gather : ByteArray := prog_3_method_2_code
def yX1_gather : MethodName := ⟨RX1, "gather", "(LNobodyFirst$Party;)V"⟩
abbrev cX1_chooseByFigures : ByteArray := prog_3_method_3_code
def yX1_chooseByFigures : MethodName := ⟨RX1, "chooseByFigures", "(I)Z"⟩
abbrev cX1_costOf : ByteArray := prog_3_method_4_code
def yX1_costOf : MethodName := ⟨RX1, "costOf", "(I)I"⟩
abbrev cX1_isFirstAlone : ByteArray := prog_3_method_5_code
def yX1_isFirstAlone : MethodName := ⟨RX1, "isFirstAlone", "(I)Z"⟩
abbrev cX1_reckon : ByteArray := prog_3_method_6_code
def yX1_reckon : MethodName := ⟨RX1, "reckon", "()V"⟩
abbrev cX1_choose : ByteArray := prog_3_method_7_code
def yX1_choose : MethodName := ⟨RX1, "choose", "(I)V"⟩
abbrev cX1_weighChoice : ByteArray := prog_3_method_8_code
def yX1_weighChoice : MethodName := ⟨RX1, "weighChoice", "()V"⟩
abbrev cX1_isRest : ByteArray := prog_3_method_9_code
def yX1_isRest : MethodName := ⟨RX1, "isRest", "()Z"⟩
abbrev cX1_wouldRatherMove : ByteArray := prog_3_method_10_code
def yX1_wouldRatherMove : MethodName := ⟨RX1, "wouldRatherMove", "(I)Z"⟩
def RX2 : String := "NobodyFirst$Giving"
def TX2 : u_T := fun k => match k with
  | 0 => ("NobodyFirst$Giving", "known", "Z", false)
  | 1 => ("NobodyFirst$Giving", "least", "I", false)
  | 2 => ("NobodyFirst$Giving", "choice", "[I", true)
  | _ => ("NobodyFirst$Giving", "chosen", "[I", true)
def tyX2 : Nat → FieldType := fun k => match k with
  | 0 => .boolean
  | 1 => .int
  | 2 => .array .int
  | _ => .array .int
theorem nmX2 : ∀ a, a < 4 → ∀ b, b < 4 → a ≠ b → (TX2 a).2.1 ≠ (TX2 b).2.1 := by decide +kernel
theorem tyX2_ok : ∀ k, k < 4 → parseFieldDescriptor (TX2 k).2.2.1 = some (tyX2 k) := by decide +kernel
abbrev cX2_init : ByteArray := prog_4_method_1_code
def yX2_init : MethodName := ⟨RX2, "<init>", "()V"⟩
abbrev cX2_minuteOf : ByteArray := prog_4_method_2_code
def yX2_minuteOf : MethodName := ⟨RX2, "minuteOf", "(I)I"⟩
abbrev cX2_reckon : ByteArray := prog_4_method_3_code
def yX2_reckon : MethodName := ⟨RX2, "reckon", "(LNobodyFirst$Party;LNobodyFirst$Evening;)V"⟩
abbrev cX2_choose : ByteArray := prog_4_method_4_code
def yX2_choose : MethodName := ⟨RX2, "choose", "(II)V"⟩
abbrev cX2_giveChosen : ByteArray := prog_4_method_5_code
def yX2_giveChosen : MethodName := ⟨RX2, "giveChosen", "(LNobodyFirst$Party;LNobodyFirst$Evening;)I"⟩
def RX3 : String := "NobodyFirst$History"
def TX3 : u_T := fun k => match k with
  | 0 => ("NobodyFirst$History", "wasSign", "[Z", true)
  | 1 => ("NobodyFirst$History", "steps", "I", false)
  | 2 => ("NobodyFirst$History", "firstKept", "LNobodyFirst$Told;", true)
  | 3 => ("NobodyFirst$History", "secondKept", "LNobodyFirst$Told;", true)
  | _ => ("NobodyFirst$History", "kept", "I", false)
def tyX3 : Nat → FieldType := fun k => match k with
  | 0 => .array .boolean
  | 1 => .int
  | 2 => .object "NobodyFirst$Told"
  | 3 => .object "NobodyFirst$Told"
  | _ => .int
theorem nmX3 : ∀ a, a < 5 → ∀ b, b < 5 → a ≠ b → (TX3 a).2.1 ≠ (TX3 b).2.1 := by decide +kernel
theorem tyX3_ok : ∀ k, k < 5 → parseFieldDescriptor (TX3 k).2.2.1 = some (tyX3 k) := by decide +kernel
abbrev cX3_init : ByteArray := prog_5_method_1_code
def yX3_init : MethodName := ⟨RX3, "<init>", "()V"⟩
abbrev cX3_forget : ByteArray := prog_5_method_2_code
def yX3_forget : MethodName := ⟨RX3, "forget", "()V"⟩
abbrev cX3_note : ByteArray := prog_5_method_3_code
def yX3_note : MethodName := ⟨RX3, "note", "(Z)V"⟩
abbrev cX3_undo : ByteArray := prog_5_method_4_code
def yX3_undo : MethodName := ⟨RX3, "undo", "(LNobodyFirst$Told;)V"⟩
abbrev cX3_store : ByteArray := prog_5_method_5_code
def yX3_store : MethodName := ⟨RX3, "store", "(LNobodyFirst$Told;)Z"⟩
abbrev cX3_restore : ByteArray := prog_5_method_6_code
def yX3_restore : MethodName := ⟨RX3, "restore", "(LNobodyFirst$Told;)Z"⟩
abbrev cX3_placeOf : ByteArray := prog_5_method_7_code
def yX3_placeOf : MethodName := ⟨RX3, "placeOf", "(I)LNobodyFirst$Told;"⟩
def RX4 : String := "NobodyFirst$Party"
def TX4 : u_T := fun k => match k with
  | 0 => ("NobodyFirst$Party", "guests", "I", false)
  | 1 => ("NobodyFirst$Party", "pair", "[I", true)
  | 2 => ("NobodyFirst$Party", "wouldGo", "[I", true)
  | 3 => ("NobodyFirst$Party", "ownShame", "[I", true)
  | 4 => ("NobodyFirst$Party", "kind", "[I", true)
  | 5 => ("NobodyFirst$Party", "told", "LNobodyFirst$Told;", true)
  | 6 => ("NobodyFirst$Party", "drawsBy", "I", false)
  | 7 => ("NobodyFirst$Party", "hall", "I", false)
  | 8 => ("NobodyFirst$Party", "end", "I", false)
  | 9 => ("NobodyFirst$Party", "offers", "I", false)
  | 10 => ("NobodyFirst$Party", "offerWorth", "[I", true)
  | 11 => ("NobodyFirst$Party", "offerCost", "[I", true)
  | 12 => ("NobodyFirst$Party", "ifMeant", "[I", true)
  | 13 => ("NobodyFirst$Party", "ifNot", "[I", true)
  | 14 => ("NobodyFirst$Party", "looks", "I", false)
  | 15 => ("NobodyFirst$Party", "lookedAt", "[I", true)
  | 16 => ("NobodyFirst$Party", "lookMinute", "[I", true)
  | _ => ("NobodyFirst$Party", "yawned", "[I", true)
def tyX4 : Nat → FieldType := fun k => match k with
  | 0 => .int
  | 1 => .array .int
  | 2 => .array .int
  | 3 => .array .int
  | 4 => .array .int
  | 5 => .object "NobodyFirst$Told"
  | 6 => .int
  | 7 => .int
  | 8 => .int
  | 9 => .int
  | 10 => .array .int
  | 11 => .array .int
  | 12 => .array .int
  | 13 => .array .int
  | 14 => .int
  | 15 => .array .int
  | 16 => .array .int
  | _ => .array .int
theorem nmX4 : ∀ a, a < 18 → ∀ b, b < 18 → a ≠ b → (TX4 a).2.1 ≠ (TX4 b).2.1 := by decide +kernel
theorem tyX4_ok : ∀ k, k < 18 → parseFieldDescriptor (TX4 k).2.2.1 = some (tyX4 k) := by decide +kernel
abbrev cX4_init : ByteArray := prog_6_method_1_code
def yX4_init : MethodName := ⟨RX4, "<init>", "()V"⟩
abbrev cX4_clear : ByteArray := prog_6_method_2_code
def yX4_clear : MethodName := ⟨RX4, "clear", "()V"⟩
abbrev cX4_addGuest : ByteArray := prog_6_method_3_code
def yX4_addGuest : MethodName := ⟨RX4, "addGuest", "(IIII)Z"⟩
abbrev cX4_addOffer : ByteArray := prog_6_method_4_code
def yX4_addOffer : MethodName := ⟨RX4, "addOffer", "(II)Z"⟩
abbrev cX4_addLook : ByteArray := prog_6_method_5_code
def yX4_addLook : MethodName := ⟨RX4, "addLook", "(III)Z"⟩
abbrev cX4_setCustom : ByteArray := prog_6_method_6_code
def yX4_setCustom : MethodName := ⟨RX4, "setCustom", "(III)Z"⟩
abbrev cX4_setHall : ByteArray := prog_6_method_7_code
def yX4_setHall : MethodName := ⟨RX4, "setHall", "(II)Z"⟩
abbrev cX4_setEnd : ByteArray := prog_6_method_8_code
def yX4_setEnd : MethodName := ⟨RX4, "setEnd", "(I)Z"⟩
abbrev cX4_weightOfLooks : ByteArray := prog_6_method_9_code
def yX4_weightOfLooks : MethodName := ⟨RX4, "weightOfLooks", "(II)I"⟩
abbrev cX4_weightOfLook : ByteArray := prog_6_method_10_code
def yX4_weightOfLook : MethodName := ⟨RX4, "weightOfLook", "(ZZ)I"⟩
def RX5 : String := "NobodyFirst$Reader"
def TX5 : u_T := fun k => match k with
  | 0 => ("NobodyFirst$Reader", "numbers", "[I", true)
  | _ => ("NobodyFirst$Reader", "place", "I", false)
def tyX5 : Nat → FieldType := fun k => match k with
  | 0 => .array .int
  | _ => .int
theorem nmX5 : ∀ a, a < 2 → ∀ b, b < 2 → a ≠ b → (TX5 a).2.1 ≠ (TX5 b).2.1 := by decide +kernel
theorem tyX5_ok : ∀ k, k < 2 → parseFieldDescriptor (TX5 k).2.2.1 = some (tyX5 k) := by decide +kernel
abbrev cX5_init : ByteArray := prog_7_method_1_code
def yX5_init : MethodName := ⟨RX5, "<init>", "()V"⟩
abbrev cX5_firstFault : ByteArray := prog_7_method_2_code
def yX5_firstFault : MethodName := ⟨RX5, "firstFault", "([BILNobodyFirst$Party;)I"⟩
abbrev cX5_readNumbers : ByteArray := prog_7_method_3_code
def yX5_readNumbers : MethodName := ⟨RX5, "readNumbers", "([BII)Z"⟩
abbrev cX5_readNumber : ByteArray := prog_7_method_4_code
def yX5_readNumber : MethodName := ⟨RX5, "readNumber", "([BI)I"⟩
abbrev cX5_enter : ByteArray := prog_7_method_5_code
def yX5_enter : MethodName := ⟨RX5, "enter", "(ILNobodyFirst$Party;)Z"⟩
def RX6 : String := "NobodyFirst$Told"
def TX6 : u_T := fun k => match k with
  | 0 => ("NobodyFirst$Told", "signs", "I", false)
  | 1 => ("NobodyFirst$Told", "signMinute", "[I", true)
  | 2 => ("NobodyFirst$Told", "signWorth", "[I", true)
  | 3 => ("NobodyFirst$Told", "words", "I", false)
  | _ => ("NobodyFirst$Told", "wordMinute", "[I", true)
def tyX6 : Nat → FieldType := fun k => match k with
  | 0 => .int
  | 1 => .array .int
  | 2 => .array .int
  | 3 => .int
  | _ => .array .int
theorem nmX6 : ∀ a, a < 5 → ∀ b, b < 5 → a ≠ b → (TX6 a).2.1 ≠ (TX6 b).2.1 := by decide +kernel
theorem tyX6_ok : ∀ k, k < 5 → parseFieldDescriptor (TX6 k).2.2.1 = some (tyX6 k) := by decide +kernel
abbrev cX6_init : ByteArray := prog_8_method_1_code
def yX6_init : MethodName := ⟨RX6, "<init>", "()V"⟩
abbrev cX6_clear : ByteArray := prog_8_method_2_code
def yX6_clear : MethodName := ⟨RX6, "clear", "()V"⟩
abbrev cX6_addSign : ByteArray := prog_8_method_3_code
def yX6_addSign : MethodName := ⟨RX6, "addSign", "(II)Z"⟩
abbrev cX6_addWord : ByteArray := prog_8_method_4_code
def yX6_addWord : MethodName := ⟨RX6, "addWord", "(I)Z"⟩
abbrev cX6_copyFrom : ByteArray := prog_8_method_5_code
def yX6_copyFrom : MethodName := ⟨RX6, "copyFrom", "(LNobodyFirst$Told;)V"⟩
def RX7 : String := "NobodyFirst"
def TX7 : u_T := fun k => match k with
  | 0 => ("NobodyFirst", "text", "[B", true)
  | 1 => ("NobodyFirst", "length", "I", false)
  | 2 => ("NobodyFirst", "reader", "LNobodyFirst$Reader;", true)
  | 3 => ("NobodyFirst", "laid", "LNobodyFirst$Party;", false)
  | 4 => ("NobodyFirst", "draft", "LNobodyFirst$Party;", false)
  | 5 => ("NobodyFirst", "evening", "LNobodyFirst$Evening;", true)
  | 6 => ("NobodyFirst", "giving", "LNobodyFirst$Giving;", true)
  | 7 => ("NobodyFirst", "game", "LNobodyFirst$Game;", true)
  | _ => ("NobodyFirst", "history", "LNobodyFirst$History;", true)
def tyX7 : Nat → FieldType := fun k => match k with
  | 0 => .array .byte
  | 1 => .int
  | 2 => .object "NobodyFirst$Reader"
  | 3 => .object "NobodyFirst$Party"
  | 4 => .object "NobodyFirst$Party"
  | 5 => .object "NobodyFirst$Evening"
  | 6 => .object "NobodyFirst$Giving"
  | 7 => .object "NobodyFirst$Game"
  | _ => .object "NobodyFirst$History"
theorem nmX7 : ∀ a, a < 9 → ∀ b, b < 9 → a ≠ b → (TX7 a).2.1 ≠ (TX7 b).2.1 := by decide +kernel
theorem tyX7_ok : ∀ k, k < 9 → parseFieldDescriptor (TX7 k).2.2.1 = some (tyX7 k) := by decide +kernel
abbrev cX7_init : ByteArray := prog_1_method_1_code
def yX7_init : MethodName := ⟨RX7, "<init>", "()V"⟩
abbrev cX7_write : ByteArray := prog_1_method_2_code
def yX7_write : MethodName := ⟨RX7, "write", "(IJ)I"⟩
abbrev cX7_wipe : ByteArray := prog_1_method_3_code
def yX7_wipe : MethodName := ⟨RX7, "wipe", "()I"⟩
abbrev cX7_fault : ByteArray := prog_1_method_4_code
def yX7_fault : MethodName := ⟨RX7, "fault", "()I"⟩
abbrev cX7_lay : ByteArray := prog_1_method_5_code
def yX7_lay : MethodName := ⟨RX7, "lay", "()I"⟩
abbrev cX7_guest : ByteArray := prog_1_method_6_code
def yX7_guest : MethodName := ⟨RX7, "guest", "(II)I"⟩
abbrev cX7_shame : ByteArray := prog_1_method_7_code
def yX7_shame : MethodName := ⟨RX7, "shame", "(II)I"⟩
abbrev cX7_presses : ByteArray := prog_1_method_8_code
def yX7_presses : MethodName := ⟨RX7, "presses", "(II)I"⟩
abbrev cX7_is : ByteArray := prog_1_method_9_code
def yX7_is : MethodName := ⟨RX7, "is", "(II)I"⟩
abbrev cX7_when : ByteArray := prog_1_method_10_code
def yX7_when : MethodName := ⟨RX7, "when", "(II)I"⟩
abbrev cX7_wasted : ByteArray := prog_1_method_11_code
def yX7_wasted : MethodName := ⟨RX7, "wasted", "(I)I"⟩
abbrev cX7_frees : ByteArray := prog_1_method_12_code
def yX7_frees : MethodName := ⟨RX7, "frees", "(II)I"⟩
abbrev cX7_madeUp : ByteArray := prog_1_method_13_code
def yX7_madeUp : MethodName := ⟨RX7, "madeUp", "(II)I"⟩
abbrev cX7_bell : ByteArray := prog_1_method_14_code
def yX7_bell : MethodName := ⟨RX7, "bell", "(I)I"⟩
abbrev cX7_best : ByteArray := prog_1_method_15_code
def yX7_best : MethodName := ⟨RX7, "best", "(I)I"⟩
abbrev cX7_given : ByteArray := prog_1_method_16_code
def yX7_given : MethodName := ⟨RX7, "given", "(I)I"⟩
abbrev cX7_cost : ByteArray := prog_1_method_17_code
def yX7_cost : MethodName := ⟨RX7, "cost", "(II)I"⟩
abbrev cX7_rests : ByteArray := prog_1_method_18_code
def yX7_rests : MethodName := ⟨RX7, "rests", "(I)I"⟩
abbrev cX7_price : ByteArray := prog_1_method_19_code
def yX7_price : MethodName := ⟨RX7, "price", "()I"⟩
abbrev cX7_meant : ByteArray := prog_1_method_20_code
def yX7_meant : MethodName := ⟨RX7, "meant", "(II)I"⟩
abbrev cX7_since : ByteArray := prog_1_method_21_code
def yX7_since : MethodName := ⟨RX7, "since", "(III)I"⟩
abbrev cX7_leave : ByteArray := prog_1_method_22_code
def yX7_leave : MethodName := ⟨RX7, "leave", "(III)I"⟩
abbrev cX7_drawn : ByteArray := prog_1_method_23_code
def yX7_drawn : MethodName := ⟨RX7, "drawn", "(II)I"⟩
abbrev cX7_sign : ByteArray := prog_1_method_24_code
def yX7_sign : MethodName := ⟨RX7, "sign", "(II)I"⟩
abbrev cX7_say : ByteArray := prog_1_method_25_code
def yX7_say : MethodName := ⟨RX7, "say", "(I)I"⟩
abbrev cX7_takeBack : ByteArray := prog_1_method_26_code
def yX7_takeBack : MethodName := ⟨RX7, "takeBack", "()I"⟩
abbrev cX7_keep : ByteArray := prog_1_method_27_code
def yX7_keep : MethodName := ⟨RX7, "keep", "()I"⟩
abbrev cX7_back : ByteArray := prog_1_method_28_code
def yX7_back : MethodName := ⟨RX7, "back", "()I"⟩
abbrev cX7_count : ByteArray := prog_1_method_29_code
def yX7_count : MethodName := ⟨RX7, "count", "(I)I"⟩
abbrev cX7_within : ByteArray := prog_1_method_30_code
def yX7_within : MethodName := ⟨RX7, "within", "(III)Z"⟩
abbrev cX7_isGuest : ByteArray := prog_1_method_31_code
def yX7_isGuest : MethodName := ⟨RX7, "isGuest", "(I)Z"⟩
abbrev cX7_passAsItIs : ByteArray := prog_1_method_32_code
def yX7_passAsItIs : MethodName := ⟨RX7, "passAsItIs", "()V"⟩
abbrev cX7_allWithBus : ByteArray := prog_1_method_33_code
def yX7_allWithBus : MethodName := ⟨RX7, "allWithBus", "(II)I"⟩
abbrev cX7_allWithBell : ByteArray := prog_1_method_34_code
def yX7_allWithBell : MethodName := ⟨RX7, "allWithBell", "(I)I"⟩
abbrev cX7_leftAlone : ByteArray := prog_1_method_35_code
def yX7_leftAlone : MethodName := ⟨RX7, "leftAlone", "(II)I"⟩
abbrev cX7_inLowestTerms : ByteArray := prog_1_method_36_code
def yX7_inLowestTerms : MethodName := ⟨RX7, "inLowestTerms", "(III)I"⟩
abbrev cX7_greatestDivisor : ByteArray := prog_1_method_37_code
def yX7_greatestDivisor : MethodName := ⟨RX7, "greatestDivisor", "(II)I"⟩
def RX8 : String := "NobodyFirstModel"
def TX8 : u_T := fun k => match k with
  | 0 => ("NobodyFirstModel", "length", "I", false)
  | 1 => ("NobodyFirstModel", "text", "[I", true)
  | 2 => ("NobodyFirstModel", "many", "[I", true)
  | 3 => ("NobodyFirstModel", "pairs", "[I", true)
  | 4 => ("NobodyFirstModel", "wants", "[I", true)
  | 5 => ("NobodyFirstModel", "shames", "[I", true)
  | 6 => ("NobodyFirstModel", "kinds", "[I", true)
  | 7 => ("NobodyFirstModel", "giveMany", "[I", true)
  | 8 => ("NobodyFirstModel", "giveWorth", "[I", true)
  | 9 => ("NobodyFirstModel", "giveCost", "[I", true)
  | 10 => ("NobodyFirstModel", "draws", "[I", true)
  | 11 => ("NobodyFirstModel", "halls", "[I", true)
  | 12 => ("NobodyFirstModel", "ends", "[I", true)
  | 13 => ("NobodyFirstModel", "meantBy", "[I", true)
  | 14 => ("NobodyFirstModel", "notMeantBy", "[I", true)
  | 15 => ("NobodyFirstModel", "lookMany", "[I", true)
  | 16 => ("NobodyFirstModel", "lookOf", "[I", true)
  | 17 => ("NobodyFirstModel", "lookAt", "[I", true)
  | 18 => ("NobodyFirstModel", "yawns", "[I", true)
  | 19 => ("NobodyFirstModel", "signMany", "[I", true)
  | 20 => ("NobodyFirstModel", "signAt", "[I", true)
  | 21 => ("NobodyFirstModel", "signWorth", "[I", true)
  | 22 => ("NobodyFirstModel", "wordMany", "[I", true)
  | 23 => ("NobodyFirstModel", "wordAt", "[I", true)
  | 24 => ("NobodyFirstModel", "keptMany", "I", false)
  | 25 => ("NobodyFirstModel", "doneMany", "I", false)
  | 26 => ("NobodyFirstModel", "done", "[I", true)
  | 27 => ("NobodyFirstModel", "place", "I", false)
  | 28 => ("NobodyFirstModel", "told", "[I", true)
  | 29 => ("NobodyFirstModel", "busOf", "I", false)
  | 30 => ("NobodyFirstModel", "busFrom", "I", false)
  | 31 => ("NobodyFirstModel", "bellAt", "I", false)
  | 32 => ("NobodyFirstModel", "drawBy", "I", false)
  | 33 => ("NobodyFirstModel", "givenAt", "[I", true)
  | 34 => ("NobodyFirstModel", "stands", "[I", true)
  | 35 => ("NobodyFirstModel", "goes", "[I", true)
  | 36 => ("NobodyFirstModel", "playMany", "I", false)
  | 37 => ("NobodyFirstModel", "playWants", "[I", true)
  | 38 => ("NobodyFirstModel", "playShames", "[I", true)
  | _ => ("NobodyFirstModel", "slots", "[I", true)
def tyX8 : Nat → FieldType := fun k => match k with
  | 0 => .int
  | 1 => .array .int
  | 2 => .array .int
  | 3 => .array .int
  | 4 => .array .int
  | 5 => .array .int
  | 6 => .array .int
  | 7 => .array .int
  | 8 => .array .int
  | 9 => .array .int
  | 10 => .array .int
  | 11 => .array .int
  | 12 => .array .int
  | 13 => .array .int
  | 14 => .array .int
  | 15 => .array .int
  | 16 => .array .int
  | 17 => .array .int
  | 18 => .array .int
  | 19 => .array .int
  | 20 => .array .int
  | 21 => .array .int
  | 22 => .array .int
  | 23 => .array .int
  | 24 => .int
  | 25 => .int
  | 26 => .array .int
  | 27 => .int
  | 28 => .array .int
  | 29 => .int
  | 30 => .int
  | 31 => .int
  | 32 => .int
  | 33 => .array .int
  | 34 => .array .int
  | 35 => .array .int
  | 36 => .int
  | 37 => .array .int
  | 38 => .array .int
  | _ => .array .int
theorem nmX8 : ∀ a, a < 40 → ∀ b, b < 40 → a ≠ b → (TX8 a).2.1 ≠ (TX8 b).2.1 := by decide +kernel
theorem tyX8_ok : ∀ k, k < 40 → parseFieldDescriptor (TX8 k).2.2.1 = some (tyX8 k) := by decide +kernel
abbrev cX8_init : ByteArray := prog_10_method_1_code
def yX8_init : MethodName := ⟨RX8, "<init>", "()V"⟩
abbrev cX8_in : ByteArray := prog_10_method_2_code
def yX8_in : MethodName := ⟨RX8, "in", "(JJJ)Z"⟩
abbrev cX8_has : ByteArray := prog_10_method_3_code
def yX8_has : MethodName := ⟨RX8, "has", "(II)Z"⟩
abbrev cX8_noEvening : ByteArray := prog_10_method_4_code
def yX8_noEvening : MethodName := ⟨RX8, "noEvening", "(I)V"⟩
abbrev cX8_write : ByteArray := prog_10_method_5_code
def yX8_write : MethodName := ⟨RX8, "write", "(IJ)I"⟩
abbrev cX8_wipe : ByteArray := prog_10_method_6_code
def yX8_wipe : MethodName := ⟨RX8, "wipe", "()I"⟩
abbrev cX8_byteAt : ByteArray := prog_10_method_7_code
def yX8_byteAt : MethodName := ⟨RX8, "byteAt", "(I)I"⟩
abbrev cX8_figures : ByteArray := prog_10_method_8_code
def yX8_figures : MethodName := ⟨RX8, "figures", "(I)Z"⟩
abbrev cX8_isMinute : ByteArray := prog_10_method_9_code
def yX8_isMinute : MethodName := ⟨RX8, "isMinute", "(I)Z"⟩
abbrev cX8_guestItem : ByteArray := prog_10_method_10_code
def yX8_guestItem : MethodName := ⟨RX8, "guestItem", "()Z"⟩
abbrev cX8_lookItem : ByteArray := prog_10_method_11_code
def yX8_lookItem : MethodName := ⟨RX8, "lookItem", "()Z"⟩
abbrev cX8_item : ByteArray := prog_10_method_12_code
def yX8_item : MethodName := ⟨RX8, "item", "()Z"⟩
abbrev cX8_readAll : ByteArray := prog_10_method_13_code
def yX8_readAll : MethodName := ⟨RX8, "readAll", "()I"⟩
abbrev cX8_fault : ByteArray := prog_10_method_14_code
def yX8_fault : MethodName := ⟨RX8, "fault", "()I"⟩
abbrev cX8_copyTold : ByteArray := prog_10_method_15_code
def yX8_copyTold : MethodName := ⟨RX8, "copyTold", "(II)V"⟩
abbrev cX8_lay : ByteArray := prog_10_method_16_code
def yX8_lay : MethodName := ⟨RX8, "lay", "()I"⟩
abbrev cX8_isGuest : ByteArray := prog_10_method_17_code
def yX8_isGuest : MethodName := ⟨RX8, "isGuest", "(I)Z"⟩
abbrev cX8_guest : ByteArray := prog_10_method_18_code
def yX8_guest : MethodName := ⟨RX8, "guest", "(II)I"⟩
abbrev cX8_asItIs : ByteArray := prog_10_method_19_code
def yX8_asItIs : MethodName := ⟨RX8, "asItIs", "()V"⟩
abbrev cX8_counts : ByteArray := prog_10_method_20_code
def yX8_counts : MethodName := ⟨RX8, "counts", "(II)Z"⟩
abbrev cX8_stoodAhead : ByteArray := prog_10_method_21_code
def yX8_stoodAhead : MethodName := ⟨RX8, "stoodAhead", "(I)I"⟩
abbrev cX8_shameOf : ByteArray := prog_10_method_22_code
def yX8_shameOf : MethodName := ⟨RX8, "shameOf", "(II)I"⟩
abbrev cX8_isBus : ByteArray := prog_10_method_23_code
def yX8_isBus : MethodName := ⟨RX8, "isBus", "(I)Z"⟩
abbrev cX8_doesPress : ByteArray := prog_10_method_24_code
def yX8_doesPress : MethodName := ⟨RX8, "doesPress", "(II)Z"⟩
abbrev cX8_standsAt : ByteArray := prog_10_method_25_code
def yX8_standsAt : MethodName := ⟨RX8, "standsAt", "(II)Z"⟩
abbrev cX8_goEvening : ByteArray := prog_10_method_26_code
def yX8_goEvening : MethodName := ⟨RX8, "goEvening", "()V"⟩
abbrev cX8_lastOf : ByteArray := prog_10_method_27_code
def yX8_lastOf : MethodName := ⟨RX8, "lastOf", "()I"⟩
abbrev cX8_away : ByteArray := prog_10_method_28_code
def yX8_away : MethodName := ⟨RX8, "away", "(II)I"⟩
abbrev cX8_allWasted : ByteArray := prog_10_method_29_code
def yX8_allWasted : MethodName := ⟨RX8, "allWasted", "()I"⟩
abbrev cX8_goAsItIs : ByteArray := prog_10_method_30_code
def yX8_goAsItIs : MethodName := ⟨RX8, "goAsItIs", "()V"⟩
abbrev cX8_isTime : ByteArray := prog_10_method_31_code
def yX8_isTime : MethodName := ⟨RX8, "isTime", "(I)Z"⟩
abbrev cX8_shame : ByteArray := prog_10_method_32_code
def yX8_shame : MethodName := ⟨RX8, "shame", "(II)I"⟩
abbrev cX8_presses : ByteArray := prog_10_method_33_code
def yX8_presses : MethodName := ⟨RX8, "presses", "(II)I"⟩
abbrev cX8_is : ByteArray := prog_10_method_34_code
def yX8_is : MethodName := ⟨RX8, "is", "(II)I"⟩
abbrev cX8_when : ByteArray := prog_10_method_35_code
def yX8_when : MethodName := ⟨RX8, "when", "(II)I"⟩
abbrev cX8_wasted : ByteArray := prog_10_method_36_code
def yX8_wasted : MethodName := ⟨RX8, "wasted", "(I)I"⟩
abbrev cX8_freesOf : ByteArray := prog_10_method_37_code
def yX8_freesOf : MethodName := ⟨RX8, "freesOf", "(II)I"⟩
abbrev cX8_frees : ByteArray := prog_10_method_38_code
def yX8_frees : MethodName := ⟨RX8, "frees", "(II)I"⟩
abbrev cX8_madeUp : ByteArray := prog_10_method_39_code
def yX8_madeUp : MethodName := ⟨RX8, "madeUp", "(II)I"⟩
abbrev cX8_bellOf : ByteArray := prog_10_method_40_code
def yX8_bellOf : MethodName := ⟨RX8, "bellOf", "(I)I"⟩
abbrev cX8_bell : ByteArray := prog_10_method_41_code
def yX8_bell : MethodName := ⟨RX8, "bell", "(I)I"⟩
abbrev cX8_best : ByteArray := prog_10_method_42_code
def yX8_best : MethodName := ⟨RX8, "best", "(I)I"⟩
abbrev cX8_givenBy : ByteArray := prog_10_method_43_code
def yX8_givenBy : MethodName := ⟨RX8, "givenBy", "(I)I"⟩
abbrev cX8_given : ByteArray := prog_10_method_44_code
def yX8_given : MethodName := ⟨RX8, "given", "(I)I"⟩
abbrev cX8_layGame : ByteArray := prog_10_method_45_code
def yX8_layGame : MethodName := ⟨RX8, "layGame", "()V"⟩
abbrev cX8_costOf : ByteArray := prog_10_method_46_code
def yX8_costOf : MethodName := ⟨RX8, "costOf", "(I)I"⟩
abbrev cX8_cost : ByteArray := prog_10_method_47_code
def yX8_cost : MethodName := ⟨RX8, "cost", "(II)I"⟩
abbrev cX8_takeSlots : ByteArray := prog_10_method_48_code
def yX8_takeSlots : MethodName := ⟨RX8, "takeSlots", "(I)V"⟩
abbrev cX8_isRest : ByteArray := prog_10_method_49_code
def yX8_isRest : MethodName := ⟨RX8, "isRest", "()Z"⟩
abbrev cX8_sumOfCosts : ByteArray := prog_10_method_50_code
def yX8_sumOfCosts : MethodName := ⟨RX8, "sumOfCosts", "()I"⟩
abbrev cX8_codesOf : ByteArray := prog_10_method_51_code
def yX8_codesOf : MethodName := ⟨RX8, "codesOf", "()I"⟩
abbrev cX8_rests : ByteArray := prog_10_method_52_code
def yX8_rests : MethodName := ⟨RX8, "rests", "(I)I"⟩
abbrev cX8_price : ByteArray := prog_10_method_53_code
def yX8_price : MethodName := ⟨RX8, "price", "()I"⟩
abbrev cX8_lowest : ByteArray := prog_10_method_54_code
def yX8_lowest : MethodName := ⟨RX8, "lowest", "(JJI)J"⟩
abbrev cX8_meant : ByteArray := prog_10_method_55_code
def yX8_meant : MethodName := ⟨RX8, "meant", "(II)I"⟩
abbrev cX8_sinceOf : ByteArray := prog_10_method_56_code
def yX8_sinceOf : MethodName := ⟨RX8, "sinceOf", "(II)J"⟩
abbrev cX8_since : ByteArray := prog_10_method_57_code
def yX8_since : MethodName := ⟨RX8, "since", "(III)I"⟩
abbrev cX8_around : ByteArray := prog_10_method_58_code
def yX8_around : MethodName := ⟨RX8, "around", "(II)I"⟩
abbrev cX8_leave : ByteArray := prog_10_method_59_code
def yX8_leave : MethodName := ⟨RX8, "leave", "(III)I"⟩
abbrev cX8_drawn : ByteArray := prog_10_method_60_code
def yX8_drawn : MethodName := ⟨RX8, "drawn", "(II)I"⟩
abbrev cX8_note : ByteArray := prog_10_method_61_code
def yX8_note : MethodName := ⟨RX8, "note", "(I)V"⟩
abbrev cX8_sign : ByteArray := prog_10_method_62_code
def yX8_sign : MethodName := ⟨RX8, "sign", "(II)I"⟩
abbrev cX8_say : ByteArray := prog_10_method_63_code
def yX8_say : MethodName := ⟨RX8, "say", "(I)I"⟩
abbrev cX8_takeBack : ByteArray := prog_10_method_64_code
def yX8_takeBack : MethodName := ⟨RX8, "takeBack", "()I"⟩
abbrev cX8_keep : ByteArray := prog_10_method_65_code
def yX8_keep : MethodName := ⟨RX8, "keep", "()I"⟩
abbrev cX8_back : ByteArray := prog_10_method_66_code
def yX8_back : MethodName := ⟨RX8, "back", "()I"⟩
abbrev cX8_pairMany : ByteArray := prog_10_method_67_code
def yX8_pairMany : MethodName := ⟨RX8, "pairMany", "()I"⟩
abbrev cX8_count : ByteArray := prog_10_method_68_code
def yX8_count : MethodName := ⟨RX8, "count", "(I)I"⟩
def RJx145de : String := "java/io/Serializable"
def TJx145de : u_T := fun k => match k with
  | _ => ("", "", "", false)
def tyJx145de : Nat → FieldType := fun k => match k with
  | _ => .int
theorem nmJx145de : ∀ a, a < 0 → ∀ b, b < 0 → a ≠ b → (TJx145de a).2.1 ≠ (TJx145de b).2.1 := by decide +kernel
theorem tyJx145de_ok : ∀ k, k < 0 → parseFieldDescriptor (TJx145de k).2.2.1 = some (tyJx145de k) := by decide +kernel
def RJx9f9b0 : String := "java/lang/CharSequence"
def TJx9f9b0 : u_T := fun k => match k with
  | _ => ("", "", "", false)
def tyJx9f9b0 : Nat → FieldType := fun k => match k with
  | _ => .int
theorem nmJx9f9b0 : ∀ a, a < 0 → ∀ b, b < 0 → a ≠ b → (TJx9f9b0 a).2.1 ≠ (TJx9f9b0 b).2.1 := by decide +kernel
theorem tyJx9f9b0_ok : ∀ k, k < 0 → parseFieldDescriptor (TJx9f9b0 k).2.2.1 = some (tyJx9f9b0 k) := by decide +kernel
def RJ11 : String := "java/lang/Character"
def TJ11 : u_T := fun k => match k with
  | _ => ("", "", "", false)
def tyJ11 : Nat → FieldType := fun k => match k with
  | _ => .int
theorem nmJ11 : ∀ a, a < 0 → ∀ b, b < 0 → a ≠ b → (TJ11 a).2.1 ≠ (TJ11 b).2.1 := by decide +kernel
theorem tyJ11_ok : ∀ k, k < 0 → parseFieldDescriptor (TJ11 k).2.2.1 = some (tyJ11 k) := by decide +kernel
abbrev cJ11_isValidCodePoint_9a6ad : ByteArray := prog_11_method_11_code
def yJ11_isValidCodePoint_9a6ad : MethodName := ⟨RJ11, "isValidCodePoint", "(I)Z"⟩
abbrev cJ11_highSurrogate_5068e : ByteArray := prog_11_method_28_code
def yJ11_highSurrogate_5068e : MethodName := ⟨RJ11, "highSurrogate", "(I)C"⟩
abbrev cJ11_lowSurrogate_5068e : ByteArray := prog_11_method_29_code
def yJ11_lowSurrogate_5068e : MethodName := ⟨RJ11, "lowSurrogate", "(I)C"⟩
def RJxb160c : String := "java/lang/Comparable"
def TJxb160c : u_T := fun k => match k with
  | _ => ("", "", "", false)
def tyJxb160c : Nat → FieldType := fun k => match k with
  | _ => .int
theorem nmJxb160c : ∀ a, a < 0 → ∀ b, b < 0 → a ≠ b → (TJxb160c a).2.1 ≠ (TJxb160c b).2.1 := by decide +kernel
theorem tyJxb160c_ok : ∀ k, k < 0 → parseFieldDescriptor (TJxb160c k).2.2.1 = some (tyJxb160c k) := by decide +kernel
def RJ9 : String := "java/lang/Math"
def TJ9 : u_T := fun k => match k with
  | _ => ("", "", "", false)
def tyJ9 : Nat → FieldType := fun k => match k with
  | _ => .int
theorem nmJ9 : ∀ a, a < 0 → ∀ b, b < 0 → a ≠ b → (TJ9 a).2.1 ≠ (TJ9 b).2.1 := by decide +kernel
theorem tyJ9_ok : ∀ k, k < 0 → parseFieldDescriptor (TJ9 k).2.2.1 = some (tyJ9 k) := by decide +kernel
abbrev cJ9_floorMod_7cf53 : ByteArray := prog_12_method_50_code
def yJ9_floorMod_7cf53 : MethodName := ⟨RJ9, "floorMod", "(II)I"⟩
abbrev cJ9_abs_0f7a4 : ByteArray := prog_12_method_59_code
def yJ9_abs_0f7a4 : MethodName := ⟨RJ9, "abs", "(I)I"⟩
abbrev cJ9_max_7cf53 : ByteArray := prog_12_method_65_code
def yJ9_max_7cf53 : MethodName := ⟨RJ9, "max", "(II)I"⟩
abbrev cJ9_min_7cf53 : ByteArray := prog_12_method_69_code
def yJ9_min_7cf53 : MethodName := ⟨RJ9, "min", "(II)I"⟩
def RJ0 : String := "java/lang/String"
def TJ0 : u_T := fun k => match k with
  | _ => ("", "", "", false)
def tyJ0 : Nat → FieldType := fun k => match k with
  | _ => .int
theorem nmJ0 : ∀ a, a < 0 → ∀ b, b < 0 → a ≠ b → (TJ0 a).2.1 ≠ (TJ0 b).2.1 := by decide +kernel
theorem tyJ0_ok : ∀ k, k < 0 → parseFieldDescriptor (TJ0 k).2.2.1 = some (tyJ0 k) := by decide +kernel
abbrev cJ0_length_8abf5 : ByteArray := prog_13_method_54_code
def yJ0_length_8abf5 : MethodName := ⟨RJ0, "length", "()I"⟩
abbrev cJ0_indexOf_0f7a4 : ByteArray := prog_13_method_79_code
def yJ0_indexOf_0f7a4 : MethodName := ⟨RJ0, "indexOf", "(I)I"⟩
abbrev cJ0_indexOf_7cf53 : ByteArray := prog_13_method_80_code
def yJ0_indexOf_7cf53 : MethodName := ⟨RJ0, "indexOf", "(II)I"⟩
abbrev cJ0_coder_7d493 : ByteArray := prog_13_method_152_code
def yJ0_coder_7d493 : MethodName := ⟨RJ0, "coder", "()B"⟩
abbrev cJ0_isLatin1_aae02 : ByteArray := prog_13_method_154_code
def yJ0_isLatin1_aae02 : MethodName := ⟨RJ0, "isLatin1", "()Z"⟩
abbrev cJ0_checkBoundsBeginEnd_23922 : ByteArray := prog_13_method_158_code
def yJ0_checkBoundsBeginEnd_23922 : MethodName := ⟨RJ0, "checkBoundsBeginEnd", "(III)V"⟩
def RJ1 : String := "java/lang/StringLatin1"
def TJ1 : u_T := fun k => match k with
  | _ => ("", "", "", false)
def tyJ1 : Nat → FieldType := fun k => match k with
  | _ => .int
theorem nmJ1 : ∀ a, a < 0 → ∀ b, b < 0 → a ≠ b → (TJ1 a).2.1 ≠ (TJ1 b).2.1 := by decide +kernel
theorem tyJ1_ok : ∀ k, k < 0 → parseFieldDescriptor (TJ1 k).2.2.1 = some (tyJ1 k) := by decide +kernel
abbrev cJ1_canEncode_9a6ad : ByteArray := prog_14_method_4_code
def yJ1_canEncode_9a6ad : MethodName := ⟨RJ1, "canEncode", "(I)Z"⟩
abbrev cJ1_indexOf_4cfef : ByteArray := prog_14_method_22_code
def yJ1_indexOf_4cfef : MethodName := ⟨RJ1, "indexOf", "([BIII)I"⟩
abbrev cJ1_indexOfChar_4cfef : ByteArray := prog_14_method_23_code
def yJ1_indexOfChar_4cfef : MethodName := ⟨RJ1, "indexOfChar", "([BIII)I"⟩
def RJ2 : String := "java/lang/StringUTF16"
def TJ2 : u_T := fun k => match k with
  | _ => ("", "", "", false)
def tyJ2 : Nat → FieldType := fun k => match k with
  | _ => .int
theorem nmJ2 : ∀ a, a < 0 → ∀ b, b < 0 → a ≠ b → (TJ2 a).2.1 ≠ (TJ2 b).2.1 := by decide +kernel
theorem tyJ2_ok : ∀ k, k < 0 → parseFieldDescriptor (TJ2 k).2.2.1 = some (tyJ2 k) := by decide +kernel
abbrev cJ2_getChar_3b067 : ByteArray := prog_15_method_5_code
def yJ2_getChar_3b067 : MethodName := ⟨RJ2, "getChar", "([BI)C"⟩
abbrev cJ2_length_9d52b : ByteArray := prog_15_method_6_code
def yJ2_length_9d52b : MethodName := ⟨RJ2, "length", "([B)I"⟩
abbrev cJ2_indexOf_4cfef : ByteArray := prog_15_method_40_code
def yJ2_indexOf_4cfef : MethodName := ⟨RJ2, "indexOf", "([BIII)I"⟩
abbrev cJ2_indexOfChar_4cfef : ByteArray := prog_15_method_47_code
def yJ2_indexOfChar_4cfef : MethodName := ⟨RJ2, "indexOfChar", "([BIII)I"⟩
abbrev cJ2_indexOfCharUnsafe_4cfef : ByteArray := prog_15_method_48_code
def yJ2_indexOfCharUnsafe_4cfef : MethodName := ⟨RJ2, "indexOfCharUnsafe", "([BIII)I"⟩
abbrev cJ2_indexOfSupplementary_4cfef : ByteArray := prog_15_method_49_code
def yJ2_indexOfSupplementary_4cfef : MethodName := ⟨RJ2, "indexOfSupplementary", "([BIII)I"⟩
abbrev cJ2_checkBoundsBeginEnd_d044e : ByteArray := prog_15_method_93_code
def yJ2_checkBoundsBeginEnd_d044e : MethodName := ⟨RJ2, "checkBoundsBeginEnd", "(II[B)V"⟩
def RJ10 : String := "java/lang/System"
def TJ10 : u_T := fun k => match k with
  | _ => ("", "", "", false)
def tyJ10 : Nat → FieldType := fun k => match k with
  | _ => .int
theorem nmJ10 : ∀ a, a < 0 → ∀ b, b < 0 → a ≠ b → (TJ10 a).2.1 ≠ (TJ10 b).2.1 := by decide +kernel
theorem tyJ10_ok : ∀ k, k < 0 → parseFieldDescriptor (TJ10 k).2.2.1 = some (tyJ10 k) := by decide +kernel
def RJxfd54e : String := "java/lang/constant/Constable"
def TJxfd54e : u_T := fun k => match k with
  | _ => ("", "", "", false)
def tyJxfd54e : Nat → FieldType := fun k => match k with
  | _ => .int
theorem nmJxfd54e : ∀ a, a < 0 → ∀ b, b < 0 → a ≠ b → (TJxfd54e a).2.1 ≠ (TJxfd54e b).2.1 := by decide +kernel
theorem tyJxfd54e_ok : ∀ k, k < 0 → parseFieldDescriptor (TJxfd54e k).2.2.1 = some (tyJxfd54e k) := by decide +kernel
def RJx3cf43 : String := "java/lang/constant/ConstantDesc"
def TJx3cf43 : u_T := fun k => match k with
  | _ => ("", "", "", false)
def tyJx3cf43 : Nat → FieldType := fun k => match k with
  | _ => .int
theorem nmJx3cf43 : ∀ a, a < 0 → ∀ b, b < 0 → a ≠ b → (TJx3cf43 a).2.1 ≠ (TJx3cf43 b).2.1 := by decide +kernel
theorem tyJx3cf43_ok : ∀ k, k < 0 → parseFieldDescriptor (TJx3cf43 k).2.2.1 = some (tyJx3cf43 k) := by decide +kernel
def RJ7 : String := "java/util/Arrays"
def TJ7 : u_T := fun k => match k with
  | _ => ("", "", "", false)
def tyJ7 : Nat → FieldType := fun k => match k with
  | _ => .int
theorem nmJ7 : ∀ a, a < 0 → ∀ b, b < 0 → a ≠ b → (TJ7 a).2.1 ≠ (TJ7 b).2.1 := by decide +kernel
theorem tyJ7_ok : ∀ k, k < 0 → parseFieldDescriptor (TJ7 k).2.2.1 = some (tyJ7 k) := by decide +kernel
abbrev cJ7_fill_53178 : ByteArray := prog_17_method_103_code
def yJ7_fill_53178 : MethodName := ⟨RJ7, "fill", "([II)V"⟩
def RJ3 : String := "jdk/internal/util/Preconditions"
def TJ3 : u_T := fun k => match k with
  | _ => ("", "", "", false)
def tyJ3 : Nat → FieldType := fun k => match k with
  | _ => .int
theorem nmJ3 : ∀ a, a < 0 → ∀ b, b < 0 → a ≠ b → (TJ3 a).2.1 ≠ (TJ3 b).2.1 := by decide +kernel
theorem tyJ3_ok : ∀ k, k < 0 → parseFieldDescriptor (TJ3 k).2.2.1 = some (tyJ3 k) := by decide +kernel
abbrev cJ3_checkFromToIndex_8c36e : ByteArray := prog_18_method_12_code
def yJ3_checkFromToIndex_8c36e : MethodName := ⟨RJ3, "checkFromToIndex", "(IIILjava/util/function/BiFunction;)I"⟩
def RL : String := "NobodyFirstLaw"
abbrev cL_law : ByteArray := code
def yL_law : MethodName := ⟨RL, "law", "([I)Z"⟩
abbrev vwCl : List vw_C := [(RX0, TX0, 14), (RX1, TX1, 9), (RX2, TX2, 4), (RX3, TX3, 5), (RX4, TX4, 18), (RX5, TX5, 2), (RX6, TX6, 5), (RX7, TX7, 9), (RX8, TX8, 40)]
end
section
def xT : List Cond := lw_tbl.filter goodWord
theorem xT_t {w : Cond} (h : w ∈ tables_1) (g : goodWord w = true) : w ∈ xT := List.mem_filter.mpr ⟨List.mem_append_right _ h, g⟩
theorem xT_1 {w : Cond} (j : Nat) (h : tables_1_1[j]? = some w) (g : goodWord w = true) : w ∈ xT := xT_t (List.mem_append_left _ (List.mem_of_getElem? h)) g
theorem xT_2 {w : Cond} (j : Nat) (h : tables_1_2[j]? = some w) (g : goodWord w = true) : w ∈ xT := xT_t (List.mem_append_right _ (List.mem_append_left _ (List.mem_of_getElem? h))) g
theorem xT_3 {w : Cond} (j : Nat) (h : tables_1_3[j]? = some w) (g : goodWord w = true) : w ∈ xT := xT_t (List.mem_append_right _ (List.mem_append_right _ (List.mem_append_left _ (List.mem_of_getElem? h)))) g
theorem xT_4 {w : Cond} (j : Nat) (h : tables_1_4[j]? = some w) (g : goodWord w = true) : w ∈ xT := xT_t (List.mem_append_right _ (List.mem_append_right _ (List.mem_append_right _ (List.mem_append_left _ (List.mem_of_getElem? h))))) g
theorem xT_5 {w : Cond} (j : Nat) (h : tables_1_5[j]? = some w) (g : goodWord w = true) : w ∈ xT := xT_t (List.mem_append_right _ (List.mem_append_right _ (List.mem_append_right _ (List.mem_append_right _ (List.mem_append_left _ (List.mem_of_getElem? h)))))) g
theorem xT_6 {w : Cond} (j : Nat) (h : tables_1_6[j]? = some w) (g : goodWord w = true) : w ∈ xT := xT_t (List.mem_append_right _ (List.mem_append_right _ (List.mem_append_right _ (List.mem_append_right _ (List.mem_append_right _ (List.mem_of_getElem? h)))))) g
theorem xT_p {q : MethodName × Nat} (h : q ∈ lw_privs) : Cond.selects q.1.cls q.1 q.1 ∈ xT := List.mem_filter.mpr ⟨List.mem_append_left _ (List.mem_map.mpr ⟨q, h, rfl⟩), rfl⟩
theorem xT_good {w : Cond} (h : w ∈ xT) : (w.onTables && w.keeps) = true ∨ ∃ ty, w = .arrayClass ty := good_of_word (List.mem_filter.mp h).2
theorem xg_P {cd : Cond} (h5 : cd ∈ xT) : GoodIn xT (cd :: xT) := fun w h => by
  rcases List.mem_cons.mp h with rfl | h
  · exact ⟨h5, xT_good h5⟩
  · exact ⟨h, xT_good h⟩
theorem xg_V {own C : String} {idx : Nat} {y : MethodName} {cd : Cond} (h1 : Cond.methodLink own idx y ∈ xT) (h2 : Cond.instanceMethod y ∈ xT) (h3 : Cond.selects C y y ∈ xT) (h4 : Cond.initialized C ∈ xT) (h5 : cd ∈ xT) : GoodIn xT (wsV own idx C y (cd :: xT)) := fun w h => by
  rcases List.mem_append.mp h with h | h
  · have : w ∈ xT := by
      rcases List.mem_cons.mp h with rfl | h
      · exact h1
      rcases List.mem_cons.mp h with rfl | h
      · exact h2
      rcases List.mem_cons.mp h with rfl | h
      · exact h3
      rcases List.mem_cons.mp h with rfl | h
      · exact h4
      cases h
    exact ⟨this, xT_good this⟩
  · exact xg_P h5 w h
theorem xg_S {own : String} {idx : Nat} {y : MethodName} {cd : Cond} (h1 : Cond.methodLink own idx y ∈ xT) (h2 : Cond.static y ∈ xT) (h4 : Cond.initialized y.cls ∈ xT) (h5 : cd ∈ xT) : GoodIn xT (va_wsS own idx y (cd :: xT)) := fun w h => by
  rcases List.mem_append.mp h with h | h
  · have : w ∈ xT := by
      rcases List.mem_cons.mp h with rfl | h
      · exact h1
      rcases List.mem_cons.mp h with rfl | h
      · exact h2
      rcases List.mem_cons.mp h with rfl | h
      · exact h4
      cases h
    exact ⟨this, xT_good this⟩
  · exact xg_P h5 w h
theorem tw1_0 : (Jvm.Cond.initialized "NobodyFirstLaw") ∈ xT := xT_1 0 rfl rfl
theorem tw1_1 : (Jvm.Cond.initialized "NobodyFirst") ∈ xT := xT_1 1 rfl rfl
theorem tw1_2 : (Jvm.Cond.initialized "NobodyFirst$Reader") ∈ xT := xT_1 2 rfl rfl
theorem tw1_3 : (Jvm.Cond.initialized "NobodyFirst$Party") ∈ xT := xT_1 3 rfl rfl
theorem tw1_4 : (Jvm.Cond.initialized "NobodyFirst$Told") ∈ xT := xT_1 4 rfl rfl
theorem tw1_5 : (Jvm.Cond.initialized "NobodyFirst$Evening") ∈ xT := xT_1 5 rfl rfl
theorem tw1_6 : (Jvm.Cond.initialized "NobodyFirst$Giving") ∈ xT := xT_1 6 rfl rfl
theorem tw1_7 : (Jvm.Cond.initialized "NobodyFirst$Game") ∈ xT := xT_1 7 rfl rfl
theorem tw1_8 : (Jvm.Cond.initialized "NobodyFirst$History") ∈ xT := xT_1 8 rfl rfl
theorem tw1_9 : (Jvm.Cond.initialized "java/lang/Math") ∈ xT := xT_1 9 rfl rfl
theorem tw1_10 : (Jvm.Cond.initialized "NobodyFirstModel") ∈ xT := xT_1 10 rfl rfl
theorem tw1_11 : (Jvm.Cond.initialized "java/util/Arrays") ∈ xT := xT_1 11 rfl rfl
theorem tw1_12 : (Jvm.Cond.initialized "java/lang/String") ∈ xT := xT_1 12 rfl rfl
theorem tw1_13 : (Jvm.Cond.initialized "java/lang/StringLatin1") ∈ xT := xT_1 13 rfl rfl
theorem tw1_14 : (Jvm.Cond.initialized "java/lang/StringUTF16") ∈ xT := xT_1 14 rfl rfl
theorem tw1_15 : (Jvm.Cond.initialized "jdk/internal/util/Preconditions") ∈ xT := xT_1 15 rfl rfl
theorem tw1_16 : (Jvm.Cond.initialized "java/lang/Character") ∈ xT := xT_1 16 rfl rfl
theorem tw1_17 : (Jvm.Cond.initialized "java/lang/System") ∈ xT := xT_1 17 rfl rfl
theorem tw1_18 : (Jvm.Cond.classLink "NobodyFirstLaw" (7 : Nat) "NobodyFirst") ∈ xT := xT_1 18 rfl rfl
theorem tw1_19 : (Jvm.Cond.instantiable "NobodyFirst" (9 : Nat)) ∈ xT := xT_1 19 rfl rfl
theorem tw1_20 : (Jvm.Cond.methodLink "NobodyFirstLaw" (9 : Nat) ({ cls := "NobodyFirst", name := "<init>", desc := "()V" } : Jvm.MethodName)) ∈ xT := xT_1 20 rfl rfl
theorem tw1_21 : (Jvm.Cond.instanceMethod ({ cls := "NobodyFirst", name := "<init>", desc := "()V" } : Jvm.MethodName)) ∈ xT := xT_1 21 rfl rfl
theorem tw1_22 : (Jvm.Cond.code ({ cls := "NobodyFirst", name := "<init>", desc := "()V" } : Jvm.MethodName) prog_1_method_1_code (1 : Nat) (Option.none : Option Jvm.ClassFile.FieldType)) ∈ xT := xT_1 22 rfl rfl
theorem tw1_23 : (Jvm.Cond.methodLink "NobodyFirst" (1 : Nat) ({ cls := "java/lang/Object", name := "<init>", desc := "()V" } : Jvm.MethodName)) ∈ xT := xT_1 23 rfl rfl
theorem tw1_24 : (Jvm.Cond.instanceMethod ({ cls := "java/lang/Object", name := "<init>", desc := "()V" } : Jvm.MethodName)) ∈ xT := xT_1 24 rfl rfl
theorem tw1_25 : (Jvm.Cond.code ({ cls := "java/lang/Object", name := "<init>", desc := "()V" } : Jvm.MethodName) object_method_1_code (1 : Nat) (Option.none : Option Jvm.ClassFile.FieldType)) ∈ xT := xT_1 25 rfl rfl
theorem tw1_26 : (Jvm.Cond.classLink "NobodyFirst" (17 : Nat) "NobodyFirst$Reader") ∈ xT := xT_1 26 rfl rfl
theorem tw1_27 : (Jvm.Cond.instantiable "NobodyFirst$Reader" (2 : Nat)) ∈ xT := xT_1 27 rfl rfl
theorem tw1_29 : (Jvm.Cond.instanceMethod ({ cls := "NobodyFirst$Reader", name := "<init>", desc := "()V" } : Jvm.MethodName)) ∈ xT := xT_1 29 rfl rfl
theorem tw1_30 : (Jvm.Cond.code ({ cls := "NobodyFirst$Reader", name := "<init>", desc := "()V" } : Jvm.MethodName) prog_7_method_1_code (1 : Nat) (Option.none : Option Jvm.ClassFile.FieldType)) ∈ xT := xT_1 30 rfl rfl
theorem tw1_31 : (Jvm.Cond.methodLink "NobodyFirst$Reader" (3 : Nat) ({ cls := "java/lang/Object", name := "<init>", desc := "()V" } : Jvm.MethodName)) ∈ xT := xT_1 31 rfl rfl
theorem tw1_32 : (Jvm.Cond.fieldLink "NobodyFirst$Reader" (11 : Nat) "NobodyFirst$Reader" "numbers" "[I") ∈ xT := xT_1 32 rfl rfl
theorem tw1_33 : (Jvm.Cond.fieldLink "NobodyFirst$Reader" (15 : Nat) "NobodyFirst$Reader" "place" "I") ∈ xT := xT_1 33 rfl rfl
theorem tw1_34 : (Jvm.Cond.laysFinal "NobodyFirst$Reader" "NobodyFirst$Reader" "numbers" "[I") ∈ xT := xT_1 34 rfl rfl
theorem tw1_36 : (Jvm.Cond.lays "NobodyFirst$Reader" "NobodyFirst$Reader" "place" "I") ∈ xT := xT_1 36 rfl rfl
theorem tw1_39 : (Jvm.Cond.arrayClass Jvm.ClassFile.FieldType.byte) ∈ xT := xT_1 39 rfl rfl
theorem tw1_40 : (Jvm.Cond.arrayClass Jvm.ClassFile.FieldType.int) ∈ xT := xT_1 40 rfl rfl
theorem tw1_41 : (Jvm.Cond.classLink "NobodyFirst" (24 : Nat) "NobodyFirst$Party") ∈ xT := xT_1 41 rfl rfl
theorem tw1_42 : (Jvm.Cond.instantiable "NobodyFirst$Party" (18 : Nat)) ∈ xT := xT_1 42 rfl rfl
theorem tw1_44 : (Jvm.Cond.instanceMethod ({ cls := "NobodyFirst$Party", name := "<init>", desc := "()V" } : Jvm.MethodName)) ∈ xT := xT_1 44 rfl rfl
theorem tw1_45 : (Jvm.Cond.code ({ cls := "NobodyFirst$Party", name := "<init>", desc := "()V" } : Jvm.MethodName) prog_6_method_1_code (1 : Nat) (Option.none : Option Jvm.ClassFile.FieldType)) ∈ xT := xT_1 45 rfl rfl
theorem tw1_46 : (Jvm.Cond.methodLink "NobodyFirst$Party" (3 : Nat) ({ cls := "java/lang/Object", name := "<init>", desc := "()V" } : Jvm.MethodName)) ∈ xT := xT_1 46 rfl rfl
theorem tw1_47 : (Jvm.Cond.classLink "NobodyFirst$Party" (28 : Nat) "NobodyFirst$Told") ∈ xT := xT_1 47 rfl rfl
theorem tw1_48 : (Jvm.Cond.instantiable "NobodyFirst$Told" (5 : Nat)) ∈ xT := xT_1 48 rfl rfl
theorem tw1_50 : (Jvm.Cond.instanceMethod ({ cls := "NobodyFirst$Told", name := "<init>", desc := "()V" } : Jvm.MethodName)) ∈ xT := xT_1 50 rfl rfl
theorem tw1_51 : (Jvm.Cond.code ({ cls := "NobodyFirst$Told", name := "<init>", desc := "()V" } : Jvm.MethodName) prog_8_method_1_code (1 : Nat) (Option.none : Option Jvm.ClassFile.FieldType)) ∈ xT := xT_1 51 rfl rfl
theorem tw1_52 : (Jvm.Cond.methodLink "NobodyFirst$Told" (3 : Nat) ({ cls := "java/lang/Object", name := "<init>", desc := "()V" } : Jvm.MethodName)) ∈ xT := xT_1 52 rfl rfl
theorem tw1_53 : (Jvm.Cond.fieldLink "NobodyFirst$Told" (9 : Nat) "NobodyFirst$Told" "signs" "I") ∈ xT := xT_1 53 rfl rfl
theorem tw1_57 : (Jvm.Cond.fieldLink "NobodyFirst$Told" (15 : Nat) "NobodyFirst$Told" "signMinute" "[I") ∈ xT := xT_1 57 rfl rfl
theorem tw1_59 : (Jvm.Cond.fieldLink "NobodyFirst$Told" (19 : Nat) "NobodyFirst$Told" "signWorth" "[I") ∈ xT := xT_1 59 rfl rfl
theorem tw1_61 : (Jvm.Cond.fieldLink "NobodyFirst$Told" (22 : Nat) "NobodyFirst$Told" "words" "I") ∈ xT := xT_1 61 rfl rfl
theorem tw1_65 : (Jvm.Cond.fieldLink "NobodyFirst$Told" (25 : Nat) "NobodyFirst$Told" "wordMinute" "[I") ∈ xT := xT_1 65 rfl rfl
theorem tw1_67 : (Jvm.Cond.lays "NobodyFirst$Told" "NobodyFirst$Told" "signs" "I") ∈ xT := xT_1 67 rfl rfl
theorem tw1_69 : (Jvm.Cond.laysFinal "NobodyFirst$Told" "NobodyFirst$Told" "signMinute" "[I") ∈ xT := xT_1 69 rfl rfl
theorem tw1_71 : (Jvm.Cond.laysFinal "NobodyFirst$Told" "NobodyFirst$Told" "signWorth" "[I") ∈ xT := xT_1 71 rfl rfl
theorem tw1_73 : (Jvm.Cond.lays "NobodyFirst$Told" "NobodyFirst$Told" "words" "I") ∈ xT := xT_1 73 rfl rfl
theorem tw1_75 : (Jvm.Cond.laysFinal "NobodyFirst$Told" "NobodyFirst$Told" "wordMinute" "[I") ∈ xT := xT_1 75 rfl rfl
theorem tw1_78 : (Jvm.Cond.fieldLink "NobodyFirst$Party" (9 : Nat) "NobodyFirst$Party" "guests" "I") ∈ xT := xT_1 78 rfl rfl
theorem tw1_82 : (Jvm.Cond.fieldLink "NobodyFirst$Party" (15 : Nat) "NobodyFirst$Party" "pair" "[I") ∈ xT := xT_1 82 rfl rfl
theorem tw1_86 : (Jvm.Cond.fieldLink "NobodyFirst$Party" (19 : Nat) "NobodyFirst$Party" "wouldGo" "[I") ∈ xT := xT_1 86 rfl rfl
theorem tw1_90 : (Jvm.Cond.fieldLink "NobodyFirst$Party" (22 : Nat) "NobodyFirst$Party" "ownShame" "[I") ∈ xT := xT_1 90 rfl rfl
theorem tw1_94 : (Jvm.Cond.fieldLink "NobodyFirst$Party" (25 : Nat) "NobodyFirst$Party" "kind" "[I") ∈ xT := xT_1 94 rfl rfl
theorem tw1_97 : (Jvm.Cond.fieldLink "NobodyFirst$Party" (31 : Nat) "NobodyFirst$Party" "told" "LNobodyFirst$Told;") ∈ xT := xT_1 97 rfl rfl
theorem tw1_101 : (Jvm.Cond.fieldLink "NobodyFirst$Party" (35 : Nat) "NobodyFirst$Party" "drawsBy" "I") ∈ xT := xT_1 101 rfl rfl
theorem tw1_103 : (Jvm.Cond.fieldLink "NobodyFirst$Party" (38 : Nat) "NobodyFirst$Party" "hall" "I") ∈ xT := xT_1 103 rfl rfl
theorem tw1_105 : (Jvm.Cond.fieldLink "NobodyFirst$Party" (41 : Nat) "NobodyFirst$Party" "end" "I") ∈ xT := xT_1 105 rfl rfl
theorem tw1_107 : (Jvm.Cond.fieldLink "NobodyFirst$Party" (44 : Nat) "NobodyFirst$Party" "offers" "I") ∈ xT := xT_1 107 rfl rfl
theorem tw1_110 : (Jvm.Cond.fieldLink "NobodyFirst$Party" (47 : Nat) "NobodyFirst$Party" "offerWorth" "[I") ∈ xT := xT_1 110 rfl rfl
theorem tw1_112 : (Jvm.Cond.fieldLink "NobodyFirst$Party" (50 : Nat) "NobodyFirst$Party" "offerCost" "[I") ∈ xT := xT_1 112 rfl rfl
theorem tw1_114 : (Jvm.Cond.fieldLink "NobodyFirst$Party" (53 : Nat) "NobodyFirst$Party" "ifMeant" "[I") ∈ xT := xT_1 114 rfl rfl
theorem tw1_116 : (Jvm.Cond.fieldLink "NobodyFirst$Party" (56 : Nat) "NobodyFirst$Party" "ifNot" "[I") ∈ xT := xT_1 116 rfl rfl
theorem tw1_118 : (Jvm.Cond.fieldLink "NobodyFirst$Party" (59 : Nat) "NobodyFirst$Party" "looks" "I") ∈ xT := xT_1 118 rfl rfl
theorem tw1_120 : (Jvm.Cond.fieldLink "NobodyFirst$Party" (62 : Nat) "NobodyFirst$Party" "lookedAt" "[I") ∈ xT := xT_1 120 rfl rfl
theorem tw1_121 : (Jvm.Cond.fieldLink "NobodyFirst$Party" (65 : Nat) "NobodyFirst$Party" "lookMinute" "[I") ∈ xT := xT_1 121 rfl rfl
theorem tw1_122 : (Jvm.Cond.fieldLink "NobodyFirst$Party" (68 : Nat) "NobodyFirst$Party" "yawned" "[I") ∈ xT := xT_1 122 rfl rfl
theorem tw1_123 : (Jvm.Cond.lays "NobodyFirst$Party" "NobodyFirst$Party" "guests" "I") ∈ xT := xT_1 123 rfl rfl
theorem tw1_125 : (Jvm.Cond.laysFinal "NobodyFirst$Party" "NobodyFirst$Party" "pair" "[I") ∈ xT := xT_1 125 rfl rfl
theorem tw1_127 : (Jvm.Cond.laysFinal "NobodyFirst$Party" "NobodyFirst$Party" "wouldGo" "[I") ∈ xT := xT_1 127 rfl rfl
theorem tw1_129 : (Jvm.Cond.laysFinal "NobodyFirst$Party" "NobodyFirst$Party" "ownShame" "[I") ∈ xT := xT_1 129 rfl rfl
theorem tw1_131 : (Jvm.Cond.laysFinal "NobodyFirst$Party" "NobodyFirst$Party" "kind" "[I") ∈ xT := xT_1 131 rfl rfl
theorem tw1_133 : (Jvm.Cond.laysFinal "NobodyFirst$Party" "NobodyFirst$Party" "told" "LNobodyFirst$Told;") ∈ xT := xT_1 133 rfl rfl
theorem tw1_135 : (Jvm.Cond.lays "NobodyFirst$Party" "NobodyFirst$Party" "drawsBy" "I") ∈ xT := xT_1 135 rfl rfl
theorem tw1_137 : (Jvm.Cond.lays "NobodyFirst$Party" "NobodyFirst$Party" "hall" "I") ∈ xT := xT_1 137 rfl rfl
theorem tw1_139 : (Jvm.Cond.lays "NobodyFirst$Party" "NobodyFirst$Party" "end" "I") ∈ xT := xT_1 139 rfl rfl
theorem tw1_141 : (Jvm.Cond.lays "NobodyFirst$Party" "NobodyFirst$Party" "offers" "I") ∈ xT := xT_1 141 rfl rfl
theorem tw1_143 : (Jvm.Cond.laysFinal "NobodyFirst$Party" "NobodyFirst$Party" "offerWorth" "[I") ∈ xT := xT_1 143 rfl rfl
theorem tw1_145 : (Jvm.Cond.laysFinal "NobodyFirst$Party" "NobodyFirst$Party" "offerCost" "[I") ∈ xT := xT_1 145 rfl rfl
theorem tw1_147 : (Jvm.Cond.laysFinal "NobodyFirst$Party" "NobodyFirst$Party" "ifMeant" "[I") ∈ xT := xT_1 147 rfl rfl
theorem tw1_149 : (Jvm.Cond.laysFinal "NobodyFirst$Party" "NobodyFirst$Party" "ifNot" "[I") ∈ xT := xT_1 149 rfl rfl
theorem tw1_151 : (Jvm.Cond.lays "NobodyFirst$Party" "NobodyFirst$Party" "looks" "I") ∈ xT := xT_1 151 rfl rfl
theorem tw1_153 : (Jvm.Cond.laysFinal "NobodyFirst$Party" "NobodyFirst$Party" "lookedAt" "[I") ∈ xT := xT_1 153 rfl rfl
theorem tw1_155 : (Jvm.Cond.laysFinal "NobodyFirst$Party" "NobodyFirst$Party" "lookMinute" "[I") ∈ xT := xT_1 155 rfl rfl
theorem tw1_157 : (Jvm.Cond.laysFinal "NobodyFirst$Party" "NobodyFirst$Party" "yawned" "[I") ∈ xT := xT_1 157 rfl rfl
theorem tw1_160 : (Jvm.Cond.classLink "NobodyFirst" (34 : Nat) "NobodyFirst$Evening") ∈ xT := xT_1 160 rfl rfl
theorem tw1_161 : (Jvm.Cond.instantiable "NobodyFirst$Evening" (14 : Nat)) ∈ xT := xT_1 161 rfl rfl
theorem tw1_163 : (Jvm.Cond.instanceMethod ({ cls := "NobodyFirst$Evening", name := "<init>", desc := "()V" } : Jvm.MethodName)) ∈ xT := xT_1 163 rfl rfl
theorem tw1_164 : (Jvm.Cond.code ({ cls := "NobodyFirst$Evening", name := "<init>", desc := "()V" } : Jvm.MethodName) prog_2_method_1_code (1 : Nat) (Option.none : Option Jvm.ClassFile.FieldType)) ∈ xT := xT_1 164 rfl rfl
theorem tw1_165 : (Jvm.Cond.methodLink "NobodyFirst$Evening" (3 : Nat) ({ cls := "java/lang/Object", name := "<init>", desc := "()V" } : Jvm.MethodName)) ∈ xT := xT_1 165 rfl rfl
theorem tw1_166 : (Jvm.Cond.classLink "NobodyFirst$Evening" (9 : Nat) "NobodyFirst$Party") ∈ xT := xT_1 166 rfl rfl
theorem tw1_168 : (Jvm.Cond.fieldLink "NobodyFirst$Evening" (12 : Nat) "NobodyFirst$Evening" "party" "LNobodyFirst$Party;") ∈ xT := xT_1 168 rfl rfl
theorem tw1_169 : (Jvm.Cond.fieldLink "NobodyFirst$Evening" (18 : Nat) "NobodyFirst$Evening" "kind" "[I") ∈ xT := xT_1 169 rfl rfl
theorem tw1_170 : (Jvm.Cond.fieldLink "NobodyFirst$Evening" (22 : Nat) "NobodyFirst$Evening" "goesFrom" "[I") ∈ xT := xT_1 170 rfl rfl
theorem tw1_171 : (Jvm.Cond.fieldLink "NobodyFirst$Evening" (25 : Nat) "NobodyFirst$Evening" "signs" "I") ∈ xT := xT_1 171 rfl rfl
theorem tw1_172 : (Jvm.Cond.fieldLink "NobodyFirst$Evening" (29 : Nat) "NobodyFirst$Evening" "signMinute" "[I") ∈ xT := xT_1 172 rfl rfl
theorem tw1_173 : (Jvm.Cond.fieldLink "NobodyFirst$Evening" (32 : Nat) "NobodyFirst$Evening" "signWorth" "[I") ∈ xT := xT_1 173 rfl rfl
theorem tw1_174 : (Jvm.Cond.fieldLink "NobodyFirst$Evening" (35 : Nat) "NobodyFirst$Evening" "heardBy" "[I") ∈ xT := xT_1 174 rfl rfl
theorem tw1_175 : (Jvm.Cond.fieldLink "NobodyFirst$Evening" (38 : Nat) "NobodyFirst$Evening" "allStandAt" "I") ∈ xT := xT_1 175 rfl rfl
theorem tw1_176 : (Jvm.Cond.fieldLink "NobodyFirst$Evening" (41 : Nat) "NobodyFirst$Evening" "present" "I") ∈ xT := xT_1 176 rfl rfl
theorem tw1_177 : (Jvm.Cond.fieldLink "NobodyFirst$Evening" (44 : Nat) "NobodyFirst$Evening" "stood" "I") ∈ xT := xT_1 177 rfl rfl
theorem tw1_178 : (Jvm.Cond.fieldLink "NobodyFirst$Evening" (47 : Nat) "NobodyFirst$Evening" "guestsStood" "I") ∈ xT := xT_1 178 rfl rfl
theorem tw1_179 : (Jvm.Cond.fieldLink "NobodyFirst$Evening" (50 : Nat) "NobodyFirst$Evening" "ready" "[I") ∈ xT := xT_1 179 rfl rfl
theorem tw1_180 : (Jvm.Cond.fieldLink "NobodyFirst$Evening" (53 : Nat) "NobodyFirst$Evening" "stands" "[I") ∈ xT := xT_1 180 rfl rfl
theorem tw1_181 : (Jvm.Cond.fieldLink "NobodyFirst$Evening" (56 : Nat) "NobodyFirst$Evening" "goes" "[I") ∈ xT := xT_1 181 rfl rfl
theorem tw1_182 : (Jvm.Cond.lays "NobodyFirst$Evening" "NobodyFirst$Evening" "party" "LNobodyFirst$Party;") ∈ xT := xT_1 182 rfl rfl
theorem tw1_184 : (Jvm.Cond.laysFinal "NobodyFirst$Evening" "NobodyFirst$Evening" "kind" "[I") ∈ xT := xT_1 184 rfl rfl
theorem tw1_186 : (Jvm.Cond.laysFinal "NobodyFirst$Evening" "NobodyFirst$Evening" "goesFrom" "[I") ∈ xT := xT_1 186 rfl rfl
theorem tw1_188 : (Jvm.Cond.lays "NobodyFirst$Evening" "NobodyFirst$Evening" "signs" "I") ∈ xT := xT_1 188 rfl rfl
theorem tw1_190 : (Jvm.Cond.laysFinal "NobodyFirst$Evening" "NobodyFirst$Evening" "signMinute" "[I") ∈ xT := xT_1 190 rfl rfl
theorem tw1_192 : (Jvm.Cond.laysFinal "NobodyFirst$Evening" "NobodyFirst$Evening" "signWorth" "[I") ∈ xT := xT_1 192 rfl rfl
theorem tw1_194 : (Jvm.Cond.laysFinal "NobodyFirst$Evening" "NobodyFirst$Evening" "heardBy" "[I") ∈ xT := xT_1 194 rfl rfl
theorem tw1_196 : (Jvm.Cond.lays "NobodyFirst$Evening" "NobodyFirst$Evening" "allStandAt" "I") ∈ xT := xT_1 196 rfl rfl
theorem tw1_198 : (Jvm.Cond.lays "NobodyFirst$Evening" "NobodyFirst$Evening" "present" "I") ∈ xT := xT_1 198 rfl rfl
theorem tw1_200 : (Jvm.Cond.lays "NobodyFirst$Evening" "NobodyFirst$Evening" "stood" "I") ∈ xT := xT_1 200 rfl rfl
theorem tw1_202 : (Jvm.Cond.lays "NobodyFirst$Evening" "NobodyFirst$Evening" "guestsStood" "I") ∈ xT := xT_1 202 rfl rfl
theorem tw1_204 : (Jvm.Cond.laysFinal "NobodyFirst$Evening" "NobodyFirst$Evening" "ready" "[I") ∈ xT := xT_1 204 rfl rfl
theorem tw1_206 : (Jvm.Cond.laysFinal "NobodyFirst$Evening" "NobodyFirst$Evening" "stands" "[I") ∈ xT := xT_1 206 rfl rfl
theorem tw1_208 : (Jvm.Cond.laysFinal "NobodyFirst$Evening" "NobodyFirst$Evening" "goes" "[I") ∈ xT := xT_1 208 rfl rfl
theorem tw1_211 : (Jvm.Cond.classLink "NobodyFirst" (41 : Nat) "NobodyFirst$Giving") ∈ xT := xT_1 211 rfl rfl
theorem tw1_212 : (Jvm.Cond.instantiable "NobodyFirst$Giving" (4 : Nat)) ∈ xT := xT_1 212 rfl rfl
theorem tw1_214 : (Jvm.Cond.instanceMethod ({ cls := "NobodyFirst$Giving", name := "<init>", desc := "()V" } : Jvm.MethodName)) ∈ xT := xT_1 214 rfl rfl
theorem tw1_215 : (Jvm.Cond.code ({ cls := "NobodyFirst$Giving", name := "<init>", desc := "()V" } : Jvm.MethodName) prog_4_method_1_code (1 : Nat) (Option.none : Option Jvm.ClassFile.FieldType)) ∈ xT := xT_1 215 rfl rfl
theorem tw1_216 : (Jvm.Cond.methodLink "NobodyFirst$Giving" (3 : Nat) ({ cls := "java/lang/Object", name := "<init>", desc := "()V" } : Jvm.MethodName)) ∈ xT := xT_1 216 rfl rfl
theorem tw1_217 : (Jvm.Cond.fieldLink "NobodyFirst$Giving" (9 : Nat) "NobodyFirst$Giving" "known" "Z") ∈ xT := xT_1 217 rfl rfl
theorem tw1_219 : (Jvm.Cond.fieldLink "NobodyFirst$Giving" (15 : Nat) "NobodyFirst$Giving" "least" "I") ∈ xT := xT_1 219 rfl rfl
theorem tw1_221 : (Jvm.Cond.fieldLink "NobodyFirst$Giving" (19 : Nat) "NobodyFirst$Giving" "choice" "[I") ∈ xT := xT_1 221 rfl rfl
theorem tw1_222 : (Jvm.Cond.fieldLink "NobodyFirst$Giving" (23 : Nat) "NobodyFirst$Giving" "chosen" "[I") ∈ xT := xT_1 222 rfl rfl
theorem tw1_223 : (Jvm.Cond.lays "NobodyFirst$Giving" "NobodyFirst$Giving" "known" "Z") ∈ xT := xT_1 223 rfl rfl
theorem tw1_225 : (Jvm.Cond.lays "NobodyFirst$Giving" "NobodyFirst$Giving" "least" "I") ∈ xT := xT_1 225 rfl rfl
theorem tw1_227 : (Jvm.Cond.laysFinal "NobodyFirst$Giving" "NobodyFirst$Giving" "choice" "[I") ∈ xT := xT_1 227 rfl rfl
theorem tw1_229 : (Jvm.Cond.laysFinal "NobodyFirst$Giving" "NobodyFirst$Giving" "chosen" "[I") ∈ xT := xT_1 229 rfl rfl
theorem tw1_232 : (Jvm.Cond.classLink "NobodyFirst" (48 : Nat) "NobodyFirst$Game") ∈ xT := xT_1 232 rfl rfl
theorem tw1_233 : (Jvm.Cond.instantiable "NobodyFirst$Game" (9 : Nat)) ∈ xT := xT_1 233 rfl rfl
theorem tw1_235 : (Jvm.Cond.instanceMethod ({ cls := "NobodyFirst$Game", name := "<init>", desc := "()V" } : Jvm.MethodName)) ∈ xT := xT_1 235 rfl rfl
theorem tw1_236 : (Jvm.Cond.code ({ cls := "NobodyFirst$Game", name := "<init>", desc := "()V" } : Jvm.MethodName) prog_3_method_1_code (1 : Nat) (Option.none : Option Jvm.ClassFile.FieldType)) ∈ xT := xT_1 236 rfl rfl
theorem tw1_237 : (Jvm.Cond.methodLink "NobodyFirst$Game" (3 : Nat) ({ cls := "java/lang/Object", name := "<init>", desc := "()V" } : Jvm.MethodName)) ∈ xT := xT_1 237 rfl rfl
theorem tw1_238 : (Jvm.Cond.fieldLink "NobodyFirst$Game" (9 : Nat) "NobodyFirst$Game" "known" "Z") ∈ xT := xT_1 238 rfl rfl
theorem tw1_239 : (Jvm.Cond.fieldLink "NobodyFirst$Game" (15 : Nat) "NobodyFirst$Game" "pairs" "I") ∈ xT := xT_1 239 rfl rfl
theorem tw2_1 : (Jvm.Cond.fieldLink "NobodyFirst$Game" (19 : Nat) "NobodyFirst$Game" "wouldGo" "[I") ∈ xT := xT_2 1 rfl rfl
theorem tw2_2 : (Jvm.Cond.fieldLink "NobodyFirst$Game" (23 : Nat) "NobodyFirst$Game" "ownShame" "[I") ∈ xT := xT_2 2 rfl rfl
theorem tw2_3 : (Jvm.Cond.fieldLink "NobodyFirst$Game" (26 : Nat) "NobodyFirst$Game" "slot" "[I") ∈ xT := xT_2 3 rfl rfl
theorem tw2_4 : (Jvm.Cond.fieldLink "NobodyFirst$Game" (29 : Nat) "NobodyFirst$Game" "firstRest" "[I") ∈ xT := xT_2 4 rfl rfl
theorem tw2_6 : (Jvm.Cond.fieldLink "NobodyFirst$Game" (32 : Nat) "NobodyFirst$Game" "restsFound" "I") ∈ xT := xT_2 6 rfl rfl
theorem tw2_8 : (Jvm.Cond.fieldLink "NobodyFirst$Game" (35 : Nat) "NobodyFirst$Game" "leastOfRests" "I") ∈ xT := xT_2 8 rfl rfl
theorem tw2_10 : (Jvm.Cond.fieldLink "NobodyFirst$Game" (38 : Nat) "NobodyFirst$Game" "leastOfAll" "I") ∈ xT := xT_2 10 rfl rfl
theorem tw2_12 : (Jvm.Cond.lays "NobodyFirst$Game" "NobodyFirst$Game" "known" "Z") ∈ xT := xT_2 12 rfl rfl
theorem tw2_14 : (Jvm.Cond.lays "NobodyFirst$Game" "NobodyFirst$Game" "pairs" "I") ∈ xT := xT_2 14 rfl rfl
theorem tw2_16 : (Jvm.Cond.laysFinal "NobodyFirst$Game" "NobodyFirst$Game" "wouldGo" "[I") ∈ xT := xT_2 16 rfl rfl
theorem tw2_18 : (Jvm.Cond.laysFinal "NobodyFirst$Game" "NobodyFirst$Game" "ownShame" "[I") ∈ xT := xT_2 18 rfl rfl
theorem tw2_20 : (Jvm.Cond.laysFinal "NobodyFirst$Game" "NobodyFirst$Game" "slot" "[I") ∈ xT := xT_2 20 rfl rfl
theorem tw2_22 : (Jvm.Cond.laysFinal "NobodyFirst$Game" "NobodyFirst$Game" "firstRest" "[I") ∈ xT := xT_2 22 rfl rfl
theorem tw2_24 : (Jvm.Cond.lays "NobodyFirst$Game" "NobodyFirst$Game" "restsFound" "I") ∈ xT := xT_2 24 rfl rfl
theorem tw2_26 : (Jvm.Cond.lays "NobodyFirst$Game" "NobodyFirst$Game" "leastOfRests" "I") ∈ xT := xT_2 26 rfl rfl
theorem tw2_28 : (Jvm.Cond.lays "NobodyFirst$Game" "NobodyFirst$Game" "leastOfAll" "I") ∈ xT := xT_2 28 rfl rfl
theorem tw2_31 : (Jvm.Cond.classLink "NobodyFirst" (55 : Nat) "NobodyFirst$History") ∈ xT := xT_2 31 rfl rfl
theorem tw2_32 : (Jvm.Cond.instantiable "NobodyFirst$History" (5 : Nat)) ∈ xT := xT_2 32 rfl rfl
theorem tw2_34 : (Jvm.Cond.instanceMethod ({ cls := "NobodyFirst$History", name := "<init>", desc := "()V" } : Jvm.MethodName)) ∈ xT := xT_2 34 rfl rfl
theorem tw2_35 : (Jvm.Cond.code ({ cls := "NobodyFirst$History", name := "<init>", desc := "()V" } : Jvm.MethodName) prog_5_method_1_code (1 : Nat) (Option.none : Option Jvm.ClassFile.FieldType)) ∈ xT := xT_2 35 rfl rfl
theorem tw2_36 : (Jvm.Cond.methodLink "NobodyFirst$History" (3 : Nat) ({ cls := "java/lang/Object", name := "<init>", desc := "()V" } : Jvm.MethodName)) ∈ xT := xT_2 36 rfl rfl
theorem tw2_37 : (Jvm.Cond.classLink "NobodyFirst$History" (19 : Nat) "NobodyFirst$Told") ∈ xT := xT_2 37 rfl rfl
theorem tw2_39 : (Jvm.Cond.fieldLink "NobodyFirst$History" (9 : Nat) "NobodyFirst$History" "wasSign" "[Z") ∈ xT := xT_2 39 rfl rfl
theorem tw2_40 : (Jvm.Cond.fieldLink "NobodyFirst$History" (15 : Nat) "NobodyFirst$History" "steps" "I") ∈ xT := xT_2 40 rfl rfl
theorem tw2_42 : (Jvm.Cond.fieldLink "NobodyFirst$History" (22 : Nat) "NobodyFirst$History" "firstKept" "LNobodyFirst$Told;") ∈ xT := xT_2 42 rfl rfl
theorem tw2_43 : (Jvm.Cond.fieldLink "NobodyFirst$History" (26 : Nat) "NobodyFirst$History" "secondKept" "LNobodyFirst$Told;") ∈ xT := xT_2 43 rfl rfl
theorem tw2_44 : (Jvm.Cond.fieldLink "NobodyFirst$History" (29 : Nat) "NobodyFirst$History" "kept" "I") ∈ xT := xT_2 44 rfl rfl
theorem tw2_46 : (Jvm.Cond.laysFinal "NobodyFirst$History" "NobodyFirst$History" "wasSign" "[Z") ∈ xT := xT_2 46 rfl rfl
theorem tw2_48 : (Jvm.Cond.lays "NobodyFirst$History" "NobodyFirst$History" "steps" "I") ∈ xT := xT_2 48 rfl rfl
theorem tw2_50 : (Jvm.Cond.laysFinal "NobodyFirst$History" "NobodyFirst$History" "firstKept" "LNobodyFirst$Told;") ∈ xT := xT_2 50 rfl rfl
theorem tw2_52 : (Jvm.Cond.laysFinal "NobodyFirst$History" "NobodyFirst$History" "secondKept" "LNobodyFirst$Told;") ∈ xT := xT_2 52 rfl rfl
theorem tw2_54 : (Jvm.Cond.lays "NobodyFirst$History" "NobodyFirst$History" "kept" "I") ∈ xT := xT_2 54 rfl rfl
theorem tw2_57 : (Jvm.Cond.arrayClass Jvm.ClassFile.FieldType.boolean) ∈ xT := xT_2 57 rfl rfl
theorem tw2_58 : (Jvm.Cond.methodLink "NobodyFirst" (62 : Nat) ({ cls := "NobodyFirst$Party", name := "addGuest", desc := "(IIII)Z" } : Jvm.MethodName)) ∈ xT := xT_2 58 rfl rfl
theorem tw2_59 : (Jvm.Cond.instanceMethod ({ cls := "NobodyFirst$Party", name := "addGuest", desc := "(IIII)Z" } : Jvm.MethodName)) ∈ xT := xT_2 59 rfl rfl
theorem tw2_60 : (Jvm.Cond.selects "NobodyFirst$Party" ({ cls := "NobodyFirst$Party", name := "addGuest", desc := "(IIII)Z" } : Jvm.MethodName) ({ cls := "NobodyFirst$Party", name := "addGuest", desc := "(IIII)Z" } : Jvm.MethodName)) ∈ xT := xT_2 60 rfl rfl
theorem tw2_61 : (Jvm.Cond.code ({ cls := "NobodyFirst$Party", name := "addGuest", desc := "(IIII)Z" } : Jvm.MethodName) prog_6_method_3_code (5 : Nat) (Option.some Jvm.ClassFile.FieldType.boolean)) ∈ xT := xT_2 61 rfl rfl
theorem tw2_62 : (Jvm.Cond.methodLink "NobodyFirst" (66 : Nat) ({ cls := "NobodyFirst$Game", name := "gather", desc := "(LNobodyFirst$Party;)V" } : Jvm.MethodName)) ∈ xT := xT_2 62 rfl rfl
theorem tw2_63 : (Jvm.Cond.instanceMethod ({ cls := "NobodyFirst$Game", name := "gather", desc := "(LNobodyFirst$Party;)V" } : Jvm.MethodName)) ∈ xT := xT_2 63 rfl rfl
theorem tw2_64 : (Jvm.Cond.selects "NobodyFirst$Game" ({ cls := "NobodyFirst$Game", name := "gather", desc := "(LNobodyFirst$Party;)V" } : Jvm.MethodName) ({ cls := "NobodyFirst$Game", name := "gather", desc := "(LNobodyFirst$Party;)V" } : Jvm.MethodName)) ∈ xT := xT_2 64 rfl rfl
theorem tw2_65 : (Jvm.Cond.code ({ cls := "NobodyFirst$Game", name := "gather", desc := "(LNobodyFirst$Party;)V" } : Jvm.MethodName) prog_3_method_2_code (5 : Nat) (Option.none : Option Jvm.ClassFile.FieldType)) ∈ xT := xT_2 65 rfl rfl
theorem tw2_66 : (Jvm.Cond.methodLink "NobodyFirst$Game" (50 : Nat) ({ cls := "java/lang/Math", name := "max", desc := "(II)I" } : Jvm.MethodName)) ∈ xT := xT_2 66 rfl rfl
theorem tw2_67 : (Jvm.Cond.static ({ cls := "java/lang/Math", name := "max", desc := "(II)I" } : Jvm.MethodName)) ∈ xT := xT_2 67 rfl rfl
theorem tw2_68 : Cond.code Lib.Math.max.name Lib.Math.max.code 2 (some .int) ∈ xT := xT_2 68 rfl rfl
theorem tw2_69 : (Jvm.Cond.fieldLink "NobodyFirst" (9 : Nat) "NobodyFirst" "text" "[B") ∈ xT := xT_2 69 rfl rfl
theorem tw2_70 : (Jvm.Cond.fieldLink "NobodyFirst" (13 : Nat) "NobodyFirst" "length" "I") ∈ xT := xT_2 70 rfl rfl
theorem tw2_71 : (Jvm.Cond.fieldLink "NobodyFirst" (20 : Nat) "NobodyFirst" "reader" "LNobodyFirst$Reader;") ∈ xT := xT_2 71 rfl rfl
theorem tw2_72 : (Jvm.Cond.fieldLink "NobodyFirst" (27 : Nat) "NobodyFirst" "laid" "LNobodyFirst$Party;") ∈ xT := xT_2 72 rfl rfl
theorem tw2_73 : (Jvm.Cond.fieldLink "NobodyFirst" (31 : Nat) "NobodyFirst" "draft" "LNobodyFirst$Party;") ∈ xT := xT_2 73 rfl rfl
theorem tw2_74 : (Jvm.Cond.fieldLink "NobodyFirst" (37 : Nat) "NobodyFirst" "evening" "LNobodyFirst$Evening;") ∈ xT := xT_2 74 rfl rfl
theorem tw2_75 : (Jvm.Cond.fieldLink "NobodyFirst" (44 : Nat) "NobodyFirst" "giving" "LNobodyFirst$Giving;") ∈ xT := xT_2 75 rfl rfl
theorem tw2_76 : (Jvm.Cond.fieldLink "NobodyFirst" (51 : Nat) "NobodyFirst" "game" "LNobodyFirst$Game;") ∈ xT := xT_2 76 rfl rfl
theorem tw2_77 : (Jvm.Cond.fieldLink "NobodyFirst" (58 : Nat) "NobodyFirst" "history" "LNobodyFirst$History;") ∈ xT := xT_2 77 rfl rfl
theorem tw2_78 : (Jvm.Cond.laysFinal "NobodyFirst" "NobodyFirst" "text" "[B") ∈ xT := xT_2 78 rfl rfl
theorem tw2_80 : (Jvm.Cond.lays "NobodyFirst" "NobodyFirst" "length" "I") ∈ xT := xT_2 80 rfl rfl
theorem tw2_82 : (Jvm.Cond.laysFinal "NobodyFirst" "NobodyFirst" "reader" "LNobodyFirst$Reader;") ∈ xT := xT_2 82 rfl rfl
theorem tw2_84 : (Jvm.Cond.lays "NobodyFirst" "NobodyFirst" "laid" "LNobodyFirst$Party;") ∈ xT := xT_2 84 rfl rfl
theorem tw2_86 : (Jvm.Cond.lays "NobodyFirst" "NobodyFirst" "draft" "LNobodyFirst$Party;") ∈ xT := xT_2 86 rfl rfl
theorem tw2_88 : (Jvm.Cond.laysFinal "NobodyFirst" "NobodyFirst" "evening" "LNobodyFirst$Evening;") ∈ xT := xT_2 88 rfl rfl
theorem tw2_90 : (Jvm.Cond.laysFinal "NobodyFirst" "NobodyFirst" "giving" "LNobodyFirst$Giving;") ∈ xT := xT_2 90 rfl rfl
theorem tw2_92 : (Jvm.Cond.laysFinal "NobodyFirst" "NobodyFirst" "game" "LNobodyFirst$Game;") ∈ xT := xT_2 92 rfl rfl
theorem tw2_94 : (Jvm.Cond.laysFinal "NobodyFirst" "NobodyFirst" "history" "LNobodyFirst$History;") ∈ xT := xT_2 94 rfl rfl
theorem tw2_97 : (Jvm.Cond.methodLink "NobodyFirstLaw" (15 : Nat) ({ cls := "NobodyFirst", name := "write", desc := "(IJ)I" } : Jvm.MethodName)) ∈ xT := xT_2 97 rfl rfl
theorem tw2_98 : (Jvm.Cond.instanceMethod ({ cls := "NobodyFirst", name := "write", desc := "(IJ)I" } : Jvm.MethodName)) ∈ xT := xT_2 98 rfl rfl
theorem tw2_99 : (Jvm.Cond.selects "NobodyFirst" ({ cls := "NobodyFirst", name := "write", desc := "(IJ)I" } : Jvm.MethodName) ({ cls := "NobodyFirst", name := "write", desc := "(IJ)I" } : Jvm.MethodName)) ∈ xT := xT_2 99 rfl rfl
theorem tw2_100 : (Jvm.Cond.code ({ cls := "NobodyFirst", name := "write", desc := "(IJ)I" } : Jvm.MethodName) prog_1_method_2_code (5 : Nat) (Option.some Jvm.ClassFile.FieldType.int)) ∈ xT := xT_2 100 rfl rfl
theorem tw2_101 : (Jvm.Cond.methodLink "NobodyFirst" (70 : Nat) ({ cls := "NobodyFirst", name := "within", desc := "(III)Z" } : Jvm.MethodName)) ∈ xT := xT_2 101 rfl rfl
theorem tw2_102 : (Jvm.Cond.static ({ cls := "NobodyFirst", name := "within", desc := "(III)Z" } : Jvm.MethodName)) ∈ xT := xT_2 102 rfl rfl
theorem tw2_103 : (Jvm.Cond.code ({ cls := "NobodyFirst", name := "within", desc := "(III)Z" } : Jvm.MethodName) prog_1_method_30_code (3 : Nat) (Option.some Jvm.ClassFile.FieldType.boolean)) ∈ xT := xT_2 103 rfl rfl
theorem tw2_104 : (Jvm.Cond.methodLink "NobodyFirstLaw" (20 : Nat) ({ cls := "NobodyFirst", name := "wipe", desc := "()I" } : Jvm.MethodName)) ∈ xT := xT_2 104 rfl rfl
theorem tw2_105 : (Jvm.Cond.instanceMethod ({ cls := "NobodyFirst", name := "wipe", desc := "()I" } : Jvm.MethodName)) ∈ xT := xT_2 105 rfl rfl
theorem tw2_106 : (Jvm.Cond.selects "NobodyFirst" ({ cls := "NobodyFirst", name := "wipe", desc := "()I" } : Jvm.MethodName) ({ cls := "NobodyFirst", name := "wipe", desc := "()I" } : Jvm.MethodName)) ∈ xT := xT_2 106 rfl rfl
theorem tw2_107 : (Jvm.Cond.code ({ cls := "NobodyFirst", name := "wipe", desc := "()I" } : Jvm.MethodName) prog_1_method_3_code (2 : Nat) (Option.some Jvm.ClassFile.FieldType.int)) ∈ xT := xT_2 107 rfl rfl
theorem tw2_108 : (Jvm.Cond.methodLink "NobodyFirstLaw" (25 : Nat) ({ cls := "NobodyFirst", name := "fault", desc := "()I" } : Jvm.MethodName)) ∈ xT := xT_2 108 rfl rfl
theorem tw2_109 : (Jvm.Cond.instanceMethod ({ cls := "NobodyFirst", name := "fault", desc := "()I" } : Jvm.MethodName)) ∈ xT := xT_2 109 rfl rfl
theorem tw2_110 : (Jvm.Cond.selects "NobodyFirst" ({ cls := "NobodyFirst", name := "fault", desc := "()I" } : Jvm.MethodName) ({ cls := "NobodyFirst", name := "fault", desc := "()I" } : Jvm.MethodName)) ∈ xT := xT_2 110 rfl rfl
theorem tw2_111 : (Jvm.Cond.code ({ cls := "NobodyFirst", name := "fault", desc := "()I" } : Jvm.MethodName) prog_1_method_4_code (1 : Nat) (Option.some Jvm.ClassFile.FieldType.int)) ∈ xT := xT_2 111 rfl rfl
theorem tw2_112 : (Jvm.Cond.methodLink "NobodyFirst" (74 : Nat) ({ cls := "NobodyFirst$Reader", name := "firstFault", desc := "([BILNobodyFirst$Party;)I" } : Jvm.MethodName)) ∈ xT := xT_2 112 rfl rfl
theorem tw2_113 : (Jvm.Cond.instanceMethod ({ cls := "NobodyFirst$Reader", name := "firstFault", desc := "([BILNobodyFirst$Party;)I" } : Jvm.MethodName)) ∈ xT := xT_2 113 rfl rfl
theorem tw2_114 : (Jvm.Cond.selects "NobodyFirst$Reader" ({ cls := "NobodyFirst$Reader", name := "firstFault", desc := "([BILNobodyFirst$Party;)I" } : Jvm.MethodName) ({ cls := "NobodyFirst$Reader", name := "firstFault", desc := "([BILNobodyFirst$Party;)I" } : Jvm.MethodName)) ∈ xT := xT_2 114 rfl rfl
theorem tw2_115 : (Jvm.Cond.code ({ cls := "NobodyFirst$Reader", name := "firstFault", desc := "([BILNobodyFirst$Party;)I" } : Jvm.MethodName) prog_7_method_2_code (7 : Nat) (Option.some Jvm.ClassFile.FieldType.int)) ∈ xT := xT_2 115 rfl rfl
theorem tw2_116 : (Jvm.Cond.methodLink "NobodyFirst$Reader" (19 : Nat) ({ cls := "NobodyFirst$Party", name := "clear", desc := "()V" } : Jvm.MethodName)) ∈ xT := xT_2 116 rfl rfl
theorem tw2_117 : (Jvm.Cond.instanceMethod ({ cls := "NobodyFirst$Party", name := "clear", desc := "()V" } : Jvm.MethodName)) ∈ xT := xT_2 117 rfl rfl
theorem tw2_118 : (Jvm.Cond.selects "NobodyFirst$Party" ({ cls := "NobodyFirst$Party", name := "clear", desc := "()V" } : Jvm.MethodName) ({ cls := "NobodyFirst$Party", name := "clear", desc := "()V" } : Jvm.MethodName)) ∈ xT := xT_2 118 rfl rfl
theorem tw2_119 : (Jvm.Cond.code ({ cls := "NobodyFirst$Party", name := "clear", desc := "()V" } : Jvm.MethodName) prog_6_method_2_code (1 : Nat) (Option.none : Option Jvm.ClassFile.FieldType)) ∈ xT := xT_2 119 rfl rfl
theorem tw2_120 : (Jvm.Cond.methodLink "NobodyFirst$Party" (71 : Nat) ({ cls := "NobodyFirst$Told", name := "clear", desc := "()V" } : Jvm.MethodName)) ∈ xT := xT_2 120 rfl rfl
theorem tw2_121 : (Jvm.Cond.instanceMethod ({ cls := "NobodyFirst$Told", name := "clear", desc := "()V" } : Jvm.MethodName)) ∈ xT := xT_2 121 rfl rfl
theorem tw2_122 : (Jvm.Cond.selects "NobodyFirst$Told" ({ cls := "NobodyFirst$Told", name := "clear", desc := "()V" } : Jvm.MethodName) ({ cls := "NobodyFirst$Told", name := "clear", desc := "()V" } : Jvm.MethodName)) ∈ xT := xT_2 122 rfl rfl
theorem tw2_123 : (Jvm.Cond.code ({ cls := "NobodyFirst$Told", name := "clear", desc := "()V" } : Jvm.MethodName) prog_8_method_2_code (1 : Nat) (Option.none : Option Jvm.ClassFile.FieldType)) ∈ xT := xT_2 123 rfl rfl
theorem tw2_124 : (Jvm.Cond.methodLink "NobodyFirst$Party" (74 : Nat) ({ cls := "java/util/Arrays", name := "fill", desc := "([II)V" } : Jvm.MethodName)) ∈ xT := xT_2 124 rfl rfl
theorem tw2_125 : (Jvm.Cond.static ({ cls := "java/util/Arrays", name := "fill", desc := "([II)V" } : Jvm.MethodName)) ∈ xT := xT_2 125 rfl rfl
theorem tw2_126 : (Jvm.Cond.code ({ cls := "java/util/Arrays", name := "fill", desc := "([II)V" } : Jvm.MethodName) prog_17_method_103_code (4 : Nat) (Option.none : Option Jvm.ClassFile.FieldType)) ∈ xT := xT_2 126 rfl rfl
theorem tw2_128 : (Jvm.Cond.methodLink "NobodyFirst$Reader" (26 : Nat) ({ cls := "java/lang/String", name := "indexOf", desc := "(I)I" } : Jvm.MethodName)) ∈ xT := xT_2 128 rfl rfl
theorem tw2_129 : (Jvm.Cond.instanceMethod ({ cls := "java/lang/String", name := "indexOf", desc := "(I)I" } : Jvm.MethodName)) ∈ xT := xT_2 129 rfl rfl
theorem tw2_130 : (Jvm.Cond.selects "java/lang/String" ({ cls := "java/lang/String", name := "indexOf", desc := "(I)I" } : Jvm.MethodName) ({ cls := "java/lang/String", name := "indexOf", desc := "(I)I" } : Jvm.MethodName)) ∈ xT := xT_2 130 rfl rfl
theorem tw2_131 : (Jvm.Cond.code ({ cls := "java/lang/String", name := "indexOf", desc := "(I)I" } : Jvm.MethodName) prog_13_method_79_code (2 : Nat) (Option.some Jvm.ClassFile.FieldType.int)) ∈ xT := xT_2 131 rfl rfl
theorem tw2_132 : (Jvm.Cond.methodLink "java/lang/String" (633 : Nat) ({ cls := "java/lang/String", name := "indexOf", desc := "(II)I" } : Jvm.MethodName)) ∈ xT := xT_2 132 rfl rfl
theorem tw2_133 : (Jvm.Cond.instanceMethod ({ cls := "java/lang/String", name := "indexOf", desc := "(II)I" } : Jvm.MethodName)) ∈ xT := xT_2 133 rfl rfl
theorem tw2_134 : (Jvm.Cond.selects "java/lang/String" ({ cls := "java/lang/String", name := "indexOf", desc := "(II)I" } : Jvm.MethodName) ({ cls := "java/lang/String", name := "indexOf", desc := "(II)I" } : Jvm.MethodName)) ∈ xT := xT_2 134 rfl rfl
theorem tw2_135 : (Jvm.Cond.code ({ cls := "java/lang/String", name := "indexOf", desc := "(II)I" } : Jvm.MethodName) prog_13_method_80_code (3 : Nat) (Option.some Jvm.ClassFile.FieldType.int)) ∈ xT := xT_2 135 rfl rfl
theorem tw2_136 : (Jvm.Cond.methodLink "java/lang/String" (492 : Nat) ({ cls := "java/lang/String", name := "isLatin1", desc := "()Z" } : Jvm.MethodName)) ∈ xT := xT_2 136 rfl rfl
theorem tw2_137 : (Jvm.Cond.instanceMethod ({ cls := "java/lang/String", name := "isLatin1", desc := "()Z" } : Jvm.MethodName)) ∈ xT := xT_2 137 rfl rfl
theorem tw2_138 : (Jvm.Cond.selects "java/lang/String" ({ cls := "java/lang/String", name := "isLatin1", desc := "()Z" } : Jvm.MethodName) ({ cls := "java/lang/String", name := "isLatin1", desc := "()Z" } : Jvm.MethodName)) ∈ xT := xT_2 138 rfl rfl
theorem tw2_139 : (Jvm.Cond.code ({ cls := "java/lang/String", name := "isLatin1", desc := "()Z" } : Jvm.MethodName) prog_13_method_154_code (1 : Nat) (Option.some Jvm.ClassFile.FieldType.boolean)) ∈ xT := xT_2 139 rfl rfl
theorem tw2_140 : (Jvm.Cond.fieldLink "java/lang/String" (38 : Nat) "java/lang/String" "COMPACT_STRINGS" "Z") ∈ xT := xT_2 140 rfl rfl
theorem tw2_142 : (Jvm.Cond.methodLink "java/lang/String" (505 : Nat) ({ cls := "java/lang/String", name := "length", desc := "()I" } : Jvm.MethodName)) ∈ xT := xT_2 142 rfl rfl
theorem tw2_143 : (Jvm.Cond.instanceMethod ({ cls := "java/lang/String", name := "length", desc := "()I" } : Jvm.MethodName)) ∈ xT := xT_2 143 rfl rfl
theorem tw2_144 : (Jvm.Cond.selects "java/lang/String" ({ cls := "java/lang/String", name := "length", desc := "()I" } : Jvm.MethodName) ({ cls := "java/lang/String", name := "length", desc := "()I" } : Jvm.MethodName)) ∈ xT := xT_2 144 rfl rfl
theorem tw2_145 : (Jvm.Cond.code ({ cls := "java/lang/String", name := "length", desc := "()I" } : Jvm.MethodName) prog_13_method_54_code (1 : Nat) (Option.some Jvm.ClassFile.FieldType.int)) ∈ xT := xT_2 145 rfl rfl
theorem tw2_146 : (Jvm.Cond.methodLink "java/lang/String" (335 : Nat) ({ cls := "java/lang/String", name := "coder", desc := "()B" } : Jvm.MethodName)) ∈ xT := xT_2 146 rfl rfl
theorem tw2_147 : (Jvm.Cond.instanceMethod ({ cls := "java/lang/String", name := "coder", desc := "()B" } : Jvm.MethodName)) ∈ xT := xT_2 147 rfl rfl
theorem tw2_148 : (Jvm.Cond.selects "java/lang/String" ({ cls := "java/lang/String", name := "coder", desc := "()B" } : Jvm.MethodName) ({ cls := "java/lang/String", name := "coder", desc := "()B" } : Jvm.MethodName)) ∈ xT := xT_2 148 rfl rfl
theorem tw2_149 : (Jvm.Cond.code ({ cls := "java/lang/String", name := "coder", desc := "()B" } : Jvm.MethodName) prog_13_method_152_code (1 : Nat) (Option.some Jvm.ClassFile.FieldType.byte)) ∈ xT := xT_2 149 rfl rfl
theorem tw2_150 : (Jvm.Cond.methodLink "java/lang/String" (637 : Nat) ({ cls := "java/lang/StringLatin1", name := "indexOf", desc := "([BIII)I" } : Jvm.MethodName)) ∈ xT := xT_2 150 rfl rfl
theorem tw2_151 : (Jvm.Cond.static ({ cls := "java/lang/StringLatin1", name := "indexOf", desc := "([BIII)I" } : Jvm.MethodName)) ∈ xT := xT_2 151 rfl rfl
theorem tw2_152 : (Jvm.Cond.code ({ cls := "java/lang/StringLatin1", name := "indexOf", desc := "([BIII)I" } : Jvm.MethodName) prog_14_method_22_code (4 : Nat) (Option.some Jvm.ClassFile.FieldType.int)) ∈ xT := xT_2 152 rfl rfl
theorem tw2_153 : (Jvm.Cond.methodLink "java/lang/StringLatin1" (88 : Nat) ({ cls := "java/lang/StringLatin1", name := "canEncode", desc := "(I)Z" } : Jvm.MethodName)) ∈ xT := xT_2 153 rfl rfl
theorem tw2_154 : (Jvm.Cond.static ({ cls := "java/lang/StringLatin1", name := "canEncode", desc := "(I)Z" } : Jvm.MethodName)) ∈ xT := xT_2 154 rfl rfl
theorem tw2_155 : (Jvm.Cond.code ({ cls := "java/lang/StringLatin1", name := "canEncode", desc := "(I)Z" } : Jvm.MethodName) prog_14_method_4_code (1 : Nat) (Option.some Jvm.ClassFile.FieldType.boolean)) ∈ xT := xT_2 155 rfl rfl
theorem tw2_156 : (Jvm.Cond.methodLink "java/lang/StringLatin1" (92 : Nat) ({ cls := "java/lang/Math", name := "max", desc := "(II)I" } : Jvm.MethodName)) ∈ xT := xT_2 156 rfl rfl
theorem tw2_157 : (Jvm.Cond.methodLink "java/lang/StringLatin1" (38 : Nat) ({ cls := "java/lang/Math", name := "min", desc := "(II)I" } : Jvm.MethodName)) ∈ xT := xT_2 157 rfl rfl
theorem tw2_158 : (Jvm.Cond.static ({ cls := "java/lang/Math", name := "min", desc := "(II)I" } : Jvm.MethodName)) ∈ xT := xT_2 158 rfl rfl
theorem tw2_159 : Cond.code Lib.Math.min.name Lib.Math.min.code 2 (some .int) ∈ xT := xT_2 159 rfl rfl
theorem tw2_160 : (Jvm.Cond.methodLink "java/lang/StringLatin1" (95 : Nat) ({ cls := "java/lang/StringLatin1", name := "indexOfChar", desc := "([BIII)I" } : Jvm.MethodName)) ∈ xT := xT_2 160 rfl rfl
theorem tw2_161 : (Jvm.Cond.static ({ cls := "java/lang/StringLatin1", name := "indexOfChar", desc := "([BIII)I" } : Jvm.MethodName)) ∈ xT := xT_2 161 rfl rfl
theorem tw2_162 : (Jvm.Cond.code ({ cls := "java/lang/StringLatin1", name := "indexOfChar", desc := "([BIII)I" } : Jvm.MethodName) prog_14_method_23_code (6 : Nat) (Option.some Jvm.ClassFile.FieldType.int)) ∈ xT := xT_2 162 rfl rfl
theorem tw2_163 : (Jvm.Cond.methodLink "java/lang/String" (640 : Nat) ({ cls := "java/lang/StringUTF16", name := "indexOf", desc := "([BIII)I" } : Jvm.MethodName)) ∈ xT := xT_2 163 rfl rfl
theorem tw2_164 : (Jvm.Cond.static ({ cls := "java/lang/StringUTF16", name := "indexOf", desc := "([BIII)I" } : Jvm.MethodName)) ∈ xT := xT_2 164 rfl rfl
theorem tw2_165 : (Jvm.Cond.code ({ cls := "java/lang/StringUTF16", name := "indexOf", desc := "([BIII)I" } : Jvm.MethodName) prog_15_method_40_code (4 : Nat) (Option.some Jvm.ClassFile.FieldType.int)) ∈ xT := xT_2 165 rfl rfl
theorem tw2_166 : (Jvm.Cond.methodLink "java/lang/StringUTF16" (224 : Nat) ({ cls := "java/lang/Math", name := "max", desc := "(II)I" } : Jvm.MethodName)) ∈ xT := xT_2 166 rfl rfl
theorem tw2_167 : (Jvm.Cond.methodLink "java/lang/StringUTF16" (183 : Nat) ({ cls := "java/lang/Math", name := "min", desc := "(II)I" } : Jvm.MethodName)) ∈ xT := xT_2 167 rfl rfl
theorem tw2_168 : (Jvm.Cond.constant "java/lang/StringUTF16" (227 : Nat) (65536 : Int32)) ∈ xT := xT_2 168 rfl rfl
theorem tw2_169 : (Jvm.Cond.methodLink "java/lang/StringUTF16" (228 : Nat) ({ cls := "java/lang/StringUTF16", name := "indexOfChar", desc := "([BIII)I" } : Jvm.MethodName)) ∈ xT := xT_2 169 rfl rfl
theorem tw2_170 : (Jvm.Cond.static ({ cls := "java/lang/StringUTF16", name := "indexOfChar", desc := "([BIII)I" } : Jvm.MethodName)) ∈ xT := xT_2 170 rfl rfl
theorem tw2_171 : (Jvm.Cond.code ({ cls := "java/lang/StringUTF16", name := "indexOfChar", desc := "([BIII)I" } : Jvm.MethodName) prog_15_method_47_code (4 : Nat) (Option.some Jvm.ClassFile.FieldType.int)) ∈ xT := xT_2 171 rfl rfl
theorem tw2_172 : (Jvm.Cond.methodLink "java/lang/StringUTF16" (96 : Nat) ({ cls := "java/lang/StringUTF16", name := "checkBoundsBeginEnd", desc := "(II[B)V" } : Jvm.MethodName)) ∈ xT := xT_2 172 rfl rfl
theorem tw2_173 : (Jvm.Cond.static ({ cls := "java/lang/StringUTF16", name := "checkBoundsBeginEnd", desc := "(II[B)V" } : Jvm.MethodName)) ∈ xT := xT_2 173 rfl rfl
theorem tw2_174 : (Jvm.Cond.code ({ cls := "java/lang/StringUTF16", name := "checkBoundsBeginEnd", desc := "(II[B)V" } : Jvm.MethodName) prog_15_method_93_code (3 : Nat) (Option.none : Option Jvm.ClassFile.FieldType)) ∈ xT := xT_2 174 rfl rfl
theorem tw2_175 : (Jvm.Cond.methodLink "java/lang/StringUTF16" (48 : Nat) ({ cls := "java/lang/StringUTF16", name := "length", desc := "([B)I" } : Jvm.MethodName)) ∈ xT := xT_2 175 rfl rfl
theorem tw2_176 : (Jvm.Cond.static ({ cls := "java/lang/StringUTF16", name := "length", desc := "([B)I" } : Jvm.MethodName)) ∈ xT := xT_2 176 rfl rfl
theorem tw2_177 : (Jvm.Cond.code ({ cls := "java/lang/StringUTF16", name := "length", desc := "([B)I" } : Jvm.MethodName) prog_15_method_6_code (1 : Nat) (Option.some Jvm.ClassFile.FieldType.int)) ∈ xT := xT_2 177 rfl rfl
theorem tw2_178 : (Jvm.Cond.methodLink "java/lang/StringUTF16" (241 : Nat) ({ cls := "java/lang/String", name := "checkBoundsBeginEnd", desc := "(III)V" } : Jvm.MethodName)) ∈ xT := xT_2 178 rfl rfl
theorem tw2_179 : (Jvm.Cond.static ({ cls := "java/lang/String", name := "checkBoundsBeginEnd", desc := "(III)V" } : Jvm.MethodName)) ∈ xT := xT_2 179 rfl rfl
theorem tw2_180 : (Jvm.Cond.code ({ cls := "java/lang/String", name := "checkBoundsBeginEnd", desc := "(III)V" } : Jvm.MethodName) prog_13_method_158_code (3 : Nat) (Option.none : Option Jvm.ClassFile.FieldType)) ∈ xT := xT_2 180 rfl rfl
theorem tw2_181 : (Jvm.Cond.fieldLink "java/lang/String" (1053 : Nat) "jdk/internal/util/Preconditions" "SIOOBE_FORMATTER" "Ljava/util/function/BiFunction;") ∈ xT := xT_2 181 rfl rfl
theorem tw2_183 : (Jvm.Cond.methodLink "java/lang/String" (1062 : Nat) ({ cls := "jdk/internal/util/Preconditions", name := "checkFromToIndex", desc := "(IIILjava/util/function/BiFunction;)I" } : Jvm.MethodName)) ∈ xT := xT_2 183 rfl rfl
theorem tw2_184 : (Jvm.Cond.static ({ cls := "jdk/internal/util/Preconditions", name := "checkFromToIndex", desc := "(IIILjava/util/function/BiFunction;)I" } : Jvm.MethodName)) ∈ xT := xT_2 184 rfl rfl
theorem tw2_185 : (Jvm.Cond.code ({ cls := "jdk/internal/util/Preconditions", name := "checkFromToIndex", desc := "(IIILjava/util/function/BiFunction;)I" } : Jvm.MethodName) prog_18_method_12_code (4 : Nat) (Option.some Jvm.ClassFile.FieldType.int)) ∈ xT := xT_2 185 rfl rfl
theorem tw2_186 : (Jvm.Cond.methodLink "java/lang/StringUTF16" (244 : Nat) ({ cls := "java/lang/StringUTF16", name := "indexOfCharUnsafe", desc := "([BIII)I" } : Jvm.MethodName)) ∈ xT := xT_2 186 rfl rfl
theorem tw2_187 : (Jvm.Cond.static ({ cls := "java/lang/StringUTF16", name := "indexOfCharUnsafe", desc := "([BIII)I" } : Jvm.MethodName)) ∈ xT := xT_2 187 rfl rfl
theorem tw2_188 : (Jvm.Cond.code ({ cls := "java/lang/StringUTF16", name := "indexOfCharUnsafe", desc := "([BIII)I" } : Jvm.MethodName) prog_15_method_48_code (5 : Nat) (Option.some Jvm.ClassFile.FieldType.int)) ∈ xT := xT_2 188 rfl rfl
theorem tw2_189 : (Jvm.Cond.methodLink "java/lang/StringUTF16" (71 : Nat) ({ cls := "java/lang/StringUTF16", name := "getChar", desc := "([BI)C" } : Jvm.MethodName)) ∈ xT := xT_2 189 rfl rfl
theorem tw2_190 : (Jvm.Cond.static ({ cls := "java/lang/StringUTF16", name := "getChar", desc := "([BI)C" } : Jvm.MethodName)) ∈ xT := xT_2 190 rfl rfl
theorem tw2_191 : (Jvm.Cond.code ({ cls := "java/lang/StringUTF16", name := "getChar", desc := "([BI)C" } : Jvm.MethodName) prog_15_method_5_code (2 : Nat) (Option.some Jvm.ClassFile.FieldType.char)) ∈ xT := xT_2 191 rfl rfl
theorem tw2_192 : (Jvm.Cond.fieldLink "java/lang/StringUTF16" (44 : Nat) "java/lang/StringUTF16" "$assertionsDisabled" "Z") ∈ xT := xT_2 192 rfl rfl
theorem tw2_194 : (Jvm.Cond.fieldLink "java/lang/StringUTF16" (59 : Nat) "java/lang/StringUTF16" "HI_BYTE_SHIFT" "I") ∈ xT := xT_2 194 rfl rfl
theorem tw2_196 : (Jvm.Cond.fieldLink "java/lang/StringUTF16" (63 : Nat) "java/lang/StringUTF16" "LO_BYTE_SHIFT" "I") ∈ xT := xT_2 196 rfl rfl
theorem tw2_198 : (Jvm.Cond.methodLink "java/lang/StringUTF16" (232 : Nat) ({ cls := "java/lang/StringUTF16", name := "indexOfSupplementary", desc := "([BIII)I" } : Jvm.MethodName)) ∈ xT := xT_2 198 rfl rfl
theorem tw2_199 : (Jvm.Cond.static ({ cls := "java/lang/StringUTF16", name := "indexOfSupplementary", desc := "([BIII)I" } : Jvm.MethodName)) ∈ xT := xT_2 199 rfl rfl
theorem tw2_200 : (Jvm.Cond.code ({ cls := "java/lang/StringUTF16", name := "indexOfSupplementary", desc := "([BIII)I" } : Jvm.MethodName) prog_15_method_49_code (7 : Nat) (Option.some Jvm.ClassFile.FieldType.int)) ∈ xT := xT_2 200 rfl rfl
theorem tw2_201 : (Jvm.Cond.methodLink "java/lang/StringUTF16" (164 : Nat) ({ cls := "java/lang/Character", name := "isValidCodePoint", desc := "(I)Z" } : Jvm.MethodName)) ∈ xT := xT_2 201 rfl rfl
theorem tw2_202 : (Jvm.Cond.static ({ cls := "java/lang/Character", name := "isValidCodePoint", desc := "(I)Z" } : Jvm.MethodName)) ∈ xT := xT_2 202 rfl rfl
theorem tw2_203 : (Jvm.Cond.code ({ cls := "java/lang/Character", name := "isValidCodePoint", desc := "(I)Z" } : Jvm.MethodName) prog_11_method_11_code (2 : Nat) (Option.some Jvm.ClassFile.FieldType.boolean)) ∈ xT := xT_2 203 rfl rfl
theorem tw2_204 : (Jvm.Cond.methodLink "java/lang/StringUTF16" (157 : Nat) ({ cls := "java/lang/Character", name := "highSurrogate", desc := "(I)C" } : Jvm.MethodName)) ∈ xT := xT_2 204 rfl rfl
theorem tw2_205 : (Jvm.Cond.static ({ cls := "java/lang/Character", name := "highSurrogate", desc := "(I)C" } : Jvm.MethodName)) ∈ xT := xT_2 205 rfl rfl
theorem tw2_206 : (Jvm.Cond.code ({ cls := "java/lang/Character", name := "highSurrogate", desc := "(I)C" } : Jvm.MethodName) prog_11_method_28_code (1 : Nat) (Option.some Jvm.ClassFile.FieldType.char)) ∈ xT := xT_2 206 rfl rfl
theorem tw2_207 : (Jvm.Cond.constant "java/lang/Character" (110 : Nat) (55232 : Int32)) ∈ xT := xT_2 207 rfl rfl
theorem tw2_208 : (Jvm.Cond.methodLink "java/lang/StringUTF16" (161 : Nat) ({ cls := "java/lang/Character", name := "lowSurrogate", desc := "(I)C" } : Jvm.MethodName)) ∈ xT := xT_2 208 rfl rfl
theorem tw2_209 : (Jvm.Cond.static ({ cls := "java/lang/Character", name := "lowSurrogate", desc := "(I)C" } : Jvm.MethodName)) ∈ xT := xT_2 209 rfl rfl
theorem tw2_210 : (Jvm.Cond.code ({ cls := "java/lang/Character", name := "lowSurrogate", desc := "(I)C" } : Jvm.MethodName) prog_11_method_29_code (1 : Nat) (Option.some Jvm.ClassFile.FieldType.char)) ∈ xT := xT_2 210 rfl rfl
theorem tw2_211 : (Jvm.Cond.constant "java/lang/Character" (76 : Nat) (56320 : Int32)) ∈ xT := xT_2 211 rfl rfl
theorem tw2_212 : (Jvm.Cond.methodLink "NobodyFirst$Reader" (32 : Nat) ({ cls := "NobodyFirst$Reader", name := "readNumbers", desc := "([BII)Z" } : Jvm.MethodName)) ∈ xT := xT_2 212 rfl rfl
theorem tw2_214 : (Jvm.Cond.instanceMethod ({ cls := "NobodyFirst$Reader", name := "readNumbers", desc := "([BII)Z" } : Jvm.MethodName)) ∈ xT := xT_2 214 rfl rfl
theorem tw2_215 : (Jvm.Cond.code ({ cls := "NobodyFirst$Reader", name := "readNumbers", desc := "([BII)Z" } : Jvm.MethodName) prog_7_method_3_code (9 : Nat) (Option.some Jvm.ClassFile.FieldType.boolean)) ∈ xT := xT_2 215 rfl rfl
theorem tw2_216 : (Jvm.Cond.fieldLink "NobodyFirst$Reader" (40 : Nat) "NobodyFirst$Reader" "HOW_MANY" "[I") ∈ xT := xT_2 216 rfl rfl
theorem tw2_218 : (Jvm.Cond.methodLink "NobodyFirst$Reader" (43 : Nat) ({ cls := "NobodyFirst$Reader", name := "readNumber", desc := "([BI)I" } : Jvm.MethodName)) ∈ xT := xT_2 218 rfl rfl
theorem tw2_220 : (Jvm.Cond.instanceMethod ({ cls := "NobodyFirst$Reader", name := "readNumber", desc := "([BI)I" } : Jvm.MethodName)) ∈ xT := xT_2 220 rfl rfl
theorem tw2_221 : (Jvm.Cond.code ({ cls := "NobodyFirst$Reader", name := "readNumber", desc := "([BI)I" } : Jvm.MethodName) prog_7_method_4_code (5 : Nat) (Option.some Jvm.ClassFile.FieldType.int)) ∈ xT := xT_2 221 rfl rfl
theorem tw2_222 : (Jvm.Cond.fieldLink "NobodyFirst$Reader" (47 : Nat) "NobodyFirst$Reader" "LEAST" "[I") ∈ xT := xT_2 222 rfl rfl
theorem tw2_224 : (Jvm.Cond.fieldLink "NobodyFirst$Reader" (50 : Nat) "NobodyFirst$Reader" "MOST" "[I") ∈ xT := xT_2 224 rfl rfl
theorem tw2_226 : (Jvm.Cond.methodLink "NobodyFirst$Reader" (36 : Nat) ({ cls := "NobodyFirst$Reader", name := "enter", desc := "(ILNobodyFirst$Party;)Z" } : Jvm.MethodName)) ∈ xT := xT_2 226 rfl rfl
theorem tw2_228 : (Jvm.Cond.instanceMethod ({ cls := "NobodyFirst$Reader", name := "enter", desc := "(ILNobodyFirst$Party;)Z" } : Jvm.MethodName)) ∈ xT := xT_2 228 rfl rfl
theorem tw2_229 : (Jvm.Cond.code ({ cls := "NobodyFirst$Reader", name := "enter", desc := "(ILNobodyFirst$Party;)Z" } : Jvm.MethodName) prog_7_method_5_code (3 : Nat) (Option.some Jvm.ClassFile.FieldType.boolean)) ∈ xT := xT_2 229 rfl rfl
theorem tw2_230 : (Jvm.Cond.methodLink "NobodyFirst$Reader" (53 : Nat) ({ cls := "NobodyFirst$Party", name := "addGuest", desc := "(IIII)Z" } : Jvm.MethodName)) ∈ xT := xT_2 230 rfl rfl
theorem tw2_231 : (Jvm.Cond.methodLink "NobodyFirst$Reader" (61 : Nat) ({ cls := "NobodyFirst$Told", name := "addSign", desc := "(II)Z" } : Jvm.MethodName)) ∈ xT := xT_2 231 rfl rfl
theorem tw2_232 : (Jvm.Cond.instanceMethod ({ cls := "NobodyFirst$Told", name := "addSign", desc := "(II)Z" } : Jvm.MethodName)) ∈ xT := xT_2 232 rfl rfl
theorem tw2_233 : (Jvm.Cond.selects "NobodyFirst$Told" ({ cls := "NobodyFirst$Told", name := "addSign", desc := "(II)Z" } : Jvm.MethodName) ({ cls := "NobodyFirst$Told", name := "addSign", desc := "(II)Z" } : Jvm.MethodName)) ∈ xT := xT_2 233 rfl rfl
theorem tw2_234 : (Jvm.Cond.code ({ cls := "NobodyFirst$Told", name := "addSign", desc := "(II)Z" } : Jvm.MethodName) prog_8_method_3_code (3 : Nat) (Option.some Jvm.ClassFile.FieldType.boolean)) ∈ xT := xT_2 234 rfl rfl
theorem tw2_235 : (Jvm.Cond.methodLink "NobodyFirst$Reader" (67 : Nat) ({ cls := "NobodyFirst$Told", name := "addWord", desc := "(I)Z" } : Jvm.MethodName)) ∈ xT := xT_2 235 rfl rfl
theorem tw2_236 : (Jvm.Cond.instanceMethod ({ cls := "NobodyFirst$Told", name := "addWord", desc := "(I)Z" } : Jvm.MethodName)) ∈ xT := xT_2 236 rfl rfl
theorem tw2_237 : (Jvm.Cond.selects "NobodyFirst$Told" ({ cls := "NobodyFirst$Told", name := "addWord", desc := "(I)Z" } : Jvm.MethodName) ({ cls := "NobodyFirst$Told", name := "addWord", desc := "(I)Z" } : Jvm.MethodName)) ∈ xT := xT_2 237 rfl rfl
theorem tw2_238 : (Jvm.Cond.code ({ cls := "NobodyFirst$Told", name := "addWord", desc := "(I)Z" } : Jvm.MethodName) prog_8_method_4_code (2 : Nat) (Option.some Jvm.ClassFile.FieldType.boolean)) ∈ xT := xT_2 238 rfl rfl
theorem tw2_239 : (Jvm.Cond.methodLink "NobodyFirst$Reader" (71 : Nat) ({ cls := "NobodyFirst$Party", name := "setHall", desc := "(II)Z" } : Jvm.MethodName)) ∈ xT := xT_2 239 rfl rfl
theorem tw3_0 : (Jvm.Cond.instanceMethod ({ cls := "NobodyFirst$Party", name := "setHall", desc := "(II)Z" } : Jvm.MethodName)) ∈ xT := xT_3 0 rfl rfl
theorem tw3_1 : (Jvm.Cond.selects "NobodyFirst$Party" ({ cls := "NobodyFirst$Party", name := "setHall", desc := "(II)Z" } : Jvm.MethodName) ({ cls := "NobodyFirst$Party", name := "setHall", desc := "(II)Z" } : Jvm.MethodName)) ∈ xT := xT_3 1 rfl rfl
theorem tw3_2 : (Jvm.Cond.code ({ cls := "NobodyFirst$Party", name := "setHall", desc := "(II)Z" } : Jvm.MethodName) prog_6_method_7_code (3 : Nat) (Option.some Jvm.ClassFile.FieldType.boolean)) ∈ xT := xT_3 2 rfl rfl
theorem tw3_3 : (Jvm.Cond.methodLink "NobodyFirst$Reader" (74 : Nat) ({ cls := "NobodyFirst$Party", name := "setEnd", desc := "(I)Z" } : Jvm.MethodName)) ∈ xT := xT_3 3 rfl rfl
theorem tw3_4 : (Jvm.Cond.instanceMethod ({ cls := "NobodyFirst$Party", name := "setEnd", desc := "(I)Z" } : Jvm.MethodName)) ∈ xT := xT_3 4 rfl rfl
theorem tw3_5 : (Jvm.Cond.selects "NobodyFirst$Party" ({ cls := "NobodyFirst$Party", name := "setEnd", desc := "(I)Z" } : Jvm.MethodName) ({ cls := "NobodyFirst$Party", name := "setEnd", desc := "(I)Z" } : Jvm.MethodName)) ∈ xT := xT_3 5 rfl rfl
theorem tw3_6 : (Jvm.Cond.code ({ cls := "NobodyFirst$Party", name := "setEnd", desc := "(I)Z" } : Jvm.MethodName) prog_6_method_8_code (2 : Nat) (Option.some Jvm.ClassFile.FieldType.boolean)) ∈ xT := xT_3 6 rfl rfl
theorem tw3_7 : (Jvm.Cond.methodLink "NobodyFirst$Reader" (77 : Nat) ({ cls := "NobodyFirst$Party", name := "addOffer", desc := "(II)Z" } : Jvm.MethodName)) ∈ xT := xT_3 7 rfl rfl
theorem tw3_8 : (Jvm.Cond.instanceMethod ({ cls := "NobodyFirst$Party", name := "addOffer", desc := "(II)Z" } : Jvm.MethodName)) ∈ xT := xT_3 8 rfl rfl
theorem tw3_9 : (Jvm.Cond.selects "NobodyFirst$Party" ({ cls := "NobodyFirst$Party", name := "addOffer", desc := "(II)Z" } : Jvm.MethodName) ({ cls := "NobodyFirst$Party", name := "addOffer", desc := "(II)Z" } : Jvm.MethodName)) ∈ xT := xT_3 9 rfl rfl
theorem tw3_10 : (Jvm.Cond.code ({ cls := "NobodyFirst$Party", name := "addOffer", desc := "(II)Z" } : Jvm.MethodName) prog_6_method_4_code (3 : Nat) (Option.some Jvm.ClassFile.FieldType.boolean)) ∈ xT := xT_3 10 rfl rfl
theorem tw3_11 : (Jvm.Cond.methodLink "NobodyFirst$Reader" (80 : Nat) ({ cls := "NobodyFirst$Party", name := "setCustom", desc := "(III)Z" } : Jvm.MethodName)) ∈ xT := xT_3 11 rfl rfl
theorem tw3_12 : (Jvm.Cond.instanceMethod ({ cls := "NobodyFirst$Party", name := "setCustom", desc := "(III)Z" } : Jvm.MethodName)) ∈ xT := xT_3 12 rfl rfl
theorem tw3_13 : (Jvm.Cond.selects "NobodyFirst$Party" ({ cls := "NobodyFirst$Party", name := "setCustom", desc := "(III)Z" } : Jvm.MethodName) ({ cls := "NobodyFirst$Party", name := "setCustom", desc := "(III)Z" } : Jvm.MethodName)) ∈ xT := xT_3 13 rfl rfl
theorem tw3_14 : (Jvm.Cond.code ({ cls := "NobodyFirst$Party", name := "setCustom", desc := "(III)Z" } : Jvm.MethodName) prog_6_method_6_code (4 : Nat) (Option.some Jvm.ClassFile.FieldType.boolean)) ∈ xT := xT_3 14 rfl rfl
theorem tw3_16 : (Jvm.Cond.methodLink "NobodyFirst$Reader" (84 : Nat) ({ cls := "NobodyFirst$Party", name := "addLook", desc := "(III)Z" } : Jvm.MethodName)) ∈ xT := xT_3 16 rfl rfl
theorem tw3_17 : (Jvm.Cond.instanceMethod ({ cls := "NobodyFirst$Party", name := "addLook", desc := "(III)Z" } : Jvm.MethodName)) ∈ xT := xT_3 17 rfl rfl
theorem tw3_18 : (Jvm.Cond.selects "NobodyFirst$Party" ({ cls := "NobodyFirst$Party", name := "addLook", desc := "(III)Z" } : Jvm.MethodName) ({ cls := "NobodyFirst$Party", name := "addLook", desc := "(III)Z" } : Jvm.MethodName)) ∈ xT := xT_3 18 rfl rfl
theorem tw3_19 : (Jvm.Cond.code ({ cls := "NobodyFirst$Party", name := "addLook", desc := "(III)Z" } : Jvm.MethodName) prog_6_method_5_code (4 : Nat) (Option.some Jvm.ClassFile.FieldType.boolean)) ∈ xT := xT_3 19 rfl rfl
theorem tw3_20 : (Jvm.Cond.methodLink "NobodyFirstLaw" (29 : Nat) ({ cls := "NobodyFirst", name := "lay", desc := "()I" } : Jvm.MethodName)) ∈ xT := xT_3 20 rfl rfl
theorem tw3_21 : (Jvm.Cond.instanceMethod ({ cls := "NobodyFirst", name := "lay", desc := "()I" } : Jvm.MethodName)) ∈ xT := xT_3 21 rfl rfl
theorem tw3_22 : (Jvm.Cond.selects "NobodyFirst" ({ cls := "NobodyFirst", name := "lay", desc := "()I" } : Jvm.MethodName) ({ cls := "NobodyFirst", name := "lay", desc := "()I" } : Jvm.MethodName)) ∈ xT := xT_3 22 rfl rfl
theorem tw3_23 : (Jvm.Cond.code ({ cls := "NobodyFirst", name := "lay", desc := "()I" } : Jvm.MethodName) prog_1_method_5_code (2 : Nat) (Option.some Jvm.ClassFile.FieldType.int)) ∈ xT := xT_3 23 rfl rfl
theorem tw3_24 : (Jvm.Cond.methodLink "NobodyFirst" (81 : Nat) ({ cls := "NobodyFirst$History", name := "forget", desc := "()V" } : Jvm.MethodName)) ∈ xT := xT_3 24 rfl rfl
theorem tw3_25 : (Jvm.Cond.instanceMethod ({ cls := "NobodyFirst$History", name := "forget", desc := "()V" } : Jvm.MethodName)) ∈ xT := xT_3 25 rfl rfl
theorem tw3_26 : (Jvm.Cond.selects "NobodyFirst$History" ({ cls := "NobodyFirst$History", name := "forget", desc := "()V" } : Jvm.MethodName) ({ cls := "NobodyFirst$History", name := "forget", desc := "()V" } : Jvm.MethodName)) ∈ xT := xT_3 26 rfl rfl
theorem tw3_27 : (Jvm.Cond.code ({ cls := "NobodyFirst$History", name := "forget", desc := "()V" } : Jvm.MethodName) prog_5_method_2_code (1 : Nat) (Option.none : Option Jvm.ClassFile.FieldType)) ∈ xT := xT_3 27 rfl rfl
theorem tw3_28 : (Jvm.Cond.methodLink "NobodyFirstLaw" (33 : Nat) ({ cls := "NobodyFirst", name := "guest", desc := "(II)I" } : Jvm.MethodName)) ∈ xT := xT_3 28 rfl rfl
theorem tw3_29 : (Jvm.Cond.instanceMethod ({ cls := "NobodyFirst", name := "guest", desc := "(II)I" } : Jvm.MethodName)) ∈ xT := xT_3 29 rfl rfl
theorem tw3_30 : (Jvm.Cond.selects "NobodyFirst" ({ cls := "NobodyFirst", name := "guest", desc := "(II)I" } : Jvm.MethodName) ({ cls := "NobodyFirst", name := "guest", desc := "(II)I" } : Jvm.MethodName)) ∈ xT := xT_3 30 rfl rfl
theorem tw3_31 : (Jvm.Cond.code ({ cls := "NobodyFirst", name := "guest", desc := "(II)I" } : Jvm.MethodName) prog_1_method_6_code (3 : Nat) (Option.some Jvm.ClassFile.FieldType.int)) ∈ xT := xT_3 31 rfl rfl
theorem tw3_32 : (Jvm.Cond.methodLink "NobodyFirst" (88 : Nat) ({ cls := "NobodyFirst", name := "isGuest", desc := "(I)Z" } : Jvm.MethodName)) ∈ xT := xT_3 32 rfl rfl
theorem tw3_34 : (Jvm.Cond.instanceMethod ({ cls := "NobodyFirst", name := "isGuest", desc := "(I)Z" } : Jvm.MethodName)) ∈ xT := xT_3 34 rfl rfl
theorem tw3_35 : (Jvm.Cond.code ({ cls := "NobodyFirst", name := "isGuest", desc := "(I)Z" } : Jvm.MethodName) prog_1_method_31_code (2 : Nat) (Option.some Jvm.ClassFile.FieldType.boolean)) ∈ xT := xT_3 35 rfl rfl
theorem tw3_36 : (Jvm.Cond.methodLink "NobodyFirstLaw" (38 : Nat) ({ cls := "NobodyFirst", name := "shame", desc := "(II)I" } : Jvm.MethodName)) ∈ xT := xT_3 36 rfl rfl
theorem tw3_37 : (Jvm.Cond.instanceMethod ({ cls := "NobodyFirst", name := "shame", desc := "(II)I" } : Jvm.MethodName)) ∈ xT := xT_3 37 rfl rfl
theorem tw3_38 : (Jvm.Cond.selects "NobodyFirst" ({ cls := "NobodyFirst", name := "shame", desc := "(II)I" } : Jvm.MethodName) ({ cls := "NobodyFirst", name := "shame", desc := "(II)I" } : Jvm.MethodName)) ∈ xT := xT_3 38 rfl rfl
theorem tw3_39 : (Jvm.Cond.code ({ cls := "NobodyFirst", name := "shame", desc := "(II)I" } : Jvm.MethodName) prog_1_method_7_code (3 : Nat) (Option.some Jvm.ClassFile.FieldType.int)) ∈ xT := xT_3 39 rfl rfl
theorem tw3_40 : (Jvm.Cond.methodLink "NobodyFirst" (105 : Nat) ({ cls := "NobodyFirst", name := "passAsItIs", desc := "()V" } : Jvm.MethodName)) ∈ xT := xT_3 40 rfl rfl
theorem tw3_42 : (Jvm.Cond.instanceMethod ({ cls := "NobodyFirst", name := "passAsItIs", desc := "()V" } : Jvm.MethodName)) ∈ xT := xT_3 42 rfl rfl
theorem tw3_43 : (Jvm.Cond.code ({ cls := "NobodyFirst", name := "passAsItIs", desc := "()V" } : Jvm.MethodName) prog_1_method_32_code (1 : Nat) (Option.none : Option Jvm.ClassFile.FieldType)) ∈ xT := xT_3 43 rfl rfl
theorem tw3_44 : (Jvm.Cond.methodLink "NobodyFirst" (201 : Nat) ({ cls := "NobodyFirst$Evening", name := "prepare", desc := "(LNobodyFirst$Party;)V" } : Jvm.MethodName)) ∈ xT := xT_3 44 rfl rfl
theorem tw3_45 : (Jvm.Cond.instanceMethod ({ cls := "NobodyFirst$Evening", name := "prepare", desc := "(LNobodyFirst$Party;)V" } : Jvm.MethodName)) ∈ xT := xT_3 45 rfl rfl
theorem tw3_46 : (Jvm.Cond.selects "NobodyFirst$Evening" ({ cls := "NobodyFirst$Evening", name := "prepare", desc := "(LNobodyFirst$Party;)V" } : Jvm.MethodName) ({ cls := "NobodyFirst$Evening", name := "prepare", desc := "(LNobodyFirst$Party;)V" } : Jvm.MethodName)) ∈ xT := xT_3 46 rfl rfl
theorem tw3_47 : (Jvm.Cond.code ({ cls := "NobodyFirst$Evening", name := "prepare", desc := "(LNobodyFirst$Party;)V" } : Jvm.MethodName) prog_2_method_2_code (3 : Nat) (Option.none : Option Jvm.ClassFile.FieldType)) ∈ xT := xT_3 47 rfl rfl
theorem tw3_48 : (Jvm.Cond.methodLink "NobodyFirst$Evening" (78 : Nat) ({ cls := "NobodyFirst$Evening", name := "addSign", desc := "(II)V" } : Jvm.MethodName)) ∈ xT := xT_3 48 rfl rfl
theorem tw3_49 : (Jvm.Cond.instanceMethod ({ cls := "NobodyFirst$Evening", name := "addSign", desc := "(II)V" } : Jvm.MethodName)) ∈ xT := xT_3 49 rfl rfl
theorem tw3_50 : (Jvm.Cond.selects "NobodyFirst$Evening" ({ cls := "NobodyFirst$Evening", name := "addSign", desc := "(II)V" } : Jvm.MethodName) ({ cls := "NobodyFirst$Evening", name := "addSign", desc := "(II)V" } : Jvm.MethodName)) ∈ xT := xT_3 50 rfl rfl
theorem tw3_51 : (Jvm.Cond.code ({ cls := "NobodyFirst$Evening", name := "addSign", desc := "(II)V" } : Jvm.MethodName) prog_2_method_3_code (3 : Nat) (Option.none : Option Jvm.ClassFile.FieldType)) ∈ xT := xT_3 51 rfl rfl
theorem tw3_52 : (Jvm.Cond.methodLink "NobodyFirst" (207 : Nat) ({ cls := "NobodyFirst$Evening", name := "pass", desc := "()V" } : Jvm.MethodName)) ∈ xT := xT_3 52 rfl rfl
theorem tw3_53 : (Jvm.Cond.instanceMethod ({ cls := "NobodyFirst$Evening", name := "pass", desc := "()V" } : Jvm.MethodName)) ∈ xT := xT_3 53 rfl rfl
theorem tw3_54 : (Jvm.Cond.selects "NobodyFirst$Evening" ({ cls := "NobodyFirst$Evening", name := "pass", desc := "()V" } : Jvm.MethodName) ({ cls := "NobodyFirst$Evening", name := "pass", desc := "()V" } : Jvm.MethodName)) ∈ xT := xT_3 54 rfl rfl
theorem tw3_55 : (Jvm.Cond.code ({ cls := "NobodyFirst$Evening", name := "pass", desc := "()V" } : Jvm.MethodName) prog_2_method_8_code (3 : Nat) (Option.none : Option Jvm.ClassFile.FieldType)) ∈ xT := xT_3 55 rfl rfl
theorem tw3_56 : (Jvm.Cond.constant "NobodyFirst$Evening" (90 : Nat) (100000 : Int32)) ∈ xT := xT_3 56 rfl rfl
theorem tw3_57 : (Jvm.Cond.methodLink "NobodyFirst$Evening" (91 : Nat) ({ cls := "java/util/Arrays", name := "fill", desc := "([II)V" } : Jvm.MethodName)) ∈ xT := xT_3 57 rfl rfl
theorem tw3_58 : (Jvm.Cond.methodLink "NobodyFirst$Evening" (97 : Nat) ({ cls := "NobodyFirst$Evening", name := "goOnFrom", desc := "(I)I" } : Jvm.MethodName)) ∈ xT := xT_3 58 rfl rfl
theorem tw3_60 : (Jvm.Cond.instanceMethod ({ cls := "NobodyFirst$Evening", name := "goOnFrom", desc := "(I)I" } : Jvm.MethodName)) ∈ xT := xT_3 60 rfl rfl
theorem tw3_61 : (Jvm.Cond.code ({ cls := "NobodyFirst$Evening", name := "goOnFrom", desc := "(I)I" } : Jvm.MethodName) prog_2_method_9_code (5 : Nat) (Option.some Jvm.ClassFile.FieldType.int)) ∈ xT := xT_3 61 rfl rfl
theorem tw3_62 : (Jvm.Cond.methodLink "NobodyFirst$Evening" (108 : Nat) ({ cls := "NobodyFirst$Evening", name := "nextChange", desc := "(I)I" } : Jvm.MethodName)) ∈ xT := xT_3 62 rfl rfl
theorem tw3_64 : (Jvm.Cond.instanceMethod ({ cls := "NobodyFirst$Evening", name := "nextChange", desc := "(I)I" } : Jvm.MethodName)) ∈ xT := xT_3 64 rfl rfl
theorem tw3_65 : (Jvm.Cond.code ({ cls := "NobodyFirst$Evening", name := "nextChange", desc := "(I)I" } : Jvm.MethodName) prog_2_method_10_code (4 : Nat) (Option.some Jvm.ClassFile.FieldType.int)) ∈ xT := xT_3 65 rfl rfl
theorem tw3_66 : (Jvm.Cond.methodLink "NobodyFirst$Evening" (111 : Nat) ({ cls := "java/lang/Math", name := "min", desc := "(II)I" } : Jvm.MethodName)) ∈ xT := xT_3 66 rfl rfl
theorem tw3_67 : (Jvm.Cond.methodLink "NobodyFirst$Evening" (101 : Nat) ({ cls := "NobodyFirst$Evening", name := "sits", desc := "(I)Z" } : Jvm.MethodName)) ∈ xT := xT_3 67 rfl rfl
theorem tw3_69 : (Jvm.Cond.instanceMethod ({ cls := "NobodyFirst$Evening", name := "sits", desc := "(I)Z" } : Jvm.MethodName)) ∈ xT := xT_3 69 rfl rfl
theorem tw3_70 : (Jvm.Cond.code ({ cls := "NobodyFirst$Evening", name := "sits", desc := "(I)Z" } : Jvm.MethodName) prog_2_method_11_code (2 : Nat) (Option.some Jvm.ClassFile.FieldType.boolean)) ∈ xT := xT_3 70 rfl rfl
theorem tw3_71 : (Jvm.Cond.methodLink "NobodyFirst$Evening" (117 : Nat) ({ cls := "NobodyFirst$Evening", name := "pairFrom", desc := "(II)I" } : Jvm.MethodName)) ∈ xT := xT_3 71 rfl rfl
theorem tw3_73 : (Jvm.Cond.instanceMethod ({ cls := "NobodyFirst$Evening", name := "pairFrom", desc := "(II)I" } : Jvm.MethodName)) ∈ xT := xT_3 73 rfl rfl
theorem tw3_74 : (Jvm.Cond.code ({ cls := "NobodyFirst$Evening", name := "pairFrom", desc := "(II)I" } : Jvm.MethodName) prog_2_method_12_code (7 : Nat) (Option.some Jvm.ClassFile.FieldType.int)) ∈ xT := xT_3 74 rfl rfl
theorem tw3_75 : (Jvm.Cond.methodLink "NobodyFirst$Evening" (133 : Nat) ({ cls := "NobodyFirst$Evening", name := "pressesFrom", desc := "(II)I" } : Jvm.MethodName)) ∈ xT := xT_3 75 rfl rfl
theorem tw3_76 : (Jvm.Cond.instanceMethod ({ cls := "NobodyFirst$Evening", name := "pressesFrom", desc := "(II)I" } : Jvm.MethodName)) ∈ xT := xT_3 76 rfl rfl
theorem tw3_77 : (Jvm.Cond.selects "NobodyFirst$Evening" ({ cls := "NobodyFirst$Evening", name := "pressesFrom", desc := "(II)I" } : Jvm.MethodName) ({ cls := "NobodyFirst$Evening", name := "pressesFrom", desc := "(II)I" } : Jvm.MethodName)) ∈ xT := xT_3 77 rfl rfl
theorem tw3_78 : (Jvm.Cond.code ({ cls := "NobodyFirst$Evening", name := "pressesFrom", desc := "(II)I" } : Jvm.MethodName) prog_2_method_14_code (3 : Nat) (Option.some Jvm.ClassFile.FieldType.int)) ∈ xT := xT_3 78 rfl rfl
theorem tw3_79 : (Jvm.Cond.methodLink "NobodyFirst$Evening" (136 : Nat) ({ cls := "NobodyFirst$Evening", name := "shameAt", desc := "(II)I" } : Jvm.MethodName)) ∈ xT := xT_3 79 rfl rfl
theorem tw3_80 : (Jvm.Cond.instanceMethod ({ cls := "NobodyFirst$Evening", name := "shameAt", desc := "(II)I" } : Jvm.MethodName)) ∈ xT := xT_3 80 rfl rfl
theorem tw3_81 : (Jvm.Cond.selects "NobodyFirst$Evening" ({ cls := "NobodyFirst$Evening", name := "shameAt", desc := "(II)I" } : Jvm.MethodName) ({ cls := "NobodyFirst$Evening", name := "shameAt", desc := "(II)I" } : Jvm.MethodName)) ∈ xT := xT_3 81 rfl rfl
theorem tw3_82 : (Jvm.Cond.code ({ cls := "NobodyFirst$Evening", name := "shameAt", desc := "(II)I" } : Jvm.MethodName) prog_2_method_15_code (5 : Nat) (Option.some Jvm.ClassFile.FieldType.int)) ∈ xT := xT_3 82 rfl rfl
theorem tw3_83 : (Jvm.Cond.methodLink "NobodyFirst$Evening" (120 : Nat) ({ cls := "java/lang/Math", name := "max", desc := "(II)I" } : Jvm.MethodName)) ∈ xT := xT_3 83 rfl rfl
theorem tw3_84 : (Jvm.Cond.methodLink "NobodyFirst$Evening" (123 : Nat) ({ cls := "NobodyFirst$Evening", name := "lookAt", desc := "(I)V" } : Jvm.MethodName)) ∈ xT := xT_3 84 rfl rfl
theorem tw3_85 : (Jvm.Cond.instanceMethod ({ cls := "NobodyFirst$Evening", name := "lookAt", desc := "(I)V" } : Jvm.MethodName)) ∈ xT := xT_3 85 rfl rfl
theorem tw3_86 : (Jvm.Cond.selects "NobodyFirst$Evening" ({ cls := "NobodyFirst$Evening", name := "lookAt", desc := "(I)V" } : Jvm.MethodName) ({ cls := "NobodyFirst$Evening", name := "lookAt", desc := "(I)V" } : Jvm.MethodName)) ∈ xT := xT_3 86 rfl rfl
theorem tw3_87 : (Jvm.Cond.code ({ cls := "NobodyFirst$Evening", name := "lookAt", desc := "(I)V" } : Jvm.MethodName) prog_2_method_13_code (4 : Nat) (Option.none : Option Jvm.ClassFile.FieldType)) ∈ xT := xT_3 87 rfl rfl
theorem tw3_88 : (Jvm.Cond.methodLink "NobodyFirst$Evening" (105 : Nat) ({ cls := "NobodyFirst$Evening", name := "goesAfter", desc := "(I)I" } : Jvm.MethodName)) ∈ xT := xT_3 88 rfl rfl
theorem tw3_90 : (Jvm.Cond.instanceMethod ({ cls := "NobodyFirst$Evening", name := "goesAfter", desc := "(I)I" } : Jvm.MethodName)) ∈ xT := xT_3 90 rfl rfl
theorem tw3_91 : (Jvm.Cond.code ({ cls := "NobodyFirst$Evening", name := "goesAfter", desc := "(I)I" } : Jvm.MethodName) prog_2_method_16_code (5 : Nat) (Option.some Jvm.ClassFile.FieldType.int)) ∈ xT := xT_3 91 rfl rfl
theorem tw3_92 : (Jvm.Cond.methodLink "NobodyFirst" (108 : Nat) ({ cls := "NobodyFirst$Evening", name := "lookAt", desc := "(I)V" } : Jvm.MethodName)) ∈ xT := xT_3 92 rfl rfl
theorem tw3_93 : (Jvm.Cond.methodLink "NobodyFirst" (112 : Nat) ({ cls := "NobodyFirst$Evening", name := "shameAt", desc := "(II)I" } : Jvm.MethodName)) ∈ xT := xT_3 93 rfl rfl
theorem tw3_94 : (Jvm.Cond.methodLink "NobodyFirstLaw" (42 : Nat) ({ cls := "NobodyFirst", name := "presses", desc := "(II)I" } : Jvm.MethodName)) ∈ xT := xT_3 94 rfl rfl
theorem tw3_95 : (Jvm.Cond.instanceMethod ({ cls := "NobodyFirst", name := "presses", desc := "(II)I" } : Jvm.MethodName)) ∈ xT := xT_3 95 rfl rfl
theorem tw3_96 : (Jvm.Cond.selects "NobodyFirst" ({ cls := "NobodyFirst", name := "presses", desc := "(II)I" } : Jvm.MethodName) ({ cls := "NobodyFirst", name := "presses", desc := "(II)I" } : Jvm.MethodName)) ∈ xT := xT_3 96 rfl rfl
theorem tw3_97 : (Jvm.Cond.code ({ cls := "NobodyFirst", name := "presses", desc := "(II)I" } : Jvm.MethodName) prog_1_method_8_code (3 : Nat) (Option.some Jvm.ClassFile.FieldType.int)) ∈ xT := xT_3 97 rfl rfl
theorem tw3_98 : (Jvm.Cond.methodLink "NobodyFirst" (116 : Nat) ({ cls := "NobodyFirst$Evening", name := "pressesFrom", desc := "(II)I" } : Jvm.MethodName)) ∈ xT := xT_3 98 rfl rfl
theorem tw3_99 : (Jvm.Cond.methodLink "NobodyFirstLaw" (46 : Nat) ({ cls := "NobodyFirst", name := "is", desc := "(II)I" } : Jvm.MethodName)) ∈ xT := xT_3 99 rfl rfl
theorem tw3_100 : (Jvm.Cond.instanceMethod ({ cls := "NobodyFirst", name := "is", desc := "(II)I" } : Jvm.MethodName)) ∈ xT := xT_3 100 rfl rfl
theorem tw3_101 : (Jvm.Cond.selects "NobodyFirst" ({ cls := "NobodyFirst", name := "is", desc := "(II)I" } : Jvm.MethodName) ({ cls := "NobodyFirst", name := "is", desc := "(II)I" } : Jvm.MethodName)) ∈ xT := xT_3 101 rfl rfl
theorem tw3_102 : (Jvm.Cond.code ({ cls := "NobodyFirst", name := "is", desc := "(II)I" } : Jvm.MethodName) prog_1_method_9_code (3 : Nat) (Option.some Jvm.ClassFile.FieldType.int)) ∈ xT := xT_3 102 rfl rfl
theorem tw3_103 : (Jvm.Cond.methodLink "NobodyFirst" (119 : Nat) ({ cls := "NobodyFirst$Evening", name := "standsIn", desc := "(I)I" } : Jvm.MethodName)) ∈ xT := xT_3 103 rfl rfl
theorem tw3_104 : (Jvm.Cond.instanceMethod ({ cls := "NobodyFirst$Evening", name := "standsIn", desc := "(I)I" } : Jvm.MethodName)) ∈ xT := xT_3 104 rfl rfl
theorem tw3_105 : (Jvm.Cond.selects "NobodyFirst$Evening" ({ cls := "NobodyFirst$Evening", name := "standsIn", desc := "(I)I" } : Jvm.MethodName) ({ cls := "NobodyFirst$Evening", name := "standsIn", desc := "(I)I" } : Jvm.MethodName)) ∈ xT := xT_3 105 rfl rfl
theorem tw3_106 : (Jvm.Cond.code ({ cls := "NobodyFirst$Evening", name := "standsIn", desc := "(I)I" } : Jvm.MethodName) prog_2_method_17_code (2 : Nat) (Option.some Jvm.ClassFile.FieldType.int)) ∈ xT := xT_3 106 rfl rfl
theorem tw3_107 : (Jvm.Cond.methodLink "NobodyFirst" (123 : Nat) ({ cls := "NobodyFirst$Evening", name := "goesIn", desc := "(I)I" } : Jvm.MethodName)) ∈ xT := xT_3 107 rfl rfl
theorem tw3_108 : (Jvm.Cond.instanceMethod ({ cls := "NobodyFirst$Evening", name := "goesIn", desc := "(I)I" } : Jvm.MethodName)) ∈ xT := xT_3 108 rfl rfl
theorem tw3_109 : (Jvm.Cond.selects "NobodyFirst$Evening" ({ cls := "NobodyFirst$Evening", name := "goesIn", desc := "(I)I" } : Jvm.MethodName) ({ cls := "NobodyFirst$Evening", name := "goesIn", desc := "(I)I" } : Jvm.MethodName)) ∈ xT := xT_3 109 rfl rfl
theorem tw3_110 : (Jvm.Cond.code ({ cls := "NobodyFirst$Evening", name := "goesIn", desc := "(I)I" } : Jvm.MethodName) prog_2_method_18_code (2 : Nat) (Option.some Jvm.ClassFile.FieldType.int)) ∈ xT := xT_3 110 rfl rfl
theorem tw3_111 : (Jvm.Cond.methodLink "NobodyFirstLaw" (50 : Nat) ({ cls := "NobodyFirst", name := "when", desc := "(II)I" } : Jvm.MethodName)) ∈ xT := xT_3 111 rfl rfl
theorem tw3_112 : (Jvm.Cond.instanceMethod ({ cls := "NobodyFirst", name := "when", desc := "(II)I" } : Jvm.MethodName)) ∈ xT := xT_3 112 rfl rfl
theorem tw3_113 : (Jvm.Cond.selects "NobodyFirst" ({ cls := "NobodyFirst", name := "when", desc := "(II)I" } : Jvm.MethodName) ({ cls := "NobodyFirst", name := "when", desc := "(II)I" } : Jvm.MethodName)) ∈ xT := xT_3 113 rfl rfl
theorem tw3_114 : (Jvm.Cond.code ({ cls := "NobodyFirst", name := "when", desc := "(II)I" } : Jvm.MethodName) prog_1_method_10_code (3 : Nat) (Option.some Jvm.ClassFile.FieldType.int)) ∈ xT := xT_3 114 rfl rfl
theorem tw3_115 : (Jvm.Cond.methodLink "NobodyFirstLaw" (54 : Nat) ({ cls := "NobodyFirst", name := "wasted", desc := "(I)I" } : Jvm.MethodName)) ∈ xT := xT_3 115 rfl rfl
theorem tw3_116 : (Jvm.Cond.instanceMethod ({ cls := "NobodyFirst", name := "wasted", desc := "(I)I" } : Jvm.MethodName)) ∈ xT := xT_3 116 rfl rfl
theorem tw3_117 : (Jvm.Cond.selects "NobodyFirst" ({ cls := "NobodyFirst", name := "wasted", desc := "(I)I" } : Jvm.MethodName) ({ cls := "NobodyFirst", name := "wasted", desc := "(I)I" } : Jvm.MethodName)) ∈ xT := xT_3 117 rfl rfl
theorem tw3_118 : (Jvm.Cond.code ({ cls := "NobodyFirst", name := "wasted", desc := "(I)I" } : Jvm.MethodName) prog_1_method_11_code (2 : Nat) (Option.some Jvm.ClassFile.FieldType.int)) ∈ xT := xT_3 118 rfl rfl
theorem tw3_119 : (Jvm.Cond.methodLink "NobodyFirst" (126 : Nat) ({ cls := "NobodyFirst$Evening", name := "wastedByAll", desc := "()I" } : Jvm.MethodName)) ∈ xT := xT_3 119 rfl rfl
theorem tw3_120 : (Jvm.Cond.instanceMethod ({ cls := "NobodyFirst$Evening", name := "wastedByAll", desc := "()I" } : Jvm.MethodName)) ∈ xT := xT_3 120 rfl rfl
theorem tw3_121 : (Jvm.Cond.selects "NobodyFirst$Evening" ({ cls := "NobodyFirst$Evening", name := "wastedByAll", desc := "()I" } : Jvm.MethodName) ({ cls := "NobodyFirst$Evening", name := "wastedByAll", desc := "()I" } : Jvm.MethodName)) ∈ xT := xT_3 121 rfl rfl
theorem tw3_122 : (Jvm.Cond.code ({ cls := "NobodyFirst$Evening", name := "wastedByAll", desc := "()I" } : Jvm.MethodName) prog_2_method_22_code (3 : Nat) (Option.some Jvm.ClassFile.FieldType.int)) ∈ xT := xT_3 122 rfl rfl
theorem tw3_123 : (Jvm.Cond.methodLink "NobodyFirst$Evening" (161 : Nat) ({ cls := "NobodyFirst$Evening", name := "wastedByHost", desc := "()I" } : Jvm.MethodName)) ∈ xT := xT_3 123 rfl rfl
theorem tw3_124 : (Jvm.Cond.instanceMethod ({ cls := "NobodyFirst$Evening", name := "wastedByHost", desc := "()I" } : Jvm.MethodName)) ∈ xT := xT_3 124 rfl rfl
theorem tw3_125 : (Jvm.Cond.selects "NobodyFirst$Evening" ({ cls := "NobodyFirst$Evening", name := "wastedByHost", desc := "()I" } : Jvm.MethodName) ({ cls := "NobodyFirst$Evening", name := "wastedByHost", desc := "()I" } : Jvm.MethodName)) ∈ xT := xT_3 125 rfl rfl
theorem tw3_126 : (Jvm.Cond.code ({ cls := "NobodyFirst$Evening", name := "wastedByHost", desc := "()I" } : Jvm.MethodName) prog_2_method_21_code (1 : Nat) (Option.some Jvm.ClassFile.FieldType.int)) ∈ xT := xT_3 126 rfl rfl
theorem tw3_127 : (Jvm.Cond.methodLink "NobodyFirst$Evening" (154 : Nat) ({ cls := "NobodyFirst$Evening", name := "lastGoes", desc := "()I" } : Jvm.MethodName)) ∈ xT := xT_3 127 rfl rfl
theorem tw3_128 : (Jvm.Cond.instanceMethod ({ cls := "NobodyFirst$Evening", name := "lastGoes", desc := "()I" } : Jvm.MethodName)) ∈ xT := xT_3 128 rfl rfl
theorem tw3_129 : (Jvm.Cond.selects "NobodyFirst$Evening" ({ cls := "NobodyFirst$Evening", name := "lastGoes", desc := "()I" } : Jvm.MethodName) ({ cls := "NobodyFirst$Evening", name := "lastGoes", desc := "()I" } : Jvm.MethodName)) ∈ xT := xT_3 129 rfl rfl
theorem tw3_130 : (Jvm.Cond.code ({ cls := "NobodyFirst$Evening", name := "lastGoes", desc := "()I" } : Jvm.MethodName) prog_2_method_19_code (3 : Nat) (Option.some Jvm.ClassFile.FieldType.int)) ∈ xT := xT_3 130 rfl rfl
theorem tw3_131 : (Jvm.Cond.methodLink "NobodyFirst$Evening" (148 : Nat) ({ cls := "NobodyFirst$Evening", name := "goesIn", desc := "(I)I" } : Jvm.MethodName)) ∈ xT := xT_3 131 rfl rfl
theorem tw3_132 : (Jvm.Cond.methodLink "NobodyFirst$Evening" (151 : Nat) ({ cls := "java/lang/Math", name := "abs", desc := "(I)I" } : Jvm.MethodName)) ∈ xT := xT_3 132 rfl rfl
theorem tw3_133 : (Jvm.Cond.static ({ cls := "java/lang/Math", name := "abs", desc := "(I)I" } : Jvm.MethodName)) ∈ xT := xT_3 133 rfl rfl
theorem tw3_134 : Cond.code Lib.Math.abs.name Lib.Math.abs.code 1 (some .int) ∈ xT := xT_3 134 rfl rfl
theorem tw3_135 : (Jvm.Cond.methodLink "NobodyFirst$Evening" (164 : Nat) ({ cls := "NobodyFirst$Evening", name := "wastedBy", desc := "(I)I" } : Jvm.MethodName)) ∈ xT := xT_3 135 rfl rfl
theorem tw3_136 : (Jvm.Cond.instanceMethod ({ cls := "NobodyFirst$Evening", name := "wastedBy", desc := "(I)I" } : Jvm.MethodName)) ∈ xT := xT_3 136 rfl rfl
theorem tw3_137 : (Jvm.Cond.selects "NobodyFirst$Evening" ({ cls := "NobodyFirst$Evening", name := "wastedBy", desc := "(I)I" } : Jvm.MethodName) ({ cls := "NobodyFirst$Evening", name := "wastedBy", desc := "(I)I" } : Jvm.MethodName)) ∈ xT := xT_3 137 rfl rfl
theorem tw3_138 : (Jvm.Cond.code ({ cls := "NobodyFirst$Evening", name := "wastedBy", desc := "(I)I" } : Jvm.MethodName) prog_2_method_20_code (2 : Nat) (Option.some Jvm.ClassFile.FieldType.int)) ∈ xT := xT_3 138 rfl rfl
theorem tw3_139 : (Jvm.Cond.methodLink "NobodyFirst" (130 : Nat) ({ cls := "NobodyFirst$Evening", name := "wastedByHost", desc := "()I" } : Jvm.MethodName)) ∈ xT := xT_3 139 rfl rfl
theorem tw3_140 : (Jvm.Cond.methodLink "NobodyFirst" (133 : Nat) ({ cls := "NobodyFirst$Evening", name := "wastedBy", desc := "(I)I" } : Jvm.MethodName)) ∈ xT := xT_3 140 rfl rfl
theorem tw3_141 : (Jvm.Cond.methodLink "NobodyFirstLaw" (59 : Nat) ({ cls := "NobodyFirst", name := "frees", desc := "(II)I" } : Jvm.MethodName)) ∈ xT := xT_3 141 rfl rfl
theorem tw3_142 : (Jvm.Cond.instanceMethod ({ cls := "NobodyFirst", name := "frees", desc := "(II)I" } : Jvm.MethodName)) ∈ xT := xT_3 142 rfl rfl
theorem tw3_143 : (Jvm.Cond.selects "NobodyFirst" ({ cls := "NobodyFirst", name := "frees", desc := "(II)I" } : Jvm.MethodName) ({ cls := "NobodyFirst", name := "frees", desc := "(II)I" } : Jvm.MethodName)) ∈ xT := xT_3 143 rfl rfl
theorem tw3_144 : (Jvm.Cond.code ({ cls := "NobodyFirst", name := "frees", desc := "(II)I" } : Jvm.MethodName) prog_1_method_12_code (3 : Nat) (Option.some Jvm.ClassFile.FieldType.int)) ∈ xT := xT_3 144 rfl rfl
theorem tw3_145 : (Jvm.Cond.constant "NobodyFirst" (136 : Nat) (100000 : Int32)) ∈ xT := xT_3 145 rfl rfl
theorem tw3_146 : (Jvm.Cond.methodLink "NobodyFirst" (137 : Nat) ({ cls := "NobodyFirst", name := "allWithBus", desc := "(II)I" } : Jvm.MethodName)) ∈ xT := xT_3 146 rfl rfl
theorem tw3_148 : (Jvm.Cond.instanceMethod ({ cls := "NobodyFirst", name := "allWithBus", desc := "(II)I" } : Jvm.MethodName)) ∈ xT := xT_3 148 rfl rfl
theorem tw3_149 : (Jvm.Cond.code ({ cls := "NobodyFirst", name := "allWithBus", desc := "(II)I" } : Jvm.MethodName) prog_1_method_33_code (3 : Nat) (Option.some Jvm.ClassFile.FieldType.int)) ∈ xT := xT_3 149 rfl rfl
theorem tw3_150 : (Jvm.Cond.methodLink "NobodyFirst" (256 : Nat) ({ cls := "NobodyFirst$Evening", name := "makeBus", desc := "(II)V" } : Jvm.MethodName)) ∈ xT := xT_3 150 rfl rfl
theorem tw3_151 : (Jvm.Cond.instanceMethod ({ cls := "NobodyFirst$Evening", name := "makeBus", desc := "(II)V" } : Jvm.MethodName)) ∈ xT := xT_3 151 rfl rfl
theorem tw3_152 : (Jvm.Cond.selects "NobodyFirst$Evening" ({ cls := "NobodyFirst$Evening", name := "makeBus", desc := "(II)V" } : Jvm.MethodName) ({ cls := "NobodyFirst$Evening", name := "makeBus", desc := "(II)V" } : Jvm.MethodName)) ∈ xT := xT_3 152 rfl rfl
theorem tw3_153 : (Jvm.Cond.code ({ cls := "NobodyFirst$Evening", name := "makeBus", desc := "(II)V" } : Jvm.MethodName) prog_2_method_5_code (3 : Nat) (Option.none : Option Jvm.ClassFile.FieldType)) ∈ xT := xT_3 153 rfl rfl
theorem tw3_154 : (Jvm.Cond.methodLink "NobodyFirstLaw" (63 : Nat) ({ cls := "NobodyFirst", name := "madeUp", desc := "(II)I" } : Jvm.MethodName)) ∈ xT := xT_3 154 rfl rfl
theorem tw3_155 : (Jvm.Cond.instanceMethod ({ cls := "NobodyFirst", name := "madeUp", desc := "(II)I" } : Jvm.MethodName)) ∈ xT := xT_3 155 rfl rfl
theorem tw3_156 : (Jvm.Cond.selects "NobodyFirst" ({ cls := "NobodyFirst", name := "madeUp", desc := "(II)I" } : Jvm.MethodName) ({ cls := "NobodyFirst", name := "madeUp", desc := "(II)I" } : Jvm.MethodName)) ∈ xT := xT_3 156 rfl rfl
theorem tw3_157 : (Jvm.Cond.code ({ cls := "NobodyFirst", name := "madeUp", desc := "(II)I" } : Jvm.MethodName) prog_1_method_13_code (8 : Nat) (Option.some Jvm.ClassFile.FieldType.int)) ∈ xT := xT_3 157 rfl rfl
theorem tw3_158 : (Jvm.Cond.methodLink "NobodyFirstLaw" (67 : Nat) ({ cls := "NobodyFirst", name := "bell", desc := "(I)I" } : Jvm.MethodName)) ∈ xT := xT_3 158 rfl rfl
theorem tw3_159 : (Jvm.Cond.instanceMethod ({ cls := "NobodyFirst", name := "bell", desc := "(I)I" } : Jvm.MethodName)) ∈ xT := xT_3 159 rfl rfl
theorem tw3_160 : (Jvm.Cond.selects "NobodyFirst" ({ cls := "NobodyFirst", name := "bell", desc := "(I)I" } : Jvm.MethodName) ({ cls := "NobodyFirst", name := "bell", desc := "(I)I" } : Jvm.MethodName)) ∈ xT := xT_3 160 rfl rfl
theorem tw3_161 : (Jvm.Cond.code ({ cls := "NobodyFirst", name := "bell", desc := "(I)I" } : Jvm.MethodName) prog_1_method_14_code (2 : Nat) (Option.some Jvm.ClassFile.FieldType.int)) ∈ xT := xT_3 161 rfl rfl
theorem tw3_162 : (Jvm.Cond.methodLink "NobodyFirst" (140 : Nat) ({ cls := "NobodyFirst", name := "allWithBell", desc := "(I)I" } : Jvm.MethodName)) ∈ xT := xT_3 162 rfl rfl
theorem tw3_164 : (Jvm.Cond.instanceMethod ({ cls := "NobodyFirst", name := "allWithBell", desc := "(I)I" } : Jvm.MethodName)) ∈ xT := xT_3 164 rfl rfl
theorem tw3_165 : (Jvm.Cond.code ({ cls := "NobodyFirst", name := "allWithBell", desc := "(I)I" } : Jvm.MethodName) prog_1_method_34_code (2 : Nat) (Option.some Jvm.ClassFile.FieldType.int)) ∈ xT := xT_3 165 rfl rfl
theorem tw3_166 : (Jvm.Cond.methodLink "NobodyFirst" (260 : Nat) ({ cls := "NobodyFirst$Evening", name := "ringAt", desc := "(I)V" } : Jvm.MethodName)) ∈ xT := xT_3 166 rfl rfl
theorem tw3_167 : (Jvm.Cond.instanceMethod ({ cls := "NobodyFirst$Evening", name := "ringAt", desc := "(I)V" } : Jvm.MethodName)) ∈ xT := xT_3 167 rfl rfl
theorem tw3_168 : (Jvm.Cond.selects "NobodyFirst$Evening" ({ cls := "NobodyFirst$Evening", name := "ringAt", desc := "(I)V" } : Jvm.MethodName) ({ cls := "NobodyFirst$Evening", name := "ringAt", desc := "(I)V" } : Jvm.MethodName)) ∈ xT := xT_3 168 rfl rfl
theorem tw3_169 : (Jvm.Cond.code ({ cls := "NobodyFirst$Evening", name := "ringAt", desc := "(I)V" } : Jvm.MethodName) prog_2_method_6_code (2 : Nat) (Option.none : Option Jvm.ClassFile.FieldType)) ∈ xT := xT_3 169 rfl rfl
theorem tw3_170 : (Jvm.Cond.methodLink "NobodyFirstLaw" (71 : Nat) ({ cls := "NobodyFirst", name := "best", desc := "(I)I" } : Jvm.MethodName)) ∈ xT := xT_3 170 rfl rfl
theorem tw3_171 : (Jvm.Cond.instanceMethod ({ cls := "NobodyFirst", name := "best", desc := "(I)I" } : Jvm.MethodName)) ∈ xT := xT_3 171 rfl rfl
theorem tw3_172 : (Jvm.Cond.selects "NobodyFirst" ({ cls := "NobodyFirst", name := "best", desc := "(I)I" } : Jvm.MethodName) ({ cls := "NobodyFirst", name := "best", desc := "(I)I" } : Jvm.MethodName)) ∈ xT := xT_3 172 rfl rfl
theorem tw3_173 : (Jvm.Cond.code ({ cls := "NobodyFirst", name := "best", desc := "(I)I" } : Jvm.MethodName) prog_1_method_15_code (6 : Nat) (Option.some Jvm.ClassFile.FieldType.int)) ∈ xT := xT_3 173 rfl rfl
theorem tw3_174 : (Jvm.Cond.methodLink "NobodyFirstLaw" (75 : Nat) ({ cls := "NobodyFirst", name := "given", desc := "(I)I" } : Jvm.MethodName)) ∈ xT := xT_3 174 rfl rfl
theorem tw3_175 : (Jvm.Cond.instanceMethod ({ cls := "NobodyFirst", name := "given", desc := "(I)I" } : Jvm.MethodName)) ∈ xT := xT_3 175 rfl rfl
theorem tw3_176 : (Jvm.Cond.selects "NobodyFirst" ({ cls := "NobodyFirst", name := "given", desc := "(I)I" } : Jvm.MethodName) ({ cls := "NobodyFirst", name := "given", desc := "(I)I" } : Jvm.MethodName)) ∈ xT := xT_3 176 rfl rfl
theorem tw3_177 : (Jvm.Cond.code ({ cls := "NobodyFirst", name := "given", desc := "(I)I" } : Jvm.MethodName) prog_1_method_16_code (2 : Nat) (Option.some Jvm.ClassFile.FieldType.int)) ∈ xT := xT_3 177 rfl rfl
theorem tw3_178 : (Jvm.Cond.methodLink "NobodyFirst" (146 : Nat) ({ cls := "NobodyFirst$Giving", name := "reckon", desc := "(LNobodyFirst$Party;LNobodyFirst$Evening;)V" } : Jvm.MethodName)) ∈ xT := xT_3 178 rfl rfl
theorem tw3_179 : (Jvm.Cond.instanceMethod ({ cls := "NobodyFirst$Giving", name := "reckon", desc := "(LNobodyFirst$Party;LNobodyFirst$Evening;)V" } : Jvm.MethodName)) ∈ xT := xT_3 179 rfl rfl
theorem tw3_180 : (Jvm.Cond.selects "NobodyFirst$Giving" ({ cls := "NobodyFirst$Giving", name := "reckon", desc := "(LNobodyFirst$Party;LNobodyFirst$Evening;)V" } : Jvm.MethodName) ({ cls := "NobodyFirst$Giving", name := "reckon", desc := "(LNobodyFirst$Party;LNobodyFirst$Evening;)V" } : Jvm.MethodName)) ∈ xT := xT_3 180 rfl rfl
theorem tw3_181 : (Jvm.Cond.code ({ cls := "NobodyFirst$Giving", name := "reckon", desc := "(LNobodyFirst$Party;LNobodyFirst$Evening;)V" } : Jvm.MethodName) prog_4_method_3_code (6 : Nat) (Option.none : Option Jvm.ClassFile.FieldType)) ∈ xT := xT_3 181 rfl rfl
theorem tw3_182 : (Jvm.Cond.constant "NobodyFirst$Giving" (31 : Nat) (100000 : Int32)) ∈ xT := xT_3 182 rfl rfl
theorem tw3_183 : (Jvm.Cond.methodLink "NobodyFirst$Giving" (32 : Nat) ({ cls := "NobodyFirst$Evening", name := "prepare", desc := "(LNobodyFirst$Party;)V" } : Jvm.MethodName)) ∈ xT := xT_3 183 rfl rfl
theorem tw3_184 : (Jvm.Cond.methodLink "NobodyFirst$Giving" (38 : Nat) ({ cls := "NobodyFirst$Giving", name := "choose", desc := "(II)V" } : Jvm.MethodName)) ∈ xT := xT_3 184 rfl rfl
theorem tw3_186 : (Jvm.Cond.instanceMethod ({ cls := "NobodyFirst$Giving", name := "choose", desc := "(II)V" } : Jvm.MethodName)) ∈ xT := xT_3 186 rfl rfl
theorem tw3_187 : (Jvm.Cond.code ({ cls := "NobodyFirst$Giving", name := "choose", desc := "(II)V" } : Jvm.MethodName) prog_4_method_4_code (5 : Nat) (Option.none : Option Jvm.ClassFile.FieldType)) ∈ xT := xT_3 187 rfl rfl
theorem tw3_188 : (Jvm.Cond.methodLink "NobodyFirst$Giving" (42 : Nat) ({ cls := "NobodyFirst$Giving", name := "giveChosen", desc := "(LNobodyFirst$Party;LNobodyFirst$Evening;)I" } : Jvm.MethodName)) ∈ xT := xT_3 188 rfl rfl
theorem tw3_190 : (Jvm.Cond.instanceMethod ({ cls := "NobodyFirst$Giving", name := "giveChosen", desc := "(LNobodyFirst$Party;LNobodyFirst$Evening;)I" } : Jvm.MethodName)) ∈ xT := xT_3 190 rfl rfl
theorem tw3_191 : (Jvm.Cond.code ({ cls := "NobodyFirst$Giving", name := "giveChosen", desc := "(LNobodyFirst$Party;LNobodyFirst$Evening;)I" } : Jvm.MethodName) prog_4_method_5_code (5 : Nat) (Option.some Jvm.ClassFile.FieldType.int)) ∈ xT := xT_3 191 rfl rfl
theorem tw3_192 : (Jvm.Cond.methodLink "NobodyFirst$Giving" (59 : Nat) ({ cls := "NobodyFirst$Evening", name := "dropAddedSigns", desc := "()V" } : Jvm.MethodName)) ∈ xT := xT_3 192 rfl rfl
theorem tw3_193 : (Jvm.Cond.instanceMethod ({ cls := "NobodyFirst$Evening", name := "dropAddedSigns", desc := "()V" } : Jvm.MethodName)) ∈ xT := xT_3 193 rfl rfl
theorem tw3_194 : (Jvm.Cond.selects "NobodyFirst$Evening" ({ cls := "NobodyFirst$Evening", name := "dropAddedSigns", desc := "()V" } : Jvm.MethodName) ({ cls := "NobodyFirst$Evening", name := "dropAddedSigns", desc := "()V" } : Jvm.MethodName)) ∈ xT := xT_3 194 rfl rfl
theorem tw3_195 : (Jvm.Cond.code ({ cls := "NobodyFirst$Evening", name := "dropAddedSigns", desc := "()V" } : Jvm.MethodName) prog_2_method_4_code (1 : Nat) (Option.none : Option Jvm.ClassFile.FieldType)) ∈ xT := xT_3 195 rfl rfl
theorem tw3_196 : (Jvm.Cond.methodLink "NobodyFirst$Giving" (65 : Nat) ({ cls := "NobodyFirst$Evening", name := "addSign", desc := "(II)V" } : Jvm.MethodName)) ∈ xT := xT_3 196 rfl rfl
theorem tw3_197 : (Jvm.Cond.methodLink "NobodyFirst$Giving" (46 : Nat) ({ cls := "NobodyFirst$Evening", name := "pass", desc := "()V" } : Jvm.MethodName)) ∈ xT := xT_3 197 rfl rfl
theorem tw3_198 : (Jvm.Cond.methodLink "NobodyFirst$Giving" (49 : Nat) ({ cls := "NobodyFirst$Evening", name := "wastedByAll", desc := "()I" } : Jvm.MethodName)) ∈ xT := xT_3 198 rfl rfl
theorem tw3_199 : (Jvm.Cond.methodLink "NobodyFirst$Giving" (53 : Nat) ({ cls := "java/lang/System", name := "arraycopy", desc := "(Ljava/lang/Object;ILjava/lang/Object;II)V" } : Jvm.MethodName)) ∈ xT := xT_3 199 rfl rfl
theorem tw3_200 : (Jvm.Cond.static ({ cls := "java/lang/System", name := "arraycopy", desc := "(Ljava/lang/Object;ILjava/lang/Object;II)V" } : Jvm.MethodName)) ∈ xT := xT_3 200 rfl rfl
theorem tw3_201 : (Jvm.Cond.native ({ cls := "java/lang/System", name := "arraycopy", desc := "(Ljava/lang/Object;ILjava/lang/Object;II)V" } : Jvm.MethodName)) ∈ xT := xT_3 201 rfl rfl
theorem tw3_202 : (Jvm.Cond.methodLink "NobodyFirst" (153 : Nat) ({ cls := "NobodyFirst$Giving", name := "minuteOf", desc := "(I)I" } : Jvm.MethodName)) ∈ xT := xT_3 202 rfl rfl
theorem tw3_203 : (Jvm.Cond.instanceMethod ({ cls := "NobodyFirst$Giving", name := "minuteOf", desc := "(I)I" } : Jvm.MethodName)) ∈ xT := xT_3 203 rfl rfl
theorem tw3_204 : (Jvm.Cond.selects "NobodyFirst$Giving" ({ cls := "NobodyFirst$Giving", name := "minuteOf", desc := "(I)I" } : Jvm.MethodName) ({ cls := "NobodyFirst$Giving", name := "minuteOf", desc := "(I)I" } : Jvm.MethodName)) ∈ xT := xT_3 204 rfl rfl
theorem tw3_205 : (Jvm.Cond.code ({ cls := "NobodyFirst$Giving", name := "minuteOf", desc := "(I)I" } : Jvm.MethodName) prog_4_method_2_code (2 : Nat) (Option.some Jvm.ClassFile.FieldType.int)) ∈ xT := xT_3 205 rfl rfl
theorem tw3_206 : (Jvm.Cond.methodLink "NobodyFirstLaw" (79 : Nat) ({ cls := "NobodyFirst", name := "cost", desc := "(II)I" } : Jvm.MethodName)) ∈ xT := xT_3 206 rfl rfl
theorem tw3_207 : (Jvm.Cond.instanceMethod ({ cls := "NobodyFirst", name := "cost", desc := "(II)I" } : Jvm.MethodName)) ∈ xT := xT_3 207 rfl rfl
theorem tw3_208 : (Jvm.Cond.selects "NobodyFirst" ({ cls := "NobodyFirst", name := "cost", desc := "(II)I" } : Jvm.MethodName) ({ cls := "NobodyFirst", name := "cost", desc := "(II)I" } : Jvm.MethodName)) ∈ xT := xT_3 208 rfl rfl
theorem tw3_209 : (Jvm.Cond.code ({ cls := "NobodyFirst", name := "cost", desc := "(II)I" } : Jvm.MethodName) prog_1_method_17_code (3 : Nat) (Option.some Jvm.ClassFile.FieldType.int)) ∈ xT := xT_3 209 rfl rfl
theorem tw3_210 : (Jvm.Cond.constant "NobodyFirst" (159 : Nat) (99999 : Int32)) ∈ xT := xT_3 210 rfl rfl
theorem tw3_211 : (Jvm.Cond.methodLink "NobodyFirst" (160 : Nat) ({ cls := "NobodyFirst$Game", name := "chooseByFigures", desc := "(I)Z" } : Jvm.MethodName)) ∈ xT := xT_3 211 rfl rfl
theorem tw3_212 : (Jvm.Cond.instanceMethod ({ cls := "NobodyFirst$Game", name := "chooseByFigures", desc := "(I)Z" } : Jvm.MethodName)) ∈ xT := xT_3 212 rfl rfl
theorem tw3_213 : (Jvm.Cond.selects "NobodyFirst$Game" ({ cls := "NobodyFirst$Game", name := "chooseByFigures", desc := "(I)Z" } : Jvm.MethodName) ({ cls := "NobodyFirst$Game", name := "chooseByFigures", desc := "(I)Z" } : Jvm.MethodName)) ∈ xT := xT_3 213 rfl rfl
theorem tw3_214 : (Jvm.Cond.code ({ cls := "NobodyFirst$Game", name := "chooseByFigures", desc := "(I)Z" } : Jvm.MethodName) prog_3_method_3_code (4 : Nat) (Option.some Jvm.ClassFile.FieldType.boolean)) ∈ xT := xT_3 214 rfl rfl
theorem tw3_215 : (Jvm.Cond.methodLink "NobodyFirst" (163 : Nat) ({ cls := "NobodyFirst$Game", name := "costOf", desc := "(I)I" } : Jvm.MethodName)) ∈ xT := xT_3 215 rfl rfl
theorem tw3_216 : (Jvm.Cond.instanceMethod ({ cls := "NobodyFirst$Game", name := "costOf", desc := "(I)I" } : Jvm.MethodName)) ∈ xT := xT_3 216 rfl rfl
theorem tw3_217 : (Jvm.Cond.selects "NobodyFirst$Game" ({ cls := "NobodyFirst$Game", name := "costOf", desc := "(I)I" } : Jvm.MethodName) ({ cls := "NobodyFirst$Game", name := "costOf", desc := "(I)I" } : Jvm.MethodName)) ∈ xT := xT_3 217 rfl rfl
theorem tw3_218 : (Jvm.Cond.code ({ cls := "NobodyFirst$Game", name := "costOf", desc := "(I)I" } : Jvm.MethodName) prog_3_method_4_code (3 : Nat) (Option.some Jvm.ClassFile.FieldType.int)) ∈ xT := xT_3 218 rfl rfl
theorem tw3_219 : (Jvm.Cond.methodLink "NobodyFirst$Game" (57 : Nat) ({ cls := "java/lang/Math", name := "abs", desc := "(I)I" } : Jvm.MethodName)) ∈ xT := xT_3 219 rfl rfl
theorem tw3_220 : (Jvm.Cond.methodLink "NobodyFirst$Game" (61 : Nat) ({ cls := "NobodyFirst$Game", name := "isFirstAlone", desc := "(I)Z" } : Jvm.MethodName)) ∈ xT := xT_3 220 rfl rfl
theorem tw3_222 : (Jvm.Cond.instanceMethod ({ cls := "NobodyFirst$Game", name := "isFirstAlone", desc := "(I)Z" } : Jvm.MethodName)) ∈ xT := xT_3 222 rfl rfl
theorem tw3_223 : (Jvm.Cond.code ({ cls := "NobodyFirst$Game", name := "isFirstAlone", desc := "(I)Z" } : Jvm.MethodName) prog_3_method_5_code (3 : Nat) (Option.some Jvm.ClassFile.FieldType.boolean)) ∈ xT := xT_3 223 rfl rfl
theorem tw3_224 : (Jvm.Cond.methodLink "NobodyFirstLaw" (83 : Nat) ({ cls := "NobodyFirst", name := "rests", desc := "(I)I" } : Jvm.MethodName)) ∈ xT := xT_3 224 rfl rfl
theorem tw3_225 : (Jvm.Cond.instanceMethod ({ cls := "NobodyFirst", name := "rests", desc := "(I)I" } : Jvm.MethodName)) ∈ xT := xT_3 225 rfl rfl
theorem tw3_226 : (Jvm.Cond.selects "NobodyFirst" ({ cls := "NobodyFirst", name := "rests", desc := "(I)I" } : Jvm.MethodName) ({ cls := "NobodyFirst", name := "rests", desc := "(I)I" } : Jvm.MethodName)) ∈ xT := xT_3 226 rfl rfl
theorem tw3_227 : (Jvm.Cond.code ({ cls := "NobodyFirst", name := "rests", desc := "(I)I" } : Jvm.MethodName) prog_1_method_18_code (2 : Nat) (Option.some Jvm.ClassFile.FieldType.int)) ∈ xT := xT_3 227 rfl rfl
theorem tw3_228 : (Jvm.Cond.methodLink "NobodyFirst" (166 : Nat) ({ cls := "NobodyFirst$Game", name := "reckon", desc := "()V" } : Jvm.MethodName)) ∈ xT := xT_3 228 rfl rfl
theorem tw3_229 : (Jvm.Cond.instanceMethod ({ cls := "NobodyFirst$Game", name := "reckon", desc := "()V" } : Jvm.MethodName)) ∈ xT := xT_3 229 rfl rfl
theorem tw3_230 : (Jvm.Cond.selects "NobodyFirst$Game" ({ cls := "NobodyFirst$Game", name := "reckon", desc := "()V" } : Jvm.MethodName) ({ cls := "NobodyFirst$Game", name := "reckon", desc := "()V" } : Jvm.MethodName)) ∈ xT := xT_3 230 rfl rfl
theorem tw3_231 : (Jvm.Cond.code ({ cls := "NobodyFirst$Game", name := "reckon", desc := "()V" } : Jvm.MethodName) prog_3_method_6_code (3 : Nat) (Option.none : Option Jvm.ClassFile.FieldType)) ∈ xT := xT_3 231 rfl rfl
theorem tw3_232 : (Jvm.Cond.constant "NobodyFirst$Game" (65 : Nat) (100000 : Int32)) ∈ xT := xT_3 232 rfl rfl
theorem tw3_233 : (Jvm.Cond.methodLink "NobodyFirst$Game" (66 : Nat) ({ cls := "NobodyFirst$Game", name := "choose", desc := "(I)V" } : Jvm.MethodName)) ∈ xT := xT_3 233 rfl rfl
theorem tw3_235 : (Jvm.Cond.instanceMethod ({ cls := "NobodyFirst$Game", name := "choose", desc := "(I)V" } : Jvm.MethodName)) ∈ xT := xT_3 235 rfl rfl
theorem tw3_236 : (Jvm.Cond.code ({ cls := "NobodyFirst$Game", name := "choose", desc := "(I)V" } : Jvm.MethodName) prog_3_method_7_code (4 : Nat) (Option.none : Option Jvm.ClassFile.FieldType)) ∈ xT := xT_3 236 rfl rfl
theorem tw3_237 : (Jvm.Cond.methodLink "NobodyFirst$Game" (70 : Nat) ({ cls := "NobodyFirst$Game", name := "weighChoice", desc := "()V" } : Jvm.MethodName)) ∈ xT := xT_3 237 rfl rfl
theorem tw3_239 : (Jvm.Cond.instanceMethod ({ cls := "NobodyFirst$Game", name := "weighChoice", desc := "()V" } : Jvm.MethodName)) ∈ xT := xT_3 239 rfl rfl
theorem tw4_0 : (Jvm.Cond.code ({ cls := "NobodyFirst$Game", name := "weighChoice", desc := "()V" } : Jvm.MethodName) prog_3_method_8_code (3 : Nat) (Option.none : Option Jvm.ClassFile.FieldType)) ∈ xT := xT_4 0 rfl rfl
theorem tw4_1 : (Jvm.Cond.methodLink "NobodyFirst$Game" (73 : Nat) ({ cls := "NobodyFirst$Game", name := "costOf", desc := "(I)I" } : Jvm.MethodName)) ∈ xT := xT_4 1 rfl rfl
theorem tw4_2 : (Jvm.Cond.methodLink "NobodyFirst$Game" (76 : Nat) ({ cls := "java/lang/Math", name := "min", desc := "(II)I" } : Jvm.MethodName)) ∈ xT := xT_4 2 rfl rfl
theorem tw4_3 : (Jvm.Cond.methodLink "NobodyFirst$Game" (79 : Nat) ({ cls := "NobodyFirst$Game", name := "isRest", desc := "()Z" } : Jvm.MethodName)) ∈ xT := xT_4 3 rfl rfl
theorem tw4_5 : (Jvm.Cond.instanceMethod ({ cls := "NobodyFirst$Game", name := "isRest", desc := "()Z" } : Jvm.MethodName)) ∈ xT := xT_4 5 rfl rfl
theorem tw4_6 : (Jvm.Cond.code ({ cls := "NobodyFirst$Game", name := "isRest", desc := "()Z" } : Jvm.MethodName) prog_3_method_9_code (2 : Nat) (Option.some Jvm.ClassFile.FieldType.boolean)) ∈ xT := xT_4 6 rfl rfl
theorem tw4_7 : (Jvm.Cond.methodLink "NobodyFirst$Game" (89 : Nat) ({ cls := "NobodyFirst$Game", name := "wouldRatherMove", desc := "(I)Z" } : Jvm.MethodName)) ∈ xT := xT_4 7 rfl rfl
theorem tw4_9 : (Jvm.Cond.instanceMethod ({ cls := "NobodyFirst$Game", name := "wouldRatherMove", desc := "(I)Z" } : Jvm.MethodName)) ∈ xT := xT_4 9 rfl rfl
theorem tw4_10 : (Jvm.Cond.code ({ cls := "NobodyFirst$Game", name := "wouldRatherMove", desc := "(I)Z" } : Jvm.MethodName) prog_3_method_10_code (6 : Nat) (Option.some Jvm.ClassFile.FieldType.boolean)) ∈ xT := xT_4 10 rfl rfl
theorem tw4_11 : (Jvm.Cond.methodLink "NobodyFirst$Game" (83 : Nat) ({ cls := "java/lang/System", name := "arraycopy", desc := "(Ljava/lang/Object;ILjava/lang/Object;II)V" } : Jvm.MethodName)) ∈ xT := xT_4 11 rfl rfl
theorem tw4_12 : (Jvm.Cond.methodLink "NobodyFirstLaw" (87 : Nat) ({ cls := "NobodyFirst", name := "price", desc := "()I" } : Jvm.MethodName)) ∈ xT := xT_4 12 rfl rfl
theorem tw4_13 : (Jvm.Cond.instanceMethod ({ cls := "NobodyFirst", name := "price", desc := "()I" } : Jvm.MethodName)) ∈ xT := xT_4 13 rfl rfl
theorem tw4_14 : (Jvm.Cond.selects "NobodyFirst" ({ cls := "NobodyFirst", name := "price", desc := "()I" } : Jvm.MethodName) ({ cls := "NobodyFirst", name := "price", desc := "()I" } : Jvm.MethodName)) ∈ xT := xT_4 14 rfl rfl
theorem tw4_15 : (Jvm.Cond.code ({ cls := "NobodyFirst", name := "price", desc := "()I" } : Jvm.MethodName) prog_1_method_19_code (1 : Nat) (Option.some Jvm.ClassFile.FieldType.int)) ∈ xT := xT_4 15 rfl rfl
theorem tw4_16 : (Jvm.Cond.methodLink "NobodyFirstLaw" (91 : Nat) ({ cls := "NobodyFirst", name := "meant", desc := "(II)I" } : Jvm.MethodName)) ∈ xT := xT_4 16 rfl rfl
theorem tw4_17 : (Jvm.Cond.instanceMethod ({ cls := "NobodyFirst", name := "meant", desc := "(II)I" } : Jvm.MethodName)) ∈ xT := xT_4 17 rfl rfl
theorem tw4_18 : (Jvm.Cond.selects "NobodyFirst" ({ cls := "NobodyFirst", name := "meant", desc := "(II)I" } : Jvm.MethodName) ({ cls := "NobodyFirst", name := "meant", desc := "(II)I" } : Jvm.MethodName)) ∈ xT := xT_4 18 rfl rfl
theorem tw4_19 : (Jvm.Cond.code ({ cls := "NobodyFirst", name := "meant", desc := "(II)I" } : Jvm.MethodName) prog_1_method_20_code (3 : Nat) (Option.some Jvm.ClassFile.FieldType.int)) ∈ xT := xT_4 19 rfl rfl
theorem tw4_20 : (Jvm.Cond.methodLink "NobodyFirst" (186 : Nat) ({ cls := "NobodyFirst", name := "inLowestTerms", desc := "(III)I" } : Jvm.MethodName)) ∈ xT := xT_4 20 rfl rfl
theorem tw4_21 : (Jvm.Cond.static ({ cls := "NobodyFirst", name := "inLowestTerms", desc := "(III)I" } : Jvm.MethodName)) ∈ xT := xT_4 21 rfl rfl
theorem tw4_22 : (Jvm.Cond.code ({ cls := "NobodyFirst", name := "inLowestTerms", desc := "(III)I" } : Jvm.MethodName) prog_1_method_36_code (4 : Nat) (Option.some Jvm.ClassFile.FieldType.int)) ∈ xT := xT_4 22 rfl rfl
theorem tw4_23 : (Jvm.Cond.methodLink "NobodyFirst" (263 : Nat) ({ cls := "NobodyFirst", name := "greatestDivisor", desc := "(II)I" } : Jvm.MethodName)) ∈ xT := xT_4 23 rfl rfl
theorem tw4_24 : (Jvm.Cond.static ({ cls := "NobodyFirst", name := "greatestDivisor", desc := "(II)I" } : Jvm.MethodName)) ∈ xT := xT_4 24 rfl rfl
theorem tw4_25 : (Jvm.Cond.code ({ cls := "NobodyFirst", name := "greatestDivisor", desc := "(II)I" } : Jvm.MethodName) prog_1_method_37_code (6 : Nat) (Option.some Jvm.ClassFile.FieldType.int)) ∈ xT := xT_4 25 rfl rfl
theorem tw4_26 : (Jvm.Cond.methodLink "NobodyFirst" (266 : Nat) ({ cls := "java/lang/Math", name := "max", desc := "(II)I" } : Jvm.MethodName)) ∈ xT := xT_4 26 rfl rfl
theorem tw4_27 : (Jvm.Cond.methodLink "NobodyFirstLaw" (95 : Nat) ({ cls := "NobodyFirst", name := "since", desc := "(III)I" } : Jvm.MethodName)) ∈ xT := xT_4 27 rfl rfl
theorem tw4_28 : (Jvm.Cond.instanceMethod ({ cls := "NobodyFirst", name := "since", desc := "(III)I" } : Jvm.MethodName)) ∈ xT := xT_4 28 rfl rfl
theorem tw4_29 : (Jvm.Cond.selects "NobodyFirst" ({ cls := "NobodyFirst", name := "since", desc := "(III)I" } : Jvm.MethodName) ({ cls := "NobodyFirst", name := "since", desc := "(III)I" } : Jvm.MethodName)) ∈ xT := xT_4 29 rfl rfl
theorem tw4_30 : (Jvm.Cond.code ({ cls := "NobodyFirst", name := "since", desc := "(III)I" } : Jvm.MethodName) prog_1_method_21_code (6 : Nat) (Option.some Jvm.ClassFile.FieldType.int)) ∈ xT := xT_4 30 rfl rfl
theorem tw4_31 : (Jvm.Cond.methodLink "NobodyFirst" (190 : Nat) ({ cls := "NobodyFirst$Party", name := "weightOfLooks", desc := "(II)I" } : Jvm.MethodName)) ∈ xT := xT_4 31 rfl rfl
theorem tw4_32 : (Jvm.Cond.instanceMethod ({ cls := "NobodyFirst$Party", name := "weightOfLooks", desc := "(II)I" } : Jvm.MethodName)) ∈ xT := xT_4 32 rfl rfl
theorem tw4_33 : (Jvm.Cond.selects "NobodyFirst$Party" ({ cls := "NobodyFirst$Party", name := "weightOfLooks", desc := "(II)I" } : Jvm.MethodName) ({ cls := "NobodyFirst$Party", name := "weightOfLooks", desc := "(II)I" } : Jvm.MethodName)) ∈ xT := xT_4 33 rfl rfl
theorem tw4_34 : (Jvm.Cond.code ({ cls := "NobodyFirst$Party", name := "weightOfLooks", desc := "(II)I" } : Jvm.MethodName) prog_6_method_9_code (5 : Nat) (Option.some Jvm.ClassFile.FieldType.int)) ∈ xT := xT_4 34 rfl rfl
theorem tw4_35 : (Jvm.Cond.methodLink "NobodyFirst$Party" (84 : Nat) ({ cls := "NobodyFirst$Party", name := "weightOfLook", desc := "(ZZ)I" } : Jvm.MethodName)) ∈ xT := xT_4 35 rfl rfl
theorem tw4_36 : (Jvm.Cond.static ({ cls := "NobodyFirst$Party", name := "weightOfLook", desc := "(ZZ)I" } : Jvm.MethodName)) ∈ xT := xT_4 36 rfl rfl
theorem tw4_37 : (Jvm.Cond.code ({ cls := "NobodyFirst$Party", name := "weightOfLook", desc := "(ZZ)I" } : Jvm.MethodName) prog_6_method_10_code (2 : Nat) (Option.some Jvm.ClassFile.FieldType.int)) ∈ xT := xT_4 37 rfl rfl
theorem tw4_38 : (Jvm.Cond.methodLink "NobodyFirstLaw" (100 : Nat) ({ cls := "NobodyFirst", name := "leave", desc := "(III)I" } : Jvm.MethodName)) ∈ xT := xT_4 38 rfl rfl
theorem tw4_39 : (Jvm.Cond.instanceMethod ({ cls := "NobodyFirst", name := "leave", desc := "(III)I" } : Jvm.MethodName)) ∈ xT := xT_4 39 rfl rfl
theorem tw4_40 : (Jvm.Cond.selects "NobodyFirst" ({ cls := "NobodyFirst", name := "leave", desc := "(III)I" } : Jvm.MethodName) ({ cls := "NobodyFirst", name := "leave", desc := "(III)I" } : Jvm.MethodName)) ∈ xT := xT_4 40 rfl rfl
theorem tw4_41 : (Jvm.Cond.code ({ cls := "NobodyFirst", name := "leave", desc := "(III)I" } : Jvm.MethodName) prog_1_method_22_code (6 : Nat) (Option.some Jvm.ClassFile.FieldType.int)) ∈ xT := xT_4 41 rfl rfl
theorem tw4_42 : (Jvm.Cond.methodLink "NobodyFirst" (193 : Nat) ({ cls := "NobodyFirst", name := "leftAlone", desc := "(II)I" } : Jvm.MethodName)) ∈ xT := xT_4 42 rfl rfl
theorem tw4_43 : (Jvm.Cond.static ({ cls := "NobodyFirst", name := "leftAlone", desc := "(II)I" } : Jvm.MethodName)) ∈ xT := xT_4 43 rfl rfl
theorem tw4_44 : (Jvm.Cond.code ({ cls := "NobodyFirst", name := "leftAlone", desc := "(II)I" } : Jvm.MethodName) prog_1_method_35_code (3 : Nat) (Option.some Jvm.ClassFile.FieldType.int)) ∈ xT := xT_4 44 rfl rfl
theorem tw4_45 : (Jvm.Cond.methodLink "NobodyFirst" (196 : Nat) ({ cls := "java/lang/Math", name := "floorMod", desc := "(II)I" } : Jvm.MethodName)) ∈ xT := xT_4 45 rfl rfl
theorem tw4_46 : (Jvm.Cond.static ({ cls := "java/lang/Math", name := "floorMod", desc := "(II)I" } : Jvm.MethodName)) ∈ xT := xT_4 46 rfl rfl
theorem tw4_47 : (Jvm.Cond.code ({ cls := "java/lang/Math", name := "floorMod", desc := "(II)I" } : Jvm.MethodName) prog_12_method_50_code (3 : Nat) (Option.some Jvm.ClassFile.FieldType.int)) ∈ xT := xT_4 47 rfl rfl
theorem tw4_48 : (Jvm.Cond.methodLink "NobodyFirstLaw" (104 : Nat) ({ cls := "NobodyFirst", name := "drawn", desc := "(II)I" } : Jvm.MethodName)) ∈ xT := xT_4 48 rfl rfl
theorem tw4_49 : (Jvm.Cond.instanceMethod ({ cls := "NobodyFirst", name := "drawn", desc := "(II)I" } : Jvm.MethodName)) ∈ xT := xT_4 49 rfl rfl
theorem tw4_50 : (Jvm.Cond.selects "NobodyFirst" ({ cls := "NobodyFirst", name := "drawn", desc := "(II)I" } : Jvm.MethodName) ({ cls := "NobodyFirst", name := "drawn", desc := "(II)I" } : Jvm.MethodName)) ∈ xT := xT_4 50 rfl rfl
theorem tw4_51 : (Jvm.Cond.code ({ cls := "NobodyFirst", name := "drawn", desc := "(II)I" } : Jvm.MethodName) prog_1_method_23_code (3 : Nat) (Option.some Jvm.ClassFile.FieldType.int)) ∈ xT := xT_4 51 rfl rfl
theorem tw4_52 : (Jvm.Cond.methodLink "NobodyFirst" (204 : Nat) ({ cls := "NobodyFirst$Evening", name := "drawWhoHears", desc := "(I)V" } : Jvm.MethodName)) ∈ xT := xT_4 52 rfl rfl
theorem tw4_53 : (Jvm.Cond.instanceMethod ({ cls := "NobodyFirst$Evening", name := "drawWhoHears", desc := "(I)V" } : Jvm.MethodName)) ∈ xT := xT_4 53 rfl rfl
theorem tw4_54 : (Jvm.Cond.selects "NobodyFirst$Evening" ({ cls := "NobodyFirst$Evening", name := "drawWhoHears", desc := "(I)V" } : Jvm.MethodName) ({ cls := "NobodyFirst$Evening", name := "drawWhoHears", desc := "(I)V" } : Jvm.MethodName)) ∈ xT := xT_4 54 rfl rfl
theorem tw4_55 : (Jvm.Cond.code ({ cls := "NobodyFirst$Evening", name := "drawWhoHears", desc := "(I)V" } : Jvm.MethodName) prog_2_method_7_code (6 : Nat) (Option.none : Option Jvm.ClassFile.FieldType)) ∈ xT := xT_4 55 rfl rfl
theorem tw4_56 : (Jvm.Cond.constantLong "NobodyFirst$Evening" (82 : Nat) (7919 : Int64)) ∈ xT := xT_4 56 rfl rfl
theorem tw4_57 : (Jvm.Cond.constantLong "NobodyFirst$Evening" (84 : Nat) (65521 : Int64)) ∈ xT := xT_4 57 rfl rfl
theorem tw4_58 : (Jvm.Cond.constantLong "NobodyFirst$Evening" (86 : Nat) (10 : Int64)) ∈ xT := xT_4 58 rfl rfl
theorem tw4_59 : (Jvm.Cond.constantLong "NobodyFirst$Evening" (88 : Nat) (6 : Int64)) ∈ xT := xT_4 59 rfl rfl
theorem tw4_60 : (Jvm.Cond.methodLink "NobodyFirst" (210 : Nat) ({ cls := "NobodyFirst$Evening", name := "lastGoes", desc := "()I" } : Jvm.MethodName)) ∈ xT := xT_4 60 rfl rfl
theorem tw4_61 : (Jvm.Cond.methodLink "NobodyFirstLaw" (108 : Nat) ({ cls := "NobodyFirst", name := "sign", desc := "(II)I" } : Jvm.MethodName)) ∈ xT := xT_4 61 rfl rfl
theorem tw4_62 : (Jvm.Cond.instanceMethod ({ cls := "NobodyFirst", name := "sign", desc := "(II)I" } : Jvm.MethodName)) ∈ xT := xT_4 62 rfl rfl
theorem tw4_63 : (Jvm.Cond.selects "NobodyFirst" ({ cls := "NobodyFirst", name := "sign", desc := "(II)I" } : Jvm.MethodName) ({ cls := "NobodyFirst", name := "sign", desc := "(II)I" } : Jvm.MethodName)) ∈ xT := xT_4 63 rfl rfl
theorem tw4_64 : (Jvm.Cond.code ({ cls := "NobodyFirst", name := "sign", desc := "(II)I" } : Jvm.MethodName) prog_1_method_24_code (3 : Nat) (Option.some Jvm.ClassFile.FieldType.int)) ∈ xT := xT_4 64 rfl rfl
theorem tw4_65 : (Jvm.Cond.methodLink "NobodyFirst" (217 : Nat) ({ cls := "NobodyFirst$Told", name := "addSign", desc := "(II)Z" } : Jvm.MethodName)) ∈ xT := xT_4 65 rfl rfl
theorem tw4_66 : (Jvm.Cond.methodLink "NobodyFirst" (223 : Nat) ({ cls := "NobodyFirst$History", name := "note", desc := "(Z)V" } : Jvm.MethodName)) ∈ xT := xT_4 66 rfl rfl
theorem tw4_67 : (Jvm.Cond.instanceMethod ({ cls := "NobodyFirst$History", name := "note", desc := "(Z)V" } : Jvm.MethodName)) ∈ xT := xT_4 67 rfl rfl
theorem tw4_68 : (Jvm.Cond.selects "NobodyFirst$History" ({ cls := "NobodyFirst$History", name := "note", desc := "(Z)V" } : Jvm.MethodName) ({ cls := "NobodyFirst$History", name := "note", desc := "(Z)V" } : Jvm.MethodName)) ∈ xT := xT_4 68 rfl rfl
theorem tw4_69 : (Jvm.Cond.code ({ cls := "NobodyFirst$History", name := "note", desc := "(Z)V" } : Jvm.MethodName) prog_5_method_3_code (3 : Nat) (Option.none : Option Jvm.ClassFile.FieldType)) ∈ xT := xT_4 69 rfl rfl
theorem tw4_70 : (Jvm.Cond.methodLink "NobodyFirstLaw" (112 : Nat) ({ cls := "NobodyFirst", name := "say", desc := "(I)I" } : Jvm.MethodName)) ∈ xT := xT_4 70 rfl rfl
theorem tw4_71 : (Jvm.Cond.instanceMethod ({ cls := "NobodyFirst", name := "say", desc := "(I)I" } : Jvm.MethodName)) ∈ xT := xT_4 71 rfl rfl
theorem tw4_72 : (Jvm.Cond.selects "NobodyFirst" ({ cls := "NobodyFirst", name := "say", desc := "(I)I" } : Jvm.MethodName) ({ cls := "NobodyFirst", name := "say", desc := "(I)I" } : Jvm.MethodName)) ∈ xT := xT_4 72 rfl rfl
theorem tw4_73 : (Jvm.Cond.code ({ cls := "NobodyFirst", name := "say", desc := "(I)I" } : Jvm.MethodName) prog_1_method_25_code (2 : Nat) (Option.some Jvm.ClassFile.FieldType.int)) ∈ xT := xT_4 73 rfl rfl
theorem tw4_74 : (Jvm.Cond.methodLink "NobodyFirst" (230 : Nat) ({ cls := "NobodyFirst$Told", name := "addWord", desc := "(I)Z" } : Jvm.MethodName)) ∈ xT := xT_4 74 rfl rfl
theorem tw4_75 : (Jvm.Cond.methodLink "NobodyFirstLaw" (116 : Nat) ({ cls := "NobodyFirst", name := "takeBack", desc := "()I" } : Jvm.MethodName)) ∈ xT := xT_4 75 rfl rfl
theorem tw4_76 : (Jvm.Cond.instanceMethod ({ cls := "NobodyFirst", name := "takeBack", desc := "()I" } : Jvm.MethodName)) ∈ xT := xT_4 76 rfl rfl
theorem tw4_77 : (Jvm.Cond.selects "NobodyFirst" ({ cls := "NobodyFirst", name := "takeBack", desc := "()I" } : Jvm.MethodName) ({ cls := "NobodyFirst", name := "takeBack", desc := "()I" } : Jvm.MethodName)) ∈ xT := xT_4 77 rfl rfl
theorem tw4_78 : (Jvm.Cond.code ({ cls := "NobodyFirst", name := "takeBack", desc := "()I" } : Jvm.MethodName) prog_1_method_26_code (1 : Nat) (Option.some Jvm.ClassFile.FieldType.int)) ∈ xT := xT_4 78 rfl rfl
theorem tw4_79 : (Jvm.Cond.methodLink "NobodyFirst" (239 : Nat) ({ cls := "NobodyFirst$History", name := "undo", desc := "(LNobodyFirst$Told;)V" } : Jvm.MethodName)) ∈ xT := xT_4 79 rfl rfl
theorem tw4_80 : (Jvm.Cond.instanceMethod ({ cls := "NobodyFirst$History", name := "undo", desc := "(LNobodyFirst$Told;)V" } : Jvm.MethodName)) ∈ xT := xT_4 80 rfl rfl
theorem tw4_81 : (Jvm.Cond.selects "NobodyFirst$History" ({ cls := "NobodyFirst$History", name := "undo", desc := "(LNobodyFirst$Told;)V" } : Jvm.MethodName) ({ cls := "NobodyFirst$History", name := "undo", desc := "(LNobodyFirst$Told;)V" } : Jvm.MethodName)) ∈ xT := xT_4 81 rfl rfl
theorem tw4_82 : (Jvm.Cond.code ({ cls := "NobodyFirst$History", name := "undo", desc := "(LNobodyFirst$Told;)V" } : Jvm.MethodName) prog_5_method_4_code (2 : Nat) (Option.none : Option Jvm.ClassFile.FieldType)) ∈ xT := xT_4 82 rfl rfl
theorem tw4_83 : (Jvm.Cond.methodLink "NobodyFirst$History" (35 : Nat) ({ cls := "java/lang/Math", name := "max", desc := "(II)I" } : Jvm.MethodName)) ∈ xT := xT_4 83 rfl rfl
theorem tw4_84 : (Jvm.Cond.methodLink "NobodyFirstLaw" (120 : Nat) ({ cls := "NobodyFirst", name := "keep", desc := "()I" } : Jvm.MethodName)) ∈ xT := xT_4 84 rfl rfl
theorem tw4_85 : (Jvm.Cond.instanceMethod ({ cls := "NobodyFirst", name := "keep", desc := "()I" } : Jvm.MethodName)) ∈ xT := xT_4 85 rfl rfl
theorem tw4_86 : (Jvm.Cond.selects "NobodyFirst" ({ cls := "NobodyFirst", name := "keep", desc := "()I" } : Jvm.MethodName) ({ cls := "NobodyFirst", name := "keep", desc := "()I" } : Jvm.MethodName)) ∈ xT := xT_4 86 rfl rfl
theorem tw4_87 : (Jvm.Cond.code ({ cls := "NobodyFirst", name := "keep", desc := "()I" } : Jvm.MethodName) prog_1_method_27_code (1 : Nat) (Option.some Jvm.ClassFile.FieldType.int)) ∈ xT := xT_4 87 rfl rfl
theorem tw4_88 : (Jvm.Cond.methodLink "NobodyFirst" (243 : Nat) ({ cls := "NobodyFirst$History", name := "store", desc := "(LNobodyFirst$Told;)Z" } : Jvm.MethodName)) ∈ xT := xT_4 88 rfl rfl
theorem tw4_89 : (Jvm.Cond.instanceMethod ({ cls := "NobodyFirst$History", name := "store", desc := "(LNobodyFirst$Told;)Z" } : Jvm.MethodName)) ∈ xT := xT_4 89 rfl rfl
theorem tw4_90 : (Jvm.Cond.selects "NobodyFirst$History" ({ cls := "NobodyFirst$History", name := "store", desc := "(LNobodyFirst$Told;)Z" } : Jvm.MethodName) ({ cls := "NobodyFirst$History", name := "store", desc := "(LNobodyFirst$Told;)Z" } : Jvm.MethodName)) ∈ xT := xT_4 90 rfl rfl
theorem tw4_91 : (Jvm.Cond.code ({ cls := "NobodyFirst$History", name := "store", desc := "(LNobodyFirst$Told;)Z" } : Jvm.MethodName) prog_5_method_5_code (2 : Nat) (Option.some Jvm.ClassFile.FieldType.boolean)) ∈ xT := xT_4 91 rfl rfl
theorem tw4_92 : (Jvm.Cond.methodLink "NobodyFirst$History" (44 : Nat) ({ cls := "NobodyFirst$History", name := "placeOf", desc := "(I)LNobodyFirst$Told;" } : Jvm.MethodName)) ∈ xT := xT_4 92 rfl rfl
theorem tw4_94 : (Jvm.Cond.instanceMethod ({ cls := "NobodyFirst$History", name := "placeOf", desc := "(I)LNobodyFirst$Told;" } : Jvm.MethodName)) ∈ xT := xT_4 94 rfl rfl
theorem tw4_95 : (Jvm.Cond.code ({ cls := "NobodyFirst$History", name := "placeOf", desc := "(I)LNobodyFirst$Told;" } : Jvm.MethodName) prog_5_method_7_code (2 : Nat) (Option.some (Jvm.ClassFile.FieldType.object "NobodyFirst$Told"))) ∈ xT := xT_4 95 rfl rfl
theorem tw4_96 : (Jvm.Cond.methodLink "NobodyFirst$History" (48 : Nat) ({ cls := "NobodyFirst$Told", name := "copyFrom", desc := "(LNobodyFirst$Told;)V" } : Jvm.MethodName)) ∈ xT := xT_4 96 rfl rfl
theorem tw4_97 : (Jvm.Cond.instanceMethod ({ cls := "NobodyFirst$Told", name := "copyFrom", desc := "(LNobodyFirst$Told;)V" } : Jvm.MethodName)) ∈ xT := xT_4 97 rfl rfl
theorem tw4_98 : (Jvm.Cond.selects "NobodyFirst$Told" ({ cls := "NobodyFirst$Told", name := "copyFrom", desc := "(LNobodyFirst$Told;)V" } : Jvm.MethodName) ({ cls := "NobodyFirst$Told", name := "copyFrom", desc := "(LNobodyFirst$Told;)V" } : Jvm.MethodName)) ∈ xT := xT_4 98 rfl rfl
theorem tw4_99 : (Jvm.Cond.code ({ cls := "NobodyFirst$Told", name := "copyFrom", desc := "(LNobodyFirst$Told;)V" } : Jvm.MethodName) prog_8_method_5_code (2 : Nat) (Option.none : Option Jvm.ClassFile.FieldType)) ∈ xT := xT_4 99 rfl rfl
theorem tw4_100 : (Jvm.Cond.methodLink "NobodyFirst$Told" (28 : Nat) ({ cls := "java/lang/System", name := "arraycopy", desc := "(Ljava/lang/Object;ILjava/lang/Object;II)V" } : Jvm.MethodName)) ∈ xT := xT_4 100 rfl rfl
theorem tw4_101 : (Jvm.Cond.methodLink "NobodyFirstLaw" (124 : Nat) ({ cls := "NobodyFirst", name := "back", desc := "()I" } : Jvm.MethodName)) ∈ xT := xT_4 101 rfl rfl
theorem tw4_102 : (Jvm.Cond.instanceMethod ({ cls := "NobodyFirst", name := "back", desc := "()I" } : Jvm.MethodName)) ∈ xT := xT_4 102 rfl rfl
theorem tw4_103 : (Jvm.Cond.selects "NobodyFirst" ({ cls := "NobodyFirst", name := "back", desc := "()I" } : Jvm.MethodName) ({ cls := "NobodyFirst", name := "back", desc := "()I" } : Jvm.MethodName)) ∈ xT := xT_4 103 rfl rfl
theorem tw4_104 : (Jvm.Cond.code ({ cls := "NobodyFirst", name := "back", desc := "()I" } : Jvm.MethodName) prog_1_method_28_code (1 : Nat) (Option.some Jvm.ClassFile.FieldType.int)) ∈ xT := xT_4 104 rfl rfl
theorem tw4_105 : (Jvm.Cond.methodLink "NobodyFirst" (250 : Nat) ({ cls := "NobodyFirst$History", name := "restore", desc := "(LNobodyFirst$Told;)Z" } : Jvm.MethodName)) ∈ xT := xT_4 105 rfl rfl
theorem tw4_106 : (Jvm.Cond.instanceMethod ({ cls := "NobodyFirst$History", name := "restore", desc := "(LNobodyFirst$Told;)Z" } : Jvm.MethodName)) ∈ xT := xT_4 106 rfl rfl
theorem tw4_107 : (Jvm.Cond.selects "NobodyFirst$History" ({ cls := "NobodyFirst$History", name := "restore", desc := "(LNobodyFirst$Told;)Z" } : Jvm.MethodName) ({ cls := "NobodyFirst$History", name := "restore", desc := "(LNobodyFirst$Told;)Z" } : Jvm.MethodName)) ∈ xT := xT_4 107 rfl rfl
theorem tw4_108 : (Jvm.Cond.code ({ cls := "NobodyFirst$History", name := "restore", desc := "(LNobodyFirst$Told;)Z" } : Jvm.MethodName) prog_5_method_6_code (2 : Nat) (Option.some Jvm.ClassFile.FieldType.boolean)) ∈ xT := xT_4 108 rfl rfl
theorem tw4_109 : (Jvm.Cond.methodLink "NobodyFirstLaw" (128 : Nat) ({ cls := "NobodyFirst", name := "count", desc := "(I)I" } : Jvm.MethodName)) ∈ xT := xT_4 109 rfl rfl
theorem tw4_110 : (Jvm.Cond.instanceMethod ({ cls := "NobodyFirst", name := "count", desc := "(I)I" } : Jvm.MethodName)) ∈ xT := xT_4 110 rfl rfl
theorem tw4_111 : (Jvm.Cond.selects "NobodyFirst" ({ cls := "NobodyFirst", name := "count", desc := "(I)I" } : Jvm.MethodName) ({ cls := "NobodyFirst", name := "count", desc := "(I)I" } : Jvm.MethodName)) ∈ xT := xT_4 111 rfl rfl
theorem tw4_112 : (Jvm.Cond.code ({ cls := "NobodyFirst", name := "count", desc := "(I)I" } : Jvm.MethodName) prog_1_method_29_code (2 : Nat) (Option.some Jvm.ClassFile.FieldType.int)) ∈ xT := xT_4 112 rfl rfl
theorem tw4_113 : (Jvm.Cond.classLink "NobodyFirstLaw" (10 : Nat) "NobodyFirstModel") ∈ xT := xT_4 113 rfl rfl
theorem tw4_114 : (Jvm.Cond.instantiable "NobodyFirstModel" (40 : Nat)) ∈ xT := xT_4 114 rfl rfl
theorem tw4_115 : (Jvm.Cond.methodLink "NobodyFirstLaw" (12 : Nat) ({ cls := "NobodyFirstModel", name := "<init>", desc := "()V" } : Jvm.MethodName)) ∈ xT := xT_4 115 rfl rfl
theorem tw4_116 : (Jvm.Cond.instanceMethod ({ cls := "NobodyFirstModel", name := "<init>", desc := "()V" } : Jvm.MethodName)) ∈ xT := xT_4 116 rfl rfl
theorem tw4_117 : (Jvm.Cond.code ({ cls := "NobodyFirstModel", name := "<init>", desc := "()V" } : Jvm.MethodName) prog_10_method_1_code (1 : Nat) (Option.none : Option Jvm.ClassFile.FieldType)) ∈ xT := xT_4 117 rfl rfl
theorem tw4_118 : (Jvm.Cond.methodLink "NobodyFirstModel" (1 : Nat) ({ cls := "java/lang/Object", name := "<init>", desc := "()V" } : Jvm.MethodName)) ∈ xT := xT_4 118 rfl rfl
theorem tw4_119 : (Jvm.Cond.methodLink "NobodyFirstModel" (103 : Nat) ({ cls := "NobodyFirstModel", name := "noEvening", desc := "(I)V" } : Jvm.MethodName)) ∈ xT := xT_4 119 rfl rfl
theorem tw4_121 : (Jvm.Cond.instanceMethod ({ cls := "NobodyFirstModel", name := "noEvening", desc := "(I)V" } : Jvm.MethodName)) ∈ xT := xT_4 121 rfl rfl
theorem tw4_122 : (Jvm.Cond.code ({ cls := "NobodyFirstModel", name := "noEvening", desc := "(I)V" } : Jvm.MethodName) prog_10_method_4_code (3 : Nat) (Option.none : Option Jvm.ClassFile.FieldType)) ∈ xT := xT_4 122 rfl rfl
theorem tw4_123 : (Jvm.Cond.fieldLink "NobodyFirstModel" (113 : Nat) "NobodyFirstModel" "length" "I") ∈ xT := xT_4 123 rfl rfl
theorem tw4_124 : (Jvm.Cond.fieldLink "NobodyFirstModel" (7 : Nat) "NobodyFirstModel" "text" "[I") ∈ xT := xT_4 124 rfl rfl
theorem tw4_125 : (Jvm.Cond.fieldLink "NobodyFirstModel" (13 : Nat) "NobodyFirstModel" "many" "[I") ∈ xT := xT_4 125 rfl rfl
theorem tw4_126 : (Jvm.Cond.fieldLink "NobodyFirstModel" (16 : Nat) "NobodyFirstModel" "pairs" "[I") ∈ xT := xT_4 126 rfl rfl
theorem tw4_127 : (Jvm.Cond.fieldLink "NobodyFirstModel" (19 : Nat) "NobodyFirstModel" "wants" "[I") ∈ xT := xT_4 127 rfl rfl
theorem tw4_128 : (Jvm.Cond.fieldLink "NobodyFirstModel" (22 : Nat) "NobodyFirstModel" "shames" "[I") ∈ xT := xT_4 128 rfl rfl
theorem tw4_129 : (Jvm.Cond.fieldLink "NobodyFirstModel" (25 : Nat) "NobodyFirstModel" "kinds" "[I") ∈ xT := xT_4 129 rfl rfl
theorem tw4_130 : (Jvm.Cond.fieldLink "NobodyFirstModel" (28 : Nat) "NobodyFirstModel" "giveMany" "[I") ∈ xT := xT_4 130 rfl rfl
theorem tw4_131 : (Jvm.Cond.fieldLink "NobodyFirstModel" (31 : Nat) "NobodyFirstModel" "giveWorth" "[I") ∈ xT := xT_4 131 rfl rfl
theorem tw4_132 : (Jvm.Cond.fieldLink "NobodyFirstModel" (34 : Nat) "NobodyFirstModel" "giveCost" "[I") ∈ xT := xT_4 132 rfl rfl
theorem tw4_133 : (Jvm.Cond.fieldLink "NobodyFirstModel" (37 : Nat) "NobodyFirstModel" "draws" "[I") ∈ xT := xT_4 133 rfl rfl
theorem tw4_134 : (Jvm.Cond.fieldLink "NobodyFirstModel" (40 : Nat) "NobodyFirstModel" "halls" "[I") ∈ xT := xT_4 134 rfl rfl
theorem tw4_135 : (Jvm.Cond.fieldLink "NobodyFirstModel" (43 : Nat) "NobodyFirstModel" "ends" "[I") ∈ xT := xT_4 135 rfl rfl
theorem tw4_136 : (Jvm.Cond.fieldLink "NobodyFirstModel" (46 : Nat) "NobodyFirstModel" "meantBy" "[I") ∈ xT := xT_4 136 rfl rfl
theorem tw4_137 : (Jvm.Cond.fieldLink "NobodyFirstModel" (49 : Nat) "NobodyFirstModel" "notMeantBy" "[I") ∈ xT := xT_4 137 rfl rfl
theorem tw4_138 : (Jvm.Cond.fieldLink "NobodyFirstModel" (52 : Nat) "NobodyFirstModel" "lookMany" "[I") ∈ xT := xT_4 138 rfl rfl
theorem tw4_139 : (Jvm.Cond.fieldLink "NobodyFirstModel" (55 : Nat) "NobodyFirstModel" "lookOf" "[I") ∈ xT := xT_4 139 rfl rfl
theorem tw4_140 : (Jvm.Cond.fieldLink "NobodyFirstModel" (58 : Nat) "NobodyFirstModel" "lookAt" "[I") ∈ xT := xT_4 140 rfl rfl
theorem tw4_141 : (Jvm.Cond.fieldLink "NobodyFirstModel" (61 : Nat) "NobodyFirstModel" "yawns" "[I") ∈ xT := xT_4 141 rfl rfl
theorem tw4_142 : (Jvm.Cond.fieldLink "NobodyFirstModel" (64 : Nat) "NobodyFirstModel" "signMany" "[I") ∈ xT := xT_4 142 rfl rfl
theorem tw4_143 : (Jvm.Cond.fieldLink "NobodyFirstModel" (67 : Nat) "NobodyFirstModel" "signAt" "[I") ∈ xT := xT_4 143 rfl rfl
theorem tw4_144 : (Jvm.Cond.fieldLink "NobodyFirstModel" (70 : Nat) "NobodyFirstModel" "signWorth" "[I") ∈ xT := xT_4 144 rfl rfl
theorem tw4_145 : (Jvm.Cond.fieldLink "NobodyFirstModel" (73 : Nat) "NobodyFirstModel" "wordMany" "[I") ∈ xT := xT_4 145 rfl rfl
theorem tw4_146 : (Jvm.Cond.fieldLink "NobodyFirstModel" (76 : Nat) "NobodyFirstModel" "wordAt" "[I") ∈ xT := xT_4 146 rfl rfl
theorem tw4_147 : (Jvm.Cond.fieldLink "NobodyFirstModel" (161 : Nat) "NobodyFirstModel" "keptMany" "I") ∈ xT := xT_4 147 rfl rfl
theorem tw4_148 : (Jvm.Cond.fieldLink "NobodyFirstModel" (164 : Nat) "NobodyFirstModel" "doneMany" "I") ∈ xT := xT_4 148 rfl rfl
theorem tw4_149 : (Jvm.Cond.fieldLink "NobodyFirstModel" (79 : Nat) "NobodyFirstModel" "done" "[I") ∈ xT := xT_4 149 rfl rfl
theorem tw4_150 : (Jvm.Cond.fieldLink "NobodyFirstModel" (119 : Nat) "NobodyFirstModel" "place" "I") ∈ xT := xT_4 150 rfl rfl
theorem tw4_151 : (Jvm.Cond.fieldLink "NobodyFirstModel" (82 : Nat) "NobodyFirstModel" "told" "[I") ∈ xT := xT_4 151 rfl rfl
theorem tw4_152 : (Jvm.Cond.fieldLink "NobodyFirstModel" (170 : Nat) "NobodyFirstModel" "busOf" "I") ∈ xT := xT_4 152 rfl rfl
theorem tw4_153 : (Jvm.Cond.fieldLink "NobodyFirstModel" (173 : Nat) "NobodyFirstModel" "busFrom" "I") ∈ xT := xT_4 153 rfl rfl
theorem tw4_154 : (Jvm.Cond.fieldLink "NobodyFirstModel" (176 : Nat) "NobodyFirstModel" "bellAt" "I") ∈ xT := xT_4 154 rfl rfl
theorem tw4_155 : (Jvm.Cond.fieldLink "NobodyFirstModel" (179 : Nat) "NobodyFirstModel" "drawBy" "I") ∈ xT := xT_4 155 rfl rfl
theorem tw4_156 : (Jvm.Cond.fieldLink "NobodyFirstModel" (85 : Nat) "NobodyFirstModel" "givenAt" "[I") ∈ xT := xT_4 156 rfl rfl
theorem tw4_157 : (Jvm.Cond.fieldLink "NobodyFirstModel" (88 : Nat) "NobodyFirstModel" "stands" "[I") ∈ xT := xT_4 157 rfl rfl
theorem tw4_158 : (Jvm.Cond.fieldLink "NobodyFirstModel" (91 : Nat) "NobodyFirstModel" "goes" "[I") ∈ xT := xT_4 158 rfl rfl
theorem tw4_159 : (Jvm.Cond.fieldLink "NobodyFirstModel" (255 : Nat) "NobodyFirstModel" "playMany" "I") ∈ xT := xT_4 159 rfl rfl
theorem tw4_160 : (Jvm.Cond.fieldLink "NobodyFirstModel" (94 : Nat) "NobodyFirstModel" "playWants" "[I") ∈ xT := xT_4 160 rfl rfl
theorem tw4_161 : (Jvm.Cond.fieldLink "NobodyFirstModel" (97 : Nat) "NobodyFirstModel" "playShames" "[I") ∈ xT := xT_4 161 rfl rfl
theorem tw4_162 : (Jvm.Cond.fieldLink "NobodyFirstModel" (100 : Nat) "NobodyFirstModel" "slots" "[I") ∈ xT := xT_4 162 rfl rfl
theorem tw4_163 : (Jvm.Cond.lays "NobodyFirstModel" "NobodyFirstModel" "length" "I") ∈ xT := xT_4 163 rfl rfl
theorem tw4_165 : (Jvm.Cond.laysFinal "NobodyFirstModel" "NobodyFirstModel" "text" "[I") ∈ xT := xT_4 165 rfl rfl
theorem tw4_167 : (Jvm.Cond.laysFinal "NobodyFirstModel" "NobodyFirstModel" "many" "[I") ∈ xT := xT_4 167 rfl rfl
theorem tw4_169 : (Jvm.Cond.laysFinal "NobodyFirstModel" "NobodyFirstModel" "pairs" "[I") ∈ xT := xT_4 169 rfl rfl
theorem tw4_171 : (Jvm.Cond.laysFinal "NobodyFirstModel" "NobodyFirstModel" "wants" "[I") ∈ xT := xT_4 171 rfl rfl
theorem tw4_173 : (Jvm.Cond.laysFinal "NobodyFirstModel" "NobodyFirstModel" "shames" "[I") ∈ xT := xT_4 173 rfl rfl
theorem tw4_175 : (Jvm.Cond.laysFinal "NobodyFirstModel" "NobodyFirstModel" "kinds" "[I") ∈ xT := xT_4 175 rfl rfl
theorem tw4_177 : (Jvm.Cond.laysFinal "NobodyFirstModel" "NobodyFirstModel" "giveMany" "[I") ∈ xT := xT_4 177 rfl rfl
theorem tw4_179 : (Jvm.Cond.laysFinal "NobodyFirstModel" "NobodyFirstModel" "giveWorth" "[I") ∈ xT := xT_4 179 rfl rfl
theorem tw4_181 : (Jvm.Cond.laysFinal "NobodyFirstModel" "NobodyFirstModel" "giveCost" "[I") ∈ xT := xT_4 181 rfl rfl
theorem tw4_183 : (Jvm.Cond.laysFinal "NobodyFirstModel" "NobodyFirstModel" "draws" "[I") ∈ xT := xT_4 183 rfl rfl
theorem tw4_185 : (Jvm.Cond.laysFinal "NobodyFirstModel" "NobodyFirstModel" "halls" "[I") ∈ xT := xT_4 185 rfl rfl
theorem tw4_187 : (Jvm.Cond.laysFinal "NobodyFirstModel" "NobodyFirstModel" "ends" "[I") ∈ xT := xT_4 187 rfl rfl
theorem tw4_189 : (Jvm.Cond.laysFinal "NobodyFirstModel" "NobodyFirstModel" "meantBy" "[I") ∈ xT := xT_4 189 rfl rfl
theorem tw4_191 : (Jvm.Cond.laysFinal "NobodyFirstModel" "NobodyFirstModel" "notMeantBy" "[I") ∈ xT := xT_4 191 rfl rfl
theorem tw4_193 : (Jvm.Cond.laysFinal "NobodyFirstModel" "NobodyFirstModel" "lookMany" "[I") ∈ xT := xT_4 193 rfl rfl
theorem tw4_195 : (Jvm.Cond.laysFinal "NobodyFirstModel" "NobodyFirstModel" "lookOf" "[I") ∈ xT := xT_4 195 rfl rfl
theorem tw4_197 : (Jvm.Cond.laysFinal "NobodyFirstModel" "NobodyFirstModel" "lookAt" "[I") ∈ xT := xT_4 197 rfl rfl
theorem tw4_199 : (Jvm.Cond.laysFinal "NobodyFirstModel" "NobodyFirstModel" "yawns" "[I") ∈ xT := xT_4 199 rfl rfl
theorem tw4_201 : (Jvm.Cond.laysFinal "NobodyFirstModel" "NobodyFirstModel" "signMany" "[I") ∈ xT := xT_4 201 rfl rfl
theorem tw4_203 : (Jvm.Cond.laysFinal "NobodyFirstModel" "NobodyFirstModel" "signAt" "[I") ∈ xT := xT_4 203 rfl rfl
theorem tw4_205 : (Jvm.Cond.laysFinal "NobodyFirstModel" "NobodyFirstModel" "signWorth" "[I") ∈ xT := xT_4 205 rfl rfl
theorem tw4_207 : (Jvm.Cond.laysFinal "NobodyFirstModel" "NobodyFirstModel" "wordMany" "[I") ∈ xT := xT_4 207 rfl rfl
theorem tw4_209 : (Jvm.Cond.laysFinal "NobodyFirstModel" "NobodyFirstModel" "wordAt" "[I") ∈ xT := xT_4 209 rfl rfl
theorem tw4_211 : (Jvm.Cond.lays "NobodyFirstModel" "NobodyFirstModel" "keptMany" "I") ∈ xT := xT_4 211 rfl rfl
theorem tw4_213 : (Jvm.Cond.lays "NobodyFirstModel" "NobodyFirstModel" "doneMany" "I") ∈ xT := xT_4 213 rfl rfl
theorem tw4_215 : (Jvm.Cond.laysFinal "NobodyFirstModel" "NobodyFirstModel" "done" "[I") ∈ xT := xT_4 215 rfl rfl
theorem tw4_217 : (Jvm.Cond.lays "NobodyFirstModel" "NobodyFirstModel" "place" "I") ∈ xT := xT_4 217 rfl rfl
theorem tw4_219 : (Jvm.Cond.laysFinal "NobodyFirstModel" "NobodyFirstModel" "told" "[I") ∈ xT := xT_4 219 rfl rfl
theorem tw4_221 : (Jvm.Cond.lays "NobodyFirstModel" "NobodyFirstModel" "busOf" "I") ∈ xT := xT_4 221 rfl rfl
theorem tw4_223 : (Jvm.Cond.lays "NobodyFirstModel" "NobodyFirstModel" "busFrom" "I") ∈ xT := xT_4 223 rfl rfl
theorem tw4_225 : (Jvm.Cond.lays "NobodyFirstModel" "NobodyFirstModel" "bellAt" "I") ∈ xT := xT_4 225 rfl rfl
theorem tw4_227 : (Jvm.Cond.lays "NobodyFirstModel" "NobodyFirstModel" "drawBy" "I") ∈ xT := xT_4 227 rfl rfl
theorem tw4_229 : (Jvm.Cond.laysFinal "NobodyFirstModel" "NobodyFirstModel" "givenAt" "[I") ∈ xT := xT_4 229 rfl rfl
theorem tw4_231 : (Jvm.Cond.laysFinal "NobodyFirstModel" "NobodyFirstModel" "stands" "[I") ∈ xT := xT_4 231 rfl rfl
theorem tw4_233 : (Jvm.Cond.laysFinal "NobodyFirstModel" "NobodyFirstModel" "goes" "[I") ∈ xT := xT_4 233 rfl rfl
theorem tw4_235 : (Jvm.Cond.lays "NobodyFirstModel" "NobodyFirstModel" "playMany" "I") ∈ xT := xT_4 235 rfl rfl
theorem tw4_237 : (Jvm.Cond.laysFinal "NobodyFirstModel" "NobodyFirstModel" "playWants" "[I") ∈ xT := xT_4 237 rfl rfl
theorem tw4_239 : (Jvm.Cond.laysFinal "NobodyFirstModel" "NobodyFirstModel" "playShames" "[I") ∈ xT := xT_4 239 rfl rfl
theorem tw5_1 : (Jvm.Cond.laysFinal "NobodyFirstModel" "NobodyFirstModel" "slots" "[I") ∈ xT := xT_5 1 rfl rfl
theorem tw5_4 : (Jvm.Cond.methodLink "NobodyFirstLaw" (19 : Nat) ({ cls := "NobodyFirstModel", name := "write", desc := "(IJ)I" } : Jvm.MethodName)) ∈ xT := xT_5 4 rfl rfl
theorem tw5_5 : (Jvm.Cond.instanceMethod ({ cls := "NobodyFirstModel", name := "write", desc := "(IJ)I" } : Jvm.MethodName)) ∈ xT := xT_5 5 rfl rfl
theorem tw5_6 : (Jvm.Cond.selects "NobodyFirstModel" ({ cls := "NobodyFirstModel", name := "write", desc := "(IJ)I" } : Jvm.MethodName) ({ cls := "NobodyFirstModel", name := "write", desc := "(IJ)I" } : Jvm.MethodName)) ∈ xT := xT_5 6 rfl rfl
theorem tw5_7 : (Jvm.Cond.code ({ cls := "NobodyFirstModel", name := "write", desc := "(IJ)I" } : Jvm.MethodName) prog_10_method_5_code (5 : Nat) (Option.some Jvm.ClassFile.FieldType.int)) ∈ xT := xT_5 7 rfl rfl
theorem tw5_8 : (Jvm.Cond.constantLong "NobodyFirstModel" (107 : Nat) (8 : Int64)) ∈ xT := xT_5 8 rfl rfl
theorem tw5_9 : (Jvm.Cond.methodLink "NobodyFirstModel" (109 : Nat) ({ cls := "NobodyFirstModel", name := "in", desc := "(JJJ)Z" } : Jvm.MethodName)) ∈ xT := xT_5 9 rfl rfl
theorem tw5_10 : (Jvm.Cond.static ({ cls := "NobodyFirstModel", name := "in", desc := "(JJJ)Z" } : Jvm.MethodName)) ∈ xT := xT_5 10 rfl rfl
theorem tw5_11 : (Jvm.Cond.code ({ cls := "NobodyFirstModel", name := "in", desc := "(JJJ)Z" } : Jvm.MethodName) prog_10_method_2_code (6 : Nat) (Option.some Jvm.ClassFile.FieldType.boolean)) ∈ xT := xT_5 11 rfl rfl
theorem tw5_12 : (Jvm.Cond.constantLong "NobodyFirstModel" (117 : Nat) (255 : Int64)) ∈ xT := xT_5 12 rfl rfl
theorem tw5_13 : (Jvm.Cond.methodLink "NobodyFirstLaw" (24 : Nat) ({ cls := "NobodyFirstModel", name := "wipe", desc := "()I" } : Jvm.MethodName)) ∈ xT := xT_5 13 rfl rfl
theorem tw5_14 : (Jvm.Cond.instanceMethod ({ cls := "NobodyFirstModel", name := "wipe", desc := "()I" } : Jvm.MethodName)) ∈ xT := xT_5 14 rfl rfl
theorem tw5_15 : (Jvm.Cond.selects "NobodyFirstModel" ({ cls := "NobodyFirstModel", name := "wipe", desc := "()I" } : Jvm.MethodName) ({ cls := "NobodyFirstModel", name := "wipe", desc := "()I" } : Jvm.MethodName)) ∈ xT := xT_5 15 rfl rfl
theorem tw5_16 : (Jvm.Cond.code ({ cls := "NobodyFirstModel", name := "wipe", desc := "()I" } : Jvm.MethodName) prog_10_method_6_code (2 : Nat) (Option.some Jvm.ClassFile.FieldType.int)) ∈ xT := xT_5 16 rfl rfl
theorem tw5_17 : (Jvm.Cond.methodLink "NobodyFirstLaw" (28 : Nat) ({ cls := "NobodyFirstModel", name := "fault", desc := "()I" } : Jvm.MethodName)) ∈ xT := xT_5 17 rfl rfl
theorem tw5_18 : (Jvm.Cond.instanceMethod ({ cls := "NobodyFirstModel", name := "fault", desc := "()I" } : Jvm.MethodName)) ∈ xT := xT_5 18 rfl rfl
theorem tw5_19 : (Jvm.Cond.selects "NobodyFirstModel" ({ cls := "NobodyFirstModel", name := "fault", desc := "()I" } : Jvm.MethodName) ({ cls := "NobodyFirstModel", name := "fault", desc := "()I" } : Jvm.MethodName)) ∈ xT := xT_5 19 rfl rfl
theorem tw5_20 : (Jvm.Cond.code ({ cls := "NobodyFirstModel", name := "fault", desc := "()I" } : Jvm.MethodName) prog_10_method_14_code (1 : Nat) (Option.some Jvm.ClassFile.FieldType.int)) ∈ xT := xT_5 20 rfl rfl
theorem tw5_21 : (Jvm.Cond.methodLink "NobodyFirstModel" (153 : Nat) ({ cls := "NobodyFirstModel", name := "readAll", desc := "()I" } : Jvm.MethodName)) ∈ xT := xT_5 21 rfl rfl
theorem tw5_23 : (Jvm.Cond.instanceMethod ({ cls := "NobodyFirstModel", name := "readAll", desc := "()I" } : Jvm.MethodName)) ∈ xT := xT_5 23 rfl rfl
theorem tw5_24 : (Jvm.Cond.code ({ cls := "NobodyFirstModel", name := "readAll", desc := "()I" } : Jvm.MethodName) prog_10_method_13_code (2 : Nat) (Option.some Jvm.ClassFile.FieldType.int)) ∈ xT := xT_5 24 rfl rfl
theorem tw5_25 : (Jvm.Cond.methodLink "NobodyFirstModel" (150 : Nat) ({ cls := "NobodyFirstModel", name := "item", desc := "()Z" } : Jvm.MethodName)) ∈ xT := xT_5 25 rfl rfl
theorem tw5_27 : (Jvm.Cond.instanceMethod ({ cls := "NobodyFirstModel", name := "item", desc := "()Z" } : Jvm.MethodName)) ∈ xT := xT_5 27 rfl rfl
theorem tw5_28 : (Jvm.Cond.code ({ cls := "NobodyFirstModel", name := "item", desc := "()Z" } : Jvm.MethodName) prog_10_method_12_code (2 : Nat) (Option.some Jvm.ClassFile.FieldType.boolean)) ∈ xT := xT_5 28 rfl rfl
theorem tw5_29 : (Jvm.Cond.methodLink "NobodyFirstModel" (122 : Nat) ({ cls := "NobodyFirstModel", name := "byteAt", desc := "(I)I" } : Jvm.MethodName)) ∈ xT := xT_5 29 rfl rfl
theorem tw5_31 : (Jvm.Cond.instanceMethod ({ cls := "NobodyFirstModel", name := "byteAt", desc := "(I)I" } : Jvm.MethodName)) ∈ xT := xT_5 31 rfl rfl
theorem tw5_32 : (Jvm.Cond.code ({ cls := "NobodyFirstModel", name := "byteAt", desc := "(I)I" } : Jvm.MethodName) prog_10_method_7_code (2 : Nat) (Option.some Jvm.ClassFile.FieldType.int)) ∈ xT := xT_5 32 rfl rfl
theorem tw5_33 : (Jvm.Cond.methodLink "NobodyFirstModel" (141 : Nat) ({ cls := "NobodyFirstModel", name := "guestItem", desc := "()Z" } : Jvm.MethodName)) ∈ xT := xT_5 33 rfl rfl
theorem tw5_35 : (Jvm.Cond.instanceMethod ({ cls := "NobodyFirstModel", name := "guestItem", desc := "()Z" } : Jvm.MethodName)) ∈ xT := xT_5 35 rfl rfl
theorem tw5_36 : (Jvm.Cond.code ({ cls := "NobodyFirstModel", name := "guestItem", desc := "()Z" } : Jvm.MethodName) prog_10_method_10_code (2 : Nat) (Option.some Jvm.ClassFile.FieldType.boolean)) ∈ xT := xT_5 36 rfl rfl
theorem tw5_37 : (Jvm.Cond.methodLink "NobodyFirstModel" (134 : Nat) ({ cls := "NobodyFirstModel", name := "figures", desc := "(I)Z" } : Jvm.MethodName)) ∈ xT := xT_5 37 rfl rfl
theorem tw5_39 : (Jvm.Cond.instanceMethod ({ cls := "NobodyFirstModel", name := "figures", desc := "(I)Z" } : Jvm.MethodName)) ∈ xT := xT_5 39 rfl rfl
theorem tw5_40 : (Jvm.Cond.code ({ cls := "NobodyFirstModel", name := "figures", desc := "(I)Z" } : Jvm.MethodName) prog_10_method_8_code (5 : Nat) (Option.some Jvm.ClassFile.FieldType.boolean)) ∈ xT := xT_5 40 rfl rfl
theorem tw5_41 : (Jvm.Cond.constantLong "NobodyFirstModel" (126 : Nat) (48 : Int64)) ∈ xT := xT_5 41 rfl rfl
theorem tw5_42 : (Jvm.Cond.constantLong "NobodyFirstModel" (128 : Nat) (57 : Int64)) ∈ xT := xT_5 42 rfl rfl
theorem tw5_43 : (Jvm.Cond.constantLong "NobodyFirstModel" (130 : Nat) (3 : Int64)) ∈ xT := xT_5 43 rfl rfl
theorem tw5_44 : (Jvm.Cond.methodLink "NobodyFirstModel" (138 : Nat) ({ cls := "NobodyFirstModel", name := "isMinute", desc := "(I)Z" } : Jvm.MethodName)) ∈ xT := xT_5 44 rfl rfl
theorem tw5_45 : (Jvm.Cond.static ({ cls := "NobodyFirstModel", name := "isMinute", desc := "(I)Z" } : Jvm.MethodName)) ∈ xT := xT_5 45 rfl rfl
theorem tw5_46 : (Jvm.Cond.code ({ cls := "NobodyFirstModel", name := "isMinute", desc := "(I)Z" } : Jvm.MethodName) prog_10_method_9_code (1 : Nat) (Option.some Jvm.ClassFile.FieldType.boolean)) ∈ xT := xT_5 46 rfl rfl
theorem tw5_47 : (Jvm.Cond.constantLong "NobodyFirstModel" (132 : Nat) (359 : Int64)) ∈ xT := xT_5 47 rfl rfl
theorem tw5_48 : (Jvm.Cond.methodLink "NobodyFirstModel" (145 : Nat) ({ cls := "NobodyFirstModel", name := "lookItem", desc := "()Z" } : Jvm.MethodName)) ∈ xT := xT_5 48 rfl rfl
theorem tw5_50 : (Jvm.Cond.instanceMethod ({ cls := "NobodyFirstModel", name := "lookItem", desc := "()Z" } : Jvm.MethodName)) ∈ xT := xT_5 50 rfl rfl
theorem tw5_51 : (Jvm.Cond.code ({ cls := "NobodyFirstModel", name := "lookItem", desc := "()Z" } : Jvm.MethodName) prog_10_method_11_code (2 : Nat) (Option.some Jvm.ClassFile.FieldType.boolean)) ∈ xT := xT_5 51 rfl rfl
theorem tw5_52 : (Jvm.Cond.constantLong "NobodyFirstModel" (148 : Nat) (99 : Int64)) ∈ xT := xT_5 52 rfl rfl
theorem tw5_53 : (Jvm.Cond.methodLink "NobodyFirstLaw" (32 : Nat) ({ cls := "NobodyFirstModel", name := "lay", desc := "()I" } : Jvm.MethodName)) ∈ xT := xT_5 53 rfl rfl
theorem tw5_54 : (Jvm.Cond.instanceMethod ({ cls := "NobodyFirstModel", name := "lay", desc := "()I" } : Jvm.MethodName)) ∈ xT := xT_5 54 rfl rfl
theorem tw5_55 : (Jvm.Cond.selects "NobodyFirstModel" ({ cls := "NobodyFirstModel", name := "lay", desc := "()I" } : Jvm.MethodName) ({ cls := "NobodyFirstModel", name := "lay", desc := "()I" } : Jvm.MethodName)) ∈ xT := xT_5 55 rfl rfl
theorem tw5_56 : (Jvm.Cond.code ({ cls := "NobodyFirstModel", name := "lay", desc := "()I" } : Jvm.MethodName) prog_10_method_16_code (2 : Nat) (Option.some Jvm.ClassFile.FieldType.int)) ∈ xT := xT_5 56 rfl rfl
theorem tw5_57 : (Jvm.Cond.methodLink "NobodyFirstModel" (157 : Nat) ({ cls := "NobodyFirstModel", name := "copyTold", desc := "(II)V" } : Jvm.MethodName)) ∈ xT := xT_5 57 rfl rfl
theorem tw5_59 : (Jvm.Cond.instanceMethod ({ cls := "NobodyFirstModel", name := "copyTold", desc := "(II)V" } : Jvm.MethodName)) ∈ xT := xT_5 59 rfl rfl
theorem tw5_60 : (Jvm.Cond.code ({ cls := "NobodyFirstModel", name := "copyTold", desc := "(II)V" } : Jvm.MethodName) prog_10_method_15_code (4 : Nat) (Option.none : Option Jvm.ClassFile.FieldType)) ∈ xT := xT_5 60 rfl rfl
theorem tw5_61 : (Jvm.Cond.methodLink "NobodyFirstLaw" (37 : Nat) ({ cls := "NobodyFirstModel", name := "guest", desc := "(II)I" } : Jvm.MethodName)) ∈ xT := xT_5 61 rfl rfl
theorem tw5_62 : (Jvm.Cond.instanceMethod ({ cls := "NobodyFirstModel", name := "guest", desc := "(II)I" } : Jvm.MethodName)) ∈ xT := xT_5 62 rfl rfl
theorem tw5_63 : (Jvm.Cond.selects "NobodyFirstModel" ({ cls := "NobodyFirstModel", name := "guest", desc := "(II)I" } : Jvm.MethodName) ({ cls := "NobodyFirstModel", name := "guest", desc := "(II)I" } : Jvm.MethodName)) ∈ xT := xT_5 63 rfl rfl
theorem tw5_64 : (Jvm.Cond.code ({ cls := "NobodyFirstModel", name := "guest", desc := "(II)I" } : Jvm.MethodName) prog_10_method_18_code (3 : Nat) (Option.some Jvm.ClassFile.FieldType.int)) ∈ xT := xT_5 64 rfl rfl
theorem tw5_65 : (Jvm.Cond.methodLink "NobodyFirstModel" (167 : Nat) ({ cls := "NobodyFirstModel", name := "isGuest", desc := "(I)Z" } : Jvm.MethodName)) ∈ xT := xT_5 65 rfl rfl
theorem tw5_67 : (Jvm.Cond.instanceMethod ({ cls := "NobodyFirstModel", name := "isGuest", desc := "(I)Z" } : Jvm.MethodName)) ∈ xT := xT_5 67 rfl rfl
theorem tw5_68 : (Jvm.Cond.code ({ cls := "NobodyFirstModel", name := "isGuest", desc := "(I)Z" } : Jvm.MethodName) prog_10_method_17_code (2 : Nat) (Option.some Jvm.ClassFile.FieldType.boolean)) ∈ xT := xT_5 68 rfl rfl
theorem tw5_69 : (Jvm.Cond.methodLink "NobodyFirstLaw" (41 : Nat) ({ cls := "NobodyFirstModel", name := "shame", desc := "(II)I" } : Jvm.MethodName)) ∈ xT := xT_5 69 rfl rfl
theorem tw5_70 : (Jvm.Cond.instanceMethod ({ cls := "NobodyFirstModel", name := "shame", desc := "(II)I" } : Jvm.MethodName)) ∈ xT := xT_5 70 rfl rfl
theorem tw5_71 : (Jvm.Cond.selects "NobodyFirstModel" ({ cls := "NobodyFirstModel", name := "shame", desc := "(II)I" } : Jvm.MethodName) ({ cls := "NobodyFirstModel", name := "shame", desc := "(II)I" } : Jvm.MethodName)) ∈ xT := xT_5 71 rfl rfl
theorem tw5_72 : (Jvm.Cond.code ({ cls := "NobodyFirstModel", name := "shame", desc := "(II)I" } : Jvm.MethodName) prog_10_method_32_code (3 : Nat) (Option.some Jvm.ClassFile.FieldType.int)) ∈ xT := xT_5 72 rfl rfl
theorem tw5_73 : (Jvm.Cond.methodLink "NobodyFirstModel" (232 : Nat) ({ cls := "NobodyFirstModel", name := "isTime", desc := "(I)Z" } : Jvm.MethodName)) ∈ xT := xT_5 73 rfl rfl
theorem tw5_74 : (Jvm.Cond.static ({ cls := "NobodyFirstModel", name := "isTime", desc := "(I)Z" } : Jvm.MethodName)) ∈ xT := xT_5 74 rfl rfl
theorem tw5_75 : (Jvm.Cond.code ({ cls := "NobodyFirstModel", name := "isTime", desc := "(I)Z" } : Jvm.MethodName) prog_10_method_31_code (1 : Nat) (Option.some Jvm.ClassFile.FieldType.boolean)) ∈ xT := xT_5 75 rfl rfl
theorem tw5_76 : (Jvm.Cond.constantLong "NobodyFirstModel" (230 : Nat) (719 : Int64)) ∈ xT := xT_5 76 rfl rfl
theorem tw5_77 : (Jvm.Cond.methodLink "NobodyFirstModel" (235 : Nat) ({ cls := "NobodyFirstModel", name := "goAsItIs", desc := "()V" } : Jvm.MethodName)) ∈ xT := xT_5 77 rfl rfl
theorem tw5_79 : (Jvm.Cond.instanceMethod ({ cls := "NobodyFirstModel", name := "goAsItIs", desc := "()V" } : Jvm.MethodName)) ∈ xT := xT_5 79 rfl rfl
theorem tw5_80 : (Jvm.Cond.code ({ cls := "NobodyFirstModel", name := "goAsItIs", desc := "()V" } : Jvm.MethodName) prog_10_method_30_code (1 : Nat) (Option.none : Option Jvm.ClassFile.FieldType)) ∈ xT := xT_5 80 rfl rfl
theorem tw5_81 : (Jvm.Cond.methodLink "NobodyFirstModel" (224 : Nat) ({ cls := "NobodyFirstModel", name := "asItIs", desc := "()V" } : Jvm.MethodName)) ∈ xT := xT_5 81 rfl rfl
theorem tw5_83 : (Jvm.Cond.instanceMethod ({ cls := "NobodyFirstModel", name := "asItIs", desc := "()V" } : Jvm.MethodName)) ∈ xT := xT_5 83 rfl rfl
theorem tw5_84 : (Jvm.Cond.code ({ cls := "NobodyFirstModel", name := "asItIs", desc := "()V" } : Jvm.MethodName) prog_10_method_19_code (2 : Nat) (Option.none : Option Jvm.ClassFile.FieldType)) ∈ xT := xT_5 84 rfl rfl
theorem tw5_85 : (Jvm.Cond.methodLink "NobodyFirstModel" (227 : Nat) ({ cls := "NobodyFirstModel", name := "goEvening", desc := "()V" } : Jvm.MethodName)) ∈ xT := xT_5 85 rfl rfl
theorem tw5_87 : (Jvm.Cond.instanceMethod ({ cls := "NobodyFirstModel", name := "goEvening", desc := "()V" } : Jvm.MethodName)) ∈ xT := xT_5 87 rfl rfl
theorem tw5_88 : (Jvm.Cond.code ({ cls := "NobodyFirstModel", name := "goEvening", desc := "()V" } : Jvm.MethodName) prog_10_method_26_code (6 : Nat) (Option.none : Option Jvm.ClassFile.FieldType)) ∈ xT := xT_5 88 rfl rfl
theorem tw5_89 : (Jvm.Cond.constant "NobodyFirstModel" (211 : Nat) (1000000 : Int32)) ∈ xT := xT_5 89 rfl rfl
theorem tw5_90 : (Jvm.Cond.methodLink "NobodyFirstModel" (212 : Nat) ({ cls := "NobodyFirstModel", name := "standsAt", desc := "(II)Z" } : Jvm.MethodName)) ∈ xT := xT_5 90 rfl rfl
theorem tw5_92 : (Jvm.Cond.instanceMethod ({ cls := "NobodyFirstModel", name := "standsAt", desc := "(II)Z" } : Jvm.MethodName)) ∈ xT := xT_5 92 rfl rfl
theorem tw5_93 : (Jvm.Cond.code ({ cls := "NobodyFirstModel", name := "standsAt", desc := "(II)Z" } : Jvm.MethodName) prog_10_method_25_code (8 : Nat) (Option.some Jvm.ClassFile.FieldType.boolean)) ∈ xT := xT_5 93 rfl rfl
theorem tw5_94 : (Jvm.Cond.methodLink "NobodyFirstModel" (208 : Nat) ({ cls := "NobodyFirstModel", name := "doesPress", desc := "(II)Z" } : Jvm.MethodName)) ∈ xT := xT_5 94 rfl rfl
theorem tw5_96 : (Jvm.Cond.instanceMethod ({ cls := "NobodyFirstModel", name := "doesPress", desc := "(II)Z" } : Jvm.MethodName)) ∈ xT := xT_5 96 rfl rfl
theorem tw5_97 : (Jvm.Cond.code ({ cls := "NobodyFirstModel", name := "doesPress", desc := "(II)Z" } : Jvm.MethodName) prog_10_method_24_code (6 : Nat) (Option.some Jvm.ClassFile.FieldType.boolean)) ∈ xT := xT_5 97 rfl rfl
theorem tw5_98 : (Jvm.Cond.methodLink "NobodyFirstModel" (201 : Nat) ({ cls := "NobodyFirstModel", name := "isBus", desc := "(I)Z" } : Jvm.MethodName)) ∈ xT := xT_5 98 rfl rfl
theorem tw5_100 : (Jvm.Cond.instanceMethod ({ cls := "NobodyFirstModel", name := "isBus", desc := "(I)Z" } : Jvm.MethodName)) ∈ xT := xT_5 100 rfl rfl
theorem tw5_101 : (Jvm.Cond.code ({ cls := "NobodyFirstModel", name := "isBus", desc := "(I)Z" } : Jvm.MethodName) prog_10_method_23_code (2 : Nat) (Option.some Jvm.ClassFile.FieldType.boolean)) ∈ xT := xT_5 101 rfl rfl
theorem tw5_102 : (Jvm.Cond.methodLink "NobodyFirstModel" (204 : Nat) ({ cls := "NobodyFirstModel", name := "shameOf", desc := "(II)I" } : Jvm.MethodName)) ∈ xT := xT_5 102 rfl rfl
theorem tw5_104 : (Jvm.Cond.instanceMethod ({ cls := "NobodyFirstModel", name := "shameOf", desc := "(II)I" } : Jvm.MethodName)) ∈ xT := xT_5 104 rfl rfl
theorem tw5_105 : (Jvm.Cond.code ({ cls := "NobodyFirstModel", name := "shameOf", desc := "(II)I" } : Jvm.MethodName) prog_10_method_22_code (5 : Nat) (Option.some Jvm.ClassFile.FieldType.int)) ∈ xT := xT_5 105 rfl rfl
theorem tw5_106 : (Jvm.Cond.methodLink "NobodyFirstModel" (194 : Nat) ({ cls := "NobodyFirstModel", name := "counts", desc := "(II)Z" } : Jvm.MethodName)) ∈ xT := xT_5 106 rfl rfl
theorem tw5_108 : (Jvm.Cond.instanceMethod ({ cls := "NobodyFirstModel", name := "counts", desc := "(II)Z" } : Jvm.MethodName)) ∈ xT := xT_5 108 rfl rfl
theorem tw5_109 : (Jvm.Cond.code ({ cls := "NobodyFirstModel", name := "counts", desc := "(II)Z" } : Jvm.MethodName) prog_10_method_20_code (5 : Nat) (Option.some Jvm.ClassFile.FieldType.boolean)) ∈ xT := xT_5 109 rfl rfl
theorem tw5_110 : (Jvm.Cond.constantLong "NobodyFirstModel" (182 : Nat) (7919 : Int64)) ∈ xT := xT_5 110 rfl rfl
theorem tw5_111 : (Jvm.Cond.constantLong "NobodyFirstModel" (184 : Nat) (6151 : Int64)) ∈ xT := xT_5 111 rfl rfl
theorem tw5_112 : (Jvm.Cond.constantLong "NobodyFirstModel" (186 : Nat) (3571 : Int64)) ∈ xT := xT_5 112 rfl rfl
theorem tw5_113 : (Jvm.Cond.constantLong "NobodyFirstModel" (188 : Nat) (65521 : Int64)) ∈ xT := xT_5 113 rfl rfl
theorem tw5_114 : (Jvm.Cond.constantLong "NobodyFirstModel" (190 : Nat) (10 : Int64)) ∈ xT := xT_5 114 rfl rfl
theorem tw5_115 : (Jvm.Cond.constantLong "NobodyFirstModel" (192 : Nat) (6 : Int64)) ∈ xT := xT_5 115 rfl rfl
theorem tw5_116 : (Jvm.Cond.methodLink "NobodyFirstModel" (198 : Nat) ({ cls := "NobodyFirstModel", name := "stoodAhead", desc := "(I)I" } : Jvm.MethodName)) ∈ xT := xT_5 116 rfl rfl
theorem tw5_118 : (Jvm.Cond.instanceMethod ({ cls := "NobodyFirstModel", name := "stoodAhead", desc := "(I)I" } : Jvm.MethodName)) ∈ xT := xT_5 118 rfl rfl
theorem tw5_119 : (Jvm.Cond.code ({ cls := "NobodyFirstModel", name := "stoodAhead", desc := "(I)I" } : Jvm.MethodName) prog_10_method_21_code (4 : Nat) (Option.some Jvm.ClassFile.FieldType.int)) ∈ xT := xT_5 119 rfl rfl
theorem tw5_120 : (Jvm.Cond.methodLink "NobodyFirstModel" (215 : Nat) ({ cls := "NobodyFirstModel", name := "has", desc := "(II)Z" } : Jvm.MethodName)) ∈ xT := xT_5 120 rfl rfl
theorem tw5_121 : (Jvm.Cond.static ({ cls := "NobodyFirstModel", name := "has", desc := "(II)Z" } : Jvm.MethodName)) ∈ xT := xT_5 121 rfl rfl
theorem tw5_122 : (Jvm.Cond.code ({ cls := "NobodyFirstModel", name := "has", desc := "(II)Z" } : Jvm.MethodName) prog_10_method_3_code (2 : Nat) (Option.some Jvm.ClassFile.FieldType.boolean)) ∈ xT := xT_5 122 rfl rfl
theorem tw5_123 : (Jvm.Cond.methodLink "NobodyFirstLaw" (45 : Nat) ({ cls := "NobodyFirstModel", name := "presses", desc := "(II)I" } : Jvm.MethodName)) ∈ xT := xT_5 123 rfl rfl
theorem tw5_124 : (Jvm.Cond.instanceMethod ({ cls := "NobodyFirstModel", name := "presses", desc := "(II)I" } : Jvm.MethodName)) ∈ xT := xT_5 124 rfl rfl
theorem tw5_125 : (Jvm.Cond.selects "NobodyFirstModel" ({ cls := "NobodyFirstModel", name := "presses", desc := "(II)I" } : Jvm.MethodName) ({ cls := "NobodyFirstModel", name := "presses", desc := "(II)I" } : Jvm.MethodName)) ∈ xT := xT_5 125 rfl rfl
theorem tw5_126 : (Jvm.Cond.code ({ cls := "NobodyFirstModel", name := "presses", desc := "(II)I" } : Jvm.MethodName) prog_10_method_33_code (3 : Nat) (Option.some Jvm.ClassFile.FieldType.int)) ∈ xT := xT_5 126 rfl rfl
theorem tw5_127 : (Jvm.Cond.methodLink "NobodyFirstLaw" (49 : Nat) ({ cls := "NobodyFirstModel", name := "is", desc := "(II)I" } : Jvm.MethodName)) ∈ xT := xT_5 127 rfl rfl
theorem tw5_128 : (Jvm.Cond.instanceMethod ({ cls := "NobodyFirstModel", name := "is", desc := "(II)I" } : Jvm.MethodName)) ∈ xT := xT_5 128 rfl rfl
theorem tw5_129 : (Jvm.Cond.selects "NobodyFirstModel" ({ cls := "NobodyFirstModel", name := "is", desc := "(II)I" } : Jvm.MethodName) ({ cls := "NobodyFirstModel", name := "is", desc := "(II)I" } : Jvm.MethodName)) ∈ xT := xT_5 129 rfl rfl
theorem tw5_130 : (Jvm.Cond.code ({ cls := "NobodyFirstModel", name := "is", desc := "(II)I" } : Jvm.MethodName) prog_10_method_34_code (3 : Nat) (Option.some Jvm.ClassFile.FieldType.int)) ∈ xT := xT_5 130 rfl rfl
theorem tw5_131 : (Jvm.Cond.constantLong "NobodyFirstModel" (238 : Nat) (999 : Int64)) ∈ xT := xT_5 131 rfl rfl
theorem tw5_132 : (Jvm.Cond.methodLink "NobodyFirstLaw" (53 : Nat) ({ cls := "NobodyFirstModel", name := "when", desc := "(II)I" } : Jvm.MethodName)) ∈ xT := xT_5 132 rfl rfl
theorem tw5_133 : (Jvm.Cond.instanceMethod ({ cls := "NobodyFirstModel", name := "when", desc := "(II)I" } : Jvm.MethodName)) ∈ xT := xT_5 133 rfl rfl
theorem tw5_134 : (Jvm.Cond.selects "NobodyFirstModel" ({ cls := "NobodyFirstModel", name := "when", desc := "(II)I" } : Jvm.MethodName) ({ cls := "NobodyFirstModel", name := "when", desc := "(II)I" } : Jvm.MethodName)) ∈ xT := xT_5 134 rfl rfl
theorem tw5_135 : (Jvm.Cond.code ({ cls := "NobodyFirstModel", name := "when", desc := "(II)I" } : Jvm.MethodName) prog_10_method_35_code (3 : Nat) (Option.some Jvm.ClassFile.FieldType.int)) ∈ xT := xT_5 135 rfl rfl
theorem tw5_136 : (Jvm.Cond.methodLink "NobodyFirstLaw" (58 : Nat) ({ cls := "NobodyFirstModel", name := "wasted", desc := "(I)I" } : Jvm.MethodName)) ∈ xT := xT_5 136 rfl rfl
theorem tw5_137 : (Jvm.Cond.instanceMethod ({ cls := "NobodyFirstModel", name := "wasted", desc := "(I)I" } : Jvm.MethodName)) ∈ xT := xT_5 137 rfl rfl
theorem tw5_138 : (Jvm.Cond.selects "NobodyFirstModel" ({ cls := "NobodyFirstModel", name := "wasted", desc := "(I)I" } : Jvm.MethodName) ({ cls := "NobodyFirstModel", name := "wasted", desc := "(I)I" } : Jvm.MethodName)) ∈ xT := xT_5 138 rfl rfl
theorem tw5_139 : (Jvm.Cond.code ({ cls := "NobodyFirstModel", name := "wasted", desc := "(I)I" } : Jvm.MethodName) prog_10_method_36_code (2 : Nat) (Option.some Jvm.ClassFile.FieldType.int)) ∈ xT := xT_5 139 rfl rfl
theorem tw5_140 : (Jvm.Cond.methodLink "NobodyFirstModel" (240 : Nat) ({ cls := "NobodyFirstModel", name := "allWasted", desc := "()I" } : Jvm.MethodName)) ∈ xT := xT_5 140 rfl rfl
theorem tw5_142 : (Jvm.Cond.instanceMethod ({ cls := "NobodyFirstModel", name := "allWasted", desc := "()I" } : Jvm.MethodName)) ∈ xT := xT_5 142 rfl rfl
theorem tw5_143 : (Jvm.Cond.code ({ cls := "NobodyFirstModel", name := "allWasted", desc := "()I" } : Jvm.MethodName) prog_10_method_29_code (3 : Nat) (Option.some Jvm.ClassFile.FieldType.int)) ∈ xT := xT_5 143 rfl rfl
theorem tw5_144 : (Jvm.Cond.methodLink "NobodyFirstModel" (218 : Nat) ({ cls := "NobodyFirstModel", name := "lastOf", desc := "()I" } : Jvm.MethodName)) ∈ xT := xT_5 144 rfl rfl
theorem tw5_146 : (Jvm.Cond.instanceMethod ({ cls := "NobodyFirstModel", name := "lastOf", desc := "()I" } : Jvm.MethodName)) ∈ xT := xT_5 146 rfl rfl
theorem tw5_147 : (Jvm.Cond.code ({ cls := "NobodyFirstModel", name := "lastOf", desc := "()I" } : Jvm.MethodName) prog_10_method_27_code (3 : Nat) (Option.some Jvm.ClassFile.FieldType.int)) ∈ xT := xT_5 147 rfl rfl
theorem tw5_148 : (Jvm.Cond.methodLink "NobodyFirstModel" (221 : Nat) ({ cls := "NobodyFirstModel", name := "away", desc := "(II)I" } : Jvm.MethodName)) ∈ xT := xT_5 148 rfl rfl
theorem tw5_149 : (Jvm.Cond.static ({ cls := "NobodyFirstModel", name := "away", desc := "(II)I" } : Jvm.MethodName)) ∈ xT := xT_5 149 rfl rfl
theorem tw5_150 : (Jvm.Cond.code ({ cls := "NobodyFirstModel", name := "away", desc := "(II)I" } : Jvm.MethodName) prog_10_method_28_code (2 : Nat) (Option.some Jvm.ClassFile.FieldType.int)) ∈ xT := xT_5 150 rfl rfl
theorem tw5_151 : (Jvm.Cond.methodLink "NobodyFirstLaw" (62 : Nat) ({ cls := "NobodyFirstModel", name := "frees", desc := "(II)I" } : Jvm.MethodName)) ∈ xT := xT_5 151 rfl rfl
theorem tw5_152 : (Jvm.Cond.instanceMethod ({ cls := "NobodyFirstModel", name := "frees", desc := "(II)I" } : Jvm.MethodName)) ∈ xT := xT_5 152 rfl rfl
theorem tw5_153 : (Jvm.Cond.selects "NobodyFirstModel" ({ cls := "NobodyFirstModel", name := "frees", desc := "(II)I" } : Jvm.MethodName) ({ cls := "NobodyFirstModel", name := "frees", desc := "(II)I" } : Jvm.MethodName)) ∈ xT := xT_5 153 rfl rfl
theorem tw5_154 : (Jvm.Cond.code ({ cls := "NobodyFirstModel", name := "frees", desc := "(II)I" } : Jvm.MethodName) prog_10_method_38_code (3 : Nat) (Option.some Jvm.ClassFile.FieldType.int)) ∈ xT := xT_5 154 rfl rfl
theorem tw5_155 : (Jvm.Cond.constant "NobodyFirstModel" (243 : Nat) (100000 : Int32)) ∈ xT := xT_5 155 rfl rfl
theorem tw5_156 : (Jvm.Cond.methodLink "NobodyFirstModel" (244 : Nat) ({ cls := "NobodyFirstModel", name := "freesOf", desc := "(II)I" } : Jvm.MethodName)) ∈ xT := xT_5 156 rfl rfl
theorem tw5_158 : (Jvm.Cond.instanceMethod ({ cls := "NobodyFirstModel", name := "freesOf", desc := "(II)I" } : Jvm.MethodName)) ∈ xT := xT_5 158 rfl rfl
theorem tw5_159 : (Jvm.Cond.code ({ cls := "NobodyFirstModel", name := "freesOf", desc := "(II)I" } : Jvm.MethodName) prog_10_method_37_code (4 : Nat) (Option.some Jvm.ClassFile.FieldType.int)) ∈ xT := xT_5 159 rfl rfl
theorem tw5_160 : (Jvm.Cond.methodLink "NobodyFirstLaw" (66 : Nat) ({ cls := "NobodyFirstModel", name := "madeUp", desc := "(II)I" } : Jvm.MethodName)) ∈ xT := xT_5 160 rfl rfl
theorem tw5_161 : (Jvm.Cond.instanceMethod ({ cls := "NobodyFirstModel", name := "madeUp", desc := "(II)I" } : Jvm.MethodName)) ∈ xT := xT_5 161 rfl rfl
theorem tw5_162 : (Jvm.Cond.selects "NobodyFirstModel" ({ cls := "NobodyFirstModel", name := "madeUp", desc := "(II)I" } : Jvm.MethodName) ({ cls := "NobodyFirstModel", name := "madeUp", desc := "(II)I" } : Jvm.MethodName)) ∈ xT := xT_5 162 rfl rfl
theorem tw5_163 : (Jvm.Cond.code ({ cls := "NobodyFirstModel", name := "madeUp", desc := "(II)I" } : Jvm.MethodName) prog_10_method_39_code (7 : Nat) (Option.some Jvm.ClassFile.FieldType.int)) ∈ xT := xT_5 163 rfl rfl
theorem tw5_164 : (Jvm.Cond.methodLink "NobodyFirstLaw" (70 : Nat) ({ cls := "NobodyFirstModel", name := "bell", desc := "(I)I" } : Jvm.MethodName)) ∈ xT := xT_5 164 rfl rfl
theorem tw5_165 : (Jvm.Cond.instanceMethod ({ cls := "NobodyFirstModel", name := "bell", desc := "(I)I" } : Jvm.MethodName)) ∈ xT := xT_5 165 rfl rfl
theorem tw5_166 : (Jvm.Cond.selects "NobodyFirstModel" ({ cls := "NobodyFirstModel", name := "bell", desc := "(I)I" } : Jvm.MethodName) ({ cls := "NobodyFirstModel", name := "bell", desc := "(I)I" } : Jvm.MethodName)) ∈ xT := xT_5 166 rfl rfl
theorem tw5_167 : (Jvm.Cond.code ({ cls := "NobodyFirstModel", name := "bell", desc := "(I)I" } : Jvm.MethodName) prog_10_method_41_code (2 : Nat) (Option.some Jvm.ClassFile.FieldType.int)) ∈ xT := xT_5 167 rfl rfl
theorem tw5_168 : (Jvm.Cond.methodLink "NobodyFirstModel" (247 : Nat) ({ cls := "NobodyFirstModel", name := "bellOf", desc := "(I)I" } : Jvm.MethodName)) ∈ xT := xT_5 168 rfl rfl
theorem tw5_170 : (Jvm.Cond.instanceMethod ({ cls := "NobodyFirstModel", name := "bellOf", desc := "(I)I" } : Jvm.MethodName)) ∈ xT := xT_5 170 rfl rfl
theorem tw5_171 : (Jvm.Cond.code ({ cls := "NobodyFirstModel", name := "bellOf", desc := "(I)I" } : Jvm.MethodName) prog_10_method_40_code (2 : Nat) (Option.some Jvm.ClassFile.FieldType.int)) ∈ xT := xT_5 171 rfl rfl
theorem tw5_172 : (Jvm.Cond.methodLink "NobodyFirstLaw" (74 : Nat) ({ cls := "NobodyFirstModel", name := "best", desc := "(I)I" } : Jvm.MethodName)) ∈ xT := xT_5 172 rfl rfl
theorem tw5_173 : (Jvm.Cond.instanceMethod ({ cls := "NobodyFirstModel", name := "best", desc := "(I)I" } : Jvm.MethodName)) ∈ xT := xT_5 173 rfl rfl
theorem tw5_174 : (Jvm.Cond.selects "NobodyFirstModel" ({ cls := "NobodyFirstModel", name := "best", desc := "(I)I" } : Jvm.MethodName) ({ cls := "NobodyFirstModel", name := "best", desc := "(I)I" } : Jvm.MethodName)) ∈ xT := xT_5 174 rfl rfl
theorem tw5_175 : (Jvm.Cond.code ({ cls := "NobodyFirstModel", name := "best", desc := "(I)I" } : Jvm.MethodName) prog_10_method_42_code (6 : Nat) (Option.some Jvm.ClassFile.FieldType.int)) ∈ xT := xT_5 175 rfl rfl
theorem tw5_176 : (Jvm.Cond.methodLink "NobodyFirstLaw" (78 : Nat) ({ cls := "NobodyFirstModel", name := "given", desc := "(I)I" } : Jvm.MethodName)) ∈ xT := xT_5 176 rfl rfl
theorem tw5_177 : (Jvm.Cond.instanceMethod ({ cls := "NobodyFirstModel", name := "given", desc := "(I)I" } : Jvm.MethodName)) ∈ xT := xT_5 177 rfl rfl
theorem tw5_178 : (Jvm.Cond.selects "NobodyFirstModel" ({ cls := "NobodyFirstModel", name := "given", desc := "(I)I" } : Jvm.MethodName) ({ cls := "NobodyFirstModel", name := "given", desc := "(I)I" } : Jvm.MethodName)) ∈ xT := xT_5 178 rfl rfl
theorem tw5_179 : (Jvm.Cond.code ({ cls := "NobodyFirstModel", name := "given", desc := "(I)I" } : Jvm.MethodName) prog_10_method_44_code (7 : Nat) (Option.some Jvm.ClassFile.FieldType.int)) ∈ xT := xT_5 179 rfl rfl
theorem tw5_180 : (Jvm.Cond.constantLong "NobodyFirstModel" (250 : Nat) (-1 : Int64)) ∈ xT := xT_5 180 rfl rfl
theorem tw5_181 : (Jvm.Cond.methodLink "NobodyFirstModel" (252 : Nat) ({ cls := "NobodyFirstModel", name := "givenBy", desc := "(I)I" } : Jvm.MethodName)) ∈ xT := xT_5 181 rfl rfl
theorem tw5_183 : (Jvm.Cond.instanceMethod ({ cls := "NobodyFirstModel", name := "givenBy", desc := "(I)I" } : Jvm.MethodName)) ∈ xT := xT_5 183 rfl rfl
theorem tw5_184 : (Jvm.Cond.code ({ cls := "NobodyFirstModel", name := "givenBy", desc := "(I)I" } : Jvm.MethodName) prog_10_method_43_code (5 : Nat) (Option.some Jvm.ClassFile.FieldType.int)) ∈ xT := xT_5 184 rfl rfl
theorem tw5_185 : (Jvm.Cond.methodLink "NobodyFirstLaw" (82 : Nat) ({ cls := "NobodyFirstModel", name := "cost", desc := "(II)I" } : Jvm.MethodName)) ∈ xT := xT_5 185 rfl rfl
theorem tw5_186 : (Jvm.Cond.instanceMethod ({ cls := "NobodyFirstModel", name := "cost", desc := "(II)I" } : Jvm.MethodName)) ∈ xT := xT_5 186 rfl rfl
theorem tw5_187 : (Jvm.Cond.selects "NobodyFirstModel" ({ cls := "NobodyFirstModel", name := "cost", desc := "(II)I" } : Jvm.MethodName) ({ cls := "NobodyFirstModel", name := "cost", desc := "(II)I" } : Jvm.MethodName)) ∈ xT := xT_5 187 rfl rfl
theorem tw5_188 : (Jvm.Cond.code ({ cls := "NobodyFirstModel", name := "cost", desc := "(II)I" } : Jvm.MethodName) prog_10_method_47_code (6 : Nat) (Option.some Jvm.ClassFile.FieldType.int)) ∈ xT := xT_5 188 rfl rfl
theorem tw5_189 : (Jvm.Cond.methodLink "NobodyFirstModel" (258 : Nat) ({ cls := "NobodyFirstModel", name := "layGame", desc := "()V" } : Jvm.MethodName)) ∈ xT := xT_5 189 rfl rfl
theorem tw5_191 : (Jvm.Cond.instanceMethod ({ cls := "NobodyFirstModel", name := "layGame", desc := "()V" } : Jvm.MethodName)) ∈ xT := xT_5 191 rfl rfl
theorem tw5_192 : (Jvm.Cond.code ({ cls := "NobodyFirstModel", name := "layGame", desc := "()V" } : Jvm.MethodName) prog_10_method_45_code (5 : Nat) (Option.none : Option Jvm.ClassFile.FieldType)) ∈ xT := xT_5 192 rfl rfl
theorem tw5_193 : (Jvm.Cond.constantLong "NobodyFirstModel" (261 : Nat) (99999 : Int64)) ∈ xT := xT_5 193 rfl rfl
theorem tw5_194 : (Jvm.Cond.methodLink "NobodyFirstModel" (263 : Nat) ({ cls := "NobodyFirstModel", name := "costOf", desc := "(I)I" } : Jvm.MethodName)) ∈ xT := xT_5 194 rfl rfl
theorem tw5_196 : (Jvm.Cond.instanceMethod ({ cls := "NobodyFirstModel", name := "costOf", desc := "(I)I" } : Jvm.MethodName)) ∈ xT := xT_5 196 rfl rfl
theorem tw5_197 : (Jvm.Cond.code ({ cls := "NobodyFirstModel", name := "costOf", desc := "(I)I" } : Jvm.MethodName) prog_10_method_46_code (4 : Nat) (Option.some Jvm.ClassFile.FieldType.int)) ∈ xT := xT_5 197 rfl rfl
theorem tw5_198 : (Jvm.Cond.methodLink "NobodyFirstLaw" (86 : Nat) ({ cls := "NobodyFirstModel", name := "rests", desc := "(I)I" } : Jvm.MethodName)) ∈ xT := xT_5 198 rfl rfl
theorem tw5_199 : (Jvm.Cond.instanceMethod ({ cls := "NobodyFirstModel", name := "rests", desc := "(I)I" } : Jvm.MethodName)) ∈ xT := xT_5 199 rfl rfl
theorem tw5_200 : (Jvm.Cond.selects "NobodyFirstModel" ({ cls := "NobodyFirstModel", name := "rests", desc := "(I)I" } : Jvm.MethodName) ({ cls := "NobodyFirstModel", name := "rests", desc := "(I)I" } : Jvm.MethodName)) ∈ xT := xT_5 200 rfl rfl
theorem tw5_201 : (Jvm.Cond.code ({ cls := "NobodyFirstModel", name := "rests", desc := "(I)I" } : Jvm.MethodName) prog_10_method_52_code (4 : Nat) (Option.some Jvm.ClassFile.FieldType.int)) ∈ xT := xT_5 201 rfl rfl
theorem tw5_202 : (Jvm.Cond.methodLink "NobodyFirstModel" (266 : Nat) ({ cls := "NobodyFirstModel", name := "codesOf", desc := "()I" } : Jvm.MethodName)) ∈ xT := xT_5 202 rfl rfl
theorem tw5_204 : (Jvm.Cond.instanceMethod ({ cls := "NobodyFirstModel", name := "codesOf", desc := "()I" } : Jvm.MethodName)) ∈ xT := xT_5 204 rfl rfl
theorem tw5_205 : (Jvm.Cond.code ({ cls := "NobodyFirstModel", name := "codesOf", desc := "()I" } : Jvm.MethodName) prog_10_method_51_code (3 : Nat) (Option.some Jvm.ClassFile.FieldType.int)) ∈ xT := xT_5 205 rfl rfl
theorem tw5_206 : (Jvm.Cond.methodLink "NobodyFirstModel" (269 : Nat) ({ cls := "NobodyFirstModel", name := "takeSlots", desc := "(I)V" } : Jvm.MethodName)) ∈ xT := xT_5 206 rfl rfl
theorem tw5_208 : (Jvm.Cond.instanceMethod ({ cls := "NobodyFirstModel", name := "takeSlots", desc := "(I)V" } : Jvm.MethodName)) ∈ xT := xT_5 208 rfl rfl
theorem tw5_209 : (Jvm.Cond.code ({ cls := "NobodyFirstModel", name := "takeSlots", desc := "(I)V" } : Jvm.MethodName) prog_10_method_48_code (4 : Nat) (Option.none : Option Jvm.ClassFile.FieldType)) ∈ xT := xT_5 209 rfl rfl
theorem tw5_210 : (Jvm.Cond.methodLink "NobodyFirstModel" (272 : Nat) ({ cls := "NobodyFirstModel", name := "isRest", desc := "()Z" } : Jvm.MethodName)) ∈ xT := xT_5 210 rfl rfl
theorem tw5_212 : (Jvm.Cond.instanceMethod ({ cls := "NobodyFirstModel", name := "isRest", desc := "()Z" } : Jvm.MethodName)) ∈ xT := xT_5 212 rfl rfl
theorem tw5_213 : (Jvm.Cond.code ({ cls := "NobodyFirstModel", name := "isRest", desc := "()Z" } : Jvm.MethodName) prog_10_method_49_code (6 : Nat) (Option.some Jvm.ClassFile.FieldType.boolean)) ∈ xT := xT_5 213 rfl rfl
theorem tw5_214 : (Jvm.Cond.methodLink "NobodyFirstLaw" (90 : Nat) ({ cls := "NobodyFirstModel", name := "price", desc := "()I" } : Jvm.MethodName)) ∈ xT := xT_5 214 rfl rfl
theorem tw5_215 : (Jvm.Cond.instanceMethod ({ cls := "NobodyFirstModel", name := "price", desc := "()I" } : Jvm.MethodName)) ∈ xT := xT_5 215 rfl rfl
theorem tw5_216 : (Jvm.Cond.selects "NobodyFirstModel" ({ cls := "NobodyFirstModel", name := "price", desc := "()I" } : Jvm.MethodName) ({ cls := "NobodyFirstModel", name := "price", desc := "()I" } : Jvm.MethodName)) ∈ xT := xT_5 216 rfl rfl
theorem tw5_217 : (Jvm.Cond.code ({ cls := "NobodyFirstModel", name := "price", desc := "()I" } : Jvm.MethodName) prog_10_method_53_code (5 : Nat) (Option.some Jvm.ClassFile.FieldType.int)) ∈ xT := xT_5 217 rfl rfl
theorem tw5_218 : (Jvm.Cond.methodLink "NobodyFirstModel" (275 : Nat) ({ cls := "NobodyFirstModel", name := "sumOfCosts", desc := "()I" } : Jvm.MethodName)) ∈ xT := xT_5 218 rfl rfl
theorem tw5_220 : (Jvm.Cond.instanceMethod ({ cls := "NobodyFirstModel", name := "sumOfCosts", desc := "()I" } : Jvm.MethodName)) ∈ xT := xT_5 220 rfl rfl
theorem tw5_221 : (Jvm.Cond.code ({ cls := "NobodyFirstModel", name := "sumOfCosts", desc := "()I" } : Jvm.MethodName) prog_10_method_50_code (3 : Nat) (Option.some Jvm.ClassFile.FieldType.int)) ∈ xT := xT_5 221 rfl rfl
theorem tw5_222 : (Jvm.Cond.methodLink "NobodyFirstLaw" (94 : Nat) ({ cls := "NobodyFirstModel", name := "meant", desc := "(II)I" } : Jvm.MethodName)) ∈ xT := xT_5 222 rfl rfl
theorem tw5_223 : (Jvm.Cond.instanceMethod ({ cls := "NobodyFirstModel", name := "meant", desc := "(II)I" } : Jvm.MethodName)) ∈ xT := xT_5 223 rfl rfl
theorem tw5_224 : (Jvm.Cond.selects "NobodyFirstModel" ({ cls := "NobodyFirstModel", name := "meant", desc := "(II)I" } : Jvm.MethodName) ({ cls := "NobodyFirstModel", name := "meant", desc := "(II)I" } : Jvm.MethodName)) ∈ xT := xT_5 224 rfl rfl
theorem tw5_225 : (Jvm.Cond.code ({ cls := "NobodyFirstModel", name := "meant", desc := "(II)I" } : Jvm.MethodName) prog_10_method_55_code (4 : Nat) (Option.some Jvm.ClassFile.FieldType.int)) ∈ xT := xT_5 225 rfl rfl
theorem tw5_226 : (Jvm.Cond.methodLink "NobodyFirstModel" (278 : Nat) ({ cls := "NobodyFirstModel", name := "lowest", desc := "(JJI)J" } : Jvm.MethodName)) ∈ xT := xT_5 226 rfl rfl
theorem tw5_227 : (Jvm.Cond.static ({ cls := "NobodyFirstModel", name := "lowest", desc := "(JJI)J" } : Jvm.MethodName)) ∈ xT := xT_5 227 rfl rfl
theorem tw5_228 : (Jvm.Cond.code ({ cls := "NobodyFirstModel", name := "lowest", desc := "(JJI)J" } : Jvm.MethodName) prog_10_method_54_code (11 : Nat) (Option.some Jvm.ClassFile.FieldType.long)) ∈ xT := xT_5 228 rfl rfl
theorem tw5_229 : (Jvm.Cond.methodLink "NobodyFirstLaw" (99 : Nat) ({ cls := "NobodyFirstModel", name := "since", desc := "(III)I" } : Jvm.MethodName)) ∈ xT := xT_5 229 rfl rfl
theorem tw5_230 : (Jvm.Cond.instanceMethod ({ cls := "NobodyFirstModel", name := "since", desc := "(III)I" } : Jvm.MethodName)) ∈ xT := xT_5 230 rfl rfl
theorem tw5_231 : (Jvm.Cond.selects "NobodyFirstModel" ({ cls := "NobodyFirstModel", name := "since", desc := "(III)I" } : Jvm.MethodName) ({ cls := "NobodyFirstModel", name := "since", desc := "(III)I" } : Jvm.MethodName)) ∈ xT := xT_5 231 rfl rfl
theorem tw5_232 : (Jvm.Cond.code ({ cls := "NobodyFirstModel", name := "since", desc := "(III)I" } : Jvm.MethodName) prog_10_method_57_code (7 : Nat) (Option.some Jvm.ClassFile.FieldType.int)) ∈ xT := xT_5 232 rfl rfl
theorem tw5_233 : (Jvm.Cond.constantLong "NobodyFirstModel" (284 : Nat) (11 : Int64)) ∈ xT := xT_5 233 rfl rfl
theorem tw5_234 : (Jvm.Cond.methodLink "NobodyFirstModel" (286 : Nat) ({ cls := "NobodyFirstModel", name := "sinceOf", desc := "(II)J" } : Jvm.MethodName)) ∈ xT := xT_5 234 rfl rfl
theorem tw5_236 : (Jvm.Cond.instanceMethod ({ cls := "NobodyFirstModel", name := "sinceOf", desc := "(II)J" } : Jvm.MethodName)) ∈ xT := xT_5 236 rfl rfl
theorem tw5_237 : (Jvm.Cond.code ({ cls := "NobodyFirstModel", name := "sinceOf", desc := "(II)J" } : Jvm.MethodName) prog_10_method_56_code (7 : Nat) (Option.some Jvm.ClassFile.FieldType.long)) ∈ xT := xT_5 237 rfl rfl
theorem tw5_238 : (Jvm.Cond.constantLong "NobodyFirstModel" (282 : Nat) (7 : Int64)) ∈ xT := xT_5 238 rfl rfl
theorem tw5_239 : (Jvm.Cond.methodLink "NobodyFirstLaw" (103 : Nat) ({ cls := "NobodyFirstModel", name := "leave", desc := "(III)I" } : Jvm.MethodName)) ∈ xT := xT_5 239 rfl rfl
theorem tw6_0 : (Jvm.Cond.instanceMethod ({ cls := "NobodyFirstModel", name := "leave", desc := "(III)I" } : Jvm.MethodName)) ∈ xT := xT_6 0 rfl rfl
theorem tw6_1 : (Jvm.Cond.selects "NobodyFirstModel" ({ cls := "NobodyFirstModel", name := "leave", desc := "(III)I" } : Jvm.MethodName) ({ cls := "NobodyFirstModel", name := "leave", desc := "(III)I" } : Jvm.MethodName)) ∈ xT := xT_6 1 rfl rfl
theorem tw6_2 : (Jvm.Cond.code ({ cls := "NobodyFirstModel", name := "leave", desc := "(III)I" } : Jvm.MethodName) prog_10_method_59_code (5 : Nat) (Option.some Jvm.ClassFile.FieldType.int)) ∈ xT := xT_6 2 rfl rfl
theorem tw6_3 : (Jvm.Cond.constantLong "NobodyFirstModel" (290 : Nat) (2 : Int64)) ∈ xT := xT_6 3 rfl rfl
theorem tw6_4 : (Jvm.Cond.constantLong "NobodyFirstModel" (292 : Nat) (20 : Int64)) ∈ xT := xT_6 4 rfl rfl
theorem tw6_5 : (Jvm.Cond.methodLink "NobodyFirstModel" (294 : Nat) ({ cls := "NobodyFirstModel", name := "around", desc := "(II)I" } : Jvm.MethodName)) ∈ xT := xT_6 5 rfl rfl
theorem tw6_6 : (Jvm.Cond.static ({ cls := "NobodyFirstModel", name := "around", desc := "(II)I" } : Jvm.MethodName)) ∈ xT := xT_6 6 rfl rfl
theorem tw6_7 : (Jvm.Cond.code ({ cls := "NobodyFirstModel", name := "around", desc := "(II)I" } : Jvm.MethodName) prog_10_method_58_code (2 : Nat) (Option.some Jvm.ClassFile.FieldType.int)) ∈ xT := xT_6 7 rfl rfl
theorem tw6_8 : (Jvm.Cond.methodLink "NobodyFirstLaw" (107 : Nat) ({ cls := "NobodyFirstModel", name := "drawn", desc := "(II)I" } : Jvm.MethodName)) ∈ xT := xT_6 8 rfl rfl
theorem tw6_9 : (Jvm.Cond.instanceMethod ({ cls := "NobodyFirstModel", name := "drawn", desc := "(II)I" } : Jvm.MethodName)) ∈ xT := xT_6 9 rfl rfl
theorem tw6_10 : (Jvm.Cond.selects "NobodyFirstModel" ({ cls := "NobodyFirstModel", name := "drawn", desc := "(II)I" } : Jvm.MethodName) ({ cls := "NobodyFirstModel", name := "drawn", desc := "(II)I" } : Jvm.MethodName)) ∈ xT := xT_6 10 rfl rfl
theorem tw6_11 : (Jvm.Cond.code ({ cls := "NobodyFirstModel", name := "drawn", desc := "(II)I" } : Jvm.MethodName) prog_10_method_60_code (3 : Nat) (Option.some Jvm.ClassFile.FieldType.int)) ∈ xT := xT_6 11 rfl rfl
theorem tw6_12 : (Jvm.Cond.constantLong "NobodyFirstModel" (297 : Nat) (9999 : Int64)) ∈ xT := xT_6 12 rfl rfl
theorem tw6_13 : (Jvm.Cond.methodLink "NobodyFirstLaw" (111 : Nat) ({ cls := "NobodyFirstModel", name := "sign", desc := "(II)I" } : Jvm.MethodName)) ∈ xT := xT_6 13 rfl rfl
theorem tw6_14 : (Jvm.Cond.instanceMethod ({ cls := "NobodyFirstModel", name := "sign", desc := "(II)I" } : Jvm.MethodName)) ∈ xT := xT_6 14 rfl rfl
theorem tw6_15 : (Jvm.Cond.selects "NobodyFirstModel" ({ cls := "NobodyFirstModel", name := "sign", desc := "(II)I" } : Jvm.MethodName) ({ cls := "NobodyFirstModel", name := "sign", desc := "(II)I" } : Jvm.MethodName)) ∈ xT := xT_6 15 rfl rfl
theorem tw6_16 : (Jvm.Cond.code ({ cls := "NobodyFirstModel", name := "sign", desc := "(II)I" } : Jvm.MethodName) prog_10_method_62_code (3 : Nat) (Option.some Jvm.ClassFile.FieldType.int)) ∈ xT := xT_6 16 rfl rfl
theorem tw6_17 : (Jvm.Cond.methodLink "NobodyFirstModel" (299 : Nat) ({ cls := "NobodyFirstModel", name := "note", desc := "(I)V" } : Jvm.MethodName)) ∈ xT := xT_6 17 rfl rfl
theorem tw6_19 : (Jvm.Cond.instanceMethod ({ cls := "NobodyFirstModel", name := "note", desc := "(I)V" } : Jvm.MethodName)) ∈ xT := xT_6 19 rfl rfl
theorem tw6_20 : (Jvm.Cond.code ({ cls := "NobodyFirstModel", name := "note", desc := "(I)V" } : Jvm.MethodName) prog_10_method_61_code (3 : Nat) (Option.none : Option Jvm.ClassFile.FieldType)) ∈ xT := xT_6 20 rfl rfl
theorem tw6_21 : (Jvm.Cond.methodLink "NobodyFirstLaw" (115 : Nat) ({ cls := "NobodyFirstModel", name := "say", desc := "(I)I" } : Jvm.MethodName)) ∈ xT := xT_6 21 rfl rfl
theorem tw6_22 : (Jvm.Cond.instanceMethod ({ cls := "NobodyFirstModel", name := "say", desc := "(I)I" } : Jvm.MethodName)) ∈ xT := xT_6 22 rfl rfl
theorem tw6_23 : (Jvm.Cond.selects "NobodyFirstModel" ({ cls := "NobodyFirstModel", name := "say", desc := "(I)I" } : Jvm.MethodName) ({ cls := "NobodyFirstModel", name := "say", desc := "(I)I" } : Jvm.MethodName)) ∈ xT := xT_6 23 rfl rfl
theorem tw6_24 : (Jvm.Cond.code ({ cls := "NobodyFirstModel", name := "say", desc := "(I)I" } : Jvm.MethodName) prog_10_method_63_code (2 : Nat) (Option.some Jvm.ClassFile.FieldType.int)) ∈ xT := xT_6 24 rfl rfl
theorem tw6_25 : (Jvm.Cond.methodLink "NobodyFirstLaw" (119 : Nat) ({ cls := "NobodyFirstModel", name := "takeBack", desc := "()I" } : Jvm.MethodName)) ∈ xT := xT_6 25 rfl rfl
theorem tw6_26 : (Jvm.Cond.instanceMethod ({ cls := "NobodyFirstModel", name := "takeBack", desc := "()I" } : Jvm.MethodName)) ∈ xT := xT_6 26 rfl rfl
theorem tw6_27 : (Jvm.Cond.selects "NobodyFirstModel" ({ cls := "NobodyFirstModel", name := "takeBack", desc := "()I" } : Jvm.MethodName) ({ cls := "NobodyFirstModel", name := "takeBack", desc := "()I" } : Jvm.MethodName)) ∈ xT := xT_6 27 rfl rfl
theorem tw6_28 : (Jvm.Cond.code ({ cls := "NobodyFirstModel", name := "takeBack", desc := "()I" } : Jvm.MethodName) prog_10_method_64_code (1 : Nat) (Option.some Jvm.ClassFile.FieldType.int)) ∈ xT := xT_6 28 rfl rfl
theorem tw6_29 : (Jvm.Cond.methodLink "NobodyFirstLaw" (123 : Nat) ({ cls := "NobodyFirstModel", name := "keep", desc := "()I" } : Jvm.MethodName)) ∈ xT := xT_6 29 rfl rfl
theorem tw6_30 : (Jvm.Cond.instanceMethod ({ cls := "NobodyFirstModel", name := "keep", desc := "()I" } : Jvm.MethodName)) ∈ xT := xT_6 30 rfl rfl
theorem tw6_31 : (Jvm.Cond.selects "NobodyFirstModel" ({ cls := "NobodyFirstModel", name := "keep", desc := "()I" } : Jvm.MethodName) ({ cls := "NobodyFirstModel", name := "keep", desc := "()I" } : Jvm.MethodName)) ∈ xT := xT_6 31 rfl rfl
theorem tw6_32 : (Jvm.Cond.code ({ cls := "NobodyFirstModel", name := "keep", desc := "()I" } : Jvm.MethodName) prog_10_method_65_code (1 : Nat) (Option.some Jvm.ClassFile.FieldType.int)) ∈ xT := xT_6 32 rfl rfl
theorem tw6_33 : (Jvm.Cond.methodLink "NobodyFirstLaw" (127 : Nat) ({ cls := "NobodyFirstModel", name := "back", desc := "()I" } : Jvm.MethodName)) ∈ xT := xT_6 33 rfl rfl
theorem tw6_34 : (Jvm.Cond.instanceMethod ({ cls := "NobodyFirstModel", name := "back", desc := "()I" } : Jvm.MethodName)) ∈ xT := xT_6 34 rfl rfl
theorem tw6_35 : (Jvm.Cond.selects "NobodyFirstModel" ({ cls := "NobodyFirstModel", name := "back", desc := "()I" } : Jvm.MethodName) ({ cls := "NobodyFirstModel", name := "back", desc := "()I" } : Jvm.MethodName)) ∈ xT := xT_6 35 rfl rfl
theorem tw6_36 : (Jvm.Cond.code ({ cls := "NobodyFirstModel", name := "back", desc := "()I" } : Jvm.MethodName) prog_10_method_66_code (1 : Nat) (Option.some Jvm.ClassFile.FieldType.int)) ∈ xT := xT_6 36 rfl rfl
theorem tw6_37 : (Jvm.Cond.methodLink "NobodyFirstLaw" (131 : Nat) ({ cls := "NobodyFirstModel", name := "count", desc := "(I)I" } : Jvm.MethodName)) ∈ xT := xT_6 37 rfl rfl
theorem tw6_38 : (Jvm.Cond.instanceMethod ({ cls := "NobodyFirstModel", name := "count", desc := "(I)I" } : Jvm.MethodName)) ∈ xT := xT_6 38 rfl rfl
theorem tw6_39 : (Jvm.Cond.selects "NobodyFirstModel" ({ cls := "NobodyFirstModel", name := "count", desc := "(I)I" } : Jvm.MethodName) ({ cls := "NobodyFirstModel", name := "count", desc := "(I)I" } : Jvm.MethodName)) ∈ xT := xT_6 39 rfl rfl
theorem tw6_40 : (Jvm.Cond.code ({ cls := "NobodyFirstModel", name := "count", desc := "(I)I" } : Jvm.MethodName) prog_10_method_68_code (2 : Nat) (Option.some Jvm.ClassFile.FieldType.int)) ∈ xT := xT_6 40 rfl rfl
theorem tw6_41 : (Jvm.Cond.methodLink "NobodyFirstModel" (302 : Nat) ({ cls := "NobodyFirstModel", name := "pairMany", desc := "()I" } : Jvm.MethodName)) ∈ xT := xT_6 41 rfl rfl
theorem tw6_43 : (Jvm.Cond.instanceMethod ({ cls := "NobodyFirstModel", name := "pairMany", desc := "()I" } : Jvm.MethodName)) ∈ xT := xT_6 43 rfl rfl
theorem tw6_44 : (Jvm.Cond.code ({ cls := "NobodyFirstModel", name := "pairMany", desc := "()I" } : Jvm.MethodName) prog_10_method_67_code (4 : Nat) (Option.some Jvm.ClassFile.FieldType.int)) ∈ xT := xT_6 44 rfl rfl
theorem tw6_45 : (Jvm.Cond.constantLong "NobodyFirstLaw" (13 : Nat) (4294967295 : Int64)) ∈ xT := xT_6 45 rfl rfl
theorem tw6_46 : (Jvm.Cond.fieldLink "java/lang/String" (15 : Nat) "java/lang/String" "coder" "B") ∈ xT := xT_6 46 rfl rfl
theorem tw6_47 : (Jvm.Cond.fieldLink "java/lang/String" (9 : Nat) "java/lang/String" "value" "[B") ∈ xT := xT_6 47 rfl rfl
theorem tp1_0 : Cond.selects "NobodyFirst$Reader" ⟨"NobodyFirst$Reader", "readNumbers", "([BII)Z"⟩ ⟨"NobodyFirst$Reader", "readNumbers", "([BII)Z"⟩ ∈ xT := xT_p (List.mem_append_left _ (List.mem_of_getElem? (i := 0) rfl))
theorem tp1_1 : Cond.selects "NobodyFirst$Reader" ⟨"NobodyFirst$Reader", "readNumber", "([BI)I"⟩ ⟨"NobodyFirst$Reader", "readNumber", "([BI)I"⟩ ∈ xT := xT_p (List.mem_append_left _ (List.mem_of_getElem? (i := 1) rfl))
theorem tp1_2 : Cond.selects "NobodyFirst$Reader" ⟨"NobodyFirst$Reader", "enter", "(ILNobodyFirst$Party;)Z"⟩ ⟨"NobodyFirst$Reader", "enter", "(ILNobodyFirst$Party;)Z"⟩ ∈ xT := xT_p (List.mem_append_left _ (List.mem_of_getElem? (i := 2) rfl))
theorem tp1_3 : Cond.selects "NobodyFirst" ⟨"NobodyFirst", "isGuest", "(I)Z"⟩ ⟨"NobodyFirst", "isGuest", "(I)Z"⟩ ∈ xT := xT_p (List.mem_append_left _ (List.mem_of_getElem? (i := 3) rfl))
theorem tp1_4 : Cond.selects "NobodyFirst" ⟨"NobodyFirst", "passAsItIs", "()V"⟩ ⟨"NobodyFirst", "passAsItIs", "()V"⟩ ∈ xT := xT_p (List.mem_append_left _ (List.mem_of_getElem? (i := 4) rfl))
theorem tp1_5 : Cond.selects "NobodyFirst$Evening" ⟨"NobodyFirst$Evening", "goOnFrom", "(I)I"⟩ ⟨"NobodyFirst$Evening", "goOnFrom", "(I)I"⟩ ∈ xT := xT_p (List.mem_append_left _ (List.mem_of_getElem? (i := 5) rfl))
theorem tp1_6 : Cond.selects "NobodyFirst$Evening" ⟨"NobodyFirst$Evening", "nextChange", "(I)I"⟩ ⟨"NobodyFirst$Evening", "nextChange", "(I)I"⟩ ∈ xT := xT_p (List.mem_append_left _ (List.mem_of_getElem? (i := 6) rfl))
theorem tp1_7 : Cond.selects "NobodyFirst$Evening" ⟨"NobodyFirst$Evening", "sits", "(I)Z"⟩ ⟨"NobodyFirst$Evening", "sits", "(I)Z"⟩ ∈ xT := xT_p (List.mem_append_left _ (List.mem_of_getElem? (i := 7) rfl))
theorem tp1_8 : Cond.selects "NobodyFirst$Evening" ⟨"NobodyFirst$Evening", "pairFrom", "(II)I"⟩ ⟨"NobodyFirst$Evening", "pairFrom", "(II)I"⟩ ∈ xT := xT_p (List.mem_append_left _ (List.mem_of_getElem? (i := 8) rfl))
theorem tp1_9 : Cond.selects "NobodyFirst$Evening" ⟨"NobodyFirst$Evening", "goesAfter", "(I)I"⟩ ⟨"NobodyFirst$Evening", "goesAfter", "(I)I"⟩ ∈ xT := xT_p (List.mem_append_left _ (List.mem_of_getElem? (i := 9) rfl))
theorem tp1_10 : Cond.selects "NobodyFirst" ⟨"NobodyFirst", "allWithBus", "(II)I"⟩ ⟨"NobodyFirst", "allWithBus", "(II)I"⟩ ∈ xT := xT_p (List.mem_append_left _ (List.mem_of_getElem? (i := 10) rfl))
theorem tp1_11 : Cond.selects "NobodyFirst" ⟨"NobodyFirst", "allWithBell", "(I)I"⟩ ⟨"NobodyFirst", "allWithBell", "(I)I"⟩ ∈ xT := xT_p (List.mem_append_left _ (List.mem_of_getElem? (i := 11) rfl))
theorem tp1_12 : Cond.selects "NobodyFirst$Giving" ⟨"NobodyFirst$Giving", "choose", "(II)V"⟩ ⟨"NobodyFirst$Giving", "choose", "(II)V"⟩ ∈ xT := xT_p (List.mem_append_left _ (List.mem_of_getElem? (i := 12) rfl))
theorem tp1_13 : Cond.selects "NobodyFirst$Giving" ⟨"NobodyFirst$Giving", "giveChosen", "(LNobodyFirst$Party;LNobodyFirst$Evening;)I"⟩ ⟨"NobodyFirst$Giving", "giveChosen", "(LNobodyFirst$Party;LNobodyFirst$Evening;)I"⟩ ∈ xT := xT_p (List.mem_append_left _ (List.mem_of_getElem? (i := 13) rfl))
theorem tp1_14 : Cond.selects "NobodyFirst$Game" ⟨"NobodyFirst$Game", "isFirstAlone", "(I)Z"⟩ ⟨"NobodyFirst$Game", "isFirstAlone", "(I)Z"⟩ ∈ xT := xT_p (List.mem_append_left _ (List.mem_of_getElem? (i := 14) rfl))
theorem tp1_15 : Cond.selects "NobodyFirst$Game" ⟨"NobodyFirst$Game", "choose", "(I)V"⟩ ⟨"NobodyFirst$Game", "choose", "(I)V"⟩ ∈ xT := xT_p (List.mem_append_left _ (List.mem_of_getElem? (i := 15) rfl))
theorem tp2_0 : Cond.selects "NobodyFirst$Game" ⟨"NobodyFirst$Game", "weighChoice", "()V"⟩ ⟨"NobodyFirst$Game", "weighChoice", "()V"⟩ ∈ xT := xT_p (List.mem_append_right _ (List.mem_append_left _ (List.mem_of_getElem? (i := 0) rfl)))
theorem tp2_1 : Cond.selects "NobodyFirst$Game" ⟨"NobodyFirst$Game", "isRest", "()Z"⟩ ⟨"NobodyFirst$Game", "isRest", "()Z"⟩ ∈ xT := xT_p (List.mem_append_right _ (List.mem_append_left _ (List.mem_of_getElem? (i := 1) rfl)))
theorem tp2_2 : Cond.selects "NobodyFirst$Game" ⟨"NobodyFirst$Game", "wouldRatherMove", "(I)Z"⟩ ⟨"NobodyFirst$Game", "wouldRatherMove", "(I)Z"⟩ ∈ xT := xT_p (List.mem_append_right _ (List.mem_append_left _ (List.mem_of_getElem? (i := 2) rfl)))
theorem tp2_3 : Cond.selects "NobodyFirst$History" ⟨"NobodyFirst$History", "placeOf", "(I)LNobodyFirst$Told;"⟩ ⟨"NobodyFirst$History", "placeOf", "(I)LNobodyFirst$Told;"⟩ ∈ xT := xT_p (List.mem_append_right _ (List.mem_append_left _ (List.mem_of_getElem? (i := 3) rfl)))
theorem tp2_4 : Cond.selects "NobodyFirstModel" ⟨"NobodyFirstModel", "noEvening", "(I)V"⟩ ⟨"NobodyFirstModel", "noEvening", "(I)V"⟩ ∈ xT := xT_p (List.mem_append_right _ (List.mem_append_left _ (List.mem_of_getElem? (i := 4) rfl)))
theorem tp2_5 : Cond.selects "NobodyFirstModel" ⟨"NobodyFirstModel", "readAll", "()I"⟩ ⟨"NobodyFirstModel", "readAll", "()I"⟩ ∈ xT := xT_p (List.mem_append_right _ (List.mem_append_left _ (List.mem_of_getElem? (i := 5) rfl)))
theorem tp2_6 : Cond.selects "NobodyFirstModel" ⟨"NobodyFirstModel", "item", "()Z"⟩ ⟨"NobodyFirstModel", "item", "()Z"⟩ ∈ xT := xT_p (List.mem_append_right _ (List.mem_append_left _ (List.mem_of_getElem? (i := 6) rfl)))
theorem tp2_7 : Cond.selects "NobodyFirstModel" ⟨"NobodyFirstModel", "byteAt", "(I)I"⟩ ⟨"NobodyFirstModel", "byteAt", "(I)I"⟩ ∈ xT := xT_p (List.mem_append_right _ (List.mem_append_left _ (List.mem_of_getElem? (i := 7) rfl)))
theorem tp2_8 : Cond.selects "NobodyFirstModel" ⟨"NobodyFirstModel", "guestItem", "()Z"⟩ ⟨"NobodyFirstModel", "guestItem", "()Z"⟩ ∈ xT := xT_p (List.mem_append_right _ (List.mem_append_left _ (List.mem_of_getElem? (i := 8) rfl)))
theorem tp2_9 : Cond.selects "NobodyFirstModel" ⟨"NobodyFirstModel", "figures", "(I)Z"⟩ ⟨"NobodyFirstModel", "figures", "(I)Z"⟩ ∈ xT := xT_p (List.mem_append_right _ (List.mem_append_left _ (List.mem_of_getElem? (i := 9) rfl)))
theorem tp2_10 : Cond.selects "NobodyFirstModel" ⟨"NobodyFirstModel", "lookItem", "()Z"⟩ ⟨"NobodyFirstModel", "lookItem", "()Z"⟩ ∈ xT := xT_p (List.mem_append_right _ (List.mem_append_left _ (List.mem_of_getElem? (i := 10) rfl)))
theorem tp2_11 : Cond.selects "NobodyFirstModel" ⟨"NobodyFirstModel", "copyTold", "(II)V"⟩ ⟨"NobodyFirstModel", "copyTold", "(II)V"⟩ ∈ xT := xT_p (List.mem_append_right _ (List.mem_append_left _ (List.mem_of_getElem? (i := 11) rfl)))
theorem tp2_12 : Cond.selects "NobodyFirstModel" ⟨"NobodyFirstModel", "isGuest", "(I)Z"⟩ ⟨"NobodyFirstModel", "isGuest", "(I)Z"⟩ ∈ xT := xT_p (List.mem_append_right _ (List.mem_append_left _ (List.mem_of_getElem? (i := 12) rfl)))
theorem tp2_13 : Cond.selects "NobodyFirstModel" ⟨"NobodyFirstModel", "goAsItIs", "()V"⟩ ⟨"NobodyFirstModel", "goAsItIs", "()V"⟩ ∈ xT := xT_p (List.mem_append_right _ (List.mem_append_left _ (List.mem_of_getElem? (i := 13) rfl)))
theorem tp2_14 : Cond.selects "NobodyFirstModel" ⟨"NobodyFirstModel", "asItIs", "()V"⟩ ⟨"NobodyFirstModel", "asItIs", "()V"⟩ ∈ xT := xT_p (List.mem_append_right _ (List.mem_append_left _ (List.mem_of_getElem? (i := 14) rfl)))
theorem tp2_15 : Cond.selects "NobodyFirstModel" ⟨"NobodyFirstModel", "goEvening", "()V"⟩ ⟨"NobodyFirstModel", "goEvening", "()V"⟩ ∈ xT := xT_p (List.mem_append_right _ (List.mem_append_left _ (List.mem_of_getElem? (i := 15) rfl)))
theorem tp3_0 : Cond.selects "NobodyFirstModel" ⟨"NobodyFirstModel", "standsAt", "(II)Z"⟩ ⟨"NobodyFirstModel", "standsAt", "(II)Z"⟩ ∈ xT := xT_p (List.mem_append_right _ (List.mem_append_right _ (List.mem_append_left _ (List.mem_of_getElem? (i := 0) rfl))))
theorem tp3_1 : Cond.selects "NobodyFirstModel" ⟨"NobodyFirstModel", "doesPress", "(II)Z"⟩ ⟨"NobodyFirstModel", "doesPress", "(II)Z"⟩ ∈ xT := xT_p (List.mem_append_right _ (List.mem_append_right _ (List.mem_append_left _ (List.mem_of_getElem? (i := 1) rfl))))
theorem tp3_2 : Cond.selects "NobodyFirstModel" ⟨"NobodyFirstModel", "isBus", "(I)Z"⟩ ⟨"NobodyFirstModel", "isBus", "(I)Z"⟩ ∈ xT := xT_p (List.mem_append_right _ (List.mem_append_right _ (List.mem_append_left _ (List.mem_of_getElem? (i := 2) rfl))))
theorem tp3_3 : Cond.selects "NobodyFirstModel" ⟨"NobodyFirstModel", "shameOf", "(II)I"⟩ ⟨"NobodyFirstModel", "shameOf", "(II)I"⟩ ∈ xT := xT_p (List.mem_append_right _ (List.mem_append_right _ (List.mem_append_left _ (List.mem_of_getElem? (i := 3) rfl))))
theorem tp3_4 : Cond.selects "NobodyFirstModel" ⟨"NobodyFirstModel", "counts", "(II)Z"⟩ ⟨"NobodyFirstModel", "counts", "(II)Z"⟩ ∈ xT := xT_p (List.mem_append_right _ (List.mem_append_right _ (List.mem_append_left _ (List.mem_of_getElem? (i := 4) rfl))))
theorem tp3_5 : Cond.selects "NobodyFirstModel" ⟨"NobodyFirstModel", "stoodAhead", "(I)I"⟩ ⟨"NobodyFirstModel", "stoodAhead", "(I)I"⟩ ∈ xT := xT_p (List.mem_append_right _ (List.mem_append_right _ (List.mem_append_left _ (List.mem_of_getElem? (i := 5) rfl))))
theorem tp3_6 : Cond.selects "NobodyFirstModel" ⟨"NobodyFirstModel", "allWasted", "()I"⟩ ⟨"NobodyFirstModel", "allWasted", "()I"⟩ ∈ xT := xT_p (List.mem_append_right _ (List.mem_append_right _ (List.mem_append_left _ (List.mem_of_getElem? (i := 6) rfl))))
theorem tp3_7 : Cond.selects "NobodyFirstModel" ⟨"NobodyFirstModel", "lastOf", "()I"⟩ ⟨"NobodyFirstModel", "lastOf", "()I"⟩ ∈ xT := xT_p (List.mem_append_right _ (List.mem_append_right _ (List.mem_append_left _ (List.mem_of_getElem? (i := 7) rfl))))
theorem tp3_8 : Cond.selects "NobodyFirstModel" ⟨"NobodyFirstModel", "freesOf", "(II)I"⟩ ⟨"NobodyFirstModel", "freesOf", "(II)I"⟩ ∈ xT := xT_p (List.mem_append_right _ (List.mem_append_right _ (List.mem_append_left _ (List.mem_of_getElem? (i := 8) rfl))))
theorem tp3_9 : Cond.selects "NobodyFirstModel" ⟨"NobodyFirstModel", "bellOf", "(I)I"⟩ ⟨"NobodyFirstModel", "bellOf", "(I)I"⟩ ∈ xT := xT_p (List.mem_append_right _ (List.mem_append_right _ (List.mem_append_left _ (List.mem_of_getElem? (i := 9) rfl))))
theorem tp3_10 : Cond.selects "NobodyFirstModel" ⟨"NobodyFirstModel", "givenBy", "(I)I"⟩ ⟨"NobodyFirstModel", "givenBy", "(I)I"⟩ ∈ xT := xT_p (List.mem_append_right _ (List.mem_append_right _ (List.mem_append_left _ (List.mem_of_getElem? (i := 10) rfl))))
theorem tp3_11 : Cond.selects "NobodyFirstModel" ⟨"NobodyFirstModel", "layGame", "()V"⟩ ⟨"NobodyFirstModel", "layGame", "()V"⟩ ∈ xT := xT_p (List.mem_append_right _ (List.mem_append_right _ (List.mem_append_left _ (List.mem_of_getElem? (i := 11) rfl))))
theorem tp3_12 : Cond.selects "NobodyFirstModel" ⟨"NobodyFirstModel", "costOf", "(I)I"⟩ ⟨"NobodyFirstModel", "costOf", "(I)I"⟩ ∈ xT := xT_p (List.mem_append_right _ (List.mem_append_right _ (List.mem_append_left _ (List.mem_of_getElem? (i := 12) rfl))))
theorem tp3_13 : Cond.selects "NobodyFirstModel" ⟨"NobodyFirstModel", "codesOf", "()I"⟩ ⟨"NobodyFirstModel", "codesOf", "()I"⟩ ∈ xT := xT_p (List.mem_append_right _ (List.mem_append_right _ (List.mem_append_left _ (List.mem_of_getElem? (i := 13) rfl))))
theorem tp3_14 : Cond.selects "NobodyFirstModel" ⟨"NobodyFirstModel", "takeSlots", "(I)V"⟩ ⟨"NobodyFirstModel", "takeSlots", "(I)V"⟩ ∈ xT := xT_p (List.mem_append_right _ (List.mem_append_right _ (List.mem_append_left _ (List.mem_of_getElem? (i := 14) rfl))))
theorem tp3_15 : Cond.selects "NobodyFirstModel" ⟨"NobodyFirstModel", "isRest", "()Z"⟩ ⟨"NobodyFirstModel", "isRest", "()Z"⟩ ∈ xT := xT_p (List.mem_append_right _ (List.mem_append_right _ (List.mem_append_left _ (List.mem_of_getElem? (i := 15) rfl))))
theorem tp4_0 : Cond.selects "NobodyFirstModel" ⟨"NobodyFirstModel", "sumOfCosts", "()I"⟩ ⟨"NobodyFirstModel", "sumOfCosts", "()I"⟩ ∈ xT := xT_p (List.mem_append_right _ (List.mem_append_right _ (List.mem_append_right _ (List.mem_of_getElem? (i := 0) rfl))))
theorem tp4_1 : Cond.selects "NobodyFirstModel" ⟨"NobodyFirstModel", "sinceOf", "(II)J"⟩ ⟨"NobodyFirstModel", "sinceOf", "(II)J"⟩ ∈ xT := xT_p (List.mem_append_right _ (List.mem_append_right _ (List.mem_append_right _ (List.mem_of_getElem? (i := 1) rfl))))
theorem tp4_2 : Cond.selects "NobodyFirstModel" ⟨"NobodyFirstModel", "note", "(I)V"⟩ ⟨"NobodyFirstModel", "note", "(I)V"⟩ ∈ xT := xT_p (List.mem_append_right _ (List.mem_append_right _ (List.mem_append_right _ (List.mem_of_getElem? (i := 2) rfl))))
theorem tp4_3 : Cond.selects "NobodyFirstModel" ⟨"NobodyFirstModel", "pairMany", "()I"⟩ ⟨"NobodyFirstModel", "pairMany", "()I"⟩ ∈ xT := xT_p (List.mem_append_right _ (List.mem_append_right _ (List.mem_append_right _ (List.mem_of_getElem? (i := 3) rfl))))
theorem inT_X0 : ∀ w ∈ u_ws RX0 TX0 14, w ∈ xT := show ∀ w ∈ ([Cond.lays "NobodyFirst$Evening" "NobodyFirst$Evening" "party" "LNobodyFirst$Party;", Cond.laysFinal "NobodyFirst$Evening" "NobodyFirst$Evening" "kind" "[I", Cond.laysFinal "NobodyFirst$Evening" "NobodyFirst$Evening" "goesFrom" "[I", Cond.lays "NobodyFirst$Evening" "NobodyFirst$Evening" "signs" "I", Cond.laysFinal "NobodyFirst$Evening" "NobodyFirst$Evening" "signMinute" "[I", Cond.laysFinal "NobodyFirst$Evening" "NobodyFirst$Evening" "signWorth" "[I", Cond.laysFinal "NobodyFirst$Evening" "NobodyFirst$Evening" "heardBy" "[I", Cond.lays "NobodyFirst$Evening" "NobodyFirst$Evening" "allStandAt" "I", Cond.lays "NobodyFirst$Evening" "NobodyFirst$Evening" "present" "I", Cond.lays "NobodyFirst$Evening" "NobodyFirst$Evening" "stood" "I", Cond.lays "NobodyFirst$Evening" "NobodyFirst$Evening" "guestsStood" "I", Cond.laysFinal "NobodyFirst$Evening" "NobodyFirst$Evening" "ready" "[I", Cond.laysFinal "NobodyFirst$Evening" "NobodyFirst$Evening" "stands" "[I", Cond.laysFinal "NobodyFirst$Evening" "NobodyFirst$Evening" "goes" "[I"] : List Cond), w ∈ xT from List.forall_mem_cons.mpr ⟨tw1_182, List.forall_mem_cons.mpr ⟨tw1_184, List.forall_mem_cons.mpr ⟨tw1_186, List.forall_mem_cons.mpr ⟨tw1_188, List.forall_mem_cons.mpr ⟨tw1_190, List.forall_mem_cons.mpr ⟨tw1_192, List.forall_mem_cons.mpr ⟨tw1_194, List.forall_mem_cons.mpr ⟨tw1_196, List.forall_mem_cons.mpr ⟨tw1_198, List.forall_mem_cons.mpr ⟨tw1_200, List.forall_mem_cons.mpr ⟨tw1_202, List.forall_mem_cons.mpr ⟨tw1_204, List.forall_mem_cons.mpr ⟨tw1_206, List.forall_mem_cons.mpr ⟨tw1_208, fun _ h => absurd h List.not_mem_nil⟩⟩⟩⟩⟩⟩⟩⟩⟩⟩⟩⟩⟩⟩
theorem inT_X1 : ∀ w ∈ u_ws RX1 TX1 9, w ∈ xT := show ∀ w ∈ ([Cond.lays "NobodyFirst$Game" "NobodyFirst$Game" "known" "Z", Cond.lays "NobodyFirst$Game" "NobodyFirst$Game" "pairs" "I", Cond.laysFinal "NobodyFirst$Game" "NobodyFirst$Game" "wouldGo" "[I", Cond.laysFinal "NobodyFirst$Game" "NobodyFirst$Game" "ownShame" "[I", Cond.laysFinal "NobodyFirst$Game" "NobodyFirst$Game" "slot" "[I", Cond.laysFinal "NobodyFirst$Game" "NobodyFirst$Game" "firstRest" "[I", Cond.lays "NobodyFirst$Game" "NobodyFirst$Game" "restsFound" "I", Cond.lays "NobodyFirst$Game" "NobodyFirst$Game" "leastOfRests" "I", Cond.lays "NobodyFirst$Game" "NobodyFirst$Game" "leastOfAll" "I"] : List Cond), w ∈ xT from List.forall_mem_cons.mpr ⟨tw2_12, List.forall_mem_cons.mpr ⟨tw2_14, List.forall_mem_cons.mpr ⟨tw2_16, List.forall_mem_cons.mpr ⟨tw2_18, List.forall_mem_cons.mpr ⟨tw2_20, List.forall_mem_cons.mpr ⟨tw2_22, List.forall_mem_cons.mpr ⟨tw2_24, List.forall_mem_cons.mpr ⟨tw2_26, List.forall_mem_cons.mpr ⟨tw2_28, fun _ h => absurd h List.not_mem_nil⟩⟩⟩⟩⟩⟩⟩⟩⟩
theorem inT_X2 : ∀ w ∈ u_ws RX2 TX2 4, w ∈ xT := show ∀ w ∈ ([Cond.lays "NobodyFirst$Giving" "NobodyFirst$Giving" "known" "Z", Cond.lays "NobodyFirst$Giving" "NobodyFirst$Giving" "least" "I", Cond.laysFinal "NobodyFirst$Giving" "NobodyFirst$Giving" "choice" "[I", Cond.laysFinal "NobodyFirst$Giving" "NobodyFirst$Giving" "chosen" "[I"] : List Cond), w ∈ xT from List.forall_mem_cons.mpr ⟨tw1_223, List.forall_mem_cons.mpr ⟨tw1_225, List.forall_mem_cons.mpr ⟨tw1_227, List.forall_mem_cons.mpr ⟨tw1_229, fun _ h => absurd h List.not_mem_nil⟩⟩⟩⟩
theorem inT_X3 : ∀ w ∈ u_ws RX3 TX3 5, w ∈ xT := show ∀ w ∈ ([Cond.laysFinal "NobodyFirst$History" "NobodyFirst$History" "wasSign" "[Z", Cond.lays "NobodyFirst$History" "NobodyFirst$History" "steps" "I", Cond.laysFinal "NobodyFirst$History" "NobodyFirst$History" "firstKept" "LNobodyFirst$Told;", Cond.laysFinal "NobodyFirst$History" "NobodyFirst$History" "secondKept" "LNobodyFirst$Told;", Cond.lays "NobodyFirst$History" "NobodyFirst$History" "kept" "I"] : List Cond), w ∈ xT from List.forall_mem_cons.mpr ⟨tw2_46, List.forall_mem_cons.mpr ⟨tw2_48, List.forall_mem_cons.mpr ⟨tw2_50, List.forall_mem_cons.mpr ⟨tw2_52, List.forall_mem_cons.mpr ⟨tw2_54, fun _ h => absurd h List.not_mem_nil⟩⟩⟩⟩⟩
theorem inT_X4 : ∀ w ∈ u_ws RX4 TX4 18, w ∈ xT := show ∀ w ∈ ([Cond.lays "NobodyFirst$Party" "NobodyFirst$Party" "guests" "I", Cond.laysFinal "NobodyFirst$Party" "NobodyFirst$Party" "pair" "[I", Cond.laysFinal "NobodyFirst$Party" "NobodyFirst$Party" "wouldGo" "[I", Cond.laysFinal "NobodyFirst$Party" "NobodyFirst$Party" "ownShame" "[I", Cond.laysFinal "NobodyFirst$Party" "NobodyFirst$Party" "kind" "[I", Cond.laysFinal "NobodyFirst$Party" "NobodyFirst$Party" "told" "LNobodyFirst$Told;", Cond.lays "NobodyFirst$Party" "NobodyFirst$Party" "drawsBy" "I", Cond.lays "NobodyFirst$Party" "NobodyFirst$Party" "hall" "I", Cond.lays "NobodyFirst$Party" "NobodyFirst$Party" "end" "I", Cond.lays "NobodyFirst$Party" "NobodyFirst$Party" "offers" "I", Cond.laysFinal "NobodyFirst$Party" "NobodyFirst$Party" "offerWorth" "[I", Cond.laysFinal "NobodyFirst$Party" "NobodyFirst$Party" "offerCost" "[I", Cond.laysFinal "NobodyFirst$Party" "NobodyFirst$Party" "ifMeant" "[I", Cond.laysFinal "NobodyFirst$Party" "NobodyFirst$Party" "ifNot" "[I", Cond.lays "NobodyFirst$Party" "NobodyFirst$Party" "looks" "I", Cond.laysFinal "NobodyFirst$Party" "NobodyFirst$Party" "lookedAt" "[I", Cond.laysFinal "NobodyFirst$Party" "NobodyFirst$Party" "lookMinute" "[I", Cond.laysFinal "NobodyFirst$Party" "NobodyFirst$Party" "yawned" "[I"] : List Cond), w ∈ xT from List.forall_mem_cons.mpr ⟨tw1_123, List.forall_mem_cons.mpr ⟨tw1_125, List.forall_mem_cons.mpr ⟨tw1_127, List.forall_mem_cons.mpr ⟨tw1_129, List.forall_mem_cons.mpr ⟨tw1_131, List.forall_mem_cons.mpr ⟨tw1_133, List.forall_mem_cons.mpr ⟨tw1_135, List.forall_mem_cons.mpr ⟨tw1_137, List.forall_mem_cons.mpr ⟨tw1_139, List.forall_mem_cons.mpr ⟨tw1_141, List.forall_mem_cons.mpr ⟨tw1_143, List.forall_mem_cons.mpr ⟨tw1_145, List.forall_mem_cons.mpr ⟨tw1_147, List.forall_mem_cons.mpr ⟨tw1_149, List.forall_mem_cons.mpr ⟨tw1_151, List.forall_mem_cons.mpr ⟨tw1_153, List.forall_mem_cons.mpr ⟨tw1_155, List.forall_mem_cons.mpr ⟨tw1_157, fun _ h => absurd h List.not_mem_nil⟩⟩⟩⟩⟩⟩⟩⟩⟩⟩⟩⟩⟩⟩⟩⟩⟩⟩
theorem inT_X5 : ∀ w ∈ u_ws RX5 TX5 2, w ∈ xT := show ∀ w ∈ ([Cond.laysFinal "NobodyFirst$Reader" "NobodyFirst$Reader" "numbers" "[I", Cond.lays "NobodyFirst$Reader" "NobodyFirst$Reader" "place" "I"] : List Cond), w ∈ xT from List.forall_mem_cons.mpr ⟨tw1_34, List.forall_mem_cons.mpr ⟨tw1_36, fun _ h => absurd h List.not_mem_nil⟩⟩
theorem inT_X6 : ∀ w ∈ u_ws RX6 TX6 5, w ∈ xT := show ∀ w ∈ ([Cond.lays "NobodyFirst$Told" "NobodyFirst$Told" "signs" "I", Cond.laysFinal "NobodyFirst$Told" "NobodyFirst$Told" "signMinute" "[I", Cond.laysFinal "NobodyFirst$Told" "NobodyFirst$Told" "signWorth" "[I", Cond.lays "NobodyFirst$Told" "NobodyFirst$Told" "words" "I", Cond.laysFinal "NobodyFirst$Told" "NobodyFirst$Told" "wordMinute" "[I"] : List Cond), w ∈ xT from List.forall_mem_cons.mpr ⟨tw1_67, List.forall_mem_cons.mpr ⟨tw1_69, List.forall_mem_cons.mpr ⟨tw1_71, List.forall_mem_cons.mpr ⟨tw1_73, List.forall_mem_cons.mpr ⟨tw1_75, fun _ h => absurd h List.not_mem_nil⟩⟩⟩⟩⟩
theorem inT_X7 : ∀ w ∈ u_ws RX7 TX7 9, w ∈ xT := show ∀ w ∈ ([Cond.laysFinal "NobodyFirst" "NobodyFirst" "text" "[B", Cond.lays "NobodyFirst" "NobodyFirst" "length" "I", Cond.laysFinal "NobodyFirst" "NobodyFirst" "reader" "LNobodyFirst$Reader;", Cond.lays "NobodyFirst" "NobodyFirst" "laid" "LNobodyFirst$Party;", Cond.lays "NobodyFirst" "NobodyFirst" "draft" "LNobodyFirst$Party;", Cond.laysFinal "NobodyFirst" "NobodyFirst" "evening" "LNobodyFirst$Evening;", Cond.laysFinal "NobodyFirst" "NobodyFirst" "giving" "LNobodyFirst$Giving;", Cond.laysFinal "NobodyFirst" "NobodyFirst" "game" "LNobodyFirst$Game;", Cond.laysFinal "NobodyFirst" "NobodyFirst" "history" "LNobodyFirst$History;"] : List Cond), w ∈ xT from List.forall_mem_cons.mpr ⟨tw2_78, List.forall_mem_cons.mpr ⟨tw2_80, List.forall_mem_cons.mpr ⟨tw2_82, List.forall_mem_cons.mpr ⟨tw2_84, List.forall_mem_cons.mpr ⟨tw2_86, List.forall_mem_cons.mpr ⟨tw2_88, List.forall_mem_cons.mpr ⟨tw2_90, List.forall_mem_cons.mpr ⟨tw2_92, List.forall_mem_cons.mpr ⟨tw2_94, fun _ h => absurd h List.not_mem_nil⟩⟩⟩⟩⟩⟩⟩⟩⟩
theorem inT_X8 : ∀ w ∈ u_ws RX8 TX8 40, w ∈ xT := show ∀ w ∈ ([Cond.lays "NobodyFirstModel" "NobodyFirstModel" "length" "I", Cond.laysFinal "NobodyFirstModel" "NobodyFirstModel" "text" "[I", Cond.laysFinal "NobodyFirstModel" "NobodyFirstModel" "many" "[I", Cond.laysFinal "NobodyFirstModel" "NobodyFirstModel" "pairs" "[I", Cond.laysFinal "NobodyFirstModel" "NobodyFirstModel" "wants" "[I", Cond.laysFinal "NobodyFirstModel" "NobodyFirstModel" "shames" "[I", Cond.laysFinal "NobodyFirstModel" "NobodyFirstModel" "kinds" "[I", Cond.laysFinal "NobodyFirstModel" "NobodyFirstModel" "giveMany" "[I", Cond.laysFinal "NobodyFirstModel" "NobodyFirstModel" "giveWorth" "[I", Cond.laysFinal "NobodyFirstModel" "NobodyFirstModel" "giveCost" "[I", Cond.laysFinal "NobodyFirstModel" "NobodyFirstModel" "draws" "[I", Cond.laysFinal "NobodyFirstModel" "NobodyFirstModel" "halls" "[I", Cond.laysFinal "NobodyFirstModel" "NobodyFirstModel" "ends" "[I", Cond.laysFinal "NobodyFirstModel" "NobodyFirstModel" "meantBy" "[I", Cond.laysFinal "NobodyFirstModel" "NobodyFirstModel" "notMeantBy" "[I", Cond.laysFinal "NobodyFirstModel" "NobodyFirstModel" "lookMany" "[I", Cond.laysFinal "NobodyFirstModel" "NobodyFirstModel" "lookOf" "[I", Cond.laysFinal "NobodyFirstModel" "NobodyFirstModel" "lookAt" "[I", Cond.laysFinal "NobodyFirstModel" "NobodyFirstModel" "yawns" "[I", Cond.laysFinal "NobodyFirstModel" "NobodyFirstModel" "signMany" "[I", Cond.laysFinal "NobodyFirstModel" "NobodyFirstModel" "signAt" "[I", Cond.laysFinal "NobodyFirstModel" "NobodyFirstModel" "signWorth" "[I", Cond.laysFinal "NobodyFirstModel" "NobodyFirstModel" "wordMany" "[I", Cond.laysFinal "NobodyFirstModel" "NobodyFirstModel" "wordAt" "[I", Cond.lays "NobodyFirstModel" "NobodyFirstModel" "keptMany" "I", Cond.lays "NobodyFirstModel" "NobodyFirstModel" "doneMany" "I", Cond.laysFinal "NobodyFirstModel" "NobodyFirstModel" "done" "[I", Cond.lays "NobodyFirstModel" "NobodyFirstModel" "place" "I", Cond.laysFinal "NobodyFirstModel" "NobodyFirstModel" "told" "[I", Cond.lays "NobodyFirstModel" "NobodyFirstModel" "busOf" "I", Cond.lays "NobodyFirstModel" "NobodyFirstModel" "busFrom" "I", Cond.lays "NobodyFirstModel" "NobodyFirstModel" "bellAt" "I", Cond.lays "NobodyFirstModel" "NobodyFirstModel" "drawBy" "I", Cond.laysFinal "NobodyFirstModel" "NobodyFirstModel" "givenAt" "[I", Cond.laysFinal "NobodyFirstModel" "NobodyFirstModel" "stands" "[I", Cond.laysFinal "NobodyFirstModel" "NobodyFirstModel" "goes" "[I", Cond.lays "NobodyFirstModel" "NobodyFirstModel" "playMany" "I", Cond.laysFinal "NobodyFirstModel" "NobodyFirstModel" "playWants" "[I", Cond.laysFinal "NobodyFirstModel" "NobodyFirstModel" "playShames" "[I", Cond.laysFinal "NobodyFirstModel" "NobodyFirstModel" "slots" "[I"] : List Cond), w ∈ xT from List.forall_mem_cons.mpr ⟨tw4_163, List.forall_mem_cons.mpr ⟨tw4_165, List.forall_mem_cons.mpr ⟨tw4_167, List.forall_mem_cons.mpr ⟨tw4_169, List.forall_mem_cons.mpr ⟨tw4_171, List.forall_mem_cons.mpr ⟨tw4_173, List.forall_mem_cons.mpr ⟨tw4_175, List.forall_mem_cons.mpr ⟨tw4_177, List.forall_mem_cons.mpr ⟨tw4_179, List.forall_mem_cons.mpr ⟨tw4_181, List.forall_mem_cons.mpr ⟨tw4_183, List.forall_mem_cons.mpr ⟨tw4_185, List.forall_mem_cons.mpr ⟨tw4_187, List.forall_mem_cons.mpr ⟨tw4_189, List.forall_mem_cons.mpr ⟨tw4_191, List.forall_mem_cons.mpr ⟨tw4_193, List.forall_mem_cons.mpr ⟨tw4_195, List.forall_mem_cons.mpr ⟨tw4_197, List.forall_mem_cons.mpr ⟨tw4_199, List.forall_mem_cons.mpr ⟨tw4_201, List.forall_mem_cons.mpr ⟨tw4_203, List.forall_mem_cons.mpr ⟨tw4_205, List.forall_mem_cons.mpr ⟨tw4_207, List.forall_mem_cons.mpr ⟨tw4_209, List.forall_mem_cons.mpr ⟨tw4_211, List.forall_mem_cons.mpr ⟨tw4_213, List.forall_mem_cons.mpr ⟨tw4_215, List.forall_mem_cons.mpr ⟨tw4_217, List.forall_mem_cons.mpr ⟨tw4_219, List.forall_mem_cons.mpr ⟨tw4_221, List.forall_mem_cons.mpr ⟨tw4_223, List.forall_mem_cons.mpr ⟨tw4_225, List.forall_mem_cons.mpr ⟨tw4_227, List.forall_mem_cons.mpr ⟨tw4_229, List.forall_mem_cons.mpr ⟨tw4_231, List.forall_mem_cons.mpr ⟨tw4_233, List.forall_mem_cons.mpr ⟨tw4_235, List.forall_mem_cons.mpr ⟨tw4_237, List.forall_mem_cons.mpr ⟨tw4_239, List.forall_mem_cons.mpr ⟨tw5_1, fun _ h => absurd h List.not_mem_nil⟩⟩⟩⟩⟩⟩⟩⟩⟩⟩⟩⟩⟩⟩⟩⟩⟩⟩⟩⟩⟩⟩⟩⟩⟩⟩⟩⟩⟩⟩⟩⟩⟩⟩⟩⟩⟩⟩⟩⟩
end
section
theorem dX0_init_0 : decode cX0_init 0 = .ok (.aload_n 0, 1) := by decide +kernel
theorem dX0_init_1 : decode cX0_init 1 = .ok (.invokespecial 3, 3) := by decide +kernel
theorem dX0_init_4 : decode cX0_init 4 = .ok (.aload_n 0, 1) := by decide +kernel
theorem dX0_init_5 : decode cX0_init 5 = .ok (.new 9, 3) := by decide +kernel
theorem dX0_init_8 : decode cX0_init 8 = .ok (.dup, 1) := by decide +kernel
theorem dX0_init_9 : decode cX0_init 9 = .ok (.invokespecial 11, 3) := by decide +kernel
theorem dX0_init_12 : decode cX0_init 12 = .ok (.putfield 12, 3) := by decide +kernel
theorem dX0_init_15 : decode cX0_init 15 = .ok (.aload_n 0, 1) := by decide +kernel
theorem dX0_init_16 : decode cX0_init 16 = .ok (.bipush 8, 2) := by decide +kernel
theorem dX0_init_18 : decode cX0_init 18 = .ok (.newarray .int, 2) := by decide +kernel
theorem dX0_init_20 : decode cX0_init 20 = .ok (.putfield 18, 3) := by decide +kernel
theorem dX0_init_23 : decode cX0_init 23 = .ok (.aload_n 0, 1) := by decide +kernel
theorem dX0_init_24 : decode cX0_init 24 = .ok (.bipush 8, 2) := by decide +kernel
theorem dX0_init_26 : decode cX0_init 26 = .ok (.newarray .int, 2) := by decide +kernel
theorem dX0_init_28 : decode cX0_init 28 = .ok (.putfield 22, 3) := by decide +kernel
theorem dX0_init_31 : decode cX0_init 31 = .ok (.aload_n 0, 1) := by decide +kernel
theorem dX0_init_32 : decode cX0_init 32 = .ok (.iconst 0, 1) := by decide +kernel
theorem dX0_init_33 : decode cX0_init 33 = .ok (.putfield 25, 3) := by decide +kernel
theorem dX0_init_36 : decode cX0_init 36 = .ok (.aload_n 0, 1) := by decide +kernel
theorem dX0_init_37 : decode cX0_init 37 = .ok (.bipush 9, 2) := by decide +kernel
theorem dX0_init_39 : decode cX0_init 39 = .ok (.newarray .int, 2) := by decide +kernel
theorem dX0_init_41 : decode cX0_init 41 = .ok (.putfield 29, 3) := by decide +kernel
theorem dX0_init_44 : decode cX0_init 44 = .ok (.aload_n 0, 1) := by decide +kernel
theorem dX0_init_45 : decode cX0_init 45 = .ok (.bipush 9, 2) := by decide +kernel
theorem dX0_init_47 : decode cX0_init 47 = .ok (.newarray .int, 2) := by decide +kernel
theorem dX0_init_49 : decode cX0_init 49 = .ok (.putfield 32, 3) := by decide +kernel
theorem dX0_init_52 : decode cX0_init 52 = .ok (.aload_n 0, 1) := by decide +kernel
theorem dX0_init_53 : decode cX0_init 53 = .ok (.bipush 9, 2) := by decide +kernel
theorem dX0_init_55 : decode cX0_init 55 = .ok (.newarray .int, 2) := by decide +kernel
theorem dX0_init_57 : decode cX0_init 57 = .ok (.putfield 35, 3) := by decide +kernel
theorem dX0_init_60 : decode cX0_init 60 = .ok (.aload_n 0, 1) := by decide +kernel
theorem dX0_init_61 : decode cX0_init 61 = .ok (.sipush 719, 3) := by decide +kernel
theorem dX0_init_64 : decode cX0_init 64 = .ok (.putfield 38, 3) := by decide +kernel
theorem dX0_init_67 : decode cX0_init 67 = .ok (.aload_n 0, 1) := by decide +kernel
theorem dX0_init_68 : decode cX0_init 68 = .ok (.iconst 0, 1) := by decide +kernel
theorem dX0_init_69 : decode cX0_init 69 = .ok (.putfield 41, 3) := by decide +kernel
theorem dX0_init_72 : decode cX0_init 72 = .ok (.aload_n 0, 1) := by decide +kernel
theorem dX0_init_73 : decode cX0_init 73 = .ok (.iconst 0, 1) := by decide +kernel
theorem dX0_init_74 : decode cX0_init 74 = .ok (.putfield 44, 3) := by decide +kernel
theorem dX0_init_77 : decode cX0_init 77 = .ok (.aload_n 0, 1) := by decide +kernel
theorem dX0_init_78 : decode cX0_init 78 = .ok (.iconst 0, 1) := by decide +kernel
theorem dX0_init_79 : decode cX0_init 79 = .ok (.putfield 47, 3) := by decide +kernel
theorem dX0_init_82 : decode cX0_init 82 = .ok (.aload_n 0, 1) := by decide +kernel
theorem dX0_init_83 : decode cX0_init 83 = .ok (.iconst 4, 1) := by decide +kernel
theorem dX0_init_84 : decode cX0_init 84 = .ok (.newarray .int, 2) := by decide +kernel
theorem dX0_init_86 : decode cX0_init 86 = .ok (.putfield 50, 3) := by decide +kernel
theorem dX0_init_89 : decode cX0_init 89 = .ok (.aload_n 0, 1) := by decide +kernel
theorem dX0_init_90 : decode cX0_init 90 = .ok (.iconst 4, 1) := by decide +kernel
theorem dX0_init_91 : decode cX0_init 91 = .ok (.newarray .int, 2) := by decide +kernel
theorem dX0_init_93 : decode cX0_init 93 = .ok (.putfield 53, 3) := by decide +kernel
theorem dX0_init_96 : decode cX0_init 96 = .ok (.aload_n 0, 1) := by decide +kernel
theorem dX0_init_97 : decode cX0_init 97 = .ok (.iconst 4, 1) := by decide +kernel
theorem dX0_init_98 : decode cX0_init 98 = .ok (.newarray .int, 2) := by decide +kernel
theorem dX0_init_100 : decode cX0_init 100 = .ok (.putfield 56, 3) := by decide +kernel
theorem dX0_init_103 : decode cX0_init 103 = .ok (.return_, 1) := by decide +kernel
theorem dX0_prepare_0 : decode cX0_prepare 0 = .ok (.aload_n 0, 1) := by decide +kernel
theorem dX0_prepare_1 : decode cX0_prepare 1 = .ok (.aload_n 1, 1) := by decide +kernel
theorem dX0_prepare_2 : decode cX0_prepare 2 = .ok (.putfield 12, 3) := by decide +kernel
theorem dX0_prepare_5 : decode cX0_prepare 5 = .ok (.aload_n 0, 1) := by decide +kernel
theorem dX0_prepare_6 : decode cX0_prepare 6 = .ok (.sipush 719, 3) := by decide +kernel
theorem dX0_prepare_9 : decode cX0_prepare 9 = .ok (.putfield 38, 3) := by decide +kernel
theorem dX0_prepare_12 : decode cX0_prepare 12 = .ok (.aload_n 0, 1) := by decide +kernel
theorem dX0_prepare_13 : decode cX0_prepare 13 = .ok (.iconst 0, 1) := by decide +kernel
theorem dX0_prepare_14 : decode cX0_prepare 14 = .ok (.putfield 41, 3) := by decide +kernel
theorem dX0_prepare_17 : decode cX0_prepare 17 = .ok (.iconst 0, 1) := by decide +kernel
theorem dX0_prepare_18 : decode cX0_prepare 18 = .ok (.istore_n 2, 1) := by decide +kernel
theorem dX0_prepare_19 : decode cX0_prepare 19 = .ok (.iload_n 2, 1) := by decide +kernel
theorem dX0_prepare_20 : decode cX0_prepare 20 = .ok (.aload_n 0, 1) := by decide +kernel
theorem dX0_prepare_21 : decode cX0_prepare 21 = .ok (.getfield 12, 3) := by decide +kernel
theorem dX0_prepare_24 : decode cX0_prepare 24 = .ok (.getfield 59, 3) := by decide +kernel
theorem dX0_prepare_27 : decode cX0_prepare 27 = .ok (.if_icmp .ge 59, 3) := by decide +kernel
theorem dX0_prepare_30 : decode cX0_prepare 30 = .ok (.aload_n 0, 1) := by decide +kernel
theorem dX0_prepare_31 : decode cX0_prepare 31 = .ok (.dup, 1) := by decide +kernel
theorem dX0_prepare_32 : decode cX0_prepare 32 = .ok (.getfield 41, 3) := by decide +kernel
theorem dX0_prepare_35 : decode cX0_prepare 35 = .ok (.iconst 1, 1) := by decide +kernel
theorem dX0_prepare_36 : decode cX0_prepare 36 = .ok (.aload_n 0, 1) := by decide +kernel
theorem dX0_prepare_37 : decode cX0_prepare 37 = .ok (.getfield 12, 3) := by decide +kernel
theorem dX0_prepare_40 : decode cX0_prepare 40 = .ok (.getfield 62, 3) := by decide +kernel
theorem dX0_prepare_43 : decode cX0_prepare 43 = .ok (.iload_n 2, 1) := by decide +kernel
theorem dX0_prepare_44 : decode cX0_prepare 44 = .ok (.iaload, 1) := by decide +kernel
theorem dX0_prepare_45 : decode cX0_prepare 45 = .ok (.ishl, 1) := by decide +kernel
theorem dX0_prepare_46 : decode cX0_prepare 46 = .ok (.ior, 1) := by decide +kernel
theorem dX0_prepare_47 : decode cX0_prepare 47 = .ok (.putfield 41, 3) := by decide +kernel
theorem dX0_prepare_50 : decode cX0_prepare 50 = .ok (.aload_n 0, 1) := by decide +kernel
theorem dX0_prepare_51 : decode cX0_prepare 51 = .ok (.getfield 18, 3) := by decide +kernel
theorem dX0_prepare_54 : decode cX0_prepare 54 = .ok (.iload_n 2, 1) := by decide +kernel
theorem dX0_prepare_55 : decode cX0_prepare 55 = .ok (.aload_n 0, 1) := by decide +kernel
theorem dX0_prepare_56 : decode cX0_prepare 56 = .ok (.getfield 12, 3) := by decide +kernel
theorem dX0_prepare_59 : decode cX0_prepare 59 = .ok (.getfield 65, 3) := by decide +kernel
theorem dX0_prepare_62 : decode cX0_prepare 62 = .ok (.iload_n 2, 1) := by decide +kernel
theorem dX0_prepare_63 : decode cX0_prepare 63 = .ok (.iaload, 1) := by decide +kernel
theorem dX0_prepare_64 : decode cX0_prepare 64 = .ok (.iastore, 1) := by decide +kernel
theorem dX0_prepare_65 : decode cX0_prepare 65 = .ok (.aload_n 0, 1) := by decide +kernel
theorem dX0_prepare_66 : decode cX0_prepare 66 = .ok (.getfield 22, 3) := by decide +kernel
theorem dX0_prepare_69 : decode cX0_prepare 69 = .ok (.iload_n 2, 1) := by decide +kernel
theorem dX0_prepare_70 : decode cX0_prepare 70 = .ok (.aload_n 0, 1) := by decide +kernel
theorem dX0_prepare_71 : decode cX0_prepare 71 = .ok (.getfield 12, 3) := by decide +kernel
theorem dX0_prepare_74 : decode cX0_prepare 74 = .ok (.getfield 66, 3) := by decide +kernel
theorem dX0_prepare_77 : decode cX0_prepare 77 = .ok (.iload_n 2, 1) := by decide +kernel
theorem dX0_prepare_78 : decode cX0_prepare 78 = .ok (.iaload, 1) := by decide +kernel
theorem dX0_prepare_79 : decode cX0_prepare 79 = .ok (.iastore, 1) := by decide +kernel
theorem dX0_prepare_80 : decode cX0_prepare 80 = .ok (.iinc 2 1, 3) := by decide +kernel
theorem dX0_prepare_83 : decode cX0_prepare 83 = .ok (.goto (-64), 3) := by decide +kernel
theorem dX0_prepare_86 : decode cX0_prepare 86 = .ok (.aload_n 0, 1) := by decide +kernel
theorem dX0_prepare_87 : decode cX0_prepare 87 = .ok (.iconst 0, 1) := by decide +kernel
theorem dX0_prepare_88 : decode cX0_prepare 88 = .ok (.putfield 25, 3) := by decide +kernel
theorem dX0_prepare_91 : decode cX0_prepare 91 = .ok (.iconst 0, 1) := by decide +kernel
theorem dX0_prepare_92 : decode cX0_prepare 92 = .ok (.istore_n 2, 1) := by decide +kernel
theorem dX0_prepare_93 : decode cX0_prepare 93 = .ok (.iload_n 2, 1) := by decide +kernel
theorem dX0_prepare_94 : decode cX0_prepare 94 = .ok (.aload_n 0, 1) := by decide +kernel
theorem dX0_prepare_95 : decode cX0_prepare 95 = .ok (.getfield 12, 3) := by decide +kernel
theorem dX0_prepare_98 : decode cX0_prepare 98 = .ok (.getfield 69, 3) := by decide +kernel
theorem dX0_prepare_101 : decode cX0_prepare 101 = .ok (.getfield 73, 3) := by decide +kernel
theorem dX0_prepare_104 : decode cX0_prepare 104 = .ok (.if_icmp .ge 37, 3) := by decide +kernel
theorem dX0_prepare_107 : decode cX0_prepare 107 = .ok (.aload_n 0, 1) := by decide +kernel
theorem dX0_prepare_108 : decode cX0_prepare 108 = .ok (.aload_n 0, 1) := by decide +kernel
theorem dX0_prepare_109 : decode cX0_prepare 109 = .ok (.getfield 12, 3) := by decide +kernel
theorem dX0_prepare_112 : decode cX0_prepare 112 = .ok (.getfield 69, 3) := by decide +kernel
theorem dX0_prepare_115 : decode cX0_prepare 115 = .ok (.getfield 76, 3) := by decide +kernel
theorem dX0_prepare_118 : decode cX0_prepare 118 = .ok (.iload_n 2, 1) := by decide +kernel
theorem dX0_prepare_119 : decode cX0_prepare 119 = .ok (.iaload, 1) := by decide +kernel
theorem dX0_prepare_120 : decode cX0_prepare 120 = .ok (.aload_n 0, 1) := by decide +kernel
theorem dX0_prepare_121 : decode cX0_prepare 121 = .ok (.getfield 12, 3) := by decide +kernel
theorem dX0_prepare_124 : decode cX0_prepare 124 = .ok (.getfield 69, 3) := by decide +kernel
theorem dX0_prepare_127 : decode cX0_prepare 127 = .ok (.getfield 77, 3) := by decide +kernel
theorem dX0_prepare_130 : decode cX0_prepare 130 = .ok (.iload_n 2, 1) := by decide +kernel
theorem dX0_prepare_131 : decode cX0_prepare 131 = .ok (.iaload, 1) := by decide +kernel
theorem dX0_prepare_132 : decode cX0_prepare 132 = .ok (.invokevirtual 78, 3) := by decide +kernel
theorem dX0_prepare_135 : decode cX0_prepare 135 = .ok (.iinc 2 1, 3) := by decide +kernel
theorem dX0_prepare_138 : decode cX0_prepare 138 = .ok (.goto (-45), 3) := by decide +kernel
theorem dX0_prepare_141 : decode cX0_prepare 141 = .ok (.return_, 1) := by decide +kernel
theorem dX0_addSign_0 : decode cX0_addSign 0 = .ok (.aload_n 0, 1) := by decide +kernel
theorem dX0_addSign_1 : decode cX0_addSign 1 = .ok (.getfield 25, 3) := by decide +kernel
theorem dX0_addSign_4 : decode cX0_addSign 4 = .ok (.bipush 9, 2) := by decide +kernel
theorem dX0_addSign_6 : decode cX0_addSign 6 = .ok (.if_icmp .lt 4, 3) := by decide +kernel
theorem dX0_addSign_9 : decode cX0_addSign 9 = .ok (.return_, 1) := by decide +kernel
theorem dX0_addSign_10 : decode cX0_addSign 10 = .ok (.aload_n 0, 1) := by decide +kernel
theorem dX0_addSign_11 : decode cX0_addSign 11 = .ok (.getfield 29, 3) := by decide +kernel
theorem dX0_addSign_14 : decode cX0_addSign 14 = .ok (.aload_n 0, 1) := by decide +kernel
theorem dX0_addSign_15 : decode cX0_addSign 15 = .ok (.getfield 25, 3) := by decide +kernel
theorem dX0_addSign_18 : decode cX0_addSign 18 = .ok (.iload_n 1, 1) := by decide +kernel
theorem dX0_addSign_19 : decode cX0_addSign 19 = .ok (.iastore, 1) := by decide +kernel
theorem dX0_addSign_20 : decode cX0_addSign 20 = .ok (.aload_n 0, 1) := by decide +kernel
theorem dX0_addSign_21 : decode cX0_addSign 21 = .ok (.getfield 32, 3) := by decide +kernel
theorem dX0_addSign_24 : decode cX0_addSign 24 = .ok (.aload_n 0, 1) := by decide +kernel
theorem dX0_addSign_25 : decode cX0_addSign 25 = .ok (.getfield 25, 3) := by decide +kernel
theorem dX0_addSign_28 : decode cX0_addSign 28 = .ok (.iload_n 2, 1) := by decide +kernel
theorem dX0_addSign_29 : decode cX0_addSign 29 = .ok (.iastore, 1) := by decide +kernel
theorem dX0_addSign_30 : decode cX0_addSign 30 = .ok (.aload_n 0, 1) := by decide +kernel
theorem dX0_addSign_31 : decode cX0_addSign 31 = .ok (.getfield 35, 3) := by decide +kernel
theorem dX0_addSign_34 : decode cX0_addSign 34 = .ok (.aload_n 0, 1) := by decide +kernel
theorem dX0_addSign_35 : decode cX0_addSign 35 = .ok (.getfield 25, 3) := by decide +kernel
theorem dX0_addSign_38 : decode cX0_addSign 38 = .ok (.sipush 255, 3) := by decide +kernel
theorem dX0_addSign_41 : decode cX0_addSign 41 = .ok (.iastore, 1) := by decide +kernel
theorem dX0_addSign_42 : decode cX0_addSign 42 = .ok (.aload_n 0, 1) := by decide +kernel
theorem dX0_addSign_43 : decode cX0_addSign 43 = .ok (.dup, 1) := by decide +kernel
theorem dX0_addSign_44 : decode cX0_addSign 44 = .ok (.getfield 25, 3) := by decide +kernel
theorem dX0_addSign_47 : decode cX0_addSign 47 = .ok (.iconst 1, 1) := by decide +kernel
theorem dX0_addSign_48 : decode cX0_addSign 48 = .ok (.iadd, 1) := by decide +kernel
theorem dX0_addSign_49 : decode cX0_addSign 49 = .ok (.putfield 25, 3) := by decide +kernel
theorem dX0_addSign_52 : decode cX0_addSign 52 = .ok (.return_, 1) := by decide +kernel
theorem dX0_dropAddedSigns_0 : decode cX0_dropAddedSigns 0 = .ok (.aload_n 0, 1) := by decide +kernel
theorem dX0_dropAddedSigns_1 : decode cX0_dropAddedSigns 1 = .ok (.aload_n 0, 1) := by decide +kernel
theorem dX0_dropAddedSigns_2 : decode cX0_dropAddedSigns 2 = .ok (.getfield 12, 3) := by decide +kernel
theorem dX0_dropAddedSigns_5 : decode cX0_dropAddedSigns 5 = .ok (.getfield 69, 3) := by decide +kernel
theorem dX0_dropAddedSigns_8 : decode cX0_dropAddedSigns 8 = .ok (.getfield 73, 3) := by decide +kernel
theorem dX0_dropAddedSigns_11 : decode cX0_dropAddedSigns 11 = .ok (.putfield 25, 3) := by decide +kernel
theorem dX0_dropAddedSigns_14 : decode cX0_dropAddedSigns 14 = .ok (.return_, 1) := by decide +kernel
theorem dX0_makeBus_0 : decode cX0_makeBus 0 = .ok (.aload_n 0, 1) := by decide +kernel
theorem dX0_makeBus_1 : decode cX0_makeBus 1 = .ok (.getfield 18, 3) := by decide +kernel
theorem dX0_makeBus_4 : decode cX0_makeBus 4 = .ok (.iload_n 1, 1) := by decide +kernel
theorem dX0_makeBus_5 : decode cX0_makeBus 5 = .ok (.iconst 3, 1) := by decide +kernel
theorem dX0_makeBus_6 : decode cX0_makeBus 6 = .ok (.iastore, 1) := by decide +kernel
theorem dX0_makeBus_7 : decode cX0_makeBus 7 = .ok (.aload_n 0, 1) := by decide +kernel
theorem dX0_makeBus_8 : decode cX0_makeBus 8 = .ok (.getfield 22, 3) := by decide +kernel
theorem dX0_makeBus_11 : decode cX0_makeBus 11 = .ok (.iload_n 1, 1) := by decide +kernel
theorem dX0_makeBus_12 : decode cX0_makeBus 12 = .ok (.iload_n 2, 1) := by decide +kernel
theorem dX0_makeBus_13 : decode cX0_makeBus 13 = .ok (.iastore, 1) := by decide +kernel
theorem dX0_makeBus_14 : decode cX0_makeBus 14 = .ok (.return_, 1) := by decide +kernel
theorem dX0_ringAt_0 : decode cX0_ringAt 0 = .ok (.aload_n 0, 1) := by decide +kernel
theorem dX0_ringAt_1 : decode cX0_ringAt 1 = .ok (.iload_n 1, 1) := by decide +kernel
theorem dX0_ringAt_2 : decode cX0_ringAt 2 = .ok (.putfield 38, 3) := by decide +kernel
theorem dX0_ringAt_5 : decode cX0_ringAt 5 = .ok (.return_, 1) := by decide +kernel
theorem dX0_drawWhoHears_0 : decode cX0_drawWhoHears 0 = .ok (.iconst 0, 1) := by decide +kernel
theorem dX0_drawWhoHears_1 : decode cX0_drawWhoHears 1 = .ok (.istore_n 2, 1) := by decide +kernel
theorem dX0_drawWhoHears_2 : decode cX0_drawWhoHears 2 = .ok (.iload_n 2, 1) := by decide +kernel
theorem dX0_drawWhoHears_3 : decode cX0_drawWhoHears 3 = .ok (.aload_n 0, 1) := by decide +kernel
theorem dX0_drawWhoHears_4 : decode cX0_drawWhoHears 4 = .ok (.getfield 25, 3) := by decide +kernel
theorem dX0_drawWhoHears_7 : decode cX0_drawWhoHears 7 = .ok (.if_icmp .ge 91, 3) := by decide +kernel
theorem dX0_drawWhoHears_10 : decode cX0_drawWhoHears 10 = .ok (.aload_n 0, 1) := by decide +kernel
theorem dX0_drawWhoHears_11 : decode cX0_drawWhoHears 11 = .ok (.getfield 35, 3) := by decide +kernel
theorem dX0_drawWhoHears_14 : decode cX0_drawWhoHears 14 = .ok (.iload_n 2, 1) := by decide +kernel
theorem dX0_drawWhoHears_15 : decode cX0_drawWhoHears 15 = .ok (.iconst 0, 1) := by decide +kernel
theorem dX0_drawWhoHears_16 : decode cX0_drawWhoHears 16 = .ok (.iastore, 1) := by decide +kernel
theorem dX0_drawWhoHears_17 : decode cX0_drawWhoHears 17 = .ok (.iconst 0, 1) := by decide +kernel
theorem dX0_drawWhoHears_18 : decode cX0_drawWhoHears 18 = .ok (.istore_n 3, 1) := by decide +kernel
theorem dX0_drawWhoHears_19 : decode cX0_drawWhoHears 19 = .ok (.iload_n 3, 1) := by decide +kernel
theorem dX0_drawWhoHears_20 : decode cX0_drawWhoHears 20 = .ok (.aload_n 0, 1) := by decide +kernel
theorem dX0_drawWhoHears_21 : decode cX0_drawWhoHears 21 = .ok (.getfield 12, 3) := by decide +kernel
theorem dX0_drawWhoHears_24 : decode cX0_drawWhoHears 24 = .ok (.getfield 59, 3) := by decide +kernel
theorem dX0_drawWhoHears_27 : decode cX0_drawWhoHears 27 = .ok (.if_icmp .ge 65, 3) := by decide +kernel
theorem dX0_drawWhoHears_30 : decode cX0_drawWhoHears 30 = .ok (.ldc2_w 82, 3) := by decide +kernel
theorem dX0_drawWhoHears_33 : decode cX0_drawWhoHears 33 = .ok (.iload_n 1, 1) := by decide +kernel
theorem dX0_drawWhoHears_34 : decode cX0_drawWhoHears 34 = .ok (.i2l, 1) := by decide +kernel
theorem dX0_drawWhoHears_35 : decode cX0_drawWhoHears 35 = .ok (.lmul, 1) := by decide +kernel
theorem dX0_drawWhoHears_36 : decode cX0_drawWhoHears 36 = .ok (.sipush 6151, 3) := by decide +kernel
theorem dX0_drawWhoHears_39 : decode cX0_drawWhoHears 39 = .ok (.iload_n 3, 1) := by decide +kernel
theorem dX0_drawWhoHears_40 : decode cX0_drawWhoHears 40 = .ok (.imul, 1) := by decide +kernel
theorem dX0_drawWhoHears_41 : decode cX0_drawWhoHears 41 = .ok (.i2l, 1) := by decide +kernel
theorem dX0_drawWhoHears_42 : decode cX0_drawWhoHears 42 = .ok (.ladd, 1) := by decide +kernel
theorem dX0_drawWhoHears_43 : decode cX0_drawWhoHears 43 = .ok (.sipush 3571, 3) := by decide +kernel
theorem dX0_drawWhoHears_46 : decode cX0_drawWhoHears 46 = .ok (.iload_n 2, 1) := by decide +kernel
theorem dX0_drawWhoHears_47 : decode cX0_drawWhoHears 47 = .ok (.imul, 1) := by decide +kernel
theorem dX0_drawWhoHears_48 : decode cX0_drawWhoHears 48 = .ok (.i2l, 1) := by decide +kernel
theorem dX0_drawWhoHears_49 : decode cX0_drawWhoHears 49 = .ok (.ladd, 1) := by decide +kernel
theorem dX0_drawWhoHears_50 : decode cX0_drawWhoHears 50 = .ok (.lconst 1, 1) := by decide +kernel
theorem dX0_drawWhoHears_51 : decode cX0_drawWhoHears 51 = .ok (.ladd, 1) := by decide +kernel
theorem dX0_drawWhoHears_52 : decode cX0_drawWhoHears 52 = .ok (.lstore 4, 2) := by decide +kernel
theorem dX0_drawWhoHears_54 : decode cX0_drawWhoHears 54 = .ok (.lload 4, 2) := by decide +kernel
theorem dX0_drawWhoHears_56 : decode cX0_drawWhoHears 56 = .ok (.lload 4, 2) := by decide +kernel
theorem dX0_drawWhoHears_58 : decode cX0_drawWhoHears 58 = .ok (.lmul, 1) := by decide +kernel
theorem dX0_drawWhoHears_59 : decode cX0_drawWhoHears 59 = .ok (.ldc2_w 84, 3) := by decide +kernel
theorem dX0_drawWhoHears_62 : decode cX0_drawWhoHears 62 = .ok (.lrem, 1) := by decide +kernel
theorem dX0_drawWhoHears_63 : decode cX0_drawWhoHears 63 = .ok (.ldc2_w 86, 3) := by decide +kernel
theorem dX0_drawWhoHears_66 : decode cX0_drawWhoHears 66 = .ok (.lrem, 1) := by decide +kernel
theorem dX0_drawWhoHears_67 : decode cX0_drawWhoHears 67 = .ok (.ldc2_w 88, 3) := by decide +kernel
theorem dX0_drawWhoHears_70 : decode cX0_drawWhoHears 70 = .ok (.lcmp, 1) := by decide +kernel
theorem dX0_drawWhoHears_71 : decode cX0_drawWhoHears 71 = .ok (.ifCond .ge 15, 3) := by decide +kernel
theorem dX0_drawWhoHears_74 : decode cX0_drawWhoHears 74 = .ok (.aload_n 0, 1) := by decide +kernel
theorem dX0_drawWhoHears_75 : decode cX0_drawWhoHears 75 = .ok (.getfield 35, 3) := by decide +kernel
theorem dX0_drawWhoHears_78 : decode cX0_drawWhoHears 78 = .ok (.iload_n 2, 1) := by decide +kernel
theorem dX0_drawWhoHears_79 : decode cX0_drawWhoHears 79 = .ok (.dup2, 1) := by decide +kernel
theorem dX0_drawWhoHears_80 : decode cX0_drawWhoHears 80 = .ok (.iaload, 1) := by decide +kernel
theorem dX0_drawWhoHears_81 : decode cX0_drawWhoHears 81 = .ok (.iconst 1, 1) := by decide +kernel
theorem dX0_drawWhoHears_82 : decode cX0_drawWhoHears 82 = .ok (.iload_n 3, 1) := by decide +kernel
theorem dX0_drawWhoHears_83 : decode cX0_drawWhoHears 83 = .ok (.ishl, 1) := by decide +kernel
theorem dX0_drawWhoHears_84 : decode cX0_drawWhoHears 84 = .ok (.ior, 1) := by decide +kernel
theorem dX0_drawWhoHears_85 : decode cX0_drawWhoHears 85 = .ok (.iastore, 1) := by decide +kernel
theorem dX0_drawWhoHears_86 : decode cX0_drawWhoHears 86 = .ok (.iinc 3 1, 3) := by decide +kernel
theorem dX0_drawWhoHears_89 : decode cX0_drawWhoHears 89 = .ok (.goto (-70), 3) := by decide +kernel
theorem dX0_drawWhoHears_92 : decode cX0_drawWhoHears 92 = .ok (.iinc 2 1, 3) := by decide +kernel
theorem dX0_drawWhoHears_95 : decode cX0_drawWhoHears 95 = .ok (.goto (-93), 3) := by decide +kernel
theorem dX0_drawWhoHears_98 : decode cX0_drawWhoHears 98 = .ok (.return_, 1) := by decide +kernel
theorem dX0_pass_0 : decode cX0_pass 0 = .ok (.aload_n 0, 1) := by decide +kernel
theorem dX0_pass_1 : decode cX0_pass 1 = .ok (.iconst 0, 1) := by decide +kernel
theorem dX0_pass_2 : decode cX0_pass 2 = .ok (.putfield 44, 3) := by decide +kernel
theorem dX0_pass_5 : decode cX0_pass 5 = .ok (.aload_n 0, 1) := by decide +kernel
theorem dX0_pass_6 : decode cX0_pass 6 = .ok (.iconst 0, 1) := by decide +kernel
theorem dX0_pass_7 : decode cX0_pass 7 = .ok (.putfield 47, 3) := by decide +kernel
theorem dX0_pass_10 : decode cX0_pass 10 = .ok (.aload_n 0, 1) := by decide +kernel
theorem dX0_pass_11 : decode cX0_pass 11 = .ok (.getfield 53, 3) := by decide +kernel
theorem dX0_pass_14 : decode cX0_pass 14 = .ok (.ldc 90, 2) := by decide +kernel
theorem dX0_pass_16 : decode cX0_pass 16 = .ok (.invokestatic 91, 3) := by decide +kernel
theorem dX0_pass_19 : decode cX0_pass 19 = .ok (.iconst 0, 1) := by decide +kernel
theorem dX0_pass_20 : decode cX0_pass 20 = .ok (.istore_n 1, 1) := by decide +kernel
theorem dX0_pass_21 : decode cX0_pass 21 = .ok (.iconst 0, 1) := by decide +kernel
theorem dX0_pass_22 : decode cX0_pass 22 = .ok (.istore_n 2, 1) := by decide +kernel
theorem dX0_pass_23 : decode cX0_pass 23 = .ok (.iload_n 2, 1) := by decide +kernel
theorem dX0_pass_24 : decode cX0_pass 24 = .ok (.sipush 719, 3) := by decide +kernel
theorem dX0_pass_27 : decode cX0_pass 27 = .ok (.if_icmp .gt 34, 3) := by decide +kernel
theorem dX0_pass_30 : decode cX0_pass 30 = .ok (.iload_n 1, 1) := by decide +kernel
theorem dX0_pass_31 : decode cX0_pass 31 = .ok (.aload_n 0, 1) := by decide +kernel
theorem dX0_pass_32 : decode cX0_pass 32 = .ok (.getfield 38, 3) := by decide +kernel
theorem dX0_pass_35 : decode cX0_pass 35 = .ok (.if_icmp .ge 26, 3) := by decide +kernel
theorem dX0_pass_38 : decode cX0_pass 38 = .ok (.aload_n 0, 1) := by decide +kernel
theorem dX0_pass_39 : decode cX0_pass 39 = .ok (.getfield 44, 3) := by decide +kernel
theorem dX0_pass_42 : decode cX0_pass 42 = .ok (.aload_n 0, 1) := by decide +kernel
theorem dX0_pass_43 : decode cX0_pass 43 = .ok (.getfield 41, 3) := by decide +kernel
theorem dX0_pass_46 : decode cX0_pass 46 = .ok (.if_icmp .eq 15, 3) := by decide +kernel
theorem dX0_pass_49 : decode cX0_pass 49 = .ok (.aload_n 0, 1) := by decide +kernel
theorem dX0_pass_50 : decode cX0_pass 50 = .ok (.iload_n 1, 1) := by decide +kernel
theorem dX0_pass_51 : decode cX0_pass 51 = .ok (.invokevirtual 97, 3) := by decide +kernel
theorem dX0_pass_54 : decode cX0_pass 54 = .ok (.istore_n 1, 1) := by decide +kernel
theorem dX0_pass_55 : decode cX0_pass 55 = .ok (.iinc 2 1, 3) := by decide +kernel
theorem dX0_pass_58 : decode cX0_pass 58 = .ok (.goto (-35), 3) := by decide +kernel
theorem dX0_pass_61 : decode cX0_pass 61 = .ok (.iconst 0, 1) := by decide +kernel
theorem dX0_pass_62 : decode cX0_pass 62 = .ok (.istore_n 2, 1) := by decide +kernel
theorem dX0_pass_63 : decode cX0_pass 63 = .ok (.iload_n 2, 1) := by decide +kernel
theorem dX0_pass_64 : decode cX0_pass 64 = .ok (.iconst 4, 1) := by decide +kernel
theorem dX0_pass_65 : decode cX0_pass 65 = .ok (.if_icmp .ge 27, 3) := by decide +kernel
theorem dX0_pass_68 : decode cX0_pass 68 = .ok (.aload_n 0, 1) := by decide +kernel
theorem dX0_pass_69 : decode cX0_pass 69 = .ok (.iload_n 2, 1) := by decide +kernel
theorem dX0_pass_70 : decode cX0_pass 70 = .ok (.invokevirtual 101, 3) := by decide +kernel
theorem dX0_pass_73 : decode cX0_pass 73 = .ok (.ifCond .eq 13, 3) := by decide +kernel
theorem dX0_pass_76 : decode cX0_pass 76 = .ok (.aload_n 0, 1) := by decide +kernel
theorem dX0_pass_77 : decode cX0_pass 77 = .ok (.getfield 53, 3) := by decide +kernel
theorem dX0_pass_80 : decode cX0_pass 80 = .ok (.iload_n 2, 1) := by decide +kernel
theorem dX0_pass_81 : decode cX0_pass 81 = .ok (.aload_n 0, 1) := by decide +kernel
theorem dX0_pass_82 : decode cX0_pass 82 = .ok (.getfield 38, 3) := by decide +kernel
theorem dX0_pass_85 : decode cX0_pass 85 = .ok (.iastore, 1) := by decide +kernel
theorem dX0_pass_86 : decode cX0_pass 86 = .ok (.iinc 2 1, 3) := by decide +kernel
theorem dX0_pass_89 : decode cX0_pass 89 = .ok (.goto (-26), 3) := by decide +kernel
theorem dX0_pass_92 : decode cX0_pass 92 = .ok (.iconst 0, 1) := by decide +kernel
theorem dX0_pass_93 : decode cX0_pass 93 = .ok (.istore_n 2, 1) := by decide +kernel
theorem dX0_pass_94 : decode cX0_pass 94 = .ok (.iload_n 2, 1) := by decide +kernel
theorem dX0_pass_95 : decode cX0_pass 95 = .ok (.iconst 4, 1) := by decide +kernel
theorem dX0_pass_96 : decode cX0_pass 96 = .ok (.if_icmp .ge 25, 3) := by decide +kernel
theorem dX0_pass_99 : decode cX0_pass 99 = .ok (.aload_n 0, 1) := by decide +kernel
theorem dX0_pass_100 : decode cX0_pass 100 = .ok (.getfield 56, 3) := by decide +kernel
theorem dX0_pass_103 : decode cX0_pass 103 = .ok (.iload_n 2, 1) := by decide +kernel
theorem dX0_pass_104 : decode cX0_pass 104 = .ok (.aload_n 0, 1) := by decide +kernel
theorem dX0_pass_105 : decode cX0_pass 105 = .ok (.aload_n 0, 1) := by decide +kernel
theorem dX0_pass_106 : decode cX0_pass 106 = .ok (.getfield 53, 3) := by decide +kernel
theorem dX0_pass_109 : decode cX0_pass 109 = .ok (.iload_n 2, 1) := by decide +kernel
theorem dX0_pass_110 : decode cX0_pass 110 = .ok (.iaload, 1) := by decide +kernel
theorem dX0_pass_111 : decode cX0_pass 111 = .ok (.invokevirtual 105, 3) := by decide +kernel
theorem dX0_pass_114 : decode cX0_pass 114 = .ok (.iastore, 1) := by decide +kernel
theorem dX0_pass_115 : decode cX0_pass 115 = .ok (.iinc 2 1, 3) := by decide +kernel
theorem dX0_pass_118 : decode cX0_pass 118 = .ok (.goto (-24), 3) := by decide +kernel
theorem dX0_pass_121 : decode cX0_pass 121 = .ok (.return_, 1) := by decide +kernel
theorem dX0_goOnFrom_0 : decode cX0_goOnFrom 0 = .ok (.aload_n 0, 1) := by decide +kernel
theorem dX0_goOnFrom_1 : decode cX0_goOnFrom 1 = .ok (.iload_n 1, 1) := by decide +kernel
theorem dX0_goOnFrom_2 : decode cX0_goOnFrom 2 = .ok (.invokevirtual 108, 3) := by decide +kernel
theorem dX0_goOnFrom_5 : decode cX0_goOnFrom 5 = .ok (.aload_n 0, 1) := by decide +kernel
theorem dX0_goOnFrom_6 : decode cX0_goOnFrom 6 = .ok (.getfield 38, 3) := by decide +kernel
theorem dX0_goOnFrom_9 : decode cX0_goOnFrom 9 = .ok (.invokestatic 111, 3) := by decide +kernel
theorem dX0_goOnFrom_12 : decode cX0_goOnFrom 12 = .ok (.istore_n 2, 1) := by decide +kernel
theorem dX0_goOnFrom_13 : decode cX0_goOnFrom 13 = .ok (.iload_n 2, 1) := by decide +kernel
theorem dX0_goOnFrom_14 : decode cX0_goOnFrom 14 = .ok (.istore_n 3, 1) := by decide +kernel
theorem dX0_goOnFrom_15 : decode cX0_goOnFrom 15 = .ok (.iconst 0, 1) := by decide +kernel
theorem dX0_goOnFrom_16 : decode cX0_goOnFrom 16 = .ok (.istore 4, 2) := by decide +kernel
theorem dX0_goOnFrom_18 : decode cX0_goOnFrom 18 = .ok (.iload 4, 2) := by decide +kernel
theorem dX0_goOnFrom_20 : decode cX0_goOnFrom 20 = .ok (.iconst 4, 1) := by decide +kernel
theorem dX0_goOnFrom_21 : decode cX0_goOnFrom 21 = .ok (.if_icmp .ge 53, 3) := by decide +kernel
theorem dX0_goOnFrom_24 : decode cX0_goOnFrom 24 = .ok (.aload_n 0, 1) := by decide +kernel
theorem dX0_goOnFrom_25 : decode cX0_goOnFrom 25 = .ok (.getfield 50, 3) := by decide +kernel
theorem dX0_goOnFrom_28 : decode cX0_goOnFrom 28 = .ok (.iload 4, 2) := by decide +kernel
theorem dX0_goOnFrom_30 : decode cX0_goOnFrom 30 = .ok (.aload_n 0, 1) := by decide +kernel
theorem dX0_goOnFrom_31 : decode cX0_goOnFrom 31 = .ok (.iload 4, 2) := by decide +kernel
theorem dX0_goOnFrom_33 : decode cX0_goOnFrom 33 = .ok (.invokevirtual 101, 3) := by decide +kernel
theorem dX0_goOnFrom_36 : decode cX0_goOnFrom 36 = .ok (.ifCond .eq 17, 3) := by decide +kernel
theorem dX0_goOnFrom_39 : decode cX0_goOnFrom 39 = .ok (.iload_n 1, 1) := by decide +kernel
theorem dX0_goOnFrom_40 : decode cX0_goOnFrom 40 = .ok (.aload_n 0, 1) := by decide +kernel
theorem dX0_goOnFrom_41 : decode cX0_goOnFrom 41 = .ok (.iload 4, 2) := by decide +kernel
theorem dX0_goOnFrom_43 : decode cX0_goOnFrom 43 = .ok (.iload_n 1, 1) := by decide +kernel
theorem dX0_goOnFrom_44 : decode cX0_goOnFrom 44 = .ok (.invokevirtual 117, 3) := by decide +kernel
theorem dX0_goOnFrom_47 : decode cX0_goOnFrom 47 = .ok (.invokestatic 120, 3) := by decide +kernel
theorem dX0_goOnFrom_50 : decode cX0_goOnFrom 50 = .ok (.goto 5, 3) := by decide +kernel
theorem dX0_goOnFrom_53 : decode cX0_goOnFrom 53 = .ok (.ldc 90, 2) := by decide +kernel
theorem dX0_goOnFrom_55 : decode cX0_goOnFrom 55 = .ok (.iastore, 1) := by decide +kernel
theorem dX0_goOnFrom_56 : decode cX0_goOnFrom 56 = .ok (.iload_n 3, 1) := by decide +kernel
theorem dX0_goOnFrom_57 : decode cX0_goOnFrom 57 = .ok (.aload_n 0, 1) := by decide +kernel
theorem dX0_goOnFrom_58 : decode cX0_goOnFrom 58 = .ok (.getfield 50, 3) := by decide +kernel
theorem dX0_goOnFrom_61 : decode cX0_goOnFrom 61 = .ok (.iload 4, 2) := by decide +kernel
theorem dX0_goOnFrom_63 : decode cX0_goOnFrom 63 = .ok (.iaload, 1) := by decide +kernel
theorem dX0_goOnFrom_64 : decode cX0_goOnFrom 64 = .ok (.invokestatic 111, 3) := by decide +kernel
theorem dX0_goOnFrom_67 : decode cX0_goOnFrom 67 = .ok (.istore_n 3, 1) := by decide +kernel
theorem dX0_goOnFrom_68 : decode cX0_goOnFrom 68 = .ok (.iinc 4 1, 3) := by decide +kernel
theorem dX0_goOnFrom_71 : decode cX0_goOnFrom 71 = .ok (.goto (-53), 3) := by decide +kernel
theorem dX0_goOnFrom_74 : decode cX0_goOnFrom 74 = .ok (.iload_n 3, 1) := by decide +kernel
theorem dX0_goOnFrom_75 : decode cX0_goOnFrom 75 = .ok (.iload_n 2, 1) := by decide +kernel
theorem dX0_goOnFrom_76 : decode cX0_goOnFrom 76 = .ok (.if_icmp .lt 5, 3) := by decide +kernel
theorem dX0_goOnFrom_79 : decode cX0_goOnFrom 79 = .ok (.iload_n 2, 1) := by decide +kernel
theorem dX0_goOnFrom_80 : decode cX0_goOnFrom 80 = .ok (.ireturn, 1) := by decide +kernel
theorem dX0_goOnFrom_81 : decode cX0_goOnFrom 81 = .ok (.iconst 0, 1) := by decide +kernel
theorem dX0_goOnFrom_82 : decode cX0_goOnFrom 82 = .ok (.istore 4, 2) := by decide +kernel
theorem dX0_goOnFrom_84 : decode cX0_goOnFrom 84 = .ok (.iload 4, 2) := by decide +kernel
theorem dX0_goOnFrom_86 : decode cX0_goOnFrom 86 = .ok (.iconst 4, 1) := by decide +kernel
theorem dX0_goOnFrom_87 : decode cX0_goOnFrom 87 = .ok (.if_icmp .ge 28, 3) := by decide +kernel
theorem dX0_goOnFrom_90 : decode cX0_goOnFrom 90 = .ok (.aload_n 0, 1) := by decide +kernel
theorem dX0_goOnFrom_91 : decode cX0_goOnFrom 91 = .ok (.getfield 50, 3) := by decide +kernel
theorem dX0_goOnFrom_94 : decode cX0_goOnFrom 94 = .ok (.iload 4, 2) := by decide +kernel
theorem dX0_goOnFrom_96 : decode cX0_goOnFrom 96 = .ok (.iaload, 1) := by decide +kernel
theorem dX0_goOnFrom_97 : decode cX0_goOnFrom 97 = .ok (.iload_n 3, 1) := by decide +kernel
theorem dX0_goOnFrom_98 : decode cX0_goOnFrom 98 = .ok (.if_icmp .gt 11, 3) := by decide +kernel
theorem dX0_goOnFrom_101 : decode cX0_goOnFrom 101 = .ok (.aload_n 0, 1) := by decide +kernel
theorem dX0_goOnFrom_102 : decode cX0_goOnFrom 102 = .ok (.getfield 53, 3) := by decide +kernel
theorem dX0_goOnFrom_105 : decode cX0_goOnFrom 105 = .ok (.iload 4, 2) := by decide +kernel
theorem dX0_goOnFrom_107 : decode cX0_goOnFrom 107 = .ok (.iload_n 3, 1) := by decide +kernel
theorem dX0_goOnFrom_108 : decode cX0_goOnFrom 108 = .ok (.iastore, 1) := by decide +kernel
theorem dX0_goOnFrom_109 : decode cX0_goOnFrom 109 = .ok (.iinc 4 1, 3) := by decide +kernel
theorem dX0_goOnFrom_112 : decode cX0_goOnFrom 112 = .ok (.goto (-28), 3) := by decide +kernel
theorem dX0_goOnFrom_115 : decode cX0_goOnFrom 115 = .ok (.aload_n 0, 1) := by decide +kernel
theorem dX0_goOnFrom_116 : decode cX0_goOnFrom 116 = .ok (.iload_n 3, 1) := by decide +kernel
theorem dX0_goOnFrom_117 : decode cX0_goOnFrom 117 = .ok (.iconst 1, 1) := by decide +kernel
theorem dX0_goOnFrom_118 : decode cX0_goOnFrom 118 = .ok (.iadd, 1) := by decide +kernel
theorem dX0_goOnFrom_119 : decode cX0_goOnFrom 119 = .ok (.invokevirtual 123, 3) := by decide +kernel
theorem dX0_goOnFrom_122 : decode cX0_goOnFrom 122 = .ok (.iload_n 3, 1) := by decide +kernel
theorem dX0_goOnFrom_123 : decode cX0_goOnFrom 123 = .ok (.iconst 1, 1) := by decide +kernel
theorem dX0_goOnFrom_124 : decode cX0_goOnFrom 124 = .ok (.iadd, 1) := by decide +kernel
theorem dX0_goOnFrom_125 : decode cX0_goOnFrom 125 = .ok (.ireturn, 1) := by decide +kernel
theorem dX0_nextChange_0 : decode cX0_nextChange 0 = .ok (.ldc 90, 2) := by decide +kernel
theorem dX0_nextChange_2 : decode cX0_nextChange 2 = .ok (.istore_n 2, 1) := by decide +kernel
theorem dX0_nextChange_3 : decode cX0_nextChange 3 = .ok (.iconst 0, 1) := by decide +kernel
theorem dX0_nextChange_4 : decode cX0_nextChange 4 = .ok (.istore_n 3, 1) := by decide +kernel
theorem dX0_nextChange_5 : decode cX0_nextChange 5 = .ok (.iload_n 3, 1) := by decide +kernel
theorem dX0_nextChange_6 : decode cX0_nextChange 6 = .ok (.aload_n 0, 1) := by decide +kernel
theorem dX0_nextChange_7 : decode cX0_nextChange 7 = .ok (.getfield 25, 3) := by decide +kernel
theorem dX0_nextChange_10 : decode cX0_nextChange 10 = .ok (.if_icmp .ge 30, 3) := by decide +kernel
theorem dX0_nextChange_13 : decode cX0_nextChange 13 = .ok (.aload_n 0, 1) := by decide +kernel
theorem dX0_nextChange_14 : decode cX0_nextChange 14 = .ok (.getfield 29, 3) := by decide +kernel
theorem dX0_nextChange_17 : decode cX0_nextChange 17 = .ok (.iload_n 3, 1) := by decide +kernel
theorem dX0_nextChange_18 : decode cX0_nextChange 18 = .ok (.iaload, 1) := by decide +kernel
theorem dX0_nextChange_19 : decode cX0_nextChange 19 = .ok (.iload_n 1, 1) := by decide +kernel
theorem dX0_nextChange_20 : decode cX0_nextChange 20 = .ok (.if_icmp .le 14, 3) := by decide +kernel
theorem dX0_nextChange_23 : decode cX0_nextChange 23 = .ok (.iload_n 2, 1) := by decide +kernel
theorem dX0_nextChange_24 : decode cX0_nextChange 24 = .ok (.aload_n 0, 1) := by decide +kernel
theorem dX0_nextChange_25 : decode cX0_nextChange 25 = .ok (.getfield 29, 3) := by decide +kernel
theorem dX0_nextChange_28 : decode cX0_nextChange 28 = .ok (.iload_n 3, 1) := by decide +kernel
theorem dX0_nextChange_29 : decode cX0_nextChange 29 = .ok (.iaload, 1) := by decide +kernel
theorem dX0_nextChange_30 : decode cX0_nextChange 30 = .ok (.invokestatic 111, 3) := by decide +kernel
theorem dX0_nextChange_33 : decode cX0_nextChange 33 = .ok (.istore_n 2, 1) := by decide +kernel
theorem dX0_nextChange_34 : decode cX0_nextChange 34 = .ok (.iinc 3 1, 3) := by decide +kernel
theorem dX0_nextChange_37 : decode cX0_nextChange 37 = .ok (.goto (-32), 3) := by decide +kernel
theorem dX0_nextChange_40 : decode cX0_nextChange 40 = .ok (.iconst 0, 1) := by decide +kernel
theorem dX0_nextChange_41 : decode cX0_nextChange 41 = .ok (.istore_n 3, 1) := by decide +kernel
theorem dX0_nextChange_42 : decode cX0_nextChange 42 = .ok (.iload_n 3, 1) := by decide +kernel
theorem dX0_nextChange_43 : decode cX0_nextChange 43 = .ok (.aload_n 0, 1) := by decide +kernel
theorem dX0_nextChange_44 : decode cX0_nextChange 44 = .ok (.getfield 12, 3) := by decide +kernel
theorem dX0_nextChange_47 : decode cX0_nextChange 47 = .ok (.getfield 69, 3) := by decide +kernel
theorem dX0_nextChange_50 : decode cX0_nextChange 50 = .ok (.getfield 127, 3) := by decide +kernel
theorem dX0_nextChange_53 : decode cX0_nextChange 53 = .ok (.if_icmp .ge 42, 3) := by decide +kernel
theorem dX0_nextChange_56 : decode cX0_nextChange 56 = .ok (.aload_n 0, 1) := by decide +kernel
theorem dX0_nextChange_57 : decode cX0_nextChange 57 = .ok (.getfield 12, 3) := by decide +kernel
theorem dX0_nextChange_60 : decode cX0_nextChange 60 = .ok (.getfield 69, 3) := by decide +kernel
theorem dX0_nextChange_63 : decode cX0_nextChange 63 = .ok (.getfield 130, 3) := by decide +kernel
theorem dX0_nextChange_66 : decode cX0_nextChange 66 = .ok (.iload_n 3, 1) := by decide +kernel
theorem dX0_nextChange_67 : decode cX0_nextChange 67 = .ok (.iaload, 1) := by decide +kernel
theorem dX0_nextChange_68 : decode cX0_nextChange 68 = .ok (.iload_n 1, 1) := by decide +kernel
theorem dX0_nextChange_69 : decode cX0_nextChange 69 = .ok (.if_icmp .le 20, 3) := by decide +kernel
theorem dX0_nextChange_72 : decode cX0_nextChange 72 = .ok (.iload_n 2, 1) := by decide +kernel
theorem dX0_nextChange_73 : decode cX0_nextChange 73 = .ok (.aload_n 0, 1) := by decide +kernel
theorem dX0_nextChange_74 : decode cX0_nextChange 74 = .ok (.getfield 12, 3) := by decide +kernel
theorem dX0_nextChange_77 : decode cX0_nextChange 77 = .ok (.getfield 69, 3) := by decide +kernel
theorem dX0_nextChange_80 : decode cX0_nextChange 80 = .ok (.getfield 130, 3) := by decide +kernel
theorem dX0_nextChange_83 : decode cX0_nextChange 83 = .ok (.iload_n 3, 1) := by decide +kernel
theorem dX0_nextChange_84 : decode cX0_nextChange 84 = .ok (.iaload, 1) := by decide +kernel
theorem dX0_nextChange_85 : decode cX0_nextChange 85 = .ok (.invokestatic 111, 3) := by decide +kernel
theorem dX0_nextChange_88 : decode cX0_nextChange 88 = .ok (.istore_n 2, 1) := by decide +kernel
theorem dX0_nextChange_89 : decode cX0_nextChange 89 = .ok (.iinc 3 1, 3) := by decide +kernel
theorem dX0_nextChange_92 : decode cX0_nextChange 92 = .ok (.goto (-50), 3) := by decide +kernel
theorem dX0_nextChange_95 : decode cX0_nextChange 95 = .ok (.iload_n 2, 1) := by decide +kernel
theorem dX0_nextChange_96 : decode cX0_nextChange 96 = .ok (.ireturn, 1) := by decide +kernel
theorem dX0_sits_0 : decode cX0_sits 0 = .ok (.aload_n 0, 1) := by decide +kernel
theorem dX0_sits_1 : decode cX0_sits 1 = .ok (.getfield 41, 3) := by decide +kernel
theorem dX0_sits_4 : decode cX0_sits 4 = .ok (.aload_n 0, 1) := by decide +kernel
theorem dX0_sits_5 : decode cX0_sits 5 = .ok (.getfield 44, 3) := by decide +kernel
theorem dX0_sits_8 : decode cX0_sits 8 = .ok (.iconst (-1), 1) := by decide +kernel
theorem dX0_sits_9 : decode cX0_sits 9 = .ok (.ixor, 1) := by decide +kernel
theorem dX0_sits_10 : decode cX0_sits 10 = .ok (.iand, 1) := by decide +kernel
theorem dX0_sits_11 : decode cX0_sits 11 = .ok (.iload_n 1, 1) := by decide +kernel
theorem dX0_sits_12 : decode cX0_sits 12 = .ok (.ishr, 1) := by decide +kernel
theorem dX0_sits_13 : decode cX0_sits 13 = .ok (.iconst 1, 1) := by decide +kernel
theorem dX0_sits_14 : decode cX0_sits 14 = .ok (.iand, 1) := by decide +kernel
theorem dX0_sits_15 : decode cX0_sits 15 = .ok (.iconst 1, 1) := by decide +kernel
theorem dX0_sits_16 : decode cX0_sits 16 = .ok (.if_icmp .ne 7, 3) := by decide +kernel
theorem dX0_sits_19 : decode cX0_sits 19 = .ok (.iconst 1, 1) := by decide +kernel
theorem dX0_sits_20 : decode cX0_sits 20 = .ok (.goto 4, 3) := by decide +kernel
theorem dX0_sits_23 : decode cX0_sits 23 = .ok (.iconst 0, 1) := by decide +kernel
theorem dX0_sits_24 : decode cX0_sits 24 = .ok (.ireturn, 1) := by decide +kernel
theorem dX0_pairFrom_0 : decode cX0_pairFrom 0 = .ok (.iconst 0, 1) := by decide +kernel
theorem dX0_pairFrom_1 : decode cX0_pairFrom 1 = .ok (.istore_n 3, 1) := by decide +kernel
theorem dX0_pairFrom_2 : decode cX0_pairFrom 2 = .ok (.ldc 90, 2) := by decide +kernel
theorem dX0_pairFrom_4 : decode cX0_pairFrom 4 = .ok (.istore 4, 2) := by decide +kernel
theorem dX0_pairFrom_6 : decode cX0_pairFrom 6 = .ok (.iconst 0, 1) := by decide +kernel
theorem dX0_pairFrom_7 : decode cX0_pairFrom 7 = .ok (.istore 5, 2) := by decide +kernel
theorem dX0_pairFrom_9 : decode cX0_pairFrom 9 = .ok (.iload 5, 2) := by decide +kernel
theorem dX0_pairFrom_11 : decode cX0_pairFrom 11 = .ok (.aload_n 0, 1) := by decide +kernel
theorem dX0_pairFrom_12 : decode cX0_pairFrom 12 = .ok (.getfield 12, 3) := by decide +kernel
theorem dX0_pairFrom_15 : decode cX0_pairFrom 15 = .ok (.getfield 59, 3) := by decide +kernel
theorem dX0_pairFrom_18 : decode cX0_pairFrom 18 = .ok (.if_icmp .ge 59, 3) := by decide +kernel
theorem dX0_pairFrom_21 : decode cX0_pairFrom 21 = .ok (.aload_n 0, 1) := by decide +kernel
theorem dX0_pairFrom_22 : decode cX0_pairFrom 22 = .ok (.getfield 12, 3) := by decide +kernel
theorem dX0_pairFrom_25 : decode cX0_pairFrom 25 = .ok (.getfield 62, 3) := by decide +kernel
theorem dX0_pairFrom_28 : decode cX0_pairFrom 28 = .ok (.iload 5, 2) := by decide +kernel
theorem dX0_pairFrom_30 : decode cX0_pairFrom 30 = .ok (.iaload, 1) := by decide +kernel
theorem dX0_pairFrom_31 : decode cX0_pairFrom 31 = .ok (.iload_n 1, 1) := by decide +kernel
theorem dX0_pairFrom_32 : decode cX0_pairFrom 32 = .ok (.if_icmp .ne 39, 3) := by decide +kernel
theorem dX0_pairFrom_35 : decode cX0_pairFrom 35 = .ok (.aload_n 0, 1) := by decide +kernel
theorem dX0_pairFrom_36 : decode cX0_pairFrom 36 = .ok (.iload 5, 2) := by decide +kernel
theorem dX0_pairFrom_38 : decode cX0_pairFrom 38 = .ok (.iload_n 2, 1) := by decide +kernel
theorem dX0_pairFrom_39 : decode cX0_pairFrom 39 = .ok (.invokevirtual 133, 3) := by decide +kernel
theorem dX0_pairFrom_42 : decode cX0_pairFrom 42 = .ok (.istore 6, 2) := by decide +kernel
theorem dX0_pairFrom_44 : decode cX0_pairFrom 44 = .ok (.iload_n 3, 1) := by decide +kernel
theorem dX0_pairFrom_45 : decode cX0_pairFrom 45 = .ok (.iload 6, 2) := by decide +kernel
theorem dX0_pairFrom_47 : decode cX0_pairFrom 47 = .ok (.invokestatic 120, 3) := by decide +kernel
theorem dX0_pairFrom_50 : decode cX0_pairFrom 50 = .ok (.istore_n 3, 1) := by decide +kernel
theorem dX0_pairFrom_51 : decode cX0_pairFrom 51 = .ok (.aload_n 0, 1) := by decide +kernel
theorem dX0_pairFrom_52 : decode cX0_pairFrom 52 = .ok (.getfield 18, 3) := by decide +kernel
theorem dX0_pairFrom_55 : decode cX0_pairFrom 55 = .ok (.iload 5, 2) := by decide +kernel
theorem dX0_pairFrom_57 : decode cX0_pairFrom 57 = .ok (.iaload, 1) := by decide +kernel
theorem dX0_pairFrom_58 : decode cX0_pairFrom 58 = .ok (.iconst 3, 1) := by decide +kernel
theorem dX0_pairFrom_59 : decode cX0_pairFrom 59 = .ok (.if_icmp .ne 12, 3) := by decide +kernel
theorem dX0_pairFrom_62 : decode cX0_pairFrom 62 = .ok (.iload 4, 2) := by decide +kernel
theorem dX0_pairFrom_64 : decode cX0_pairFrom 64 = .ok (.iload 6, 2) := by decide +kernel
theorem dX0_pairFrom_66 : decode cX0_pairFrom 66 = .ok (.invokestatic 111, 3) := by decide +kernel
theorem dX0_pairFrom_69 : decode cX0_pairFrom 69 = .ok (.istore 4, 2) := by decide +kernel
theorem dX0_pairFrom_71 : decode cX0_pairFrom 71 = .ok (.iinc 5 1, 3) := by decide +kernel
theorem dX0_pairFrom_74 : decode cX0_pairFrom 74 = .ok (.goto (-65), 3) := by decide +kernel
theorem dX0_pairFrom_77 : decode cX0_pairFrom 77 = .ok (.iload_n 3, 1) := by decide +kernel
theorem dX0_pairFrom_78 : decode cX0_pairFrom 78 = .ok (.iload 4, 2) := by decide +kernel
theorem dX0_pairFrom_80 : decode cX0_pairFrom 80 = .ok (.invokestatic 111, 3) := by decide +kernel
theorem dX0_pairFrom_83 : decode cX0_pairFrom 83 = .ok (.ireturn, 1) := by decide +kernel
theorem dX0_lookAt_0 : decode cX0_lookAt 0 = .ok (.aload_n 0, 1) := by decide +kernel
theorem dX0_lookAt_1 : decode cX0_lookAt 1 = .ok (.iconst 0, 1) := by decide +kernel
theorem dX0_lookAt_2 : decode cX0_lookAt 2 = .ok (.putfield 44, 3) := by decide +kernel
theorem dX0_lookAt_5 : decode cX0_lookAt 5 = .ok (.aload_n 0, 1) := by decide +kernel
theorem dX0_lookAt_6 : decode cX0_lookAt 6 = .ok (.iconst 0, 1) := by decide +kernel
theorem dX0_lookAt_7 : decode cX0_lookAt 7 = .ok (.putfield 47, 3) := by decide +kernel
theorem dX0_lookAt_10 : decode cX0_lookAt 10 = .ok (.iconst 0, 1) := by decide +kernel
theorem dX0_lookAt_11 : decode cX0_lookAt 11 = .ok (.istore_n 2, 1) := by decide +kernel
theorem dX0_lookAt_12 : decode cX0_lookAt 12 = .ok (.iload_n 2, 1) := by decide +kernel
theorem dX0_lookAt_13 : decode cX0_lookAt 13 = .ok (.aload_n 0, 1) := by decide +kernel
theorem dX0_lookAt_14 : decode cX0_lookAt 14 = .ok (.getfield 12, 3) := by decide +kernel
theorem dX0_lookAt_17 : decode cX0_lookAt 17 = .ok (.getfield 59, 3) := by decide +kernel
theorem dX0_lookAt_20 : decode cX0_lookAt 20 = .ok (.if_icmp .ge 51, 3) := by decide +kernel
theorem dX0_lookAt_23 : decode cX0_lookAt 23 = .ok (.aload_n 0, 1) := by decide +kernel
theorem dX0_lookAt_24 : decode cX0_lookAt 24 = .ok (.getfield 12, 3) := by decide +kernel
theorem dX0_lookAt_27 : decode cX0_lookAt 27 = .ok (.getfield 62, 3) := by decide +kernel
theorem dX0_lookAt_30 : decode cX0_lookAt 30 = .ok (.iload_n 2, 1) := by decide +kernel
theorem dX0_lookAt_31 : decode cX0_lookAt 31 = .ok (.iaload, 1) := by decide +kernel
theorem dX0_lookAt_32 : decode cX0_lookAt 32 = .ok (.istore_n 3, 1) := by decide +kernel
theorem dX0_lookAt_33 : decode cX0_lookAt 33 = .ok (.aload_n 0, 1) := by decide +kernel
theorem dX0_lookAt_34 : decode cX0_lookAt 34 = .ok (.getfield 53, 3) := by decide +kernel
theorem dX0_lookAt_37 : decode cX0_lookAt 37 = .ok (.iload_n 3, 1) := by decide +kernel
theorem dX0_lookAt_38 : decode cX0_lookAt 38 = .ok (.iaload, 1) := by decide +kernel
theorem dX0_lookAt_39 : decode cX0_lookAt 39 = .ok (.iload_n 1, 1) := by decide +kernel
theorem dX0_lookAt_40 : decode cX0_lookAt 40 = .ok (.if_icmp .ge 25, 3) := by decide +kernel
theorem dX0_lookAt_43 : decode cX0_lookAt 43 = .ok (.aload_n 0, 1) := by decide +kernel
theorem dX0_lookAt_44 : decode cX0_lookAt 44 = .ok (.dup, 1) := by decide +kernel
theorem dX0_lookAt_45 : decode cX0_lookAt 45 = .ok (.getfield 44, 3) := by decide +kernel
theorem dX0_lookAt_48 : decode cX0_lookAt 48 = .ok (.iconst 1, 1) := by decide +kernel
theorem dX0_lookAt_49 : decode cX0_lookAt 49 = .ok (.iload_n 3, 1) := by decide +kernel
theorem dX0_lookAt_50 : decode cX0_lookAt 50 = .ok (.ishl, 1) := by decide +kernel
theorem dX0_lookAt_51 : decode cX0_lookAt 51 = .ok (.ior, 1) := by decide +kernel
theorem dX0_lookAt_52 : decode cX0_lookAt 52 = .ok (.putfield 44, 3) := by decide +kernel
theorem dX0_lookAt_55 : decode cX0_lookAt 55 = .ok (.aload_n 0, 1) := by decide +kernel
theorem dX0_lookAt_56 : decode cX0_lookAt 56 = .ok (.dup, 1) := by decide +kernel
theorem dX0_lookAt_57 : decode cX0_lookAt 57 = .ok (.getfield 47, 3) := by decide +kernel
theorem dX0_lookAt_60 : decode cX0_lookAt 60 = .ok (.iconst 1, 1) := by decide +kernel
theorem dX0_lookAt_61 : decode cX0_lookAt 61 = .ok (.iadd, 1) := by decide +kernel
theorem dX0_lookAt_62 : decode cX0_lookAt 62 = .ok (.putfield 47, 3) := by decide +kernel
theorem dX0_lookAt_65 : decode cX0_lookAt 65 = .ok (.iinc 2 1, 3) := by decide +kernel
theorem dX0_lookAt_68 : decode cX0_lookAt 68 = .ok (.goto (-56), 3) := by decide +kernel
theorem dX0_lookAt_71 : decode cX0_lookAt 71 = .ok (.return_, 1) := by decide +kernel
theorem dX0_pressesFrom_0 : decode cX0_pressesFrom 0 = .ok (.aload_n 0, 1) := by decide +kernel
theorem dX0_pressesFrom_1 : decode cX0_pressesFrom 1 = .ok (.getfield 18, 3) := by decide +kernel
theorem dX0_pressesFrom_4 : decode cX0_pressesFrom 4 = .ok (.iload_n 1, 1) := by decide +kernel
theorem dX0_pressesFrom_5 : decode cX0_pressesFrom 5 = .ok (.iaload, 1) := by decide +kernel
theorem dX0_pressesFrom_6 : decode cX0_pressesFrom 6 = .ok (.iconst 4, 1) := by decide +kernel
theorem dX0_pressesFrom_7 : decode cX0_pressesFrom 7 = .ok (.if_icmp .ne 34, 3) := by decide +kernel
theorem dX0_pressesFrom_10 : decode cX0_pressesFrom 10 = .ok (.aload_n 0, 1) := by decide +kernel
theorem dX0_pressesFrom_11 : decode cX0_pressesFrom 11 = .ok (.getfield 41, 3) := by decide +kernel
theorem dX0_pressesFrom_14 : decode cX0_pressesFrom 14 = .ok (.aload_n 0, 1) := by decide +kernel
theorem dX0_pressesFrom_15 : decode cX0_pressesFrom 15 = .ok (.getfield 44, 3) := by decide +kernel
theorem dX0_pressesFrom_18 : decode cX0_pressesFrom 18 = .ok (.iconst (-1), 1) := by decide +kernel
theorem dX0_pressesFrom_19 : decode cX0_pressesFrom 19 = .ok (.ixor, 1) := by decide +kernel
theorem dX0_pressesFrom_20 : decode cX0_pressesFrom 20 = .ok (.iand, 1) := by decide +kernel
theorem dX0_pressesFrom_21 : decode cX0_pressesFrom 21 = .ok (.iconst 1, 1) := by decide +kernel
theorem dX0_pressesFrom_22 : decode cX0_pressesFrom 22 = .ok (.aload_n 0, 1) := by decide +kernel
theorem dX0_pressesFrom_23 : decode cX0_pressesFrom 23 = .ok (.getfield 12, 3) := by decide +kernel
theorem dX0_pressesFrom_26 : decode cX0_pressesFrom 26 = .ok (.getfield 62, 3) := by decide +kernel
theorem dX0_pressesFrom_29 : decode cX0_pressesFrom 29 = .ok (.iload_n 1, 1) := by decide +kernel
theorem dX0_pressesFrom_30 : decode cX0_pressesFrom 30 = .ok (.iaload, 1) := by decide +kernel
theorem dX0_pressesFrom_31 : decode cX0_pressesFrom 31 = .ok (.ishl, 1) := by decide +kernel
theorem dX0_pressesFrom_32 : decode cX0_pressesFrom 32 = .ok (.iconst (-1), 1) := by decide +kernel
theorem dX0_pressesFrom_33 : decode cX0_pressesFrom 33 = .ok (.ixor, 1) := by decide +kernel
theorem dX0_pressesFrom_34 : decode cX0_pressesFrom 34 = .ok (.iand, 1) := by decide +kernel
theorem dX0_pressesFrom_35 : decode cX0_pressesFrom 35 = .ok (.ifCond .eq 6, 3) := by decide +kernel
theorem dX0_pressesFrom_38 : decode cX0_pressesFrom 38 = .ok (.ldc 90, 2) := by decide +kernel
theorem dX0_pressesFrom_40 : decode cX0_pressesFrom 40 = .ok (.ireturn, 1) := by decide +kernel
theorem dX0_pressesFrom_41 : decode cX0_pressesFrom 41 = .ok (.aload_n 0, 1) := by decide +kernel
theorem dX0_pressesFrom_42 : decode cX0_pressesFrom 42 = .ok (.getfield 18, 3) := by decide +kernel
theorem dX0_pressesFrom_45 : decode cX0_pressesFrom 45 = .ok (.iload_n 1, 1) := by decide +kernel
theorem dX0_pressesFrom_46 : decode cX0_pressesFrom 46 = .ok (.iaload, 1) := by decide +kernel
theorem dX0_pressesFrom_47 : decode cX0_pressesFrom 47 = .ok (.iconst 3, 1) := by decide +kernel
theorem dX0_pressesFrom_48 : decode cX0_pressesFrom 48 = .ok (.if_icmp .eq 20, 3) := by decide +kernel
theorem dX0_pressesFrom_51 : decode cX0_pressesFrom 51 = .ok (.aload_n 0, 1) := by decide +kernel
theorem dX0_pressesFrom_52 : decode cX0_pressesFrom 52 = .ok (.getfield 18, 3) := by decide +kernel
theorem dX0_pressesFrom_55 : decode cX0_pressesFrom 55 = .ok (.iload_n 1, 1) := by decide +kernel
theorem dX0_pressesFrom_56 : decode cX0_pressesFrom 56 = .ok (.iaload, 1) := by decide +kernel
theorem dX0_pressesFrom_57 : decode cX0_pressesFrom 57 = .ok (.iconst 5, 1) := by decide +kernel
theorem dX0_pressesFrom_58 : decode cX0_pressesFrom 58 = .ok (.if_icmp .ne 17, 3) := by decide +kernel
theorem dX0_pressesFrom_61 : decode cX0_pressesFrom 61 = .ok (.aload_n 0, 1) := by decide +kernel
theorem dX0_pressesFrom_62 : decode cX0_pressesFrom 62 = .ok (.getfield 44, 3) := by decide +kernel
theorem dX0_pressesFrom_65 : decode cX0_pressesFrom 65 = .ok (.ifCond .eq 10, 3) := by decide +kernel
theorem dX0_pressesFrom_68 : decode cX0_pressesFrom 68 = .ok (.aload_n 0, 1) := by decide +kernel
theorem dX0_pressesFrom_69 : decode cX0_pressesFrom 69 = .ok (.getfield 22, 3) := by decide +kernel
theorem dX0_pressesFrom_72 : decode cX0_pressesFrom 72 = .ok (.iload_n 1, 1) := by decide +kernel
theorem dX0_pressesFrom_73 : decode cX0_pressesFrom 73 = .ok (.iaload, 1) := by decide +kernel
theorem dX0_pressesFrom_74 : decode cX0_pressesFrom 74 = .ok (.ireturn, 1) := by decide +kernel
theorem dX0_pressesFrom_75 : decode cX0_pressesFrom 75 = .ok (.aload_n 0, 1) := by decide +kernel
theorem dX0_pressesFrom_76 : decode cX0_pressesFrom 76 = .ok (.getfield 22, 3) := by decide +kernel
theorem dX0_pressesFrom_79 : decode cX0_pressesFrom 79 = .ok (.iload_n 1, 1) := by decide +kernel
theorem dX0_pressesFrom_80 : decode cX0_pressesFrom 80 = .ok (.iaload, 1) := by decide +kernel
theorem dX0_pressesFrom_81 : decode cX0_pressesFrom 81 = .ok (.aload_n 0, 1) := by decide +kernel
theorem dX0_pressesFrom_82 : decode cX0_pressesFrom 82 = .ok (.iload_n 1, 1) := by decide +kernel
theorem dX0_pressesFrom_83 : decode cX0_pressesFrom 83 = .ok (.iload_n 2, 1) := by decide +kernel
theorem dX0_pressesFrom_84 : decode cX0_pressesFrom 84 = .ok (.invokevirtual 136, 3) := by decide +kernel
theorem dX0_pressesFrom_87 : decode cX0_pressesFrom 87 = .ok (.iadd, 1) := by decide +kernel
theorem dX0_pressesFrom_88 : decode cX0_pressesFrom 88 = .ok (.ireturn, 1) := by decide +kernel
theorem dX0_shameAt_0 : decode cX0_shameAt 0 = .ok (.aload_n 0, 1) := by decide +kernel
theorem dX0_shameAt_1 : decode cX0_shameAt 1 = .ok (.getfield 12, 3) := by decide +kernel
theorem dX0_shameAt_4 : decode cX0_shameAt 4 = .ok (.getfield 139, 3) := by decide +kernel
theorem dX0_shameAt_7 : decode cX0_shameAt 7 = .ok (.iload_n 1, 1) := by decide +kernel
theorem dX0_shameAt_8 : decode cX0_shameAt 8 = .ok (.iaload, 1) := by decide +kernel
theorem dX0_shameAt_9 : decode cX0_shameAt 9 = .ok (.aload_n 0, 1) := by decide +kernel
theorem dX0_shameAt_10 : decode cX0_shameAt 10 = .ok (.getfield 12, 3) := by decide +kernel
theorem dX0_shameAt_13 : decode cX0_shameAt 13 = .ok (.getfield 142, 3) := by decide +kernel
theorem dX0_shameAt_16 : decode cX0_shameAt 16 = .ok (.aload_n 0, 1) := by decide +kernel
theorem dX0_shameAt_17 : decode cX0_shameAt 17 = .ok (.getfield 47, 3) := by decide +kernel
theorem dX0_shameAt_20 : decode cX0_shameAt 20 = .ok (.imul, 1) := by decide +kernel
theorem dX0_shameAt_21 : decode cX0_shameAt 21 = .ok (.isub, 1) := by decide +kernel
theorem dX0_shameAt_22 : decode cX0_shameAt 22 = .ok (.istore_n 3, 1) := by decide +kernel
theorem dX0_shameAt_23 : decode cX0_shameAt 23 = .ok (.iconst 0, 1) := by decide +kernel
theorem dX0_shameAt_24 : decode cX0_shameAt 24 = .ok (.istore 4, 2) := by decide +kernel
theorem dX0_shameAt_26 : decode cX0_shameAt 26 = .ok (.iload 4, 2) := by decide +kernel
theorem dX0_shameAt_28 : decode cX0_shameAt 28 = .ok (.aload_n 0, 1) := by decide +kernel
theorem dX0_shameAt_29 : decode cX0_shameAt 29 = .ok (.getfield 25, 3) := by decide +kernel
theorem dX0_shameAt_32 : decode cX0_shameAt 32 = .ok (.if_icmp .ge 55, 3) := by decide +kernel
theorem dX0_shameAt_35 : decode cX0_shameAt 35 = .ok (.aload_n 0, 1) := by decide +kernel
theorem dX0_shameAt_36 : decode cX0_shameAt 36 = .ok (.getfield 18, 3) := by decide +kernel
theorem dX0_shameAt_39 : decode cX0_shameAt 39 = .ok (.iload_n 1, 1) := by decide +kernel
theorem dX0_shameAt_40 : decode cX0_shameAt 40 = .ok (.iaload, 1) := by decide +kernel
theorem dX0_shameAt_41 : decode cX0_shameAt 41 = .ok (.iconst 2, 1) := by decide +kernel
theorem dX0_shameAt_42 : decode cX0_shameAt 42 = .ok (.if_icmp .eq 45, 3) := by decide +kernel
theorem dX0_shameAt_45 : decode cX0_shameAt 45 = .ok (.aload_n 0, 1) := by decide +kernel
theorem dX0_shameAt_46 : decode cX0_shameAt 46 = .ok (.getfield 29, 3) := by decide +kernel
theorem dX0_shameAt_49 : decode cX0_shameAt 49 = .ok (.iload 4, 2) := by decide +kernel
theorem dX0_shameAt_51 : decode cX0_shameAt 51 = .ok (.iaload, 1) := by decide +kernel
theorem dX0_shameAt_52 : decode cX0_shameAt 52 = .ok (.iload_n 2, 1) := by decide +kernel
theorem dX0_shameAt_53 : decode cX0_shameAt 53 = .ok (.if_icmp .gt 28, 3) := by decide +kernel
theorem dX0_shameAt_56 : decode cX0_shameAt 56 = .ok (.aload_n 0, 1) := by decide +kernel
theorem dX0_shameAt_57 : decode cX0_shameAt 57 = .ok (.getfield 35, 3) := by decide +kernel
theorem dX0_shameAt_60 : decode cX0_shameAt 60 = .ok (.iload 4, 2) := by decide +kernel
theorem dX0_shameAt_62 : decode cX0_shameAt 62 = .ok (.iaload, 1) := by decide +kernel
theorem dX0_shameAt_63 : decode cX0_shameAt 63 = .ok (.iload_n 1, 1) := by decide +kernel
theorem dX0_shameAt_64 : decode cX0_shameAt 64 = .ok (.ishr, 1) := by decide +kernel
theorem dX0_shameAt_65 : decode cX0_shameAt 65 = .ok (.iconst 1, 1) := by decide +kernel
theorem dX0_shameAt_66 : decode cX0_shameAt 66 = .ok (.iand, 1) := by decide +kernel
theorem dX0_shameAt_67 : decode cX0_shameAt 67 = .ok (.iconst 1, 1) := by decide +kernel
theorem dX0_shameAt_68 : decode cX0_shameAt 68 = .ok (.if_icmp .ne 13, 3) := by decide +kernel
theorem dX0_shameAt_71 : decode cX0_shameAt 71 = .ok (.iload_n 3, 1) := by decide +kernel
theorem dX0_shameAt_72 : decode cX0_shameAt 72 = .ok (.aload_n 0, 1) := by decide +kernel
theorem dX0_shameAt_73 : decode cX0_shameAt 73 = .ok (.getfield 32, 3) := by decide +kernel
theorem dX0_shameAt_76 : decode cX0_shameAt 76 = .ok (.iload 4, 2) := by decide +kernel
theorem dX0_shameAt_78 : decode cX0_shameAt 78 = .ok (.iaload, 1) := by decide +kernel
theorem dX0_shameAt_79 : decode cX0_shameAt 79 = .ok (.isub, 1) := by decide +kernel
theorem dX0_shameAt_80 : decode cX0_shameAt 80 = .ok (.istore_n 3, 1) := by decide +kernel
theorem dX0_shameAt_81 : decode cX0_shameAt 81 = .ok (.iinc 4 1, 3) := by decide +kernel
theorem dX0_shameAt_84 : decode cX0_shameAt 84 = .ok (.goto (-58), 3) := by decide +kernel
theorem dX0_shameAt_87 : decode cX0_shameAt 87 = .ok (.iload_n 3, 1) := by decide +kernel
theorem dX0_shameAt_88 : decode cX0_shameAt 88 = .ok (.iconst 0, 1) := by decide +kernel
theorem dX0_shameAt_89 : decode cX0_shameAt 89 = .ok (.invokestatic 120, 3) := by decide +kernel
theorem dX0_shameAt_92 : decode cX0_shameAt 92 = .ok (.istore_n 3, 1) := by decide +kernel
theorem dX0_shameAt_93 : decode cX0_shameAt 93 = .ok (.iconst 0, 1) := by decide +kernel
theorem dX0_shameAt_94 : decode cX0_shameAt 94 = .ok (.istore 4, 2) := by decide +kernel
theorem dX0_shameAt_96 : decode cX0_shameAt 96 = .ok (.iload 4, 2) := by decide +kernel
theorem dX0_shameAt_98 : decode cX0_shameAt 98 = .ok (.aload_n 0, 1) := by decide +kernel
theorem dX0_shameAt_99 : decode cX0_shameAt 99 = .ok (.getfield 12, 3) := by decide +kernel
theorem dX0_shameAt_102 : decode cX0_shameAt 102 = .ok (.getfield 69, 3) := by decide +kernel
theorem dX0_shameAt_105 : decode cX0_shameAt 105 = .ok (.getfield 127, 3) := by decide +kernel
theorem dX0_shameAt_108 : decode cX0_shameAt 108 = .ok (.if_icmp .ge 39, 3) := by decide +kernel
theorem dX0_shameAt_111 : decode cX0_shameAt 111 = .ok (.aload_n 0, 1) := by decide +kernel
theorem dX0_shameAt_112 : decode cX0_shameAt 112 = .ok (.getfield 18, 3) := by decide +kernel
theorem dX0_shameAt_115 : decode cX0_shameAt 115 = .ok (.iload_n 1, 1) := by decide +kernel
theorem dX0_shameAt_116 : decode cX0_shameAt 116 = .ok (.iaload, 1) := by decide +kernel
theorem dX0_shameAt_117 : decode cX0_shameAt 117 = .ok (.iconst 1, 1) := by decide +kernel
theorem dX0_shameAt_118 : decode cX0_shameAt 118 = .ok (.if_icmp .ne 29, 3) := by decide +kernel
theorem dX0_shameAt_121 : decode cX0_shameAt 121 = .ok (.aload_n 0, 1) := by decide +kernel
theorem dX0_shameAt_122 : decode cX0_shameAt 122 = .ok (.getfield 12, 3) := by decide +kernel
theorem dX0_shameAt_125 : decode cX0_shameAt 125 = .ok (.getfield 69, 3) := by decide +kernel
theorem dX0_shameAt_128 : decode cX0_shameAt 128 = .ok (.getfield 130, 3) := by decide +kernel
theorem dX0_shameAt_131 : decode cX0_shameAt 131 = .ok (.iload 4, 2) := by decide +kernel
theorem dX0_shameAt_133 : decode cX0_shameAt 133 = .ok (.iaload, 1) := by decide +kernel
theorem dX0_shameAt_134 : decode cX0_shameAt 134 = .ok (.iload_n 2, 1) := by decide +kernel
theorem dX0_shameAt_135 : decode cX0_shameAt 135 = .ok (.if_icmp .gt 6, 3) := by decide +kernel
theorem dX0_shameAt_138 : decode cX0_shameAt 138 = .ok (.iinc 3 10, 3) := by decide +kernel
theorem dX0_shameAt_141 : decode cX0_shameAt 141 = .ok (.iinc 4 1, 3) := by decide +kernel
theorem dX0_shameAt_144 : decode cX0_shameAt 144 = .ok (.goto (-48), 3) := by decide +kernel
theorem dX0_shameAt_147 : decode cX0_shameAt 147 = .ok (.iload_n 3, 1) := by decide +kernel
theorem dX0_shameAt_148 : decode cX0_shameAt 148 = .ok (.ireturn, 1) := by decide +kernel
theorem dX0_goesAfter_0 : decode cX0_goesAfter 0 = .ok (.iload_n 1, 1) := by decide +kernel
theorem dX0_goesAfter_1 : decode cX0_goesAfter 1 = .ok (.istore_n 2, 1) := by decide +kernel
theorem dX0_goesAfter_2 : decode cX0_goesAfter 2 = .ok (.iconst 0, 1) := by decide +kernel
theorem dX0_goesAfter_3 : decode cX0_goesAfter 3 = .ok (.istore_n 3, 1) := by decide +kernel
theorem dX0_goesAfter_4 : decode cX0_goesAfter 4 = .ok (.iload_n 3, 1) := by decide +kernel
theorem dX0_goesAfter_5 : decode cX0_goesAfter 5 = .ok (.iconst 4, 1) := by decide +kernel
theorem dX0_goesAfter_6 : decode cX0_goesAfter 6 = .ok (.if_icmp .ge 62, 3) := by decide +kernel
theorem dX0_goesAfter_9 : decode cX0_goesAfter 9 = .ok (.iconst 0, 1) := by decide +kernel
theorem dX0_goesAfter_10 : decode cX0_goesAfter 10 = .ok (.istore 4, 2) := by decide +kernel
theorem dX0_goesAfter_12 : decode cX0_goesAfter 12 = .ok (.iload 4, 2) := by decide +kernel
theorem dX0_goesAfter_14 : decode cX0_goesAfter 14 = .ok (.iconst 4, 1) := by decide +kernel
theorem dX0_goesAfter_15 : decode cX0_goesAfter 15 = .ok (.if_icmp .ge 47, 3) := by decide +kernel
theorem dX0_goesAfter_18 : decode cX0_goesAfter 18 = .ok (.aload_n 0, 1) := by decide +kernel
theorem dX0_goesAfter_19 : decode cX0_goesAfter 19 = .ok (.getfield 53, 3) := by decide +kernel
theorem dX0_goesAfter_22 : decode cX0_goesAfter 22 = .ok (.iload 4, 2) := by decide +kernel
theorem dX0_goesAfter_24 : decode cX0_goesAfter 24 = .ok (.iaload, 1) := by decide +kernel
theorem dX0_goesAfter_25 : decode cX0_goesAfter 25 = .ok (.iload_n 2, 1) := by decide +kernel
theorem dX0_goesAfter_26 : decode cX0_goesAfter 26 = .ok (.if_icmp .le 30, 3) := by decide +kernel
theorem dX0_goesAfter_29 : decode cX0_goesAfter 29 = .ok (.aload_n 0, 1) := by decide +kernel
theorem dX0_goesAfter_30 : decode cX0_goesAfter 30 = .ok (.getfield 53, 3) := by decide +kernel
theorem dX0_goesAfter_33 : decode cX0_goesAfter 33 = .ok (.iload 4, 2) := by decide +kernel
theorem dX0_goesAfter_35 : decode cX0_goesAfter 35 = .ok (.iaload, 1) := by decide +kernel
theorem dX0_goesAfter_36 : decode cX0_goesAfter 36 = .ok (.iload_n 2, 1) := by decide +kernel
theorem dX0_goesAfter_37 : decode cX0_goesAfter 37 = .ok (.aload_n 0, 1) := by decide +kernel
theorem dX0_goesAfter_38 : decode cX0_goesAfter 38 = .ok (.getfield 12, 3) := by decide +kernel
theorem dX0_goesAfter_41 : decode cX0_goesAfter 41 = .ok (.getfield 145, 3) := by decide +kernel
theorem dX0_goesAfter_44 : decode cX0_goesAfter 44 = .ok (.iadd, 1) := by decide +kernel
theorem dX0_goesAfter_45 : decode cX0_goesAfter 45 = .ok (.if_icmp .gt 11, 3) := by decide +kernel
theorem dX0_goesAfter_48 : decode cX0_goesAfter 48 = .ok (.aload_n 0, 1) := by decide +kernel
theorem dX0_goesAfter_49 : decode cX0_goesAfter 49 = .ok (.getfield 53, 3) := by decide +kernel
theorem dX0_goesAfter_52 : decode cX0_goesAfter 52 = .ok (.iload 4, 2) := by decide +kernel
theorem dX0_goesAfter_54 : decode cX0_goesAfter 54 = .ok (.iaload, 1) := by decide +kernel
theorem dX0_goesAfter_55 : decode cX0_goesAfter 55 = .ok (.istore_n 2, 1) := by decide +kernel
theorem dX0_goesAfter_56 : decode cX0_goesAfter 56 = .ok (.iinc 4 1, 3) := by decide +kernel
theorem dX0_goesAfter_59 : decode cX0_goesAfter 59 = .ok (.goto (-47), 3) := by decide +kernel
theorem dX0_goesAfter_62 : decode cX0_goesAfter 62 = .ok (.iinc 3 1, 3) := by decide +kernel
theorem dX0_goesAfter_65 : decode cX0_goesAfter 65 = .ok (.goto (-61), 3) := by decide +kernel
theorem dX0_goesAfter_68 : decode cX0_goesAfter 68 = .ok (.iload_n 2, 1) := by decide +kernel
theorem dX0_goesAfter_69 : decode cX0_goesAfter 69 = .ok (.aload_n 0, 1) := by decide +kernel
theorem dX0_goesAfter_70 : decode cX0_goesAfter 70 = .ok (.getfield 12, 3) := by decide +kernel
theorem dX0_goesAfter_73 : decode cX0_goesAfter 73 = .ok (.getfield 145, 3) := by decide +kernel
theorem dX0_goesAfter_76 : decode cX0_goesAfter 76 = .ok (.iadd, 1) := by decide +kernel
theorem dX0_goesAfter_77 : decode cX0_goesAfter 77 = .ok (.ireturn, 1) := by decide +kernel
theorem dX0_standsIn_0 : decode cX0_standsIn 0 = .ok (.aload_n 0, 1) := by decide +kernel
theorem dX0_standsIn_1 : decode cX0_standsIn 1 = .ok (.getfield 53, 3) := by decide +kernel
theorem dX0_standsIn_4 : decode cX0_standsIn 4 = .ok (.aload_n 0, 1) := by decide +kernel
theorem dX0_standsIn_5 : decode cX0_standsIn 5 = .ok (.getfield 12, 3) := by decide +kernel
theorem dX0_standsIn_8 : decode cX0_standsIn 8 = .ok (.getfield 62, 3) := by decide +kernel
theorem dX0_standsIn_11 : decode cX0_standsIn 11 = .ok (.iload_n 1, 1) := by decide +kernel
theorem dX0_standsIn_12 : decode cX0_standsIn 12 = .ok (.iaload, 1) := by decide +kernel
theorem dX0_standsIn_13 : decode cX0_standsIn 13 = .ok (.iaload, 1) := by decide +kernel
theorem dX0_standsIn_14 : decode cX0_standsIn 14 = .ok (.ireturn, 1) := by decide +kernel
theorem dX0_goesIn_0 : decode cX0_goesIn 0 = .ok (.aload_n 0, 1) := by decide +kernel
theorem dX0_goesIn_1 : decode cX0_goesIn 1 = .ok (.getfield 56, 3) := by decide +kernel
theorem dX0_goesIn_4 : decode cX0_goesIn 4 = .ok (.aload_n 0, 1) := by decide +kernel
theorem dX0_goesIn_5 : decode cX0_goesIn 5 = .ok (.getfield 12, 3) := by decide +kernel
theorem dX0_goesIn_8 : decode cX0_goesIn 8 = .ok (.getfield 62, 3) := by decide +kernel
theorem dX0_goesIn_11 : decode cX0_goesIn 11 = .ok (.iload_n 1, 1) := by decide +kernel
theorem dX0_goesIn_12 : decode cX0_goesIn 12 = .ok (.iaload, 1) := by decide +kernel
theorem dX0_goesIn_13 : decode cX0_goesIn 13 = .ok (.iaload, 1) := by decide +kernel
theorem dX0_goesIn_14 : decode cX0_goesIn 14 = .ok (.ireturn, 1) := by decide +kernel
theorem dX0_lastGoes_0 : decode cX0_lastGoes 0 = .ok (.iconst 0, 1) := by decide +kernel
theorem dX0_lastGoes_1 : decode cX0_lastGoes 1 = .ok (.istore_n 1, 1) := by decide +kernel
theorem dX0_lastGoes_2 : decode cX0_lastGoes 2 = .ok (.iconst 0, 1) := by decide +kernel
theorem dX0_lastGoes_3 : decode cX0_lastGoes 3 = .ok (.istore_n 2, 1) := by decide +kernel
theorem dX0_lastGoes_4 : decode cX0_lastGoes 4 = .ok (.iload_n 2, 1) := by decide +kernel
theorem dX0_lastGoes_5 : decode cX0_lastGoes 5 = .ok (.aload_n 0, 1) := by decide +kernel
theorem dX0_lastGoes_6 : decode cX0_lastGoes 6 = .ok (.getfield 12, 3) := by decide +kernel
theorem dX0_lastGoes_9 : decode cX0_lastGoes 9 = .ok (.getfield 59, 3) := by decide +kernel
theorem dX0_lastGoes_12 : decode cX0_lastGoes 12 = .ok (.if_icmp .ge 19, 3) := by decide +kernel
theorem dX0_lastGoes_15 : decode cX0_lastGoes 15 = .ok (.iload_n 1, 1) := by decide +kernel
theorem dX0_lastGoes_16 : decode cX0_lastGoes 16 = .ok (.aload_n 0, 1) := by decide +kernel
theorem dX0_lastGoes_17 : decode cX0_lastGoes 17 = .ok (.iload_n 2, 1) := by decide +kernel
theorem dX0_lastGoes_18 : decode cX0_lastGoes 18 = .ok (.invokevirtual 148, 3) := by decide +kernel
theorem dX0_lastGoes_21 : decode cX0_lastGoes 21 = .ok (.invokestatic 120, 3) := by decide +kernel
theorem dX0_lastGoes_24 : decode cX0_lastGoes 24 = .ok (.istore_n 1, 1) := by decide +kernel
theorem dX0_lastGoes_25 : decode cX0_lastGoes 25 = .ok (.iinc 2 1, 3) := by decide +kernel
theorem dX0_lastGoes_28 : decode cX0_lastGoes 28 = .ok (.goto (-24), 3) := by decide +kernel
theorem dX0_lastGoes_31 : decode cX0_lastGoes 31 = .ok (.iload_n 1, 1) := by decide +kernel
theorem dX0_lastGoes_32 : decode cX0_lastGoes 32 = .ok (.ireturn, 1) := by decide +kernel
theorem dX0_wastedBy_0 : decode cX0_wastedBy 0 = .ok (.aload_n 0, 1) := by decide +kernel
theorem dX0_wastedBy_1 : decode cX0_wastedBy 1 = .ok (.iload_n 1, 1) := by decide +kernel
theorem dX0_wastedBy_2 : decode cX0_wastedBy 2 = .ok (.invokevirtual 148, 3) := by decide +kernel
theorem dX0_wastedBy_5 : decode cX0_wastedBy 5 = .ok (.aload_n 0, 1) := by decide +kernel
theorem dX0_wastedBy_6 : decode cX0_wastedBy 6 = .ok (.getfield 12, 3) := by decide +kernel
theorem dX0_wastedBy_9 : decode cX0_wastedBy 9 = .ok (.getfield 66, 3) := by decide +kernel
theorem dX0_wastedBy_12 : decode cX0_wastedBy 12 = .ok (.iload_n 1, 1) := by decide +kernel
theorem dX0_wastedBy_13 : decode cX0_wastedBy 13 = .ok (.iaload, 1) := by decide +kernel
theorem dX0_wastedBy_14 : decode cX0_wastedBy 14 = .ok (.isub, 1) := by decide +kernel
theorem dX0_wastedBy_15 : decode cX0_wastedBy 15 = .ok (.invokestatic 151, 3) := by decide +kernel
theorem dX0_wastedBy_18 : decode cX0_wastedBy 18 = .ok (.ireturn, 1) := by decide +kernel
theorem dX0_wastedByHost_0 : decode cX0_wastedByHost 0 = .ok (.aload_n 0, 1) := by decide +kernel
theorem dX0_wastedByHost_1 : decode cX0_wastedByHost 1 = .ok (.invokevirtual 154, 3) := by decide +kernel
theorem dX0_wastedByHost_4 : decode cX0_wastedByHost 4 = .ok (.aload_n 0, 1) := by decide +kernel
theorem dX0_wastedByHost_5 : decode cX0_wastedByHost 5 = .ok (.getfield 12, 3) := by decide +kernel
theorem dX0_wastedByHost_8 : decode cX0_wastedByHost 8 = .ok (.getfield 158, 3) := by decide +kernel
theorem dX0_wastedByHost_11 : decode cX0_wastedByHost 11 = .ok (.isub, 1) := by decide +kernel
theorem dX0_wastedByHost_12 : decode cX0_wastedByHost 12 = .ok (.invokestatic 151, 3) := by decide +kernel
theorem dX0_wastedByHost_15 : decode cX0_wastedByHost 15 = .ok (.ireturn, 1) := by decide +kernel
theorem dX0_wastedByAll_0 : decode cX0_wastedByAll 0 = .ok (.aload_n 0, 1) := by decide +kernel
theorem dX0_wastedByAll_1 : decode cX0_wastedByAll 1 = .ok (.invokevirtual 161, 3) := by decide +kernel
theorem dX0_wastedByAll_4 : decode cX0_wastedByAll 4 = .ok (.istore_n 1, 1) := by decide +kernel
theorem dX0_wastedByAll_5 : decode cX0_wastedByAll 5 = .ok (.iconst 0, 1) := by decide +kernel
theorem dX0_wastedByAll_6 : decode cX0_wastedByAll 6 = .ok (.istore_n 2, 1) := by decide +kernel
theorem dX0_wastedByAll_7 : decode cX0_wastedByAll 7 = .ok (.iload_n 2, 1) := by decide +kernel
theorem dX0_wastedByAll_8 : decode cX0_wastedByAll 8 = .ok (.aload_n 0, 1) := by decide +kernel
theorem dX0_wastedByAll_9 : decode cX0_wastedByAll 9 = .ok (.getfield 12, 3) := by decide +kernel
theorem dX0_wastedByAll_12 : decode cX0_wastedByAll 12 = .ok (.getfield 59, 3) := by decide +kernel
theorem dX0_wastedByAll_15 : decode cX0_wastedByAll 15 = .ok (.if_icmp .ge 17, 3) := by decide +kernel
theorem dX0_wastedByAll_18 : decode cX0_wastedByAll 18 = .ok (.iload_n 1, 1) := by decide +kernel
theorem dX0_wastedByAll_19 : decode cX0_wastedByAll 19 = .ok (.aload_n 0, 1) := by decide +kernel
theorem dX0_wastedByAll_20 : decode cX0_wastedByAll 20 = .ok (.iload_n 2, 1) := by decide +kernel
theorem dX0_wastedByAll_21 : decode cX0_wastedByAll 21 = .ok (.invokevirtual 164, 3) := by decide +kernel
theorem dX0_wastedByAll_24 : decode cX0_wastedByAll 24 = .ok (.iadd, 1) := by decide +kernel
theorem dX0_wastedByAll_25 : decode cX0_wastedByAll 25 = .ok (.istore_n 1, 1) := by decide +kernel
theorem dX0_wastedByAll_26 : decode cX0_wastedByAll 26 = .ok (.iinc 2 1, 3) := by decide +kernel
theorem dX0_wastedByAll_29 : decode cX0_wastedByAll 29 = .ok (.goto (-22), 3) := by decide +kernel
theorem dX0_wastedByAll_32 : decode cX0_wastedByAll 32 = .ok (.iload_n 1, 1) := by decide +kernel
theorem dX0_wastedByAll_33 : decode cX0_wastedByAll 33 = .ok (.ireturn, 1) := by decide +kernel
theorem dX1_init_0 : decode cX1_init 0 = .ok (.aload_n 0, 1) := by decide +kernel
theorem dX1_init_1 : decode cX1_init 1 = .ok (.invokespecial 3, 3) := by decide +kernel
theorem dX1_init_4 : decode cX1_init 4 = .ok (.aload_n 0, 1) := by decide +kernel
theorem dX1_init_5 : decode cX1_init 5 = .ok (.iconst 0, 1) := by decide +kernel
theorem dX1_init_6 : decode cX1_init 6 = .ok (.putfield 9, 3) := by decide +kernel
theorem dX1_init_9 : decode cX1_init 9 = .ok (.aload_n 0, 1) := by decide +kernel
theorem dX1_init_10 : decode cX1_init 10 = .ok (.iconst 0, 1) := by decide +kernel
theorem dX1_init_11 : decode cX1_init 11 = .ok (.putfield 15, 3) := by decide +kernel
theorem dX1_init_14 : decode cX1_init 14 = .ok (.aload_n 0, 1) := by decide +kernel
theorem dX1_init_15 : decode cX1_init 15 = .ok (.iconst 4, 1) := by decide +kernel
theorem dX1_init_16 : decode cX1_init 16 = .ok (.newarray .int, 2) := by decide +kernel
theorem dX1_init_18 : decode cX1_init 18 = .ok (.putfield 19, 3) := by decide +kernel
theorem dX1_init_21 : decode cX1_init 21 = .ok (.aload_n 0, 1) := by decide +kernel
theorem dX1_init_22 : decode cX1_init 22 = .ok (.iconst 4, 1) := by decide +kernel
theorem dX1_init_23 : decode cX1_init 23 = .ok (.newarray .int, 2) := by decide +kernel
theorem dX1_init_25 : decode cX1_init 25 = .ok (.putfield 23, 3) := by decide +kernel
theorem dX1_init_28 : decode cX1_init 28 = .ok (.aload_n 0, 1) := by decide +kernel
theorem dX1_init_29 : decode cX1_init 29 = .ok (.iconst 4, 1) := by decide +kernel
theorem dX1_init_30 : decode cX1_init 30 = .ok (.newarray .int, 2) := by decide +kernel
theorem dX1_init_32 : decode cX1_init 32 = .ok (.putfield 26, 3) := by decide +kernel
theorem dX1_init_35 : decode cX1_init 35 = .ok (.aload_n 0, 1) := by decide +kernel
theorem dX1_init_36 : decode cX1_init 36 = .ok (.iconst 4, 1) := by decide +kernel
theorem dX1_init_37 : decode cX1_init 37 = .ok (.newarray .int, 2) := by decide +kernel
theorem dX1_init_39 : decode cX1_init 39 = .ok (.putfield 29, 3) := by decide +kernel
theorem dX1_init_42 : decode cX1_init 42 = .ok (.aload_n 0, 1) := by decide +kernel
theorem dX1_init_43 : decode cX1_init 43 = .ok (.iconst 0, 1) := by decide +kernel
theorem dX1_init_44 : decode cX1_init 44 = .ok (.putfield 32, 3) := by decide +kernel
theorem dX1_init_47 : decode cX1_init 47 = .ok (.aload_n 0, 1) := by decide +kernel
theorem dX1_init_48 : decode cX1_init 48 = .ok (.iconst 0, 1) := by decide +kernel
theorem dX1_init_49 : decode cX1_init 49 = .ok (.putfield 35, 3) := by decide +kernel
theorem dX1_init_52 : decode cX1_init 52 = .ok (.aload_n 0, 1) := by decide +kernel
theorem dX1_init_53 : decode cX1_init 53 = .ok (.iconst 0, 1) := by decide +kernel
theorem dX1_init_54 : decode cX1_init 54 = .ok (.putfield 38, 3) := by decide +kernel
theorem dX1_init_57 : decode cX1_init 57 = .ok (.return_, 1) := by decide +kernel
theorem dX1_gather_0 : decode cX1_gather 0 = .ok (.aload_n 0, 1) := by decide +kernel
theorem dX1_gather_1 : decode cX1_gather 1 = .ok (.iconst 0, 1) := by decide +kernel
theorem dX1_gather_2 : decode cX1_gather 2 = .ok (.putfield 9, 3) := by decide +kernel
theorem dX1_gather_5 : decode cX1_gather 5 = .ok (.aload_n 0, 1) := by decide +kernel
theorem dX1_gather_6 : decode cX1_gather 6 = .ok (.iconst 0, 1) := by decide +kernel
theorem dX1_gather_7 : decode cX1_gather 7 = .ok (.putfield 15, 3) := by decide +kernel
theorem dX1_gather_10 : decode cX1_gather 10 = .ok (.iconst 0, 1) := by decide +kernel
theorem dX1_gather_11 : decode cX1_gather 11 = .ok (.istore_n 2, 1) := by decide +kernel
theorem dX1_gather_12 : decode cX1_gather 12 = .ok (.iload_n 2, 1) := by decide +kernel
theorem dX1_gather_13 : decode cX1_gather 13 = .ok (.iconst 4, 1) := by decide +kernel
theorem dX1_gather_14 : decode cX1_gather 14 = .ok (.if_icmp .ge 133, 3) := by decide +kernel
theorem dX1_gather_17 : decode cX1_gather 17 = .ok (.iconst 0, 1) := by decide +kernel
theorem dX1_gather_18 : decode cX1_gather 18 = .ok (.istore_n 3, 1) := by decide +kernel
theorem dX1_gather_19 : decode cX1_gather 19 = .ok (.aload_n 0, 1) := by decide +kernel
theorem dX1_gather_20 : decode cX1_gather 20 = .ok (.getfield 19, 3) := by decide +kernel
theorem dX1_gather_23 : decode cX1_gather 23 = .ok (.aload_n 0, 1) := by decide +kernel
theorem dX1_gather_24 : decode cX1_gather 24 = .ok (.getfield 15, 3) := by decide +kernel
theorem dX1_gather_27 : decode cX1_gather 27 = .ok (.iconst 0, 1) := by decide +kernel
theorem dX1_gather_28 : decode cX1_gather 28 = .ok (.iastore, 1) := by decide +kernel
theorem dX1_gather_29 : decode cX1_gather 29 = .ok (.aload_n 0, 1) := by decide +kernel
theorem dX1_gather_30 : decode cX1_gather 30 = .ok (.getfield 23, 3) := by decide +kernel
theorem dX1_gather_33 : decode cX1_gather 33 = .ok (.aload_n 0, 1) := by decide +kernel
theorem dX1_gather_34 : decode cX1_gather 34 = .ok (.getfield 15, 3) := by decide +kernel
theorem dX1_gather_37 : decode cX1_gather 37 = .ok (.iconst 0, 1) := by decide +kernel
theorem dX1_gather_38 : decode cX1_gather 38 = .ok (.iastore, 1) := by decide +kernel
theorem dX1_gather_39 : decode cX1_gather 39 = .ok (.iconst 0, 1) := by decide +kernel
theorem dX1_gather_40 : decode cX1_gather 40 = .ok (.istore 4, 2) := by decide +kernel
theorem dX1_gather_42 : decode cX1_gather 42 = .ok (.iload 4, 2) := by decide +kernel
theorem dX1_gather_44 : decode cX1_gather 44 = .ok (.aload_n 1, 1) := by decide +kernel
theorem dX1_gather_45 : decode cX1_gather 45 = .ok (.getfield 41, 3) := by decide +kernel
theorem dX1_gather_48 : decode cX1_gather 48 = .ok (.if_icmp .ge 79, 3) := by decide +kernel
theorem dX1_gather_51 : decode cX1_gather 51 = .ok (.aload_n 1, 1) := by decide +kernel
theorem dX1_gather_52 : decode cX1_gather 52 = .ok (.getfield 46, 3) := by decide +kernel
theorem dX1_gather_55 : decode cX1_gather 55 = .ok (.iload 4, 2) := by decide +kernel
theorem dX1_gather_57 : decode cX1_gather 57 = .ok (.iaload, 1) := by decide +kernel
theorem dX1_gather_58 : decode cX1_gather 58 = .ok (.iload_n 2, 1) := by decide +kernel
theorem dX1_gather_59 : decode cX1_gather 59 = .ok (.if_icmp .ne 62, 3) := by decide +kernel
theorem dX1_gather_62 : decode cX1_gather 62 = .ok (.iinc 3 1, 3) := by decide +kernel
theorem dX1_gather_65 : decode cX1_gather 65 = .ok (.aload_n 0, 1) := by decide +kernel
theorem dX1_gather_66 : decode cX1_gather 66 = .ok (.getfield 19, 3) := by decide +kernel
theorem dX1_gather_69 : decode cX1_gather 69 = .ok (.aload_n 0, 1) := by decide +kernel
theorem dX1_gather_70 : decode cX1_gather 70 = .ok (.getfield 15, 3) := by decide +kernel
theorem dX1_gather_73 : decode cX1_gather 73 = .ok (.aload_n 0, 1) := by decide +kernel
theorem dX1_gather_74 : decode cX1_gather 74 = .ok (.getfield 19, 3) := by decide +kernel
theorem dX1_gather_77 : decode cX1_gather 77 = .ok (.aload_n 0, 1) := by decide +kernel
theorem dX1_gather_78 : decode cX1_gather 78 = .ok (.getfield 15, 3) := by decide +kernel
theorem dX1_gather_81 : decode cX1_gather 81 = .ok (.iaload, 1) := by decide +kernel
theorem dX1_gather_82 : decode cX1_gather 82 = .ok (.aload_n 1, 1) := by decide +kernel
theorem dX1_gather_83 : decode cX1_gather 83 = .ok (.getfield 49, 3) := by decide +kernel
theorem dX1_gather_86 : decode cX1_gather 86 = .ok (.iload 4, 2) := by decide +kernel
theorem dX1_gather_88 : decode cX1_gather 88 = .ok (.iaload, 1) := by decide +kernel
theorem dX1_gather_89 : decode cX1_gather 89 = .ok (.invokestatic 50, 3) := by decide +kernel
theorem dX1_gather_92 : decode cX1_gather 92 = .ok (.iastore, 1) := by decide +kernel
theorem dX1_gather_93 : decode cX1_gather 93 = .ok (.aload_n 0, 1) := by decide +kernel
theorem dX1_gather_94 : decode cX1_gather 94 = .ok (.getfield 23, 3) := by decide +kernel
theorem dX1_gather_97 : decode cX1_gather 97 = .ok (.aload_n 0, 1) := by decide +kernel
theorem dX1_gather_98 : decode cX1_gather 98 = .ok (.getfield 15, 3) := by decide +kernel
theorem dX1_gather_101 : decode cX1_gather 101 = .ok (.aload_n 0, 1) := by decide +kernel
theorem dX1_gather_102 : decode cX1_gather 102 = .ok (.getfield 23, 3) := by decide +kernel
theorem dX1_gather_105 : decode cX1_gather 105 = .ok (.aload_n 0, 1) := by decide +kernel
theorem dX1_gather_106 : decode cX1_gather 106 = .ok (.getfield 15, 3) := by decide +kernel
theorem dX1_gather_109 : decode cX1_gather 109 = .ok (.iaload, 1) := by decide +kernel
theorem dX1_gather_110 : decode cX1_gather 110 = .ok (.aload_n 1, 1) := by decide +kernel
theorem dX1_gather_111 : decode cX1_gather 111 = .ok (.getfield 56, 3) := by decide +kernel
theorem dX1_gather_114 : decode cX1_gather 114 = .ok (.iload 4, 2) := by decide +kernel
theorem dX1_gather_116 : decode cX1_gather 116 = .ok (.iaload, 1) := by decide +kernel
theorem dX1_gather_117 : decode cX1_gather 117 = .ok (.invokestatic 50, 3) := by decide +kernel
theorem dX1_gather_120 : decode cX1_gather 120 = .ok (.iastore, 1) := by decide +kernel
theorem dX1_gather_121 : decode cX1_gather 121 = .ok (.iinc 4 1, 3) := by decide +kernel
theorem dX1_gather_124 : decode cX1_gather 124 = .ok (.goto (-82), 3) := by decide +kernel
theorem dX1_gather_127 : decode cX1_gather 127 = .ok (.iload_n 3, 1) := by decide +kernel
theorem dX1_gather_128 : decode cX1_gather 128 = .ok (.ifCond .le 13, 3) := by decide +kernel
theorem dX1_gather_131 : decode cX1_gather 131 = .ok (.aload_n 0, 1) := by decide +kernel
theorem dX1_gather_132 : decode cX1_gather 132 = .ok (.dup, 1) := by decide +kernel
theorem dX1_gather_133 : decode cX1_gather 133 = .ok (.getfield 15, 3) := by decide +kernel
theorem dX1_gather_136 : decode cX1_gather 136 = .ok (.iconst 1, 1) := by decide +kernel
theorem dX1_gather_137 : decode cX1_gather 137 = .ok (.iadd, 1) := by decide +kernel
theorem dX1_gather_138 : decode cX1_gather 138 = .ok (.putfield 15, 3) := by decide +kernel
theorem dX1_gather_141 : decode cX1_gather 141 = .ok (.iinc 2 1, 3) := by decide +kernel
theorem dX1_gather_144 : decode cX1_gather 144 = .ok (.goto (-132), 3) := by decide +kernel
theorem dX1_gather_147 : decode cX1_gather 147 = .ok (.return_, 1) := by decide +kernel
theorem dX1_chooseByFigures_0 : decode cX1_chooseByFigures 0 = .ok (.iload_n 1, 1) := by decide +kernel
theorem dX1_chooseByFigures_1 : decode cX1_chooseByFigures 1 = .ok (.istore_n 2, 1) := by decide +kernel
theorem dX1_chooseByFigures_2 : decode cX1_chooseByFigures 2 = .ok (.iconst 0, 1) := by decide +kernel
theorem dX1_chooseByFigures_3 : decode cX1_chooseByFigures 3 = .ok (.istore_n 3, 1) := by decide +kernel
theorem dX1_chooseByFigures_4 : decode cX1_chooseByFigures 4 = .ok (.iload_n 3, 1) := by decide +kernel
theorem dX1_chooseByFigures_5 : decode cX1_chooseByFigures 5 = .ok (.aload_n 0, 1) := by decide +kernel
theorem dX1_chooseByFigures_6 : decode cX1_chooseByFigures 6 = .ok (.getfield 15, 3) := by decide +kernel
theorem dX1_chooseByFigures_9 : decode cX1_chooseByFigures 9 = .ok (.if_icmp .ge 37, 3) := by decide +kernel
theorem dX1_chooseByFigures_12 : decode cX1_chooseByFigures 12 = .ok (.aload_n 0, 1) := by decide +kernel
theorem dX1_chooseByFigures_13 : decode cX1_chooseByFigures 13 = .ok (.getfield 26, 3) := by decide +kernel
theorem dX1_chooseByFigures_16 : decode cX1_chooseByFigures 16 = .ok (.iload_n 3, 1) := by decide +kernel
theorem dX1_chooseByFigures_17 : decode cX1_chooseByFigures 17 = .ok (.iload_n 2, 1) := by decide +kernel
theorem dX1_chooseByFigures_18 : decode cX1_chooseByFigures 18 = .ok (.bipush 10, 2) := by decide +kernel
theorem dX1_chooseByFigures_20 : decode cX1_chooseByFigures 20 = .ok (.irem, 1) := by decide +kernel
theorem dX1_chooseByFigures_21 : decode cX1_chooseByFigures 21 = .ok (.iastore, 1) := by decide +kernel
theorem dX1_chooseByFigures_22 : decode cX1_chooseByFigures 22 = .ok (.iload_n 2, 1) := by decide +kernel
theorem dX1_chooseByFigures_23 : decode cX1_chooseByFigures 23 = .ok (.bipush 10, 2) := by decide +kernel
theorem dX1_chooseByFigures_25 : decode cX1_chooseByFigures 25 = .ok (.idiv, 1) := by decide +kernel
theorem dX1_chooseByFigures_26 : decode cX1_chooseByFigures 26 = .ok (.istore_n 2, 1) := by decide +kernel
theorem dX1_chooseByFigures_27 : decode cX1_chooseByFigures 27 = .ok (.aload_n 0, 1) := by decide +kernel
theorem dX1_chooseByFigures_28 : decode cX1_chooseByFigures 28 = .ok (.getfield 26, 3) := by decide +kernel
theorem dX1_chooseByFigures_31 : decode cX1_chooseByFigures 31 = .ok (.iload_n 3, 1) := by decide +kernel
theorem dX1_chooseByFigures_32 : decode cX1_chooseByFigures 32 = .ok (.iaload, 1) := by decide +kernel
theorem dX1_chooseByFigures_33 : decode cX1_chooseByFigures 33 = .ok (.bipush 6, 2) := by decide +kernel
theorem dX1_chooseByFigures_35 : decode cX1_chooseByFigures 35 = .ok (.if_icmp .lt 5, 3) := by decide +kernel
theorem dX1_chooseByFigures_38 : decode cX1_chooseByFigures 38 = .ok (.iconst 0, 1) := by decide +kernel
theorem dX1_chooseByFigures_39 : decode cX1_chooseByFigures 39 = .ok (.ireturn, 1) := by decide +kernel
theorem dX1_chooseByFigures_40 : decode cX1_chooseByFigures 40 = .ok (.iinc 3 1, 3) := by decide +kernel
theorem dX1_chooseByFigures_43 : decode cX1_chooseByFigures 43 = .ok (.goto (-39), 3) := by decide +kernel
theorem dX1_chooseByFigures_46 : decode cX1_chooseByFigures 46 = .ok (.iconst 1, 1) := by decide +kernel
theorem dX1_chooseByFigures_47 : decode cX1_chooseByFigures 47 = .ok (.ireturn, 1) := by decide +kernel
theorem dX1_costOf_0 : decode cX1_costOf 0 = .ok (.sipush 180, 3) := by decide +kernel
theorem dX1_costOf_3 : decode cX1_costOf 3 = .ok (.bipush 30, 2) := by decide +kernel
theorem dX1_costOf_5 : decode cX1_costOf 5 = .ok (.aload_n 0, 1) := by decide +kernel
theorem dX1_costOf_6 : decode cX1_costOf 6 = .ok (.getfield 26, 3) := by decide +kernel
theorem dX1_costOf_9 : decode cX1_costOf 9 = .ok (.iload_n 1, 1) := by decide +kernel
theorem dX1_costOf_10 : decode cX1_costOf 10 = .ok (.iaload, 1) := by decide +kernel
theorem dX1_costOf_11 : decode cX1_costOf 11 = .ok (.imul, 1) := by decide +kernel
theorem dX1_costOf_12 : decode cX1_costOf 12 = .ok (.iadd, 1) := by decide +kernel
theorem dX1_costOf_13 : decode cX1_costOf 13 = .ok (.aload_n 0, 1) := by decide +kernel
theorem dX1_costOf_14 : decode cX1_costOf 14 = .ok (.getfield 19, 3) := by decide +kernel
theorem dX1_costOf_17 : decode cX1_costOf 17 = .ok (.iload_n 1, 1) := by decide +kernel
theorem dX1_costOf_18 : decode cX1_costOf 18 = .ok (.iaload, 1) := by decide +kernel
theorem dX1_costOf_19 : decode cX1_costOf 19 = .ok (.isub, 1) := by decide +kernel
theorem dX1_costOf_20 : decode cX1_costOf 20 = .ok (.invokestatic 57, 3) := by decide +kernel
theorem dX1_costOf_23 : decode cX1_costOf 23 = .ok (.istore_n 2, 1) := by decide +kernel
theorem dX1_costOf_24 : decode cX1_costOf 24 = .ok (.aload_n 0, 1) := by decide +kernel
theorem dX1_costOf_25 : decode cX1_costOf 25 = .ok (.iload_n 1, 1) := by decide +kernel
theorem dX1_costOf_26 : decode cX1_costOf 26 = .ok (.invokevirtual 61, 3) := by decide +kernel
theorem dX1_costOf_29 : decode cX1_costOf 29 = .ok (.ifCond .eq 14, 3) := by decide +kernel
theorem dX1_costOf_32 : decode cX1_costOf 32 = .ok (.iload_n 2, 1) := by decide +kernel
theorem dX1_costOf_33 : decode cX1_costOf 33 = .ok (.aload_n 0, 1) := by decide +kernel
theorem dX1_costOf_34 : decode cX1_costOf 34 = .ok (.getfield 23, 3) := by decide +kernel
theorem dX1_costOf_37 : decode cX1_costOf 37 = .ok (.iload_n 1, 1) := by decide +kernel
theorem dX1_costOf_38 : decode cX1_costOf 38 = .ok (.iaload, 1) := by decide +kernel
theorem dX1_costOf_39 : decode cX1_costOf 39 = .ok (.iadd, 1) := by decide +kernel
theorem dX1_costOf_40 : decode cX1_costOf 40 = .ok (.goto 4, 3) := by decide +kernel
theorem dX1_costOf_43 : decode cX1_costOf 43 = .ok (.iload_n 2, 1) := by decide +kernel
theorem dX1_costOf_44 : decode cX1_costOf 44 = .ok (.ireturn, 1) := by decide +kernel
theorem dX1_isFirstAlone_0 : decode cX1_isFirstAlone 0 = .ok (.iconst 0, 1) := by decide +kernel
theorem dX1_isFirstAlone_1 : decode cX1_isFirstAlone 1 = .ok (.istore_n 2, 1) := by decide +kernel
theorem dX1_isFirstAlone_2 : decode cX1_isFirstAlone 2 = .ok (.iload_n 2, 1) := by decide +kernel
theorem dX1_isFirstAlone_3 : decode cX1_isFirstAlone 3 = .ok (.aload_n 0, 1) := by decide +kernel
theorem dX1_isFirstAlone_4 : decode cX1_isFirstAlone 4 = .ok (.getfield 15, 3) := by decide +kernel
theorem dX1_isFirstAlone_7 : decode cX1_isFirstAlone 7 = .ok (.if_icmp .ge 31, 3) := by decide +kernel
theorem dX1_isFirstAlone_10 : decode cX1_isFirstAlone 10 = .ok (.iload_n 2, 1) := by decide +kernel
theorem dX1_isFirstAlone_11 : decode cX1_isFirstAlone 11 = .ok (.iload_n 1, 1) := by decide +kernel
theorem dX1_isFirstAlone_12 : decode cX1_isFirstAlone 12 = .ok (.if_icmp .eq 20, 3) := by decide +kernel
theorem dX1_isFirstAlone_15 : decode cX1_isFirstAlone 15 = .ok (.aload_n 0, 1) := by decide +kernel
theorem dX1_isFirstAlone_16 : decode cX1_isFirstAlone 16 = .ok (.getfield 26, 3) := by decide +kernel
theorem dX1_isFirstAlone_19 : decode cX1_isFirstAlone 19 = .ok (.iload_n 2, 1) := by decide +kernel
theorem dX1_isFirstAlone_20 : decode cX1_isFirstAlone 20 = .ok (.iaload, 1) := by decide +kernel
theorem dX1_isFirstAlone_21 : decode cX1_isFirstAlone 21 = .ok (.aload_n 0, 1) := by decide +kernel
theorem dX1_isFirstAlone_22 : decode cX1_isFirstAlone 22 = .ok (.getfield 26, 3) := by decide +kernel
theorem dX1_isFirstAlone_25 : decode cX1_isFirstAlone 25 = .ok (.iload_n 1, 1) := by decide +kernel
theorem dX1_isFirstAlone_26 : decode cX1_isFirstAlone 26 = .ok (.iaload, 1) := by decide +kernel
theorem dX1_isFirstAlone_27 : decode cX1_isFirstAlone 27 = .ok (.if_icmp .gt 5, 3) := by decide +kernel
theorem dX1_isFirstAlone_30 : decode cX1_isFirstAlone 30 = .ok (.iconst 0, 1) := by decide +kernel
theorem dX1_isFirstAlone_31 : decode cX1_isFirstAlone 31 = .ok (.ireturn, 1) := by decide +kernel
theorem dX1_isFirstAlone_32 : decode cX1_isFirstAlone 32 = .ok (.iinc 2 1, 3) := by decide +kernel
theorem dX1_isFirstAlone_35 : decode cX1_isFirstAlone 35 = .ok (.goto (-33), 3) := by decide +kernel
theorem dX1_isFirstAlone_38 : decode cX1_isFirstAlone 38 = .ok (.iconst 1, 1) := by decide +kernel
theorem dX1_isFirstAlone_39 : decode cX1_isFirstAlone 39 = .ok (.ireturn, 1) := by decide +kernel
theorem dX1_reckon_0 : decode cX1_reckon 0 = .ok (.aload_n 0, 1) := by decide +kernel
theorem dX1_reckon_1 : decode cX1_reckon 1 = .ok (.getfield 9, 3) := by decide +kernel
theorem dX1_reckon_4 : decode cX1_reckon 4 = .ok (.ifCond .eq 4, 3) := by decide +kernel
theorem dX1_reckon_7 : decode cX1_reckon 7 = .ok (.return_, 1) := by decide +kernel
theorem dX1_reckon_8 : decode cX1_reckon 8 = .ok (.aload_n 0, 1) := by decide +kernel
theorem dX1_reckon_9 : decode cX1_reckon 9 = .ok (.iconst 0, 1) := by decide +kernel
theorem dX1_reckon_10 : decode cX1_reckon 10 = .ok (.putfield 32, 3) := by decide +kernel
theorem dX1_reckon_13 : decode cX1_reckon 13 = .ok (.aload_n 0, 1) := by decide +kernel
theorem dX1_reckon_14 : decode cX1_reckon 14 = .ok (.ldc 65, 2) := by decide +kernel
theorem dX1_reckon_16 : decode cX1_reckon 16 = .ok (.putfield 35, 3) := by decide +kernel
theorem dX1_reckon_19 : decode cX1_reckon 19 = .ok (.aload_n 0, 1) := by decide +kernel
theorem dX1_reckon_20 : decode cX1_reckon 20 = .ok (.ldc 65, 2) := by decide +kernel
theorem dX1_reckon_22 : decode cX1_reckon 22 = .ok (.putfield 38, 3) := by decide +kernel
theorem dX1_reckon_25 : decode cX1_reckon 25 = .ok (.iconst 1, 1) := by decide +kernel
theorem dX1_reckon_26 : decode cX1_reckon 26 = .ok (.istore_n 1, 1) := by decide +kernel
theorem dX1_reckon_27 : decode cX1_reckon 27 = .ok (.iconst 0, 1) := by decide +kernel
theorem dX1_reckon_28 : decode cX1_reckon 28 = .ok (.istore_n 2, 1) := by decide +kernel
theorem dX1_reckon_29 : decode cX1_reckon 29 = .ok (.iload_n 2, 1) := by decide +kernel
theorem dX1_reckon_30 : decode cX1_reckon 30 = .ok (.aload_n 0, 1) := by decide +kernel
theorem dX1_reckon_31 : decode cX1_reckon 31 = .ok (.getfield 15, 3) := by decide +kernel
theorem dX1_reckon_34 : decode cX1_reckon 34 = .ok (.if_icmp .ge 14, 3) := by decide +kernel
theorem dX1_reckon_37 : decode cX1_reckon 37 = .ok (.iload_n 1, 1) := by decide +kernel
theorem dX1_reckon_38 : decode cX1_reckon 38 = .ok (.bipush 6, 2) := by decide +kernel
theorem dX1_reckon_40 : decode cX1_reckon 40 = .ok (.imul, 1) := by decide +kernel
theorem dX1_reckon_41 : decode cX1_reckon 41 = .ok (.istore_n 1, 1) := by decide +kernel
theorem dX1_reckon_42 : decode cX1_reckon 42 = .ok (.iinc 2 1, 3) := by decide +kernel
theorem dX1_reckon_45 : decode cX1_reckon 45 = .ok (.goto (-16), 3) := by decide +kernel
theorem dX1_reckon_48 : decode cX1_reckon 48 = .ok (.iconst 0, 1) := by decide +kernel
theorem dX1_reckon_49 : decode cX1_reckon 49 = .ok (.istore_n 2, 1) := by decide +kernel
theorem dX1_reckon_50 : decode cX1_reckon 50 = .ok (.iload_n 2, 1) := by decide +kernel
theorem dX1_reckon_51 : decode cX1_reckon 51 = .ok (.iload_n 1, 1) := by decide +kernel
theorem dX1_reckon_52 : decode cX1_reckon 52 = .ok (.if_icmp .ge 18, 3) := by decide +kernel
theorem dX1_reckon_55 : decode cX1_reckon 55 = .ok (.aload_n 0, 1) := by decide +kernel
theorem dX1_reckon_56 : decode cX1_reckon 56 = .ok (.iload_n 2, 1) := by decide +kernel
theorem dX1_reckon_57 : decode cX1_reckon 57 = .ok (.invokevirtual 66, 3) := by decide +kernel
theorem dX1_reckon_60 : decode cX1_reckon 60 = .ok (.aload_n 0, 1) := by decide +kernel
theorem dX1_reckon_61 : decode cX1_reckon 61 = .ok (.invokevirtual 70, 3) := by decide +kernel
theorem dX1_reckon_64 : decode cX1_reckon 64 = .ok (.iinc 2 1, 3) := by decide +kernel
theorem dX1_reckon_67 : decode cX1_reckon 67 = .ok (.goto (-17), 3) := by decide +kernel
theorem dX1_reckon_70 : decode cX1_reckon 70 = .ok (.aload_n 0, 1) := by decide +kernel
theorem dX1_reckon_71 : decode cX1_reckon 71 = .ok (.iconst 1, 1) := by decide +kernel
theorem dX1_reckon_72 : decode cX1_reckon 72 = .ok (.putfield 9, 3) := by decide +kernel
theorem dX1_reckon_75 : decode cX1_reckon 75 = .ok (.return_, 1) := by decide +kernel
theorem dX1_choose_0 : decode cX1_choose 0 = .ok (.iload_n 1, 1) := by decide +kernel
theorem dX1_choose_1 : decode cX1_choose 1 = .ok (.istore_n 2, 1) := by decide +kernel
theorem dX1_choose_2 : decode cX1_choose 2 = .ok (.aload_n 0, 1) := by decide +kernel
theorem dX1_choose_3 : decode cX1_choose 3 = .ok (.getfield 15, 3) := by decide +kernel
theorem dX1_choose_6 : decode cX1_choose 6 = .ok (.iconst 1, 1) := by decide +kernel
theorem dX1_choose_7 : decode cX1_choose 7 = .ok (.isub, 1) := by decide +kernel
theorem dX1_choose_8 : decode cX1_choose 8 = .ok (.istore_n 3, 1) := by decide +kernel
theorem dX1_choose_9 : decode cX1_choose 9 = .ok (.iload_n 3, 1) := by decide +kernel
theorem dX1_choose_10 : decode cX1_choose 10 = .ok (.ifCond .lt 24, 3) := by decide +kernel
theorem dX1_choose_13 : decode cX1_choose 13 = .ok (.aload_n 0, 1) := by decide +kernel
theorem dX1_choose_14 : decode cX1_choose 14 = .ok (.getfield 26, 3) := by decide +kernel
theorem dX1_choose_17 : decode cX1_choose 17 = .ok (.iload_n 3, 1) := by decide +kernel
theorem dX1_choose_18 : decode cX1_choose 18 = .ok (.iload_n 2, 1) := by decide +kernel
theorem dX1_choose_19 : decode cX1_choose 19 = .ok (.bipush 6, 2) := by decide +kernel
theorem dX1_choose_21 : decode cX1_choose 21 = .ok (.irem, 1) := by decide +kernel
theorem dX1_choose_22 : decode cX1_choose 22 = .ok (.iastore, 1) := by decide +kernel
theorem dX1_choose_23 : decode cX1_choose 23 = .ok (.iload_n 2, 1) := by decide +kernel
theorem dX1_choose_24 : decode cX1_choose 24 = .ok (.bipush 6, 2) := by decide +kernel
theorem dX1_choose_26 : decode cX1_choose 26 = .ok (.idiv, 1) := by decide +kernel
theorem dX1_choose_27 : decode cX1_choose 27 = .ok (.istore_n 2, 1) := by decide +kernel
theorem dX1_choose_28 : decode cX1_choose 28 = .ok (.iinc 3 (-1), 3) := by decide +kernel
theorem dX1_choose_31 : decode cX1_choose 31 = .ok (.goto (-22), 3) := by decide +kernel
theorem dX1_choose_34 : decode cX1_choose 34 = .ok (.return_, 1) := by decide +kernel
theorem dX1_weighChoice_0 : decode cX1_weighChoice 0 = .ok (.iconst 0, 1) := by decide +kernel
theorem dX1_weighChoice_1 : decode cX1_weighChoice 1 = .ok (.istore_n 1, 1) := by decide +kernel
theorem dX1_weighChoice_2 : decode cX1_weighChoice 2 = .ok (.iconst 0, 1) := by decide +kernel
theorem dX1_weighChoice_3 : decode cX1_weighChoice 3 = .ok (.istore_n 2, 1) := by decide +kernel
theorem dX1_weighChoice_4 : decode cX1_weighChoice 4 = .ok (.iload_n 2, 1) := by decide +kernel
theorem dX1_weighChoice_5 : decode cX1_weighChoice 5 = .ok (.aload_n 0, 1) := by decide +kernel
theorem dX1_weighChoice_6 : decode cX1_weighChoice 6 = .ok (.getfield 15, 3) := by decide +kernel
theorem dX1_weighChoice_9 : decode cX1_weighChoice 9 = .ok (.if_icmp .ge 17, 3) := by decide +kernel
theorem dX1_weighChoice_12 : decode cX1_weighChoice 12 = .ok (.iload_n 1, 1) := by decide +kernel
theorem dX1_weighChoice_13 : decode cX1_weighChoice 13 = .ok (.aload_n 0, 1) := by decide +kernel
theorem dX1_weighChoice_14 : decode cX1_weighChoice 14 = .ok (.iload_n 2, 1) := by decide +kernel
theorem dX1_weighChoice_15 : decode cX1_weighChoice 15 = .ok (.invokevirtual 73, 3) := by decide +kernel
theorem dX1_weighChoice_18 : decode cX1_weighChoice 18 = .ok (.iadd, 1) := by decide +kernel
theorem dX1_weighChoice_19 : decode cX1_weighChoice 19 = .ok (.istore_n 1, 1) := by decide +kernel
theorem dX1_weighChoice_20 : decode cX1_weighChoice 20 = .ok (.iinc 2 1, 3) := by decide +kernel
theorem dX1_weighChoice_23 : decode cX1_weighChoice 23 = .ok (.goto (-19), 3) := by decide +kernel
theorem dX1_weighChoice_26 : decode cX1_weighChoice 26 = .ok (.aload_n 0, 1) := by decide +kernel
theorem dX1_weighChoice_27 : decode cX1_weighChoice 27 = .ok (.aload_n 0, 1) := by decide +kernel
theorem dX1_weighChoice_28 : decode cX1_weighChoice 28 = .ok (.getfield 38, 3) := by decide +kernel
theorem dX1_weighChoice_31 : decode cX1_weighChoice 31 = .ok (.iload_n 1, 1) := by decide +kernel
theorem dX1_weighChoice_32 : decode cX1_weighChoice 32 = .ok (.invokestatic 76, 3) := by decide +kernel
theorem dX1_weighChoice_35 : decode cX1_weighChoice 35 = .ok (.putfield 38, 3) := by decide +kernel
theorem dX1_weighChoice_38 : decode cX1_weighChoice 38 = .ok (.aload_n 0, 1) := by decide +kernel
theorem dX1_weighChoice_39 : decode cX1_weighChoice 39 = .ok (.invokevirtual 79, 3) := by decide +kernel
theorem dX1_weighChoice_42 : decode cX1_weighChoice 42 = .ok (.ifCond .ne 4, 3) := by decide +kernel
theorem dX1_weighChoice_45 : decode cX1_weighChoice 45 = .ok (.return_, 1) := by decide +kernel
theorem dX1_weighChoice_46 : decode cX1_weighChoice 46 = .ok (.aload_n 0, 1) := by decide +kernel
theorem dX1_weighChoice_47 : decode cX1_weighChoice 47 = .ok (.getfield 32, 3) := by decide +kernel
theorem dX1_weighChoice_50 : decode cX1_weighChoice 50 = .ok (.ifCond .ne 17, 3) := by decide +kernel
theorem dX1_weighChoice_53 : decode cX1_weighChoice 53 = .ok (.aload_n 0, 1) := by decide +kernel
theorem dX1_weighChoice_54 : decode cX1_weighChoice 54 = .ok (.getfield 26, 3) := by decide +kernel
theorem dX1_weighChoice_57 : decode cX1_weighChoice 57 = .ok (.iconst 0, 1) := by decide +kernel
theorem dX1_weighChoice_58 : decode cX1_weighChoice 58 = .ok (.aload_n 0, 1) := by decide +kernel
theorem dX1_weighChoice_59 : decode cX1_weighChoice 59 = .ok (.getfield 29, 3) := by decide +kernel
theorem dX1_weighChoice_62 : decode cX1_weighChoice 62 = .ok (.iconst 0, 1) := by decide +kernel
theorem dX1_weighChoice_63 : decode cX1_weighChoice 63 = .ok (.iconst 4, 1) := by decide +kernel
theorem dX1_weighChoice_64 : decode cX1_weighChoice 64 = .ok (.invokestatic 83, 3) := by decide +kernel
theorem dX1_weighChoice_67 : decode cX1_weighChoice 67 = .ok (.aload_n 0, 1) := by decide +kernel
theorem dX1_weighChoice_68 : decode cX1_weighChoice 68 = .ok (.dup, 1) := by decide +kernel
theorem dX1_weighChoice_69 : decode cX1_weighChoice 69 = .ok (.getfield 32, 3) := by decide +kernel
theorem dX1_weighChoice_72 : decode cX1_weighChoice 72 = .ok (.iconst 1, 1) := by decide +kernel
theorem dX1_weighChoice_73 : decode cX1_weighChoice 73 = .ok (.iadd, 1) := by decide +kernel
theorem dX1_weighChoice_74 : decode cX1_weighChoice 74 = .ok (.putfield 32, 3) := by decide +kernel
theorem dX1_weighChoice_77 : decode cX1_weighChoice 77 = .ok (.aload_n 0, 1) := by decide +kernel
theorem dX1_weighChoice_78 : decode cX1_weighChoice 78 = .ok (.aload_n 0, 1) := by decide +kernel
theorem dX1_weighChoice_79 : decode cX1_weighChoice 79 = .ok (.getfield 35, 3) := by decide +kernel
theorem dX1_weighChoice_82 : decode cX1_weighChoice 82 = .ok (.iload_n 1, 1) := by decide +kernel
theorem dX1_weighChoice_83 : decode cX1_weighChoice 83 = .ok (.invokestatic 76, 3) := by decide +kernel
theorem dX1_weighChoice_86 : decode cX1_weighChoice 86 = .ok (.putfield 35, 3) := by decide +kernel
theorem dX1_weighChoice_89 : decode cX1_weighChoice 89 = .ok (.return_, 1) := by decide +kernel
theorem dX1_isRest_0 : decode cX1_isRest 0 = .ok (.iconst 0, 1) := by decide +kernel
theorem dX1_isRest_1 : decode cX1_isRest 1 = .ok (.istore_n 1, 1) := by decide +kernel
theorem dX1_isRest_2 : decode cX1_isRest 2 = .ok (.iload_n 1, 1) := by decide +kernel
theorem dX1_isRest_3 : decode cX1_isRest 3 = .ok (.aload_n 0, 1) := by decide +kernel
theorem dX1_isRest_4 : decode cX1_isRest 4 = .ok (.getfield 15, 3) := by decide +kernel
theorem dX1_isRest_7 : decode cX1_isRest 7 = .ok (.if_icmp .ge 19, 3) := by decide +kernel
theorem dX1_isRest_10 : decode cX1_isRest 10 = .ok (.aload_n 0, 1) := by decide +kernel
theorem dX1_isRest_11 : decode cX1_isRest 11 = .ok (.iload_n 1, 1) := by decide +kernel
theorem dX1_isRest_12 : decode cX1_isRest 12 = .ok (.invokevirtual 89, 3) := by decide +kernel
theorem dX1_isRest_15 : decode cX1_isRest 15 = .ok (.ifCond .eq 5, 3) := by decide +kernel
theorem dX1_isRest_18 : decode cX1_isRest 18 = .ok (.iconst 0, 1) := by decide +kernel
theorem dX1_isRest_19 : decode cX1_isRest 19 = .ok (.ireturn, 1) := by decide +kernel
theorem dX1_isRest_20 : decode cX1_isRest 20 = .ok (.iinc 1 1, 3) := by decide +kernel
theorem dX1_isRest_23 : decode cX1_isRest 23 = .ok (.goto (-21), 3) := by decide +kernel
theorem dX1_isRest_26 : decode cX1_isRest 26 = .ok (.iconst 1, 1) := by decide +kernel
theorem dX1_isRest_27 : decode cX1_isRest 27 = .ok (.ireturn, 1) := by decide +kernel
theorem dX1_wouldRatherMove_0 : decode cX1_wouldRatherMove 0 = .ok (.aload_n 0, 1) := by decide +kernel
theorem dX1_wouldRatherMove_1 : decode cX1_wouldRatherMove 1 = .ok (.getfield 26, 3) := by decide +kernel
theorem dX1_wouldRatherMove_4 : decode cX1_wouldRatherMove 4 = .ok (.iload_n 1, 1) := by decide +kernel
theorem dX1_wouldRatherMove_5 : decode cX1_wouldRatherMove 5 = .ok (.iaload, 1) := by decide +kernel
theorem dX1_wouldRatherMove_6 : decode cX1_wouldRatherMove 6 = .ok (.istore_n 2, 1) := by decide +kernel
theorem dX1_wouldRatherMove_7 : decode cX1_wouldRatherMove 7 = .ok (.aload_n 0, 1) := by decide +kernel
theorem dX1_wouldRatherMove_8 : decode cX1_wouldRatherMove 8 = .ok (.iload_n 1, 1) := by decide +kernel
theorem dX1_wouldRatherMove_9 : decode cX1_wouldRatherMove 9 = .ok (.invokevirtual 73, 3) := by decide +kernel
theorem dX1_wouldRatherMove_12 : decode cX1_wouldRatherMove 12 = .ok (.istore_n 3, 1) := by decide +kernel
theorem dX1_wouldRatherMove_13 : decode cX1_wouldRatherMove 13 = .ok (.iconst 0, 1) := by decide +kernel
theorem dX1_wouldRatherMove_14 : decode cX1_wouldRatherMove 14 = .ok (.istore 4, 2) := by decide +kernel
theorem dX1_wouldRatherMove_16 : decode cX1_wouldRatherMove 16 = .ok (.iconst 0, 1) := by decide +kernel
theorem dX1_wouldRatherMove_17 : decode cX1_wouldRatherMove 17 = .ok (.istore 5, 2) := by decide +kernel
theorem dX1_wouldRatherMove_19 : decode cX1_wouldRatherMove 19 = .ok (.iload 5, 2) := by decide +kernel
theorem dX1_wouldRatherMove_21 : decode cX1_wouldRatherMove 21 = .ok (.bipush 6, 2) := by decide +kernel
theorem dX1_wouldRatherMove_23 : decode cX1_wouldRatherMove 23 = .ok (.if_icmp .ge 38, 3) := by decide +kernel
theorem dX1_wouldRatherMove_26 : decode cX1_wouldRatherMove 26 = .ok (.iload 4, 2) := by decide +kernel
theorem dX1_wouldRatherMove_28 : decode cX1_wouldRatherMove 28 = .ok (.ifCond .ne 33, 3) := by decide +kernel
theorem dX1_wouldRatherMove_31 : decode cX1_wouldRatherMove 31 = .ok (.aload_n 0, 1) := by decide +kernel
theorem dX1_wouldRatherMove_32 : decode cX1_wouldRatherMove 32 = .ok (.getfield 26, 3) := by decide +kernel
theorem dX1_wouldRatherMove_35 : decode cX1_wouldRatherMove 35 = .ok (.iload_n 1, 1) := by decide +kernel
theorem dX1_wouldRatherMove_36 : decode cX1_wouldRatherMove 36 = .ok (.iload 5, 2) := by decide +kernel
theorem dX1_wouldRatherMove_38 : decode cX1_wouldRatherMove 38 = .ok (.iastore, 1) := by decide +kernel
theorem dX1_wouldRatherMove_39 : decode cX1_wouldRatherMove 39 = .ok (.aload_n 0, 1) := by decide +kernel
theorem dX1_wouldRatherMove_40 : decode cX1_wouldRatherMove 40 = .ok (.iload_n 1, 1) := by decide +kernel
theorem dX1_wouldRatherMove_41 : decode cX1_wouldRatherMove 41 = .ok (.invokevirtual 73, 3) := by decide +kernel
theorem dX1_wouldRatherMove_44 : decode cX1_wouldRatherMove 44 = .ok (.iload_n 3, 1) := by decide +kernel
theorem dX1_wouldRatherMove_45 : decode cX1_wouldRatherMove 45 = .ok (.if_icmp .ge 7, 3) := by decide +kernel
theorem dX1_wouldRatherMove_48 : decode cX1_wouldRatherMove 48 = .ok (.iconst 1, 1) := by decide +kernel
theorem dX1_wouldRatherMove_49 : decode cX1_wouldRatherMove 49 = .ok (.goto 4, 3) := by decide +kernel
theorem dX1_wouldRatherMove_52 : decode cX1_wouldRatherMove 52 = .ok (.iconst 0, 1) := by decide +kernel
theorem dX1_wouldRatherMove_53 : decode cX1_wouldRatherMove 53 = .ok (.istore 4, 2) := by decide +kernel
theorem dX1_wouldRatherMove_55 : decode cX1_wouldRatherMove 55 = .ok (.iinc 5 1, 3) := by decide +kernel
theorem dX1_wouldRatherMove_58 : decode cX1_wouldRatherMove 58 = .ok (.goto (-39), 3) := by decide +kernel
theorem dX1_wouldRatherMove_61 : decode cX1_wouldRatherMove 61 = .ok (.aload_n 0, 1) := by decide +kernel
theorem dX1_wouldRatherMove_62 : decode cX1_wouldRatherMove 62 = .ok (.getfield 26, 3) := by decide +kernel
theorem dX1_wouldRatherMove_65 : decode cX1_wouldRatherMove 65 = .ok (.iload_n 1, 1) := by decide +kernel
theorem dX1_wouldRatherMove_66 : decode cX1_wouldRatherMove 66 = .ok (.iload_n 2, 1) := by decide +kernel
theorem dX1_wouldRatherMove_67 : decode cX1_wouldRatherMove 67 = .ok (.iastore, 1) := by decide +kernel
theorem dX1_wouldRatherMove_68 : decode cX1_wouldRatherMove 68 = .ok (.iload 4, 2) := by decide +kernel
theorem dX1_wouldRatherMove_70 : decode cX1_wouldRatherMove 70 = .ok (.ireturn, 1) := by decide +kernel
theorem dX2_init_0 : decode cX2_init 0 = .ok (.aload_n 0, 1) := by decide +kernel
theorem dX2_init_1 : decode cX2_init 1 = .ok (.invokespecial 3, 3) := by decide +kernel
theorem dX2_init_4 : decode cX2_init 4 = .ok (.aload_n 0, 1) := by decide +kernel
theorem dX2_init_5 : decode cX2_init 5 = .ok (.iconst 0, 1) := by decide +kernel
theorem dX2_init_6 : decode cX2_init 6 = .ok (.putfield 9, 3) := by decide +kernel
theorem dX2_init_9 : decode cX2_init 9 = .ok (.aload_n 0, 1) := by decide +kernel
theorem dX2_init_10 : decode cX2_init 10 = .ok (.iconst 0, 1) := by decide +kernel
theorem dX2_init_11 : decode cX2_init 11 = .ok (.putfield 15, 3) := by decide +kernel
theorem dX2_init_14 : decode cX2_init 14 = .ok (.aload_n 0, 1) := by decide +kernel
theorem dX2_init_15 : decode cX2_init 15 = .ok (.iconst 3, 1) := by decide +kernel
theorem dX2_init_16 : decode cX2_init 16 = .ok (.newarray .int, 2) := by decide +kernel
theorem dX2_init_18 : decode cX2_init 18 = .ok (.putfield 19, 3) := by decide +kernel
theorem dX2_init_21 : decode cX2_init 21 = .ok (.aload_n 0, 1) := by decide +kernel
theorem dX2_init_22 : decode cX2_init 22 = .ok (.iconst 3, 1) := by decide +kernel
theorem dX2_init_23 : decode cX2_init 23 = .ok (.newarray .int, 2) := by decide +kernel
theorem dX2_init_25 : decode cX2_init 25 = .ok (.putfield 23, 3) := by decide +kernel
theorem dX2_init_28 : decode cX2_init 28 = .ok (.return_, 1) := by decide +kernel
theorem dX2_minuteOf_0 : decode cX2_minuteOf 0 = .ok (.aload_n 0, 1) := by decide +kernel
theorem dX2_minuteOf_1 : decode cX2_minuteOf 1 = .ok (.getfield 23, 3) := by decide +kernel
theorem dX2_minuteOf_4 : decode cX2_minuteOf 4 = .ok (.iload_n 1, 1) := by decide +kernel
theorem dX2_minuteOf_5 : decode cX2_minuteOf 5 = .ok (.iaload, 1) := by decide +kernel
theorem dX2_minuteOf_6 : decode cX2_minuteOf 6 = .ok (.ifCond .ne 8, 3) := by decide +kernel
theorem dX2_minuteOf_9 : decode cX2_minuteOf 9 = .ok (.bipush (-4), 2) := by decide +kernel
theorem dX2_minuteOf_11 : decode cX2_minuteOf 11 = .ok (.goto 14, 3) := by decide +kernel
theorem dX2_minuteOf_14 : decode cX2_minuteOf 14 = .ok (.bipush 30, 2) := by decide +kernel
theorem dX2_minuteOf_16 : decode cX2_minuteOf 16 = .ok (.aload_n 0, 1) := by decide +kernel
theorem dX2_minuteOf_17 : decode cX2_minuteOf 17 = .ok (.getfield 23, 3) := by decide +kernel
theorem dX2_minuteOf_20 : decode cX2_minuteOf 20 = .ok (.iload_n 1, 1) := by decide +kernel
theorem dX2_minuteOf_21 : decode cX2_minuteOf 21 = .ok (.iaload, 1) := by decide +kernel
theorem dX2_minuteOf_22 : decode cX2_minuteOf 22 = .ok (.iconst 1, 1) := by decide +kernel
theorem dX2_minuteOf_23 : decode cX2_minuteOf 23 = .ok (.isub, 1) := by decide +kernel
theorem dX2_minuteOf_24 : decode cX2_minuteOf 24 = .ok (.imul, 1) := by decide +kernel
theorem dX2_minuteOf_25 : decode cX2_minuteOf 25 = .ok (.ireturn, 1) := by decide +kernel
theorem dX2_reckon_0 : decode cX2_reckon 0 = .ok (.aload_n 0, 1) := by decide +kernel
theorem dX2_reckon_1 : decode cX2_reckon 1 = .ok (.getfield 9, 3) := by decide +kernel
theorem dX2_reckon_4 : decode cX2_reckon 4 = .ok (.ifCond .eq 4, 3) := by decide +kernel
theorem dX2_reckon_7 : decode cX2_reckon 7 = .ok (.return_, 1) := by decide +kernel
theorem dX2_reckon_8 : decode cX2_reckon 8 = .ok (.iconst 1, 1) := by decide +kernel
theorem dX2_reckon_9 : decode cX2_reckon 9 = .ok (.istore_n 3, 1) := by decide +kernel
theorem dX2_reckon_10 : decode cX2_reckon 10 = .ok (.iconst 0, 1) := by decide +kernel
theorem dX2_reckon_11 : decode cX2_reckon 11 = .ok (.istore 4, 2) := by decide +kernel
theorem dX2_reckon_13 : decode cX2_reckon 13 = .ok (.iload 4, 2) := by decide +kernel
theorem dX2_reckon_15 : decode cX2_reckon 15 = .ok (.aload_n 1, 1) := by decide +kernel
theorem dX2_reckon_16 : decode cX2_reckon 16 = .ok (.getfield 26, 3) := by decide +kernel
theorem dX2_reckon_19 : decode cX2_reckon 19 = .ok (.if_icmp .ge 14, 3) := by decide +kernel
theorem dX2_reckon_22 : decode cX2_reckon 22 = .ok (.iload_n 3, 1) := by decide +kernel
theorem dX2_reckon_23 : decode cX2_reckon 23 = .ok (.bipush 13, 2) := by decide +kernel
theorem dX2_reckon_25 : decode cX2_reckon 25 = .ok (.imul, 1) := by decide +kernel
theorem dX2_reckon_26 : decode cX2_reckon 26 = .ok (.istore_n 3, 1) := by decide +kernel
theorem dX2_reckon_27 : decode cX2_reckon 27 = .ok (.iinc 4 1, 3) := by decide +kernel
theorem dX2_reckon_30 : decode cX2_reckon 30 = .ok (.goto (-17), 3) := by decide +kernel
theorem dX2_reckon_33 : decode cX2_reckon 33 = .ok (.aload_n 0, 1) := by decide +kernel
theorem dX2_reckon_34 : decode cX2_reckon 34 = .ok (.ldc 31, 2) := by decide +kernel
theorem dX2_reckon_36 : decode cX2_reckon 36 = .ok (.putfield 15, 3) := by decide +kernel
theorem dX2_reckon_39 : decode cX2_reckon 39 = .ok (.aload_n 2, 1) := by decide +kernel
theorem dX2_reckon_40 : decode cX2_reckon 40 = .ok (.aload_n 1, 1) := by decide +kernel
theorem dX2_reckon_41 : decode cX2_reckon 41 = .ok (.invokevirtual 32, 3) := by decide +kernel
theorem dX2_reckon_44 : decode cX2_reckon 44 = .ok (.iconst 0, 1) := by decide +kernel
theorem dX2_reckon_45 : decode cX2_reckon 45 = .ok (.istore 4, 2) := by decide +kernel
theorem dX2_reckon_47 : decode cX2_reckon 47 = .ok (.iload 4, 2) := by decide +kernel
theorem dX2_reckon_49 : decode cX2_reckon 49 = .ok (.iload_n 3, 1) := by decide +kernel
theorem dX2_reckon_50 : decode cX2_reckon 50 = .ok (.if_icmp .ge 69, 3) := by decide +kernel
theorem dX2_reckon_53 : decode cX2_reckon 53 = .ok (.aload_n 0, 1) := by decide +kernel
theorem dX2_reckon_54 : decode cX2_reckon 54 = .ok (.iload 4, 2) := by decide +kernel
theorem dX2_reckon_56 : decode cX2_reckon 56 = .ok (.aload_n 1, 1) := by decide +kernel
theorem dX2_reckon_57 : decode cX2_reckon 57 = .ok (.getfield 26, 3) := by decide +kernel
theorem dX2_reckon_60 : decode cX2_reckon 60 = .ok (.invokevirtual 38, 3) := by decide +kernel
theorem dX2_reckon_63 : decode cX2_reckon 63 = .ok (.aload_n 0, 1) := by decide +kernel
theorem dX2_reckon_64 : decode cX2_reckon 64 = .ok (.aload_n 1, 1) := by decide +kernel
theorem dX2_reckon_65 : decode cX2_reckon 65 = .ok (.aload_n 2, 1) := by decide +kernel
theorem dX2_reckon_66 : decode cX2_reckon 66 = .ok (.invokevirtual 42, 3) := by decide +kernel
theorem dX2_reckon_69 : decode cX2_reckon 69 = .ok (.istore 5, 2) := by decide +kernel
theorem dX2_reckon_71 : decode cX2_reckon 71 = .ok (.aload_n 2, 1) := by decide +kernel
theorem dX2_reckon_72 : decode cX2_reckon 72 = .ok (.invokevirtual 46, 3) := by decide +kernel
theorem dX2_reckon_75 : decode cX2_reckon 75 = .ok (.iload 5, 2) := by decide +kernel
theorem dX2_reckon_77 : decode cX2_reckon 77 = .ok (.aload_n 2, 1) := by decide +kernel
theorem dX2_reckon_78 : decode cX2_reckon 78 = .ok (.invokevirtual 49, 3) := by decide +kernel
theorem dX2_reckon_81 : decode cX2_reckon 81 = .ok (.iadd, 1) := by decide +kernel
theorem dX2_reckon_82 : decode cX2_reckon 82 = .ok (.istore 5, 2) := by decide +kernel
theorem dX2_reckon_84 : decode cX2_reckon 84 = .ok (.iload 5, 2) := by decide +kernel
theorem dX2_reckon_86 : decode cX2_reckon 86 = .ok (.aload_n 0, 1) := by decide +kernel
theorem dX2_reckon_87 : decode cX2_reckon 87 = .ok (.getfield 15, 3) := by decide +kernel
theorem dX2_reckon_90 : decode cX2_reckon 90 = .ok (.if_icmp .ge 23, 3) := by decide +kernel
theorem dX2_reckon_93 : decode cX2_reckon 93 = .ok (.aload_n 0, 1) := by decide +kernel
theorem dX2_reckon_94 : decode cX2_reckon 94 = .ok (.iload 5, 2) := by decide +kernel
theorem dX2_reckon_96 : decode cX2_reckon 96 = .ok (.putfield 15, 3) := by decide +kernel
theorem dX2_reckon_99 : decode cX2_reckon 99 = .ok (.aload_n 0, 1) := by decide +kernel
theorem dX2_reckon_100 : decode cX2_reckon 100 = .ok (.getfield 19, 3) := by decide +kernel
theorem dX2_reckon_103 : decode cX2_reckon 103 = .ok (.iconst 0, 1) := by decide +kernel
theorem dX2_reckon_104 : decode cX2_reckon 104 = .ok (.aload_n 0, 1) := by decide +kernel
theorem dX2_reckon_105 : decode cX2_reckon 105 = .ok (.getfield 23, 3) := by decide +kernel
theorem dX2_reckon_108 : decode cX2_reckon 108 = .ok (.iconst 0, 1) := by decide +kernel
theorem dX2_reckon_109 : decode cX2_reckon 109 = .ok (.iconst 3, 1) := by decide +kernel
theorem dX2_reckon_110 : decode cX2_reckon 110 = .ok (.invokestatic 53, 3) := by decide +kernel
theorem dX2_reckon_113 : decode cX2_reckon 113 = .ok (.iinc 4 1, 3) := by decide +kernel
theorem dX2_reckon_116 : decode cX2_reckon 116 = .ok (.goto (-69), 3) := by decide +kernel
theorem dX2_reckon_119 : decode cX2_reckon 119 = .ok (.aload_n 0, 1) := by decide +kernel
theorem dX2_reckon_120 : decode cX2_reckon 120 = .ok (.iconst 1, 1) := by decide +kernel
theorem dX2_reckon_121 : decode cX2_reckon 121 = .ok (.putfield 9, 3) := by decide +kernel
theorem dX2_reckon_124 : decode cX2_reckon 124 = .ok (.return_, 1) := by decide +kernel
theorem dX2_choose_0 : decode cX2_choose 0 = .ok (.iload_n 1, 1) := by decide +kernel
theorem dX2_choose_1 : decode cX2_choose 1 = .ok (.istore_n 3, 1) := by decide +kernel
theorem dX2_choose_2 : decode cX2_choose 2 = .ok (.iload_n 2, 1) := by decide +kernel
theorem dX2_choose_3 : decode cX2_choose 3 = .ok (.iconst 1, 1) := by decide +kernel
theorem dX2_choose_4 : decode cX2_choose 4 = .ok (.isub, 1) := by decide +kernel
theorem dX2_choose_5 : decode cX2_choose 5 = .ok (.istore 4, 2) := by decide +kernel
theorem dX2_choose_7 : decode cX2_choose 7 = .ok (.iload 4, 2) := by decide +kernel
theorem dX2_choose_9 : decode cX2_choose 9 = .ok (.ifCond .lt 25, 3) := by decide +kernel
theorem dX2_choose_12 : decode cX2_choose 12 = .ok (.aload_n 0, 1) := by decide +kernel
theorem dX2_choose_13 : decode cX2_choose 13 = .ok (.getfield 19, 3) := by decide +kernel
theorem dX2_choose_16 : decode cX2_choose 16 = .ok (.iload 4, 2) := by decide +kernel
theorem dX2_choose_18 : decode cX2_choose 18 = .ok (.iload_n 3, 1) := by decide +kernel
theorem dX2_choose_19 : decode cX2_choose 19 = .ok (.bipush 13, 2) := by decide +kernel
theorem dX2_choose_21 : decode cX2_choose 21 = .ok (.irem, 1) := by decide +kernel
theorem dX2_choose_22 : decode cX2_choose 22 = .ok (.iastore, 1) := by decide +kernel
theorem dX2_choose_23 : decode cX2_choose 23 = .ok (.iload_n 3, 1) := by decide +kernel
theorem dX2_choose_24 : decode cX2_choose 24 = .ok (.bipush 13, 2) := by decide +kernel
theorem dX2_choose_26 : decode cX2_choose 26 = .ok (.idiv, 1) := by decide +kernel
theorem dX2_choose_27 : decode cX2_choose 27 = .ok (.istore_n 3, 1) := by decide +kernel
theorem dX2_choose_28 : decode cX2_choose 28 = .ok (.iinc 4 (-1), 3) := by decide +kernel
theorem dX2_choose_31 : decode cX2_choose 31 = .ok (.goto (-24), 3) := by decide +kernel
theorem dX2_choose_34 : decode cX2_choose 34 = .ok (.return_, 1) := by decide +kernel
theorem dX2_giveChosen_0 : decode cX2_giveChosen 0 = .ok (.iconst 0, 1) := by decide +kernel
theorem dX2_giveChosen_1 : decode cX2_giveChosen 1 = .ok (.istore_n 3, 1) := by decide +kernel
theorem dX2_giveChosen_2 : decode cX2_giveChosen 2 = .ok (.aload_n 2, 1) := by decide +kernel
theorem dX2_giveChosen_3 : decode cX2_giveChosen 3 = .ok (.invokevirtual 59, 3) := by decide +kernel
theorem dX2_giveChosen_6 : decode cX2_giveChosen 6 = .ok (.iconst 0, 1) := by decide +kernel
theorem dX2_giveChosen_7 : decode cX2_giveChosen 7 = .ok (.istore 4, 2) := by decide +kernel
theorem dX2_giveChosen_9 : decode cX2_giveChosen 9 = .ok (.iload 4, 2) := by decide +kernel
theorem dX2_giveChosen_11 : decode cX2_giveChosen 11 = .ok (.aload_n 1, 1) := by decide +kernel
theorem dX2_giveChosen_12 : decode cX2_giveChosen 12 = .ok (.getfield 26, 3) := by decide +kernel
theorem dX2_giveChosen_15 : decode cX2_giveChosen 15 = .ok (.if_icmp .ge 52, 3) := by decide +kernel
theorem dX2_giveChosen_18 : decode cX2_giveChosen 18 = .ok (.aload_n 0, 1) := by decide +kernel
theorem dX2_giveChosen_19 : decode cX2_giveChosen 19 = .ok (.getfield 19, 3) := by decide +kernel
theorem dX2_giveChosen_22 : decode cX2_giveChosen 22 = .ok (.iload 4, 2) := by decide +kernel
theorem dX2_giveChosen_24 : decode cX2_giveChosen 24 = .ok (.iaload, 1) := by decide +kernel
theorem dX2_giveChosen_25 : decode cX2_giveChosen 25 = .ok (.ifCond .le 36, 3) := by decide +kernel
theorem dX2_giveChosen_28 : decode cX2_giveChosen 28 = .ok (.aload_n 2, 1) := by decide +kernel
theorem dX2_giveChosen_29 : decode cX2_giveChosen 29 = .ok (.bipush 30, 2) := by decide +kernel
theorem dX2_giveChosen_31 : decode cX2_giveChosen 31 = .ok (.aload_n 0, 1) := by decide +kernel
theorem dX2_giveChosen_32 : decode cX2_giveChosen 32 = .ok (.getfield 19, 3) := by decide +kernel
theorem dX2_giveChosen_35 : decode cX2_giveChosen 35 = .ok (.iload 4, 2) := by decide +kernel
theorem dX2_giveChosen_37 : decode cX2_giveChosen 37 = .ok (.iaload, 1) := by decide +kernel
theorem dX2_giveChosen_38 : decode cX2_giveChosen 38 = .ok (.iconst 1, 1) := by decide +kernel
theorem dX2_giveChosen_39 : decode cX2_giveChosen 39 = .ok (.isub, 1) := by decide +kernel
theorem dX2_giveChosen_40 : decode cX2_giveChosen 40 = .ok (.imul, 1) := by decide +kernel
theorem dX2_giveChosen_41 : decode cX2_giveChosen 41 = .ok (.aload_n 1, 1) := by decide +kernel
theorem dX2_giveChosen_42 : decode cX2_giveChosen 42 = .ok (.getfield 62, 3) := by decide +kernel
theorem dX2_giveChosen_45 : decode cX2_giveChosen 45 = .ok (.iload 4, 2) := by decide +kernel
theorem dX2_giveChosen_47 : decode cX2_giveChosen 47 = .ok (.iaload, 1) := by decide +kernel
theorem dX2_giveChosen_48 : decode cX2_giveChosen 48 = .ok (.invokevirtual 65, 3) := by decide +kernel
theorem dX2_giveChosen_51 : decode cX2_giveChosen 51 = .ok (.iload_n 3, 1) := by decide +kernel
theorem dX2_giveChosen_52 : decode cX2_giveChosen 52 = .ok (.aload_n 1, 1) := by decide +kernel
theorem dX2_giveChosen_53 : decode cX2_giveChosen 53 = .ok (.getfield 68, 3) := by decide +kernel
theorem dX2_giveChosen_56 : decode cX2_giveChosen 56 = .ok (.iload 4, 2) := by decide +kernel
theorem dX2_giveChosen_58 : decode cX2_giveChosen 58 = .ok (.iaload, 1) := by decide +kernel
theorem dX2_giveChosen_59 : decode cX2_giveChosen 59 = .ok (.iadd, 1) := by decide +kernel
theorem dX2_giveChosen_60 : decode cX2_giveChosen 60 = .ok (.istore_n 3, 1) := by decide +kernel
theorem dX2_giveChosen_61 : decode cX2_giveChosen 61 = .ok (.iinc 4 1, 3) := by decide +kernel
theorem dX2_giveChosen_64 : decode cX2_giveChosen 64 = .ok (.goto (-55), 3) := by decide +kernel
theorem dX2_giveChosen_67 : decode cX2_giveChosen 67 = .ok (.iload_n 3, 1) := by decide +kernel
theorem dX2_giveChosen_68 : decode cX2_giveChosen 68 = .ok (.ireturn, 1) := by decide +kernel
theorem dX3_init_0 : decode cX3_init 0 = .ok (.aload_n 0, 1) := by decide +kernel
theorem dX3_init_1 : decode cX3_init 1 = .ok (.invokespecial 3, 3) := by decide +kernel
theorem dX3_init_4 : decode cX3_init 4 = .ok (.aload_n 0, 1) := by decide +kernel
theorem dX3_init_5 : decode cX3_init 5 = .ok (.bipush 8, 2) := by decide +kernel
theorem dX3_init_7 : decode cX3_init 7 = .ok (.newarray .boolean, 2) := by decide +kernel
theorem dX3_init_9 : decode cX3_init 9 = .ok (.putfield 9, 3) := by decide +kernel
theorem dX3_init_12 : decode cX3_init 12 = .ok (.aload_n 0, 1) := by decide +kernel
theorem dX3_init_13 : decode cX3_init 13 = .ok (.iconst 0, 1) := by decide +kernel
theorem dX3_init_14 : decode cX3_init 14 = .ok (.putfield 15, 3) := by decide +kernel
theorem dX3_init_17 : decode cX3_init 17 = .ok (.aload_n 0, 1) := by decide +kernel
theorem dX3_init_18 : decode cX3_init 18 = .ok (.new 19, 3) := by decide +kernel
theorem dX3_init_21 : decode cX3_init 21 = .ok (.dup, 1) := by decide +kernel
theorem dX3_init_22 : decode cX3_init 22 = .ok (.invokespecial 21, 3) := by decide +kernel
theorem dX3_init_25 : decode cX3_init 25 = .ok (.putfield 22, 3) := by decide +kernel
theorem dX3_init_28 : decode cX3_init 28 = .ok (.aload_n 0, 1) := by decide +kernel
theorem dX3_init_29 : decode cX3_init 29 = .ok (.new 19, 3) := by decide +kernel
theorem dX3_init_32 : decode cX3_init 32 = .ok (.dup, 1) := by decide +kernel
theorem dX3_init_33 : decode cX3_init 33 = .ok (.invokespecial 21, 3) := by decide +kernel
theorem dX3_init_36 : decode cX3_init 36 = .ok (.putfield 26, 3) := by decide +kernel
theorem dX3_init_39 : decode cX3_init 39 = .ok (.aload_n 0, 1) := by decide +kernel
theorem dX3_init_40 : decode cX3_init 40 = .ok (.iconst 0, 1) := by decide +kernel
theorem dX3_init_41 : decode cX3_init 41 = .ok (.putfield 29, 3) := by decide +kernel
theorem dX3_init_44 : decode cX3_init 44 = .ok (.return_, 1) := by decide +kernel
theorem dX3_forget_0 : decode cX3_forget 0 = .ok (.aload_n 0, 1) := by decide +kernel
theorem dX3_forget_1 : decode cX3_forget 1 = .ok (.iconst 0, 1) := by decide +kernel
theorem dX3_forget_2 : decode cX3_forget 2 = .ok (.putfield 15, 3) := by decide +kernel
theorem dX3_forget_5 : decode cX3_forget 5 = .ok (.aload_n 0, 1) := by decide +kernel
theorem dX3_forget_6 : decode cX3_forget 6 = .ok (.iconst 0, 1) := by decide +kernel
theorem dX3_forget_7 : decode cX3_forget 7 = .ok (.putfield 29, 3) := by decide +kernel
theorem dX3_forget_10 : decode cX3_forget 10 = .ok (.return_, 1) := by decide +kernel
theorem dX3_note_0 : decode cX3_note 0 = .ok (.aload_n 0, 1) := by decide +kernel
theorem dX3_note_1 : decode cX3_note 1 = .ok (.getfield 15, 3) := by decide +kernel
theorem dX3_note_4 : decode cX3_note 4 = .ok (.bipush 8, 2) := by decide +kernel
theorem dX3_note_6 : decode cX3_note 6 = .ok (.if_icmp .lt 37, 3) := by decide +kernel
theorem dX3_note_9 : decode cX3_note 9 = .ok (.iconst 1, 1) := by decide +kernel
theorem dX3_note_10 : decode cX3_note 10 = .ok (.istore_n 2, 1) := by decide +kernel
theorem dX3_note_11 : decode cX3_note 11 = .ok (.iload_n 2, 1) := by decide +kernel
theorem dX3_note_12 : decode cX3_note 12 = .ok (.bipush 8, 2) := by decide +kernel
theorem dX3_note_14 : decode cX3_note 14 = .ok (.if_icmp .ge 23, 3) := by decide +kernel
theorem dX3_note_17 : decode cX3_note 17 = .ok (.aload_n 0, 1) := by decide +kernel
theorem dX3_note_18 : decode cX3_note 18 = .ok (.getfield 9, 3) := by decide +kernel
theorem dX3_note_21 : decode cX3_note 21 = .ok (.iload_n 2, 1) := by decide +kernel
theorem dX3_note_22 : decode cX3_note 22 = .ok (.iconst 1, 1) := by decide +kernel
theorem dX3_note_23 : decode cX3_note 23 = .ok (.isub, 1) := by decide +kernel
theorem dX3_note_24 : decode cX3_note 24 = .ok (.aload_n 0, 1) := by decide +kernel
theorem dX3_note_25 : decode cX3_note 25 = .ok (.getfield 9, 3) := by decide +kernel
theorem dX3_note_28 : decode cX3_note 28 = .ok (.iload_n 2, 1) := by decide +kernel
theorem dX3_note_29 : decode cX3_note 29 = .ok (.baload, 1) := by decide +kernel
theorem dX3_note_30 : decode cX3_note 30 = .ok (.bastore, 1) := by decide +kernel
theorem dX3_note_31 : decode cX3_note 31 = .ok (.iinc 2 1, 3) := by decide +kernel
theorem dX3_note_34 : decode cX3_note 34 = .ok (.goto (-23), 3) := by decide +kernel
theorem dX3_note_37 : decode cX3_note 37 = .ok (.aload_n 0, 1) := by decide +kernel
theorem dX3_note_38 : decode cX3_note 38 = .ok (.bipush 7, 2) := by decide +kernel
theorem dX3_note_40 : decode cX3_note 40 = .ok (.putfield 15, 3) := by decide +kernel
theorem dX3_note_43 : decode cX3_note 43 = .ok (.aload_n 0, 1) := by decide +kernel
theorem dX3_note_44 : decode cX3_note 44 = .ok (.getfield 9, 3) := by decide +kernel
theorem dX3_note_47 : decode cX3_note 47 = .ok (.aload_n 0, 1) := by decide +kernel
theorem dX3_note_48 : decode cX3_note 48 = .ok (.getfield 15, 3) := by decide +kernel
theorem dX3_note_51 : decode cX3_note 51 = .ok (.iload_n 1, 1) := by decide +kernel
theorem dX3_note_52 : decode cX3_note 52 = .ok (.bastore, 1) := by decide +kernel
theorem dX3_note_53 : decode cX3_note 53 = .ok (.aload_n 0, 1) := by decide +kernel
theorem dX3_note_54 : decode cX3_note 54 = .ok (.dup, 1) := by decide +kernel
theorem dX3_note_55 : decode cX3_note 55 = .ok (.getfield 15, 3) := by decide +kernel
theorem dX3_note_58 : decode cX3_note 58 = .ok (.iconst 1, 1) := by decide +kernel
theorem dX3_note_59 : decode cX3_note 59 = .ok (.iadd, 1) := by decide +kernel
theorem dX3_note_60 : decode cX3_note 60 = .ok (.putfield 15, 3) := by decide +kernel
theorem dX3_note_63 : decode cX3_note 63 = .ok (.return_, 1) := by decide +kernel
theorem dX3_undo_0 : decode cX3_undo 0 = .ok (.aload_n 0, 1) := by decide +kernel
theorem dX3_undo_1 : decode cX3_undo 1 = .ok (.getfield 15, 3) := by decide +kernel
theorem dX3_undo_4 : decode cX3_undo 4 = .ok (.ifCond .ne 4, 3) := by decide +kernel
theorem dX3_undo_7 : decode cX3_undo 7 = .ok (.return_, 1) := by decide +kernel
theorem dX3_undo_8 : decode cX3_undo 8 = .ok (.aload_n 0, 1) := by decide +kernel
theorem dX3_undo_9 : decode cX3_undo 9 = .ok (.dup, 1) := by decide +kernel
theorem dX3_undo_10 : decode cX3_undo 10 = .ok (.getfield 15, 3) := by decide +kernel
theorem dX3_undo_13 : decode cX3_undo 13 = .ok (.iconst 1, 1) := by decide +kernel
theorem dX3_undo_14 : decode cX3_undo 14 = .ok (.isub, 1) := by decide +kernel
end
section
theorem dX3_undo_15 : decode cX3_undo 15 = .ok (.putfield 15, 3) := by decide +kernel
theorem dX3_undo_18 : decode cX3_undo 18 = .ok (.aload_n 0, 1) := by decide +kernel
theorem dX3_undo_19 : decode cX3_undo 19 = .ok (.getfield 9, 3) := by decide +kernel
theorem dX3_undo_22 : decode cX3_undo 22 = .ok (.aload_n 0, 1) := by decide +kernel
theorem dX3_undo_23 : decode cX3_undo 23 = .ok (.getfield 15, 3) := by decide +kernel
theorem dX3_undo_26 : decode cX3_undo 26 = .ok (.baload, 1) := by decide +kernel
theorem dX3_undo_27 : decode cX3_undo 27 = .ok (.ifCond .eq 20, 3) := by decide +kernel
theorem dX3_undo_30 : decode cX3_undo 30 = .ok (.aload_n 1, 1) := by decide +kernel
theorem dX3_undo_31 : decode cX3_undo 31 = .ok (.aload_n 1, 1) := by decide +kernel
theorem dX3_undo_32 : decode cX3_undo 32 = .ok (.getfield 32, 3) := by decide +kernel
theorem dX3_undo_35 : decode cX3_undo 35 = .ok (.iconst 1, 1) := by decide +kernel
theorem dX3_undo_36 : decode cX3_undo 36 = .ok (.isub, 1) := by decide +kernel
theorem dX3_undo_37 : decode cX3_undo 37 = .ok (.iconst 0, 1) := by decide +kernel
theorem dX3_undo_38 : decode cX3_undo 38 = .ok (.invokestatic 35, 3) := by decide +kernel
theorem dX3_undo_41 : decode cX3_undo 41 = .ok (.putfield 32, 3) := by decide +kernel
theorem dX3_undo_44 : decode cX3_undo 44 = .ok (.goto 17, 3) := by decide +kernel
theorem dX3_undo_47 : decode cX3_undo 47 = .ok (.aload_n 1, 1) := by decide +kernel
theorem dX3_undo_48 : decode cX3_undo 48 = .ok (.aload_n 1, 1) := by decide +kernel
theorem dX3_undo_49 : decode cX3_undo 49 = .ok (.getfield 41, 3) := by decide +kernel
theorem dX3_undo_52 : decode cX3_undo 52 = .ok (.iconst 1, 1) := by decide +kernel
theorem dX3_undo_53 : decode cX3_undo 53 = .ok (.isub, 1) := by decide +kernel
theorem dX3_undo_54 : decode cX3_undo 54 = .ok (.iconst 0, 1) := by decide +kernel
theorem dX3_undo_55 : decode cX3_undo 55 = .ok (.invokestatic 35, 3) := by decide +kernel
theorem dX3_undo_58 : decode cX3_undo 58 = .ok (.putfield 41, 3) := by decide +kernel
theorem dX3_undo_61 : decode cX3_undo 61 = .ok (.return_, 1) := by decide +kernel
theorem dX3_store_0 : decode cX3_store 0 = .ok (.aload_n 0, 1) := by decide +kernel
theorem dX3_store_1 : decode cX3_store 1 = .ok (.getfield 29, 3) := by decide +kernel
theorem dX3_store_4 : decode cX3_store 4 = .ok (.iconst 2, 1) := by decide +kernel
theorem dX3_store_5 : decode cX3_store 5 = .ok (.if_icmp .lt 5, 3) := by decide +kernel
theorem dX3_store_8 : decode cX3_store 8 = .ok (.iconst 0, 1) := by decide +kernel
theorem dX3_store_9 : decode cX3_store 9 = .ok (.ireturn, 1) := by decide +kernel
theorem dX3_store_10 : decode cX3_store 10 = .ok (.aload_n 0, 1) := by decide +kernel
theorem dX3_store_11 : decode cX3_store 11 = .ok (.aload_n 0, 1) := by decide +kernel
theorem dX3_store_12 : decode cX3_store 12 = .ok (.getfield 29, 3) := by decide +kernel
theorem dX3_store_15 : decode cX3_store 15 = .ok (.invokevirtual 44, 3) := by decide +kernel
theorem dX3_store_18 : decode cX3_store 18 = .ok (.aload_n 1, 1) := by decide +kernel
theorem dX3_store_19 : decode cX3_store 19 = .ok (.invokevirtual 48, 3) := by decide +kernel
theorem dX3_store_22 : decode cX3_store 22 = .ok (.aload_n 0, 1) := by decide +kernel
theorem dX3_store_23 : decode cX3_store 23 = .ok (.dup, 1) := by decide +kernel
theorem dX3_store_24 : decode cX3_store 24 = .ok (.getfield 29, 3) := by decide +kernel
theorem dX3_store_27 : decode cX3_store 27 = .ok (.iconst 1, 1) := by decide +kernel
theorem dX3_store_28 : decode cX3_store 28 = .ok (.iadd, 1) := by decide +kernel
theorem dX3_store_29 : decode cX3_store 29 = .ok (.putfield 29, 3) := by decide +kernel
theorem dX3_store_32 : decode cX3_store 32 = .ok (.iconst 1, 1) := by decide +kernel
theorem dX3_store_33 : decode cX3_store 33 = .ok (.ireturn, 1) := by decide +kernel
theorem dX3_restore_0 : decode cX3_restore 0 = .ok (.aload_n 0, 1) := by decide +kernel
theorem dX3_restore_1 : decode cX3_restore 1 = .ok (.getfield 29, 3) := by decide +kernel
theorem dX3_restore_4 : decode cX3_restore 4 = .ok (.ifCond .ne 5, 3) := by decide +kernel
theorem dX3_restore_7 : decode cX3_restore 7 = .ok (.iconst 0, 1) := by decide +kernel
theorem dX3_restore_8 : decode cX3_restore 8 = .ok (.ireturn, 1) := by decide +kernel
theorem dX3_restore_9 : decode cX3_restore 9 = .ok (.aload_n 0, 1) := by decide +kernel
theorem dX3_restore_10 : decode cX3_restore 10 = .ok (.dup, 1) := by decide +kernel
theorem dX3_restore_11 : decode cX3_restore 11 = .ok (.getfield 29, 3) := by decide +kernel
theorem dX3_restore_14 : decode cX3_restore 14 = .ok (.iconst 1, 1) := by decide +kernel
theorem dX3_restore_15 : decode cX3_restore 15 = .ok (.isub, 1) := by decide +kernel
theorem dX3_restore_16 : decode cX3_restore 16 = .ok (.putfield 29, 3) := by decide +kernel
theorem dX3_restore_19 : decode cX3_restore 19 = .ok (.aload_n 1, 1) := by decide +kernel
theorem dX3_restore_20 : decode cX3_restore 20 = .ok (.aload_n 0, 1) := by decide +kernel
theorem dX3_restore_21 : decode cX3_restore 21 = .ok (.aload_n 0, 1) := by decide +kernel
theorem dX3_restore_22 : decode cX3_restore 22 = .ok (.getfield 29, 3) := by decide +kernel
theorem dX3_restore_25 : decode cX3_restore 25 = .ok (.invokevirtual 44, 3) := by decide +kernel
theorem dX3_restore_28 : decode cX3_restore 28 = .ok (.invokevirtual 48, 3) := by decide +kernel
theorem dX3_restore_31 : decode cX3_restore 31 = .ok (.aload_n 0, 1) := by decide +kernel
theorem dX3_restore_32 : decode cX3_restore 32 = .ok (.iconst 0, 1) := by decide +kernel
theorem dX3_restore_33 : decode cX3_restore 33 = .ok (.putfield 15, 3) := by decide +kernel
theorem dX3_restore_36 : decode cX3_restore 36 = .ok (.iconst 1, 1) := by decide +kernel
theorem dX3_restore_37 : decode cX3_restore 37 = .ok (.ireturn, 1) := by decide +kernel
theorem dX3_placeOf_0 : decode cX3_placeOf 0 = .ok (.iload_n 1, 1) := by decide +kernel
theorem dX3_placeOf_1 : decode cX3_placeOf 1 = .ok (.ifCond .ne 10, 3) := by decide +kernel
theorem dX3_placeOf_4 : decode cX3_placeOf 4 = .ok (.aload_n 0, 1) := by decide +kernel
theorem dX3_placeOf_5 : decode cX3_placeOf 5 = .ok (.getfield 22, 3) := by decide +kernel
theorem dX3_placeOf_8 : decode cX3_placeOf 8 = .ok (.goto 7, 3) := by decide +kernel
theorem dX3_placeOf_11 : decode cX3_placeOf 11 = .ok (.aload_n 0, 1) := by decide +kernel
theorem dX3_placeOf_12 : decode cX3_placeOf 12 = .ok (.getfield 26, 3) := by decide +kernel
theorem dX3_placeOf_15 : decode cX3_placeOf 15 = .ok (.areturn, 1) := by decide +kernel
theorem dX4_init_0 : decode cX4_init 0 = .ok (.aload_n 0, 1) := by decide +kernel
theorem dX4_init_1 : decode cX4_init 1 = .ok (.invokespecial 3, 3) := by decide +kernel
theorem dX4_init_4 : decode cX4_init 4 = .ok (.aload_n 0, 1) := by decide +kernel
theorem dX4_init_5 : decode cX4_init 5 = .ok (.iconst 0, 1) := by decide +kernel
theorem dX4_init_6 : decode cX4_init 6 = .ok (.putfield 9, 3) := by decide +kernel
theorem dX4_init_9 : decode cX4_init 9 = .ok (.aload_n 0, 1) := by decide +kernel
theorem dX4_init_10 : decode cX4_init 10 = .ok (.bipush 8, 2) := by decide +kernel
theorem dX4_init_12 : decode cX4_init 12 = .ok (.newarray .int, 2) := by decide +kernel
theorem dX4_init_14 : decode cX4_init 14 = .ok (.putfield 15, 3) := by decide +kernel
theorem dX4_init_17 : decode cX4_init 17 = .ok (.aload_n 0, 1) := by decide +kernel
theorem dX4_init_18 : decode cX4_init 18 = .ok (.bipush 8, 2) := by decide +kernel
theorem dX4_init_20 : decode cX4_init 20 = .ok (.newarray .int, 2) := by decide +kernel
theorem dX4_init_22 : decode cX4_init 22 = .ok (.putfield 19, 3) := by decide +kernel
theorem dX4_init_25 : decode cX4_init 25 = .ok (.aload_n 0, 1) := by decide +kernel
theorem dX4_init_26 : decode cX4_init 26 = .ok (.bipush 8, 2) := by decide +kernel
theorem dX4_init_28 : decode cX4_init 28 = .ok (.newarray .int, 2) := by decide +kernel
theorem dX4_init_30 : decode cX4_init 30 = .ok (.putfield 22, 3) := by decide +kernel
theorem dX4_init_33 : decode cX4_init 33 = .ok (.aload_n 0, 1) := by decide +kernel
theorem dX4_init_34 : decode cX4_init 34 = .ok (.bipush 8, 2) := by decide +kernel
theorem dX4_init_36 : decode cX4_init 36 = .ok (.newarray .int, 2) := by decide +kernel
theorem dX4_init_38 : decode cX4_init 38 = .ok (.putfield 25, 3) := by decide +kernel
theorem dX4_init_41 : decode cX4_init 41 = .ok (.aload_n 0, 1) := by decide +kernel
theorem dX4_init_42 : decode cX4_init 42 = .ok (.new 28, 3) := by decide +kernel
theorem dX4_init_45 : decode cX4_init 45 = .ok (.dup, 1) := by decide +kernel
theorem dX4_init_46 : decode cX4_init 46 = .ok (.invokespecial 30, 3) := by decide +kernel
theorem dX4_init_49 : decode cX4_init 49 = .ok (.putfield 31, 3) := by decide +kernel
theorem dX4_init_52 : decode cX4_init 52 = .ok (.aload_n 0, 1) := by decide +kernel
theorem dX4_init_53 : decode cX4_init 53 = .ok (.bipush 15, 2) := by decide +kernel
theorem dX4_init_55 : decode cX4_init 55 = .ok (.putfield 35, 3) := by decide +kernel
theorem dX4_init_58 : decode cX4_init 58 = .ok (.aload_n 0, 1) := by decide +kernel
theorem dX4_init_59 : decode cX4_init 59 = .ok (.bipush 20, 2) := by decide +kernel
theorem dX4_init_61 : decode cX4_init 61 = .ok (.putfield 38, 3) := by decide +kernel
theorem dX4_init_64 : decode cX4_init 64 = .ok (.aload_n 0, 1) := by decide +kernel
theorem dX4_init_65 : decode cX4_init 65 = .ok (.sipush 240, 3) := by decide +kernel
theorem dX4_init_68 : decode cX4_init 68 = .ok (.putfield 41, 3) := by decide +kernel
theorem dX4_init_71 : decode cX4_init 71 = .ok (.aload_n 0, 1) := by decide +kernel
theorem dX4_init_72 : decode cX4_init 72 = .ok (.iconst 0, 1) := by decide +kernel
theorem dX4_init_73 : decode cX4_init 73 = .ok (.putfield 44, 3) := by decide +kernel
theorem dX4_init_76 : decode cX4_init 76 = .ok (.aload_n 0, 1) := by decide +kernel
theorem dX4_init_77 : decode cX4_init 77 = .ok (.iconst 3, 1) := by decide +kernel
theorem dX4_init_78 : decode cX4_init 78 = .ok (.newarray .int, 2) := by decide +kernel
theorem dX4_init_80 : decode cX4_init 80 = .ok (.putfield 47, 3) := by decide +kernel
theorem dX4_init_83 : decode cX4_init 83 = .ok (.aload_n 0, 1) := by decide +kernel
theorem dX4_init_84 : decode cX4_init 84 = .ok (.iconst 3, 1) := by decide +kernel
theorem dX4_init_85 : decode cX4_init 85 = .ok (.newarray .int, 2) := by decide +kernel
theorem dX4_init_87 : decode cX4_init 87 = .ok (.putfield 50, 3) := by decide +kernel
theorem dX4_init_90 : decode cX4_init 90 = .ok (.aload_n 0, 1) := by decide +kernel
theorem dX4_init_91 : decode cX4_init 91 = .ok (.iconst 4, 1) := by decide +kernel
theorem dX4_init_92 : decode cX4_init 92 = .ok (.newarray .int, 2) := by decide +kernel
theorem dX4_init_94 : decode cX4_init 94 = .ok (.putfield 53, 3) := by decide +kernel
theorem dX4_init_97 : decode cX4_init 97 = .ok (.aload_n 0, 1) := by decide +kernel
theorem dX4_init_98 : decode cX4_init 98 = .ok (.iconst 4, 1) := by decide +kernel
theorem dX4_init_99 : decode cX4_init 99 = .ok (.newarray .int, 2) := by decide +kernel
theorem dX4_init_101 : decode cX4_init 101 = .ok (.putfield 56, 3) := by decide +kernel
theorem dX4_init_104 : decode cX4_init 104 = .ok (.aload_n 0, 1) := by decide +kernel
theorem dX4_init_105 : decode cX4_init 105 = .ok (.iconst 0, 1) := by decide +kernel
theorem dX4_init_106 : decode cX4_init 106 = .ok (.putfield 59, 3) := by decide +kernel
theorem dX4_init_109 : decode cX4_init 109 = .ok (.aload_n 0, 1) := by decide +kernel
theorem dX4_init_110 : decode cX4_init 110 = .ok (.bipush 6, 2) := by decide +kernel
theorem dX4_init_112 : decode cX4_init 112 = .ok (.newarray .int, 2) := by decide +kernel
theorem dX4_init_114 : decode cX4_init 114 = .ok (.putfield 62, 3) := by decide +kernel
theorem dX4_init_117 : decode cX4_init 117 = .ok (.aload_n 0, 1) := by decide +kernel
theorem dX4_init_118 : decode cX4_init 118 = .ok (.bipush 6, 2) := by decide +kernel
theorem dX4_init_120 : decode cX4_init 120 = .ok (.newarray .int, 2) := by decide +kernel
theorem dX4_init_122 : decode cX4_init 122 = .ok (.putfield 65, 3) := by decide +kernel
theorem dX4_init_125 : decode cX4_init 125 = .ok (.aload_n 0, 1) := by decide +kernel
theorem dX4_init_126 : decode cX4_init 126 = .ok (.bipush 6, 2) := by decide +kernel
theorem dX4_init_128 : decode cX4_init 128 = .ok (.newarray .int, 2) := by decide +kernel
theorem dX4_init_130 : decode cX4_init 130 = .ok (.putfield 68, 3) := by decide +kernel
theorem dX4_init_133 : decode cX4_init 133 = .ok (.return_, 1) := by decide +kernel
theorem dX4_clear_0 : decode cX4_clear 0 = .ok (.aload_n 0, 1) := by decide +kernel
theorem dX4_clear_1 : decode cX4_clear 1 = .ok (.iconst 0, 1) := by decide +kernel
theorem dX4_clear_2 : decode cX4_clear 2 = .ok (.putfield 9, 3) := by decide +kernel
theorem dX4_clear_5 : decode cX4_clear 5 = .ok (.aload_n 0, 1) := by decide +kernel
theorem dX4_clear_6 : decode cX4_clear 6 = .ok (.getfield 31, 3) := by decide +kernel
theorem dX4_clear_9 : decode cX4_clear 9 = .ok (.invokevirtual 71, 3) := by decide +kernel
theorem dX4_clear_12 : decode cX4_clear 12 = .ok (.aload_n 0, 1) := by decide +kernel
theorem dX4_clear_13 : decode cX4_clear 13 = .ok (.bipush 15, 2) := by decide +kernel
theorem dX4_clear_15 : decode cX4_clear 15 = .ok (.putfield 35, 3) := by decide +kernel
theorem dX4_clear_18 : decode cX4_clear 18 = .ok (.aload_n 0, 1) := by decide +kernel
theorem dX4_clear_19 : decode cX4_clear 19 = .ok (.bipush 20, 2) := by decide +kernel
theorem dX4_clear_21 : decode cX4_clear 21 = .ok (.putfield 38, 3) := by decide +kernel
theorem dX4_clear_24 : decode cX4_clear 24 = .ok (.aload_n 0, 1) := by decide +kernel
theorem dX4_clear_25 : decode cX4_clear 25 = .ok (.sipush 240, 3) := by decide +kernel
theorem dX4_clear_28 : decode cX4_clear 28 = .ok (.putfield 41, 3) := by decide +kernel
theorem dX4_clear_31 : decode cX4_clear 31 = .ok (.aload_n 0, 1) := by decide +kernel
theorem dX4_clear_32 : decode cX4_clear 32 = .ok (.iconst 0, 1) := by decide +kernel
theorem dX4_clear_33 : decode cX4_clear 33 = .ok (.putfield 44, 3) := by decide +kernel
theorem dX4_clear_36 : decode cX4_clear 36 = .ok (.aload_n 0, 1) := by decide +kernel
theorem dX4_clear_37 : decode cX4_clear 37 = .ok (.getfield 53, 3) := by decide +kernel
theorem dX4_clear_40 : decode cX4_clear 40 = .ok (.iconst 0, 1) := by decide +kernel
theorem dX4_clear_41 : decode cX4_clear 41 = .ok (.invokestatic 74, 3) := by decide +kernel
theorem dX4_clear_44 : decode cX4_clear 44 = .ok (.aload_n 0, 1) := by decide +kernel
theorem dX4_clear_45 : decode cX4_clear 45 = .ok (.getfield 56, 3) := by decide +kernel
theorem dX4_clear_48 : decode cX4_clear 48 = .ok (.iconst 0, 1) := by decide +kernel
theorem dX4_clear_49 : decode cX4_clear 49 = .ok (.invokestatic 74, 3) := by decide +kernel
theorem dX4_clear_52 : decode cX4_clear 52 = .ok (.aload_n 0, 1) := by decide +kernel
theorem dX4_clear_53 : decode cX4_clear 53 = .ok (.iconst 0, 1) := by decide +kernel
theorem dX4_clear_54 : decode cX4_clear 54 = .ok (.putfield 59, 3) := by decide +kernel
theorem dX4_clear_57 : decode cX4_clear 57 = .ok (.return_, 1) := by decide +kernel
theorem dX4_addGuest_0 : decode cX4_addGuest 0 = .ok (.aload_n 0, 1) := by decide +kernel
theorem dX4_addGuest_1 : decode cX4_addGuest 1 = .ok (.getfield 9, 3) := by decide +kernel
theorem dX4_addGuest_4 : decode cX4_addGuest 4 = .ok (.bipush 8, 2) := by decide +kernel
theorem dX4_addGuest_6 : decode cX4_addGuest 6 = .ok (.if_icmp .lt 5, 3) := by decide +kernel
theorem dX4_addGuest_9 : decode cX4_addGuest 9 = .ok (.iconst 0, 1) := by decide +kernel
theorem dX4_addGuest_10 : decode cX4_addGuest 10 = .ok (.ireturn, 1) := by decide +kernel
theorem dX4_addGuest_11 : decode cX4_addGuest 11 = .ok (.aload_n 0, 1) := by decide +kernel
theorem dX4_addGuest_12 : decode cX4_addGuest 12 = .ok (.getfield 15, 3) := by decide +kernel
theorem dX4_addGuest_15 : decode cX4_addGuest 15 = .ok (.aload_n 0, 1) := by decide +kernel
theorem dX4_addGuest_16 : decode cX4_addGuest 16 = .ok (.getfield 9, 3) := by decide +kernel
theorem dX4_addGuest_19 : decode cX4_addGuest 19 = .ok (.iload_n 1, 1) := by decide +kernel
theorem dX4_addGuest_20 : decode cX4_addGuest 20 = .ok (.iastore, 1) := by decide +kernel
theorem dX4_addGuest_21 : decode cX4_addGuest 21 = .ok (.aload_n 0, 1) := by decide +kernel
theorem dX4_addGuest_22 : decode cX4_addGuest 22 = .ok (.getfield 19, 3) := by decide +kernel
theorem dX4_addGuest_25 : decode cX4_addGuest 25 = .ok (.aload_n 0, 1) := by decide +kernel
theorem dX4_addGuest_26 : decode cX4_addGuest 26 = .ok (.getfield 9, 3) := by decide +kernel
theorem dX4_addGuest_29 : decode cX4_addGuest 29 = .ok (.iload_n 2, 1) := by decide +kernel
theorem dX4_addGuest_30 : decode cX4_addGuest 30 = .ok (.iastore, 1) := by decide +kernel
theorem dX4_addGuest_31 : decode cX4_addGuest 31 = .ok (.aload_n 0, 1) := by decide +kernel
theorem dX4_addGuest_32 : decode cX4_addGuest 32 = .ok (.getfield 22, 3) := by decide +kernel
theorem dX4_addGuest_35 : decode cX4_addGuest 35 = .ok (.aload_n 0, 1) := by decide +kernel
theorem dX4_addGuest_36 : decode cX4_addGuest 36 = .ok (.getfield 9, 3) := by decide +kernel
theorem dX4_addGuest_39 : decode cX4_addGuest 39 = .ok (.iload_n 3, 1) := by decide +kernel
theorem dX4_addGuest_40 : decode cX4_addGuest 40 = .ok (.iastore, 1) := by decide +kernel
theorem dX4_addGuest_41 : decode cX4_addGuest 41 = .ok (.aload_n 0, 1) := by decide +kernel
theorem dX4_addGuest_42 : decode cX4_addGuest 42 = .ok (.getfield 25, 3) := by decide +kernel
theorem dX4_addGuest_45 : decode cX4_addGuest 45 = .ok (.aload_n 0, 1) := by decide +kernel
theorem dX4_addGuest_46 : decode cX4_addGuest 46 = .ok (.getfield 9, 3) := by decide +kernel
theorem dX4_addGuest_49 : decode cX4_addGuest 49 = .ok (.iload 4, 2) := by decide +kernel
theorem dX4_addGuest_51 : decode cX4_addGuest 51 = .ok (.iastore, 1) := by decide +kernel
theorem dX4_addGuest_52 : decode cX4_addGuest 52 = .ok (.aload_n 0, 1) := by decide +kernel
theorem dX4_addGuest_53 : decode cX4_addGuest 53 = .ok (.dup, 1) := by decide +kernel
theorem dX4_addGuest_54 : decode cX4_addGuest 54 = .ok (.getfield 9, 3) := by decide +kernel
theorem dX4_addGuest_57 : decode cX4_addGuest 57 = .ok (.iconst 1, 1) := by decide +kernel
theorem dX4_addGuest_58 : decode cX4_addGuest 58 = .ok (.iadd, 1) := by decide +kernel
theorem dX4_addGuest_59 : decode cX4_addGuest 59 = .ok (.putfield 9, 3) := by decide +kernel
theorem dX4_addGuest_62 : decode cX4_addGuest 62 = .ok (.iconst 1, 1) := by decide +kernel
theorem dX4_addGuest_63 : decode cX4_addGuest 63 = .ok (.ireturn, 1) := by decide +kernel
theorem dX4_addOffer_0 : decode cX4_addOffer 0 = .ok (.aload_n 0, 1) := by decide +kernel
theorem dX4_addOffer_1 : decode cX4_addOffer 1 = .ok (.getfield 44, 3) := by decide +kernel
theorem dX4_addOffer_4 : decode cX4_addOffer 4 = .ok (.iconst 3, 1) := by decide +kernel
theorem dX4_addOffer_5 : decode cX4_addOffer 5 = .ok (.if_icmp .lt 5, 3) := by decide +kernel
theorem dX4_addOffer_8 : decode cX4_addOffer 8 = .ok (.iconst 0, 1) := by decide +kernel
theorem dX4_addOffer_9 : decode cX4_addOffer 9 = .ok (.ireturn, 1) := by decide +kernel
theorem dX4_addOffer_10 : decode cX4_addOffer 10 = .ok (.aload_n 0, 1) := by decide +kernel
theorem dX4_addOffer_11 : decode cX4_addOffer 11 = .ok (.getfield 47, 3) := by decide +kernel
theorem dX4_addOffer_14 : decode cX4_addOffer 14 = .ok (.aload_n 0, 1) := by decide +kernel
theorem dX4_addOffer_15 : decode cX4_addOffer 15 = .ok (.getfield 44, 3) := by decide +kernel
theorem dX4_addOffer_18 : decode cX4_addOffer 18 = .ok (.iload_n 1, 1) := by decide +kernel
theorem dX4_addOffer_19 : decode cX4_addOffer 19 = .ok (.iastore, 1) := by decide +kernel
theorem dX4_addOffer_20 : decode cX4_addOffer 20 = .ok (.aload_n 0, 1) := by decide +kernel
theorem dX4_addOffer_21 : decode cX4_addOffer 21 = .ok (.getfield 50, 3) := by decide +kernel
theorem dX4_addOffer_24 : decode cX4_addOffer 24 = .ok (.aload_n 0, 1) := by decide +kernel
theorem dX4_addOffer_25 : decode cX4_addOffer 25 = .ok (.getfield 44, 3) := by decide +kernel
theorem dX4_addOffer_28 : decode cX4_addOffer 28 = .ok (.iload_n 2, 1) := by decide +kernel
theorem dX4_addOffer_29 : decode cX4_addOffer 29 = .ok (.iastore, 1) := by decide +kernel
theorem dX4_addOffer_30 : decode cX4_addOffer 30 = .ok (.aload_n 0, 1) := by decide +kernel
theorem dX4_addOffer_31 : decode cX4_addOffer 31 = .ok (.dup, 1) := by decide +kernel
theorem dX4_addOffer_32 : decode cX4_addOffer 32 = .ok (.getfield 44, 3) := by decide +kernel
theorem dX4_addOffer_35 : decode cX4_addOffer 35 = .ok (.iconst 1, 1) := by decide +kernel
theorem dX4_addOffer_36 : decode cX4_addOffer 36 = .ok (.iadd, 1) := by decide +kernel
theorem dX4_addOffer_37 : decode cX4_addOffer 37 = .ok (.putfield 44, 3) := by decide +kernel
theorem dX4_addOffer_40 : decode cX4_addOffer 40 = .ok (.iconst 1, 1) := by decide +kernel
theorem dX4_addOffer_41 : decode cX4_addOffer 41 = .ok (.ireturn, 1) := by decide +kernel
theorem dX4_addLook_0 : decode cX4_addLook 0 = .ok (.aload_n 0, 1) := by decide +kernel
theorem dX4_addLook_1 : decode cX4_addLook 1 = .ok (.getfield 59, 3) := by decide +kernel
theorem dX4_addLook_4 : decode cX4_addLook 4 = .ok (.bipush 6, 2) := by decide +kernel
theorem dX4_addLook_6 : decode cX4_addLook 6 = .ok (.if_icmp .ge 11, 3) := by decide +kernel
theorem dX4_addLook_9 : decode cX4_addLook 9 = .ok (.iload_n 1, 1) := by decide +kernel
theorem dX4_addLook_10 : decode cX4_addLook 10 = .ok (.aload_n 0, 1) := by decide +kernel
theorem dX4_addLook_11 : decode cX4_addLook 11 = .ok (.getfield 9, 3) := by decide +kernel
theorem dX4_addLook_14 : decode cX4_addLook 14 = .ok (.if_icmp .lt 5, 3) := by decide +kernel
theorem dX4_addLook_17 : decode cX4_addLook 17 = .ok (.iconst 0, 1) := by decide +kernel
theorem dX4_addLook_18 : decode cX4_addLook 18 = .ok (.ireturn, 1) := by decide +kernel
theorem dX4_addLook_19 : decode cX4_addLook 19 = .ok (.aload_n 0, 1) := by decide +kernel
theorem dX4_addLook_20 : decode cX4_addLook 20 = .ok (.getfield 62, 3) := by decide +kernel
theorem dX4_addLook_23 : decode cX4_addLook 23 = .ok (.aload_n 0, 1) := by decide +kernel
theorem dX4_addLook_24 : decode cX4_addLook 24 = .ok (.getfield 59, 3) := by decide +kernel
theorem dX4_addLook_27 : decode cX4_addLook 27 = .ok (.iload_n 1, 1) := by decide +kernel
theorem dX4_addLook_28 : decode cX4_addLook 28 = .ok (.iastore, 1) := by decide +kernel
theorem dX4_addLook_29 : decode cX4_addLook 29 = .ok (.aload_n 0, 1) := by decide +kernel
theorem dX4_addLook_30 : decode cX4_addLook 30 = .ok (.getfield 65, 3) := by decide +kernel
theorem dX4_addLook_33 : decode cX4_addLook 33 = .ok (.aload_n 0, 1) := by decide +kernel
theorem dX4_addLook_34 : decode cX4_addLook 34 = .ok (.getfield 59, 3) := by decide +kernel
theorem dX4_addLook_37 : decode cX4_addLook 37 = .ok (.iload_n 2, 1) := by decide +kernel
theorem dX4_addLook_38 : decode cX4_addLook 38 = .ok (.iastore, 1) := by decide +kernel
theorem dX4_addLook_39 : decode cX4_addLook 39 = .ok (.aload_n 0, 1) := by decide +kernel
theorem dX4_addLook_40 : decode cX4_addLook 40 = .ok (.getfield 68, 3) := by decide +kernel
theorem dX4_addLook_43 : decode cX4_addLook 43 = .ok (.aload_n 0, 1) := by decide +kernel
theorem dX4_addLook_44 : decode cX4_addLook 44 = .ok (.getfield 59, 3) := by decide +kernel
theorem dX4_addLook_47 : decode cX4_addLook 47 = .ok (.iload_n 3, 1) := by decide +kernel
theorem dX4_addLook_48 : decode cX4_addLook 48 = .ok (.iastore, 1) := by decide +kernel
theorem dX4_addLook_49 : decode cX4_addLook 49 = .ok (.aload_n 0, 1) := by decide +kernel
theorem dX4_addLook_50 : decode cX4_addLook 50 = .ok (.dup, 1) := by decide +kernel
theorem dX4_addLook_51 : decode cX4_addLook 51 = .ok (.getfield 59, 3) := by decide +kernel
theorem dX4_addLook_54 : decode cX4_addLook 54 = .ok (.iconst 1, 1) := by decide +kernel
theorem dX4_addLook_55 : decode cX4_addLook 55 = .ok (.iadd, 1) := by decide +kernel
theorem dX4_addLook_56 : decode cX4_addLook 56 = .ok (.putfield 59, 3) := by decide +kernel
theorem dX4_addLook_59 : decode cX4_addLook 59 = .ok (.iconst 1, 1) := by decide +kernel
theorem dX4_addLook_60 : decode cX4_addLook 60 = .ok (.ireturn, 1) := by decide +kernel
theorem dX4_setCustom_0 : decode cX4_setCustom 0 = .ok (.iload_n 1, 1) := by decide +kernel
theorem dX4_setCustom_1 : decode cX4_setCustom 1 = .ok (.iconst 1, 1) := by decide +kernel
theorem dX4_setCustom_2 : decode cX4_setCustom 2 = .ok (.iconst 3, 1) := by decide +kernel
theorem dX4_setCustom_3 : decode cX4_setCustom 3 = .ok (.invokestatic 80, 3) := by decide +kernel
theorem dX4_setCustom_6 : decode cX4_setCustom 6 = .ok (.ifCond .ne 5, 3) := by decide +kernel
theorem dX4_setCustom_9 : decode cX4_setCustom 9 = .ok (.iconst 0, 1) := by decide +kernel
theorem dX4_setCustom_10 : decode cX4_setCustom 10 = .ok (.ireturn, 1) := by decide +kernel
theorem dX4_setCustom_11 : decode cX4_setCustom 11 = .ok (.aload_n 0, 1) := by decide +kernel
theorem dX4_setCustom_12 : decode cX4_setCustom 12 = .ok (.getfield 53, 3) := by decide +kernel
theorem dX4_setCustom_15 : decode cX4_setCustom 15 = .ok (.iload_n 1, 1) := by decide +kernel
theorem dX4_setCustom_16 : decode cX4_setCustom 16 = .ok (.iload_n 2, 1) := by decide +kernel
theorem dX4_setCustom_17 : decode cX4_setCustom 17 = .ok (.iastore, 1) := by decide +kernel
theorem dX4_setCustom_18 : decode cX4_setCustom 18 = .ok (.aload_n 0, 1) := by decide +kernel
theorem dX4_setCustom_19 : decode cX4_setCustom 19 = .ok (.getfield 56, 3) := by decide +kernel
theorem dX4_setCustom_22 : decode cX4_setCustom 22 = .ok (.iload_n 1, 1) := by decide +kernel
theorem dX4_setCustom_23 : decode cX4_setCustom 23 = .ok (.iload_n 3, 1) := by decide +kernel
theorem dX4_setCustom_24 : decode cX4_setCustom 24 = .ok (.iastore, 1) := by decide +kernel
theorem dX4_setCustom_25 : decode cX4_setCustom 25 = .ok (.iconst 1, 1) := by decide +kernel
theorem dX4_setCustom_26 : decode cX4_setCustom 26 = .ok (.ireturn, 1) := by decide +kernel
theorem dX4_setHall_0 : decode cX4_setHall 0 = .ok (.aload_n 0, 1) := by decide +kernel
theorem dX4_setHall_1 : decode cX4_setHall 1 = .ok (.iload_n 1, 1) := by decide +kernel
theorem dX4_setHall_2 : decode cX4_setHall 2 = .ok (.putfield 35, 3) := by decide +kernel
theorem dX4_setHall_5 : decode cX4_setHall 5 = .ok (.aload_n 0, 1) := by decide +kernel
theorem dX4_setHall_6 : decode cX4_setHall 6 = .ok (.iload_n 2, 1) := by decide +kernel
theorem dX4_setHall_7 : decode cX4_setHall 7 = .ok (.putfield 38, 3) := by decide +kernel
theorem dX4_setHall_10 : decode cX4_setHall 10 = .ok (.iconst 1, 1) := by decide +kernel
theorem dX4_setHall_11 : decode cX4_setHall 11 = .ok (.ireturn, 1) := by decide +kernel
theorem dX4_setEnd_0 : decode cX4_setEnd 0 = .ok (.aload_n 0, 1) := by decide +kernel
theorem dX4_setEnd_1 : decode cX4_setEnd 1 = .ok (.iload_n 1, 1) := by decide +kernel
theorem dX4_setEnd_2 : decode cX4_setEnd 2 = .ok (.putfield 41, 3) := by decide +kernel
theorem dX4_setEnd_5 : decode cX4_setEnd 5 = .ok (.iconst 1, 1) := by decide +kernel
theorem dX4_setEnd_6 : decode cX4_setEnd 6 = .ok (.ireturn, 1) := by decide +kernel
theorem dX4_weightOfLooks_0 : decode cX4_weightOfLooks 0 = .ok (.iconst 1, 1) := by decide +kernel
theorem dX4_weightOfLooks_1 : decode cX4_weightOfLooks 1 = .ok (.istore_n 3, 1) := by decide +kernel
theorem dX4_weightOfLooks_2 : decode cX4_weightOfLooks 2 = .ok (.iconst 0, 1) := by decide +kernel
theorem dX4_weightOfLooks_3 : decode cX4_weightOfLooks 3 = .ok (.istore 4, 2) := by decide +kernel
theorem dX4_weightOfLooks_5 : decode cX4_weightOfLooks 5 = .ok (.iload 4, 2) := by decide +kernel
theorem dX4_weightOfLooks_7 : decode cX4_weightOfLooks 7 = .ok (.aload_n 0, 1) := by decide +kernel
theorem dX4_weightOfLooks_8 : decode cX4_weightOfLooks 8 = .ok (.getfield 59, 3) := by decide +kernel
theorem dX4_weightOfLooks_11 : decode cX4_weightOfLooks 11 = .ok (.if_icmp .ge 58, 3) := by decide +kernel
theorem dX4_weightOfLooks_14 : decode cX4_weightOfLooks 14 = .ok (.aload_n 0, 1) := by decide +kernel
theorem dX4_weightOfLooks_15 : decode cX4_weightOfLooks 15 = .ok (.getfield 62, 3) := by decide +kernel
theorem dX4_weightOfLooks_18 : decode cX4_weightOfLooks 18 = .ok (.iload 4, 2) := by decide +kernel
theorem dX4_weightOfLooks_20 : decode cX4_weightOfLooks 20 = .ok (.iaload, 1) := by decide +kernel
theorem dX4_weightOfLooks_21 : decode cX4_weightOfLooks 21 = .ok (.iload_n 1, 1) := by decide +kernel
theorem dX4_weightOfLooks_22 : decode cX4_weightOfLooks 22 = .ok (.if_icmp .ne 41, 3) := by decide +kernel
theorem dX4_weightOfLooks_25 : decode cX4_weightOfLooks 25 = .ok (.iload_n 3, 1) := by decide +kernel
theorem dX4_weightOfLooks_26 : decode cX4_weightOfLooks 26 = .ok (.aload_n 0, 1) := by decide +kernel
theorem dX4_weightOfLooks_27 : decode cX4_weightOfLooks 27 = .ok (.getfield 68, 3) := by decide +kernel
theorem dX4_weightOfLooks_30 : decode cX4_weightOfLooks 30 = .ok (.iload 4, 2) := by decide +kernel
theorem dX4_weightOfLooks_32 : decode cX4_weightOfLooks 32 = .ok (.iaload, 1) := by decide +kernel
theorem dX4_weightOfLooks_33 : decode cX4_weightOfLooks 33 = .ok (.iconst 1, 1) := by decide +kernel
theorem dX4_weightOfLooks_34 : decode cX4_weightOfLooks 34 = .ok (.if_icmp .ne 7, 3) := by decide +kernel
theorem dX4_weightOfLooks_37 : decode cX4_weightOfLooks 37 = .ok (.iconst 1, 1) := by decide +kernel
theorem dX4_weightOfLooks_38 : decode cX4_weightOfLooks 38 = .ok (.goto 4, 3) := by decide +kernel
theorem dX4_weightOfLooks_41 : decode cX4_weightOfLooks 41 = .ok (.iconst 0, 1) := by decide +kernel
theorem dX4_weightOfLooks_42 : decode cX4_weightOfLooks 42 = .ok (.aload_n 0, 1) := by decide +kernel
theorem dX4_weightOfLooks_43 : decode cX4_weightOfLooks 43 = .ok (.getfield 65, 3) := by decide +kernel
theorem dX4_weightOfLooks_46 : decode cX4_weightOfLooks 46 = .ok (.iload 4, 2) := by decide +kernel
theorem dX4_weightOfLooks_48 : decode cX4_weightOfLooks 48 = .ok (.iaload, 1) := by decide +kernel
theorem dX4_weightOfLooks_49 : decode cX4_weightOfLooks 49 = .ok (.iload_n 2, 1) := by decide +kernel
theorem dX4_weightOfLooks_50 : decode cX4_weightOfLooks 50 = .ok (.if_icmp .ge 7, 3) := by decide +kernel
theorem dX4_weightOfLooks_53 : decode cX4_weightOfLooks 53 = .ok (.iconst 1, 1) := by decide +kernel
theorem dX4_weightOfLooks_54 : decode cX4_weightOfLooks 54 = .ok (.goto 4, 3) := by decide +kernel
theorem dX4_weightOfLooks_57 : decode cX4_weightOfLooks 57 = .ok (.iconst 0, 1) := by decide +kernel
theorem dX4_weightOfLooks_58 : decode cX4_weightOfLooks 58 = .ok (.invokestatic 84, 3) := by decide +kernel
theorem dX4_weightOfLooks_61 : decode cX4_weightOfLooks 61 = .ok (.imul, 1) := by decide +kernel
theorem dX4_weightOfLooks_62 : decode cX4_weightOfLooks 62 = .ok (.istore_n 3, 1) := by decide +kernel
theorem dX4_weightOfLooks_63 : decode cX4_weightOfLooks 63 = .ok (.iinc 4 1, 3) := by decide +kernel
theorem dX4_weightOfLooks_66 : decode cX4_weightOfLooks 66 = .ok (.goto (-61), 3) := by decide +kernel
theorem dX4_weightOfLooks_69 : decode cX4_weightOfLooks 69 = .ok (.iload_n 3, 1) := by decide +kernel
theorem dX4_weightOfLooks_70 : decode cX4_weightOfLooks 70 = .ok (.ireturn, 1) := by decide +kernel
theorem dX4_weightOfLook_0 : decode cX4_weightOfLook 0 = .ok (.iload_n 1, 1) := by decide +kernel
theorem dX4_weightOfLook_1 : decode cX4_weightOfLook 1 = .ok (.ifCond .eq 14, 3) := by decide +kernel
theorem dX4_weightOfLook_4 : decode cX4_weightOfLook 4 = .ok (.iload_n 0, 1) := by decide +kernel
theorem dX4_weightOfLook_5 : decode cX4_weightOfLook 5 = .ok (.ifCond .eq 7, 3) := by decide +kernel
theorem dX4_weightOfLook_8 : decode cX4_weightOfLook 8 = .ok (.iconst 0, 1) := by decide +kernel
theorem dX4_weightOfLook_9 : decode cX4_weightOfLook 9 = .ok (.goto 5, 3) := by decide +kernel
theorem dX4_weightOfLook_12 : decode cX4_weightOfLook 12 = .ok (.bipush 10, 2) := by decide +kernel
theorem dX4_weightOfLook_14 : decode cX4_weightOfLook 14 = .ok (.ireturn, 1) := by decide +kernel
theorem dX4_weightOfLook_15 : decode cX4_weightOfLook 15 = .ok (.iload_n 0, 1) := by decide +kernel
theorem dX4_weightOfLook_16 : decode cX4_weightOfLook 16 = .ok (.ifCond .eq 7, 3) := by decide +kernel
theorem dX4_weightOfLook_19 : decode cX4_weightOfLook 19 = .ok (.iconst 3, 1) := by decide +kernel
theorem dX4_weightOfLook_20 : decode cX4_weightOfLook 20 = .ok (.goto 5, 3) := by decide +kernel
theorem dX4_weightOfLook_23 : decode cX4_weightOfLook 23 = .ok (.bipush 7, 2) := by decide +kernel
theorem dX4_weightOfLook_25 : decode cX4_weightOfLook 25 = .ok (.ireturn, 1) := by decide +kernel
theorem dX5_init_0 : decode cX5_init 0 = .ok (.aload_n 0, 1) := by decide +kernel
theorem dX5_init_1 : decode cX5_init 1 = .ok (.invokespecial 3, 3) := by decide +kernel
theorem dX5_init_4 : decode cX5_init 4 = .ok (.aload_n 0, 1) := by decide +kernel
theorem dX5_init_5 : decode cX5_init 5 = .ok (.iconst 4, 1) := by decide +kernel
theorem dX5_init_6 : decode cX5_init 6 = .ok (.newarray .int, 2) := by decide +kernel
theorem dX5_init_8 : decode cX5_init 8 = .ok (.putfield 11, 3) := by decide +kernel
theorem dX5_init_11 : decode cX5_init 11 = .ok (.aload_n 0, 1) := by decide +kernel
theorem dX5_init_12 : decode cX5_init 12 = .ok (.iconst 0, 1) := by decide +kernel
theorem dX5_init_13 : decode cX5_init 13 = .ok (.putfield 15, 3) := by decide +kernel
theorem dX5_init_16 : decode cX5_init 16 = .ok (.return_, 1) := by decide +kernel
theorem dX5_firstFault_0 : decode cX5_firstFault 0 = .ok (.aload_n 3, 1) := by decide +kernel
theorem dX5_firstFault_1 : decode cX5_firstFault 1 = .ok (.invokevirtual 19, 3) := by decide +kernel
theorem dX5_firstFault_4 : decode cX5_firstFault 4 = .ok (.aload_n 0, 1) := by decide +kernel
theorem dX5_firstFault_5 : decode cX5_firstFault 5 = .ok (.iconst 0, 1) := by decide +kernel
theorem dX5_firstFault_6 : decode cX5_firstFault 6 = .ok (.putfield 15, 3) := by decide +kernel
theorem dX5_firstFault_9 : decode cX5_firstFault 9 = .ok (.iconst 0, 1) := by decide +kernel
theorem dX5_firstFault_10 : decode cX5_firstFault 10 = .ok (.istore 4, 2) := by decide +kernel
theorem dX5_firstFault_12 : decode cX5_firstFault 12 = .ok (.iload 4, 2) := by decide +kernel
theorem dX5_firstFault_14 : decode cX5_firstFault 14 = .ok (.iload_n 2, 1) := by decide +kernel
theorem dX5_firstFault_15 : decode cX5_firstFault 15 = .ok (.if_icmp .gt 68, 3) := by decide +kernel
theorem dX5_firstFault_18 : decode cX5_firstFault 18 = .ok (.aload_n 0, 1) := by decide +kernel
theorem dX5_firstFault_19 : decode cX5_firstFault 19 = .ok (.getfield 15, 3) := by decide +kernel
theorem dX5_firstFault_22 : decode cX5_firstFault 22 = .ok (.iload_n 2, 1) := by decide +kernel
theorem dX5_firstFault_23 : decode cX5_firstFault 23 = .ok (.if_icmp .ge 60, 3) := by decide +kernel
theorem dX5_firstFault_26 : decode cX5_firstFault 26 = .ok (.aload_n 0, 1) := by decide +kernel
theorem dX5_firstFault_27 : decode cX5_firstFault 27 = .ok (.getfield 15, 3) := by decide +kernel
theorem dX5_firstFault_30 : decode cX5_firstFault 30 = .ok (.istore 5, 2) := by decide +kernel
theorem dX5_firstFault_32 : decode cX5_firstFault 32 = .ok (.ldc 24, 2) := by decide +kernel
theorem dX5_firstFault_34 : decode cX5_firstFault 34 = .ok (.aload_n 1, 1) := by decide +kernel
theorem dX5_firstFault_35 : decode cX5_firstFault 35 = .ok (.iload 5, 2) := by decide +kernel
theorem dX5_firstFault_37 : decode cX5_firstFault 37 = .ok (.baload, 1) := by decide +kernel
theorem dX5_firstFault_38 : decode cX5_firstFault 38 = .ok (.sipush 255, 3) := by decide +kernel
theorem dX5_firstFault_41 : decode cX5_firstFault 41 = .ok (.iand, 1) := by decide +kernel
theorem dX5_firstFault_42 : decode cX5_firstFault 42 = .ok (.i2c, 1) := by decide +kernel
theorem dX5_firstFault_43 : decode cX5_firstFault 43 = .ok (.invokevirtual 26, 3) := by decide +kernel
theorem dX5_firstFault_46 : decode cX5_firstFault 46 = .ok (.istore 6, 2) := by decide +kernel
theorem dX5_firstFault_48 : decode cX5_firstFault 48 = .ok (.iload 6, 2) := by decide +kernel
theorem dX5_firstFault_50 : decode cX5_firstFault 50 = .ok (.ifCond .lt 24, 3) := by decide +kernel
theorem dX5_firstFault_53 : decode cX5_firstFault 53 = .ok (.aload_n 0, 1) := by decide +kernel
theorem dX5_firstFault_54 : decode cX5_firstFault 54 = .ok (.aload_n 1, 1) := by decide +kernel
theorem dX5_firstFault_55 : decode cX5_firstFault 55 = .ok (.iload_n 2, 1) := by decide +kernel
theorem dX5_firstFault_56 : decode cX5_firstFault 56 = .ok (.iload 6, 2) := by decide +kernel
theorem dX5_firstFault_58 : decode cX5_firstFault 58 = .ok (.invokevirtual 32, 3) := by decide +kernel
theorem dX5_firstFault_61 : decode cX5_firstFault 61 = .ok (.ifCond .eq 13, 3) := by decide +kernel
theorem dX5_firstFault_64 : decode cX5_firstFault 64 = .ok (.aload_n 0, 1) := by decide +kernel
theorem dX5_firstFault_65 : decode cX5_firstFault 65 = .ok (.iload 6, 2) := by decide +kernel
theorem dX5_firstFault_67 : decode cX5_firstFault 67 = .ok (.aload_n 3, 1) := by decide +kernel
theorem dX5_firstFault_68 : decode cX5_firstFault 68 = .ok (.invokevirtual 36, 3) := by decide +kernel
theorem dX5_firstFault_71 : decode cX5_firstFault 71 = .ok (.ifCond .ne 6, 3) := by decide +kernel
theorem dX5_firstFault_74 : decode cX5_firstFault 74 = .ok (.iload 5, 2) := by decide +kernel
theorem dX5_firstFault_76 : decode cX5_firstFault 76 = .ok (.ireturn, 1) := by decide +kernel
theorem dX5_firstFault_77 : decode cX5_firstFault 77 = .ok (.iinc 4 1, 3) := by decide +kernel
theorem dX5_firstFault_80 : decode cX5_firstFault 80 = .ok (.goto (-68), 3) := by decide +kernel
theorem dX5_firstFault_83 : decode cX5_firstFault 83 = .ok (.bipush (-4), 2) := by decide +kernel
theorem dX5_firstFault_85 : decode cX5_firstFault 85 = .ok (.ireturn, 1) := by decide +kernel
theorem dX5_readNumbers_0 : decode cX5_readNumbers 0 = .ok (.getstatic 40, 3) := by decide +kernel
theorem dX5_readNumbers_3 : decode cX5_readNumbers 3 = .ok (.iload_n 3, 1) := by decide +kernel
theorem dX5_readNumbers_4 : decode cX5_readNumbers 4 = .ok (.iaload, 1) := by decide +kernel
theorem dX5_readNumbers_5 : decode cX5_readNumbers 5 = .ok (.istore 4, 2) := by decide +kernel
theorem dX5_readNumbers_7 : decode cX5_readNumbers 7 = .ok (.aload_n 0, 1) := by decide +kernel
theorem dX5_readNumbers_8 : decode cX5_readNumbers 8 = .ok (.dup, 1) := by decide +kernel
theorem dX5_readNumbers_9 : decode cX5_readNumbers 9 = .ok (.getfield 15, 3) := by decide +kernel
theorem dX5_readNumbers_12 : decode cX5_readNumbers 12 = .ok (.iconst 1, 1) := by decide +kernel
theorem dX5_readNumbers_13 : decode cX5_readNumbers 13 = .ok (.iadd, 1) := by decide +kernel
theorem dX5_readNumbers_14 : decode cX5_readNumbers 14 = .ok (.putfield 15, 3) := by decide +kernel
theorem dX5_readNumbers_17 : decode cX5_readNumbers 17 = .ok (.iconst 0, 1) := by decide +kernel
theorem dX5_readNumbers_18 : decode cX5_readNumbers 18 = .ok (.istore 5, 2) := by decide +kernel
theorem dX5_readNumbers_20 : decode cX5_readNumbers 20 = .ok (.iload 5, 2) := by decide +kernel
theorem dX5_readNumbers_22 : decode cX5_readNumbers 22 = .ok (.iload 4, 2) := by decide +kernel
theorem dX5_readNumbers_24 : decode cX5_readNumbers 24 = .ok (.if_icmp .ge 107, 3) := by decide +kernel
theorem dX5_readNumbers_27 : decode cX5_readNumbers 27 = .ok (.aload_n 0, 1) := by decide +kernel
theorem dX5_readNumbers_28 : decode cX5_readNumbers 28 = .ok (.aload_n 1, 1) := by decide +kernel
theorem dX5_readNumbers_29 : decode cX5_readNumbers 29 = .ok (.iload_n 2, 1) := by decide +kernel
theorem dX5_readNumbers_30 : decode cX5_readNumbers 30 = .ok (.invokevirtual 43, 3) := by decide +kernel
theorem dX5_readNumbers_33 : decode cX5_readNumbers 33 = .ok (.istore 6, 2) := by decide +kernel
theorem dX5_readNumbers_35 : decode cX5_readNumbers 35 = .ok (.iconst 4, 1) := by decide +kernel
theorem dX5_readNumbers_36 : decode cX5_readNumbers 36 = .ok (.iload_n 3, 1) := by decide +kernel
theorem dX5_readNumbers_37 : decode cX5_readNumbers 37 = .ok (.imul, 1) := by decide +kernel
theorem dX5_readNumbers_38 : decode cX5_readNumbers 38 = .ok (.iload 5, 2) := by decide +kernel
theorem dX5_readNumbers_40 : decode cX5_readNumbers 40 = .ok (.iadd, 1) := by decide +kernel
theorem dX5_readNumbers_41 : decode cX5_readNumbers 41 = .ok (.istore 7, 2) := by decide +kernel
theorem dX5_readNumbers_43 : decode cX5_readNumbers 43 = .ok (.iload 6, 2) := by decide +kernel
theorem dX5_readNumbers_45 : decode cX5_readNumbers 45 = .ok (.getstatic 47, 3) := by decide +kernel
theorem dX5_readNumbers_48 : decode cX5_readNumbers 48 = .ok (.iload 7, 2) := by decide +kernel
theorem dX5_readNumbers_50 : decode cX5_readNumbers 50 = .ok (.iaload, 1) := by decide +kernel
theorem dX5_readNumbers_51 : decode cX5_readNumbers 51 = .ok (.if_icmp .lt 14, 3) := by decide +kernel
theorem dX5_readNumbers_54 : decode cX5_readNumbers 54 = .ok (.iload 6, 2) := by decide +kernel
theorem dX5_readNumbers_56 : decode cX5_readNumbers 56 = .ok (.getstatic 50, 3) := by decide +kernel
theorem dX5_readNumbers_59 : decode cX5_readNumbers 59 = .ok (.iload 7, 2) := by decide +kernel
theorem dX5_readNumbers_61 : decode cX5_readNumbers 61 = .ok (.iaload, 1) := by decide +kernel
theorem dX5_readNumbers_62 : decode cX5_readNumbers 62 = .ok (.if_icmp .le 5, 3) := by decide +kernel
theorem dX5_readNumbers_65 : decode cX5_readNumbers 65 = .ok (.iconst 0, 1) := by decide +kernel
theorem dX5_readNumbers_66 : decode cX5_readNumbers 66 = .ok (.ireturn, 1) := by decide +kernel
theorem dX5_readNumbers_67 : decode cX5_readNumbers 67 = .ok (.aload_n 0, 1) := by decide +kernel
theorem dX5_readNumbers_68 : decode cX5_readNumbers 68 = .ok (.getfield 11, 3) := by decide +kernel
theorem dX5_readNumbers_71 : decode cX5_readNumbers 71 = .ok (.iload 5, 2) := by decide +kernel
theorem dX5_readNumbers_73 : decode cX5_readNumbers 73 = .ok (.iload 6, 2) := by decide +kernel
theorem dX5_readNumbers_75 : decode cX5_readNumbers 75 = .ok (.iastore, 1) := by decide +kernel
theorem dX5_readNumbers_76 : decode cX5_readNumbers 76 = .ok (.iload 5, 2) := by decide +kernel
theorem dX5_readNumbers_78 : decode cX5_readNumbers 78 = .ok (.iload 4, 2) := by decide +kernel
theorem dX5_readNumbers_80 : decode cX5_readNumbers 80 = .ok (.iconst 1, 1) := by decide +kernel
theorem dX5_readNumbers_81 : decode cX5_readNumbers 81 = .ok (.isub, 1) := by decide +kernel
theorem dX5_readNumbers_82 : decode cX5_readNumbers 82 = .ok (.if_icmp .ne 8, 3) := by decide +kernel
theorem dX5_readNumbers_85 : decode cX5_readNumbers 85 = .ok (.bipush 59, 2) := by decide +kernel
theorem dX5_readNumbers_87 : decode cX5_readNumbers 87 = .ok (.goto 5, 3) := by decide +kernel
theorem dX5_readNumbers_90 : decode cX5_readNumbers 90 = .ok (.bipush 44, 2) := by decide +kernel
theorem dX5_readNumbers_92 : decode cX5_readNumbers 92 = .ok (.istore 8, 2) := by decide +kernel
theorem dX5_readNumbers_94 : decode cX5_readNumbers 94 = .ok (.aload_n 0, 1) := by decide +kernel
theorem dX5_readNumbers_95 : decode cX5_readNumbers 95 = .ok (.getfield 15, 3) := by decide +kernel
theorem dX5_readNumbers_98 : decode cX5_readNumbers 98 = .ok (.iload_n 2, 1) := by decide +kernel
theorem dX5_readNumbers_99 : decode cX5_readNumbers 99 = .ok (.if_icmp .ge 14, 3) := by decide +kernel
theorem dX5_readNumbers_102 : decode cX5_readNumbers 102 = .ok (.aload_n 1, 1) := by decide +kernel
theorem dX5_readNumbers_103 : decode cX5_readNumbers 103 = .ok (.aload_n 0, 1) := by decide +kernel
theorem dX5_readNumbers_104 : decode cX5_readNumbers 104 = .ok (.getfield 15, 3) := by decide +kernel
theorem dX5_readNumbers_107 : decode cX5_readNumbers 107 = .ok (.baload, 1) := by decide +kernel
theorem dX5_readNumbers_108 : decode cX5_readNumbers 108 = .ok (.iload 8, 2) := by decide +kernel
theorem dX5_readNumbers_110 : decode cX5_readNumbers 110 = .ok (.if_icmp .eq 5, 3) := by decide +kernel
theorem dX5_readNumbers_113 : decode cX5_readNumbers 113 = .ok (.iconst 0, 1) := by decide +kernel
theorem dX5_readNumbers_114 : decode cX5_readNumbers 114 = .ok (.ireturn, 1) := by decide +kernel
theorem dX5_readNumbers_115 : decode cX5_readNumbers 115 = .ok (.aload_n 0, 1) := by decide +kernel
theorem dX5_readNumbers_116 : decode cX5_readNumbers 116 = .ok (.dup, 1) := by decide +kernel
theorem dX5_readNumbers_117 : decode cX5_readNumbers 117 = .ok (.getfield 15, 3) := by decide +kernel
theorem dX5_readNumbers_120 : decode cX5_readNumbers 120 = .ok (.iconst 1, 1) := by decide +kernel
theorem dX5_readNumbers_121 : decode cX5_readNumbers 121 = .ok (.iadd, 1) := by decide +kernel
theorem dX5_readNumbers_122 : decode cX5_readNumbers 122 = .ok (.putfield 15, 3) := by decide +kernel
theorem dX5_readNumbers_125 : decode cX5_readNumbers 125 = .ok (.iinc 5 1, 3) := by decide +kernel
theorem dX5_readNumbers_128 : decode cX5_readNumbers 128 = .ok (.goto (-108), 3) := by decide +kernel
theorem dX5_readNumbers_131 : decode cX5_readNumbers 131 = .ok (.iconst 1, 1) := by decide +kernel
theorem dX5_readNumbers_132 : decode cX5_readNumbers 132 = .ok (.ireturn, 1) := by decide +kernel
theorem dX5_readNumber_0 : decode cX5_readNumber 0 = .ok (.aload_n 0, 1) := by decide +kernel
theorem dX5_readNumber_1 : decode cX5_readNumber 1 = .ok (.getfield 15, 3) := by decide +kernel
theorem dX5_readNumber_4 : decode cX5_readNumber 4 = .ok (.istore_n 3, 1) := by decide +kernel
theorem dX5_readNumber_5 : decode cX5_readNumber 5 = .ok (.iconst 0, 1) := by decide +kernel
theorem dX5_readNumber_6 : decode cX5_readNumber 6 = .ok (.istore 4, 2) := by decide +kernel
theorem dX5_readNumber_8 : decode cX5_readNumber 8 = .ok (.aload_n 0, 1) := by decide +kernel
theorem dX5_readNumber_9 : decode cX5_readNumber 9 = .ok (.getfield 15, 3) := by decide +kernel
theorem dX5_readNumber_12 : decode cX5_readNumber 12 = .ok (.iload_n 2, 1) := by decide +kernel
theorem dX5_readNumber_13 : decode cX5_readNumber 13 = .ok (.if_icmp .ge 65, 3) := by decide +kernel
theorem dX5_readNumber_16 : decode cX5_readNumber 16 = .ok (.aload_n 0, 1) := by decide +kernel
theorem dX5_readNumber_17 : decode cX5_readNumber 17 = .ok (.getfield 15, 3) := by decide +kernel
theorem dX5_readNumber_20 : decode cX5_readNumber 20 = .ok (.iload_n 3, 1) := by decide +kernel
theorem dX5_readNumber_21 : decode cX5_readNumber 21 = .ok (.isub, 1) := by decide +kernel
theorem dX5_readNumber_22 : decode cX5_readNumber 22 = .ok (.iconst 3, 1) := by decide +kernel
theorem dX5_readNumber_23 : decode cX5_readNumber 23 = .ok (.if_icmp .ge 55, 3) := by decide +kernel
theorem dX5_readNumber_26 : decode cX5_readNumber 26 = .ok (.aload_n 1, 1) := by decide +kernel
theorem dX5_readNumber_27 : decode cX5_readNumber 27 = .ok (.aload_n 0, 1) := by decide +kernel
theorem dX5_readNumber_28 : decode cX5_readNumber 28 = .ok (.getfield 15, 3) := by decide +kernel
theorem dX5_readNumber_31 : decode cX5_readNumber 31 = .ok (.baload, 1) := by decide +kernel
theorem dX5_readNumber_32 : decode cX5_readNumber 32 = .ok (.bipush 48, 2) := by decide +kernel
theorem dX5_readNumber_34 : decode cX5_readNumber 34 = .ok (.if_icmp .lt 44, 3) := by decide +kernel
theorem dX5_readNumber_37 : decode cX5_readNumber 37 = .ok (.aload_n 1, 1) := by decide +kernel
theorem dX5_readNumber_38 : decode cX5_readNumber 38 = .ok (.aload_n 0, 1) := by decide +kernel
theorem dX5_readNumber_39 : decode cX5_readNumber 39 = .ok (.getfield 15, 3) := by decide +kernel
theorem dX5_readNumber_42 : decode cX5_readNumber 42 = .ok (.baload, 1) := by decide +kernel
theorem dX5_readNumber_43 : decode cX5_readNumber 43 = .ok (.bipush 57, 2) := by decide +kernel
theorem dX5_readNumber_45 : decode cX5_readNumber 45 = .ok (.if_icmp .gt 33, 3) := by decide +kernel
theorem dX5_readNumber_48 : decode cX5_readNumber 48 = .ok (.bipush 10, 2) := by decide +kernel
theorem dX5_readNumber_50 : decode cX5_readNumber 50 = .ok (.iload 4, 2) := by decide +kernel
theorem dX5_readNumber_52 : decode cX5_readNumber 52 = .ok (.imul, 1) := by decide +kernel
theorem dX5_readNumber_53 : decode cX5_readNumber 53 = .ok (.aload_n 1, 1) := by decide +kernel
theorem dX5_readNumber_54 : decode cX5_readNumber 54 = .ok (.aload_n 0, 1) := by decide +kernel
theorem dX5_readNumber_55 : decode cX5_readNumber 55 = .ok (.getfield 15, 3) := by decide +kernel
theorem dX5_readNumber_58 : decode cX5_readNumber 58 = .ok (.baload, 1) := by decide +kernel
theorem dX5_readNumber_59 : decode cX5_readNumber 59 = .ok (.bipush 48, 2) := by decide +kernel
theorem dX5_readNumber_61 : decode cX5_readNumber 61 = .ok (.isub, 1) := by decide +kernel
theorem dX5_readNumber_62 : decode cX5_readNumber 62 = .ok (.iadd, 1) := by decide +kernel
theorem dX5_readNumber_63 : decode cX5_readNumber 63 = .ok (.istore 4, 2) := by decide +kernel
theorem dX5_readNumber_65 : decode cX5_readNumber 65 = .ok (.aload_n 0, 1) := by decide +kernel
theorem dX5_readNumber_66 : decode cX5_readNumber 66 = .ok (.dup, 1) := by decide +kernel
theorem dX5_readNumber_67 : decode cX5_readNumber 67 = .ok (.getfield 15, 3) := by decide +kernel
theorem dX5_readNumber_70 : decode cX5_readNumber 70 = .ok (.iconst 1, 1) := by decide +kernel
theorem dX5_readNumber_71 : decode cX5_readNumber 71 = .ok (.iadd, 1) := by decide +kernel
theorem dX5_readNumber_72 : decode cX5_readNumber 72 = .ok (.putfield 15, 3) := by decide +kernel
theorem dX5_readNumber_75 : decode cX5_readNumber 75 = .ok (.goto (-67), 3) := by decide +kernel
theorem dX5_readNumber_78 : decode cX5_readNumber 78 = .ok (.aload_n 0, 1) := by decide +kernel
theorem dX5_readNumber_79 : decode cX5_readNumber 79 = .ok (.getfield 15, 3) := by decide +kernel
theorem dX5_readNumber_82 : decode cX5_readNumber 82 = .ok (.iload_n 3, 1) := by decide +kernel
theorem dX5_readNumber_83 : decode cX5_readNumber 83 = .ok (.if_icmp .ne 7, 3) := by decide +kernel
theorem dX5_readNumber_86 : decode cX5_readNumber 86 = .ok (.iconst (-1), 1) := by decide +kernel
theorem dX5_readNumber_87 : decode cX5_readNumber 87 = .ok (.goto 5, 3) := by decide +kernel
theorem dX5_readNumber_90 : decode cX5_readNumber 90 = .ok (.iload 4, 2) := by decide +kernel
theorem dX5_readNumber_92 : decode cX5_readNumber 92 = .ok (.ireturn, 1) := by decide +kernel
theorem dX5_enter_0 : decode cX5_enter 0 = .ok (.iload_n 1, 1) := by decide +kernel
theorem dX5_enter_1 : decode cX5_enter 1 = .ok (.tableswitch 201 0 7 #[47, 76, 96, 110, 127, 138, 155, 178], 47) := by decide +kernel
theorem dX5_enter_48 : decode cX5_enter 48 = .ok (.aload_n 2, 1) := by decide +kernel
theorem dX5_enter_49 : decode cX5_enter 49 = .ok (.aload_n 0, 1) := by decide +kernel
theorem dX5_enter_50 : decode cX5_enter 50 = .ok (.getfield 11, 3) := by decide +kernel
theorem dX5_enter_53 : decode cX5_enter 53 = .ok (.iconst 0, 1) := by decide +kernel
theorem dX5_enter_54 : decode cX5_enter 54 = .ok (.iaload, 1) := by decide +kernel
theorem dX5_enter_55 : decode cX5_enter 55 = .ok (.aload_n 0, 1) := by decide +kernel
theorem dX5_enter_56 : decode cX5_enter 56 = .ok (.getfield 11, 3) := by decide +kernel
theorem dX5_enter_59 : decode cX5_enter 59 = .ok (.iconst 1, 1) := by decide +kernel
theorem dX5_enter_60 : decode cX5_enter 60 = .ok (.iaload, 1) := by decide +kernel
theorem dX5_enter_61 : decode cX5_enter 61 = .ok (.aload_n 0, 1) := by decide +kernel
theorem dX5_enter_62 : decode cX5_enter 62 = .ok (.getfield 11, 3) := by decide +kernel
theorem dX5_enter_65 : decode cX5_enter 65 = .ok (.iconst 2, 1) := by decide +kernel
theorem dX5_enter_66 : decode cX5_enter 66 = .ok (.iaload, 1) := by decide +kernel
theorem dX5_enter_67 : decode cX5_enter 67 = .ok (.aload_n 0, 1) := by decide +kernel
theorem dX5_enter_68 : decode cX5_enter 68 = .ok (.getfield 11, 3) := by decide +kernel
theorem dX5_enter_71 : decode cX5_enter 71 = .ok (.iconst 3, 1) := by decide +kernel
theorem dX5_enter_72 : decode cX5_enter 72 = .ok (.iaload, 1) := by decide +kernel
theorem dX5_enter_73 : decode cX5_enter 73 = .ok (.invokevirtual 53, 3) := by decide +kernel
theorem dX5_enter_76 : decode cX5_enter 76 = .ok (.ireturn, 1) := by decide +kernel
theorem dX5_enter_77 : decode cX5_enter 77 = .ok (.aload_n 2, 1) := by decide +kernel
theorem dX5_enter_78 : decode cX5_enter 78 = .ok (.getfield 57, 3) := by decide +kernel
theorem dX5_enter_81 : decode cX5_enter 81 = .ok (.aload_n 0, 1) := by decide +kernel
theorem dX5_enter_82 : decode cX5_enter 82 = .ok (.getfield 11, 3) := by decide +kernel
theorem dX5_enter_85 : decode cX5_enter 85 = .ok (.iconst 0, 1) := by decide +kernel
theorem dX5_enter_86 : decode cX5_enter 86 = .ok (.iaload, 1) := by decide +kernel
theorem dX5_enter_87 : decode cX5_enter 87 = .ok (.aload_n 0, 1) := by decide +kernel
theorem dX5_enter_88 : decode cX5_enter 88 = .ok (.getfield 11, 3) := by decide +kernel
theorem dX5_enter_91 : decode cX5_enter 91 = .ok (.iconst 1, 1) := by decide +kernel
theorem dX5_enter_92 : decode cX5_enter 92 = .ok (.iaload, 1) := by decide +kernel
theorem dX5_enter_93 : decode cX5_enter 93 = .ok (.invokevirtual 61, 3) := by decide +kernel
theorem dX5_enter_96 : decode cX5_enter 96 = .ok (.ireturn, 1) := by decide +kernel
theorem dX5_enter_97 : decode cX5_enter 97 = .ok (.aload_n 2, 1) := by decide +kernel
theorem dX5_enter_98 : decode cX5_enter 98 = .ok (.getfield 57, 3) := by decide +kernel
theorem dX5_enter_101 : decode cX5_enter 101 = .ok (.aload_n 0, 1) := by decide +kernel
theorem dX5_enter_102 : decode cX5_enter 102 = .ok (.getfield 11, 3) := by decide +kernel
theorem dX5_enter_105 : decode cX5_enter 105 = .ok (.iconst 0, 1) := by decide +kernel
theorem dX5_enter_106 : decode cX5_enter 106 = .ok (.iaload, 1) := by decide +kernel
theorem dX5_enter_107 : decode cX5_enter 107 = .ok (.invokevirtual 67, 3) := by decide +kernel
theorem dX5_enter_110 : decode cX5_enter 110 = .ok (.ireturn, 1) := by decide +kernel
theorem dX5_enter_111 : decode cX5_enter 111 = .ok (.aload_n 2, 1) := by decide +kernel
theorem dX5_enter_112 : decode cX5_enter 112 = .ok (.aload_n 0, 1) := by decide +kernel
theorem dX5_enter_113 : decode cX5_enter 113 = .ok (.getfield 11, 3) := by decide +kernel
theorem dX5_enter_116 : decode cX5_enter 116 = .ok (.iconst 0, 1) := by decide +kernel
theorem dX5_enter_117 : decode cX5_enter 117 = .ok (.iaload, 1) := by decide +kernel
theorem dX5_enter_118 : decode cX5_enter 118 = .ok (.aload_n 0, 1) := by decide +kernel
theorem dX5_enter_119 : decode cX5_enter 119 = .ok (.getfield 11, 3) := by decide +kernel
theorem dX5_enter_122 : decode cX5_enter 122 = .ok (.iconst 1, 1) := by decide +kernel
theorem dX5_enter_123 : decode cX5_enter 123 = .ok (.iaload, 1) := by decide +kernel
theorem dX5_enter_124 : decode cX5_enter 124 = .ok (.invokevirtual 71, 3) := by decide +kernel
theorem dX5_enter_127 : decode cX5_enter 127 = .ok (.ireturn, 1) := by decide +kernel
theorem dX5_enter_128 : decode cX5_enter 128 = .ok (.aload_n 2, 1) := by decide +kernel
theorem dX5_enter_129 : decode cX5_enter 129 = .ok (.aload_n 0, 1) := by decide +kernel
theorem dX5_enter_130 : decode cX5_enter 130 = .ok (.getfield 11, 3) := by decide +kernel
theorem dX5_enter_133 : decode cX5_enter 133 = .ok (.iconst 0, 1) := by decide +kernel
theorem dX5_enter_134 : decode cX5_enter 134 = .ok (.iaload, 1) := by decide +kernel
theorem dX5_enter_135 : decode cX5_enter 135 = .ok (.invokevirtual 74, 3) := by decide +kernel
theorem dX5_enter_138 : decode cX5_enter 138 = .ok (.ireturn, 1) := by decide +kernel
theorem dX5_enter_139 : decode cX5_enter 139 = .ok (.aload_n 2, 1) := by decide +kernel
theorem dX5_enter_140 : decode cX5_enter 140 = .ok (.aload_n 0, 1) := by decide +kernel
theorem dX5_enter_141 : decode cX5_enter 141 = .ok (.getfield 11, 3) := by decide +kernel
theorem dX5_enter_144 : decode cX5_enter 144 = .ok (.iconst 0, 1) := by decide +kernel
theorem dX5_enter_145 : decode cX5_enter 145 = .ok (.iaload, 1) := by decide +kernel
theorem dX5_enter_146 : decode cX5_enter 146 = .ok (.aload_n 0, 1) := by decide +kernel
theorem dX5_enter_147 : decode cX5_enter 147 = .ok (.getfield 11, 3) := by decide +kernel
theorem dX5_enter_150 : decode cX5_enter 150 = .ok (.iconst 1, 1) := by decide +kernel
theorem dX5_enter_151 : decode cX5_enter 151 = .ok (.iaload, 1) := by decide +kernel
theorem dX5_enter_152 : decode cX5_enter 152 = .ok (.invokevirtual 77, 3) := by decide +kernel
theorem dX5_enter_155 : decode cX5_enter 155 = .ok (.ireturn, 1) := by decide +kernel
theorem dX5_enter_156 : decode cX5_enter 156 = .ok (.aload_n 2, 1) := by decide +kernel
theorem dX5_enter_157 : decode cX5_enter 157 = .ok (.aload_n 0, 1) := by decide +kernel
theorem dX5_enter_158 : decode cX5_enter 158 = .ok (.getfield 11, 3) := by decide +kernel
theorem dX5_enter_161 : decode cX5_enter 161 = .ok (.iconst 0, 1) := by decide +kernel
theorem dX5_enter_162 : decode cX5_enter 162 = .ok (.iaload, 1) := by decide +kernel
theorem dX5_enter_163 : decode cX5_enter 163 = .ok (.aload_n 0, 1) := by decide +kernel
theorem dX5_enter_164 : decode cX5_enter 164 = .ok (.getfield 11, 3) := by decide +kernel
theorem dX5_enter_167 : decode cX5_enter 167 = .ok (.iconst 1, 1) := by decide +kernel
theorem dX5_enter_168 : decode cX5_enter 168 = .ok (.iaload, 1) := by decide +kernel
theorem dX5_enter_169 : decode cX5_enter 169 = .ok (.aload_n 0, 1) := by decide +kernel
theorem dX5_enter_170 : decode cX5_enter 170 = .ok (.getfield 11, 3) := by decide +kernel
theorem dX5_enter_173 : decode cX5_enter 173 = .ok (.iconst 2, 1) := by decide +kernel
theorem dX5_enter_174 : decode cX5_enter 174 = .ok (.iaload, 1) := by decide +kernel
theorem dX5_enter_175 : decode cX5_enter 175 = .ok (.invokevirtual 80, 3) := by decide +kernel
theorem dX5_enter_178 : decode cX5_enter 178 = .ok (.ireturn, 1) := by decide +kernel
theorem dX5_enter_179 : decode cX5_enter 179 = .ok (.aload_n 2, 1) := by decide +kernel
theorem dX5_enter_180 : decode cX5_enter 180 = .ok (.aload_n 0, 1) := by decide +kernel
theorem dX5_enter_181 : decode cX5_enter 181 = .ok (.getfield 11, 3) := by decide +kernel
theorem dX5_enter_184 : decode cX5_enter 184 = .ok (.iconst 0, 1) := by decide +kernel
theorem dX5_enter_185 : decode cX5_enter 185 = .ok (.iaload, 1) := by decide +kernel
theorem dX5_enter_186 : decode cX5_enter 186 = .ok (.aload_n 0, 1) := by decide +kernel
theorem dX5_enter_187 : decode cX5_enter 187 = .ok (.getfield 11, 3) := by decide +kernel
theorem dX5_enter_190 : decode cX5_enter 190 = .ok (.iconst 1, 1) := by decide +kernel
theorem dX5_enter_191 : decode cX5_enter 191 = .ok (.iaload, 1) := by decide +kernel
theorem dX5_enter_192 : decode cX5_enter 192 = .ok (.aload_n 0, 1) := by decide +kernel
theorem dX5_enter_193 : decode cX5_enter 193 = .ok (.getfield 11, 3) := by decide +kernel
theorem dX5_enter_196 : decode cX5_enter 196 = .ok (.iconst 2, 1) := by decide +kernel
theorem dX5_enter_197 : decode cX5_enter 197 = .ok (.iaload, 1) := by decide +kernel
theorem dX5_enter_198 : decode cX5_enter 198 = .ok (.invokevirtual 84, 3) := by decide +kernel
theorem dX5_enter_201 : decode cX5_enter 201 = .ok (.ireturn, 1) := by decide +kernel
theorem dX5_enter_202 : decode cX5_enter 202 = .ok (.iconst 0, 1) := by decide +kernel
theorem dX5_enter_203 : decode cX5_enter 203 = .ok (.ireturn, 1) := by decide +kernel
theorem dX6_init_0 : decode cX6_init 0 = .ok (.aload_n 0, 1) := by decide +kernel
theorem dX6_init_1 : decode cX6_init 1 = .ok (.invokespecial 3, 3) := by decide +kernel
theorem dX6_init_4 : decode cX6_init 4 = .ok (.aload_n 0, 1) := by decide +kernel
theorem dX6_init_5 : decode cX6_init 5 = .ok (.iconst 0, 1) := by decide +kernel
theorem dX6_init_6 : decode cX6_init 6 = .ok (.putfield 9, 3) := by decide +kernel
theorem dX6_init_9 : decode cX6_init 9 = .ok (.aload_n 0, 1) := by decide +kernel
theorem dX6_init_10 : decode cX6_init 10 = .ok (.bipush 6, 2) := by decide +kernel
theorem dX6_init_12 : decode cX6_init 12 = .ok (.newarray .int, 2) := by decide +kernel
theorem dX6_init_14 : decode cX6_init 14 = .ok (.putfield 15, 3) := by decide +kernel
theorem dX6_init_17 : decode cX6_init 17 = .ok (.aload_n 0, 1) := by decide +kernel
theorem dX6_init_18 : decode cX6_init 18 = .ok (.bipush 6, 2) := by decide +kernel
theorem dX6_init_20 : decode cX6_init 20 = .ok (.newarray .int, 2) := by decide +kernel
theorem dX6_init_22 : decode cX6_init 22 = .ok (.putfield 19, 3) := by decide +kernel
theorem dX6_init_25 : decode cX6_init 25 = .ok (.aload_n 0, 1) := by decide +kernel
theorem dX6_init_26 : decode cX6_init 26 = .ok (.iconst 0, 1) := by decide +kernel
theorem dX6_init_27 : decode cX6_init 27 = .ok (.putfield 22, 3) := by decide +kernel
theorem dX6_init_30 : decode cX6_init 30 = .ok (.aload_n 0, 1) := by decide +kernel
theorem dX6_init_31 : decode cX6_init 31 = .ok (.iconst 4, 1) := by decide +kernel
theorem dX6_init_32 : decode cX6_init 32 = .ok (.newarray .int, 2) := by decide +kernel
theorem dX6_init_34 : decode cX6_init 34 = .ok (.putfield 25, 3) := by decide +kernel
theorem dX6_init_37 : decode cX6_init 37 = .ok (.return_, 1) := by decide +kernel
theorem dX6_clear_0 : decode cX6_clear 0 = .ok (.aload_n 0, 1) := by decide +kernel
theorem dX6_clear_1 : decode cX6_clear 1 = .ok (.iconst 0, 1) := by decide +kernel
theorem dX6_clear_2 : decode cX6_clear 2 = .ok (.putfield 9, 3) := by decide +kernel
theorem dX6_clear_5 : decode cX6_clear 5 = .ok (.aload_n 0, 1) := by decide +kernel
theorem dX6_clear_6 : decode cX6_clear 6 = .ok (.iconst 0, 1) := by decide +kernel
theorem dX6_clear_7 : decode cX6_clear 7 = .ok (.putfield 22, 3) := by decide +kernel
theorem dX6_clear_10 : decode cX6_clear 10 = .ok (.return_, 1) := by decide +kernel
theorem dX6_addSign_0 : decode cX6_addSign 0 = .ok (.aload_n 0, 1) := by decide +kernel
theorem dX6_addSign_1 : decode cX6_addSign 1 = .ok (.getfield 9, 3) := by decide +kernel
theorem dX6_addSign_4 : decode cX6_addSign 4 = .ok (.bipush 6, 2) := by decide +kernel
theorem dX6_addSign_6 : decode cX6_addSign 6 = .ok (.if_icmp .lt 5, 3) := by decide +kernel
theorem dX6_addSign_9 : decode cX6_addSign 9 = .ok (.iconst 0, 1) := by decide +kernel
theorem dX6_addSign_10 : decode cX6_addSign 10 = .ok (.ireturn, 1) := by decide +kernel
theorem dX6_addSign_11 : decode cX6_addSign 11 = .ok (.aload_n 0, 1) := by decide +kernel
theorem dX6_addSign_12 : decode cX6_addSign 12 = .ok (.getfield 15, 3) := by decide +kernel
theorem dX6_addSign_15 : decode cX6_addSign 15 = .ok (.aload_n 0, 1) := by decide +kernel
theorem dX6_addSign_16 : decode cX6_addSign 16 = .ok (.getfield 9, 3) := by decide +kernel
theorem dX6_addSign_19 : decode cX6_addSign 19 = .ok (.iload_n 1, 1) := by decide +kernel
theorem dX6_addSign_20 : decode cX6_addSign 20 = .ok (.iastore, 1) := by decide +kernel
theorem dX6_addSign_21 : decode cX6_addSign 21 = .ok (.aload_n 0, 1) := by decide +kernel
theorem dX6_addSign_22 : decode cX6_addSign 22 = .ok (.getfield 19, 3) := by decide +kernel
theorem dX6_addSign_25 : decode cX6_addSign 25 = .ok (.aload_n 0, 1) := by decide +kernel
theorem dX6_addSign_26 : decode cX6_addSign 26 = .ok (.getfield 9, 3) := by decide +kernel
theorem dX6_addSign_29 : decode cX6_addSign 29 = .ok (.iload_n 2, 1) := by decide +kernel
theorem dX6_addSign_30 : decode cX6_addSign 30 = .ok (.iastore, 1) := by decide +kernel
theorem dX6_addSign_31 : decode cX6_addSign 31 = .ok (.aload_n 0, 1) := by decide +kernel
theorem dX6_addSign_32 : decode cX6_addSign 32 = .ok (.dup, 1) := by decide +kernel
theorem dX6_addSign_33 : decode cX6_addSign 33 = .ok (.getfield 9, 3) := by decide +kernel
theorem dX6_addSign_36 : decode cX6_addSign 36 = .ok (.iconst 1, 1) := by decide +kernel
theorem dX6_addSign_37 : decode cX6_addSign 37 = .ok (.iadd, 1) := by decide +kernel
theorem dX6_addSign_38 : decode cX6_addSign 38 = .ok (.putfield 9, 3) := by decide +kernel
theorem dX6_addSign_41 : decode cX6_addSign 41 = .ok (.iconst 1, 1) := by decide +kernel
theorem dX6_addSign_42 : decode cX6_addSign 42 = .ok (.ireturn, 1) := by decide +kernel
theorem dX6_addWord_0 : decode cX6_addWord 0 = .ok (.aload_n 0, 1) := by decide +kernel
theorem dX6_addWord_1 : decode cX6_addWord 1 = .ok (.getfield 22, 3) := by decide +kernel
theorem dX6_addWord_4 : decode cX6_addWord 4 = .ok (.iconst 4, 1) := by decide +kernel
theorem dX6_addWord_5 : decode cX6_addWord 5 = .ok (.if_icmp .lt 5, 3) := by decide +kernel
theorem dX6_addWord_8 : decode cX6_addWord 8 = .ok (.iconst 0, 1) := by decide +kernel
theorem dX6_addWord_9 : decode cX6_addWord 9 = .ok (.ireturn, 1) := by decide +kernel
theorem dX6_addWord_10 : decode cX6_addWord 10 = .ok (.aload_n 0, 1) := by decide +kernel
theorem dX6_addWord_11 : decode cX6_addWord 11 = .ok (.getfield 25, 3) := by decide +kernel
theorem dX6_addWord_14 : decode cX6_addWord 14 = .ok (.aload_n 0, 1) := by decide +kernel
theorem dX6_addWord_15 : decode cX6_addWord 15 = .ok (.getfield 22, 3) := by decide +kernel
theorem dX6_addWord_18 : decode cX6_addWord 18 = .ok (.iload_n 1, 1) := by decide +kernel
theorem dX6_addWord_19 : decode cX6_addWord 19 = .ok (.iastore, 1) := by decide +kernel
theorem dX6_addWord_20 : decode cX6_addWord 20 = .ok (.aload_n 0, 1) := by decide +kernel
theorem dX6_addWord_21 : decode cX6_addWord 21 = .ok (.dup, 1) := by decide +kernel
theorem dX6_addWord_22 : decode cX6_addWord 22 = .ok (.getfield 22, 3) := by decide +kernel
theorem dX6_addWord_25 : decode cX6_addWord 25 = .ok (.iconst 1, 1) := by decide +kernel
theorem dX6_addWord_26 : decode cX6_addWord 26 = .ok (.iadd, 1) := by decide +kernel
theorem dX6_addWord_27 : decode cX6_addWord 27 = .ok (.putfield 22, 3) := by decide +kernel
theorem dX6_addWord_30 : decode cX6_addWord 30 = .ok (.iconst 1, 1) := by decide +kernel
theorem dX6_addWord_31 : decode cX6_addWord 31 = .ok (.ireturn, 1) := by decide +kernel
theorem dX6_copyFrom_0 : decode cX6_copyFrom 0 = .ok (.aload_n 0, 1) := by decide +kernel
theorem dX6_copyFrom_1 : decode cX6_copyFrom 1 = .ok (.aload_n 1, 1) := by decide +kernel
theorem dX6_copyFrom_2 : decode cX6_copyFrom 2 = .ok (.getfield 9, 3) := by decide +kernel
theorem dX6_copyFrom_5 : decode cX6_copyFrom 5 = .ok (.putfield 9, 3) := by decide +kernel
theorem dX6_copyFrom_8 : decode cX6_copyFrom 8 = .ok (.aload_n 0, 1) := by decide +kernel
theorem dX6_copyFrom_9 : decode cX6_copyFrom 9 = .ok (.aload_n 1, 1) := by decide +kernel
theorem dX6_copyFrom_10 : decode cX6_copyFrom 10 = .ok (.getfield 22, 3) := by decide +kernel
theorem dX6_copyFrom_13 : decode cX6_copyFrom 13 = .ok (.putfield 22, 3) := by decide +kernel
theorem dX6_copyFrom_16 : decode cX6_copyFrom 16 = .ok (.aload_n 1, 1) := by decide +kernel
theorem dX6_copyFrom_17 : decode cX6_copyFrom 17 = .ok (.getfield 15, 3) := by decide +kernel
theorem dX6_copyFrom_20 : decode cX6_copyFrom 20 = .ok (.iconst 0, 1) := by decide +kernel
theorem dX6_copyFrom_21 : decode cX6_copyFrom 21 = .ok (.aload_n 0, 1) := by decide +kernel
theorem dX6_copyFrom_22 : decode cX6_copyFrom 22 = .ok (.getfield 15, 3) := by decide +kernel
theorem dX6_copyFrom_25 : decode cX6_copyFrom 25 = .ok (.iconst 0, 1) := by decide +kernel
theorem dX6_copyFrom_26 : decode cX6_copyFrom 26 = .ok (.bipush 6, 2) := by decide +kernel
theorem dX6_copyFrom_28 : decode cX6_copyFrom 28 = .ok (.invokestatic 28, 3) := by decide +kernel
theorem dX6_copyFrom_31 : decode cX6_copyFrom 31 = .ok (.aload_n 1, 1) := by decide +kernel
theorem dX6_copyFrom_32 : decode cX6_copyFrom 32 = .ok (.getfield 19, 3) := by decide +kernel
theorem dX6_copyFrom_35 : decode cX6_copyFrom 35 = .ok (.iconst 0, 1) := by decide +kernel
theorem dX6_copyFrom_36 : decode cX6_copyFrom 36 = .ok (.aload_n 0, 1) := by decide +kernel
theorem dX6_copyFrom_37 : decode cX6_copyFrom 37 = .ok (.getfield 19, 3) := by decide +kernel
theorem dX6_copyFrom_40 : decode cX6_copyFrom 40 = .ok (.iconst 0, 1) := by decide +kernel
theorem dX6_copyFrom_41 : decode cX6_copyFrom 41 = .ok (.bipush 6, 2) := by decide +kernel
theorem dX6_copyFrom_43 : decode cX6_copyFrom 43 = .ok (.invokestatic 28, 3) := by decide +kernel
theorem dX6_copyFrom_46 : decode cX6_copyFrom 46 = .ok (.aload_n 1, 1) := by decide +kernel
theorem dX6_copyFrom_47 : decode cX6_copyFrom 47 = .ok (.getfield 25, 3) := by decide +kernel
theorem dX6_copyFrom_50 : decode cX6_copyFrom 50 = .ok (.iconst 0, 1) := by decide +kernel
theorem dX6_copyFrom_51 : decode cX6_copyFrom 51 = .ok (.aload_n 0, 1) := by decide +kernel
theorem dX6_copyFrom_52 : decode cX6_copyFrom 52 = .ok (.getfield 25, 3) := by decide +kernel
theorem dX6_copyFrom_55 : decode cX6_copyFrom 55 = .ok (.iconst 0, 1) := by decide +kernel
theorem dX6_copyFrom_56 : decode cX6_copyFrom 56 = .ok (.iconst 4, 1) := by decide +kernel
theorem dX6_copyFrom_57 : decode cX6_copyFrom 57 = .ok (.invokestatic 28, 3) := by decide +kernel
theorem dX6_copyFrom_60 : decode cX6_copyFrom 60 = .ok (.return_, 1) := by decide +kernel
theorem dX7_init_0 : decode cX7_init 0 = .ok (.aload_n 0, 1) := by decide +kernel
theorem dX7_init_1 : decode cX7_init 1 = .ok (.invokespecial 1, 3) := by decide +kernel
theorem dX7_init_4 : decode cX7_init 4 = .ok (.aload_n 0, 1) := by decide +kernel
theorem dX7_init_5 : decode cX7_init 5 = .ok (.sipush 400, 3) := by decide +kernel
theorem dX7_init_8 : decode cX7_init 8 = .ok (.newarray .byte, 2) := by decide +kernel
theorem dX7_init_10 : decode cX7_init 10 = .ok (.putfield 9, 3) := by decide +kernel
theorem dX7_init_13 : decode cX7_init 13 = .ok (.aload_n 0, 1) := by decide +kernel
theorem dX7_init_14 : decode cX7_init 14 = .ok (.iconst 0, 1) := by decide +kernel
theorem dX7_init_15 : decode cX7_init 15 = .ok (.putfield 13, 3) := by decide +kernel
theorem dX7_init_18 : decode cX7_init 18 = .ok (.aload_n 0, 1) := by decide +kernel
theorem dX7_init_19 : decode cX7_init 19 = .ok (.new 17, 3) := by decide +kernel
theorem dX7_init_22 : decode cX7_init 22 = .ok (.dup, 1) := by decide +kernel
theorem dX7_init_23 : decode cX7_init 23 = .ok (.invokespecial 19, 3) := by decide +kernel
theorem dX7_init_26 : decode cX7_init 26 = .ok (.putfield 20, 3) := by decide +kernel
theorem dX7_init_29 : decode cX7_init 29 = .ok (.aload_n 0, 1) := by decide +kernel
theorem dX7_init_30 : decode cX7_init 30 = .ok (.new 24, 3) := by decide +kernel
theorem dX7_init_33 : decode cX7_init 33 = .ok (.dup, 1) := by decide +kernel
theorem dX7_init_34 : decode cX7_init 34 = .ok (.invokespecial 26, 3) := by decide +kernel
theorem dX7_init_37 : decode cX7_init 37 = .ok (.putfield 27, 3) := by decide +kernel
theorem dX7_init_40 : decode cX7_init 40 = .ok (.aload_n 0, 1) := by decide +kernel
theorem dX7_init_41 : decode cX7_init 41 = .ok (.new 24, 3) := by decide +kernel
theorem dX7_init_44 : decode cX7_init 44 = .ok (.dup, 1) := by decide +kernel
theorem dX7_init_45 : decode cX7_init 45 = .ok (.invokespecial 26, 3) := by decide +kernel
theorem dX7_init_48 : decode cX7_init 48 = .ok (.putfield 31, 3) := by decide +kernel
theorem dX7_init_51 : decode cX7_init 51 = .ok (.aload_n 0, 1) := by decide +kernel
theorem dX7_init_52 : decode cX7_init 52 = .ok (.new 34, 3) := by decide +kernel
theorem dX7_init_55 : decode cX7_init 55 = .ok (.dup, 1) := by decide +kernel
theorem dX7_init_56 : decode cX7_init 56 = .ok (.invokespecial 36, 3) := by decide +kernel
theorem dX7_init_59 : decode cX7_init 59 = .ok (.putfield 37, 3) := by decide +kernel
theorem dX7_init_62 : decode cX7_init 62 = .ok (.aload_n 0, 1) := by decide +kernel
theorem dX7_init_63 : decode cX7_init 63 = .ok (.new 41, 3) := by decide +kernel
theorem dX7_init_66 : decode cX7_init 66 = .ok (.dup, 1) := by decide +kernel
theorem dX7_init_67 : decode cX7_init 67 = .ok (.invokespecial 43, 3) := by decide +kernel
theorem dX7_init_70 : decode cX7_init 70 = .ok (.putfield 44, 3) := by decide +kernel
theorem dX7_init_73 : decode cX7_init 73 = .ok (.aload_n 0, 1) := by decide +kernel
theorem dX7_init_74 : decode cX7_init 74 = .ok (.new 48, 3) := by decide +kernel
theorem dX7_init_77 : decode cX7_init 77 = .ok (.dup, 1) := by decide +kernel
theorem dX7_init_78 : decode cX7_init 78 = .ok (.invokespecial 50, 3) := by decide +kernel
theorem dX7_init_81 : decode cX7_init 81 = .ok (.putfield 51, 3) := by decide +kernel
theorem dX7_init_84 : decode cX7_init 84 = .ok (.aload_n 0, 1) := by decide +kernel
theorem dX7_init_85 : decode cX7_init 85 = .ok (.new 55, 3) := by decide +kernel
theorem dX7_init_88 : decode cX7_init 88 = .ok (.dup, 1) := by decide +kernel
theorem dX7_init_89 : decode cX7_init 89 = .ok (.invokespecial 57, 3) := by decide +kernel
theorem dX7_init_92 : decode cX7_init 92 = .ok (.putfield 58, 3) := by decide +kernel
theorem dX7_init_95 : decode cX7_init 95 = .ok (.aload_n 0, 1) := by decide +kernel
theorem dX7_init_96 : decode cX7_init 96 = .ok (.getfield 27, 3) := by decide +kernel
theorem dX7_init_99 : decode cX7_init 99 = .ok (.iconst 0, 1) := by decide +kernel
theorem dX7_init_100 : decode cX7_init 100 = .ok (.sipush 200, 3) := by decide +kernel
theorem dX7_init_103 : decode cX7_init 103 = .ok (.bipush 30, 2) := by decide +kernel
theorem dX7_init_105 : decode cX7_init 105 = .ok (.iconst 0, 1) := by decide +kernel
theorem dX7_init_106 : decode cX7_init 106 = .ok (.invokevirtual 62, 3) := by decide +kernel
theorem dX7_init_109 : decode cX7_init 109 = .ok (.pop, 1) := by decide +kernel
theorem dX7_init_110 : decode cX7_init 110 = .ok (.aload_n 0, 1) := by decide +kernel
theorem dX7_init_111 : decode cX7_init 111 = .ok (.getfield 27, 3) := by decide +kernel
theorem dX7_init_114 : decode cX7_init 114 = .ok (.iconst 1, 1) := by decide +kernel
theorem dX7_init_115 : decode cX7_init 115 = .ok (.sipush 210, 3) := by decide +kernel
theorem dX7_init_118 : decode cX7_init 118 = .ok (.bipush 40, 2) := by decide +kernel
theorem dX7_init_120 : decode cX7_init 120 = .ok (.iconst 0, 1) := by decide +kernel
theorem dX7_init_121 : decode cX7_init 121 = .ok (.invokevirtual 62, 3) := by decide +kernel
theorem dX7_init_124 : decode cX7_init 124 = .ok (.pop, 1) := by decide +kernel
theorem dX7_init_125 : decode cX7_init 125 = .ok (.aload_n 0, 1) := by decide +kernel
theorem dX7_init_126 : decode cX7_init 126 = .ok (.getfield 51, 3) := by decide +kernel
theorem dX7_init_129 : decode cX7_init 129 = .ok (.aload_n 0, 1) := by decide +kernel
theorem dX7_init_130 : decode cX7_init 130 = .ok (.getfield 27, 3) := by decide +kernel
theorem dX7_init_133 : decode cX7_init 133 = .ok (.invokevirtual 66, 3) := by decide +kernel
theorem dX7_init_136 : decode cX7_init 136 = .ok (.return_, 1) := by decide +kernel
theorem dX7_write_0 : decode cX7_write 0 = .ok (.iload_n 1, 1) := by decide +kernel
theorem dX7_write_1 : decode cX7_write 1 = .ok (.iconst 1, 1) := by decide +kernel
theorem dX7_write_2 : decode cX7_write 2 = .ok (.bipush 8, 2) := by decide +kernel
theorem dX7_write_4 : decode cX7_write 4 = .ok (.invokestatic 70, 3) := by decide +kernel
theorem dX7_write_7 : decode cX7_write 7 = .ok (.ifCond .ne 5, 3) := by decide +kernel
theorem dX7_write_10 : decode cX7_write 10 = .ok (.iconst (-1), 1) := by decide +kernel
theorem dX7_write_11 : decode cX7_write 11 = .ok (.ireturn, 1) := by decide +kernel
theorem dX7_write_12 : decode cX7_write 12 = .ok (.aload_n 0, 1) := by decide +kernel
theorem dX7_write_13 : decode cX7_write 13 = .ok (.getfield 13, 3) := by decide +kernel
theorem dX7_write_16 : decode cX7_write 16 = .ok (.iload_n 1, 1) := by decide +kernel
theorem dX7_write_17 : decode cX7_write 17 = .ok (.iadd, 1) := by decide +kernel
theorem dX7_write_18 : decode cX7_write 18 = .ok (.sipush 400, 3) := by decide +kernel
theorem dX7_write_21 : decode cX7_write 21 = .ok (.if_icmp .le 6, 3) := by decide +kernel
theorem dX7_write_24 : decode cX7_write 24 = .ok (.bipush (-3), 2) := by decide +kernel
theorem dX7_write_26 : decode cX7_write 26 = .ok (.ireturn, 1) := by decide +kernel
theorem dX7_write_27 : decode cX7_write 27 = .ok (.iload_n 1, 1) := by decide +kernel
theorem dX7_write_28 : decode cX7_write 28 = .ok (.iconst 1, 1) := by decide +kernel
theorem dX7_write_29 : decode cX7_write 29 = .ok (.isub, 1) := by decide +kernel
theorem dX7_write_30 : decode cX7_write 30 = .ok (.istore 4, 2) := by decide +kernel
theorem dX7_write_32 : decode cX7_write 32 = .ok (.iload 4, 2) := by decide +kernel
theorem dX7_write_34 : decode cX7_write 34 = .ok (.ifCond .lt 37, 3) := by decide +kernel
theorem dX7_write_37 : decode cX7_write 37 = .ok (.aload_n 0, 1) := by decide +kernel
theorem dX7_write_38 : decode cX7_write 38 = .ok (.getfield 9, 3) := by decide +kernel
theorem dX7_write_41 : decode cX7_write 41 = .ok (.aload_n 0, 1) := by decide +kernel
theorem dX7_write_42 : decode cX7_write 42 = .ok (.getfield 13, 3) := by decide +kernel
theorem dX7_write_45 : decode cX7_write 45 = .ok (.lload_n 2, 1) := by decide +kernel
theorem dX7_write_46 : decode cX7_write 46 = .ok (.bipush 8, 2) := by decide +kernel
theorem dX7_write_48 : decode cX7_write 48 = .ok (.iload 4, 2) := by decide +kernel
theorem dX7_write_50 : decode cX7_write 50 = .ok (.imul, 1) := by decide +kernel
theorem dX7_write_51 : decode cX7_write 51 = .ok (.lshr, 1) := by decide +kernel
theorem dX7_write_52 : decode cX7_write 52 = .ok (.l2i, 1) := by decide +kernel
theorem dX7_write_53 : decode cX7_write 53 = .ok (.i2b, 1) := by decide +kernel
theorem dX7_write_54 : decode cX7_write 54 = .ok (.bastore, 1) := by decide +kernel
theorem dX7_write_55 : decode cX7_write 55 = .ok (.aload_n 0, 1) := by decide +kernel
theorem dX7_write_56 : decode cX7_write 56 = .ok (.dup, 1) := by decide +kernel
theorem dX7_write_57 : decode cX7_write 57 = .ok (.getfield 13, 3) := by decide +kernel
theorem dX7_write_60 : decode cX7_write 60 = .ok (.iconst 1, 1) := by decide +kernel
theorem dX7_write_61 : decode cX7_write 61 = .ok (.iadd, 1) := by decide +kernel
theorem dX7_write_62 : decode cX7_write 62 = .ok (.putfield 13, 3) := by decide +kernel
theorem dX7_write_65 : decode cX7_write 65 = .ok (.iinc 4 (-1), 3) := by decide +kernel
theorem dX7_write_68 : decode cX7_write 68 = .ok (.goto (-36), 3) := by decide +kernel
theorem dX7_write_71 : decode cX7_write 71 = .ok (.aload_n 0, 1) := by decide +kernel
theorem dX7_write_72 : decode cX7_write 72 = .ok (.getfield 13, 3) := by decide +kernel
theorem dX7_write_75 : decode cX7_write 75 = .ok (.ireturn, 1) := by decide +kernel
theorem dX7_wipe_0 : decode cX7_wipe 0 = .ok (.aload_n 0, 1) := by decide +kernel
theorem dX7_wipe_1 : decode cX7_wipe 1 = .ok (.getfield 13, 3) := by decide +kernel
theorem dX7_wipe_4 : decode cX7_wipe 4 = .ok (.istore_n 1, 1) := by decide +kernel
theorem dX7_wipe_5 : decode cX7_wipe 5 = .ok (.aload_n 0, 1) := by decide +kernel
theorem dX7_wipe_6 : decode cX7_wipe 6 = .ok (.iconst 0, 1) := by decide +kernel
theorem dX7_wipe_7 : decode cX7_wipe 7 = .ok (.putfield 13, 3) := by decide +kernel
theorem dX7_wipe_10 : decode cX7_wipe 10 = .ok (.iload_n 1, 1) := by decide +kernel
theorem dX7_wipe_11 : decode cX7_wipe 11 = .ok (.ireturn, 1) := by decide +kernel
theorem dX7_fault_0 : decode cX7_fault 0 = .ok (.aload_n 0, 1) := by decide +kernel
theorem dX7_fault_1 : decode cX7_fault 1 = .ok (.getfield 20, 3) := by decide +kernel
theorem dX7_fault_4 : decode cX7_fault 4 = .ok (.aload_n 0, 1) := by decide +kernel
theorem dX7_fault_5 : decode cX7_fault 5 = .ok (.getfield 9, 3) := by decide +kernel
theorem dX7_fault_8 : decode cX7_fault 8 = .ok (.aload_n 0, 1) := by decide +kernel
theorem dX7_fault_9 : decode cX7_fault 9 = .ok (.getfield 13, 3) := by decide +kernel
theorem dX7_fault_12 : decode cX7_fault 12 = .ok (.aload_n 0, 1) := by decide +kernel
theorem dX7_fault_13 : decode cX7_fault 13 = .ok (.getfield 31, 3) := by decide +kernel
theorem dX7_fault_16 : decode cX7_fault 16 = .ok (.invokevirtual 74, 3) := by decide +kernel
theorem dX7_fault_19 : decode cX7_fault 19 = .ok (.ireturn, 1) := by decide +kernel
theorem dX7_lay_0 : decode cX7_lay 0 = .ok (.aload_n 0, 1) := by decide +kernel
theorem dX7_lay_1 : decode cX7_lay 1 = .ok (.getfield 20, 3) := by decide +kernel
theorem dX7_lay_4 : decode cX7_lay 4 = .ok (.aload_n 0, 1) := by decide +kernel
theorem dX7_lay_5 : decode cX7_lay 5 = .ok (.getfield 9, 3) := by decide +kernel
theorem dX7_lay_8 : decode cX7_lay 8 = .ok (.aload_n 0, 1) := by decide +kernel
theorem dX7_lay_9 : decode cX7_lay 9 = .ok (.getfield 13, 3) := by decide +kernel
theorem dX7_lay_12 : decode cX7_lay 12 = .ok (.aload_n 0, 1) := by decide +kernel
theorem dX7_lay_13 : decode cX7_lay 13 = .ok (.getfield 31, 3) := by decide +kernel
theorem dX7_lay_16 : decode cX7_lay 16 = .ok (.invokevirtual 74, 3) := by decide +kernel
theorem dX7_lay_19 : decode cX7_lay 19 = .ok (.bipush (-4), 2) := by decide +kernel
theorem dX7_lay_21 : decode cX7_lay 21 = .ok (.if_icmp .ne 13, 3) := by decide +kernel
theorem dX7_lay_24 : decode cX7_lay 24 = .ok (.aload_n 0, 1) := by decide +kernel
theorem dX7_lay_25 : decode cX7_lay 25 = .ok (.getfield 31, 3) := by decide +kernel
theorem dX7_lay_28 : decode cX7_lay 28 = .ok (.getfield 78, 3) := by decide +kernel
theorem dX7_lay_31 : decode cX7_lay 31 = .ok (.ifCond .ne 6, 3) := by decide +kernel
theorem dX7_lay_34 : decode cX7_lay 34 = .ok (.bipush (-2), 2) := by decide +kernel
theorem dX7_lay_36 : decode cX7_lay 36 = .ok (.ireturn, 1) := by decide +kernel
theorem dX7_lay_37 : decode cX7_lay 37 = .ok (.aload_n 0, 1) := by decide +kernel
theorem dX7_lay_38 : decode cX7_lay 38 = .ok (.getfield 27, 3) := by decide +kernel
theorem dX7_lay_41 : decode cX7_lay 41 = .ok (.astore_n 1, 1) := by decide +kernel
theorem dX7_lay_42 : decode cX7_lay 42 = .ok (.aload_n 0, 1) := by decide +kernel
theorem dX7_lay_43 : decode cX7_lay 43 = .ok (.aload_n 0, 1) := by decide +kernel
theorem dX7_lay_44 : decode cX7_lay 44 = .ok (.getfield 31, 3) := by decide +kernel
theorem dX7_lay_47 : decode cX7_lay 47 = .ok (.putfield 27, 3) := by decide +kernel
theorem dX7_lay_50 : decode cX7_lay 50 = .ok (.aload_n 0, 1) := by decide +kernel
theorem dX7_lay_51 : decode cX7_lay 51 = .ok (.aload_n 1, 1) := by decide +kernel
theorem dX7_lay_52 : decode cX7_lay 52 = .ok (.putfield 31, 3) := by decide +kernel
theorem dX7_lay_55 : decode cX7_lay 55 = .ok (.aload_n 0, 1) := by decide +kernel
theorem dX7_lay_56 : decode cX7_lay 56 = .ok (.getfield 58, 3) := by decide +kernel
theorem dX7_lay_59 : decode cX7_lay 59 = .ok (.invokevirtual 81, 3) := by decide +kernel
theorem dX7_lay_62 : decode cX7_lay 62 = .ok (.aload_n 0, 1) := by decide +kernel
theorem dX7_lay_63 : decode cX7_lay 63 = .ok (.getfield 44, 3) := by decide +kernel
theorem dX7_lay_66 : decode cX7_lay 66 = .ok (.iconst 0, 1) := by decide +kernel
theorem dX7_lay_67 : decode cX7_lay 67 = .ok (.putfield 84, 3) := by decide +kernel
theorem dX7_lay_70 : decode cX7_lay 70 = .ok (.aload_n 0, 1) := by decide +kernel
theorem dX7_lay_71 : decode cX7_lay 71 = .ok (.getfield 51, 3) := by decide +kernel
theorem dX7_lay_74 : decode cX7_lay 74 = .ok (.aload_n 0, 1) := by decide +kernel
theorem dX7_lay_75 : decode cX7_lay 75 = .ok (.getfield 27, 3) := by decide +kernel
theorem dX7_lay_78 : decode cX7_lay 78 = .ok (.invokevirtual 66, 3) := by decide +kernel
theorem dX7_lay_81 : decode cX7_lay 81 = .ok (.aload_n 0, 1) := by decide +kernel
theorem dX7_lay_82 : decode cX7_lay 82 = .ok (.getfield 27, 3) := by decide +kernel
theorem dX7_lay_85 : decode cX7_lay 85 = .ok (.getfield 78, 3) := by decide +kernel
theorem dX7_lay_88 : decode cX7_lay 88 = .ok (.ireturn, 1) := by decide +kernel
theorem dX7_guest_0 : decode cX7_guest 0 = .ok (.aload_n 0, 1) := by decide +kernel
theorem dX7_guest_1 : decode cX7_guest 1 = .ok (.iload_n 1, 1) := by decide +kernel
theorem dX7_guest_2 : decode cX7_guest 2 = .ok (.invokevirtual 88, 3) := by decide +kernel
theorem dX7_guest_5 : decode cX7_guest 5 = .ok (.ifCond .ne 5, 3) := by decide +kernel
theorem dX7_guest_8 : decode cX7_guest 8 = .ok (.iconst (-1), 1) := by decide +kernel
theorem dX7_guest_9 : decode cX7_guest 9 = .ok (.ireturn, 1) := by decide +kernel
theorem dX7_guest_10 : decode cX7_guest 10 = .ok (.iload_n 2, 1) := by decide +kernel
theorem dX7_guest_11 : decode cX7_guest 11 = .ok (.tableswitch 69 0 3 #[29, 39, 49, 59], 29) := by decide +kernel
theorem dX7_guest_40 : decode cX7_guest 40 = .ok (.aload_n 0, 1) := by decide +kernel
theorem dX7_guest_41 : decode cX7_guest 41 = .ok (.getfield 27, 3) := by decide +kernel
theorem dX7_guest_44 : decode cX7_guest 44 = .ok (.getfield 92, 3) := by decide +kernel
theorem dX7_guest_47 : decode cX7_guest 47 = .ok (.iload_n 1, 1) := by decide +kernel
theorem dX7_guest_48 : decode cX7_guest 48 = .ok (.iaload, 1) := by decide +kernel
theorem dX7_guest_49 : decode cX7_guest 49 = .ok (.ireturn, 1) := by decide +kernel
theorem dX7_guest_50 : decode cX7_guest 50 = .ok (.aload_n 0, 1) := by decide +kernel
theorem dX7_guest_51 : decode cX7_guest 51 = .ok (.getfield 27, 3) := by decide +kernel
theorem dX7_guest_54 : decode cX7_guest 54 = .ok (.getfield 96, 3) := by decide +kernel
theorem dX7_guest_57 : decode cX7_guest 57 = .ok (.iload_n 1, 1) := by decide +kernel
theorem dX7_guest_58 : decode cX7_guest 58 = .ok (.iaload, 1) := by decide +kernel
theorem dX7_guest_59 : decode cX7_guest 59 = .ok (.ireturn, 1) := by decide +kernel
theorem dX7_guest_60 : decode cX7_guest 60 = .ok (.aload_n 0, 1) := by decide +kernel
theorem dX7_guest_61 : decode cX7_guest 61 = .ok (.getfield 27, 3) := by decide +kernel
theorem dX7_guest_64 : decode cX7_guest 64 = .ok (.getfield 99, 3) := by decide +kernel
theorem dX7_guest_67 : decode cX7_guest 67 = .ok (.iload_n 1, 1) := by decide +kernel
theorem dX7_guest_68 : decode cX7_guest 68 = .ok (.iaload, 1) := by decide +kernel
theorem dX7_guest_69 : decode cX7_guest 69 = .ok (.ireturn, 1) := by decide +kernel
theorem dX7_guest_70 : decode cX7_guest 70 = .ok (.aload_n 0, 1) := by decide +kernel
theorem dX7_guest_71 : decode cX7_guest 71 = .ok (.getfield 27, 3) := by decide +kernel
theorem dX7_guest_74 : decode cX7_guest 74 = .ok (.getfield 102, 3) := by decide +kernel
theorem dX7_guest_77 : decode cX7_guest 77 = .ok (.iload_n 1, 1) := by decide +kernel
theorem dX7_guest_78 : decode cX7_guest 78 = .ok (.iaload, 1) := by decide +kernel
theorem dX7_guest_79 : decode cX7_guest 79 = .ok (.ireturn, 1) := by decide +kernel
theorem dX7_guest_80 : decode cX7_guest 80 = .ok (.iconst (-1), 1) := by decide +kernel
theorem dX7_guest_81 : decode cX7_guest 81 = .ok (.ireturn, 1) := by decide +kernel
theorem dX7_shame_0 : decode cX7_shame 0 = .ok (.aload_n 0, 1) := by decide +kernel
theorem dX7_shame_1 : decode cX7_shame 1 = .ok (.iload_n 1, 1) := by decide +kernel
theorem dX7_shame_2 : decode cX7_shame 2 = .ok (.invokevirtual 88, 3) := by decide +kernel
theorem dX7_shame_5 : decode cX7_shame 5 = .ok (.ifCond .eq 14, 3) := by decide +kernel
theorem dX7_shame_8 : decode cX7_shame 8 = .ok (.iload_n 2, 1) := by decide +kernel
theorem dX7_shame_9 : decode cX7_shame 9 = .ok (.iconst 0, 1) := by decide +kernel
theorem dX7_shame_10 : decode cX7_shame 10 = .ok (.sipush 719, 3) := by decide +kernel
theorem dX7_shame_13 : decode cX7_shame 13 = .ok (.invokestatic 70, 3) := by decide +kernel
theorem dX7_shame_16 : decode cX7_shame 16 = .ok (.ifCond .ne 5, 3) := by decide +kernel
theorem dX7_shame_19 : decode cX7_shame 19 = .ok (.iconst (-1), 1) := by decide +kernel
theorem dX7_shame_20 : decode cX7_shame 20 = .ok (.ireturn, 1) := by decide +kernel
theorem dX7_shame_21 : decode cX7_shame 21 = .ok (.aload_n 0, 1) := by decide +kernel
theorem dX7_shame_22 : decode cX7_shame 22 = .ok (.invokevirtual 105, 3) := by decide +kernel
theorem dX7_shame_25 : decode cX7_shame 25 = .ok (.aload_n 0, 1) := by decide +kernel
theorem dX7_shame_26 : decode cX7_shame 26 = .ok (.getfield 37, 3) := by decide +kernel
theorem dX7_shame_29 : decode cX7_shame 29 = .ok (.iload_n 2, 1) := by decide +kernel
theorem dX7_shame_30 : decode cX7_shame 30 = .ok (.invokevirtual 108, 3) := by decide +kernel
theorem dX7_shame_33 : decode cX7_shame 33 = .ok (.aload_n 0, 1) := by decide +kernel
theorem dX7_shame_34 : decode cX7_shame 34 = .ok (.getfield 37, 3) := by decide +kernel
theorem dX7_shame_37 : decode cX7_shame 37 = .ok (.iload_n 1, 1) := by decide +kernel
theorem dX7_shame_38 : decode cX7_shame 38 = .ok (.iload_n 2, 1) := by decide +kernel
theorem dX7_shame_39 : decode cX7_shame 39 = .ok (.invokevirtual 112, 3) := by decide +kernel
theorem dX7_shame_42 : decode cX7_shame 42 = .ok (.ireturn, 1) := by decide +kernel
theorem dX7_presses_0 : decode cX7_presses 0 = .ok (.aload_n 0, 1) := by decide +kernel
theorem dX7_presses_1 : decode cX7_presses 1 = .ok (.iload_n 1, 1) := by decide +kernel
theorem dX7_presses_2 : decode cX7_presses 2 = .ok (.invokevirtual 88, 3) := by decide +kernel
theorem dX7_presses_5 : decode cX7_presses 5 = .ok (.ifCond .eq 14, 3) := by decide +kernel
theorem dX7_presses_8 : decode cX7_presses 8 = .ok (.iload_n 2, 1) := by decide +kernel
theorem dX7_presses_9 : decode cX7_presses 9 = .ok (.iconst 0, 1) := by decide +kernel
theorem dX7_presses_10 : decode cX7_presses 10 = .ok (.sipush 719, 3) := by decide +kernel
theorem dX7_presses_13 : decode cX7_presses 13 = .ok (.invokestatic 70, 3) := by decide +kernel
theorem dX7_presses_16 : decode cX7_presses 16 = .ok (.ifCond .ne 5, 3) := by decide +kernel
theorem dX7_presses_19 : decode cX7_presses 19 = .ok (.iconst (-1), 1) := by decide +kernel
theorem dX7_presses_20 : decode cX7_presses 20 = .ok (.ireturn, 1) := by decide +kernel
theorem dX7_presses_21 : decode cX7_presses 21 = .ok (.aload_n 0, 1) := by decide +kernel
theorem dX7_presses_22 : decode cX7_presses 22 = .ok (.invokevirtual 105, 3) := by decide +kernel
theorem dX7_presses_25 : decode cX7_presses 25 = .ok (.aload_n 0, 1) := by decide +kernel
theorem dX7_presses_26 : decode cX7_presses 26 = .ok (.getfield 37, 3) := by decide +kernel
theorem dX7_presses_29 : decode cX7_presses 29 = .ok (.iload_n 2, 1) := by decide +kernel
theorem dX7_presses_30 : decode cX7_presses 30 = .ok (.invokevirtual 108, 3) := by decide +kernel
theorem dX7_presses_33 : decode cX7_presses 33 = .ok (.iload_n 2, 1) := by decide +kernel
theorem dX7_presses_34 : decode cX7_presses 34 = .ok (.aload_n 0, 1) := by decide +kernel
theorem dX7_presses_35 : decode cX7_presses 35 = .ok (.getfield 37, 3) := by decide +kernel
theorem dX7_presses_38 : decode cX7_presses 38 = .ok (.iload_n 1, 1) := by decide +kernel
theorem dX7_presses_39 : decode cX7_presses 39 = .ok (.iload_n 2, 1) := by decide +kernel
theorem dX7_presses_40 : decode cX7_presses 40 = .ok (.invokevirtual 116, 3) := by decide +kernel
theorem dX7_presses_43 : decode cX7_presses 43 = .ok (.if_icmp .lt 7, 3) := by decide +kernel
theorem dX7_presses_46 : decode cX7_presses 46 = .ok (.iconst 1, 1) := by decide +kernel
theorem dX7_presses_47 : decode cX7_presses 47 = .ok (.goto 4, 3) := by decide +kernel
theorem dX7_presses_50 : decode cX7_presses 50 = .ok (.iconst 0, 1) := by decide +kernel
theorem dX7_presses_51 : decode cX7_presses 51 = .ok (.ireturn, 1) := by decide +kernel
theorem dX7_is_0 : decode cX7_is 0 = .ok (.aload_n 0, 1) := by decide +kernel
theorem dX7_is_1 : decode cX7_is 1 = .ok (.iload_n 1, 1) := by decide +kernel
theorem dX7_is_2 : decode cX7_is 2 = .ok (.invokevirtual 88, 3) := by decide +kernel
theorem dX7_is_5 : decode cX7_is 5 = .ok (.ifCond .eq 14, 3) := by decide +kernel
theorem dX7_is_8 : decode cX7_is 8 = .ok (.iload_n 2, 1) := by decide +kernel
theorem dX7_is_9 : decode cX7_is 9 = .ok (.iconst 0, 1) := by decide +kernel
theorem dX7_is_10 : decode cX7_is 10 = .ok (.sipush 999, 3) := by decide +kernel
theorem dX7_is_13 : decode cX7_is 13 = .ok (.invokestatic 70, 3) := by decide +kernel
theorem dX7_is_16 : decode cX7_is 16 = .ok (.ifCond .ne 5, 3) := by decide +kernel
theorem dX7_is_19 : decode cX7_is 19 = .ok (.iconst (-1), 1) := by decide +kernel
theorem dX7_is_20 : decode cX7_is 20 = .ok (.ireturn, 1) := by decide +kernel
theorem dX7_is_21 : decode cX7_is 21 = .ok (.aload_n 0, 1) := by decide +kernel
theorem dX7_is_22 : decode cX7_is 22 = .ok (.invokevirtual 105, 3) := by decide +kernel
theorem dX7_is_25 : decode cX7_is 25 = .ok (.iload_n 2, 1) := by decide +kernel
theorem dX7_is_26 : decode cX7_is 26 = .ok (.aload_n 0, 1) := by decide +kernel
theorem dX7_is_27 : decode cX7_is 27 = .ok (.getfield 37, 3) := by decide +kernel
theorem dX7_is_30 : decode cX7_is 30 = .ok (.iload_n 1, 1) := by decide +kernel
theorem dX7_is_31 : decode cX7_is 31 = .ok (.invokevirtual 119, 3) := by decide +kernel
theorem dX7_is_34 : decode cX7_is 34 = .ok (.if_icmp .ge 5, 3) := by decide +kernel
theorem dX7_is_37 : decode cX7_is 37 = .ok (.iconst 0, 1) := by decide +kernel
theorem dX7_is_38 : decode cX7_is 38 = .ok (.ireturn, 1) := by decide +kernel
theorem dX7_is_39 : decode cX7_is 39 = .ok (.iload_n 2, 1) := by decide +kernel
theorem dX7_is_40 : decode cX7_is 40 = .ok (.aload_n 0, 1) := by decide +kernel
theorem dX7_is_41 : decode cX7_is 41 = .ok (.getfield 37, 3) := by decide +kernel
theorem dX7_is_44 : decode cX7_is 44 = .ok (.iload_n 1, 1) := by decide +kernel
theorem dX7_is_45 : decode cX7_is 45 = .ok (.invokevirtual 123, 3) := by decide +kernel
theorem dX7_is_48 : decode cX7_is 48 = .ok (.if_icmp .ge 7, 3) := by decide +kernel
theorem dX7_is_51 : decode cX7_is 51 = .ok (.iconst 1, 1) := by decide +kernel
theorem dX7_is_52 : decode cX7_is 52 = .ok (.goto 4, 3) := by decide +kernel
theorem dX7_is_55 : decode cX7_is 55 = .ok (.iconst 2, 1) := by decide +kernel
theorem dX7_is_56 : decode cX7_is 56 = .ok (.ireturn, 1) := by decide +kernel
theorem dX7_when_0 : decode cX7_when 0 = .ok (.aload_n 0, 1) := by decide +kernel
theorem dX7_when_1 : decode cX7_when 1 = .ok (.iload_n 1, 1) := by decide +kernel
theorem dX7_when_2 : decode cX7_when 2 = .ok (.invokevirtual 88, 3) := by decide +kernel
theorem dX7_when_5 : decode cX7_when 5 = .ok (.ifCond .eq 12, 3) := by decide +kernel
theorem dX7_when_8 : decode cX7_when 8 = .ok (.iload_n 2, 1) := by decide +kernel
theorem dX7_when_9 : decode cX7_when 9 = .ok (.iconst 0, 1) := by decide +kernel
theorem dX7_when_10 : decode cX7_when 10 = .ok (.iconst 1, 1) := by decide +kernel
theorem dX7_when_11 : decode cX7_when 11 = .ok (.invokestatic 70, 3) := by decide +kernel
theorem dX7_when_14 : decode cX7_when 14 = .ok (.ifCond .ne 5, 3) := by decide +kernel
theorem dX7_when_17 : decode cX7_when 17 = .ok (.iconst (-1), 1) := by decide +kernel
theorem dX7_when_18 : decode cX7_when 18 = .ok (.ireturn, 1) := by decide +kernel
theorem dX7_when_19 : decode cX7_when 19 = .ok (.aload_n 0, 1) := by decide +kernel
theorem dX7_when_20 : decode cX7_when 20 = .ok (.invokevirtual 105, 3) := by decide +kernel
theorem dX7_when_23 : decode cX7_when 23 = .ok (.iload_n 2, 1) := by decide +kernel
theorem dX7_when_24 : decode cX7_when 24 = .ok (.ifCond .ne 14, 3) := by decide +kernel
theorem dX7_when_27 : decode cX7_when 27 = .ok (.aload_n 0, 1) := by decide +kernel
theorem dX7_when_28 : decode cX7_when 28 = .ok (.getfield 37, 3) := by decide +kernel
theorem dX7_when_31 : decode cX7_when 31 = .ok (.iload_n 1, 1) := by decide +kernel
theorem dX7_when_32 : decode cX7_when 32 = .ok (.invokevirtual 119, 3) := by decide +kernel
theorem dX7_when_35 : decode cX7_when 35 = .ok (.goto 11, 3) := by decide +kernel
theorem dX7_when_38 : decode cX7_when 38 = .ok (.aload_n 0, 1) := by decide +kernel
theorem dX7_when_39 : decode cX7_when 39 = .ok (.getfield 37, 3) := by decide +kernel
theorem dX7_when_42 : decode cX7_when 42 = .ok (.iload_n 1, 1) := by decide +kernel
theorem dX7_when_43 : decode cX7_when 43 = .ok (.invokevirtual 123, 3) := by decide +kernel
theorem dX7_when_46 : decode cX7_when 46 = .ok (.ireturn, 1) := by decide +kernel
theorem dX7_wasted_0 : decode cX7_wasted 0 = .ok (.iload_n 1, 1) := by decide +kernel
theorem dX7_wasted_1 : decode cX7_wasted 1 = .ok (.bipush (-2), 2) := by decide +kernel
theorem dX7_wasted_3 : decode cX7_wasted 3 = .ok (.aload_n 0, 1) := by decide +kernel
theorem dX7_wasted_4 : decode cX7_wasted 4 = .ok (.getfield 27, 3) := by decide +kernel
theorem dX7_wasted_7 : decode cX7_wasted 7 = .ok (.getfield 78, 3) := by decide +kernel
theorem dX7_wasted_10 : decode cX7_wasted 10 = .ok (.iconst 1, 1) := by decide +kernel
theorem dX7_wasted_11 : decode cX7_wasted 11 = .ok (.isub, 1) := by decide +kernel
theorem dX7_wasted_12 : decode cX7_wasted 12 = .ok (.invokestatic 70, 3) := by decide +kernel
theorem dX7_wasted_15 : decode cX7_wasted 15 = .ok (.ifCond .ne 5, 3) := by decide +kernel
theorem dX7_wasted_18 : decode cX7_wasted 18 = .ok (.iconst (-1), 1) := by decide +kernel
theorem dX7_wasted_19 : decode cX7_wasted 19 = .ok (.ireturn, 1) := by decide +kernel
theorem dX7_wasted_20 : decode cX7_wasted 20 = .ok (.aload_n 0, 1) := by decide +kernel
theorem dX7_wasted_21 : decode cX7_wasted 21 = .ok (.invokevirtual 105, 3) := by decide +kernel
theorem dX7_wasted_24 : decode cX7_wasted 24 = .ok (.iload_n 1, 1) := by decide +kernel
theorem dX7_wasted_25 : decode cX7_wasted 25 = .ok (.bipush (-2), 2) := by decide +kernel
theorem dX7_wasted_27 : decode cX7_wasted 27 = .ok (.if_icmp .ne 11, 3) := by decide +kernel
theorem dX7_wasted_30 : decode cX7_wasted 30 = .ok (.aload_n 0, 1) := by decide +kernel
theorem dX7_wasted_31 : decode cX7_wasted 31 = .ok (.getfield 37, 3) := by decide +kernel
theorem dX7_wasted_34 : decode cX7_wasted 34 = .ok (.invokevirtual 126, 3) := by decide +kernel
theorem dX7_wasted_37 : decode cX7_wasted 37 = .ok (.ireturn, 1) := by decide +kernel
theorem dX7_wasted_38 : decode cX7_wasted 38 = .ok (.iload_n 1, 1) := by decide +kernel
theorem dX7_wasted_39 : decode cX7_wasted 39 = .ok (.iconst (-1), 1) := by decide +kernel
theorem dX7_wasted_40 : decode cX7_wasted 40 = .ok (.if_icmp .ne 13, 3) := by decide +kernel
theorem dX7_wasted_43 : decode cX7_wasted 43 = .ok (.aload_n 0, 1) := by decide +kernel
theorem dX7_wasted_44 : decode cX7_wasted 44 = .ok (.getfield 37, 3) := by decide +kernel
theorem dX7_wasted_47 : decode cX7_wasted 47 = .ok (.invokevirtual 130, 3) := by decide +kernel
theorem dX7_wasted_50 : decode cX7_wasted 50 = .ok (.goto 11, 3) := by decide +kernel
theorem dX7_wasted_53 : decode cX7_wasted 53 = .ok (.aload_n 0, 1) := by decide +kernel
theorem dX7_wasted_54 : decode cX7_wasted 54 = .ok (.getfield 37, 3) := by decide +kernel
theorem dX7_wasted_57 : decode cX7_wasted 57 = .ok (.iload_n 1, 1) := by decide +kernel
theorem dX7_wasted_58 : decode cX7_wasted 58 = .ok (.invokevirtual 133, 3) := by decide +kernel
theorem dX7_wasted_61 : decode cX7_wasted 61 = .ok (.ireturn, 1) := by decide +kernel
theorem dX7_frees_0 : decode cX7_frees 0 = .ok (.aload_n 0, 1) := by decide +kernel
theorem dX7_frees_1 : decode cX7_frees 1 = .ok (.iload_n 1, 1) := by decide +kernel
theorem dX7_frees_2 : decode cX7_frees 2 = .ok (.invokevirtual 88, 3) := by decide +kernel
theorem dX7_frees_5 : decode cX7_frees 5 = .ok (.ifCond .eq 14, 3) := by decide +kernel
theorem dX7_frees_8 : decode cX7_frees 8 = .ok (.iload_n 2, 1) := by decide +kernel
theorem dX7_frees_9 : decode cX7_frees 9 = .ok (.iconst 0, 1) := by decide +kernel
theorem dX7_frees_10 : decode cX7_frees 10 = .ok (.sipush 359, 3) := by decide +kernel
theorem dX7_frees_13 : decode cX7_frees 13 = .ok (.invokestatic 70, 3) := by decide +kernel
theorem dX7_frees_16 : decode cX7_frees 16 = .ok (.ifCond .ne 5, 3) := by decide +kernel
theorem dX7_frees_19 : decode cX7_frees 19 = .ok (.iconst (-1), 1) := by decide +kernel
theorem dX7_frees_20 : decode cX7_frees 20 = .ok (.ireturn, 1) := by decide +kernel
theorem dX7_frees_21 : decode cX7_frees 21 = .ok (.aload_n 0, 1) := by decide +kernel
theorem dX7_frees_22 : decode cX7_frees 22 = .ok (.invokevirtual 105, 3) := by decide +kernel
theorem dX7_frees_25 : decode cX7_frees 25 = .ok (.ldc 136, 2) := by decide +kernel
theorem dX7_frees_27 : decode cX7_frees 27 = .ok (.aload_n 0, 1) := by decide +kernel
theorem dX7_frees_28 : decode cX7_frees 28 = .ok (.getfield 37, 3) := by decide +kernel
theorem dX7_frees_31 : decode cX7_frees 31 = .ok (.invokevirtual 126, 3) := by decide +kernel
theorem dX7_frees_34 : decode cX7_frees 34 = .ok (.iadd, 1) := by decide +kernel
theorem dX7_frees_35 : decode cX7_frees 35 = .ok (.aload_n 0, 1) := by decide +kernel
theorem dX7_frees_36 : decode cX7_frees 36 = .ok (.iload_n 1, 1) := by decide +kernel
theorem dX7_frees_37 : decode cX7_frees 37 = .ok (.iload_n 2, 1) := by decide +kernel
theorem dX7_frees_38 : decode cX7_frees 38 = .ok (.invokevirtual 137, 3) := by decide +kernel
theorem dX7_frees_41 : decode cX7_frees 41 = .ok (.isub, 1) := by decide +kernel
theorem dX7_frees_42 : decode cX7_frees 42 = .ok (.ireturn, 1) := by decide +kernel
theorem dX7_madeUp_0 : decode cX7_madeUp 0 = .ok (.aload_n 0, 1) := by decide +kernel
theorem dX7_madeUp_1 : decode cX7_madeUp 1 = .ok (.iload_n 1, 1) := by decide +kernel
theorem dX7_madeUp_2 : decode cX7_madeUp 2 = .ok (.invokevirtual 88, 3) := by decide +kernel
theorem dX7_madeUp_5 : decode cX7_madeUp 5 = .ok (.ifCond .eq 12, 3) := by decide +kernel
theorem dX7_madeUp_8 : decode cX7_madeUp 8 = .ok (.iload_n 2, 1) := by decide +kernel
theorem dX7_madeUp_9 : decode cX7_madeUp 9 = .ok (.iconst 0, 1) := by decide +kernel
theorem dX7_madeUp_10 : decode cX7_madeUp 10 = .ok (.iconst 1, 1) := by decide +kernel
theorem dX7_madeUp_11 : decode cX7_madeUp 11 = .ok (.invokestatic 70, 3) := by decide +kernel
theorem dX7_madeUp_14 : decode cX7_madeUp 14 = .ok (.ifCond .ne 5, 3) := by decide +kernel
theorem dX7_madeUp_17 : decode cX7_madeUp 17 = .ok (.iconst (-1), 1) := by decide +kernel
theorem dX7_madeUp_18 : decode cX7_madeUp 18 = .ok (.ireturn, 1) := by decide +kernel
theorem dX7_madeUp_19 : decode cX7_madeUp 19 = .ok (.aload_n 0, 1) := by decide +kernel
theorem dX7_madeUp_20 : decode cX7_madeUp 20 = .ok (.invokevirtual 105, 3) := by decide +kernel
theorem dX7_madeUp_23 : decode cX7_madeUp 23 = .ok (.aload_n 0, 1) := by decide +kernel
theorem dX7_madeUp_24 : decode cX7_madeUp 24 = .ok (.getfield 37, 3) := by decide +kernel
theorem dX7_madeUp_27 : decode cX7_madeUp 27 = .ok (.invokevirtual 126, 3) := by decide +kernel
theorem dX7_madeUp_30 : decode cX7_madeUp 30 = .ok (.istore_n 3, 1) := by decide +kernel
theorem dX7_madeUp_31 : decode cX7_madeUp 31 = .ok (.iload_n 3, 1) := by decide +kernel
theorem dX7_madeUp_32 : decode cX7_madeUp 32 = .ok (.istore 4, 2) := by decide +kernel
theorem dX7_madeUp_34 : decode cX7_madeUp 34 = .ok (.bipush (-4), 2) := by decide +kernel
theorem dX7_madeUp_36 : decode cX7_madeUp 36 = .ok (.istore 5, 2) := by decide +kernel
theorem dX7_madeUp_38 : decode cX7_madeUp 38 = .ok (.iconst 0, 1) := by decide +kernel
theorem dX7_madeUp_39 : decode cX7_madeUp 39 = .ok (.istore 6, 2) := by decide +kernel
theorem dX7_madeUp_41 : decode cX7_madeUp 41 = .ok (.iload 6, 2) := by decide +kernel
theorem dX7_madeUp_43 : decode cX7_madeUp 43 = .ok (.sipush 350, 3) := by decide +kernel
theorem dX7_madeUp_46 : decode cX7_madeUp 46 = .ok (.if_icmp .gt 33, 3) := by decide +kernel
theorem dX7_madeUp_49 : decode cX7_madeUp 49 = .ok (.aload_n 0, 1) := by decide +kernel
theorem dX7_madeUp_50 : decode cX7_madeUp 50 = .ok (.iload_n 1, 1) := by decide +kernel
theorem dX7_madeUp_51 : decode cX7_madeUp 51 = .ok (.iload 6, 2) := by decide +kernel
theorem dX7_madeUp_53 : decode cX7_madeUp 53 = .ok (.invokevirtual 137, 3) := by decide +kernel
theorem dX7_madeUp_56 : decode cX7_madeUp 56 = .ok (.istore 7, 2) := by decide +kernel
theorem dX7_madeUp_58 : decode cX7_madeUp 58 = .ok (.iload 7, 2) := by decide +kernel
theorem dX7_madeUp_60 : decode cX7_madeUp 60 = .ok (.iload 4, 2) := by decide +kernel
theorem dX7_madeUp_62 : decode cX7_madeUp 62 = .ok (.if_icmp .ge 11, 3) := by decide +kernel
theorem dX7_madeUp_65 : decode cX7_madeUp 65 = .ok (.iload 7, 2) := by decide +kernel
theorem dX7_madeUp_67 : decode cX7_madeUp 67 = .ok (.istore 4, 2) := by decide +kernel
theorem dX7_madeUp_69 : decode cX7_madeUp 69 = .ok (.iload 6, 2) := by decide +kernel
theorem dX7_madeUp_71 : decode cX7_madeUp 71 = .ok (.istore 5, 2) := by decide +kernel
theorem dX7_madeUp_73 : decode cX7_madeUp 73 = .ok (.iinc 6 10, 3) := by decide +kernel
theorem dX7_madeUp_76 : decode cX7_madeUp 76 = .ok (.goto (-35), 3) := by decide +kernel
theorem dX7_madeUp_79 : decode cX7_madeUp 79 = .ok (.iload 5, 2) := by decide +kernel
theorem dX7_madeUp_81 : decode cX7_madeUp 81 = .ok (.bipush (-4), 2) := by decide +kernel
theorem dX7_madeUp_83 : decode cX7_madeUp 83 = .ok (.if_icmp .eq 7, 3) := by decide +kernel
theorem dX7_madeUp_86 : decode cX7_madeUp 86 = .ok (.iload_n 2, 1) := by decide +kernel
theorem dX7_madeUp_87 : decode cX7_madeUp 87 = .ok (.ifCond .ne 6, 3) := by decide +kernel
theorem dX7_madeUp_90 : decode cX7_madeUp 90 = .ok (.iload 5, 2) := by decide +kernel
theorem dX7_madeUp_92 : decode cX7_madeUp 92 = .ok (.ireturn, 1) := by decide +kernel
theorem dX7_madeUp_93 : decode cX7_madeUp 93 = .ok (.ldc 136, 2) := by decide +kernel
theorem dX7_madeUp_95 : decode cX7_madeUp 95 = .ok (.iload_n 3, 1) := by decide +kernel
theorem dX7_madeUp_96 : decode cX7_madeUp 96 = .ok (.iadd, 1) := by decide +kernel
theorem dX7_madeUp_97 : decode cX7_madeUp 97 = .ok (.iload 4, 2) := by decide +kernel
theorem dX7_madeUp_99 : decode cX7_madeUp 99 = .ok (.isub, 1) := by decide +kernel
theorem dX7_madeUp_100 : decode cX7_madeUp 100 = .ok (.ireturn, 1) := by decide +kernel
theorem dX7_bell_0 : decode cX7_bell 0 = .ok (.iload_n 1, 1) := by decide +kernel
theorem dX7_bell_1 : decode cX7_bell 1 = .ok (.iconst 0, 1) := by decide +kernel
theorem dX7_bell_2 : decode cX7_bell 2 = .ok (.sipush 719, 3) := by decide +kernel
theorem dX7_bell_5 : decode cX7_bell 5 = .ok (.invokestatic 70, 3) := by decide +kernel
theorem dX7_bell_8 : decode cX7_bell 8 = .ok (.ifCond .ne 5, 3) := by decide +kernel
theorem dX7_bell_11 : decode cX7_bell 11 = .ok (.iconst (-1), 1) := by decide +kernel
theorem dX7_bell_12 : decode cX7_bell 12 = .ok (.ireturn, 1) := by decide +kernel
theorem dX7_bell_13 : decode cX7_bell 13 = .ok (.aload_n 0, 1) := by decide +kernel
theorem dX7_bell_14 : decode cX7_bell 14 = .ok (.iload_n 1, 1) := by decide +kernel
theorem dX7_bell_15 : decode cX7_bell 15 = .ok (.invokevirtual 140, 3) := by decide +kernel
theorem dX7_bell_18 : decode cX7_bell 18 = .ok (.ireturn, 1) := by decide +kernel
theorem dX7_best_0 : decode cX7_best 0 = .ok (.iload_n 1, 1) := by decide +kernel
theorem dX7_best_1 : decode cX7_best 1 = .ok (.iconst 0, 1) := by decide +kernel
theorem dX7_best_2 : decode cX7_best 2 = .ok (.iconst 1, 1) := by decide +kernel
theorem dX7_best_3 : decode cX7_best 3 = .ok (.invokestatic 70, 3) := by decide +kernel
theorem dX7_best_6 : decode cX7_best 6 = .ok (.ifCond .ne 5, 3) := by decide +kernel
theorem dX7_best_9 : decode cX7_best 9 = .ok (.iconst (-1), 1) := by decide +kernel
theorem dX7_best_10 : decode cX7_best 10 = .ok (.ireturn, 1) := by decide +kernel
theorem dX7_best_11 : decode cX7_best 11 = .ok (.aload_n 0, 1) := by decide +kernel
theorem dX7_best_12 : decode cX7_best 12 = .ok (.iconst 0, 1) := by decide +kernel
theorem dX7_best_13 : decode cX7_best 13 = .ok (.invokevirtual 140, 3) := by decide +kernel
theorem dX7_best_16 : decode cX7_best 16 = .ok (.istore_n 2, 1) := by decide +kernel
theorem dX7_best_17 : decode cX7_best 17 = .ok (.iconst 0, 1) := by decide +kernel
theorem dX7_best_18 : decode cX7_best 18 = .ok (.istore_n 3, 1) := by decide +kernel
theorem dX7_best_19 : decode cX7_best 19 = .ok (.bipush 10, 2) := by decide +kernel
theorem dX7_best_21 : decode cX7_best 21 = .ok (.istore 4, 2) := by decide +kernel
theorem dX7_best_23 : decode cX7_best 23 = .ok (.iload 4, 2) := by decide +kernel
theorem dX7_best_25 : decode cX7_best 25 = .ok (.sipush 350, 3) := by decide +kernel
theorem dX7_best_28 : decode cX7_best 28 = .ok (.if_icmp .gt 29, 3) := by decide +kernel
theorem dX7_best_31 : decode cX7_best 31 = .ok (.aload_n 0, 1) := by decide +kernel
theorem dX7_best_32 : decode cX7_best 32 = .ok (.iload 4, 2) := by decide +kernel
theorem dX7_best_34 : decode cX7_best 34 = .ok (.invokevirtual 140, 3) := by decide +kernel
theorem dX7_best_37 : decode cX7_best 37 = .ok (.istore 5, 2) := by decide +kernel
theorem dX7_best_39 : decode cX7_best 39 = .ok (.iload 5, 2) := by decide +kernel
theorem dX7_best_41 : decode cX7_best 41 = .ok (.iload_n 2, 1) := by decide +kernel
theorem dX7_best_42 : decode cX7_best 42 = .ok (.if_icmp .ge 9, 3) := by decide +kernel
theorem dX7_best_45 : decode cX7_best 45 = .ok (.iload 5, 2) := by decide +kernel
theorem dX7_best_47 : decode cX7_best 47 = .ok (.istore_n 2, 1) := by decide +kernel
theorem dX7_best_48 : decode cX7_best 48 = .ok (.iload 4, 2) := by decide +kernel
theorem dX7_best_50 : decode cX7_best 50 = .ok (.istore_n 3, 1) := by decide +kernel
theorem dX7_best_51 : decode cX7_best 51 = .ok (.iinc 4 10, 3) := by decide +kernel
theorem dX7_best_54 : decode cX7_best 54 = .ok (.goto (-31), 3) := by decide +kernel
theorem dX7_best_57 : decode cX7_best 57 = .ok (.iload_n 1, 1) := by decide +kernel
theorem dX7_best_58 : decode cX7_best 58 = .ok (.ifCond .ne 7, 3) := by decide +kernel
theorem dX7_best_61 : decode cX7_best 61 = .ok (.iload_n 3, 1) := by decide +kernel
theorem dX7_best_62 : decode cX7_best 62 = .ok (.goto 4, 3) := by decide +kernel
theorem dX7_best_65 : decode cX7_best 65 = .ok (.iload_n 2, 1) := by decide +kernel
theorem dX7_best_66 : decode cX7_best 66 = .ok (.ireturn, 1) := by decide +kernel
theorem dX7_given_0 : decode cX7_given 0 = .ok (.iload_n 1, 1) := by decide +kernel
theorem dX7_given_1 : decode cX7_given 1 = .ok (.iconst (-1), 1) := by decide +kernel
theorem dX7_given_2 : decode cX7_given 2 = .ok (.aload_n 0, 1) := by decide +kernel
theorem dX7_given_3 : decode cX7_given 3 = .ok (.getfield 27, 3) := by decide +kernel
theorem dX7_given_6 : decode cX7_given 6 = .ok (.getfield 143, 3) := by decide +kernel
theorem dX7_given_9 : decode cX7_given 9 = .ok (.iconst 1, 1) := by decide +kernel
theorem dX7_given_10 : decode cX7_given 10 = .ok (.isub, 1) := by decide +kernel
theorem dX7_given_11 : decode cX7_given 11 = .ok (.invokestatic 70, 3) := by decide +kernel
theorem dX7_given_14 : decode cX7_given 14 = .ok (.ifCond .ne 5, 3) := by decide +kernel
theorem dX7_given_17 : decode cX7_given 17 = .ok (.iconst (-1), 1) := by decide +kernel
theorem dX7_given_18 : decode cX7_given 18 = .ok (.ireturn, 1) := by decide +kernel
theorem dX7_given_19 : decode cX7_given 19 = .ok (.aload_n 0, 1) := by decide +kernel
theorem dX7_given_20 : decode cX7_given 20 = .ok (.getfield 44, 3) := by decide +kernel
theorem dX7_given_23 : decode cX7_given 23 = .ok (.aload_n 0, 1) := by decide +kernel
theorem dX7_given_24 : decode cX7_given 24 = .ok (.getfield 27, 3) := by decide +kernel
theorem dX7_given_27 : decode cX7_given 27 = .ok (.aload_n 0, 1) := by decide +kernel
theorem dX7_given_28 : decode cX7_given 28 = .ok (.getfield 37, 3) := by decide +kernel
theorem dX7_given_31 : decode cX7_given 31 = .ok (.invokevirtual 146, 3) := by decide +kernel
theorem dX7_given_34 : decode cX7_given 34 = .ok (.iload_n 1, 1) := by decide +kernel
theorem dX7_given_35 : decode cX7_given 35 = .ok (.iconst (-1), 1) := by decide +kernel
theorem dX7_given_36 : decode cX7_given 36 = .ok (.if_icmp .ne 13, 3) := by decide +kernel
theorem dX7_given_39 : decode cX7_given 39 = .ok (.aload_n 0, 1) := by decide +kernel
theorem dX7_given_40 : decode cX7_given 40 = .ok (.getfield 44, 3) := by decide +kernel
theorem dX7_given_43 : decode cX7_given 43 = .ok (.getfield 150, 3) := by decide +kernel
theorem dX7_given_46 : decode cX7_given 46 = .ok (.goto 11, 3) := by decide +kernel
theorem dX7_given_49 : decode cX7_given 49 = .ok (.aload_n 0, 1) := by decide +kernel
theorem dX7_given_50 : decode cX7_given 50 = .ok (.getfield 44, 3) := by decide +kernel
theorem dX7_given_53 : decode cX7_given 53 = .ok (.iload_n 1, 1) := by decide +kernel
theorem dX7_given_54 : decode cX7_given 54 = .ok (.invokevirtual 153, 3) := by decide +kernel
theorem dX7_given_57 : decode cX7_given 57 = .ok (.ireturn, 1) := by decide +kernel
theorem dX7_cost_0 : decode cX7_cost 0 = .ok (.iload_n 1, 1) := by decide +kernel
theorem dX7_cost_1 : decode cX7_cost 1 = .ok (.iconst 0, 1) := by decide +kernel
theorem dX7_cost_2 : decode cX7_cost 2 = .ok (.aload_n 0, 1) := by decide +kernel
theorem dX7_cost_3 : decode cX7_cost 3 = .ok (.getfield 51, 3) := by decide +kernel
theorem dX7_cost_6 : decode cX7_cost 6 = .ok (.getfield 156, 3) := by decide +kernel
theorem dX7_cost_9 : decode cX7_cost 9 = .ok (.iconst 1, 1) := by decide +kernel
theorem dX7_cost_10 : decode cX7_cost 10 = .ok (.isub, 1) := by decide +kernel
theorem dX7_cost_11 : decode cX7_cost 11 = .ok (.invokestatic 70, 3) := by decide +kernel
theorem dX7_cost_14 : decode cX7_cost 14 = .ok (.ifCond .eq 13, 3) := by decide +kernel
theorem dX7_cost_17 : decode cX7_cost 17 = .ok (.iload_n 2, 1) := by decide +kernel
theorem dX7_cost_18 : decode cX7_cost 18 = .ok (.iconst 0, 1) := by decide +kernel
theorem dX7_cost_19 : decode cX7_cost 19 = .ok (.ldc 159, 2) := by decide +kernel
theorem dX7_cost_21 : decode cX7_cost 21 = .ok (.invokestatic 70, 3) := by decide +kernel
theorem dX7_cost_24 : decode cX7_cost 24 = .ok (.ifCond .ne 5, 3) := by decide +kernel
theorem dX7_cost_27 : decode cX7_cost 27 = .ok (.iconst (-1), 1) := by decide +kernel
theorem dX7_cost_28 : decode cX7_cost 28 = .ok (.ireturn, 1) := by decide +kernel
theorem dX7_cost_29 : decode cX7_cost 29 = .ok (.aload_n 0, 1) := by decide +kernel
theorem dX7_cost_30 : decode cX7_cost 30 = .ok (.getfield 51, 3) := by decide +kernel
theorem dX7_cost_33 : decode cX7_cost 33 = .ok (.iload_n 2, 1) := by decide +kernel
theorem dX7_cost_34 : decode cX7_cost 34 = .ok (.invokevirtual 160, 3) := by decide +kernel
theorem dX7_cost_37 : decode cX7_cost 37 = .ok (.ifCond .ne 5, 3) := by decide +kernel
theorem dX7_cost_40 : decode cX7_cost 40 = .ok (.iconst (-1), 1) := by decide +kernel
theorem dX7_cost_41 : decode cX7_cost 41 = .ok (.ireturn, 1) := by decide +kernel
theorem dX7_cost_42 : decode cX7_cost 42 = .ok (.aload_n 0, 1) := by decide +kernel
theorem dX7_cost_43 : decode cX7_cost 43 = .ok (.getfield 51, 3) := by decide +kernel
theorem dX7_cost_46 : decode cX7_cost 46 = .ok (.iload_n 1, 1) := by decide +kernel
theorem dX7_cost_47 : decode cX7_cost 47 = .ok (.invokevirtual 163, 3) := by decide +kernel
theorem dX7_cost_50 : decode cX7_cost 50 = .ok (.ireturn, 1) := by decide +kernel
theorem dX7_rests_0 : decode cX7_rests 0 = .ok (.iload_n 1, 1) := by decide +kernel
theorem dX7_rests_1 : decode cX7_rests 1 = .ok (.iconst (-1), 1) := by decide +kernel
theorem dX7_rests_2 : decode cX7_rests 2 = .ok (.aload_n 0, 1) := by decide +kernel
theorem dX7_rests_3 : decode cX7_rests 3 = .ok (.getfield 51, 3) := by decide +kernel
theorem dX7_rests_6 : decode cX7_rests 6 = .ok (.getfield 156, 3) := by decide +kernel
theorem dX7_rests_9 : decode cX7_rests 9 = .ok (.iconst 1, 1) := by decide +kernel
theorem dX7_rests_10 : decode cX7_rests 10 = .ok (.isub, 1) := by decide +kernel
theorem dX7_rests_11 : decode cX7_rests 11 = .ok (.invokestatic 70, 3) := by decide +kernel
theorem dX7_rests_14 : decode cX7_rests 14 = .ok (.ifCond .ne 5, 3) := by decide +kernel
theorem dX7_rests_17 : decode cX7_rests 17 = .ok (.iconst (-1), 1) := by decide +kernel
theorem dX7_rests_18 : decode cX7_rests 18 = .ok (.ireturn, 1) := by decide +kernel
theorem dX7_rests_19 : decode cX7_rests 19 = .ok (.aload_n 0, 1) := by decide +kernel
theorem dX7_rests_20 : decode cX7_rests 20 = .ok (.getfield 51, 3) := by decide +kernel
theorem dX7_rests_23 : decode cX7_rests 23 = .ok (.invokevirtual 166, 3) := by decide +kernel
theorem dX7_rests_26 : decode cX7_rests 26 = .ok (.iload_n 1, 1) := by decide +kernel
theorem dX7_rests_27 : decode cX7_rests 27 = .ok (.iconst (-1), 1) := by decide +kernel
theorem dX7_rests_28 : decode cX7_rests 28 = .ok (.if_icmp .ne 11, 3) := by decide +kernel
theorem dX7_rests_31 : decode cX7_rests 31 = .ok (.aload_n 0, 1) := by decide +kernel
theorem dX7_rests_32 : decode cX7_rests 32 = .ok (.getfield 51, 3) := by decide +kernel
theorem dX7_rests_35 : decode cX7_rests 35 = .ok (.getfield 168, 3) := by decide +kernel
theorem dX7_rests_38 : decode cX7_rests 38 = .ok (.ireturn, 1) := by decide +kernel
theorem dX7_rests_39 : decode cX7_rests 39 = .ok (.aload_n 0, 1) := by decide +kernel
theorem dX7_rests_40 : decode cX7_rests 40 = .ok (.getfield 51, 3) := by decide +kernel
theorem dX7_rests_43 : decode cX7_rests 43 = .ok (.getfield 168, 3) := by decide +kernel
theorem dX7_rests_46 : decode cX7_rests 46 = .ok (.ifCond .ne 8, 3) := by decide +kernel
theorem dX7_rests_49 : decode cX7_rests 49 = .ok (.bipush (-4), 2) := by decide +kernel
theorem dX7_rests_51 : decode cX7_rests 51 = .ok (.goto 12, 3) := by decide +kernel
theorem dX7_rests_54 : decode cX7_rests 54 = .ok (.aload_n 0, 1) := by decide +kernel
theorem dX7_rests_55 : decode cX7_rests 55 = .ok (.getfield 51, 3) := by decide +kernel
theorem dX7_rests_58 : decode cX7_rests 58 = .ok (.getfield 171, 3) := by decide +kernel
theorem dX7_rests_61 : decode cX7_rests 61 = .ok (.iload_n 1, 1) := by decide +kernel
theorem dX7_rests_62 : decode cX7_rests 62 = .ok (.iaload, 1) := by decide +kernel
theorem dX7_rests_63 : decode cX7_rests 63 = .ok (.ireturn, 1) := by decide +kernel
theorem dX7_price_0 : decode cX7_price 0 = .ok (.aload_n 0, 1) := by decide +kernel
theorem dX7_price_1 : decode cX7_price 1 = .ok (.getfield 51, 3) := by decide +kernel
theorem dX7_price_4 : decode cX7_price 4 = .ok (.invokevirtual 166, 3) := by decide +kernel
theorem dX7_price_7 : decode cX7_price 7 = .ok (.aload_n 0, 1) := by decide +kernel
theorem dX7_price_8 : decode cX7_price 8 = .ok (.getfield 51, 3) := by decide +kernel
theorem dX7_price_11 : decode cX7_price 11 = .ok (.getfield 168, 3) := by decide +kernel
theorem dX7_price_14 : decode cX7_price 14 = .ok (.ifCond .ne 8, 3) := by decide +kernel
theorem dX7_price_17 : decode cX7_price 17 = .ok (.bipush (-4), 2) := by decide +kernel
theorem dX7_price_19 : decode cX7_price 19 = .ok (.goto 18, 3) := by decide +kernel
theorem dX7_price_22 : decode cX7_price 22 = .ok (.aload_n 0, 1) := by decide +kernel
theorem dX7_price_23 : decode cX7_price 23 = .ok (.getfield 51, 3) := by decide +kernel
theorem dX7_price_26 : decode cX7_price 26 = .ok (.getfield 174, 3) := by decide +kernel
theorem dX7_price_29 : decode cX7_price 29 = .ok (.aload_n 0, 1) := by decide +kernel
theorem dX7_price_30 : decode cX7_price 30 = .ok (.getfield 51, 3) := by decide +kernel
theorem dX7_price_33 : decode cX7_price 33 = .ok (.getfield 177, 3) := by decide +kernel
theorem dX7_price_36 : decode cX7_price 36 = .ok (.isub, 1) := by decide +kernel
theorem dX7_price_37 : decode cX7_price 37 = .ok (.ireturn, 1) := by decide +kernel
theorem dX7_meant_0 : decode cX7_meant 0 = .ok (.iload_n 1, 1) := by decide +kernel
theorem dX7_meant_1 : decode cX7_meant 1 = .ok (.iconst 1, 1) := by decide +kernel
theorem dX7_meant_2 : decode cX7_meant 2 = .ok (.iconst 3, 1) := by decide +kernel
theorem dX7_meant_3 : decode cX7_meant 3 = .ok (.invokestatic 70, 3) := by decide +kernel
theorem dX7_meant_6 : decode cX7_meant 6 = .ok (.ifCond .eq 12, 3) := by decide +kernel
theorem dX7_meant_9 : decode cX7_meant 9 = .ok (.iload_n 2, 1) := by decide +kernel
theorem dX7_meant_10 : decode cX7_meant 10 = .ok (.iconst 0, 1) := by decide +kernel
theorem dX7_meant_11 : decode cX7_meant 11 = .ok (.iconst 1, 1) := by decide +kernel
theorem dX7_meant_12 : decode cX7_meant 12 = .ok (.invokestatic 70, 3) := by decide +kernel
theorem dX7_meant_15 : decode cX7_meant 15 = .ok (.ifCond .ne 5, 3) := by decide +kernel
theorem dX7_meant_18 : decode cX7_meant 18 = .ok (.iconst (-1), 1) := by decide +kernel
theorem dX7_meant_19 : decode cX7_meant 19 = .ok (.ireturn, 1) := by decide +kernel
theorem dX7_meant_20 : decode cX7_meant 20 = .ok (.aload_n 0, 1) := by decide +kernel
theorem dX7_meant_21 : decode cX7_meant 21 = .ok (.getfield 27, 3) := by decide +kernel
theorem dX7_meant_24 : decode cX7_meant 24 = .ok (.getfield 180, 3) := by decide +kernel
theorem dX7_meant_27 : decode cX7_meant 27 = .ok (.iload_n 1, 1) := by decide +kernel
theorem dX7_meant_28 : decode cX7_meant 28 = .ok (.iaload, 1) := by decide +kernel
theorem dX7_meant_29 : decode cX7_meant 29 = .ok (.aload_n 0, 1) := by decide +kernel
theorem dX7_meant_30 : decode cX7_meant 30 = .ok (.getfield 27, 3) := by decide +kernel
theorem dX7_meant_33 : decode cX7_meant 33 = .ok (.getfield 180, 3) := by decide +kernel
theorem dX7_meant_36 : decode cX7_meant 36 = .ok (.iload_n 1, 1) := by decide +kernel
theorem dX7_meant_37 : decode cX7_meant 37 = .ok (.iaload, 1) := by decide +kernel
theorem dX7_meant_38 : decode cX7_meant 38 = .ok (.aload_n 0, 1) := by decide +kernel
theorem dX7_meant_39 : decode cX7_meant 39 = .ok (.getfield 27, 3) := by decide +kernel
theorem dX7_meant_42 : decode cX7_meant 42 = .ok (.getfield 183, 3) := by decide +kernel
theorem dX7_meant_45 : decode cX7_meant 45 = .ok (.iload_n 1, 1) := by decide +kernel
theorem dX7_meant_46 : decode cX7_meant 46 = .ok (.iaload, 1) := by decide +kernel
theorem dX7_meant_47 : decode cX7_meant 47 = .ok (.iadd, 1) := by decide +kernel
theorem dX7_meant_48 : decode cX7_meant 48 = .ok (.iload_n 2, 1) := by decide +kernel
theorem dX7_meant_49 : decode cX7_meant 49 = .ok (.invokestatic 186, 3) := by decide +kernel
theorem dX7_meant_52 : decode cX7_meant 52 = .ok (.ireturn, 1) := by decide +kernel
theorem dX7_since_0 : decode cX7_since 0 = .ok (.aload_n 0, 1) := by decide +kernel
theorem dX7_since_1 : decode cX7_since 1 = .ok (.iload_n 1, 1) := by decide +kernel
theorem dX7_since_2 : decode cX7_since 2 = .ok (.invokevirtual 88, 3) := by decide +kernel
theorem dX7_since_5 : decode cX7_since 5 = .ok (.ifCond .eq 22, 3) := by decide +kernel
theorem dX7_since_8 : decode cX7_since 8 = .ok (.iload_n 2, 1) := by decide +kernel
theorem dX7_since_9 : decode cX7_since 9 = .ok (.iconst 0, 1) := by decide +kernel
theorem dX7_since_10 : decode cX7_since 10 = .ok (.bipush 11, 2) := by decide +kernel
theorem dX7_since_12 : decode cX7_since 12 = .ok (.invokestatic 70, 3) := by decide +kernel
theorem dX7_since_15 : decode cX7_since 15 = .ok (.ifCond .eq 12, 3) := by decide +kernel
theorem dX7_since_18 : decode cX7_since 18 = .ok (.iload_n 3, 1) := by decide +kernel
theorem dX7_since_19 : decode cX7_since 19 = .ok (.iconst 0, 1) := by decide +kernel
theorem dX7_since_20 : decode cX7_since 20 = .ok (.iconst 1, 1) := by decide +kernel
theorem dX7_since_21 : decode cX7_since 21 = .ok (.invokestatic 70, 3) := by decide +kernel
theorem dX7_since_24 : decode cX7_since 24 = .ok (.ifCond .ne 5, 3) := by decide +kernel
theorem dX7_since_27 : decode cX7_since 27 = .ok (.iconst (-1), 1) := by decide +kernel
theorem dX7_since_28 : decode cX7_since 28 = .ok (.ireturn, 1) := by decide +kernel
theorem dX7_since_29 : decode cX7_since 29 = .ok (.iconst 0, 1) := by decide +kernel
theorem dX7_since_30 : decode cX7_since 30 = .ok (.istore 4, 2) := by decide +kernel
theorem dX7_since_32 : decode cX7_since 32 = .ok (.iconst 0, 1) := by decide +kernel
theorem dX7_since_33 : decode cX7_since 33 = .ok (.istore 5, 2) := by decide +kernel
theorem dX7_since_35 : decode cX7_since 35 = .ok (.iload 5, 2) := by decide +kernel
theorem dX7_since_37 : decode cX7_since 37 = .ok (.bipush 12, 2) := by decide +kernel
theorem dX7_since_39 : decode cX7_since 39 = .ok (.if_icmp .ge 27, 3) := by decide +kernel
theorem dX7_since_42 : decode cX7_since 42 = .ok (.iload 4, 2) := by decide +kernel
theorem dX7_since_44 : decode cX7_since 44 = .ok (.aload_n 0, 1) := by decide +kernel
theorem dX7_since_45 : decode cX7_since 45 = .ok (.getfield 27, 3) := by decide +kernel
theorem dX7_since_48 : decode cX7_since 48 = .ok (.iload_n 1, 1) := by decide +kernel
theorem dX7_since_49 : decode cX7_since 49 = .ok (.bipush 30, 2) := by decide +kernel
theorem dX7_since_51 : decode cX7_since 51 = .ok (.iload 5, 2) := by decide +kernel
theorem dX7_since_53 : decode cX7_since 53 = .ok (.imul, 1) := by decide +kernel
theorem dX7_since_54 : decode cX7_since 54 = .ok (.invokevirtual 190, 3) := by decide +kernel
theorem dX7_since_57 : decode cX7_since 57 = .ok (.iadd, 1) := by decide +kernel
theorem dX7_since_58 : decode cX7_since 58 = .ok (.istore 4, 2) := by decide +kernel
theorem dX7_since_60 : decode cX7_since 60 = .ok (.iinc 5 1, 3) := by decide +kernel
theorem dX7_since_63 : decode cX7_since 63 = .ok (.goto (-28), 3) := by decide +kernel
theorem dX7_since_66 : decode cX7_since 66 = .ok (.aload_n 0, 1) := by decide +kernel
theorem dX7_since_67 : decode cX7_since 67 = .ok (.getfield 27, 3) := by decide +kernel
theorem dX7_since_70 : decode cX7_since 70 = .ok (.iload_n 1, 1) := by decide +kernel
theorem dX7_since_71 : decode cX7_since 71 = .ok (.bipush 30, 2) := by decide +kernel
theorem dX7_since_73 : decode cX7_since 73 = .ok (.iload_n 2, 1) := by decide +kernel
end
section
theorem dX7_since_74 : decode cX7_since 74 = .ok (.imul, 1) := by decide +kernel
theorem dX7_since_75 : decode cX7_since 75 = .ok (.invokevirtual 190, 3) := by decide +kernel
theorem dX7_since_78 : decode cX7_since 78 = .ok (.iload 4, 2) := by decide +kernel
theorem dX7_since_80 : decode cX7_since 80 = .ok (.iload_n 3, 1) := by decide +kernel
theorem dX7_since_81 : decode cX7_since 81 = .ok (.invokestatic 186, 3) := by decide +kernel
theorem dX7_since_84 : decode cX7_since 84 = .ok (.ireturn, 1) := by decide +kernel
theorem dX7_leave_0 : decode cX7_leave 0 = .ok (.iload_n 1, 1) := by decide +kernel
theorem dX7_leave_1 : decode cX7_leave 1 = .ok (.iconst 2, 1) := by decide +kernel
theorem dX7_leave_2 : decode cX7_leave 2 = .ok (.bipush 20, 2) := by decide +kernel
theorem dX7_leave_4 : decode cX7_leave 4 = .ok (.invokestatic 70, 3) := by decide +kernel
theorem dX7_leave_7 : decode cX7_leave 7 = .ok (.ifCond .ne 5, 3) := by decide +kernel
theorem dX7_leave_10 : decode cX7_leave 10 = .ok (.iconst (-1), 1) := by decide +kernel
theorem dX7_leave_11 : decode cX7_leave 11 = .ok (.ireturn, 1) := by decide +kernel
theorem dX7_leave_12 : decode cX7_leave 12 = .ok (.iload_n 1, 1) := by decide +kernel
theorem dX7_leave_13 : decode cX7_leave 13 = .ok (.iconst 2, 1) := by decide +kernel
theorem dX7_leave_14 : decode cX7_leave 14 = .ok (.irem, 1) := by decide +kernel
theorem dX7_leave_15 : decode cX7_leave 15 = .ok (.ifCond .ne 9, 3) := by decide +kernel
theorem dX7_leave_18 : decode cX7_leave 18 = .ok (.iload_n 1, 1) := by decide +kernel
theorem dX7_leave_19 : decode cX7_leave 19 = .ok (.iconst 1, 1) := by decide +kernel
theorem dX7_leave_20 : decode cX7_leave 20 = .ok (.isub, 1) := by decide +kernel
theorem dX7_leave_21 : decode cX7_leave 21 = .ok (.goto 4, 3) := by decide +kernel
theorem dX7_leave_24 : decode cX7_leave 24 = .ok (.iload_n 1, 1) := by decide +kernel
theorem dX7_leave_25 : decode cX7_leave 25 = .ok (.istore 4, 2) := by decide +kernel
theorem dX7_leave_27 : decode cX7_leave 27 = .ok (.iload_n 2, 1) := by decide +kernel
theorem dX7_leave_28 : decode cX7_leave 28 = .ok (.iconst 0, 1) := by decide +kernel
theorem dX7_leave_29 : decode cX7_leave 29 = .ok (.iload 4, 2) := by decide +kernel
theorem dX7_leave_31 : decode cX7_leave 31 = .ok (.iconst 1, 1) := by decide +kernel
theorem dX7_leave_32 : decode cX7_leave 32 = .ok (.isub, 1) := by decide +kernel
theorem dX7_leave_33 : decode cX7_leave 33 = .ok (.invokestatic 70, 3) := by decide +kernel
theorem dX7_leave_36 : decode cX7_leave 36 = .ok (.ifCond .eq 14, 3) := by decide +kernel
theorem dX7_leave_39 : decode cX7_leave 39 = .ok (.iload_n 3, 1) := by decide +kernel
theorem dX7_leave_40 : decode cX7_leave 40 = .ok (.iconst 0, 1) := by decide +kernel
theorem dX7_leave_41 : decode cX7_leave 41 = .ok (.iload_n 1, 1) := by decide +kernel
theorem dX7_leave_42 : decode cX7_leave 42 = .ok (.iconst 1, 1) := by decide +kernel
theorem dX7_leave_43 : decode cX7_leave 43 = .ok (.isub, 1) := by decide +kernel
theorem dX7_leave_44 : decode cX7_leave 44 = .ok (.invokestatic 70, 3) := by decide +kernel
theorem dX7_leave_47 : decode cX7_leave 47 = .ok (.ifCond .ne 5, 3) := by decide +kernel
theorem dX7_leave_50 : decode cX7_leave 50 = .ok (.iconst (-1), 1) := by decide +kernel
theorem dX7_leave_51 : decode cX7_leave 51 = .ok (.ireturn, 1) := by decide +kernel
theorem dX7_leave_52 : decode cX7_leave 52 = .ok (.iload_n 3, 1) := by decide +kernel
theorem dX7_leave_53 : decode cX7_leave 53 = .ok (.iload 4, 2) := by decide +kernel
theorem dX7_leave_55 : decode cX7_leave 55 = .ok (.if_icmp .ne 10, 3) := by decide +kernel
theorem dX7_leave_58 : decode cX7_leave 58 = .ok (.iload 4, 2) := by decide +kernel
theorem dX7_leave_60 : decode cX7_leave 60 = .ok (.iload_n 2, 1) := by decide +kernel
theorem dX7_leave_61 : decode cX7_leave 61 = .ok (.invokestatic 193, 3) := by decide +kernel
theorem dX7_leave_64 : decode cX7_leave 64 = .ok (.ireturn, 1) := by decide +kernel
theorem dX7_leave_65 : decode cX7_leave 65 = .ok (.iload_n 2, 1) := by decide +kernel
theorem dX7_leave_66 : decode cX7_leave 66 = .ok (.iload_n 3, 1) := by decide +kernel
theorem dX7_leave_67 : decode cX7_leave 67 = .ok (.isub, 1) := by decide +kernel
theorem dX7_leave_68 : decode cX7_leave 68 = .ok (.iload 4, 2) := by decide +kernel
theorem dX7_leave_70 : decode cX7_leave 70 = .ok (.invokestatic 196, 3) := by decide +kernel
theorem dX7_leave_73 : decode cX7_leave 73 = .ok (.istore 5, 2) := by decide +kernel
theorem dX7_leave_75 : decode cX7_leave 75 = .ok (.iload 5, 2) := by decide +kernel
theorem dX7_leave_77 : decode cX7_leave 77 = .ok (.iload_n 3, 1) := by decide +kernel
theorem dX7_leave_78 : decode cX7_leave 78 = .ok (.if_icmp .eq 6, 3) := by decide +kernel
theorem dX7_leave_81 : decode cX7_leave 81 = .ok (.iload 5, 2) := by decide +kernel
theorem dX7_leave_83 : decode cX7_leave 83 = .ok (.ireturn, 1) := by decide +kernel
theorem dX7_leave_84 : decode cX7_leave 84 = .ok (.iload_n 1, 1) := by decide +kernel
theorem dX7_leave_85 : decode cX7_leave 85 = .ok (.iload 4, 2) := by decide +kernel
theorem dX7_leave_87 : decode cX7_leave 87 = .ok (.if_icmp .ne 8, 3) := by decide +kernel
theorem dX7_leave_90 : decode cX7_leave 90 = .ok (.bipush (-4), 2) := by decide +kernel
theorem dX7_leave_92 : decode cX7_leave 92 = .ok (.goto 6, 3) := by decide +kernel
theorem dX7_leave_95 : decode cX7_leave 95 = .ok (.iload_n 1, 1) := by decide +kernel
theorem dX7_leave_96 : decode cX7_leave 96 = .ok (.iconst 1, 1) := by decide +kernel
theorem dX7_leave_97 : decode cX7_leave 97 = .ok (.isub, 1) := by decide +kernel
theorem dX7_leave_98 : decode cX7_leave 98 = .ok (.ireturn, 1) := by decide +kernel
theorem dX7_drawn_0 : decode cX7_drawn 0 = .ok (.iload_n 1, 1) := by decide +kernel
theorem dX7_drawn_1 : decode cX7_drawn 1 = .ok (.iconst 0, 1) := by decide +kernel
theorem dX7_drawn_2 : decode cX7_drawn 2 = .ok (.sipush 9999, 3) := by decide +kernel
theorem dX7_drawn_5 : decode cX7_drawn 5 = .ok (.invokestatic 70, 3) := by decide +kernel
theorem dX7_drawn_8 : decode cX7_drawn 8 = .ok (.ifCond .eq 12, 3) := by decide +kernel
theorem dX7_drawn_11 : decode cX7_drawn 11 = .ok (.iload_n 2, 1) := by decide +kernel
theorem dX7_drawn_12 : decode cX7_drawn 12 = .ok (.iconst 0, 1) := by decide +kernel
theorem dX7_drawn_13 : decode cX7_drawn 13 = .ok (.iconst 1, 1) := by decide +kernel
theorem dX7_drawn_14 : decode cX7_drawn 14 = .ok (.invokestatic 70, 3) := by decide +kernel
theorem dX7_drawn_17 : decode cX7_drawn 17 = .ok (.ifCond .ne 5, 3) := by decide +kernel
theorem dX7_drawn_20 : decode cX7_drawn 20 = .ok (.iconst (-1), 1) := by decide +kernel
theorem dX7_drawn_21 : decode cX7_drawn 21 = .ok (.ireturn, 1) := by decide +kernel
theorem dX7_drawn_22 : decode cX7_drawn 22 = .ok (.aload_n 0, 1) := by decide +kernel
theorem dX7_drawn_23 : decode cX7_drawn 23 = .ok (.getfield 37, 3) := by decide +kernel
theorem dX7_drawn_26 : decode cX7_drawn 26 = .ok (.aload_n 0, 1) := by decide +kernel
theorem dX7_drawn_27 : decode cX7_drawn 27 = .ok (.getfield 27, 3) := by decide +kernel
theorem dX7_drawn_30 : decode cX7_drawn 30 = .ok (.invokevirtual 201, 3) := by decide +kernel
theorem dX7_drawn_33 : decode cX7_drawn 33 = .ok (.aload_n 0, 1) := by decide +kernel
theorem dX7_drawn_34 : decode cX7_drawn 34 = .ok (.getfield 37, 3) := by decide +kernel
theorem dX7_drawn_37 : decode cX7_drawn 37 = .ok (.iload_n 1, 1) := by decide +kernel
theorem dX7_drawn_38 : decode cX7_drawn 38 = .ok (.invokevirtual 204, 3) := by decide +kernel
theorem dX7_drawn_41 : decode cX7_drawn 41 = .ok (.aload_n 0, 1) := by decide +kernel
theorem dX7_drawn_42 : decode cX7_drawn 42 = .ok (.getfield 37, 3) := by decide +kernel
theorem dX7_drawn_45 : decode cX7_drawn 45 = .ok (.invokevirtual 207, 3) := by decide +kernel
theorem dX7_drawn_48 : decode cX7_drawn 48 = .ok (.iload_n 2, 1) := by decide +kernel
theorem dX7_drawn_49 : decode cX7_drawn 49 = .ok (.ifCond .ne 13, 3) := by decide +kernel
theorem dX7_drawn_52 : decode cX7_drawn 52 = .ok (.aload_n 0, 1) := by decide +kernel
theorem dX7_drawn_53 : decode cX7_drawn 53 = .ok (.getfield 37, 3) := by decide +kernel
theorem dX7_drawn_56 : decode cX7_drawn 56 = .ok (.invokevirtual 210, 3) := by decide +kernel
theorem dX7_drawn_59 : decode cX7_drawn 59 = .ok (.goto 10, 3) := by decide +kernel
theorem dX7_drawn_62 : decode cX7_drawn 62 = .ok (.aload_n 0, 1) := by decide +kernel
theorem dX7_drawn_63 : decode cX7_drawn 63 = .ok (.getfield 37, 3) := by decide +kernel
theorem dX7_drawn_66 : decode cX7_drawn 66 = .ok (.invokevirtual 126, 3) := by decide +kernel
theorem dX7_drawn_69 : decode cX7_drawn 69 = .ok (.ireturn, 1) := by decide +kernel
theorem dX7_sign_0 : decode cX7_sign 0 = .ok (.iload_n 1, 1) := by decide +kernel
theorem dX7_sign_1 : decode cX7_sign 1 = .ok (.iconst 0, 1) := by decide +kernel
theorem dX7_sign_2 : decode cX7_sign 2 = .ok (.sipush 359, 3) := by decide +kernel
theorem dX7_sign_5 : decode cX7_sign 5 = .ok (.invokestatic 70, 3) := by decide +kernel
theorem dX7_sign_8 : decode cX7_sign 8 = .ok (.ifCond .eq 13, 3) := by decide +kernel
theorem dX7_sign_11 : decode cX7_sign 11 = .ok (.iload_n 2, 1) := by decide +kernel
theorem dX7_sign_12 : decode cX7_sign 12 = .ok (.iconst 1, 1) := by decide +kernel
theorem dX7_sign_13 : decode cX7_sign 13 = .ok (.bipush 99, 2) := by decide +kernel
theorem dX7_sign_15 : decode cX7_sign 15 = .ok (.invokestatic 70, 3) := by decide +kernel
theorem dX7_sign_18 : decode cX7_sign 18 = .ok (.ifCond .ne 5, 3) := by decide +kernel
theorem dX7_sign_21 : decode cX7_sign 21 = .ok (.iconst (-1), 1) := by decide +kernel
theorem dX7_sign_22 : decode cX7_sign 22 = .ok (.ireturn, 1) := by decide +kernel
theorem dX7_sign_23 : decode cX7_sign 23 = .ok (.aload_n 0, 1) := by decide +kernel
theorem dX7_sign_24 : decode cX7_sign 24 = .ok (.getfield 27, 3) := by decide +kernel
theorem dX7_sign_27 : decode cX7_sign 27 = .ok (.getfield 213, 3) := by decide +kernel
theorem dX7_sign_30 : decode cX7_sign 30 = .ok (.iload_n 1, 1) := by decide +kernel
theorem dX7_sign_31 : decode cX7_sign 31 = .ok (.iload_n 2, 1) := by decide +kernel
theorem dX7_sign_32 : decode cX7_sign 32 = .ok (.invokevirtual 217, 3) := by decide +kernel
theorem dX7_sign_35 : decode cX7_sign 35 = .ok (.ifCond .ne 6, 3) := by decide +kernel
theorem dX7_sign_38 : decode cX7_sign 38 = .ok (.bipush (-3), 2) := by decide +kernel
theorem dX7_sign_40 : decode cX7_sign 40 = .ok (.ireturn, 1) := by decide +kernel
theorem dX7_sign_41 : decode cX7_sign 41 = .ok (.aload_n 0, 1) := by decide +kernel
theorem dX7_sign_42 : decode cX7_sign 42 = .ok (.getfield 58, 3) := by decide +kernel
theorem dX7_sign_45 : decode cX7_sign 45 = .ok (.iconst 1, 1) := by decide +kernel
theorem dX7_sign_46 : decode cX7_sign 46 = .ok (.invokevirtual 223, 3) := by decide +kernel
theorem dX7_sign_49 : decode cX7_sign 49 = .ok (.aload_n 0, 1) := by decide +kernel
theorem dX7_sign_50 : decode cX7_sign 50 = .ok (.getfield 44, 3) := by decide +kernel
theorem dX7_sign_53 : decode cX7_sign 53 = .ok (.iconst 0, 1) := by decide +kernel
theorem dX7_sign_54 : decode cX7_sign 54 = .ok (.putfield 84, 3) := by decide +kernel
theorem dX7_sign_57 : decode cX7_sign 57 = .ok (.aload_n 0, 1) := by decide +kernel
theorem dX7_sign_58 : decode cX7_sign 58 = .ok (.getfield 27, 3) := by decide +kernel
theorem dX7_sign_61 : decode cX7_sign 61 = .ok (.getfield 213, 3) := by decide +kernel
theorem dX7_sign_64 : decode cX7_sign 64 = .ok (.getfield 227, 3) := by decide +kernel
theorem dX7_sign_67 : decode cX7_sign 67 = .ok (.ireturn, 1) := by decide +kernel
theorem dX7_say_0 : decode cX7_say 0 = .ok (.iload_n 1, 1) := by decide +kernel
theorem dX7_say_1 : decode cX7_say 1 = .ok (.iconst 0, 1) := by decide +kernel
theorem dX7_say_2 : decode cX7_say 2 = .ok (.sipush 359, 3) := by decide +kernel
theorem dX7_say_5 : decode cX7_say 5 = .ok (.invokestatic 70, 3) := by decide +kernel
theorem dX7_say_8 : decode cX7_say 8 = .ok (.ifCond .ne 5, 3) := by decide +kernel
theorem dX7_say_11 : decode cX7_say 11 = .ok (.iconst (-1), 1) := by decide +kernel
theorem dX7_say_12 : decode cX7_say 12 = .ok (.ireturn, 1) := by decide +kernel
theorem dX7_say_13 : decode cX7_say 13 = .ok (.aload_n 0, 1) := by decide +kernel
theorem dX7_say_14 : decode cX7_say 14 = .ok (.getfield 27, 3) := by decide +kernel
theorem dX7_say_17 : decode cX7_say 17 = .ok (.getfield 213, 3) := by decide +kernel
theorem dX7_say_20 : decode cX7_say 20 = .ok (.iload_n 1, 1) := by decide +kernel
theorem dX7_say_21 : decode cX7_say 21 = .ok (.invokevirtual 230, 3) := by decide +kernel
theorem dX7_say_24 : decode cX7_say 24 = .ok (.ifCond .ne 6, 3) := by decide +kernel
theorem dX7_say_27 : decode cX7_say 27 = .ok (.bipush (-3), 2) := by decide +kernel
theorem dX7_say_29 : decode cX7_say 29 = .ok (.ireturn, 1) := by decide +kernel
theorem dX7_say_30 : decode cX7_say 30 = .ok (.aload_n 0, 1) := by decide +kernel
theorem dX7_say_31 : decode cX7_say 31 = .ok (.getfield 58, 3) := by decide +kernel
theorem dX7_say_34 : decode cX7_say 34 = .ok (.iconst 0, 1) := by decide +kernel
theorem dX7_say_35 : decode cX7_say 35 = .ok (.invokevirtual 223, 3) := by decide +kernel
theorem dX7_say_38 : decode cX7_say 38 = .ok (.aload_n 0, 1) := by decide +kernel
theorem dX7_say_39 : decode cX7_say 39 = .ok (.getfield 44, 3) := by decide +kernel
theorem dX7_say_42 : decode cX7_say 42 = .ok (.iconst 0, 1) := by decide +kernel
theorem dX7_say_43 : decode cX7_say 43 = .ok (.putfield 84, 3) := by decide +kernel
theorem dX7_say_46 : decode cX7_say 46 = .ok (.aload_n 0, 1) := by decide +kernel
theorem dX7_say_47 : decode cX7_say 47 = .ok (.getfield 27, 3) := by decide +kernel
theorem dX7_say_50 : decode cX7_say 50 = .ok (.getfield 213, 3) := by decide +kernel
theorem dX7_say_53 : decode cX7_say 53 = .ok (.getfield 233, 3) := by decide +kernel
theorem dX7_say_56 : decode cX7_say 56 = .ok (.ireturn, 1) := by decide +kernel
theorem dX7_takeBack_0 : decode cX7_takeBack 0 = .ok (.aload_n 0, 1) := by decide +kernel
theorem dX7_takeBack_1 : decode cX7_takeBack 1 = .ok (.getfield 58, 3) := by decide +kernel
theorem dX7_takeBack_4 : decode cX7_takeBack 4 = .ok (.getfield 236, 3) := by decide +kernel
theorem dX7_takeBack_7 : decode cX7_takeBack 7 = .ok (.ifCond .ne 6, 3) := by decide +kernel
theorem dX7_takeBack_10 : decode cX7_takeBack 10 = .ok (.bipush (-2), 2) := by decide +kernel
theorem dX7_takeBack_12 : decode cX7_takeBack 12 = .ok (.ireturn, 1) := by decide +kernel
theorem dX7_takeBack_13 : decode cX7_takeBack 13 = .ok (.aload_n 0, 1) := by decide +kernel
theorem dX7_takeBack_14 : decode cX7_takeBack 14 = .ok (.getfield 58, 3) := by decide +kernel
theorem dX7_takeBack_17 : decode cX7_takeBack 17 = .ok (.aload_n 0, 1) := by decide +kernel
theorem dX7_takeBack_18 : decode cX7_takeBack 18 = .ok (.getfield 27, 3) := by decide +kernel
theorem dX7_takeBack_21 : decode cX7_takeBack 21 = .ok (.getfield 213, 3) := by decide +kernel
theorem dX7_takeBack_24 : decode cX7_takeBack 24 = .ok (.invokevirtual 239, 3) := by decide +kernel
theorem dX7_takeBack_27 : decode cX7_takeBack 27 = .ok (.aload_n 0, 1) := by decide +kernel
theorem dX7_takeBack_28 : decode cX7_takeBack 28 = .ok (.getfield 44, 3) := by decide +kernel
theorem dX7_takeBack_31 : decode cX7_takeBack 31 = .ok (.iconst 0, 1) := by decide +kernel
theorem dX7_takeBack_32 : decode cX7_takeBack 32 = .ok (.putfield 84, 3) := by decide +kernel
theorem dX7_takeBack_35 : decode cX7_takeBack 35 = .ok (.aload_n 0, 1) := by decide +kernel
theorem dX7_takeBack_36 : decode cX7_takeBack 36 = .ok (.getfield 58, 3) := by decide +kernel
theorem dX7_takeBack_39 : decode cX7_takeBack 39 = .ok (.getfield 236, 3) := by decide +kernel
theorem dX7_takeBack_42 : decode cX7_takeBack 42 = .ok (.ireturn, 1) := by decide +kernel
theorem dX7_keep_0 : decode cX7_keep 0 = .ok (.aload_n 0, 1) := by decide +kernel
theorem dX7_keep_1 : decode cX7_keep 1 = .ok (.getfield 58, 3) := by decide +kernel
theorem dX7_keep_4 : decode cX7_keep 4 = .ok (.aload_n 0, 1) := by decide +kernel
theorem dX7_keep_5 : decode cX7_keep 5 = .ok (.getfield 27, 3) := by decide +kernel
theorem dX7_keep_8 : decode cX7_keep 8 = .ok (.getfield 213, 3) := by decide +kernel
theorem dX7_keep_11 : decode cX7_keep 11 = .ok (.invokevirtual 243, 3) := by decide +kernel
theorem dX7_keep_14 : decode cX7_keep 14 = .ok (.ifCond .eq 13, 3) := by decide +kernel
theorem dX7_keep_17 : decode cX7_keep 17 = .ok (.aload_n 0, 1) := by decide +kernel
theorem dX7_keep_18 : decode cX7_keep 18 = .ok (.getfield 58, 3) := by decide +kernel
theorem dX7_keep_21 : decode cX7_keep 21 = .ok (.getfield 247, 3) := by decide +kernel
theorem dX7_keep_24 : decode cX7_keep 24 = .ok (.goto 5, 3) := by decide +kernel
theorem dX7_keep_27 : decode cX7_keep 27 = .ok (.bipush (-3), 2) := by decide +kernel
theorem dX7_keep_29 : decode cX7_keep 29 = .ok (.ireturn, 1) := by decide +kernel
theorem dX7_back_0 : decode cX7_back 0 = .ok (.aload_n 0, 1) := by decide +kernel
theorem dX7_back_1 : decode cX7_back 1 = .ok (.getfield 58, 3) := by decide +kernel
theorem dX7_back_4 : decode cX7_back 4 = .ok (.aload_n 0, 1) := by decide +kernel
theorem dX7_back_5 : decode cX7_back 5 = .ok (.getfield 27, 3) := by decide +kernel
theorem dX7_back_8 : decode cX7_back 8 = .ok (.getfield 213, 3) := by decide +kernel
theorem dX7_back_11 : decode cX7_back 11 = .ok (.invokevirtual 250, 3) := by decide +kernel
theorem dX7_back_14 : decode cX7_back 14 = .ok (.ifCond .ne 6, 3) := by decide +kernel
theorem dX7_back_17 : decode cX7_back 17 = .ok (.bipush (-2), 2) := by decide +kernel
theorem dX7_back_19 : decode cX7_back 19 = .ok (.ireturn, 1) := by decide +kernel
theorem dX7_back_20 : decode cX7_back 20 = .ok (.aload_n 0, 1) := by decide +kernel
theorem dX7_back_21 : decode cX7_back 21 = .ok (.getfield 44, 3) := by decide +kernel
theorem dX7_back_24 : decode cX7_back 24 = .ok (.iconst 0, 1) := by decide +kernel
theorem dX7_back_25 : decode cX7_back 25 = .ok (.putfield 84, 3) := by decide +kernel
theorem dX7_back_28 : decode cX7_back 28 = .ok (.aload_n 0, 1) := by decide +kernel
theorem dX7_back_29 : decode cX7_back 29 = .ok (.getfield 58, 3) := by decide +kernel
theorem dX7_back_32 : decode cX7_back 32 = .ok (.getfield 247, 3) := by decide +kernel
theorem dX7_back_35 : decode cX7_back 35 = .ok (.ireturn, 1) := by decide +kernel
theorem dX7_count_0 : decode cX7_count 0 = .ok (.iload_n 1, 1) := by decide +kernel
theorem dX7_count_1 : decode cX7_count 1 = .ok (.tableswitch 126 0 8 #[51, 59, 67, 78, 89, 97, 105, 113, 121], 51) := by decide +kernel
theorem dX7_count_52 : decode cX7_count 52 = .ok (.aload_n 0, 1) := by decide +kernel
theorem dX7_count_53 : decode cX7_count 53 = .ok (.getfield 27, 3) := by decide +kernel
theorem dX7_count_56 : decode cX7_count 56 = .ok (.getfield 78, 3) := by decide +kernel
theorem dX7_count_59 : decode cX7_count 59 = .ok (.ireturn, 1) := by decide +kernel
theorem dX7_count_60 : decode cX7_count 60 = .ok (.aload_n 0, 1) := by decide +kernel
theorem dX7_count_61 : decode cX7_count 61 = .ok (.getfield 51, 3) := by decide +kernel
theorem dX7_count_64 : decode cX7_count 64 = .ok (.getfield 156, 3) := by decide +kernel
theorem dX7_count_67 : decode cX7_count 67 = .ok (.ireturn, 1) := by decide +kernel
theorem dX7_count_68 : decode cX7_count 68 = .ok (.aload_n 0, 1) := by decide +kernel
theorem dX7_count_69 : decode cX7_count 69 = .ok (.getfield 27, 3) := by decide +kernel
theorem dX7_count_72 : decode cX7_count 72 = .ok (.getfield 213, 3) := by decide +kernel
theorem dX7_count_75 : decode cX7_count 75 = .ok (.getfield 227, 3) := by decide +kernel
theorem dX7_count_78 : decode cX7_count 78 = .ok (.ireturn, 1) := by decide +kernel
theorem dX7_count_79 : decode cX7_count 79 = .ok (.aload_n 0, 1) := by decide +kernel
theorem dX7_count_80 : decode cX7_count 80 = .ok (.getfield 27, 3) := by decide +kernel
theorem dX7_count_83 : decode cX7_count 83 = .ok (.getfield 213, 3) := by decide +kernel
theorem dX7_count_86 : decode cX7_count 86 = .ok (.getfield 233, 3) := by decide +kernel
theorem dX7_count_89 : decode cX7_count 89 = .ok (.ireturn, 1) := by decide +kernel
theorem dX7_count_90 : decode cX7_count 90 = .ok (.aload_n 0, 1) := by decide +kernel
theorem dX7_count_91 : decode cX7_count 91 = .ok (.getfield 27, 3) := by decide +kernel
theorem dX7_count_94 : decode cX7_count 94 = .ok (.getfield 143, 3) := by decide +kernel
theorem dX7_count_97 : decode cX7_count 97 = .ok (.ireturn, 1) := by decide +kernel
theorem dX7_count_98 : decode cX7_count 98 = .ok (.aload_n 0, 1) := by decide +kernel
theorem dX7_count_99 : decode cX7_count 99 = .ok (.getfield 27, 3) := by decide +kernel
theorem dX7_count_102 : decode cX7_count 102 = .ok (.getfield 253, 3) := by decide +kernel
theorem dX7_count_105 : decode cX7_count 105 = .ok (.ireturn, 1) := by decide +kernel
theorem dX7_count_106 : decode cX7_count 106 = .ok (.aload_n 0, 1) := by decide +kernel
theorem dX7_count_107 : decode cX7_count 107 = .ok (.getfield 58, 3) := by decide +kernel
theorem dX7_count_110 : decode cX7_count 110 = .ok (.getfield 236, 3) := by decide +kernel
theorem dX7_count_113 : decode cX7_count 113 = .ok (.ireturn, 1) := by decide +kernel
theorem dX7_count_114 : decode cX7_count 114 = .ok (.aload_n 0, 1) := by decide +kernel
theorem dX7_count_115 : decode cX7_count 115 = .ok (.getfield 58, 3) := by decide +kernel
theorem dX7_count_118 : decode cX7_count 118 = .ok (.getfield 247, 3) := by decide +kernel
theorem dX7_count_121 : decode cX7_count 121 = .ok (.ireturn, 1) := by decide +kernel
theorem dX7_count_122 : decode cX7_count 122 = .ok (.aload_n 0, 1) := by decide +kernel
theorem dX7_count_123 : decode cX7_count 123 = .ok (.getfield 13, 3) := by decide +kernel
theorem dX7_count_126 : decode cX7_count 126 = .ok (.ireturn, 1) := by decide +kernel
theorem dX7_count_127 : decode cX7_count 127 = .ok (.iconst (-1), 1) := by decide +kernel
theorem dX7_count_128 : decode cX7_count 128 = .ok (.ireturn, 1) := by decide +kernel
theorem dX7_within_0 : decode cX7_within 0 = .ok (.iload_n 0, 1) := by decide +kernel
theorem dX7_within_1 : decode cX7_within 1 = .ok (.iload_n 1, 1) := by decide +kernel
theorem dX7_within_2 : decode cX7_within 2 = .ok (.if_icmp .lt 12, 3) := by decide +kernel
theorem dX7_within_5 : decode cX7_within 5 = .ok (.iload_n 0, 1) := by decide +kernel
theorem dX7_within_6 : decode cX7_within 6 = .ok (.iload_n 2, 1) := by decide +kernel
theorem dX7_within_7 : decode cX7_within 7 = .ok (.if_icmp .gt 7, 3) := by decide +kernel
theorem dX7_within_10 : decode cX7_within 10 = .ok (.iconst 1, 1) := by decide +kernel
theorem dX7_within_11 : decode cX7_within 11 = .ok (.goto 4, 3) := by decide +kernel
theorem dX7_within_14 : decode cX7_within 14 = .ok (.iconst 0, 1) := by decide +kernel
theorem dX7_within_15 : decode cX7_within 15 = .ok (.ireturn, 1) := by decide +kernel
theorem dX7_isGuest_0 : decode cX7_isGuest 0 = .ok (.iload_n 1, 1) := by decide +kernel
theorem dX7_isGuest_1 : decode cX7_isGuest 1 = .ok (.iconst 0, 1) := by decide +kernel
theorem dX7_isGuest_2 : decode cX7_isGuest 2 = .ok (.aload_n 0, 1) := by decide +kernel
theorem dX7_isGuest_3 : decode cX7_isGuest 3 = .ok (.getfield 27, 3) := by decide +kernel
theorem dX7_isGuest_6 : decode cX7_isGuest 6 = .ok (.getfield 78, 3) := by decide +kernel
theorem dX7_isGuest_9 : decode cX7_isGuest 9 = .ok (.iconst 1, 1) := by decide +kernel
theorem dX7_isGuest_10 : decode cX7_isGuest 10 = .ok (.isub, 1) := by decide +kernel
theorem dX7_isGuest_11 : decode cX7_isGuest 11 = .ok (.invokestatic 70, 3) := by decide +kernel
theorem dX7_isGuest_14 : decode cX7_isGuest 14 = .ok (.ireturn, 1) := by decide +kernel
theorem dX7_passAsItIs_0 : decode cX7_passAsItIs 0 = .ok (.aload_n 0, 1) := by decide +kernel
theorem dX7_passAsItIs_1 : decode cX7_passAsItIs 1 = .ok (.getfield 37, 3) := by decide +kernel
theorem dX7_passAsItIs_4 : decode cX7_passAsItIs 4 = .ok (.aload_n 0, 1) := by decide +kernel
theorem dX7_passAsItIs_5 : decode cX7_passAsItIs 5 = .ok (.getfield 27, 3) := by decide +kernel
theorem dX7_passAsItIs_8 : decode cX7_passAsItIs 8 = .ok (.invokevirtual 201, 3) := by decide +kernel
theorem dX7_passAsItIs_11 : decode cX7_passAsItIs 11 = .ok (.aload_n 0, 1) := by decide +kernel
theorem dX7_passAsItIs_12 : decode cX7_passAsItIs 12 = .ok (.getfield 37, 3) := by decide +kernel
theorem dX7_passAsItIs_15 : decode cX7_passAsItIs 15 = .ok (.invokevirtual 207, 3) := by decide +kernel
theorem dX7_passAsItIs_18 : decode cX7_passAsItIs 18 = .ok (.return_, 1) := by decide +kernel
theorem dX7_allWithBus_0 : decode cX7_allWithBus 0 = .ok (.aload_n 0, 1) := by decide +kernel
theorem dX7_allWithBus_1 : decode cX7_allWithBus 1 = .ok (.getfield 37, 3) := by decide +kernel
theorem dX7_allWithBus_4 : decode cX7_allWithBus 4 = .ok (.aload_n 0, 1) := by decide +kernel
theorem dX7_allWithBus_5 : decode cX7_allWithBus 5 = .ok (.getfield 27, 3) := by decide +kernel
theorem dX7_allWithBus_8 : decode cX7_allWithBus 8 = .ok (.invokevirtual 201, 3) := by decide +kernel
theorem dX7_allWithBus_11 : decode cX7_allWithBus 11 = .ok (.aload_n 0, 1) := by decide +kernel
theorem dX7_allWithBus_12 : decode cX7_allWithBus 12 = .ok (.getfield 37, 3) := by decide +kernel
theorem dX7_allWithBus_15 : decode cX7_allWithBus 15 = .ok (.iload_n 1, 1) := by decide +kernel
theorem dX7_allWithBus_16 : decode cX7_allWithBus 16 = .ok (.iload_n 2, 1) := by decide +kernel
theorem dX7_allWithBus_17 : decode cX7_allWithBus 17 = .ok (.invokevirtual 256, 3) := by decide +kernel
theorem dX7_allWithBus_20 : decode cX7_allWithBus 20 = .ok (.aload_n 0, 1) := by decide +kernel
theorem dX7_allWithBus_21 : decode cX7_allWithBus 21 = .ok (.getfield 37, 3) := by decide +kernel
theorem dX7_allWithBus_24 : decode cX7_allWithBus 24 = .ok (.invokevirtual 207, 3) := by decide +kernel
theorem dX7_allWithBus_27 : decode cX7_allWithBus 27 = .ok (.aload_n 0, 1) := by decide +kernel
theorem dX7_allWithBus_28 : decode cX7_allWithBus 28 = .ok (.getfield 37, 3) := by decide +kernel
theorem dX7_allWithBus_31 : decode cX7_allWithBus 31 = .ok (.invokevirtual 126, 3) := by decide +kernel
theorem dX7_allWithBus_34 : decode cX7_allWithBus 34 = .ok (.ireturn, 1) := by decide +kernel
theorem dX7_allWithBell_0 : decode cX7_allWithBell 0 = .ok (.aload_n 0, 1) := by decide +kernel
theorem dX7_allWithBell_1 : decode cX7_allWithBell 1 = .ok (.getfield 37, 3) := by decide +kernel
theorem dX7_allWithBell_4 : decode cX7_allWithBell 4 = .ok (.aload_n 0, 1) := by decide +kernel
theorem dX7_allWithBell_5 : decode cX7_allWithBell 5 = .ok (.getfield 27, 3) := by decide +kernel
theorem dX7_allWithBell_8 : decode cX7_allWithBell 8 = .ok (.invokevirtual 201, 3) := by decide +kernel
theorem dX7_allWithBell_11 : decode cX7_allWithBell 11 = .ok (.aload_n 0, 1) := by decide +kernel
theorem dX7_allWithBell_12 : decode cX7_allWithBell 12 = .ok (.getfield 37, 3) := by decide +kernel
theorem dX7_allWithBell_15 : decode cX7_allWithBell 15 = .ok (.iload_n 1, 1) := by decide +kernel
theorem dX7_allWithBell_16 : decode cX7_allWithBell 16 = .ok (.invokevirtual 260, 3) := by decide +kernel
theorem dX7_allWithBell_19 : decode cX7_allWithBell 19 = .ok (.aload_n 0, 1) := by decide +kernel
theorem dX7_allWithBell_20 : decode cX7_allWithBell 20 = .ok (.getfield 37, 3) := by decide +kernel
theorem dX7_allWithBell_23 : decode cX7_allWithBell 23 = .ok (.invokevirtual 207, 3) := by decide +kernel
theorem dX7_allWithBell_26 : decode cX7_allWithBell 26 = .ok (.aload_n 0, 1) := by decide +kernel
theorem dX7_allWithBell_27 : decode cX7_allWithBell 27 = .ok (.getfield 37, 3) := by decide +kernel
theorem dX7_allWithBell_30 : decode cX7_allWithBell 30 = .ok (.invokevirtual 126, 3) := by decide +kernel
theorem dX7_allWithBell_33 : decode cX7_allWithBell 33 = .ok (.ireturn, 1) := by decide +kernel
theorem dX7_leftAlone_0 : decode cX7_leftAlone 0 = .ok (.iconst 0, 1) := by decide +kernel
theorem dX7_leftAlone_1 : decode cX7_leftAlone 1 = .ok (.istore_n 2, 1) := by decide +kernel
theorem dX7_leftAlone_2 : decode cX7_leftAlone 2 = .ok (.iload_n 2, 1) := by decide +kernel
theorem dX7_leftAlone_3 : decode cX7_leftAlone 3 = .ok (.iload_n 0, 1) := by decide +kernel
theorem dX7_leftAlone_4 : decode cX7_leftAlone 4 = .ok (.if_icmp .ge 22, 3) := by decide +kernel
theorem dX7_leftAlone_7 : decode cX7_leftAlone 7 = .ok (.iload_n 1, 1) := by decide +kernel
theorem dX7_leftAlone_8 : decode cX7_leftAlone 8 = .ok (.iload_n 2, 1) := by decide +kernel
theorem dX7_leftAlone_9 : decode cX7_leftAlone 9 = .ok (.isub, 1) := by decide +kernel
theorem dX7_leftAlone_10 : decode cX7_leftAlone 10 = .ok (.iload_n 0, 1) := by decide +kernel
theorem dX7_leftAlone_11 : decode cX7_leftAlone 11 = .ok (.invokestatic 196, 3) := by decide +kernel
theorem dX7_leftAlone_14 : decode cX7_leftAlone 14 = .ok (.iload_n 2, 1) := by decide +kernel
theorem dX7_leftAlone_15 : decode cX7_leftAlone 15 = .ok (.if_icmp .ne 5, 3) := by decide +kernel
theorem dX7_leftAlone_18 : decode cX7_leftAlone 18 = .ok (.iload_n 2, 1) := by decide +kernel
theorem dX7_leftAlone_19 : decode cX7_leftAlone 19 = .ok (.ireturn, 1) := by decide +kernel
theorem dX7_leftAlone_20 : decode cX7_leftAlone 20 = .ok (.iinc 2 1, 3) := by decide +kernel
theorem dX7_leftAlone_23 : decode cX7_leftAlone 23 = .ok (.goto (-21), 3) := by decide +kernel
theorem dX7_leftAlone_26 : decode cX7_leftAlone 26 = .ok (.bipush (-4), 2) := by decide +kernel
theorem dX7_leftAlone_28 : decode cX7_leftAlone 28 = .ok (.ireturn, 1) := by decide +kernel
theorem dX7_inLowestTerms_0 : decode cX7_inLowestTerms 0 = .ok (.iload_n 1, 1) := by decide +kernel
theorem dX7_inLowestTerms_1 : decode cX7_inLowestTerms 1 = .ok (.ifCond .gt 6, 3) := by decide +kernel
theorem dX7_inLowestTerms_4 : decode cX7_inLowestTerms 4 = .ok (.bipush (-4), 2) := by decide +kernel
theorem dX7_inLowestTerms_6 : decode cX7_inLowestTerms 6 = .ok (.ireturn, 1) := by decide +kernel
theorem dX7_inLowestTerms_7 : decode cX7_inLowestTerms 7 = .ok (.iload_n 1, 1) := by decide +kernel
theorem dX7_inLowestTerms_8 : decode cX7_inLowestTerms 8 = .ok (.iload_n 0, 1) := by decide +kernel
theorem dX7_inLowestTerms_9 : decode cX7_inLowestTerms 9 = .ok (.invokestatic 263, 3) := by decide +kernel
theorem dX7_inLowestTerms_12 : decode cX7_inLowestTerms 12 = .ok (.istore_n 3, 1) := by decide +kernel
theorem dX7_inLowestTerms_13 : decode cX7_inLowestTerms 13 = .ok (.iload_n 2, 1) := by decide +kernel
theorem dX7_inLowestTerms_14 : decode cX7_inLowestTerms 14 = .ok (.ifCond .ne 7, 3) := by decide +kernel
theorem dX7_inLowestTerms_17 : decode cX7_inLowestTerms 17 = .ok (.iload_n 0, 1) := by decide +kernel
theorem dX7_inLowestTerms_18 : decode cX7_inLowestTerms 18 = .ok (.goto 4, 3) := by decide +kernel
theorem dX7_inLowestTerms_21 : decode cX7_inLowestTerms 21 = .ok (.iload_n 1, 1) := by decide +kernel
theorem dX7_inLowestTerms_22 : decode cX7_inLowestTerms 22 = .ok (.iload_n 3, 1) := by decide +kernel
theorem dX7_inLowestTerms_23 : decode cX7_inLowestTerms 23 = .ok (.idiv, 1) := by decide +kernel
theorem dX7_inLowestTerms_24 : decode cX7_inLowestTerms 24 = .ok (.ireturn, 1) := by decide +kernel
theorem dX7_greatestDivisor_0 : decode cX7_greatestDivisor 0 = .ok (.iload_n 0, 1) := by decide +kernel
theorem dX7_greatestDivisor_1 : decode cX7_greatestDivisor 1 = .ok (.istore_n 2, 1) := by decide +kernel
theorem dX7_greatestDivisor_2 : decode cX7_greatestDivisor 2 = .ok (.iload_n 1, 1) := by decide +kernel
theorem dX7_greatestDivisor_3 : decode cX7_greatestDivisor 3 = .ok (.istore_n 3, 1) := by decide +kernel
theorem dX7_greatestDivisor_4 : decode cX7_greatestDivisor 4 = .ok (.iconst 0, 1) := by decide +kernel
theorem dX7_greatestDivisor_5 : decode cX7_greatestDivisor 5 = .ok (.istore 4, 2) := by decide +kernel
theorem dX7_greatestDivisor_7 : decode cX7_greatestDivisor 7 = .ok (.iload 4, 2) := by decide +kernel
theorem dX7_greatestDivisor_9 : decode cX7_greatestDivisor 9 = .ok (.bipush 100, 2) := by decide +kernel
theorem dX7_greatestDivisor_11 : decode cX7_greatestDivisor 11 = .ok (.if_icmp .ge 23, 3) := by decide +kernel
theorem dX7_greatestDivisor_14 : decode cX7_greatestDivisor 14 = .ok (.iload_n 3, 1) := by decide +kernel
theorem dX7_greatestDivisor_15 : decode cX7_greatestDivisor 15 = .ok (.ifCond .le 19, 3) := by decide +kernel
theorem dX7_greatestDivisor_18 : decode cX7_greatestDivisor 18 = .ok (.iload_n 2, 1) := by decide +kernel
theorem dX7_greatestDivisor_19 : decode cX7_greatestDivisor 19 = .ok (.iload_n 3, 1) := by decide +kernel
theorem dX7_greatestDivisor_20 : decode cX7_greatestDivisor 20 = .ok (.irem, 1) := by decide +kernel
theorem dX7_greatestDivisor_21 : decode cX7_greatestDivisor 21 = .ok (.istore 5, 2) := by decide +kernel
theorem dX7_greatestDivisor_23 : decode cX7_greatestDivisor 23 = .ok (.iload_n 3, 1) := by decide +kernel
theorem dX7_greatestDivisor_24 : decode cX7_greatestDivisor 24 = .ok (.istore_n 2, 1) := by decide +kernel
theorem dX7_greatestDivisor_25 : decode cX7_greatestDivisor 25 = .ok (.iload 5, 2) := by decide +kernel
theorem dX7_greatestDivisor_27 : decode cX7_greatestDivisor 27 = .ok (.istore_n 3, 1) := by decide +kernel
theorem dX7_greatestDivisor_28 : decode cX7_greatestDivisor 28 = .ok (.iinc 4 1, 3) := by decide +kernel
theorem dX7_greatestDivisor_31 : decode cX7_greatestDivisor 31 = .ok (.goto (-24), 3) := by decide +kernel
theorem dX7_greatestDivisor_34 : decode cX7_greatestDivisor 34 = .ok (.iload_n 2, 1) := by decide +kernel
theorem dX7_greatestDivisor_35 : decode cX7_greatestDivisor 35 = .ok (.iconst 1, 1) := by decide +kernel
theorem dX7_greatestDivisor_36 : decode cX7_greatestDivisor 36 = .ok (.invokestatic 266, 3) := by decide +kernel
theorem dX7_greatestDivisor_39 : decode cX7_greatestDivisor 39 = .ok (.ireturn, 1) := by decide +kernel
theorem dX8_init_0 : decode cX8_init 0 = .ok (.aload_n 0, 1) := by decide +kernel
theorem dX8_init_1 : decode cX8_init 1 = .ok (.invokespecial 1, 3) := by decide +kernel
theorem dX8_init_4 : decode cX8_init 4 = .ok (.aload_n 0, 1) := by decide +kernel
theorem dX8_init_5 : decode cX8_init 5 = .ok (.sipush 400, 3) := by decide +kernel
theorem dX8_init_8 : decode cX8_init 8 = .ok (.newarray .int, 2) := by decide +kernel
theorem dX8_init_10 : decode cX8_init 10 = .ok (.putfield 7, 3) := by decide +kernel
theorem dX8_init_13 : decode cX8_init 13 = .ok (.aload_n 0, 1) := by decide +kernel
theorem dX8_init_14 : decode cX8_init 14 = .ok (.iconst 2, 1) := by decide +kernel
theorem dX8_init_15 : decode cX8_init 15 = .ok (.newarray .int, 2) := by decide +kernel
theorem dX8_init_17 : decode cX8_init 17 = .ok (.putfield 13, 3) := by decide +kernel
theorem dX8_init_20 : decode cX8_init 20 = .ok (.aload_n 0, 1) := by decide +kernel
theorem dX8_init_21 : decode cX8_init 21 = .ok (.bipush 16, 2) := by decide +kernel
theorem dX8_init_23 : decode cX8_init 23 = .ok (.newarray .int, 2) := by decide +kernel
theorem dX8_init_25 : decode cX8_init 25 = .ok (.putfield 16, 3) := by decide +kernel
theorem dX8_init_28 : decode cX8_init 28 = .ok (.aload_n 0, 1) := by decide +kernel
theorem dX8_init_29 : decode cX8_init 29 = .ok (.bipush 16, 2) := by decide +kernel
theorem dX8_init_31 : decode cX8_init 31 = .ok (.newarray .int, 2) := by decide +kernel
theorem dX8_init_33 : decode cX8_init 33 = .ok (.putfield 19, 3) := by decide +kernel
theorem dX8_init_36 : decode cX8_init 36 = .ok (.aload_n 0, 1) := by decide +kernel
theorem dX8_init_37 : decode cX8_init 37 = .ok (.bipush 16, 2) := by decide +kernel
theorem dX8_init_39 : decode cX8_init 39 = .ok (.newarray .int, 2) := by decide +kernel
theorem dX8_init_41 : decode cX8_init 41 = .ok (.putfield 22, 3) := by decide +kernel
theorem dX8_init_44 : decode cX8_init 44 = .ok (.aload_n 0, 1) := by decide +kernel
theorem dX8_init_45 : decode cX8_init 45 = .ok (.bipush 16, 2) := by decide +kernel
theorem dX8_init_47 : decode cX8_init 47 = .ok (.newarray .int, 2) := by decide +kernel
theorem dX8_init_49 : decode cX8_init 49 = .ok (.putfield 25, 3) := by decide +kernel
theorem dX8_init_52 : decode cX8_init 52 = .ok (.aload_n 0, 1) := by decide +kernel
theorem dX8_init_53 : decode cX8_init 53 = .ok (.iconst 2, 1) := by decide +kernel
theorem dX8_init_54 : decode cX8_init 54 = .ok (.newarray .int, 2) := by decide +kernel
theorem dX8_init_56 : decode cX8_init 56 = .ok (.putfield 28, 3) := by decide +kernel
theorem dX8_init_59 : decode cX8_init 59 = .ok (.aload_n 0, 1) := by decide +kernel
theorem dX8_init_60 : decode cX8_init 60 = .ok (.bipush 6, 2) := by decide +kernel
theorem dX8_init_62 : decode cX8_init 62 = .ok (.newarray .int, 2) := by decide +kernel
theorem dX8_init_64 : decode cX8_init 64 = .ok (.putfield 31, 3) := by decide +kernel
theorem dX8_init_67 : decode cX8_init 67 = .ok (.aload_n 0, 1) := by decide +kernel
theorem dX8_init_68 : decode cX8_init 68 = .ok (.bipush 6, 2) := by decide +kernel
theorem dX8_init_70 : decode cX8_init 70 = .ok (.newarray .int, 2) := by decide +kernel
theorem dX8_init_72 : decode cX8_init 72 = .ok (.putfield 34, 3) := by decide +kernel
theorem dX8_init_75 : decode cX8_init 75 = .ok (.aload_n 0, 1) := by decide +kernel
theorem dX8_init_76 : decode cX8_init 76 = .ok (.iconst 2, 1) := by decide +kernel
theorem dX8_init_77 : decode cX8_init 77 = .ok (.newarray .int, 2) := by decide +kernel
theorem dX8_init_79 : decode cX8_init 79 = .ok (.putfield 37, 3) := by decide +kernel
theorem dX8_init_82 : decode cX8_init 82 = .ok (.aload_n 0, 1) := by decide +kernel
theorem dX8_init_83 : decode cX8_init 83 = .ok (.iconst 2, 1) := by decide +kernel
theorem dX8_init_84 : decode cX8_init 84 = .ok (.newarray .int, 2) := by decide +kernel
theorem dX8_init_86 : decode cX8_init 86 = .ok (.putfield 40, 3) := by decide +kernel
theorem dX8_init_89 : decode cX8_init 89 = .ok (.aload_n 0, 1) := by decide +kernel
theorem dX8_init_90 : decode cX8_init 90 = .ok (.iconst 2, 1) := by decide +kernel
theorem dX8_init_91 : decode cX8_init 91 = .ok (.newarray .int, 2) := by decide +kernel
theorem dX8_init_93 : decode cX8_init 93 = .ok (.putfield 43, 3) := by decide +kernel
theorem dX8_init_96 : decode cX8_init 96 = .ok (.aload_n 0, 1) := by decide +kernel
theorem dX8_init_97 : decode cX8_init 97 = .ok (.bipush 6, 2) := by decide +kernel
theorem dX8_init_99 : decode cX8_init 99 = .ok (.newarray .int, 2) := by decide +kernel
theorem dX8_init_101 : decode cX8_init 101 = .ok (.putfield 46, 3) := by decide +kernel
theorem dX8_init_104 : decode cX8_init 104 = .ok (.aload_n 0, 1) := by decide +kernel
theorem dX8_init_105 : decode cX8_init 105 = .ok (.bipush 6, 2) := by decide +kernel
theorem dX8_init_107 : decode cX8_init 107 = .ok (.newarray .int, 2) := by decide +kernel
theorem dX8_init_109 : decode cX8_init 109 = .ok (.putfield 49, 3) := by decide +kernel
theorem dX8_init_112 : decode cX8_init 112 = .ok (.aload_n 0, 1) := by decide +kernel
theorem dX8_init_113 : decode cX8_init 113 = .ok (.iconst 2, 1) := by decide +kernel
theorem dX8_init_114 : decode cX8_init 114 = .ok (.newarray .int, 2) := by decide +kernel
theorem dX8_init_116 : decode cX8_init 116 = .ok (.putfield 52, 3) := by decide +kernel
theorem dX8_init_119 : decode cX8_init 119 = .ok (.aload_n 0, 1) := by decide +kernel
theorem dX8_init_120 : decode cX8_init 120 = .ok (.bipush 12, 2) := by decide +kernel
theorem dX8_init_122 : decode cX8_init 122 = .ok (.newarray .int, 2) := by decide +kernel
theorem dX8_init_124 : decode cX8_init 124 = .ok (.putfield 55, 3) := by decide +kernel
theorem dX8_init_127 : decode cX8_init 127 = .ok (.aload_n 0, 1) := by decide +kernel
theorem dX8_init_128 : decode cX8_init 128 = .ok (.bipush 12, 2) := by decide +kernel
theorem dX8_init_130 : decode cX8_init 130 = .ok (.newarray .int, 2) := by decide +kernel
theorem dX8_init_132 : decode cX8_init 132 = .ok (.putfield 58, 3) := by decide +kernel
theorem dX8_init_135 : decode cX8_init 135 = .ok (.aload_n 0, 1) := by decide +kernel
theorem dX8_init_136 : decode cX8_init 136 = .ok (.bipush 12, 2) := by decide +kernel
theorem dX8_init_138 : decode cX8_init 138 = .ok (.newarray .int, 2) := by decide +kernel
theorem dX8_init_140 : decode cX8_init 140 = .ok (.putfield 61, 3) := by decide +kernel
theorem dX8_init_143 : decode cX8_init 143 = .ok (.aload_n 0, 1) := by decide +kernel
theorem dX8_init_144 : decode cX8_init 144 = .ok (.iconst 4, 1) := by decide +kernel
theorem dX8_init_145 : decode cX8_init 145 = .ok (.newarray .int, 2) := by decide +kernel
theorem dX8_init_147 : decode cX8_init 147 = .ok (.putfield 64, 3) := by decide +kernel
theorem dX8_init_150 : decode cX8_init 150 = .ok (.aload_n 0, 1) := by decide +kernel
theorem dX8_init_151 : decode cX8_init 151 = .ok (.bipush 24, 2) := by decide +kernel
theorem dX8_init_153 : decode cX8_init 153 = .ok (.newarray .int, 2) := by decide +kernel
theorem dX8_init_155 : decode cX8_init 155 = .ok (.putfield 67, 3) := by decide +kernel
theorem dX8_init_158 : decode cX8_init 158 = .ok (.aload_n 0, 1) := by decide +kernel
theorem dX8_init_159 : decode cX8_init 159 = .ok (.bipush 24, 2) := by decide +kernel
theorem dX8_init_161 : decode cX8_init 161 = .ok (.newarray .int, 2) := by decide +kernel
theorem dX8_init_163 : decode cX8_init 163 = .ok (.putfield 70, 3) := by decide +kernel
theorem dX8_init_166 : decode cX8_init 166 = .ok (.aload_n 0, 1) := by decide +kernel
theorem dX8_init_167 : decode cX8_init 167 = .ok (.iconst 4, 1) := by decide +kernel
theorem dX8_init_168 : decode cX8_init 168 = .ok (.newarray .int, 2) := by decide +kernel
theorem dX8_init_170 : decode cX8_init 170 = .ok (.putfield 73, 3) := by decide +kernel
theorem dX8_init_173 : decode cX8_init 173 = .ok (.aload_n 0, 1) := by decide +kernel
theorem dX8_init_174 : decode cX8_init 174 = .ok (.bipush 16, 2) := by decide +kernel
theorem dX8_init_176 : decode cX8_init 176 = .ok (.newarray .int, 2) := by decide +kernel
theorem dX8_init_178 : decode cX8_init 178 = .ok (.putfield 76, 3) := by decide +kernel
theorem dX8_init_181 : decode cX8_init 181 = .ok (.aload_n 0, 1) := by decide +kernel
theorem dX8_init_182 : decode cX8_init 182 = .ok (.bipush 8, 2) := by decide +kernel
theorem dX8_init_184 : decode cX8_init 184 = .ok (.newarray .int, 2) := by decide +kernel
theorem dX8_init_186 : decode cX8_init 186 = .ok (.putfield 79, 3) := by decide +kernel
theorem dX8_init_189 : decode cX8_init 189 = .ok (.aload_n 0, 1) := by decide +kernel
theorem dX8_init_190 : decode cX8_init 190 = .ok (.iconst 4, 1) := by decide +kernel
theorem dX8_init_191 : decode cX8_init 191 = .ok (.newarray .int, 2) := by decide +kernel
theorem dX8_init_193 : decode cX8_init 193 = .ok (.putfield 82, 3) := by decide +kernel
theorem dX8_init_196 : decode cX8_init 196 = .ok (.aload_n 0, 1) := by decide +kernel
theorem dX8_init_197 : decode cX8_init 197 = .ok (.iconst 3, 1) := by decide +kernel
theorem dX8_init_198 : decode cX8_init 198 = .ok (.newarray .int, 2) := by decide +kernel
theorem dX8_init_200 : decode cX8_init 200 = .ok (.putfield 85, 3) := by decide +kernel
theorem dX8_init_203 : decode cX8_init 203 = .ok (.aload_n 0, 1) := by decide +kernel
theorem dX8_init_204 : decode cX8_init 204 = .ok (.iconst 4, 1) := by decide +kernel
theorem dX8_init_205 : decode cX8_init 205 = .ok (.newarray .int, 2) := by decide +kernel
theorem dX8_init_207 : decode cX8_init 207 = .ok (.putfield 88, 3) := by decide +kernel
theorem dX8_init_210 : decode cX8_init 210 = .ok (.aload_n 0, 1) := by decide +kernel
theorem dX8_init_211 : decode cX8_init 211 = .ok (.bipush 8, 2) := by decide +kernel
theorem dX8_init_213 : decode cX8_init 213 = .ok (.newarray .int, 2) := by decide +kernel
theorem dX8_init_215 : decode cX8_init 215 = .ok (.putfield 91, 3) := by decide +kernel
theorem dX8_init_218 : decode cX8_init 218 = .ok (.aload_n 0, 1) := by decide +kernel
theorem dX8_init_219 : decode cX8_init 219 = .ok (.iconst 4, 1) := by decide +kernel
theorem dX8_init_220 : decode cX8_init 220 = .ok (.newarray .int, 2) := by decide +kernel
theorem dX8_init_222 : decode cX8_init 222 = .ok (.putfield 94, 3) := by decide +kernel
theorem dX8_init_225 : decode cX8_init 225 = .ok (.aload_n 0, 1) := by decide +kernel
theorem dX8_init_226 : decode cX8_init 226 = .ok (.iconst 4, 1) := by decide +kernel
theorem dX8_init_227 : decode cX8_init 227 = .ok (.newarray .int, 2) := by decide +kernel
theorem dX8_init_229 : decode cX8_init 229 = .ok (.putfield 97, 3) := by decide +kernel
theorem dX8_init_232 : decode cX8_init 232 = .ok (.aload_n 0, 1) := by decide +kernel
theorem dX8_init_233 : decode cX8_init 233 = .ok (.iconst 4, 1) := by decide +kernel
theorem dX8_init_234 : decode cX8_init 234 = .ok (.newarray .int, 2) := by decide +kernel
theorem dX8_init_236 : decode cX8_init 236 = .ok (.putfield 100, 3) := by decide +kernel
theorem dX8_init_239 : decode cX8_init 239 = .ok (.aload_n 0, 1) := by decide +kernel
theorem dX8_init_240 : decode cX8_init 240 = .ok (.iconst 0, 1) := by decide +kernel
theorem dX8_init_241 : decode cX8_init 241 = .ok (.invokevirtual 103, 3) := by decide +kernel
theorem dX8_init_244 : decode cX8_init 244 = .ok (.aload_n 0, 1) := by decide +kernel
theorem dX8_init_245 : decode cX8_init 245 = .ok (.getfield 13, 3) := by decide +kernel
theorem dX8_init_248 : decode cX8_init 248 = .ok (.iconst 0, 1) := by decide +kernel
theorem dX8_init_249 : decode cX8_init 249 = .ok (.iconst 2, 1) := by decide +kernel
theorem dX8_init_250 : decode cX8_init 250 = .ok (.iastore, 1) := by decide +kernel
theorem dX8_init_251 : decode cX8_init 251 = .ok (.aload_n 0, 1) := by decide +kernel
theorem dX8_init_252 : decode cX8_init 252 = .ok (.getfield 19, 3) := by decide +kernel
theorem dX8_init_255 : decode cX8_init 255 = .ok (.iconst 0, 1) := by decide +kernel
theorem dX8_init_256 : decode cX8_init 256 = .ok (.sipush 200, 3) := by decide +kernel
theorem dX8_init_259 : decode cX8_init 259 = .ok (.iastore, 1) := by decide +kernel
theorem dX8_init_260 : decode cX8_init 260 = .ok (.aload_n 0, 1) := by decide +kernel
theorem dX8_init_261 : decode cX8_init 261 = .ok (.getfield 22, 3) := by decide +kernel
theorem dX8_init_264 : decode cX8_init 264 = .ok (.iconst 0, 1) := by decide +kernel
theorem dX8_init_265 : decode cX8_init 265 = .ok (.bipush 30, 2) := by decide +kernel
theorem dX8_init_267 : decode cX8_init 267 = .ok (.iastore, 1) := by decide +kernel
theorem dX8_init_268 : decode cX8_init 268 = .ok (.aload_n 0, 1) := by decide +kernel
theorem dX8_init_269 : decode cX8_init 269 = .ok (.getfield 16, 3) := by decide +kernel
theorem dX8_init_272 : decode cX8_init 272 = .ok (.iconst 1, 1) := by decide +kernel
theorem dX8_init_273 : decode cX8_init 273 = .ok (.iconst 1, 1) := by decide +kernel
theorem dX8_init_274 : decode cX8_init 274 = .ok (.iastore, 1) := by decide +kernel
theorem dX8_init_275 : decode cX8_init 275 = .ok (.aload_n 0, 1) := by decide +kernel
theorem dX8_init_276 : decode cX8_init 276 = .ok (.getfield 19, 3) := by decide +kernel
theorem dX8_init_279 : decode cX8_init 279 = .ok (.iconst 1, 1) := by decide +kernel
theorem dX8_init_280 : decode cX8_init 280 = .ok (.sipush 210, 3) := by decide +kernel
theorem dX8_init_283 : decode cX8_init 283 = .ok (.iastore, 1) := by decide +kernel
theorem dX8_init_284 : decode cX8_init 284 = .ok (.aload_n 0, 1) := by decide +kernel
theorem dX8_init_285 : decode cX8_init 285 = .ok (.getfield 22, 3) := by decide +kernel
theorem dX8_init_288 : decode cX8_init 288 = .ok (.iconst 1, 1) := by decide +kernel
theorem dX8_init_289 : decode cX8_init 289 = .ok (.bipush 40, 2) := by decide +kernel
theorem dX8_init_291 : decode cX8_init 291 = .ok (.iastore, 1) := by decide +kernel
theorem dX8_init_292 : decode cX8_init 292 = .ok (.return_, 1) := by decide +kernel
theorem dX8_in_0 : decode cX8_in 0 = .ok (.lload_n 0, 1) := by decide +kernel
theorem dX8_in_1 : decode cX8_in 1 = .ok (.lload_n 2, 1) := by decide +kernel
theorem dX8_in_2 : decode cX8_in 2 = .ok (.lcmp, 1) := by decide +kernel
theorem dX8_in_3 : decode cX8_in 3 = .ok (.ifCond .lt 14, 3) := by decide +kernel
theorem dX8_in_6 : decode cX8_in 6 = .ok (.lload_n 0, 1) := by decide +kernel
theorem dX8_in_7 : decode cX8_in 7 = .ok (.lload 4, 2) := by decide +kernel
theorem dX8_in_9 : decode cX8_in 9 = .ok (.lcmp, 1) := by decide +kernel
theorem dX8_in_10 : decode cX8_in 10 = .ok (.ifCond .gt 7, 3) := by decide +kernel
theorem dX8_in_13 : decode cX8_in 13 = .ok (.iconst 1, 1) := by decide +kernel
theorem dX8_in_14 : decode cX8_in 14 = .ok (.goto 4, 3) := by decide +kernel
theorem dX8_in_17 : decode cX8_in 17 = .ok (.iconst 0, 1) := by decide +kernel
theorem dX8_in_18 : decode cX8_in 18 = .ok (.ireturn, 1) := by decide +kernel
theorem dX8_has_0 : decode cX8_has 0 = .ok (.iload_n 0, 1) := by decide +kernel
theorem dX8_has_1 : decode cX8_has 1 = .ok (.iload_n 1, 1) := by decide +kernel
theorem dX8_has_2 : decode cX8_has 2 = .ok (.ishr, 1) := by decide +kernel
theorem dX8_has_3 : decode cX8_has 3 = .ok (.iconst 1, 1) := by decide +kernel
theorem dX8_has_4 : decode cX8_has 4 = .ok (.iand, 1) := by decide +kernel
theorem dX8_has_5 : decode cX8_has 5 = .ok (.iconst 1, 1) := by decide +kernel
theorem dX8_has_6 : decode cX8_has 6 = .ok (.if_icmp .ne 7, 3) := by decide +kernel
theorem dX8_has_9 : decode cX8_has 9 = .ok (.iconst 1, 1) := by decide +kernel
theorem dX8_has_10 : decode cX8_has 10 = .ok (.goto 4, 3) := by decide +kernel
theorem dX8_has_13 : decode cX8_has 13 = .ok (.iconst 0, 1) := by decide +kernel
theorem dX8_has_14 : decode cX8_has 14 = .ok (.ireturn, 1) := by decide +kernel
theorem dX8_noEvening_0 : decode cX8_noEvening 0 = .ok (.aload_n 0, 1) := by decide +kernel
theorem dX8_noEvening_1 : decode cX8_noEvening 1 = .ok (.getfield 13, 3) := by decide +kernel
theorem dX8_noEvening_4 : decode cX8_noEvening 4 = .ok (.iload_n 1, 1) := by decide +kernel
theorem dX8_noEvening_5 : decode cX8_noEvening 5 = .ok (.iconst 0, 1) := by decide +kernel
theorem dX8_noEvening_6 : decode cX8_noEvening 6 = .ok (.iastore, 1) := by decide +kernel
theorem dX8_noEvening_7 : decode cX8_noEvening 7 = .ok (.aload_n 0, 1) := by decide +kernel
theorem dX8_noEvening_8 : decode cX8_noEvening 8 = .ok (.getfield 28, 3) := by decide +kernel
theorem dX8_noEvening_11 : decode cX8_noEvening 11 = .ok (.iload_n 1, 1) := by decide +kernel
theorem dX8_noEvening_12 : decode cX8_noEvening 12 = .ok (.iconst 0, 1) := by decide +kernel
theorem dX8_noEvening_13 : decode cX8_noEvening 13 = .ok (.iastore, 1) := by decide +kernel
theorem dX8_noEvening_14 : decode cX8_noEvening 14 = .ok (.aload_n 0, 1) := by decide +kernel
theorem dX8_noEvening_15 : decode cX8_noEvening 15 = .ok (.getfield 37, 3) := by decide +kernel
theorem dX8_noEvening_18 : decode cX8_noEvening 18 = .ok (.iload_n 1, 1) := by decide +kernel
theorem dX8_noEvening_19 : decode cX8_noEvening 19 = .ok (.bipush 15, 2) := by decide +kernel
theorem dX8_noEvening_21 : decode cX8_noEvening 21 = .ok (.iastore, 1) := by decide +kernel
theorem dX8_noEvening_22 : decode cX8_noEvening 22 = .ok (.aload_n 0, 1) := by decide +kernel
theorem dX8_noEvening_23 : decode cX8_noEvening 23 = .ok (.getfield 40, 3) := by decide +kernel
theorem dX8_noEvening_26 : decode cX8_noEvening 26 = .ok (.iload_n 1, 1) := by decide +kernel
theorem dX8_noEvening_27 : decode cX8_noEvening 27 = .ok (.bipush 20, 2) := by decide +kernel
theorem dX8_noEvening_29 : decode cX8_noEvening 29 = .ok (.iastore, 1) := by decide +kernel
theorem dX8_noEvening_30 : decode cX8_noEvening 30 = .ok (.aload_n 0, 1) := by decide +kernel
theorem dX8_noEvening_31 : decode cX8_noEvening 31 = .ok (.getfield 43, 3) := by decide +kernel
theorem dX8_noEvening_34 : decode cX8_noEvening 34 = .ok (.iload_n 1, 1) := by decide +kernel
theorem dX8_noEvening_35 : decode cX8_noEvening 35 = .ok (.sipush 240, 3) := by decide +kernel
theorem dX8_noEvening_38 : decode cX8_noEvening 38 = .ok (.iastore, 1) := by decide +kernel
theorem dX8_noEvening_39 : decode cX8_noEvening 39 = .ok (.aload_n 0, 1) := by decide +kernel
theorem dX8_noEvening_40 : decode cX8_noEvening 40 = .ok (.getfield 52, 3) := by decide +kernel
theorem dX8_noEvening_43 : decode cX8_noEvening 43 = .ok (.iload_n 1, 1) := by decide +kernel
theorem dX8_noEvening_44 : decode cX8_noEvening 44 = .ok (.iconst 0, 1) := by decide +kernel
theorem dX8_noEvening_45 : decode cX8_noEvening 45 = .ok (.iastore, 1) := by decide +kernel
theorem dX8_noEvening_46 : decode cX8_noEvening 46 = .ok (.aload_n 0, 1) := by decide +kernel
theorem dX8_noEvening_47 : decode cX8_noEvening 47 = .ok (.getfield 64, 3) := by decide +kernel
theorem dX8_noEvening_50 : decode cX8_noEvening 50 = .ok (.iload_n 1, 1) := by decide +kernel
theorem dX8_noEvening_51 : decode cX8_noEvening 51 = .ok (.iconst 0, 1) := by decide +kernel
theorem dX8_noEvening_52 : decode cX8_noEvening 52 = .ok (.iastore, 1) := by decide +kernel
theorem dX8_noEvening_53 : decode cX8_noEvening 53 = .ok (.aload_n 0, 1) := by decide +kernel
theorem dX8_noEvening_54 : decode cX8_noEvening 54 = .ok (.getfield 73, 3) := by decide +kernel
theorem dX8_noEvening_57 : decode cX8_noEvening 57 = .ok (.iload_n 1, 1) := by decide +kernel
theorem dX8_noEvening_58 : decode cX8_noEvening 58 = .ok (.iconst 0, 1) := by decide +kernel
theorem dX8_noEvening_59 : decode cX8_noEvening 59 = .ok (.iastore, 1) := by decide +kernel
theorem dX8_noEvening_60 : decode cX8_noEvening 60 = .ok (.iconst 0, 1) := by decide +kernel
theorem dX8_noEvening_61 : decode cX8_noEvening 61 = .ok (.istore_n 2, 1) := by decide +kernel
theorem dX8_noEvening_62 : decode cX8_noEvening 62 = .ok (.iload_n 2, 1) := by decide +kernel
theorem dX8_noEvening_63 : decode cX8_noEvening 63 = .ok (.iconst 3, 1) := by decide +kernel
theorem dX8_noEvening_64 : decode cX8_noEvening 64 = .ok (.if_icmp .ge 31, 3) := by decide +kernel
theorem dX8_noEvening_67 : decode cX8_noEvening 67 = .ok (.aload_n 0, 1) := by decide +kernel
theorem dX8_noEvening_68 : decode cX8_noEvening 68 = .ok (.getfield 46, 3) := by decide +kernel
theorem dX8_noEvening_71 : decode cX8_noEvening 71 = .ok (.iconst 3, 1) := by decide +kernel
theorem dX8_noEvening_72 : decode cX8_noEvening 72 = .ok (.iload_n 1, 1) := by decide +kernel
theorem dX8_noEvening_73 : decode cX8_noEvening 73 = .ok (.imul, 1) := by decide +kernel
theorem dX8_noEvening_74 : decode cX8_noEvening 74 = .ok (.iload_n 2, 1) := by decide +kernel
theorem dX8_noEvening_75 : decode cX8_noEvening 75 = .ok (.iadd, 1) := by decide +kernel
theorem dX8_noEvening_76 : decode cX8_noEvening 76 = .ok (.iconst 0, 1) := by decide +kernel
theorem dX8_noEvening_77 : decode cX8_noEvening 77 = .ok (.iastore, 1) := by decide +kernel
theorem dX8_noEvening_78 : decode cX8_noEvening 78 = .ok (.aload_n 0, 1) := by decide +kernel
theorem dX8_noEvening_79 : decode cX8_noEvening 79 = .ok (.getfield 49, 3) := by decide +kernel
theorem dX8_noEvening_82 : decode cX8_noEvening 82 = .ok (.iconst 3, 1) := by decide +kernel
theorem dX8_noEvening_83 : decode cX8_noEvening 83 = .ok (.iload_n 1, 1) := by decide +kernel
theorem dX8_noEvening_84 : decode cX8_noEvening 84 = .ok (.imul, 1) := by decide +kernel
theorem dX8_noEvening_85 : decode cX8_noEvening 85 = .ok (.iload_n 2, 1) := by decide +kernel
theorem dX8_noEvening_86 : decode cX8_noEvening 86 = .ok (.iadd, 1) := by decide +kernel
theorem dX8_noEvening_87 : decode cX8_noEvening 87 = .ok (.iconst 0, 1) := by decide +kernel
theorem dX8_noEvening_88 : decode cX8_noEvening 88 = .ok (.iastore, 1) := by decide +kernel
theorem dX8_noEvening_89 : decode cX8_noEvening 89 = .ok (.iinc 2 1, 3) := by decide +kernel
theorem dX8_noEvening_92 : decode cX8_noEvening 92 = .ok (.goto (-30), 3) := by decide +kernel
theorem dX8_noEvening_95 : decode cX8_noEvening 95 = .ok (.return_, 1) := by decide +kernel
theorem dX8_write_0 : decode cX8_write 0 = .ok (.iload_n 1, 1) := by decide +kernel
theorem dX8_write_1 : decode cX8_write 1 = .ok (.i2l, 1) := by decide +kernel
theorem dX8_write_2 : decode cX8_write 2 = .ok (.lconst 1, 1) := by decide +kernel
theorem dX8_write_3 : decode cX8_write 3 = .ok (.ldc2_w 107, 3) := by decide +kernel
theorem dX8_write_6 : decode cX8_write 6 = .ok (.invokestatic 109, 3) := by decide +kernel
theorem dX8_write_9 : decode cX8_write 9 = .ok (.ifCond .ne 5, 3) := by decide +kernel
theorem dX8_write_12 : decode cX8_write 12 = .ok (.iconst (-1), 1) := by decide +kernel
theorem dX8_write_13 : decode cX8_write 13 = .ok (.ireturn, 1) := by decide +kernel
theorem dX8_write_14 : decode cX8_write 14 = .ok (.aload_n 0, 1) := by decide +kernel
theorem dX8_write_15 : decode cX8_write 15 = .ok (.getfield 113, 3) := by decide +kernel
theorem dX8_write_18 : decode cX8_write 18 = .ok (.iload_n 1, 1) := by decide +kernel
theorem dX8_write_19 : decode cX8_write 19 = .ok (.iadd, 1) := by decide +kernel
theorem dX8_write_20 : decode cX8_write 20 = .ok (.sipush 400, 3) := by decide +kernel
theorem dX8_write_23 : decode cX8_write 23 = .ok (.if_icmp .le 6, 3) := by decide +kernel
theorem dX8_write_26 : decode cX8_write 26 = .ok (.bipush (-3), 2) := by decide +kernel
theorem dX8_write_28 : decode cX8_write 28 = .ok (.ireturn, 1) := by decide +kernel
theorem dX8_write_29 : decode cX8_write 29 = .ok (.iload_n 1, 1) := by decide +kernel
theorem dX8_write_30 : decode cX8_write 30 = .ok (.iconst 1, 1) := by decide +kernel
theorem dX8_write_31 : decode cX8_write 31 = .ok (.isub, 1) := by decide +kernel
theorem dX8_write_32 : decode cX8_write 32 = .ok (.istore 4, 2) := by decide +kernel
theorem dX8_write_34 : decode cX8_write 34 = .ok (.iload 4, 2) := by decide +kernel
theorem dX8_write_36 : decode cX8_write 36 = .ok (.ifCond .lt 40, 3) := by decide +kernel
theorem dX8_write_39 : decode cX8_write 39 = .ok (.aload_n 0, 1) := by decide +kernel
theorem dX8_write_40 : decode cX8_write 40 = .ok (.getfield 7, 3) := by decide +kernel
theorem dX8_write_43 : decode cX8_write 43 = .ok (.aload_n 0, 1) := by decide +kernel
theorem dX8_write_44 : decode cX8_write 44 = .ok (.getfield 113, 3) := by decide +kernel
theorem dX8_write_47 : decode cX8_write 47 = .ok (.lload_n 2, 1) := by decide +kernel
theorem dX8_write_48 : decode cX8_write 48 = .ok (.bipush 8, 2) := by decide +kernel
theorem dX8_write_50 : decode cX8_write 50 = .ok (.iload 4, 2) := by decide +kernel
theorem dX8_write_52 : decode cX8_write 52 = .ok (.imul, 1) := by decide +kernel
theorem dX8_write_53 : decode cX8_write 53 = .ok (.lshr, 1) := by decide +kernel
theorem dX8_write_54 : decode cX8_write 54 = .ok (.ldc2_w 117, 3) := by decide +kernel
theorem dX8_write_57 : decode cX8_write 57 = .ok (.land, 1) := by decide +kernel
theorem dX8_write_58 : decode cX8_write 58 = .ok (.l2i, 1) := by decide +kernel
theorem dX8_write_59 : decode cX8_write 59 = .ok (.iastore, 1) := by decide +kernel
theorem dX8_write_60 : decode cX8_write 60 = .ok (.aload_n 0, 1) := by decide +kernel
theorem dX8_write_61 : decode cX8_write 61 = .ok (.dup, 1) := by decide +kernel
theorem dX8_write_62 : decode cX8_write 62 = .ok (.getfield 113, 3) := by decide +kernel
theorem dX8_write_65 : decode cX8_write 65 = .ok (.iconst 1, 1) := by decide +kernel
theorem dX8_write_66 : decode cX8_write 66 = .ok (.iadd, 1) := by decide +kernel
theorem dX8_write_67 : decode cX8_write 67 = .ok (.putfield 113, 3) := by decide +kernel
theorem dX8_write_70 : decode cX8_write 70 = .ok (.iinc 4 (-1), 3) := by decide +kernel
theorem dX8_write_73 : decode cX8_write 73 = .ok (.goto (-39), 3) := by decide +kernel
theorem dX8_write_76 : decode cX8_write 76 = .ok (.aload_n 0, 1) := by decide +kernel
theorem dX8_write_77 : decode cX8_write 77 = .ok (.getfield 113, 3) := by decide +kernel
theorem dX8_write_80 : decode cX8_write 80 = .ok (.ireturn, 1) := by decide +kernel
theorem dX8_wipe_0 : decode cX8_wipe 0 = .ok (.aload_n 0, 1) := by decide +kernel
theorem dX8_wipe_1 : decode cX8_wipe 1 = .ok (.getfield 113, 3) := by decide +kernel
theorem dX8_wipe_4 : decode cX8_wipe 4 = .ok (.istore_n 1, 1) := by decide +kernel
theorem dX8_wipe_5 : decode cX8_wipe 5 = .ok (.aload_n 0, 1) := by decide +kernel
theorem dX8_wipe_6 : decode cX8_wipe 6 = .ok (.iconst 0, 1) := by decide +kernel
theorem dX8_wipe_7 : decode cX8_wipe 7 = .ok (.putfield 113, 3) := by decide +kernel
theorem dX8_wipe_10 : decode cX8_wipe 10 = .ok (.iload_n 1, 1) := by decide +kernel
theorem dX8_wipe_11 : decode cX8_wipe 11 = .ok (.ireturn, 1) := by decide +kernel
theorem dX8_byteAt_0 : decode cX8_byteAt 0 = .ok (.iload_n 1, 1) := by decide +kernel
theorem dX8_byteAt_1 : decode cX8_byteAt 1 = .ok (.aload_n 0, 1) := by decide +kernel
theorem dX8_byteAt_2 : decode cX8_byteAt 2 = .ok (.getfield 113, 3) := by decide +kernel
theorem dX8_byteAt_5 : decode cX8_byteAt 5 = .ok (.if_icmp .ge 12, 3) := by decide +kernel
theorem dX8_byteAt_8 : decode cX8_byteAt 8 = .ok (.aload_n 0, 1) := by decide +kernel
theorem dX8_byteAt_9 : decode cX8_byteAt 9 = .ok (.getfield 7, 3) := by decide +kernel
theorem dX8_byteAt_12 : decode cX8_byteAt 12 = .ok (.iload_n 1, 1) := by decide +kernel
theorem dX8_byteAt_13 : decode cX8_byteAt 13 = .ok (.iaload, 1) := by decide +kernel
theorem dX8_byteAt_14 : decode cX8_byteAt 14 = .ok (.goto 4, 3) := by decide +kernel
theorem dX8_byteAt_17 : decode cX8_byteAt 17 = .ok (.iconst 0, 1) := by decide +kernel
theorem dX8_byteAt_18 : decode cX8_byteAt 18 = .ok (.ireturn, 1) := by decide +kernel
theorem dX8_figures_0 : decode cX8_figures 0 = .ok (.iconst 0, 1) := by decide +kernel
theorem dX8_figures_1 : decode cX8_figures 1 = .ok (.istore_n 2, 1) := by decide +kernel
theorem dX8_figures_2 : decode cX8_figures 2 = .ok (.iload_n 2, 1) := by decide +kernel
theorem dX8_figures_3 : decode cX8_figures 3 = .ok (.iload_n 1, 1) := by decide +kernel
theorem dX8_figures_4 : decode cX8_figures 4 = .ok (.if_icmp .ge 132, 3) := by decide +kernel
theorem dX8_figures_7 : decode cX8_figures 7 = .ok (.iconst 0, 1) := by decide +kernel
theorem dX8_figures_8 : decode cX8_figures 8 = .ok (.istore_n 3, 1) := by decide +kernel
theorem dX8_figures_9 : decode cX8_figures 9 = .ok (.iconst 0, 1) := by decide +kernel
theorem dX8_figures_10 : decode cX8_figures 10 = .ok (.istore 4, 2) := by decide +kernel
theorem dX8_figures_12 : decode cX8_figures 12 = .ok (.aload_n 0, 1) := by decide +kernel
theorem dX8_figures_13 : decode cX8_figures 13 = .ok (.aload_n 0, 1) := by decide +kernel
theorem dX8_figures_14 : decode cX8_figures 14 = .ok (.getfield 119, 3) := by decide +kernel
theorem dX8_figures_17 : decode cX8_figures 17 = .ok (.invokevirtual 122, 3) := by decide +kernel
theorem dX8_figures_20 : decode cX8_figures 20 = .ok (.i2l, 1) := by decide +kernel
theorem dX8_figures_21 : decode cX8_figures 21 = .ok (.ldc2_w 126, 3) := by decide +kernel
theorem dX8_figures_24 : decode cX8_figures 24 = .ok (.ldc2_w 128, 3) := by decide +kernel
theorem dX8_figures_27 : decode cX8_figures 27 = .ok (.invokestatic 109, 3) := by decide +kernel
theorem dX8_figures_30 : decode cX8_figures 30 = .ok (.ifCond .eq 43, 3) := by decide +kernel
theorem dX8_figures_33 : decode cX8_figures 33 = .ok (.iload_n 3, 1) := by decide +kernel
theorem dX8_figures_34 : decode cX8_figures 34 = .ok (.iconst 4, 1) := by decide +kernel
theorem dX8_figures_35 : decode cX8_figures 35 = .ok (.if_icmp .ge 38, 3) := by decide +kernel
theorem dX8_figures_38 : decode cX8_figures 38 = .ok (.bipush 10, 2) := by decide +kernel
theorem dX8_figures_40 : decode cX8_figures 40 = .ok (.iload 4, 2) := by decide +kernel
theorem dX8_figures_42 : decode cX8_figures 42 = .ok (.imul, 1) := by decide +kernel
theorem dX8_figures_43 : decode cX8_figures 43 = .ok (.aload_n 0, 1) := by decide +kernel
theorem dX8_figures_44 : decode cX8_figures 44 = .ok (.aload_n 0, 1) := by decide +kernel
theorem dX8_figures_45 : decode cX8_figures 45 = .ok (.getfield 119, 3) := by decide +kernel
theorem dX8_figures_48 : decode cX8_figures 48 = .ok (.invokevirtual 122, 3) := by decide +kernel
theorem dX8_figures_51 : decode cX8_figures 51 = .ok (.iadd, 1) := by decide +kernel
theorem dX8_figures_52 : decode cX8_figures 52 = .ok (.bipush 48, 2) := by decide +kernel
theorem dX8_figures_54 : decode cX8_figures 54 = .ok (.isub, 1) := by decide +kernel
theorem dX8_figures_55 : decode cX8_figures 55 = .ok (.istore 4, 2) := by decide +kernel
theorem dX8_figures_57 : decode cX8_figures 57 = .ok (.iinc 3 1, 3) := by decide +kernel
theorem dX8_figures_60 : decode cX8_figures 60 = .ok (.aload_n 0, 1) := by decide +kernel
theorem dX8_figures_61 : decode cX8_figures 61 = .ok (.dup, 1) := by decide +kernel
theorem dX8_figures_62 : decode cX8_figures 62 = .ok (.getfield 119, 3) := by decide +kernel
theorem dX8_figures_65 : decode cX8_figures 65 = .ok (.iconst 1, 1) := by decide +kernel
theorem dX8_figures_66 : decode cX8_figures 66 = .ok (.iadd, 1) := by decide +kernel
theorem dX8_figures_67 : decode cX8_figures 67 = .ok (.putfield 119, 3) := by decide +kernel
theorem dX8_figures_70 : decode cX8_figures 70 = .ok (.goto (-58), 3) := by decide +kernel
theorem dX8_figures_73 : decode cX8_figures 73 = .ok (.iload_n 3, 1) := by decide +kernel
theorem dX8_figures_74 : decode cX8_figures 74 = .ok (.i2l, 1) := by decide +kernel
theorem dX8_figures_75 : decode cX8_figures 75 = .ok (.lconst 1, 1) := by decide +kernel
theorem dX8_figures_76 : decode cX8_figures 76 = .ok (.ldc2_w 130, 3) := by decide +kernel
theorem dX8_figures_79 : decode cX8_figures 79 = .ok (.invokestatic 109, 3) := by decide +kernel
theorem dX8_figures_82 : decode cX8_figures 82 = .ok (.ifCond .eq 28, 3) := by decide +kernel
theorem dX8_figures_85 : decode cX8_figures 85 = .ok (.aload_n 0, 1) := by decide +kernel
theorem dX8_figures_86 : decode cX8_figures 86 = .ok (.aload_n 0, 1) := by decide +kernel
theorem dX8_figures_87 : decode cX8_figures 87 = .ok (.getfield 119, 3) := by decide +kernel
theorem dX8_figures_90 : decode cX8_figures 90 = .ok (.invokevirtual 122, 3) := by decide +kernel
theorem dX8_figures_93 : decode cX8_figures 93 = .ok (.iload_n 2, 1) := by decide +kernel
theorem dX8_figures_94 : decode cX8_figures 94 = .ok (.iload_n 1, 1) := by decide +kernel
theorem dX8_figures_95 : decode cX8_figures 95 = .ok (.iconst 1, 1) := by decide +kernel
theorem dX8_figures_96 : decode cX8_figures 96 = .ok (.isub, 1) := by decide +kernel
theorem dX8_figures_97 : decode cX8_figures 97 = .ok (.if_icmp .ge 8, 3) := by decide +kernel
theorem dX8_figures_100 : decode cX8_figures 100 = .ok (.bipush 44, 2) := by decide +kernel
theorem dX8_figures_102 : decode cX8_figures 102 = .ok (.goto 5, 3) := by decide +kernel
theorem dX8_figures_105 : decode cX8_figures 105 = .ok (.bipush 59, 2) := by decide +kernel
theorem dX8_figures_107 : decode cX8_figures 107 = .ok (.if_icmp .eq 5, 3) := by decide +kernel
theorem dX8_figures_110 : decode cX8_figures 110 = .ok (.iconst 0, 1) := by decide +kernel
theorem dX8_figures_111 : decode cX8_figures 111 = .ok (.ireturn, 1) := by decide +kernel
theorem dX8_figures_112 : decode cX8_figures 112 = .ok (.aload_n 0, 1) := by decide +kernel
theorem dX8_figures_113 : decode cX8_figures 113 = .ok (.getfield 82, 3) := by decide +kernel
theorem dX8_figures_116 : decode cX8_figures 116 = .ok (.iload_n 2, 1) := by decide +kernel
theorem dX8_figures_117 : decode cX8_figures 117 = .ok (.iload 4, 2) := by decide +kernel
theorem dX8_figures_119 : decode cX8_figures 119 = .ok (.iastore, 1) := by decide +kernel
theorem dX8_figures_120 : decode cX8_figures 120 = .ok (.aload_n 0, 1) := by decide +kernel
theorem dX8_figures_121 : decode cX8_figures 121 = .ok (.dup, 1) := by decide +kernel
theorem dX8_figures_122 : decode cX8_figures 122 = .ok (.getfield 119, 3) := by decide +kernel
theorem dX8_figures_125 : decode cX8_figures 125 = .ok (.iconst 1, 1) := by decide +kernel
theorem dX8_figures_126 : decode cX8_figures 126 = .ok (.iadd, 1) := by decide +kernel
theorem dX8_figures_127 : decode cX8_figures 127 = .ok (.putfield 119, 3) := by decide +kernel
theorem dX8_figures_130 : decode cX8_figures 130 = .ok (.iinc 2 1, 3) := by decide +kernel
theorem dX8_figures_133 : decode cX8_figures 133 = .ok (.goto (-131), 3) := by decide +kernel
theorem dX8_figures_136 : decode cX8_figures 136 = .ok (.iconst 1, 1) := by decide +kernel
theorem dX8_figures_137 : decode cX8_figures 137 = .ok (.ireturn, 1) := by decide +kernel
theorem dX8_isMinute_0 : decode cX8_isMinute 0 = .ok (.iload_n 0, 1) := by decide +kernel
theorem dX8_isMinute_1 : decode cX8_isMinute 1 = .ok (.i2l, 1) := by decide +kernel
theorem dX8_isMinute_2 : decode cX8_isMinute 2 = .ok (.lconst 0, 1) := by decide +kernel
theorem dX8_isMinute_3 : decode cX8_isMinute 3 = .ok (.ldc2_w 132, 3) := by decide +kernel
theorem dX8_isMinute_6 : decode cX8_isMinute 6 = .ok (.invokestatic 109, 3) := by decide +kernel
theorem dX8_isMinute_9 : decode cX8_isMinute 9 = .ok (.ireturn, 1) := by decide +kernel
theorem dX8_guestItem_0 : decode cX8_guestItem 0 = .ok (.bipush 8, 2) := by decide +kernel
theorem dX8_guestItem_2 : decode cX8_guestItem 2 = .ok (.aload_n 0, 1) := by decide +kernel
theorem dX8_guestItem_3 : decode cX8_guestItem 3 = .ok (.getfield 13, 3) := by decide +kernel
theorem dX8_guestItem_6 : decode cX8_guestItem 6 = .ok (.iconst 1, 1) := by decide +kernel
theorem dX8_guestItem_7 : decode cX8_guestItem 7 = .ok (.iaload, 1) := by decide +kernel
theorem dX8_guestItem_8 : decode cX8_guestItem 8 = .ok (.iadd, 1) := by decide +kernel
theorem dX8_guestItem_9 : decode cX8_guestItem 9 = .ok (.istore_n 1, 1) := by decide +kernel
theorem dX8_guestItem_10 : decode cX8_guestItem 10 = .ok (.aload_n 0, 1) := by decide +kernel
theorem dX8_guestItem_11 : decode cX8_guestItem 11 = .ok (.iconst 4, 1) := by decide +kernel
theorem dX8_guestItem_12 : decode cX8_guestItem 12 = .ok (.invokevirtual 134, 3) := by decide +kernel
theorem dX8_guestItem_15 : decode cX8_guestItem 15 = .ok (.ifCond .eq 58, 3) := by decide +kernel
theorem dX8_guestItem_18 : decode cX8_guestItem 18 = .ok (.aload_n 0, 1) := by decide +kernel
theorem dX8_guestItem_19 : decode cX8_guestItem 19 = .ok (.getfield 13, 3) := by decide +kernel
theorem dX8_guestItem_22 : decode cX8_guestItem 22 = .ok (.iconst 1, 1) := by decide +kernel
theorem dX8_guestItem_23 : decode cX8_guestItem 23 = .ok (.iaload, 1) := by decide +kernel
theorem dX8_guestItem_24 : decode cX8_guestItem 24 = .ok (.bipush 8, 2) := by decide +kernel
theorem dX8_guestItem_26 : decode cX8_guestItem 26 = .ok (.if_icmp .eq 47, 3) := by decide +kernel
theorem dX8_guestItem_29 : decode cX8_guestItem 29 = .ok (.aload_n 0, 1) := by decide +kernel
theorem dX8_guestItem_30 : decode cX8_guestItem 30 = .ok (.getfield 82, 3) := by decide +kernel
theorem dX8_guestItem_33 : decode cX8_guestItem 33 = .ok (.iconst 0, 1) := by decide +kernel
theorem dX8_guestItem_34 : decode cX8_guestItem 34 = .ok (.iaload, 1) := by decide +kernel
theorem dX8_guestItem_35 : decode cX8_guestItem 35 = .ok (.iconst 3, 1) := by decide +kernel
theorem dX8_guestItem_36 : decode cX8_guestItem 36 = .ok (.if_icmp .gt 37, 3) := by decide +kernel
theorem dX8_guestItem_39 : decode cX8_guestItem 39 = .ok (.aload_n 0, 1) := by decide +kernel
theorem dX8_guestItem_40 : decode cX8_guestItem 40 = .ok (.getfield 82, 3) := by decide +kernel
theorem dX8_guestItem_43 : decode cX8_guestItem 43 = .ok (.iconst 1, 1) := by decide +kernel
theorem dX8_guestItem_44 : decode cX8_guestItem 44 = .ok (.iaload, 1) := by decide +kernel
theorem dX8_guestItem_45 : decode cX8_guestItem 45 = .ok (.invokestatic 138, 3) := by decide +kernel
theorem dX8_guestItem_48 : decode cX8_guestItem 48 = .ok (.ifCond .eq 25, 3) := by decide +kernel
theorem dX8_guestItem_51 : decode cX8_guestItem 51 = .ok (.aload_n 0, 1) := by decide +kernel
theorem dX8_guestItem_52 : decode cX8_guestItem 52 = .ok (.getfield 82, 3) := by decide +kernel
theorem dX8_guestItem_55 : decode cX8_guestItem 55 = .ok (.iconst 2, 1) := by decide +kernel
theorem dX8_guestItem_56 : decode cX8_guestItem 56 = .ok (.iaload, 1) := by decide +kernel
theorem dX8_guestItem_57 : decode cX8_guestItem 57 = .ok (.sipush 199, 3) := by decide +kernel
theorem dX8_guestItem_60 : decode cX8_guestItem 60 = .ok (.if_icmp .gt 13, 3) := by decide +kernel
theorem dX8_guestItem_63 : decode cX8_guestItem 63 = .ok (.aload_n 0, 1) := by decide +kernel
theorem dX8_guestItem_64 : decode cX8_guestItem 64 = .ok (.getfield 82, 3) := by decide +kernel
theorem dX8_guestItem_67 : decode cX8_guestItem 67 = .ok (.iconst 3, 1) := by decide +kernel
theorem dX8_guestItem_68 : decode cX8_guestItem 68 = .ok (.iaload, 1) := by decide +kernel
theorem dX8_guestItem_69 : decode cX8_guestItem 69 = .ok (.iconst 5, 1) := by decide +kernel
theorem dX8_guestItem_70 : decode cX8_guestItem 70 = .ok (.if_icmp .le 5, 3) := by decide +kernel
theorem dX8_guestItem_73 : decode cX8_guestItem 73 = .ok (.iconst 0, 1) := by decide +kernel
theorem dX8_guestItem_74 : decode cX8_guestItem 74 = .ok (.ireturn, 1) := by decide +kernel
theorem dX8_guestItem_75 : decode cX8_guestItem 75 = .ok (.aload_n 0, 1) := by decide +kernel
theorem dX8_guestItem_76 : decode cX8_guestItem 76 = .ok (.getfield 16, 3) := by decide +kernel
theorem dX8_guestItem_79 : decode cX8_guestItem 79 = .ok (.iload_n 1, 1) := by decide +kernel
theorem dX8_guestItem_80 : decode cX8_guestItem 80 = .ok (.aload_n 0, 1) := by decide +kernel
theorem dX8_guestItem_81 : decode cX8_guestItem 81 = .ok (.getfield 82, 3) := by decide +kernel
theorem dX8_guestItem_84 : decode cX8_guestItem 84 = .ok (.iconst 0, 1) := by decide +kernel
theorem dX8_guestItem_85 : decode cX8_guestItem 85 = .ok (.iaload, 1) := by decide +kernel
theorem dX8_guestItem_86 : decode cX8_guestItem 86 = .ok (.iastore, 1) := by decide +kernel
theorem dX8_guestItem_87 : decode cX8_guestItem 87 = .ok (.aload_n 0, 1) := by decide +kernel
theorem dX8_guestItem_88 : decode cX8_guestItem 88 = .ok (.getfield 19, 3) := by decide +kernel
theorem dX8_guestItem_91 : decode cX8_guestItem 91 = .ok (.iload_n 1, 1) := by decide +kernel
theorem dX8_guestItem_92 : decode cX8_guestItem 92 = .ok (.aload_n 0, 1) := by decide +kernel
theorem dX8_guestItem_93 : decode cX8_guestItem 93 = .ok (.getfield 82, 3) := by decide +kernel
theorem dX8_guestItem_96 : decode cX8_guestItem 96 = .ok (.iconst 1, 1) := by decide +kernel
theorem dX8_guestItem_97 : decode cX8_guestItem 97 = .ok (.iaload, 1) := by decide +kernel
theorem dX8_guestItem_98 : decode cX8_guestItem 98 = .ok (.iastore, 1) := by decide +kernel
theorem dX8_guestItem_99 : decode cX8_guestItem 99 = .ok (.aload_n 0, 1) := by decide +kernel
theorem dX8_guestItem_100 : decode cX8_guestItem 100 = .ok (.getfield 22, 3) := by decide +kernel
theorem dX8_guestItem_103 : decode cX8_guestItem 103 = .ok (.iload_n 1, 1) := by decide +kernel
theorem dX8_guestItem_104 : decode cX8_guestItem 104 = .ok (.aload_n 0, 1) := by decide +kernel
theorem dX8_guestItem_105 : decode cX8_guestItem 105 = .ok (.getfield 82, 3) := by decide +kernel
theorem dX8_guestItem_108 : decode cX8_guestItem 108 = .ok (.iconst 2, 1) := by decide +kernel
theorem dX8_guestItem_109 : decode cX8_guestItem 109 = .ok (.iaload, 1) := by decide +kernel
theorem dX8_guestItem_110 : decode cX8_guestItem 110 = .ok (.iastore, 1) := by decide +kernel
theorem dX8_guestItem_111 : decode cX8_guestItem 111 = .ok (.aload_n 0, 1) := by decide +kernel
theorem dX8_guestItem_112 : decode cX8_guestItem 112 = .ok (.getfield 25, 3) := by decide +kernel
theorem dX8_guestItem_115 : decode cX8_guestItem 115 = .ok (.iload_n 1, 1) := by decide +kernel
theorem dX8_guestItem_116 : decode cX8_guestItem 116 = .ok (.aload_n 0, 1) := by decide +kernel
theorem dX8_guestItem_117 : decode cX8_guestItem 117 = .ok (.getfield 82, 3) := by decide +kernel
theorem dX8_guestItem_120 : decode cX8_guestItem 120 = .ok (.iconst 3, 1) := by decide +kernel
theorem dX8_guestItem_121 : decode cX8_guestItem 121 = .ok (.iaload, 1) := by decide +kernel
theorem dX8_guestItem_122 : decode cX8_guestItem 122 = .ok (.iastore, 1) := by decide +kernel
theorem dX8_guestItem_123 : decode cX8_guestItem 123 = .ok (.aload_n 0, 1) := by decide +kernel
theorem dX8_guestItem_124 : decode cX8_guestItem 124 = .ok (.getfield 13, 3) := by decide +kernel
theorem dX8_guestItem_127 : decode cX8_guestItem 127 = .ok (.iconst 1, 1) := by decide +kernel
theorem dX8_guestItem_128 : decode cX8_guestItem 128 = .ok (.dup2, 1) := by decide +kernel
theorem dX8_guestItem_129 : decode cX8_guestItem 129 = .ok (.iaload, 1) := by decide +kernel
theorem dX8_guestItem_130 : decode cX8_guestItem 130 = .ok (.iconst 1, 1) := by decide +kernel
theorem dX8_guestItem_131 : decode cX8_guestItem 131 = .ok (.iadd, 1) := by decide +kernel
theorem dX8_guestItem_132 : decode cX8_guestItem 132 = .ok (.iastore, 1) := by decide +kernel
theorem dX8_guestItem_133 : decode cX8_guestItem 133 = .ok (.iconst 1, 1) := by decide +kernel
theorem dX8_guestItem_134 : decode cX8_guestItem 134 = .ok (.ireturn, 1) := by decide +kernel
theorem dX8_lookItem_0 : decode cX8_lookItem 0 = .ok (.bipush 6, 2) := by decide +kernel
theorem dX8_lookItem_2 : decode cX8_lookItem 2 = .ok (.aload_n 0, 1) := by decide +kernel
theorem dX8_lookItem_3 : decode cX8_lookItem 3 = .ok (.getfield 52, 3) := by decide +kernel
theorem dX8_lookItem_6 : decode cX8_lookItem 6 = .ok (.iconst 1, 1) := by decide +kernel
theorem dX8_lookItem_7 : decode cX8_lookItem 7 = .ok (.iaload, 1) := by decide +kernel
theorem dX8_lookItem_8 : decode cX8_lookItem 8 = .ok (.iadd, 1) := by decide +kernel
theorem dX8_lookItem_9 : decode cX8_lookItem 9 = .ok (.istore_n 1, 1) := by decide +kernel
theorem dX8_lookItem_10 : decode cX8_lookItem 10 = .ok (.aload_n 0, 1) := by decide +kernel
theorem dX8_lookItem_11 : decode cX8_lookItem 11 = .ok (.iconst 3, 1) := by decide +kernel
theorem dX8_lookItem_12 : decode cX8_lookItem 12 = .ok (.invokevirtual 134, 3) := by decide +kernel
theorem dX8_lookItem_15 : decode cX8_lookItem 15 = .ok (.ifCond .eq 51, 3) := by decide +kernel
theorem dX8_lookItem_18 : decode cX8_lookItem 18 = .ok (.aload_n 0, 1) := by decide +kernel
theorem dX8_lookItem_19 : decode cX8_lookItem 19 = .ok (.getfield 52, 3) := by decide +kernel
theorem dX8_lookItem_22 : decode cX8_lookItem 22 = .ok (.iconst 1, 1) := by decide +kernel
theorem dX8_lookItem_23 : decode cX8_lookItem 23 = .ok (.iaload, 1) := by decide +kernel
theorem dX8_lookItem_24 : decode cX8_lookItem 24 = .ok (.bipush 6, 2) := by decide +kernel
theorem dX8_lookItem_26 : decode cX8_lookItem 26 = .ok (.if_icmp .eq 40, 3) := by decide +kernel
theorem dX8_lookItem_29 : decode cX8_lookItem 29 = .ok (.aload_n 0, 1) := by decide +kernel
theorem dX8_lookItem_30 : decode cX8_lookItem 30 = .ok (.getfield 82, 3) := by decide +kernel
theorem dX8_lookItem_33 : decode cX8_lookItem 33 = .ok (.iconst 0, 1) := by decide +kernel
theorem dX8_lookItem_34 : decode cX8_lookItem 34 = .ok (.iaload, 1) := by decide +kernel
theorem dX8_lookItem_35 : decode cX8_lookItem 35 = .ok (.aload_n 0, 1) := by decide +kernel
theorem dX8_lookItem_36 : decode cX8_lookItem 36 = .ok (.getfield 13, 3) := by decide +kernel
theorem dX8_lookItem_39 : decode cX8_lookItem 39 = .ok (.iconst 1, 1) := by decide +kernel
theorem dX8_lookItem_40 : decode cX8_lookItem 40 = .ok (.iaload, 1) := by decide +kernel
theorem dX8_lookItem_41 : decode cX8_lookItem 41 = .ok (.if_icmp .ge 25, 3) := by decide +kernel
theorem dX8_lookItem_44 : decode cX8_lookItem 44 = .ok (.aload_n 0, 1) := by decide +kernel
theorem dX8_lookItem_45 : decode cX8_lookItem 45 = .ok (.getfield 82, 3) := by decide +kernel
theorem dX8_lookItem_48 : decode cX8_lookItem 48 = .ok (.iconst 1, 1) := by decide +kernel
theorem dX8_lookItem_49 : decode cX8_lookItem 49 = .ok (.iaload, 1) := by decide +kernel
theorem dX8_lookItem_50 : decode cX8_lookItem 50 = .ok (.invokestatic 138, 3) := by decide +kernel
theorem dX8_lookItem_53 : decode cX8_lookItem 53 = .ok (.ifCond .eq 13, 3) := by decide +kernel
theorem dX8_lookItem_56 : decode cX8_lookItem 56 = .ok (.aload_n 0, 1) := by decide +kernel
theorem dX8_lookItem_57 : decode cX8_lookItem 57 = .ok (.getfield 82, 3) := by decide +kernel
theorem dX8_lookItem_60 : decode cX8_lookItem 60 = .ok (.iconst 2, 1) := by decide +kernel
theorem dX8_lookItem_61 : decode cX8_lookItem 61 = .ok (.iaload, 1) := by decide +kernel
theorem dX8_lookItem_62 : decode cX8_lookItem 62 = .ok (.iconst 1, 1) := by decide +kernel
theorem dX8_lookItem_63 : decode cX8_lookItem 63 = .ok (.if_icmp .le 5, 3) := by decide +kernel
theorem dX8_lookItem_66 : decode cX8_lookItem 66 = .ok (.iconst 0, 1) := by decide +kernel
theorem dX8_lookItem_67 : decode cX8_lookItem 67 = .ok (.ireturn, 1) := by decide +kernel
theorem dX8_lookItem_68 : decode cX8_lookItem 68 = .ok (.aload_n 0, 1) := by decide +kernel
theorem dX8_lookItem_69 : decode cX8_lookItem 69 = .ok (.getfield 55, 3) := by decide +kernel
theorem dX8_lookItem_72 : decode cX8_lookItem 72 = .ok (.iload_n 1, 1) := by decide +kernel
theorem dX8_lookItem_73 : decode cX8_lookItem 73 = .ok (.aload_n 0, 1) := by decide +kernel
theorem dX8_lookItem_74 : decode cX8_lookItem 74 = .ok (.getfield 82, 3) := by decide +kernel
theorem dX8_lookItem_77 : decode cX8_lookItem 77 = .ok (.iconst 0, 1) := by decide +kernel
theorem dX8_lookItem_78 : decode cX8_lookItem 78 = .ok (.iaload, 1) := by decide +kernel
theorem dX8_lookItem_79 : decode cX8_lookItem 79 = .ok (.iastore, 1) := by decide +kernel
theorem dX8_lookItem_80 : decode cX8_lookItem 80 = .ok (.aload_n 0, 1) := by decide +kernel
theorem dX8_lookItem_81 : decode cX8_lookItem 81 = .ok (.getfield 58, 3) := by decide +kernel
theorem dX8_lookItem_84 : decode cX8_lookItem 84 = .ok (.iload_n 1, 1) := by decide +kernel
theorem dX8_lookItem_85 : decode cX8_lookItem 85 = .ok (.aload_n 0, 1) := by decide +kernel
theorem dX8_lookItem_86 : decode cX8_lookItem 86 = .ok (.getfield 82, 3) := by decide +kernel
theorem dX8_lookItem_89 : decode cX8_lookItem 89 = .ok (.iconst 1, 1) := by decide +kernel
theorem dX8_lookItem_90 : decode cX8_lookItem 90 = .ok (.iaload, 1) := by decide +kernel
theorem dX8_lookItem_91 : decode cX8_lookItem 91 = .ok (.iastore, 1) := by decide +kernel
theorem dX8_lookItem_92 : decode cX8_lookItem 92 = .ok (.aload_n 0, 1) := by decide +kernel
theorem dX8_lookItem_93 : decode cX8_lookItem 93 = .ok (.getfield 61, 3) := by decide +kernel
theorem dX8_lookItem_96 : decode cX8_lookItem 96 = .ok (.iload_n 1, 1) := by decide +kernel
theorem dX8_lookItem_97 : decode cX8_lookItem 97 = .ok (.aload_n 0, 1) := by decide +kernel
theorem dX8_lookItem_98 : decode cX8_lookItem 98 = .ok (.getfield 82, 3) := by decide +kernel
theorem dX8_lookItem_101 : decode cX8_lookItem 101 = .ok (.iconst 2, 1) := by decide +kernel
theorem dX8_lookItem_102 : decode cX8_lookItem 102 = .ok (.iaload, 1) := by decide +kernel
theorem dX8_lookItem_103 : decode cX8_lookItem 103 = .ok (.iastore, 1) := by decide +kernel
theorem dX8_lookItem_104 : decode cX8_lookItem 104 = .ok (.aload_n 0, 1) := by decide +kernel
theorem dX8_lookItem_105 : decode cX8_lookItem 105 = .ok (.getfield 52, 3) := by decide +kernel
theorem dX8_lookItem_108 : decode cX8_lookItem 108 = .ok (.iconst 1, 1) := by decide +kernel
theorem dX8_lookItem_109 : decode cX8_lookItem 109 = .ok (.dup2, 1) := by decide +kernel
theorem dX8_lookItem_110 : decode cX8_lookItem 110 = .ok (.iaload, 1) := by decide +kernel
theorem dX8_lookItem_111 : decode cX8_lookItem 111 = .ok (.iconst 1, 1) := by decide +kernel
theorem dX8_lookItem_112 : decode cX8_lookItem 112 = .ok (.iadd, 1) := by decide +kernel
theorem dX8_lookItem_113 : decode cX8_lookItem 113 = .ok (.iastore, 1) := by decide +kernel
theorem dX8_lookItem_114 : decode cX8_lookItem 114 = .ok (.iconst 1, 1) := by decide +kernel
theorem dX8_lookItem_115 : decode cX8_lookItem 115 = .ok (.ireturn, 1) := by decide +kernel
theorem dX8_item_0 : decode cX8_item 0 = .ok (.aload_n 0, 1) := by decide +kernel
theorem dX8_item_1 : decode cX8_item 1 = .ok (.aload_n 0, 1) := by decide +kernel
theorem dX8_item_2 : decode cX8_item 2 = .ok (.getfield 119, 3) := by decide +kernel
theorem dX8_item_5 : decode cX8_item 5 = .ok (.invokevirtual 122, 3) := by decide +kernel
theorem dX8_item_8 : decode cX8_item 8 = .ok (.istore_n 1, 1) := by decide +kernel
theorem dX8_item_9 : decode cX8_item 9 = .ok (.aload_n 0, 1) := by decide +kernel
theorem dX8_item_10 : decode cX8_item 10 = .ok (.dup, 1) := by decide +kernel
theorem dX8_item_11 : decode cX8_item 11 = .ok (.getfield 119, 3) := by decide +kernel
theorem dX8_item_14 : decode cX8_item 14 = .ok (.iconst 1, 1) := by decide +kernel
theorem dX8_item_15 : decode cX8_item 15 = .ok (.iadd, 1) := by decide +kernel
theorem dX8_item_16 : decode cX8_item 16 = .ok (.putfield 119, 3) := by decide +kernel
theorem dX8_item_19 : decode cX8_item 19 = .ok (.iload_n 1, 1) := by decide +kernel
theorem dX8_item_20 : decode cX8_item 20 = .ok (.tableswitch 557 98 121 #[345, 381, 557, 557, 557, 112, 557, 557, 557, 557, 287, 557, 557, 557, 557, 557, 557, 122, 557, 468, 557, 224, 557, 117], 112) := by decide +kernel
theorem dX8_item_132 : decode cX8_item 132 = .ok (.aload_n 0, 1) := by decide +kernel
theorem dX8_item_133 : decode cX8_item 133 = .ok (.invokevirtual 141, 3) := by decide +kernel
theorem dX8_item_136 : decode cX8_item 136 = .ok (.ireturn, 1) := by decide +kernel
theorem dX8_item_137 : decode cX8_item 137 = .ok (.aload_n 0, 1) := by decide +kernel
theorem dX8_item_138 : decode cX8_item 138 = .ok (.invokevirtual 145, 3) := by decide +kernel
theorem dX8_item_141 : decode cX8_item 141 = .ok (.ireturn, 1) := by decide +kernel
theorem dX8_item_142 : decode cX8_item 142 = .ok (.aload_n 0, 1) := by decide +kernel
theorem dX8_item_143 : decode cX8_item 143 = .ok (.iconst 2, 1) := by decide +kernel
theorem dX8_item_144 : decode cX8_item 144 = .ok (.invokevirtual 134, 3) := by decide +kernel
theorem dX8_item_147 : decode cX8_item 147 = .ok (.ifCond .eq 43, 3) := by decide +kernel
theorem dX8_item_150 : decode cX8_item 150 = .ok (.aload_n 0, 1) := by decide +kernel
theorem dX8_item_151 : decode cX8_item 151 = .ok (.getfield 64, 3) := by decide +kernel
theorem dX8_item_154 : decode cX8_item 154 = .ok (.iconst 1, 1) := by decide +kernel
theorem dX8_item_155 : decode cX8_item 155 = .ok (.iaload, 1) := by decide +kernel
theorem dX8_item_156 : decode cX8_item 156 = .ok (.bipush 6, 2) := by decide +kernel
theorem dX8_item_158 : decode cX8_item 158 = .ok (.if_icmp .eq 32, 3) := by decide +kernel
theorem dX8_item_161 : decode cX8_item 161 = .ok (.aload_n 0, 1) := by decide +kernel
theorem dX8_item_162 : decode cX8_item 162 = .ok (.getfield 82, 3) := by decide +kernel
theorem dX8_item_165 : decode cX8_item 165 = .ok (.iconst 0, 1) := by decide +kernel
theorem dX8_item_166 : decode cX8_item 166 = .ok (.iaload, 1) := by decide +kernel
theorem dX8_item_167 : decode cX8_item 167 = .ok (.invokestatic 138, 3) := by decide +kernel
theorem dX8_item_170 : decode cX8_item 170 = .ok (.ifCond .eq 20, 3) := by decide +kernel
theorem dX8_item_173 : decode cX8_item 173 = .ok (.aload_n 0, 1) := by decide +kernel
theorem dX8_item_174 : decode cX8_item 174 = .ok (.getfield 82, 3) := by decide +kernel
theorem dX8_item_177 : decode cX8_item 177 = .ok (.iconst 1, 1) := by decide +kernel
theorem dX8_item_178 : decode cX8_item 178 = .ok (.iaload, 1) := by decide +kernel
theorem dX8_item_179 : decode cX8_item 179 = .ok (.i2l, 1) := by decide +kernel
theorem dX8_item_180 : decode cX8_item 180 = .ok (.lconst 1, 1) := by decide +kernel
theorem dX8_item_181 : decode cX8_item 181 = .ok (.ldc2_w 148, 3) := by decide +kernel
theorem dX8_item_184 : decode cX8_item 184 = .ok (.invokestatic 109, 3) := by decide +kernel
theorem dX8_item_187 : decode cX8_item 187 = .ok (.ifCond .ne 5, 3) := by decide +kernel
theorem dX8_item_190 : decode cX8_item 190 = .ok (.iconst 0, 1) := by decide +kernel
theorem dX8_item_191 : decode cX8_item 191 = .ok (.ireturn, 1) := by decide +kernel
theorem dX8_item_192 : decode cX8_item 192 = .ok (.aload_n 0, 1) := by decide +kernel
theorem dX8_item_193 : decode cX8_item 193 = .ok (.getfield 67, 3) := by decide +kernel
theorem dX8_item_196 : decode cX8_item 196 = .ok (.bipush 6, 2) := by decide +kernel
theorem dX8_item_198 : decode cX8_item 198 = .ok (.aload_n 0, 1) := by decide +kernel
theorem dX8_item_199 : decode cX8_item 199 = .ok (.getfield 64, 3) := by decide +kernel
theorem dX8_item_202 : decode cX8_item 202 = .ok (.iconst 1, 1) := by decide +kernel
theorem dX8_item_203 : decode cX8_item 203 = .ok (.iaload, 1) := by decide +kernel
theorem dX8_item_204 : decode cX8_item 204 = .ok (.iadd, 1) := by decide +kernel
theorem dX8_item_205 : decode cX8_item 205 = .ok (.aload_n 0, 1) := by decide +kernel
theorem dX8_item_206 : decode cX8_item 206 = .ok (.getfield 82, 3) := by decide +kernel
theorem dX8_item_209 : decode cX8_item 209 = .ok (.iconst 0, 1) := by decide +kernel
theorem dX8_item_210 : decode cX8_item 210 = .ok (.iaload, 1) := by decide +kernel
theorem dX8_item_211 : decode cX8_item 211 = .ok (.iastore, 1) := by decide +kernel
theorem dX8_item_212 : decode cX8_item 212 = .ok (.aload_n 0, 1) := by decide +kernel
theorem dX8_item_213 : decode cX8_item 213 = .ok (.getfield 70, 3) := by decide +kernel
theorem dX8_item_216 : decode cX8_item 216 = .ok (.bipush 6, 2) := by decide +kernel
theorem dX8_item_218 : decode cX8_item 218 = .ok (.aload_n 0, 1) := by decide +kernel
theorem dX8_item_219 : decode cX8_item 219 = .ok (.getfield 64, 3) := by decide +kernel
theorem dX8_item_222 : decode cX8_item 222 = .ok (.iconst 1, 1) := by decide +kernel
theorem dX8_item_223 : decode cX8_item 223 = .ok (.iaload, 1) := by decide +kernel
theorem dX8_item_224 : decode cX8_item 224 = .ok (.iadd, 1) := by decide +kernel
theorem dX8_item_225 : decode cX8_item 225 = .ok (.aload_n 0, 1) := by decide +kernel
theorem dX8_item_226 : decode cX8_item 226 = .ok (.getfield 82, 3) := by decide +kernel
theorem dX8_item_229 : decode cX8_item 229 = .ok (.iconst 1, 1) := by decide +kernel
theorem dX8_item_230 : decode cX8_item 230 = .ok (.iaload, 1) := by decide +kernel
theorem dX8_item_231 : decode cX8_item 231 = .ok (.iastore, 1) := by decide +kernel
theorem dX8_item_232 : decode cX8_item 232 = .ok (.aload_n 0, 1) := by decide +kernel
theorem dX8_item_233 : decode cX8_item 233 = .ok (.getfield 64, 3) := by decide +kernel
theorem dX8_item_236 : decode cX8_item 236 = .ok (.iconst 1, 1) := by decide +kernel
theorem dX8_item_237 : decode cX8_item 237 = .ok (.dup2, 1) := by decide +kernel
theorem dX8_item_238 : decode cX8_item 238 = .ok (.iaload, 1) := by decide +kernel
theorem dX8_item_239 : decode cX8_item 239 = .ok (.iconst 1, 1) := by decide +kernel
theorem dX8_item_240 : decode cX8_item 240 = .ok (.iadd, 1) := by decide +kernel
theorem dX8_item_241 : decode cX8_item 241 = .ok (.iastore, 1) := by decide +kernel
theorem dX8_item_242 : decode cX8_item 242 = .ok (.iconst 1, 1) := by decide +kernel
theorem dX8_item_243 : decode cX8_item 243 = .ok (.ireturn, 1) := by decide +kernel
theorem dX8_item_244 : decode cX8_item 244 = .ok (.aload_n 0, 1) := by decide +kernel
theorem dX8_item_245 : decode cX8_item 245 = .ok (.iconst 1, 1) := by decide +kernel
theorem dX8_item_246 : decode cX8_item 246 = .ok (.invokevirtual 134, 3) := by decide +kernel
theorem dX8_item_249 : decode cX8_item 249 = .ok (.ifCond .eq 25, 3) := by decide +kernel
theorem dX8_item_252 : decode cX8_item 252 = .ok (.aload_n 0, 1) := by decide +kernel
theorem dX8_item_253 : decode cX8_item 253 = .ok (.getfield 73, 3) := by decide +kernel
theorem dX8_item_256 : decode cX8_item 256 = .ok (.iconst 1, 1) := by decide +kernel
theorem dX8_item_257 : decode cX8_item 257 = .ok (.iaload, 1) := by decide +kernel
theorem dX8_item_258 : decode cX8_item 258 = .ok (.iconst 4, 1) := by decide +kernel
theorem dX8_item_259 : decode cX8_item 259 = .ok (.if_icmp .eq 15, 3) := by decide +kernel
theorem dX8_item_262 : decode cX8_item 262 = .ok (.aload_n 0, 1) := by decide +kernel
theorem dX8_item_263 : decode cX8_item 263 = .ok (.getfield 82, 3) := by decide +kernel
theorem dX8_item_266 : decode cX8_item 266 = .ok (.iconst 0, 1) := by decide +kernel
theorem dX8_item_267 : decode cX8_item 267 = .ok (.iaload, 1) := by decide +kernel
theorem dX8_item_268 : decode cX8_item 268 = .ok (.invokestatic 138, 3) := by decide +kernel
theorem dX8_item_271 : decode cX8_item 271 = .ok (.ifCond .ne 5, 3) := by decide +kernel
theorem dX8_item_274 : decode cX8_item 274 = .ok (.iconst 0, 1) := by decide +kernel
theorem dX8_item_275 : decode cX8_item 275 = .ok (.ireturn, 1) := by decide +kernel
theorem dX8_item_276 : decode cX8_item 276 = .ok (.aload_n 0, 1) := by decide +kernel
theorem dX8_item_277 : decode cX8_item 277 = .ok (.getfield 76, 3) := by decide +kernel
theorem dX8_item_280 : decode cX8_item 280 = .ok (.iconst 4, 1) := by decide +kernel
theorem dX8_item_281 : decode cX8_item 281 = .ok (.aload_n 0, 1) := by decide +kernel
theorem dX8_item_282 : decode cX8_item 282 = .ok (.getfield 73, 3) := by decide +kernel
theorem dX8_item_285 : decode cX8_item 285 = .ok (.iconst 1, 1) := by decide +kernel
theorem dX8_item_286 : decode cX8_item 286 = .ok (.iaload, 1) := by decide +kernel
theorem dX8_item_287 : decode cX8_item 287 = .ok (.iadd, 1) := by decide +kernel
theorem dX8_item_288 : decode cX8_item 288 = .ok (.aload_n 0, 1) := by decide +kernel
theorem dX8_item_289 : decode cX8_item 289 = .ok (.getfield 82, 3) := by decide +kernel
theorem dX8_item_292 : decode cX8_item 292 = .ok (.iconst 0, 1) := by decide +kernel
theorem dX8_item_293 : decode cX8_item 293 = .ok (.iaload, 1) := by decide +kernel
theorem dX8_item_294 : decode cX8_item 294 = .ok (.iastore, 1) := by decide +kernel
theorem dX8_item_295 : decode cX8_item 295 = .ok (.aload_n 0, 1) := by decide +kernel
theorem dX8_item_296 : decode cX8_item 296 = .ok (.getfield 73, 3) := by decide +kernel
theorem dX8_item_299 : decode cX8_item 299 = .ok (.iconst 1, 1) := by decide +kernel
theorem dX8_item_300 : decode cX8_item 300 = .ok (.dup2, 1) := by decide +kernel
theorem dX8_item_301 : decode cX8_item 301 = .ok (.iaload, 1) := by decide +kernel
theorem dX8_item_302 : decode cX8_item 302 = .ok (.iconst 1, 1) := by decide +kernel
theorem dX8_item_303 : decode cX8_item 303 = .ok (.iadd, 1) := by decide +kernel
theorem dX8_item_304 : decode cX8_item 304 = .ok (.iastore, 1) := by decide +kernel
theorem dX8_item_305 : decode cX8_item 305 = .ok (.iconst 1, 1) := by decide +kernel
theorem dX8_item_306 : decode cX8_item 306 = .ok (.ireturn, 1) := by decide +kernel
theorem dX8_item_307 : decode cX8_item 307 = .ok (.aload_n 0, 1) := by decide +kernel
theorem dX8_item_308 : decode cX8_item 308 = .ok (.iconst 2, 1) := by decide +kernel
theorem dX8_item_309 : decode cX8_item 309 = .ok (.invokevirtual 134, 3) := by decide +kernel
theorem dX8_item_312 : decode cX8_item 312 = .ok (.ifCond .eq 25, 3) := by decide +kernel
theorem dX8_item_315 : decode cX8_item 315 = .ok (.aload_n 0, 1) := by decide +kernel
theorem dX8_item_316 : decode cX8_item 316 = .ok (.getfield 82, 3) := by decide +kernel
theorem dX8_item_319 : decode cX8_item 319 = .ok (.iconst 0, 1) := by decide +kernel
theorem dX8_item_320 : decode cX8_item 320 = .ok (.iaload, 1) := by decide +kernel
theorem dX8_item_321 : decode cX8_item 321 = .ok (.bipush 99, 2) := by decide +kernel
theorem dX8_item_323 : decode cX8_item 323 = .ok (.if_icmp .gt 14, 3) := by decide +kernel
theorem dX8_item_326 : decode cX8_item 326 = .ok (.aload_n 0, 1) := by decide +kernel
theorem dX8_item_327 : decode cX8_item 327 = .ok (.getfield 82, 3) := by decide +kernel
theorem dX8_item_330 : decode cX8_item 330 = .ok (.iconst 1, 1) := by decide +kernel
theorem dX8_item_331 : decode cX8_item 331 = .ok (.iaload, 1) := by decide +kernel
theorem dX8_item_332 : decode cX8_item 332 = .ok (.bipush 60, 2) := by decide +kernel
theorem dX8_item_334 : decode cX8_item 334 = .ok (.if_icmp .le 5, 3) := by decide +kernel
theorem dX8_item_337 : decode cX8_item 337 = .ok (.iconst 0, 1) := by decide +kernel
theorem dX8_item_338 : decode cX8_item 338 = .ok (.ireturn, 1) := by decide +kernel
theorem dX8_item_339 : decode cX8_item 339 = .ok (.aload_n 0, 1) := by decide +kernel
theorem dX8_item_340 : decode cX8_item 340 = .ok (.getfield 37, 3) := by decide +kernel
theorem dX8_item_343 : decode cX8_item 343 = .ok (.iconst 1, 1) := by decide +kernel
theorem dX8_item_344 : decode cX8_item 344 = .ok (.aload_n 0, 1) := by decide +kernel
theorem dX8_item_345 : decode cX8_item 345 = .ok (.getfield 82, 3) := by decide +kernel
theorem dX8_item_348 : decode cX8_item 348 = .ok (.iconst 0, 1) := by decide +kernel
theorem dX8_item_349 : decode cX8_item 349 = .ok (.iaload, 1) := by decide +kernel
theorem dX8_item_350 : decode cX8_item 350 = .ok (.iastore, 1) := by decide +kernel
theorem dX8_item_351 : decode cX8_item 351 = .ok (.aload_n 0, 1) := by decide +kernel
theorem dX8_item_352 : decode cX8_item 352 = .ok (.getfield 40, 3) := by decide +kernel
theorem dX8_item_355 : decode cX8_item 355 = .ok (.iconst 1, 1) := by decide +kernel
theorem dX8_item_356 : decode cX8_item 356 = .ok (.aload_n 0, 1) := by decide +kernel
theorem dX8_item_357 : decode cX8_item 357 = .ok (.getfield 82, 3) := by decide +kernel
theorem dX8_item_360 : decode cX8_item 360 = .ok (.iconst 1, 1) := by decide +kernel
theorem dX8_item_361 : decode cX8_item 361 = .ok (.iaload, 1) := by decide +kernel
theorem dX8_item_362 : decode cX8_item 362 = .ok (.iastore, 1) := by decide +kernel
theorem dX8_item_363 : decode cX8_item 363 = .ok (.iconst 1, 1) := by decide +kernel
theorem dX8_item_364 : decode cX8_item 364 = .ok (.ireturn, 1) := by decide +kernel
theorem dX8_item_365 : decode cX8_item 365 = .ok (.aload_n 0, 1) := by decide +kernel
theorem dX8_item_366 : decode cX8_item 366 = .ok (.iconst 1, 1) := by decide +kernel
theorem dX8_item_367 : decode cX8_item 367 = .ok (.invokevirtual 134, 3) := by decide +kernel
theorem dX8_item_370 : decode cX8_item 370 = .ok (.ifCond .eq 15, 3) := by decide +kernel
theorem dX8_item_373 : decode cX8_item 373 = .ok (.aload_n 0, 1) := by decide +kernel
theorem dX8_item_374 : decode cX8_item 374 = .ok (.getfield 82, 3) := by decide +kernel
theorem dX8_item_377 : decode cX8_item 377 = .ok (.iconst 0, 1) := by decide +kernel
theorem dX8_item_378 : decode cX8_item 378 = .ok (.iaload, 1) := by decide +kernel
theorem dX8_item_379 : decode cX8_item 379 = .ok (.invokestatic 138, 3) := by decide +kernel
theorem dX8_item_382 : decode cX8_item 382 = .ok (.ifCond .ne 5, 3) := by decide +kernel
theorem dX8_item_385 : decode cX8_item 385 = .ok (.iconst 0, 1) := by decide +kernel
theorem dX8_item_386 : decode cX8_item 386 = .ok (.ireturn, 1) := by decide +kernel
theorem dX8_item_387 : decode cX8_item 387 = .ok (.aload_n 0, 1) := by decide +kernel
theorem dX8_item_388 : decode cX8_item 388 = .ok (.getfield 43, 3) := by decide +kernel
theorem dX8_item_391 : decode cX8_item 391 = .ok (.iconst 1, 1) := by decide +kernel
theorem dX8_item_392 : decode cX8_item 392 = .ok (.aload_n 0, 1) := by decide +kernel
theorem dX8_item_393 : decode cX8_item 393 = .ok (.getfield 82, 3) := by decide +kernel
theorem dX8_item_396 : decode cX8_item 396 = .ok (.iconst 0, 1) := by decide +kernel
theorem dX8_item_397 : decode cX8_item 397 = .ok (.iaload, 1) := by decide +kernel
theorem dX8_item_398 : decode cX8_item 398 = .ok (.iastore, 1) := by decide +kernel
theorem dX8_item_399 : decode cX8_item 399 = .ok (.iconst 1, 1) := by decide +kernel
theorem dX8_item_400 : decode cX8_item 400 = .ok (.ireturn, 1) := by decide +kernel
theorem dX8_item_401 : decode cX8_item 401 = .ok (.aload_n 0, 1) := by decide +kernel
theorem dX8_item_402 : decode cX8_item 402 = .ok (.iconst 2, 1) := by decide +kernel
theorem dX8_item_403 : decode cX8_item 403 = .ok (.invokevirtual 134, 3) := by decide +kernel
theorem dX8_item_406 : decode cX8_item 406 = .ok (.ifCond .eq 30, 3) := by decide +kernel
theorem dX8_item_409 : decode cX8_item 409 = .ok (.aload_n 0, 1) := by decide +kernel
theorem dX8_item_410 : decode cX8_item 410 = .ok (.getfield 28, 3) := by decide +kernel
theorem dX8_item_413 : decode cX8_item 413 = .ok (.iconst 1, 1) := by decide +kernel
theorem dX8_item_414 : decode cX8_item 414 = .ok (.iaload, 1) := by decide +kernel
theorem dX8_item_415 : decode cX8_item 415 = .ok (.iconst 3, 1) := by decide +kernel
theorem dX8_item_416 : decode cX8_item 416 = .ok (.if_icmp .eq 20, 3) := by decide +kernel
theorem dX8_item_419 : decode cX8_item 419 = .ok (.aload_n 0, 1) := by decide +kernel
theorem dX8_item_420 : decode cX8_item 420 = .ok (.getfield 82, 3) := by decide +kernel
theorem dX8_item_423 : decode cX8_item 423 = .ok (.iconst 0, 1) := by decide +kernel
theorem dX8_item_424 : decode cX8_item 424 = .ok (.iaload, 1) := by decide +kernel
theorem dX8_item_425 : decode cX8_item 425 = .ok (.i2l, 1) := by decide +kernel
theorem dX8_item_426 : decode cX8_item 426 = .ok (.lconst 1, 1) := by decide +kernel
theorem dX8_item_427 : decode cX8_item 427 = .ok (.ldc2_w 148, 3) := by decide +kernel
theorem dX8_item_430 : decode cX8_item 430 = .ok (.invokestatic 109, 3) := by decide +kernel
theorem dX8_item_433 : decode cX8_item 433 = .ok (.ifCond .ne 5, 3) := by decide +kernel
theorem dX8_item_436 : decode cX8_item 436 = .ok (.iconst 0, 1) := by decide +kernel
theorem dX8_item_437 : decode cX8_item 437 = .ok (.ireturn, 1) := by decide +kernel
theorem dX8_item_438 : decode cX8_item 438 = .ok (.aload_n 0, 1) := by decide +kernel
theorem dX8_item_439 : decode cX8_item 439 = .ok (.getfield 31, 3) := by decide +kernel
theorem dX8_item_442 : decode cX8_item 442 = .ok (.iconst 3, 1) := by decide +kernel
theorem dX8_item_443 : decode cX8_item 443 = .ok (.aload_n 0, 1) := by decide +kernel
theorem dX8_item_444 : decode cX8_item 444 = .ok (.getfield 28, 3) := by decide +kernel
theorem dX8_item_447 : decode cX8_item 447 = .ok (.iconst 1, 1) := by decide +kernel
theorem dX8_item_448 : decode cX8_item 448 = .ok (.iaload, 1) := by decide +kernel
theorem dX8_item_449 : decode cX8_item 449 = .ok (.iadd, 1) := by decide +kernel
theorem dX8_item_450 : decode cX8_item 450 = .ok (.aload_n 0, 1) := by decide +kernel
theorem dX8_item_451 : decode cX8_item 451 = .ok (.getfield 82, 3) := by decide +kernel
theorem dX8_item_454 : decode cX8_item 454 = .ok (.iconst 0, 1) := by decide +kernel
theorem dX8_item_455 : decode cX8_item 455 = .ok (.iaload, 1) := by decide +kernel
theorem dX8_item_456 : decode cX8_item 456 = .ok (.iastore, 1) := by decide +kernel
theorem dX8_item_457 : decode cX8_item 457 = .ok (.aload_n 0, 1) := by decide +kernel
theorem dX8_item_458 : decode cX8_item 458 = .ok (.getfield 34, 3) := by decide +kernel
theorem dX8_item_461 : decode cX8_item 461 = .ok (.iconst 3, 1) := by decide +kernel
theorem dX8_item_462 : decode cX8_item 462 = .ok (.aload_n 0, 1) := by decide +kernel
theorem dX8_item_463 : decode cX8_item 463 = .ok (.getfield 28, 3) := by decide +kernel
theorem dX8_item_466 : decode cX8_item 466 = .ok (.iconst 1, 1) := by decide +kernel
theorem dX8_item_467 : decode cX8_item 467 = .ok (.iaload, 1) := by decide +kernel
theorem dX8_item_468 : decode cX8_item 468 = .ok (.iadd, 1) := by decide +kernel
theorem dX8_item_469 : decode cX8_item 469 = .ok (.aload_n 0, 1) := by decide +kernel
theorem dX8_item_470 : decode cX8_item 470 = .ok (.getfield 82, 3) := by decide +kernel
theorem dX8_item_473 : decode cX8_item 473 = .ok (.iconst 1, 1) := by decide +kernel
theorem dX8_item_474 : decode cX8_item 474 = .ok (.iaload, 1) := by decide +kernel
theorem dX8_item_475 : decode cX8_item 475 = .ok (.iastore, 1) := by decide +kernel
theorem dX8_item_476 : decode cX8_item 476 = .ok (.aload_n 0, 1) := by decide +kernel
theorem dX8_item_477 : decode cX8_item 477 = .ok (.getfield 28, 3) := by decide +kernel
theorem dX8_item_480 : decode cX8_item 480 = .ok (.iconst 1, 1) := by decide +kernel
theorem dX8_item_481 : decode cX8_item 481 = .ok (.dup2, 1) := by decide +kernel
theorem dX8_item_482 : decode cX8_item 482 = .ok (.iaload, 1) := by decide +kernel
theorem dX8_item_483 : decode cX8_item 483 = .ok (.iconst 1, 1) := by decide +kernel
theorem dX8_item_484 : decode cX8_item 484 = .ok (.iadd, 1) := by decide +kernel
theorem dX8_item_485 : decode cX8_item 485 = .ok (.iastore, 1) := by decide +kernel
theorem dX8_item_486 : decode cX8_item 486 = .ok (.iconst 1, 1) := by decide +kernel
theorem dX8_item_487 : decode cX8_item 487 = .ok (.ireturn, 1) := by decide +kernel
theorem dX8_item_488 : decode cX8_item 488 = .ok (.aload_n 0, 1) := by decide +kernel
theorem dX8_item_489 : decode cX8_item 489 = .ok (.iconst 3, 1) := by decide +kernel
theorem dX8_item_490 : decode cX8_item 490 = .ok (.invokevirtual 134, 3) := by decide +kernel
theorem dX8_item_493 : decode cX8_item 493 = .ok (.ifCond .eq 42, 3) := by decide +kernel
theorem dX8_item_496 : decode cX8_item 496 = .ok (.aload_n 0, 1) := by decide +kernel
theorem dX8_item_497 : decode cX8_item 497 = .ok (.getfield 82, 3) := by decide +kernel
theorem dX8_item_500 : decode cX8_item 500 = .ok (.iconst 0, 1) := by decide +kernel
theorem dX8_item_501 : decode cX8_item 501 = .ok (.iaload, 1) := by decide +kernel
theorem dX8_item_502 : decode cX8_item 502 = .ok (.i2l, 1) := by decide +kernel
theorem dX8_item_503 : decode cX8_item 503 = .ok (.lconst 1, 1) := by decide +kernel
theorem dX8_item_504 : decode cX8_item 504 = .ok (.ldc2_w 130, 3) := by decide +kernel
theorem dX8_item_507 : decode cX8_item 507 = .ok (.invokestatic 109, 3) := by decide +kernel
theorem dX8_item_510 : decode cX8_item 510 = .ok (.ifCond .eq 25, 3) := by decide +kernel
theorem dX8_item_513 : decode cX8_item 513 = .ok (.aload_n 0, 1) := by decide +kernel
theorem dX8_item_514 : decode cX8_item 514 = .ok (.getfield 82, 3) := by decide +kernel
theorem dX8_item_517 : decode cX8_item 517 = .ok (.iconst 1, 1) := by decide +kernel
theorem dX8_item_518 : decode cX8_item 518 = .ok (.iaload, 1) := by decide +kernel
theorem dX8_item_519 : decode cX8_item 519 = .ok (.bipush 99, 2) := by decide +kernel
theorem dX8_item_521 : decode cX8_item 521 = .ok (.if_icmp .gt 14, 3) := by decide +kernel
theorem dX8_item_524 : decode cX8_item 524 = .ok (.aload_n 0, 1) := by decide +kernel
theorem dX8_item_525 : decode cX8_item 525 = .ok (.getfield 82, 3) := by decide +kernel
theorem dX8_item_528 : decode cX8_item 528 = .ok (.iconst 2, 1) := by decide +kernel
theorem dX8_item_529 : decode cX8_item 529 = .ok (.iaload, 1) := by decide +kernel
theorem dX8_item_530 : decode cX8_item 530 = .ok (.bipush 99, 2) := by decide +kernel
theorem dX8_item_532 : decode cX8_item 532 = .ok (.if_icmp .le 5, 3) := by decide +kernel
theorem dX8_item_535 : decode cX8_item 535 = .ok (.iconst 0, 1) := by decide +kernel
theorem dX8_item_536 : decode cX8_item 536 = .ok (.ireturn, 1) := by decide +kernel
theorem dX8_item_537 : decode cX8_item 537 = .ok (.aload_n 0, 1) := by decide +kernel
theorem dX8_item_538 : decode cX8_item 538 = .ok (.getfield 46, 3) := by decide +kernel
theorem dX8_item_541 : decode cX8_item 541 = .ok (.iconst 2, 1) := by decide +kernel
theorem dX8_item_542 : decode cX8_item 542 = .ok (.aload_n 0, 1) := by decide +kernel
theorem dX8_item_543 : decode cX8_item 543 = .ok (.getfield 82, 3) := by decide +kernel
theorem dX8_item_546 : decode cX8_item 546 = .ok (.iconst 0, 1) := by decide +kernel
theorem dX8_item_547 : decode cX8_item 547 = .ok (.iaload, 1) := by decide +kernel
theorem dX8_item_548 : decode cX8_item 548 = .ok (.iadd, 1) := by decide +kernel
theorem dX8_item_549 : decode cX8_item 549 = .ok (.aload_n 0, 1) := by decide +kernel
theorem dX8_item_550 : decode cX8_item 550 = .ok (.getfield 82, 3) := by decide +kernel
theorem dX8_item_553 : decode cX8_item 553 = .ok (.iconst 1, 1) := by decide +kernel
theorem dX8_item_554 : decode cX8_item 554 = .ok (.iaload, 1) := by decide +kernel
theorem dX8_item_555 : decode cX8_item 555 = .ok (.iastore, 1) := by decide +kernel
theorem dX8_item_556 : decode cX8_item 556 = .ok (.aload_n 0, 1) := by decide +kernel
theorem dX8_item_557 : decode cX8_item 557 = .ok (.getfield 49, 3) := by decide +kernel
theorem dX8_item_560 : decode cX8_item 560 = .ok (.iconst 2, 1) := by decide +kernel
theorem dX8_item_561 : decode cX8_item 561 = .ok (.aload_n 0, 1) := by decide +kernel
theorem dX8_item_562 : decode cX8_item 562 = .ok (.getfield 82, 3) := by decide +kernel
theorem dX8_item_565 : decode cX8_item 565 = .ok (.iconst 0, 1) := by decide +kernel
theorem dX8_item_566 : decode cX8_item 566 = .ok (.iaload, 1) := by decide +kernel
theorem dX8_item_567 : decode cX8_item 567 = .ok (.iadd, 1) := by decide +kernel
theorem dX8_item_568 : decode cX8_item 568 = .ok (.aload_n 0, 1) := by decide +kernel
theorem dX8_item_569 : decode cX8_item 569 = .ok (.getfield 82, 3) := by decide +kernel
theorem dX8_item_572 : decode cX8_item 572 = .ok (.iconst 2, 1) := by decide +kernel
theorem dX8_item_573 : decode cX8_item 573 = .ok (.iaload, 1) := by decide +kernel
theorem dX8_item_574 : decode cX8_item 574 = .ok (.iastore, 1) := by decide +kernel
theorem dX8_item_575 : decode cX8_item 575 = .ok (.iconst 1, 1) := by decide +kernel
theorem dX8_item_576 : decode cX8_item 576 = .ok (.ireturn, 1) := by decide +kernel
theorem dX8_item_577 : decode cX8_item 577 = .ok (.iconst 0, 1) := by decide +kernel
theorem dX8_item_578 : decode cX8_item 578 = .ok (.ireturn, 1) := by decide +kernel
theorem dX8_readAll_0 : decode cX8_readAll 0 = .ok (.aload_n 0, 1) := by decide +kernel
theorem dX8_readAll_1 : decode cX8_readAll 1 = .ok (.iconst 1, 1) := by decide +kernel
theorem dX8_readAll_2 : decode cX8_readAll 2 = .ok (.invokevirtual 103, 3) := by decide +kernel
theorem dX8_readAll_5 : decode cX8_readAll 5 = .ok (.aload_n 0, 1) := by decide +kernel
theorem dX8_readAll_6 : decode cX8_readAll 6 = .ok (.iconst 0, 1) := by decide +kernel
theorem dX8_readAll_7 : decode cX8_readAll 7 = .ok (.putfield 119, 3) := by decide +kernel
theorem dX8_readAll_10 : decode cX8_readAll 10 = .ok (.aload_n 0, 1) := by decide +kernel
theorem dX8_readAll_11 : decode cX8_readAll 11 = .ok (.getfield 119, 3) := by decide +kernel
theorem dX8_readAll_14 : decode cX8_readAll 14 = .ok (.aload_n 0, 1) := by decide +kernel
theorem dX8_readAll_15 : decode cX8_readAll 15 = .ok (.getfield 113, 3) := by decide +kernel
theorem dX8_readAll_18 : decode cX8_readAll 18 = .ok (.if_icmp .ge 20, 3) := by decide +kernel
theorem dX8_readAll_21 : decode cX8_readAll 21 = .ok (.aload_n 0, 1) := by decide +kernel
theorem dX8_readAll_22 : decode cX8_readAll 22 = .ok (.getfield 119, 3) := by decide +kernel
theorem dX8_readAll_25 : decode cX8_readAll 25 = .ok (.istore_n 1, 1) := by decide +kernel
theorem dX8_readAll_26 : decode cX8_readAll 26 = .ok (.aload_n 0, 1) := by decide +kernel
theorem dX8_readAll_27 : decode cX8_readAll 27 = .ok (.invokevirtual 150, 3) := by decide +kernel
theorem dX8_readAll_30 : decode cX8_readAll 30 = .ok (.ifCond .ne 5, 3) := by decide +kernel
theorem dX8_readAll_33 : decode cX8_readAll 33 = .ok (.iload_n 1, 1) := by decide +kernel
theorem dX8_readAll_34 : decode cX8_readAll 34 = .ok (.ireturn, 1) := by decide +kernel
theorem dX8_readAll_35 : decode cX8_readAll 35 = .ok (.goto (-25), 3) := by decide +kernel
theorem dX8_readAll_38 : decode cX8_readAll 38 = .ok (.bipush (-4), 2) := by decide +kernel
theorem dX8_readAll_40 : decode cX8_readAll 40 = .ok (.ireturn, 1) := by decide +kernel
theorem dX8_fault_0 : decode cX8_fault 0 = .ok (.aload_n 0, 1) := by decide +kernel
theorem dX8_fault_1 : decode cX8_fault 1 = .ok (.invokevirtual 153, 3) := by decide +kernel
theorem dX8_fault_4 : decode cX8_fault 4 = .ok (.ireturn, 1) := by decide +kernel
theorem dX8_copyTold_0 : decode cX8_copyTold 0 = .ok (.aload_n 0, 1) := by decide +kernel
theorem dX8_copyTold_1 : decode cX8_copyTold 1 = .ok (.getfield 64, 3) := by decide +kernel
theorem dX8_copyTold_4 : decode cX8_copyTold 4 = .ok (.iload_n 2, 1) := by decide +kernel
theorem dX8_copyTold_5 : decode cX8_copyTold 5 = .ok (.aload_n 0, 1) := by decide +kernel
theorem dX8_copyTold_6 : decode cX8_copyTold 6 = .ok (.getfield 64, 3) := by decide +kernel
theorem dX8_copyTold_9 : decode cX8_copyTold 9 = .ok (.iload_n 1, 1) := by decide +kernel
theorem dX8_copyTold_10 : decode cX8_copyTold 10 = .ok (.iaload, 1) := by decide +kernel
theorem dX8_copyTold_11 : decode cX8_copyTold 11 = .ok (.iastore, 1) := by decide +kernel
theorem dX8_copyTold_12 : decode cX8_copyTold 12 = .ok (.aload_n 0, 1) := by decide +kernel
theorem dX8_copyTold_13 : decode cX8_copyTold 13 = .ok (.getfield 73, 3) := by decide +kernel
theorem dX8_copyTold_16 : decode cX8_copyTold 16 = .ok (.iload_n 2, 1) := by decide +kernel
theorem dX8_copyTold_17 : decode cX8_copyTold 17 = .ok (.aload_n 0, 1) := by decide +kernel
theorem dX8_copyTold_18 : decode cX8_copyTold 18 = .ok (.getfield 73, 3) := by decide +kernel
theorem dX8_copyTold_21 : decode cX8_copyTold 21 = .ok (.iload_n 1, 1) := by decide +kernel
theorem dX8_copyTold_22 : decode cX8_copyTold 22 = .ok (.iaload, 1) := by decide +kernel
theorem dX8_copyTold_23 : decode cX8_copyTold 23 = .ok (.iastore, 1) := by decide +kernel
theorem dX8_copyTold_24 : decode cX8_copyTold 24 = .ok (.iconst 0, 1) := by decide +kernel
theorem dX8_copyTold_25 : decode cX8_copyTold 25 = .ok (.istore_n 3, 1) := by decide +kernel
theorem dX8_copyTold_26 : decode cX8_copyTold 26 = .ok (.iload_n 3, 1) := by decide +kernel
theorem dX8_copyTold_27 : decode cX8_copyTold 27 = .ok (.bipush 6, 2) := by decide +kernel
theorem dX8_copyTold_29 : decode cX8_copyTold 29 = .ok (.if_icmp .ge 53, 3) := by decide +kernel
theorem dX8_copyTold_32 : decode cX8_copyTold 32 = .ok (.aload_n 0, 1) := by decide +kernel
theorem dX8_copyTold_33 : decode cX8_copyTold 33 = .ok (.getfield 67, 3) := by decide +kernel
theorem dX8_copyTold_36 : decode cX8_copyTold 36 = .ok (.bipush 6, 2) := by decide +kernel
theorem dX8_copyTold_38 : decode cX8_copyTold 38 = .ok (.iload_n 2, 1) := by decide +kernel
theorem dX8_copyTold_39 : decode cX8_copyTold 39 = .ok (.imul, 1) := by decide +kernel
theorem dX8_copyTold_40 : decode cX8_copyTold 40 = .ok (.iload_n 3, 1) := by decide +kernel
theorem dX8_copyTold_41 : decode cX8_copyTold 41 = .ok (.iadd, 1) := by decide +kernel
theorem dX8_copyTold_42 : decode cX8_copyTold 42 = .ok (.aload_n 0, 1) := by decide +kernel
theorem dX8_copyTold_43 : decode cX8_copyTold 43 = .ok (.getfield 67, 3) := by decide +kernel
theorem dX8_copyTold_46 : decode cX8_copyTold 46 = .ok (.bipush 6, 2) := by decide +kernel
theorem dX8_copyTold_48 : decode cX8_copyTold 48 = .ok (.iload_n 1, 1) := by decide +kernel
theorem dX8_copyTold_49 : decode cX8_copyTold 49 = .ok (.imul, 1) := by decide +kernel
theorem dX8_copyTold_50 : decode cX8_copyTold 50 = .ok (.iload_n 3, 1) := by decide +kernel
theorem dX8_copyTold_51 : decode cX8_copyTold 51 = .ok (.iadd, 1) := by decide +kernel
theorem dX8_copyTold_52 : decode cX8_copyTold 52 = .ok (.iaload, 1) := by decide +kernel
theorem dX8_copyTold_53 : decode cX8_copyTold 53 = .ok (.iastore, 1) := by decide +kernel
theorem dX8_copyTold_54 : decode cX8_copyTold 54 = .ok (.aload_n 0, 1) := by decide +kernel
theorem dX8_copyTold_55 : decode cX8_copyTold 55 = .ok (.getfield 70, 3) := by decide +kernel
theorem dX8_copyTold_58 : decode cX8_copyTold 58 = .ok (.bipush 6, 2) := by decide +kernel
theorem dX8_copyTold_60 : decode cX8_copyTold 60 = .ok (.iload_n 2, 1) := by decide +kernel
theorem dX8_copyTold_61 : decode cX8_copyTold 61 = .ok (.imul, 1) := by decide +kernel
theorem dX8_copyTold_62 : decode cX8_copyTold 62 = .ok (.iload_n 3, 1) := by decide +kernel
theorem dX8_copyTold_63 : decode cX8_copyTold 63 = .ok (.iadd, 1) := by decide +kernel
theorem dX8_copyTold_64 : decode cX8_copyTold 64 = .ok (.aload_n 0, 1) := by decide +kernel
theorem dX8_copyTold_65 : decode cX8_copyTold 65 = .ok (.getfield 70, 3) := by decide +kernel
theorem dX8_copyTold_68 : decode cX8_copyTold 68 = .ok (.bipush 6, 2) := by decide +kernel
theorem dX8_copyTold_70 : decode cX8_copyTold 70 = .ok (.iload_n 1, 1) := by decide +kernel
theorem dX8_copyTold_71 : decode cX8_copyTold 71 = .ok (.imul, 1) := by decide +kernel
theorem dX8_copyTold_72 : decode cX8_copyTold 72 = .ok (.iload_n 3, 1) := by decide +kernel
theorem dX8_copyTold_73 : decode cX8_copyTold 73 = .ok (.iadd, 1) := by decide +kernel
theorem dX8_copyTold_74 : decode cX8_copyTold 74 = .ok (.iaload, 1) := by decide +kernel
theorem dX8_copyTold_75 : decode cX8_copyTold 75 = .ok (.iastore, 1) := by decide +kernel
theorem dX8_copyTold_76 : decode cX8_copyTold 76 = .ok (.iinc 3 1, 3) := by decide +kernel
theorem dX8_copyTold_79 : decode cX8_copyTold 79 = .ok (.goto (-53), 3) := by decide +kernel
theorem dX8_copyTold_82 : decode cX8_copyTold 82 = .ok (.iconst 0, 1) := by decide +kernel
theorem dX8_copyTold_83 : decode cX8_copyTold 83 = .ok (.istore_n 3, 1) := by decide +kernel
theorem dX8_copyTold_84 : decode cX8_copyTold 84 = .ok (.iload_n 3, 1) := by decide +kernel
theorem dX8_copyTold_85 : decode cX8_copyTold 85 = .ok (.iconst 4, 1) := by decide +kernel
theorem dX8_copyTold_86 : decode cX8_copyTold 86 = .ok (.if_icmp .ge 29, 3) := by decide +kernel
theorem dX8_copyTold_89 : decode cX8_copyTold 89 = .ok (.aload_n 0, 1) := by decide +kernel
theorem dX8_copyTold_90 : decode cX8_copyTold 90 = .ok (.getfield 76, 3) := by decide +kernel
theorem dX8_copyTold_93 : decode cX8_copyTold 93 = .ok (.iconst 4, 1) := by decide +kernel
theorem dX8_copyTold_94 : decode cX8_copyTold 94 = .ok (.iload_n 2, 1) := by decide +kernel
theorem dX8_copyTold_95 : decode cX8_copyTold 95 = .ok (.imul, 1) := by decide +kernel
theorem dX8_copyTold_96 : decode cX8_copyTold 96 = .ok (.iload_n 3, 1) := by decide +kernel
theorem dX8_copyTold_97 : decode cX8_copyTold 97 = .ok (.iadd, 1) := by decide +kernel
theorem dX8_copyTold_98 : decode cX8_copyTold 98 = .ok (.aload_n 0, 1) := by decide +kernel
theorem dX8_copyTold_99 : decode cX8_copyTold 99 = .ok (.getfield 76, 3) := by decide +kernel
theorem dX8_copyTold_102 : decode cX8_copyTold 102 = .ok (.iconst 4, 1) := by decide +kernel
theorem dX8_copyTold_103 : decode cX8_copyTold 103 = .ok (.iload_n 1, 1) := by decide +kernel
theorem dX8_copyTold_104 : decode cX8_copyTold 104 = .ok (.imul, 1) := by decide +kernel
theorem dX8_copyTold_105 : decode cX8_copyTold 105 = .ok (.iload_n 3, 1) := by decide +kernel
theorem dX8_copyTold_106 : decode cX8_copyTold 106 = .ok (.iadd, 1) := by decide +kernel
theorem dX8_copyTold_107 : decode cX8_copyTold 107 = .ok (.iaload, 1) := by decide +kernel
theorem dX8_copyTold_108 : decode cX8_copyTold 108 = .ok (.iastore, 1) := by decide +kernel
theorem dX8_copyTold_109 : decode cX8_copyTold 109 = .ok (.iinc 3 1, 3) := by decide +kernel
theorem dX8_copyTold_112 : decode cX8_copyTold 112 = .ok (.goto (-28), 3) := by decide +kernel
theorem dX8_copyTold_115 : decode cX8_copyTold 115 = .ok (.return_, 1) := by decide +kernel
theorem dX8_lay_0 : decode cX8_lay 0 = .ok (.aload_n 0, 1) := by decide +kernel
theorem dX8_lay_1 : decode cX8_lay 1 = .ok (.invokevirtual 153, 3) := by decide +kernel
theorem dX8_lay_4 : decode cX8_lay 4 = .ok (.bipush (-4), 2) := by decide +kernel
theorem dX8_lay_6 : decode cX8_lay 6 = .ok (.if_icmp .ne 12, 3) := by decide +kernel
theorem dX8_lay_9 : decode cX8_lay 9 = .ok (.aload_n 0, 1) := by decide +kernel
theorem dX8_lay_10 : decode cX8_lay 10 = .ok (.getfield 13, 3) := by decide +kernel
theorem dX8_lay_13 : decode cX8_lay 13 = .ok (.iconst 1, 1) := by decide +kernel
theorem dX8_lay_14 : decode cX8_lay 14 = .ok (.iaload, 1) := by decide +kernel
theorem dX8_lay_15 : decode cX8_lay 15 = .ok (.ifCond .ne 6, 3) := by decide +kernel
theorem dX8_lay_18 : decode cX8_lay 18 = .ok (.bipush (-2), 2) := by decide +kernel
theorem dX8_lay_20 : decode cX8_lay 20 = .ok (.ireturn, 1) := by decide +kernel
theorem dX8_lay_21 : decode cX8_lay 21 = .ok (.aload_n 0, 1) := by decide +kernel
theorem dX8_lay_22 : decode cX8_lay 22 = .ok (.getfield 13, 3) := by decide +kernel
theorem dX8_lay_25 : decode cX8_lay 25 = .ok (.iconst 0, 1) := by decide +kernel
theorem dX8_lay_26 : decode cX8_lay 26 = .ok (.aload_n 0, 1) := by decide +kernel
theorem dX8_lay_27 : decode cX8_lay 27 = .ok (.getfield 13, 3) := by decide +kernel
theorem dX8_lay_30 : decode cX8_lay 30 = .ok (.iconst 1, 1) := by decide +kernel
theorem dX8_lay_31 : decode cX8_lay 31 = .ok (.iaload, 1) := by decide +kernel
theorem dX8_lay_32 : decode cX8_lay 32 = .ok (.iastore, 1) := by decide +kernel
theorem dX8_lay_33 : decode cX8_lay 33 = .ok (.aload_n 0, 1) := by decide +kernel
theorem dX8_lay_34 : decode cX8_lay 34 = .ok (.getfield 28, 3) := by decide +kernel
theorem dX8_lay_37 : decode cX8_lay 37 = .ok (.iconst 0, 1) := by decide +kernel
theorem dX8_lay_38 : decode cX8_lay 38 = .ok (.aload_n 0, 1) := by decide +kernel
theorem dX8_lay_39 : decode cX8_lay 39 = .ok (.getfield 28, 3) := by decide +kernel
theorem dX8_lay_42 : decode cX8_lay 42 = .ok (.iconst 1, 1) := by decide +kernel
theorem dX8_lay_43 : decode cX8_lay 43 = .ok (.iaload, 1) := by decide +kernel
theorem dX8_lay_44 : decode cX8_lay 44 = .ok (.iastore, 1) := by decide +kernel
theorem dX8_lay_45 : decode cX8_lay 45 = .ok (.aload_n 0, 1) := by decide +kernel
theorem dX8_lay_46 : decode cX8_lay 46 = .ok (.getfield 37, 3) := by decide +kernel
theorem dX8_lay_49 : decode cX8_lay 49 = .ok (.iconst 0, 1) := by decide +kernel
theorem dX8_lay_50 : decode cX8_lay 50 = .ok (.aload_n 0, 1) := by decide +kernel
theorem dX8_lay_51 : decode cX8_lay 51 = .ok (.getfield 37, 3) := by decide +kernel
theorem dX8_lay_54 : decode cX8_lay 54 = .ok (.iconst 1, 1) := by decide +kernel
theorem dX8_lay_55 : decode cX8_lay 55 = .ok (.iaload, 1) := by decide +kernel
theorem dX8_lay_56 : decode cX8_lay 56 = .ok (.iastore, 1) := by decide +kernel
theorem dX8_lay_57 : decode cX8_lay 57 = .ok (.aload_n 0, 1) := by decide +kernel
theorem dX8_lay_58 : decode cX8_lay 58 = .ok (.getfield 40, 3) := by decide +kernel
theorem dX8_lay_61 : decode cX8_lay 61 = .ok (.iconst 0, 1) := by decide +kernel
theorem dX8_lay_62 : decode cX8_lay 62 = .ok (.aload_n 0, 1) := by decide +kernel
theorem dX8_lay_63 : decode cX8_lay 63 = .ok (.getfield 40, 3) := by decide +kernel
theorem dX8_lay_66 : decode cX8_lay 66 = .ok (.iconst 1, 1) := by decide +kernel
theorem dX8_lay_67 : decode cX8_lay 67 = .ok (.iaload, 1) := by decide +kernel
theorem dX8_lay_68 : decode cX8_lay 68 = .ok (.iastore, 1) := by decide +kernel
theorem dX8_lay_69 : decode cX8_lay 69 = .ok (.aload_n 0, 1) := by decide +kernel
theorem dX8_lay_70 : decode cX8_lay 70 = .ok (.getfield 43, 3) := by decide +kernel
theorem dX8_lay_73 : decode cX8_lay 73 = .ok (.iconst 0, 1) := by decide +kernel
theorem dX8_lay_74 : decode cX8_lay 74 = .ok (.aload_n 0, 1) := by decide +kernel
theorem dX8_lay_75 : decode cX8_lay 75 = .ok (.getfield 43, 3) := by decide +kernel
theorem dX8_lay_78 : decode cX8_lay 78 = .ok (.iconst 1, 1) := by decide +kernel
theorem dX8_lay_79 : decode cX8_lay 79 = .ok (.iaload, 1) := by decide +kernel
theorem dX8_lay_80 : decode cX8_lay 80 = .ok (.iastore, 1) := by decide +kernel
theorem dX8_lay_81 : decode cX8_lay 81 = .ok (.aload_n 0, 1) := by decide +kernel
theorem dX8_lay_82 : decode cX8_lay 82 = .ok (.getfield 52, 3) := by decide +kernel
theorem dX8_lay_85 : decode cX8_lay 85 = .ok (.iconst 0, 1) := by decide +kernel
theorem dX8_lay_86 : decode cX8_lay 86 = .ok (.aload_n 0, 1) := by decide +kernel
theorem dX8_lay_87 : decode cX8_lay 87 = .ok (.getfield 52, 3) := by decide +kernel
theorem dX8_lay_90 : decode cX8_lay 90 = .ok (.iconst 1, 1) := by decide +kernel
theorem dX8_lay_91 : decode cX8_lay 91 = .ok (.iaload, 1) := by decide +kernel
theorem dX8_lay_92 : decode cX8_lay 92 = .ok (.iastore, 1) := by decide +kernel
theorem dX8_lay_93 : decode cX8_lay 93 = .ok (.iconst 0, 1) := by decide +kernel
theorem dX8_lay_94 : decode cX8_lay 94 = .ok (.istore_n 1, 1) := by decide +kernel
theorem dX8_lay_95 : decode cX8_lay 95 = .ok (.iload_n 1, 1) := by decide +kernel
theorem dX8_lay_96 : decode cX8_lay 96 = .ok (.bipush 8, 2) := by decide +kernel
theorem dX8_lay_98 : decode cX8_lay 98 = .ok (.if_icmp .ge 69, 3) := by decide +kernel
theorem dX8_lay_101 : decode cX8_lay 101 = .ok (.aload_n 0, 1) := by decide +kernel
theorem dX8_lay_102 : decode cX8_lay 102 = .ok (.getfield 16, 3) := by decide +kernel
theorem dX8_lay_105 : decode cX8_lay 105 = .ok (.iload_n 1, 1) := by decide +kernel
theorem dX8_lay_106 : decode cX8_lay 106 = .ok (.aload_n 0, 1) := by decide +kernel
theorem dX8_lay_107 : decode cX8_lay 107 = .ok (.getfield 16, 3) := by decide +kernel
theorem dX8_lay_110 : decode cX8_lay 110 = .ok (.bipush 8, 2) := by decide +kernel
theorem dX8_lay_112 : decode cX8_lay 112 = .ok (.iload_n 1, 1) := by decide +kernel
theorem dX8_lay_113 : decode cX8_lay 113 = .ok (.iadd, 1) := by decide +kernel
theorem dX8_lay_114 : decode cX8_lay 114 = .ok (.iaload, 1) := by decide +kernel
end
section
theorem dX8_lay_115 : decode cX8_lay 115 = .ok (.iastore, 1) := by decide +kernel
theorem dX8_lay_116 : decode cX8_lay 116 = .ok (.aload_n 0, 1) := by decide +kernel
theorem dX8_lay_117 : decode cX8_lay 117 = .ok (.getfield 19, 3) := by decide +kernel
theorem dX8_lay_120 : decode cX8_lay 120 = .ok (.iload_n 1, 1) := by decide +kernel
theorem dX8_lay_121 : decode cX8_lay 121 = .ok (.aload_n 0, 1) := by decide +kernel
theorem dX8_lay_122 : decode cX8_lay 122 = .ok (.getfield 19, 3) := by decide +kernel
theorem dX8_lay_125 : decode cX8_lay 125 = .ok (.bipush 8, 2) := by decide +kernel
theorem dX8_lay_127 : decode cX8_lay 127 = .ok (.iload_n 1, 1) := by decide +kernel
theorem dX8_lay_128 : decode cX8_lay 128 = .ok (.iadd, 1) := by decide +kernel
theorem dX8_lay_129 : decode cX8_lay 129 = .ok (.iaload, 1) := by decide +kernel
theorem dX8_lay_130 : decode cX8_lay 130 = .ok (.iastore, 1) := by decide +kernel
theorem dX8_lay_131 : decode cX8_lay 131 = .ok (.aload_n 0, 1) := by decide +kernel
theorem dX8_lay_132 : decode cX8_lay 132 = .ok (.getfield 22, 3) := by decide +kernel
theorem dX8_lay_135 : decode cX8_lay 135 = .ok (.iload_n 1, 1) := by decide +kernel
theorem dX8_lay_136 : decode cX8_lay 136 = .ok (.aload_n 0, 1) := by decide +kernel
theorem dX8_lay_137 : decode cX8_lay 137 = .ok (.getfield 22, 3) := by decide +kernel
theorem dX8_lay_140 : decode cX8_lay 140 = .ok (.bipush 8, 2) := by decide +kernel
theorem dX8_lay_142 : decode cX8_lay 142 = .ok (.iload_n 1, 1) := by decide +kernel
theorem dX8_lay_143 : decode cX8_lay 143 = .ok (.iadd, 1) := by decide +kernel
theorem dX8_lay_144 : decode cX8_lay 144 = .ok (.iaload, 1) := by decide +kernel
theorem dX8_lay_145 : decode cX8_lay 145 = .ok (.iastore, 1) := by decide +kernel
theorem dX8_lay_146 : decode cX8_lay 146 = .ok (.aload_n 0, 1) := by decide +kernel
theorem dX8_lay_147 : decode cX8_lay 147 = .ok (.getfield 25, 3) := by decide +kernel
theorem dX8_lay_150 : decode cX8_lay 150 = .ok (.iload_n 1, 1) := by decide +kernel
theorem dX8_lay_151 : decode cX8_lay 151 = .ok (.aload_n 0, 1) := by decide +kernel
theorem dX8_lay_152 : decode cX8_lay 152 = .ok (.getfield 25, 3) := by decide +kernel
theorem dX8_lay_155 : decode cX8_lay 155 = .ok (.bipush 8, 2) := by decide +kernel
theorem dX8_lay_157 : decode cX8_lay 157 = .ok (.iload_n 1, 1) := by decide +kernel
theorem dX8_lay_158 : decode cX8_lay 158 = .ok (.iadd, 1) := by decide +kernel
theorem dX8_lay_159 : decode cX8_lay 159 = .ok (.iaload, 1) := by decide +kernel
theorem dX8_lay_160 : decode cX8_lay 160 = .ok (.iastore, 1) := by decide +kernel
theorem dX8_lay_161 : decode cX8_lay 161 = .ok (.iinc 1 1, 3) := by decide +kernel
theorem dX8_lay_164 : decode cX8_lay 164 = .ok (.goto (-69), 3) := by decide +kernel
theorem dX8_lay_167 : decode cX8_lay 167 = .ok (.iconst 0, 1) := by decide +kernel
theorem dX8_lay_168 : decode cX8_lay 168 = .ok (.istore_n 1, 1) := by decide +kernel
theorem dX8_lay_169 : decode cX8_lay 169 = .ok (.iload_n 1, 1) := by decide +kernel
theorem dX8_lay_170 : decode cX8_lay 170 = .ok (.iconst 3, 1) := by decide +kernel
theorem dX8_lay_171 : decode cX8_lay 171 = .ok (.if_icmp .ge 65, 3) := by decide +kernel
theorem dX8_lay_174 : decode cX8_lay 174 = .ok (.aload_n 0, 1) := by decide +kernel
theorem dX8_lay_175 : decode cX8_lay 175 = .ok (.getfield 31, 3) := by decide +kernel
theorem dX8_lay_178 : decode cX8_lay 178 = .ok (.iload_n 1, 1) := by decide +kernel
theorem dX8_lay_179 : decode cX8_lay 179 = .ok (.aload_n 0, 1) := by decide +kernel
theorem dX8_lay_180 : decode cX8_lay 180 = .ok (.getfield 31, 3) := by decide +kernel
theorem dX8_lay_183 : decode cX8_lay 183 = .ok (.iconst 3, 1) := by decide +kernel
theorem dX8_lay_184 : decode cX8_lay 184 = .ok (.iload_n 1, 1) := by decide +kernel
theorem dX8_lay_185 : decode cX8_lay 185 = .ok (.iadd, 1) := by decide +kernel
theorem dX8_lay_186 : decode cX8_lay 186 = .ok (.iaload, 1) := by decide +kernel
theorem dX8_lay_187 : decode cX8_lay 187 = .ok (.iastore, 1) := by decide +kernel
theorem dX8_lay_188 : decode cX8_lay 188 = .ok (.aload_n 0, 1) := by decide +kernel
theorem dX8_lay_189 : decode cX8_lay 189 = .ok (.getfield 34, 3) := by decide +kernel
theorem dX8_lay_192 : decode cX8_lay 192 = .ok (.iload_n 1, 1) := by decide +kernel
theorem dX8_lay_193 : decode cX8_lay 193 = .ok (.aload_n 0, 1) := by decide +kernel
theorem dX8_lay_194 : decode cX8_lay 194 = .ok (.getfield 34, 3) := by decide +kernel
theorem dX8_lay_197 : decode cX8_lay 197 = .ok (.iconst 3, 1) := by decide +kernel
theorem dX8_lay_198 : decode cX8_lay 198 = .ok (.iload_n 1, 1) := by decide +kernel
theorem dX8_lay_199 : decode cX8_lay 199 = .ok (.iadd, 1) := by decide +kernel
theorem dX8_lay_200 : decode cX8_lay 200 = .ok (.iaload, 1) := by decide +kernel
theorem dX8_lay_201 : decode cX8_lay 201 = .ok (.iastore, 1) := by decide +kernel
theorem dX8_lay_202 : decode cX8_lay 202 = .ok (.aload_n 0, 1) := by decide +kernel
theorem dX8_lay_203 : decode cX8_lay 203 = .ok (.getfield 46, 3) := by decide +kernel
theorem dX8_lay_206 : decode cX8_lay 206 = .ok (.iload_n 1, 1) := by decide +kernel
theorem dX8_lay_207 : decode cX8_lay 207 = .ok (.aload_n 0, 1) := by decide +kernel
theorem dX8_lay_208 : decode cX8_lay 208 = .ok (.getfield 46, 3) := by decide +kernel
theorem dX8_lay_211 : decode cX8_lay 211 = .ok (.iconst 3, 1) := by decide +kernel
theorem dX8_lay_212 : decode cX8_lay 212 = .ok (.iload_n 1, 1) := by decide +kernel
theorem dX8_lay_213 : decode cX8_lay 213 = .ok (.iadd, 1) := by decide +kernel
theorem dX8_lay_214 : decode cX8_lay 214 = .ok (.iaload, 1) := by decide +kernel
theorem dX8_lay_215 : decode cX8_lay 215 = .ok (.iastore, 1) := by decide +kernel
theorem dX8_lay_216 : decode cX8_lay 216 = .ok (.aload_n 0, 1) := by decide +kernel
theorem dX8_lay_217 : decode cX8_lay 217 = .ok (.getfield 49, 3) := by decide +kernel
theorem dX8_lay_220 : decode cX8_lay 220 = .ok (.iload_n 1, 1) := by decide +kernel
theorem dX8_lay_221 : decode cX8_lay 221 = .ok (.aload_n 0, 1) := by decide +kernel
theorem dX8_lay_222 : decode cX8_lay 222 = .ok (.getfield 49, 3) := by decide +kernel
theorem dX8_lay_225 : decode cX8_lay 225 = .ok (.iconst 3, 1) := by decide +kernel
theorem dX8_lay_226 : decode cX8_lay 226 = .ok (.iload_n 1, 1) := by decide +kernel
theorem dX8_lay_227 : decode cX8_lay 227 = .ok (.iadd, 1) := by decide +kernel
theorem dX8_lay_228 : decode cX8_lay 228 = .ok (.iaload, 1) := by decide +kernel
theorem dX8_lay_229 : decode cX8_lay 229 = .ok (.iastore, 1) := by decide +kernel
theorem dX8_lay_230 : decode cX8_lay 230 = .ok (.iinc 1 1, 3) := by decide +kernel
theorem dX8_lay_233 : decode cX8_lay 233 = .ok (.goto (-64), 3) := by decide +kernel
theorem dX8_lay_236 : decode cX8_lay 236 = .ok (.iconst 0, 1) := by decide +kernel
theorem dX8_lay_237 : decode cX8_lay 237 = .ok (.istore_n 1, 1) := by decide +kernel
theorem dX8_lay_238 : decode cX8_lay 238 = .ok (.iload_n 1, 1) := by decide +kernel
theorem dX8_lay_239 : decode cX8_lay 239 = .ok (.bipush 6, 2) := by decide +kernel
theorem dX8_lay_241 : decode cX8_lay 241 = .ok (.if_icmp .ge 54, 3) := by decide +kernel
theorem dX8_lay_244 : decode cX8_lay 244 = .ok (.aload_n 0, 1) := by decide +kernel
theorem dX8_lay_245 : decode cX8_lay 245 = .ok (.getfield 55, 3) := by decide +kernel
theorem dX8_lay_248 : decode cX8_lay 248 = .ok (.iload_n 1, 1) := by decide +kernel
theorem dX8_lay_249 : decode cX8_lay 249 = .ok (.aload_n 0, 1) := by decide +kernel
theorem dX8_lay_250 : decode cX8_lay 250 = .ok (.getfield 55, 3) := by decide +kernel
theorem dX8_lay_253 : decode cX8_lay 253 = .ok (.bipush 6, 2) := by decide +kernel
theorem dX8_lay_255 : decode cX8_lay 255 = .ok (.iload_n 1, 1) := by decide +kernel
theorem dX8_lay_256 : decode cX8_lay 256 = .ok (.iadd, 1) := by decide +kernel
theorem dX8_lay_257 : decode cX8_lay 257 = .ok (.iaload, 1) := by decide +kernel
theorem dX8_lay_258 : decode cX8_lay 258 = .ok (.iastore, 1) := by decide +kernel
theorem dX8_lay_259 : decode cX8_lay 259 = .ok (.aload_n 0, 1) := by decide +kernel
theorem dX8_lay_260 : decode cX8_lay 260 = .ok (.getfield 58, 3) := by decide +kernel
theorem dX8_lay_263 : decode cX8_lay 263 = .ok (.iload_n 1, 1) := by decide +kernel
theorem dX8_lay_264 : decode cX8_lay 264 = .ok (.aload_n 0, 1) := by decide +kernel
theorem dX8_lay_265 : decode cX8_lay 265 = .ok (.getfield 58, 3) := by decide +kernel
theorem dX8_lay_268 : decode cX8_lay 268 = .ok (.bipush 6, 2) := by decide +kernel
theorem dX8_lay_270 : decode cX8_lay 270 = .ok (.iload_n 1, 1) := by decide +kernel
theorem dX8_lay_271 : decode cX8_lay 271 = .ok (.iadd, 1) := by decide +kernel
theorem dX8_lay_272 : decode cX8_lay 272 = .ok (.iaload, 1) := by decide +kernel
theorem dX8_lay_273 : decode cX8_lay 273 = .ok (.iastore, 1) := by decide +kernel
theorem dX8_lay_274 : decode cX8_lay 274 = .ok (.aload_n 0, 1) := by decide +kernel
theorem dX8_lay_275 : decode cX8_lay 275 = .ok (.getfield 61, 3) := by decide +kernel
theorem dX8_lay_278 : decode cX8_lay 278 = .ok (.iload_n 1, 1) := by decide +kernel
theorem dX8_lay_279 : decode cX8_lay 279 = .ok (.aload_n 0, 1) := by decide +kernel
theorem dX8_lay_280 : decode cX8_lay 280 = .ok (.getfield 61, 3) := by decide +kernel
theorem dX8_lay_283 : decode cX8_lay 283 = .ok (.bipush 6, 2) := by decide +kernel
theorem dX8_lay_285 : decode cX8_lay 285 = .ok (.iload_n 1, 1) := by decide +kernel
theorem dX8_lay_286 : decode cX8_lay 286 = .ok (.iadd, 1) := by decide +kernel
theorem dX8_lay_287 : decode cX8_lay 287 = .ok (.iaload, 1) := by decide +kernel
theorem dX8_lay_288 : decode cX8_lay 288 = .ok (.iastore, 1) := by decide +kernel
theorem dX8_lay_289 : decode cX8_lay 289 = .ok (.iinc 1 1, 3) := by decide +kernel
theorem dX8_lay_292 : decode cX8_lay 292 = .ok (.goto (-54), 3) := by decide +kernel
theorem dX8_lay_295 : decode cX8_lay 295 = .ok (.aload_n 0, 1) := by decide +kernel
theorem dX8_lay_296 : decode cX8_lay 296 = .ok (.iconst 1, 1) := by decide +kernel
theorem dX8_lay_297 : decode cX8_lay 297 = .ok (.iconst 0, 1) := by decide +kernel
theorem dX8_lay_298 : decode cX8_lay 298 = .ok (.invokevirtual 157, 3) := by decide +kernel
theorem dX8_lay_301 : decode cX8_lay 301 = .ok (.aload_n 0, 1) := by decide +kernel
theorem dX8_lay_302 : decode cX8_lay 302 = .ok (.iconst 0, 1) := by decide +kernel
theorem dX8_lay_303 : decode cX8_lay 303 = .ok (.putfield 161, 3) := by decide +kernel
theorem dX8_lay_306 : decode cX8_lay 306 = .ok (.aload_n 0, 1) := by decide +kernel
theorem dX8_lay_307 : decode cX8_lay 307 = .ok (.iconst 0, 1) := by decide +kernel
theorem dX8_lay_308 : decode cX8_lay 308 = .ok (.putfield 164, 3) := by decide +kernel
theorem dX8_lay_311 : decode cX8_lay 311 = .ok (.aload_n 0, 1) := by decide +kernel
theorem dX8_lay_312 : decode cX8_lay 312 = .ok (.getfield 13, 3) := by decide +kernel
theorem dX8_lay_315 : decode cX8_lay 315 = .ok (.iconst 0, 1) := by decide +kernel
theorem dX8_lay_316 : decode cX8_lay 316 = .ok (.iaload, 1) := by decide +kernel
theorem dX8_lay_317 : decode cX8_lay 317 = .ok (.ireturn, 1) := by decide +kernel
theorem dX8_isGuest_0 : decode cX8_isGuest 0 = .ok (.iload_n 1, 1) := by decide +kernel
theorem dX8_isGuest_1 : decode cX8_isGuest 1 = .ok (.i2l, 1) := by decide +kernel
theorem dX8_isGuest_2 : decode cX8_isGuest 2 = .ok (.lconst 0, 1) := by decide +kernel
theorem dX8_isGuest_3 : decode cX8_isGuest 3 = .ok (.aload_n 0, 1) := by decide +kernel
theorem dX8_isGuest_4 : decode cX8_isGuest 4 = .ok (.getfield 13, 3) := by decide +kernel
theorem dX8_isGuest_7 : decode cX8_isGuest 7 = .ok (.iconst 0, 1) := by decide +kernel
theorem dX8_isGuest_8 : decode cX8_isGuest 8 = .ok (.iaload, 1) := by decide +kernel
theorem dX8_isGuest_9 : decode cX8_isGuest 9 = .ok (.iconst 1, 1) := by decide +kernel
theorem dX8_isGuest_10 : decode cX8_isGuest 10 = .ok (.isub, 1) := by decide +kernel
theorem dX8_isGuest_11 : decode cX8_isGuest 11 = .ok (.i2l, 1) := by decide +kernel
theorem dX8_isGuest_12 : decode cX8_isGuest 12 = .ok (.invokestatic 109, 3) := by decide +kernel
theorem dX8_isGuest_15 : decode cX8_isGuest 15 = .ok (.ireturn, 1) := by decide +kernel
theorem dX8_guest_0 : decode cX8_guest 0 = .ok (.aload_n 0, 1) := by decide +kernel
theorem dX8_guest_1 : decode cX8_guest 1 = .ok (.iload_n 1, 1) := by decide +kernel
theorem dX8_guest_2 : decode cX8_guest 2 = .ok (.invokevirtual 167, 3) := by decide +kernel
theorem dX8_guest_5 : decode cX8_guest 5 = .ok (.ifCond .eq 15, 3) := by decide +kernel
theorem dX8_guest_8 : decode cX8_guest 8 = .ok (.iload_n 2, 1) := by decide +kernel
theorem dX8_guest_9 : decode cX8_guest 9 = .ok (.i2l, 1) := by decide +kernel
theorem dX8_guest_10 : decode cX8_guest 10 = .ok (.lconst 0, 1) := by decide +kernel
theorem dX8_guest_11 : decode cX8_guest 11 = .ok (.ldc2_w 130, 3) := by decide +kernel
theorem dX8_guest_14 : decode cX8_guest 14 = .ok (.invokestatic 109, 3) := by decide +kernel
theorem dX8_guest_17 : decode cX8_guest 17 = .ok (.ifCond .ne 5, 3) := by decide +kernel
theorem dX8_guest_20 : decode cX8_guest 20 = .ok (.iconst (-1), 1) := by decide +kernel
theorem dX8_guest_21 : decode cX8_guest 21 = .ok (.ireturn, 1) := by decide +kernel
theorem dX8_guest_22 : decode cX8_guest 22 = .ok (.iload_n 2, 1) := by decide +kernel
theorem dX8_guest_23 : decode cX8_guest 23 = .ok (.ifCond .ne 12, 3) := by decide +kernel
theorem dX8_guest_26 : decode cX8_guest 26 = .ok (.aload_n 0, 1) := by decide +kernel
theorem dX8_guest_27 : decode cX8_guest 27 = .ok (.getfield 16, 3) := by decide +kernel
theorem dX8_guest_30 : decode cX8_guest 30 = .ok (.iload_n 1, 1) := by decide +kernel
theorem dX8_guest_31 : decode cX8_guest 31 = .ok (.iaload, 1) := by decide +kernel
theorem dX8_guest_32 : decode cX8_guest 32 = .ok (.goto 37, 3) := by decide +kernel
theorem dX8_guest_35 : decode cX8_guest 35 = .ok (.iload_n 2, 1) := by decide +kernel
theorem dX8_guest_36 : decode cX8_guest 36 = .ok (.iconst 1, 1) := by decide +kernel
theorem dX8_guest_37 : decode cX8_guest 37 = .ok (.if_icmp .ne 12, 3) := by decide +kernel
theorem dX8_guest_40 : decode cX8_guest 40 = .ok (.aload_n 0, 1) := by decide +kernel
theorem dX8_guest_41 : decode cX8_guest 41 = .ok (.getfield 19, 3) := by decide +kernel
theorem dX8_guest_44 : decode cX8_guest 44 = .ok (.iload_n 1, 1) := by decide +kernel
theorem dX8_guest_45 : decode cX8_guest 45 = .ok (.iaload, 1) := by decide +kernel
theorem dX8_guest_46 : decode cX8_guest 46 = .ok (.goto 23, 3) := by decide +kernel
theorem dX8_guest_49 : decode cX8_guest 49 = .ok (.iload_n 2, 1) := by decide +kernel
theorem dX8_guest_50 : decode cX8_guest 50 = .ok (.iconst 2, 1) := by decide +kernel
theorem dX8_guest_51 : decode cX8_guest 51 = .ok (.if_icmp .ne 12, 3) := by decide +kernel
theorem dX8_guest_54 : decode cX8_guest 54 = .ok (.aload_n 0, 1) := by decide +kernel
theorem dX8_guest_55 : decode cX8_guest 55 = .ok (.getfield 22, 3) := by decide +kernel
theorem dX8_guest_58 : decode cX8_guest 58 = .ok (.iload_n 1, 1) := by decide +kernel
theorem dX8_guest_59 : decode cX8_guest 59 = .ok (.iaload, 1) := by decide +kernel
theorem dX8_guest_60 : decode cX8_guest 60 = .ok (.goto 9, 3) := by decide +kernel
theorem dX8_guest_63 : decode cX8_guest 63 = .ok (.aload_n 0, 1) := by decide +kernel
theorem dX8_guest_64 : decode cX8_guest 64 = .ok (.getfield 25, 3) := by decide +kernel
theorem dX8_guest_67 : decode cX8_guest 67 = .ok (.iload_n 1, 1) := by decide +kernel
theorem dX8_guest_68 : decode cX8_guest 68 = .ok (.iaload, 1) := by decide +kernel
theorem dX8_guest_69 : decode cX8_guest 69 = .ok (.ireturn, 1) := by decide +kernel
theorem dX8_asItIs_0 : decode cX8_asItIs 0 = .ok (.aload_n 0, 1) := by decide +kernel
theorem dX8_asItIs_1 : decode cX8_asItIs 1 = .ok (.bipush (-4), 2) := by decide +kernel
theorem dX8_asItIs_3 : decode cX8_asItIs 3 = .ok (.putfield 170, 3) := by decide +kernel
theorem dX8_asItIs_6 : decode cX8_asItIs 6 = .ok (.aload_n 0, 1) := by decide +kernel
theorem dX8_asItIs_7 : decode cX8_asItIs 7 = .ok (.iconst 0, 1) := by decide +kernel
theorem dX8_asItIs_8 : decode cX8_asItIs 8 = .ok (.putfield 173, 3) := by decide +kernel
theorem dX8_asItIs_11 : decode cX8_asItIs 11 = .ok (.aload_n 0, 1) := by decide +kernel
theorem dX8_asItIs_12 : decode cX8_asItIs 12 = .ok (.bipush (-4), 2) := by decide +kernel
theorem dX8_asItIs_14 : decode cX8_asItIs 14 = .ok (.putfield 176, 3) := by decide +kernel
theorem dX8_asItIs_17 : decode cX8_asItIs 17 = .ok (.aload_n 0, 1) := by decide +kernel
theorem dX8_asItIs_18 : decode cX8_asItIs 18 = .ok (.bipush (-4), 2) := by decide +kernel
theorem dX8_asItIs_20 : decode cX8_asItIs 20 = .ok (.putfield 179, 3) := by decide +kernel
theorem dX8_asItIs_23 : decode cX8_asItIs 23 = .ok (.iconst 0, 1) := by decide +kernel
theorem dX8_asItIs_24 : decode cX8_asItIs 24 = .ok (.istore_n 1, 1) := by decide +kernel
theorem dX8_asItIs_25 : decode cX8_asItIs 25 = .ok (.iload_n 1, 1) := by decide +kernel
theorem dX8_asItIs_26 : decode cX8_asItIs 26 = .ok (.iconst 3, 1) := by decide +kernel
theorem dX8_asItIs_27 : decode cX8_asItIs 27 = .ok (.if_icmp .ge 17, 3) := by decide +kernel
theorem dX8_asItIs_30 : decode cX8_asItIs 30 = .ok (.aload_n 0, 1) := by decide +kernel
theorem dX8_asItIs_31 : decode cX8_asItIs 31 = .ok (.getfield 85, 3) := by decide +kernel
theorem dX8_asItIs_34 : decode cX8_asItIs 34 = .ok (.iload_n 1, 1) := by decide +kernel
theorem dX8_asItIs_35 : decode cX8_asItIs 35 = .ok (.bipush (-4), 2) := by decide +kernel
theorem dX8_asItIs_37 : decode cX8_asItIs 37 = .ok (.iastore, 1) := by decide +kernel
theorem dX8_asItIs_38 : decode cX8_asItIs 38 = .ok (.iinc 1 1, 3) := by decide +kernel
theorem dX8_asItIs_41 : decode cX8_asItIs 41 = .ok (.goto (-16), 3) := by decide +kernel
theorem dX8_asItIs_44 : decode cX8_asItIs 44 = .ok (.return_, 1) := by decide +kernel
theorem dX8_counts_0 : decode cX8_counts 0 = .ok (.aload_n 0, 1) := by decide +kernel
theorem dX8_counts_1 : decode cX8_counts 1 = .ok (.getfield 179, 3) := by decide +kernel
theorem dX8_counts_4 : decode cX8_counts 4 = .ok (.ifCond .ge 5, 3) := by decide +kernel
theorem dX8_counts_7 : decode cX8_counts 7 = .ok (.iconst 1, 1) := by decide +kernel
theorem dX8_counts_8 : decode cX8_counts 8 = .ok (.ireturn, 1) := by decide +kernel
theorem dX8_counts_9 : decode cX8_counts 9 = .ok (.ldc2_w 182, 3) := by decide +kernel
theorem dX8_counts_12 : decode cX8_counts 12 = .ok (.aload_n 0, 1) := by decide +kernel
theorem dX8_counts_13 : decode cX8_counts 13 = .ok (.getfield 179, 3) := by decide +kernel
theorem dX8_counts_16 : decode cX8_counts 16 = .ok (.i2l, 1) := by decide +kernel
theorem dX8_counts_17 : decode cX8_counts 17 = .ok (.lmul, 1) := by decide +kernel
theorem dX8_counts_18 : decode cX8_counts 18 = .ok (.ldc2_w 184, 3) := by decide +kernel
theorem dX8_counts_21 : decode cX8_counts 21 = .ok (.iload_n 1, 1) := by decide +kernel
theorem dX8_counts_22 : decode cX8_counts 22 = .ok (.i2l, 1) := by decide +kernel
theorem dX8_counts_23 : decode cX8_counts 23 = .ok (.lmul, 1) := by decide +kernel
theorem dX8_counts_24 : decode cX8_counts 24 = .ok (.ladd, 1) := by decide +kernel
theorem dX8_counts_25 : decode cX8_counts 25 = .ok (.ldc2_w 186, 3) := by decide +kernel
theorem dX8_counts_28 : decode cX8_counts 28 = .ok (.iload_n 2, 1) := by decide +kernel
theorem dX8_counts_29 : decode cX8_counts 29 = .ok (.i2l, 1) := by decide +kernel
theorem dX8_counts_30 : decode cX8_counts 30 = .ok (.lmul, 1) := by decide +kernel
theorem dX8_counts_31 : decode cX8_counts 31 = .ok (.ladd, 1) := by decide +kernel
theorem dX8_counts_32 : decode cX8_counts 32 = .ok (.lconst 1, 1) := by decide +kernel
theorem dX8_counts_33 : decode cX8_counts 33 = .ok (.ladd, 1) := by decide +kernel
theorem dX8_counts_34 : decode cX8_counts 34 = .ok (.lstore_n 3, 1) := by decide +kernel
theorem dX8_counts_35 : decode cX8_counts 35 = .ok (.lload_n 3, 1) := by decide +kernel
theorem dX8_counts_36 : decode cX8_counts 36 = .ok (.lload_n 3, 1) := by decide +kernel
theorem dX8_counts_37 : decode cX8_counts 37 = .ok (.lmul, 1) := by decide +kernel
theorem dX8_counts_38 : decode cX8_counts 38 = .ok (.ldc2_w 188, 3) := by decide +kernel
theorem dX8_counts_41 : decode cX8_counts 41 = .ok (.lrem, 1) := by decide +kernel
theorem dX8_counts_42 : decode cX8_counts 42 = .ok (.ldc2_w 190, 3) := by decide +kernel
theorem dX8_counts_45 : decode cX8_counts 45 = .ok (.lrem, 1) := by decide +kernel
theorem dX8_counts_46 : decode cX8_counts 46 = .ok (.ldc2_w 192, 3) := by decide +kernel
theorem dX8_counts_49 : decode cX8_counts 49 = .ok (.lcmp, 1) := by decide +kernel
theorem dX8_counts_50 : decode cX8_counts 50 = .ok (.ifCond .ge 7, 3) := by decide +kernel
theorem dX8_counts_53 : decode cX8_counts 53 = .ok (.iconst 1, 1) := by decide +kernel
theorem dX8_counts_54 : decode cX8_counts 54 = .ok (.goto 4, 3) := by decide +kernel
theorem dX8_counts_57 : decode cX8_counts 57 = .ok (.iconst 0, 1) := by decide +kernel
theorem dX8_counts_58 : decode cX8_counts 58 = .ok (.ireturn, 1) := by decide +kernel
theorem dX8_stoodAhead_0 : decode cX8_stoodAhead 0 = .ok (.iconst 0, 1) := by decide +kernel
theorem dX8_stoodAhead_1 : decode cX8_stoodAhead 1 = .ok (.istore_n 2, 1) := by decide +kernel
theorem dX8_stoodAhead_2 : decode cX8_stoodAhead 2 = .ok (.iconst 0, 1) := by decide +kernel
theorem dX8_stoodAhead_3 : decode cX8_stoodAhead 3 = .ok (.istore_n 3, 1) := by decide +kernel
theorem dX8_stoodAhead_4 : decode cX8_stoodAhead 4 = .ok (.iload_n 3, 1) := by decide +kernel
theorem dX8_stoodAhead_5 : decode cX8_stoodAhead 5 = .ok (.aload_n 0, 1) := by decide +kernel
theorem dX8_stoodAhead_6 : decode cX8_stoodAhead 6 = .ok (.getfield 13, 3) := by decide +kernel
theorem dX8_stoodAhead_9 : decode cX8_stoodAhead 9 = .ok (.iconst 0, 1) := by decide +kernel
theorem dX8_stoodAhead_10 : decode cX8_stoodAhead 10 = .ok (.iaload, 1) := by decide +kernel
theorem dX8_stoodAhead_11 : decode cX8_stoodAhead 11 = .ok (.if_icmp .ge 32, 3) := by decide +kernel
theorem dX8_stoodAhead_14 : decode cX8_stoodAhead 14 = .ok (.iload_n 2, 1) := by decide +kernel
theorem dX8_stoodAhead_15 : decode cX8_stoodAhead 15 = .ok (.aload_n 0, 1) := by decide +kernel
theorem dX8_stoodAhead_16 : decode cX8_stoodAhead 16 = .ok (.getfield 88, 3) := by decide +kernel
theorem dX8_stoodAhead_19 : decode cX8_stoodAhead 19 = .ok (.aload_n 0, 1) := by decide +kernel
theorem dX8_stoodAhead_20 : decode cX8_stoodAhead 20 = .ok (.getfield 16, 3) := by decide +kernel
theorem dX8_stoodAhead_23 : decode cX8_stoodAhead 23 = .ok (.iload_n 3, 1) := by decide +kernel
theorem dX8_stoodAhead_24 : decode cX8_stoodAhead 24 = .ok (.iaload, 1) := by decide +kernel
theorem dX8_stoodAhead_25 : decode cX8_stoodAhead 25 = .ok (.iaload, 1) := by decide +kernel
theorem dX8_stoodAhead_26 : decode cX8_stoodAhead 26 = .ok (.iload_n 1, 1) := by decide +kernel
theorem dX8_stoodAhead_27 : decode cX8_stoodAhead 27 = .ok (.if_icmp .ge 7, 3) := by decide +kernel
theorem dX8_stoodAhead_30 : decode cX8_stoodAhead 30 = .ok (.iconst 1, 1) := by decide +kernel
theorem dX8_stoodAhead_31 : decode cX8_stoodAhead 31 = .ok (.goto 4, 3) := by decide +kernel
theorem dX8_stoodAhead_34 : decode cX8_stoodAhead 34 = .ok (.iconst 0, 1) := by decide +kernel
theorem dX8_stoodAhead_35 : decode cX8_stoodAhead 35 = .ok (.iadd, 1) := by decide +kernel
theorem dX8_stoodAhead_36 : decode cX8_stoodAhead 36 = .ok (.istore_n 2, 1) := by decide +kernel
theorem dX8_stoodAhead_37 : decode cX8_stoodAhead 37 = .ok (.iinc 3 1, 3) := by decide +kernel
theorem dX8_stoodAhead_40 : decode cX8_stoodAhead 40 = .ok (.goto (-36), 3) := by decide +kernel
theorem dX8_stoodAhead_43 : decode cX8_stoodAhead 43 = .ok (.iload_n 2, 1) := by decide +kernel
theorem dX8_stoodAhead_44 : decode cX8_stoodAhead 44 = .ok (.ireturn, 1) := by decide +kernel
theorem dX8_shameOf_0 : decode cX8_shameOf 0 = .ok (.aload_n 0, 1) := by decide +kernel
theorem dX8_shameOf_1 : decode cX8_shameOf 1 = .ok (.getfield 22, 3) := by decide +kernel
theorem dX8_shameOf_4 : decode cX8_shameOf 4 = .ok (.iload_n 1, 1) := by decide +kernel
theorem dX8_shameOf_5 : decode cX8_shameOf 5 = .ok (.iaload, 1) := by decide +kernel
theorem dX8_shameOf_6 : decode cX8_shameOf 6 = .ok (.istore_n 3, 1) := by decide +kernel
theorem dX8_shameOf_7 : decode cX8_shameOf 7 = .ok (.iconst 0, 1) := by decide +kernel
theorem dX8_shameOf_8 : decode cX8_shameOf 8 = .ok (.istore 4, 2) := by decide +kernel
theorem dX8_shameOf_10 : decode cX8_shameOf 10 = .ok (.iload 4, 2) := by decide +kernel
theorem dX8_shameOf_12 : decode cX8_shameOf 12 = .ok (.aload_n 0, 1) := by decide +kernel
theorem dX8_shameOf_13 : decode cX8_shameOf 13 = .ok (.getfield 64, 3) := by decide +kernel
theorem dX8_shameOf_16 : decode cX8_shameOf 16 = .ok (.iconst 0, 1) := by decide +kernel
theorem dX8_shameOf_17 : decode cX8_shameOf 17 = .ok (.iaload, 1) := by decide +kernel
theorem dX8_shameOf_18 : decode cX8_shameOf 18 = .ok (.if_icmp .ge 54, 3) := by decide +kernel
theorem dX8_shameOf_21 : decode cX8_shameOf 21 = .ok (.iload_n 3, 1) := by decide +kernel
theorem dX8_shameOf_22 : decode cX8_shameOf 22 = .ok (.aload_n 0, 1) := by decide +kernel
theorem dX8_shameOf_23 : decode cX8_shameOf 23 = .ok (.getfield 25, 3) := by decide +kernel
theorem dX8_shameOf_26 : decode cX8_shameOf 26 = .ok (.iload_n 1, 1) := by decide +kernel
theorem dX8_shameOf_27 : decode cX8_shameOf 27 = .ok (.iaload, 1) := by decide +kernel
theorem dX8_shameOf_28 : decode cX8_shameOf 28 = .ok (.iconst 2, 1) := by decide +kernel
theorem dX8_shameOf_29 : decode cX8_shameOf 29 = .ok (.if_icmp .eq 34, 3) := by decide +kernel
theorem dX8_shameOf_32 : decode cX8_shameOf 32 = .ok (.aload_n 0, 1) := by decide +kernel
theorem dX8_shameOf_33 : decode cX8_shameOf 33 = .ok (.getfield 67, 3) := by decide +kernel
theorem dX8_shameOf_36 : decode cX8_shameOf 36 = .ok (.iload 4, 2) := by decide +kernel
theorem dX8_shameOf_38 : decode cX8_shameOf 38 = .ok (.iaload, 1) := by decide +kernel
theorem dX8_shameOf_39 : decode cX8_shameOf 39 = .ok (.iload_n 2, 1) := by decide +kernel
theorem dX8_shameOf_40 : decode cX8_shameOf 40 = .ok (.if_icmp .gt 23, 3) := by decide +kernel
theorem dX8_shameOf_43 : decode cX8_shameOf 43 = .ok (.aload_n 0, 1) := by decide +kernel
theorem dX8_shameOf_44 : decode cX8_shameOf 44 = .ok (.iload_n 1, 1) := by decide +kernel
theorem dX8_shameOf_45 : decode cX8_shameOf 45 = .ok (.iload 4, 2) := by decide +kernel
theorem dX8_shameOf_47 : decode cX8_shameOf 47 = .ok (.invokevirtual 194, 3) := by decide +kernel
theorem dX8_shameOf_50 : decode cX8_shameOf 50 = .ok (.ifCond .eq 13, 3) := by decide +kernel
theorem dX8_shameOf_53 : decode cX8_shameOf 53 = .ok (.aload_n 0, 1) := by decide +kernel
theorem dX8_shameOf_54 : decode cX8_shameOf 54 = .ok (.getfield 70, 3) := by decide +kernel
theorem dX8_shameOf_57 : decode cX8_shameOf 57 = .ok (.iload 4, 2) := by decide +kernel
theorem dX8_shameOf_59 : decode cX8_shameOf 59 = .ok (.iaload, 1) := by decide +kernel
theorem dX8_shameOf_60 : decode cX8_shameOf 60 = .ok (.goto 4, 3) := by decide +kernel
theorem dX8_shameOf_63 : decode cX8_shameOf 63 = .ok (.iconst 0, 1) := by decide +kernel
theorem dX8_shameOf_64 : decode cX8_shameOf 64 = .ok (.isub, 1) := by decide +kernel
theorem dX8_shameOf_65 : decode cX8_shameOf 65 = .ok (.istore_n 3, 1) := by decide +kernel
theorem dX8_shameOf_66 : decode cX8_shameOf 66 = .ok (.iinc 4 1, 3) := by decide +kernel
theorem dX8_shameOf_69 : decode cX8_shameOf 69 = .ok (.goto (-59), 3) := by decide +kernel
theorem dX8_shameOf_72 : decode cX8_shameOf 72 = .ok (.iconst 0, 1) := by decide +kernel
theorem dX8_shameOf_73 : decode cX8_shameOf 73 = .ok (.istore 4, 2) := by decide +kernel
theorem dX8_shameOf_75 : decode cX8_shameOf 75 = .ok (.iload 4, 2) := by decide +kernel
theorem dX8_shameOf_77 : decode cX8_shameOf 77 = .ok (.aload_n 0, 1) := by decide +kernel
theorem dX8_shameOf_78 : decode cX8_shameOf 78 = .ok (.getfield 28, 3) := by decide +kernel
theorem dX8_shameOf_81 : decode cX8_shameOf 81 = .ok (.iconst 0, 1) := by decide +kernel
theorem dX8_shameOf_82 : decode cX8_shameOf 82 = .ok (.iaload, 1) := by decide +kernel
theorem dX8_shameOf_83 : decode cX8_shameOf 83 = .ok (.if_icmp .ge 54, 3) := by decide +kernel
theorem dX8_shameOf_86 : decode cX8_shameOf 86 = .ok (.iload_n 3, 1) := by decide +kernel
theorem dX8_shameOf_87 : decode cX8_shameOf 87 = .ok (.aload_n 0, 1) := by decide +kernel
theorem dX8_shameOf_88 : decode cX8_shameOf 88 = .ok (.getfield 25, 3) := by decide +kernel
theorem dX8_shameOf_91 : decode cX8_shameOf 91 = .ok (.iload_n 1, 1) := by decide +kernel
theorem dX8_shameOf_92 : decode cX8_shameOf 92 = .ok (.iaload, 1) := by decide +kernel
theorem dX8_shameOf_93 : decode cX8_shameOf 93 = .ok (.iconst 2, 1) := by decide +kernel
theorem dX8_shameOf_94 : decode cX8_shameOf 94 = .ok (.if_icmp .eq 34, 3) := by decide +kernel
theorem dX8_shameOf_97 : decode cX8_shameOf 97 = .ok (.aload_n 0, 1) := by decide +kernel
theorem dX8_shameOf_98 : decode cX8_shameOf 98 = .ok (.getfield 85, 3) := by decide +kernel
theorem dX8_shameOf_101 : decode cX8_shameOf 101 = .ok (.iload 4, 2) := by decide +kernel
theorem dX8_shameOf_103 : decode cX8_shameOf 103 = .ok (.iaload, 1) := by decide +kernel
theorem dX8_shameOf_104 : decode cX8_shameOf 104 = .ok (.ifCond .lt 24, 3) := by decide +kernel
theorem dX8_shameOf_107 : decode cX8_shameOf 107 = .ok (.aload_n 0, 1) := by decide +kernel
theorem dX8_shameOf_108 : decode cX8_shameOf 108 = .ok (.getfield 85, 3) := by decide +kernel
theorem dX8_shameOf_111 : decode cX8_shameOf 111 = .ok (.iload 4, 2) := by decide +kernel
theorem dX8_shameOf_113 : decode cX8_shameOf 113 = .ok (.iaload, 1) := by decide +kernel
theorem dX8_shameOf_114 : decode cX8_shameOf 114 = .ok (.iload_n 2, 1) := by decide +kernel
theorem dX8_shameOf_115 : decode cX8_shameOf 115 = .ok (.if_icmp .gt 13, 3) := by decide +kernel
theorem dX8_shameOf_118 : decode cX8_shameOf 118 = .ok (.aload_n 0, 1) := by decide +kernel
theorem dX8_shameOf_119 : decode cX8_shameOf 119 = .ok (.getfield 31, 3) := by decide +kernel
theorem dX8_shameOf_122 : decode cX8_shameOf 122 = .ok (.iload 4, 2) := by decide +kernel
theorem dX8_shameOf_124 : decode cX8_shameOf 124 = .ok (.iaload, 1) := by decide +kernel
theorem dX8_shameOf_125 : decode cX8_shameOf 125 = .ok (.goto 4, 3) := by decide +kernel
theorem dX8_shameOf_128 : decode cX8_shameOf 128 = .ok (.iconst 0, 1) := by decide +kernel
theorem dX8_shameOf_129 : decode cX8_shameOf 129 = .ok (.isub, 1) := by decide +kernel
theorem dX8_shameOf_130 : decode cX8_shameOf 130 = .ok (.istore_n 3, 1) := by decide +kernel
theorem dX8_shameOf_131 : decode cX8_shameOf 131 = .ok (.iinc 4 1, 3) := by decide +kernel
theorem dX8_shameOf_134 : decode cX8_shameOf 134 = .ok (.goto (-59), 3) := by decide +kernel
theorem dX8_shameOf_137 : decode cX8_shameOf 137 = .ok (.iload_n 3, 1) := by decide +kernel
theorem dX8_shameOf_138 : decode cX8_shameOf 138 = .ok (.aload_n 0, 1) := by decide +kernel
theorem dX8_shameOf_139 : decode cX8_shameOf 139 = .ok (.getfield 37, 3) := by decide +kernel
theorem dX8_shameOf_142 : decode cX8_shameOf 142 = .ok (.iconst 0, 1) := by decide +kernel
theorem dX8_shameOf_143 : decode cX8_shameOf 143 = .ok (.iaload, 1) := by decide +kernel
theorem dX8_shameOf_144 : decode cX8_shameOf 144 = .ok (.aload_n 0, 1) := by decide +kernel
theorem dX8_shameOf_145 : decode cX8_shameOf 145 = .ok (.iload_n 2, 1) := by decide +kernel
theorem dX8_shameOf_146 : decode cX8_shameOf 146 = .ok (.invokevirtual 198, 3) := by decide +kernel
theorem dX8_shameOf_149 : decode cX8_shameOf 149 = .ok (.imul, 1) := by decide +kernel
theorem dX8_shameOf_150 : decode cX8_shameOf 150 = .ok (.isub, 1) := by decide +kernel
theorem dX8_shameOf_151 : decode cX8_shameOf 151 = .ok (.istore_n 3, 1) := by decide +kernel
theorem dX8_shameOf_152 : decode cX8_shameOf 152 = .ok (.iload_n 3, 1) := by decide +kernel
theorem dX8_shameOf_153 : decode cX8_shameOf 153 = .ok (.ifCond .ge 7, 3) := by decide +kernel
theorem dX8_shameOf_156 : decode cX8_shameOf 156 = .ok (.iconst 0, 1) := by decide +kernel
theorem dX8_shameOf_157 : decode cX8_shameOf 157 = .ok (.goto 4, 3) := by decide +kernel
theorem dX8_shameOf_160 : decode cX8_shameOf 160 = .ok (.iload_n 3, 1) := by decide +kernel
theorem dX8_shameOf_161 : decode cX8_shameOf 161 = .ok (.istore_n 3, 1) := by decide +kernel
theorem dX8_shameOf_162 : decode cX8_shameOf 162 = .ok (.iconst 0, 1) := by decide +kernel
theorem dX8_shameOf_163 : decode cX8_shameOf 163 = .ok (.istore 4, 2) := by decide +kernel
theorem dX8_shameOf_165 : decode cX8_shameOf 165 = .ok (.iload 4, 2) := by decide +kernel
theorem dX8_shameOf_167 : decode cX8_shameOf 167 = .ok (.aload_n 0, 1) := by decide +kernel
theorem dX8_shameOf_168 : decode cX8_shameOf 168 = .ok (.getfield 73, 3) := by decide +kernel
theorem dX8_shameOf_171 : decode cX8_shameOf 171 = .ok (.iconst 0, 1) := by decide +kernel
theorem dX8_shameOf_172 : decode cX8_shameOf 172 = .ok (.iaload, 1) := by decide +kernel
theorem dX8_shameOf_173 : decode cX8_shameOf 173 = .ok (.if_icmp .ge 39, 3) := by decide +kernel
theorem dX8_shameOf_176 : decode cX8_shameOf 176 = .ok (.iload_n 3, 1) := by decide +kernel
theorem dX8_shameOf_177 : decode cX8_shameOf 177 = .ok (.aload_n 0, 1) := by decide +kernel
theorem dX8_shameOf_178 : decode cX8_shameOf 178 = .ok (.getfield 25, 3) := by decide +kernel
theorem dX8_shameOf_181 : decode cX8_shameOf 181 = .ok (.iload_n 1, 1) := by decide +kernel
theorem dX8_shameOf_182 : decode cX8_shameOf 182 = .ok (.iaload, 1) := by decide +kernel
theorem dX8_shameOf_183 : decode cX8_shameOf 183 = .ok (.iconst 1, 1) := by decide +kernel
theorem dX8_shameOf_184 : decode cX8_shameOf 184 = .ok (.if_icmp .ne 19, 3) := by decide +kernel
theorem dX8_shameOf_187 : decode cX8_shameOf 187 = .ok (.aload_n 0, 1) := by decide +kernel
theorem dX8_shameOf_188 : decode cX8_shameOf 188 = .ok (.getfield 76, 3) := by decide +kernel
theorem dX8_shameOf_191 : decode cX8_shameOf 191 = .ok (.iload 4, 2) := by decide +kernel
theorem dX8_shameOf_193 : decode cX8_shameOf 193 = .ok (.iaload, 1) := by decide +kernel
theorem dX8_shameOf_194 : decode cX8_shameOf 194 = .ok (.iload_n 2, 1) := by decide +kernel
theorem dX8_shameOf_195 : decode cX8_shameOf 195 = .ok (.if_icmp .gt 8, 3) := by decide +kernel
theorem dX8_shameOf_198 : decode cX8_shameOf 198 = .ok (.bipush 10, 2) := by decide +kernel
theorem dX8_shameOf_200 : decode cX8_shameOf 200 = .ok (.goto 4, 3) := by decide +kernel
theorem dX8_shameOf_203 : decode cX8_shameOf 203 = .ok (.iconst 0, 1) := by decide +kernel
theorem dX8_shameOf_204 : decode cX8_shameOf 204 = .ok (.iadd, 1) := by decide +kernel
theorem dX8_shameOf_205 : decode cX8_shameOf 205 = .ok (.istore_n 3, 1) := by decide +kernel
theorem dX8_shameOf_206 : decode cX8_shameOf 206 = .ok (.iinc 4 1, 3) := by decide +kernel
theorem dX8_shameOf_209 : decode cX8_shameOf 209 = .ok (.goto (-44), 3) := by decide +kernel
theorem dX8_shameOf_212 : decode cX8_shameOf 212 = .ok (.iload_n 3, 1) := by decide +kernel
theorem dX8_shameOf_213 : decode cX8_shameOf 213 = .ok (.ireturn, 1) := by decide +kernel
theorem dX8_isBus_0 : decode cX8_isBus 0 = .ok (.iload_n 1, 1) := by decide +kernel
theorem dX8_isBus_1 : decode cX8_isBus 1 = .ok (.aload_n 0, 1) := by decide +kernel
theorem dX8_isBus_2 : decode cX8_isBus 2 = .ok (.getfield 170, 3) := by decide +kernel
theorem dX8_isBus_5 : decode cX8_isBus 5 = .ok (.if_icmp .eq 13, 3) := by decide +kernel
theorem dX8_isBus_8 : decode cX8_isBus 8 = .ok (.aload_n 0, 1) := by decide +kernel
theorem dX8_isBus_9 : decode cX8_isBus 9 = .ok (.getfield 25, 3) := by decide +kernel
theorem dX8_isBus_12 : decode cX8_isBus 12 = .ok (.iload_n 1, 1) := by decide +kernel
theorem dX8_isBus_13 : decode cX8_isBus 13 = .ok (.iaload, 1) := by decide +kernel
theorem dX8_isBus_14 : decode cX8_isBus 14 = .ok (.iconst 3, 1) := by decide +kernel
theorem dX8_isBus_15 : decode cX8_isBus 15 = .ok (.if_icmp .ne 7, 3) := by decide +kernel
theorem dX8_isBus_18 : decode cX8_isBus 18 = .ok (.iconst 1, 1) := by decide +kernel
theorem dX8_isBus_19 : decode cX8_isBus 19 = .ok (.goto 4, 3) := by decide +kernel
theorem dX8_isBus_22 : decode cX8_isBus 22 = .ok (.iconst 0, 1) := by decide +kernel
theorem dX8_isBus_23 : decode cX8_isBus 23 = .ok (.ireturn, 1) := by decide +kernel
theorem dX8_doesPress_0 : decode cX8_doesPress 0 = .ok (.aload_n 0, 1) := by decide +kernel
theorem dX8_doesPress_1 : decode cX8_doesPress 1 = .ok (.iload_n 1, 1) := by decide +kernel
theorem dX8_doesPress_2 : decode cX8_doesPress 2 = .ok (.invokevirtual 201, 3) := by decide +kernel
theorem dX8_doesPress_5 : decode cX8_doesPress 5 = .ok (.ifCond .eq 34, 3) := by decide +kernel
theorem dX8_doesPress_8 : decode cX8_doesPress 8 = .ok (.iload_n 2, 1) := by decide +kernel
theorem dX8_doesPress_9 : decode cX8_doesPress 9 = .ok (.iload_n 1, 1) := by decide +kernel
theorem dX8_doesPress_10 : decode cX8_doesPress 10 = .ok (.aload_n 0, 1) := by decide +kernel
theorem dX8_doesPress_11 : decode cX8_doesPress 11 = .ok (.getfield 170, 3) := by decide +kernel
theorem dX8_doesPress_14 : decode cX8_doesPress 14 = .ok (.if_icmp .ne 10, 3) := by decide +kernel
theorem dX8_doesPress_17 : decode cX8_doesPress 17 = .ok (.aload_n 0, 1) := by decide +kernel
theorem dX8_doesPress_18 : decode cX8_doesPress 18 = .ok (.getfield 173, 3) := by decide +kernel
theorem dX8_doesPress_21 : decode cX8_doesPress 21 = .ok (.goto 9, 3) := by decide +kernel
theorem dX8_doesPress_24 : decode cX8_doesPress 24 = .ok (.aload_n 0, 1) := by decide +kernel
theorem dX8_doesPress_25 : decode cX8_doesPress 25 = .ok (.getfield 19, 3) := by decide +kernel
theorem dX8_doesPress_28 : decode cX8_doesPress 28 = .ok (.iload_n 1, 1) := by decide +kernel
theorem dX8_doesPress_29 : decode cX8_doesPress 29 = .ok (.iaload, 1) := by decide +kernel
theorem dX8_doesPress_30 : decode cX8_doesPress 30 = .ok (.if_icmp .lt 7, 3) := by decide +kernel
theorem dX8_doesPress_33 : decode cX8_doesPress 33 = .ok (.iconst 1, 1) := by decide +kernel
theorem dX8_doesPress_34 : decode cX8_doesPress 34 = .ok (.goto 4, 3) := by decide +kernel
theorem dX8_doesPress_37 : decode cX8_doesPress 37 = .ok (.iconst 0, 1) := by decide +kernel
theorem dX8_doesPress_38 : decode cX8_doesPress 38 = .ok (.ireturn, 1) := by decide +kernel
theorem dX8_doesPress_39 : decode cX8_doesPress 39 = .ok (.iload_n 2, 1) := by decide +kernel
theorem dX8_doesPress_40 : decode cX8_doesPress 40 = .ok (.aload_n 0, 1) := by decide +kernel
theorem dX8_doesPress_41 : decode cX8_doesPress 41 = .ok (.getfield 19, 3) := by decide +kernel
theorem dX8_doesPress_44 : decode cX8_doesPress 44 = .ok (.iload_n 1, 1) := by decide +kernel
theorem dX8_doesPress_45 : decode cX8_doesPress 45 = .ok (.iaload, 1) := by decide +kernel
theorem dX8_doesPress_46 : decode cX8_doesPress 46 = .ok (.aload_n 0, 1) := by decide +kernel
theorem dX8_doesPress_47 : decode cX8_doesPress 47 = .ok (.iload_n 1, 1) := by decide +kernel
theorem dX8_doesPress_48 : decode cX8_doesPress 48 = .ok (.iload_n 2, 1) := by decide +kernel
theorem dX8_doesPress_49 : decode cX8_doesPress 49 = .ok (.invokevirtual 204, 3) := by decide +kernel
theorem dX8_doesPress_52 : decode cX8_doesPress 52 = .ok (.iadd, 1) := by decide +kernel
theorem dX8_doesPress_53 : decode cX8_doesPress 53 = .ok (.if_icmp .lt 7, 3) := by decide +kernel
theorem dX8_doesPress_56 : decode cX8_doesPress 56 = .ok (.iconst 1, 1) := by decide +kernel
theorem dX8_doesPress_57 : decode cX8_doesPress 57 = .ok (.goto 4, 3) := by decide +kernel
theorem dX8_doesPress_60 : decode cX8_doesPress 60 = .ok (.iconst 0, 1) := by decide +kernel
theorem dX8_doesPress_61 : decode cX8_doesPress 61 = .ok (.istore_n 3, 1) := by decide +kernel
theorem dX8_doesPress_62 : decode cX8_doesPress 62 = .ok (.aload_n 0, 1) := by decide +kernel
theorem dX8_doesPress_63 : decode cX8_doesPress 63 = .ok (.getfield 25, 3) := by decide +kernel
theorem dX8_doesPress_66 : decode cX8_doesPress 66 = .ok (.iload_n 1, 1) := by decide +kernel
theorem dX8_doesPress_67 : decode cX8_doesPress 67 = .ok (.iaload, 1) := by decide +kernel
theorem dX8_doesPress_68 : decode cX8_doesPress 68 = .ok (.iconst 4, 1) := by decide +kernel
theorem dX8_doesPress_69 : decode cX8_doesPress 69 = .ok (.if_icmp .ne 85, 3) := by decide +kernel
theorem dX8_doesPress_72 : decode cX8_doesPress 72 = .ok (.iconst 1, 1) := by decide +kernel
theorem dX8_doesPress_73 : decode cX8_doesPress 73 = .ok (.istore 4, 2) := by decide +kernel
theorem dX8_doesPress_75 : decode cX8_doesPress 75 = .ok (.iconst 0, 1) := by decide +kernel
theorem dX8_doesPress_76 : decode cX8_doesPress 76 = .ok (.istore 5, 2) := by decide +kernel
theorem dX8_doesPress_78 : decode cX8_doesPress 78 = .ok (.iload 5, 2) := by decide +kernel
theorem dX8_doesPress_80 : decode cX8_doesPress 80 = .ok (.aload_n 0, 1) := by decide +kernel
theorem dX8_doesPress_81 : decode cX8_doesPress 81 = .ok (.getfield 13, 3) := by decide +kernel
theorem dX8_doesPress_84 : decode cX8_doesPress 84 = .ok (.iconst 0, 1) := by decide +kernel
theorem dX8_doesPress_85 : decode cX8_doesPress 85 = .ok (.iaload, 1) := by decide +kernel
theorem dX8_doesPress_86 : decode cX8_doesPress 86 = .ok (.if_icmp .ge 53, 3) := by decide +kernel
theorem dX8_doesPress_89 : decode cX8_doesPress 89 = .ok (.iload 4, 2) := by decide +kernel
theorem dX8_doesPress_91 : decode cX8_doesPress 91 = .ok (.ifCond .eq 39, 3) := by decide +kernel
theorem dX8_doesPress_94 : decode cX8_doesPress 94 = .ok (.aload_n 0, 1) := by decide +kernel
theorem dX8_doesPress_95 : decode cX8_doesPress 95 = .ok (.getfield 16, 3) := by decide +kernel
theorem dX8_doesPress_98 : decode cX8_doesPress 98 = .ok (.iload 5, 2) := by decide +kernel
theorem dX8_doesPress_100 : decode cX8_doesPress 100 = .ok (.iaload, 1) := by decide +kernel
theorem dX8_doesPress_101 : decode cX8_doesPress 101 = .ok (.aload_n 0, 1) := by decide +kernel
theorem dX8_doesPress_102 : decode cX8_doesPress 102 = .ok (.getfield 16, 3) := by decide +kernel
theorem dX8_doesPress_105 : decode cX8_doesPress 105 = .ok (.iload_n 1, 1) := by decide +kernel
theorem dX8_doesPress_106 : decode cX8_doesPress 106 = .ok (.iaload, 1) := by decide +kernel
theorem dX8_doesPress_107 : decode cX8_doesPress 107 = .ok (.if_icmp .eq 19, 3) := by decide +kernel
theorem dX8_doesPress_110 : decode cX8_doesPress 110 = .ok (.aload_n 0, 1) := by decide +kernel
theorem dX8_doesPress_111 : decode cX8_doesPress 111 = .ok (.getfield 88, 3) := by decide +kernel
theorem dX8_doesPress_114 : decode cX8_doesPress 114 = .ok (.aload_n 0, 1) := by decide +kernel
theorem dX8_doesPress_115 : decode cX8_doesPress 115 = .ok (.getfield 16, 3) := by decide +kernel
theorem dX8_doesPress_118 : decode cX8_doesPress 118 = .ok (.iload 5, 2) := by decide +kernel
theorem dX8_doesPress_120 : decode cX8_doesPress 120 = .ok (.iaload, 1) := by decide +kernel
theorem dX8_doesPress_121 : decode cX8_doesPress 121 = .ok (.iaload, 1) := by decide +kernel
theorem dX8_doesPress_122 : decode cX8_doesPress 122 = .ok (.iload_n 2, 1) := by decide +kernel
theorem dX8_doesPress_123 : decode cX8_doesPress 123 = .ok (.if_icmp .ge 7, 3) := by decide +kernel
theorem dX8_doesPress_126 : decode cX8_doesPress 126 = .ok (.iconst 1, 1) := by decide +kernel
theorem dX8_doesPress_127 : decode cX8_doesPress 127 = .ok (.goto 4, 3) := by decide +kernel
theorem dX8_doesPress_130 : decode cX8_doesPress 130 = .ok (.iconst 0, 1) := by decide +kernel
theorem dX8_doesPress_131 : decode cX8_doesPress 131 = .ok (.istore 4, 2) := by decide +kernel
theorem dX8_doesPress_133 : decode cX8_doesPress 133 = .ok (.iinc 5 1, 3) := by decide +kernel
theorem dX8_doesPress_136 : decode cX8_doesPress 136 = .ok (.goto (-58), 3) := by decide +kernel
theorem dX8_doesPress_139 : decode cX8_doesPress 139 = .ok (.iload_n 3, 1) := by decide +kernel
theorem dX8_doesPress_140 : decode cX8_doesPress 140 = .ok (.ifCond .eq 12, 3) := by decide +kernel
theorem dX8_doesPress_143 : decode cX8_doesPress 143 = .ok (.iload 4, 2) := by decide +kernel
theorem dX8_doesPress_145 : decode cX8_doesPress 145 = .ok (.ifCond .eq 7, 3) := by decide +kernel
theorem dX8_doesPress_148 : decode cX8_doesPress 148 = .ok (.iconst 1, 1) := by decide +kernel
theorem dX8_doesPress_149 : decode cX8_doesPress 149 = .ok (.goto 4, 3) := by decide +kernel
theorem dX8_doesPress_152 : decode cX8_doesPress 152 = .ok (.iconst 0, 1) := by decide +kernel
theorem dX8_doesPress_153 : decode cX8_doesPress 153 = .ok (.ireturn, 1) := by decide +kernel
theorem dX8_doesPress_154 : decode cX8_doesPress 154 = .ok (.iload_n 3, 1) := by decide +kernel
theorem dX8_doesPress_155 : decode cX8_doesPress 155 = .ok (.ifCond .ne 31, 3) := by decide +kernel
theorem dX8_doesPress_158 : decode cX8_doesPress 158 = .ok (.aload_n 0, 1) := by decide +kernel
theorem dX8_doesPress_159 : decode cX8_doesPress 159 = .ok (.getfield 25, 3) := by decide +kernel
theorem dX8_doesPress_162 : decode cX8_doesPress 162 = .ok (.iload_n 1, 1) := by decide +kernel
theorem dX8_doesPress_163 : decode cX8_doesPress 163 = .ok (.iaload, 1) := by decide +kernel
theorem dX8_doesPress_164 : decode cX8_doesPress 164 = .ok (.iconst 5, 1) := by decide +kernel
theorem dX8_doesPress_165 : decode cX8_doesPress 165 = .ok (.if_icmp .ne 25, 3) := by decide +kernel
theorem dX8_doesPress_168 : decode cX8_doesPress 168 = .ok (.iload_n 2, 1) := by decide +kernel
theorem dX8_doesPress_169 : decode cX8_doesPress 169 = .ok (.aload_n 0, 1) := by decide +kernel
theorem dX8_doesPress_170 : decode cX8_doesPress 170 = .ok (.getfield 19, 3) := by decide +kernel
theorem dX8_doesPress_173 : decode cX8_doesPress 173 = .ok (.iload_n 1, 1) := by decide +kernel
theorem dX8_doesPress_174 : decode cX8_doesPress 174 = .ok (.iaload, 1) := by decide +kernel
theorem dX8_doesPress_175 : decode cX8_doesPress 175 = .ok (.if_icmp .lt 15, 3) := by decide +kernel
theorem dX8_doesPress_178 : decode cX8_doesPress 178 = .ok (.aload_n 0, 1) := by decide +kernel
theorem dX8_doesPress_179 : decode cX8_doesPress 179 = .ok (.iload_n 2, 1) := by decide +kernel
theorem dX8_doesPress_180 : decode cX8_doesPress 180 = .ok (.invokevirtual 198, 3) := by decide +kernel
theorem dX8_doesPress_183 : decode cX8_doesPress 183 = .ok (.ifCond .le 7, 3) := by decide +kernel
theorem dX8_doesPress_186 : decode cX8_doesPress 186 = .ok (.iconst 1, 1) := by decide +kernel
theorem dX8_doesPress_187 : decode cX8_doesPress 187 = .ok (.goto 4, 3) := by decide +kernel
theorem dX8_doesPress_190 : decode cX8_doesPress 190 = .ok (.iconst 0, 1) := by decide +kernel
theorem dX8_doesPress_191 : decode cX8_doesPress 191 = .ok (.ireturn, 1) := by decide +kernel
theorem dX8_standsAt_0 : decode cX8_standsAt 0 = .ok (.iconst 1, 1) := by decide +kernel
theorem dX8_standsAt_1 : decode cX8_standsAt 1 = .ok (.istore_n 3, 1) := by decide +kernel
theorem dX8_standsAt_2 : decode cX8_standsAt 2 = .ok (.iconst 0, 1) := by decide +kernel
theorem dX8_standsAt_3 : decode cX8_standsAt 3 = .ok (.istore 4, 2) := by decide +kernel
theorem dX8_standsAt_5 : decode cX8_standsAt 5 = .ok (.iconst 0, 1) := by decide +kernel
theorem dX8_standsAt_6 : decode cX8_standsAt 6 = .ok (.istore 5, 2) := by decide +kernel
theorem dX8_standsAt_8 : decode cX8_standsAt 8 = .ok (.iconst 0, 1) := by decide +kernel
theorem dX8_standsAt_9 : decode cX8_standsAt 9 = .ok (.istore 6, 2) := by decide +kernel
theorem dX8_standsAt_11 : decode cX8_standsAt 11 = .ok (.iload 6, 2) := by decide +kernel
theorem dX8_standsAt_13 : decode cX8_standsAt 13 = .ok (.aload_n 0, 1) := by decide +kernel
theorem dX8_standsAt_14 : decode cX8_standsAt 14 = .ok (.getfield 13, 3) := by decide +kernel
theorem dX8_standsAt_17 : decode cX8_standsAt 17 = .ok (.iconst 0, 1) := by decide +kernel
theorem dX8_standsAt_18 : decode cX8_standsAt 18 = .ok (.iaload, 1) := by decide +kernel
theorem dX8_standsAt_19 : decode cX8_standsAt 19 = .ok (.if_icmp .ge 73, 3) := by decide +kernel
theorem dX8_standsAt_22 : decode cX8_standsAt 22 = .ok (.aload_n 0, 1) := by decide +kernel
theorem dX8_standsAt_23 : decode cX8_standsAt 23 = .ok (.getfield 16, 3) := by decide +kernel
theorem dX8_standsAt_26 : decode cX8_standsAt 26 = .ok (.iload 6, 2) := by decide +kernel
theorem dX8_standsAt_28 : decode cX8_standsAt 28 = .ok (.iaload, 1) := by decide +kernel
theorem dX8_standsAt_29 : decode cX8_standsAt 29 = .ok (.iload_n 1, 1) := by decide +kernel
theorem dX8_standsAt_30 : decode cX8_standsAt 30 = .ok (.if_icmp .ne 56, 3) := by decide +kernel
theorem dX8_standsAt_33 : decode cX8_standsAt 33 = .ok (.aload_n 0, 1) := by decide +kernel
theorem dX8_standsAt_34 : decode cX8_standsAt 34 = .ok (.iload 6, 2) := by decide +kernel
theorem dX8_standsAt_36 : decode cX8_standsAt 36 = .ok (.iload_n 2, 1) := by decide +kernel
theorem dX8_standsAt_37 : decode cX8_standsAt 37 = .ok (.invokevirtual 208, 3) := by decide +kernel
theorem dX8_standsAt_40 : decode cX8_standsAt 40 = .ok (.istore 7, 2) := by decide +kernel
theorem dX8_standsAt_42 : decode cX8_standsAt 42 = .ok (.iconst 1, 1) := by decide +kernel
theorem dX8_standsAt_43 : decode cX8_standsAt 43 = .ok (.istore 5, 2) := by decide +kernel
theorem dX8_standsAt_45 : decode cX8_standsAt 45 = .ok (.iload_n 3, 1) := by decide +kernel
theorem dX8_standsAt_46 : decode cX8_standsAt 46 = .ok (.ifCond .eq 12, 3) := by decide +kernel
theorem dX8_standsAt_49 : decode cX8_standsAt 49 = .ok (.iload 7, 2) := by decide +kernel
theorem dX8_standsAt_51 : decode cX8_standsAt 51 = .ok (.ifCond .eq 7, 3) := by decide +kernel
theorem dX8_standsAt_54 : decode cX8_standsAt 54 = .ok (.iconst 1, 1) := by decide +kernel
theorem dX8_standsAt_55 : decode cX8_standsAt 55 = .ok (.goto 4, 3) := by decide +kernel
theorem dX8_standsAt_58 : decode cX8_standsAt 58 = .ok (.iconst 0, 1) := by decide +kernel
theorem dX8_standsAt_59 : decode cX8_standsAt 59 = .ok (.istore_n 3, 1) := by decide +kernel
theorem dX8_standsAt_60 : decode cX8_standsAt 60 = .ok (.iload 4, 2) := by decide +kernel
theorem dX8_standsAt_62 : decode cX8_standsAt 62 = .ok (.ifCond .ne 17, 3) := by decide +kernel
theorem dX8_standsAt_65 : decode cX8_standsAt 65 = .ok (.iload 7, 2) := by decide +kernel
theorem dX8_standsAt_67 : decode cX8_standsAt 67 = .ok (.ifCond .eq 16, 3) := by decide +kernel
theorem dX8_standsAt_70 : decode cX8_standsAt 70 = .ok (.aload_n 0, 1) := by decide +kernel
theorem dX8_standsAt_71 : decode cX8_standsAt 71 = .ok (.iload 6, 2) := by decide +kernel
theorem dX8_standsAt_73 : decode cX8_standsAt 73 = .ok (.invokevirtual 201, 3) := by decide +kernel
theorem dX8_standsAt_76 : decode cX8_standsAt 76 = .ok (.ifCond .eq 7, 3) := by decide +kernel
theorem dX8_standsAt_79 : decode cX8_standsAt 79 = .ok (.iconst 1, 1) := by decide +kernel
theorem dX8_standsAt_80 : decode cX8_standsAt 80 = .ok (.goto 4, 3) := by decide +kernel
theorem dX8_standsAt_83 : decode cX8_standsAt 83 = .ok (.iconst 0, 1) := by decide +kernel
theorem dX8_standsAt_84 : decode cX8_standsAt 84 = .ok (.istore 4, 2) := by decide +kernel
theorem dX8_standsAt_86 : decode cX8_standsAt 86 = .ok (.iinc 6 1, 3) := by decide +kernel
theorem dX8_standsAt_89 : decode cX8_standsAt 89 = .ok (.goto (-78), 3) := by decide +kernel
theorem dX8_standsAt_92 : decode cX8_standsAt 92 = .ok (.iload 5, 2) := by decide +kernel
theorem dX8_standsAt_94 : decode cX8_standsAt 94 = .ok (.ifCond .eq 31, 3) := by decide +kernel
theorem dX8_standsAt_97 : decode cX8_standsAt 97 = .ok (.iload_n 3, 1) := by decide +kernel
theorem dX8_standsAt_98 : decode cX8_standsAt 98 = .ok (.ifCond .ne 23, 3) := by decide +kernel
theorem dX8_standsAt_101 : decode cX8_standsAt 101 = .ok (.iload 4, 2) := by decide +kernel
theorem dX8_standsAt_103 : decode cX8_standsAt 103 = .ok (.ifCond .ne 18, 3) := by decide +kernel
theorem dX8_standsAt_106 : decode cX8_standsAt 106 = .ok (.iload_n 2, 1) := by decide +kernel
theorem dX8_standsAt_107 : decode cX8_standsAt 107 = .ok (.sipush 719, 3) := by decide +kernel
theorem dX8_standsAt_110 : decode cX8_standsAt 110 = .ok (.if_icmp .eq 11, 3) := by decide +kernel
theorem dX8_standsAt_113 : decode cX8_standsAt 113 = .ok (.iload_n 2, 1) := by decide +kernel
theorem dX8_standsAt_114 : decode cX8_standsAt 114 = .ok (.aload_n 0, 1) := by decide +kernel
theorem dX8_standsAt_115 : decode cX8_standsAt 115 = .ok (.getfield 176, 3) := by decide +kernel
theorem dX8_standsAt_118 : decode cX8_standsAt 118 = .ok (.if_icmp .ne 7, 3) := by decide +kernel
theorem dX8_standsAt_121 : decode cX8_standsAt 121 = .ok (.iconst 1, 1) := by decide +kernel
theorem dX8_standsAt_122 : decode cX8_standsAt 122 = .ok (.goto 4, 3) := by decide +kernel
theorem dX8_standsAt_125 : decode cX8_standsAt 125 = .ok (.iconst 0, 1) := by decide +kernel
theorem dX8_standsAt_126 : decode cX8_standsAt 126 = .ok (.ireturn, 1) := by decide +kernel
theorem dX8_goEvening_0 : decode cX8_goEvening 0 = .ok (.iconst 0, 1) := by decide +kernel
theorem dX8_goEvening_1 : decode cX8_goEvening 1 = .ok (.istore_n 1, 1) := by decide +kernel
theorem dX8_goEvening_2 : decode cX8_goEvening 2 = .ok (.iload_n 1, 1) := by decide +kernel
theorem dX8_goEvening_3 : decode cX8_goEvening 3 = .ok (.iconst 4, 1) := by decide +kernel
theorem dX8_goEvening_4 : decode cX8_goEvening 4 = .ok (.if_icmp .ge 17, 3) := by decide +kernel
theorem dX8_goEvening_7 : decode cX8_goEvening 7 = .ok (.aload_n 0, 1) := by decide +kernel
theorem dX8_goEvening_8 : decode cX8_goEvening 8 = .ok (.getfield 88, 3) := by decide +kernel
theorem dX8_goEvening_11 : decode cX8_goEvening 11 = .ok (.iload_n 1, 1) := by decide +kernel
theorem dX8_goEvening_12 : decode cX8_goEvening 12 = .ok (.ldc 211, 2) := by decide +kernel
theorem dX8_goEvening_14 : decode cX8_goEvening 14 = .ok (.iastore, 1) := by decide +kernel
theorem dX8_goEvening_15 : decode cX8_goEvening 15 = .ok (.iinc 1 1, 3) := by decide +kernel
theorem dX8_goEvening_18 : decode cX8_goEvening 18 = .ok (.goto (-16), 3) := by decide +kernel
theorem dX8_goEvening_21 : decode cX8_goEvening 21 = .ok (.iconst 0, 1) := by decide +kernel
theorem dX8_goEvening_22 : decode cX8_goEvening 22 = .ok (.istore_n 1, 1) := by decide +kernel
theorem dX8_goEvening_23 : decode cX8_goEvening 23 = .ok (.iload_n 1, 1) := by decide +kernel
theorem dX8_goEvening_24 : decode cX8_goEvening 24 = .ok (.bipush 8, 2) := by decide +kernel
theorem dX8_goEvening_26 : decode cX8_goEvening 26 = .ok (.if_icmp .ge 17, 3) := by decide +kernel
theorem dX8_goEvening_29 : decode cX8_goEvening 29 = .ok (.aload_n 0, 1) := by decide +kernel
theorem dX8_goEvening_30 : decode cX8_goEvening 30 = .ok (.getfield 91, 3) := by decide +kernel
theorem dX8_goEvening_33 : decode cX8_goEvening 33 = .ok (.iload_n 1, 1) := by decide +kernel
theorem dX8_goEvening_34 : decode cX8_goEvening 34 = .ok (.ldc 211, 2) := by decide +kernel
theorem dX8_goEvening_36 : decode cX8_goEvening 36 = .ok (.iastore, 1) := by decide +kernel
theorem dX8_goEvening_37 : decode cX8_goEvening 37 = .ok (.iinc 1 1, 3) := by decide +kernel
theorem dX8_goEvening_40 : decode cX8_goEvening 40 = .ok (.goto (-17), 3) := by decide +kernel
theorem dX8_goEvening_43 : decode cX8_goEvening 43 = .ok (.iconst 0, 1) := by decide +kernel
theorem dX8_goEvening_44 : decode cX8_goEvening 44 = .ok (.istore_n 1, 1) := by decide +kernel
theorem dX8_goEvening_45 : decode cX8_goEvening 45 = .ok (.iconst 0, 1) := by decide +kernel
theorem dX8_goEvening_46 : decode cX8_goEvening 46 = .ok (.istore_n 2, 1) := by decide +kernel
theorem dX8_goEvening_47 : decode cX8_goEvening 47 = .ok (.iload_n 2, 1) := by decide +kernel
theorem dX8_goEvening_48 : decode cX8_goEvening 48 = .ok (.sipush 719, 3) := by decide +kernel
theorem dX8_goEvening_51 : decode cX8_goEvening 51 = .ok (.aload_n 0, 1) := by decide +kernel
theorem dX8_goEvening_52 : decode cX8_goEvening 52 = .ok (.getfield 40, 3) := by decide +kernel
theorem dX8_goEvening_55 : decode cX8_goEvening 55 = .ok (.iconst 0, 1) := by decide +kernel
theorem dX8_goEvening_56 : decode cX8_goEvening 56 = .ok (.iaload, 1) := by decide +kernel
theorem dX8_goEvening_57 : decode cX8_goEvening 57 = .ok (.iadd, 1) := by decide +kernel
theorem dX8_goEvening_58 : decode cX8_goEvening 58 = .ok (.if_icmp .gt 209, 3) := by decide +kernel
theorem dX8_goEvening_61 : decode cX8_goEvening 61 = .ok (.iconst 0, 1) := by decide +kernel
theorem dX8_goEvening_62 : decode cX8_goEvening 62 = .ok (.istore_n 3, 1) := by decide +kernel
theorem dX8_goEvening_63 : decode cX8_goEvening 63 = .ok (.iconst 0, 1) := by decide +kernel
theorem dX8_goEvening_64 : decode cX8_goEvening 64 = .ok (.istore 4, 2) := by decide +kernel
theorem dX8_goEvening_66 : decode cX8_goEvening 66 = .ok (.iload 4, 2) := by decide +kernel
theorem dX8_goEvening_68 : decode cX8_goEvening 68 = .ok (.iconst 4, 1) := by decide +kernel
theorem dX8_goEvening_69 : decode cX8_goEvening 69 = .ok (.if_icmp .ge 49, 3) := by decide +kernel
theorem dX8_goEvening_72 : decode cX8_goEvening 72 = .ok (.iload_n 2, 1) := by decide +kernel
theorem dX8_goEvening_73 : decode cX8_goEvening 73 = .ok (.sipush 719, 3) := by decide +kernel
theorem dX8_goEvening_76 : decode cX8_goEvening 76 = .ok (.if_icmp .gt 42, 3) := by decide +kernel
theorem dX8_goEvening_79 : decode cX8_goEvening 79 = .ok (.iload_n 3, 1) := by decide +kernel
theorem dX8_goEvening_80 : decode cX8_goEvening 80 = .ok (.aload_n 0, 1) := by decide +kernel
theorem dX8_goEvening_81 : decode cX8_goEvening 81 = .ok (.getfield 88, 3) := by decide +kernel
theorem dX8_goEvening_84 : decode cX8_goEvening 84 = .ok (.iload 4, 2) := by decide +kernel
theorem dX8_goEvening_86 : decode cX8_goEvening 86 = .ok (.iaload, 1) := by decide +kernel
theorem dX8_goEvening_87 : decode cX8_goEvening 87 = .ok (.ldc 211, 2) := by decide +kernel
theorem dX8_goEvening_89 : decode cX8_goEvening 89 = .ok (.if_icmp .ne 20, 3) := by decide +kernel
theorem dX8_goEvening_92 : decode cX8_goEvening 92 = .ok (.aload_n 0, 1) := by decide +kernel
theorem dX8_goEvening_93 : decode cX8_goEvening 93 = .ok (.iload 4, 2) := by decide +kernel
theorem dX8_goEvening_95 : decode cX8_goEvening 95 = .ok (.iload_n 2, 1) := by decide +kernel
theorem dX8_goEvening_96 : decode cX8_goEvening 96 = .ok (.invokevirtual 212, 3) := by decide +kernel
theorem dX8_goEvening_99 : decode cX8_goEvening 99 = .ok (.ifCond .eq 10, 3) := by decide +kernel
theorem dX8_goEvening_102 : decode cX8_goEvening 102 = .ok (.iconst 1, 1) := by decide +kernel
theorem dX8_goEvening_103 : decode cX8_goEvening 103 = .ok (.iload 4, 2) := by decide +kernel
theorem dX8_goEvening_105 : decode cX8_goEvening 105 = .ok (.ishl, 1) := by decide +kernel
theorem dX8_goEvening_106 : decode cX8_goEvening 106 = .ok (.goto 4, 3) := by decide +kernel
theorem dX8_goEvening_109 : decode cX8_goEvening 109 = .ok (.iconst 0, 1) := by decide +kernel
theorem dX8_goEvening_110 : decode cX8_goEvening 110 = .ok (.ior, 1) := by decide +kernel
theorem dX8_goEvening_111 : decode cX8_goEvening 111 = .ok (.istore_n 3, 1) := by decide +kernel
theorem dX8_goEvening_112 : decode cX8_goEvening 112 = .ok (.iinc 4 1, 3) := by decide +kernel
theorem dX8_goEvening_115 : decode cX8_goEvening 115 = .ok (.goto (-49), 3) := by decide +kernel
theorem dX8_goEvening_118 : decode cX8_goEvening 118 = .ok (.iconst 0, 1) := by decide +kernel
theorem dX8_goEvening_119 : decode cX8_goEvening 119 = .ok (.istore 4, 2) := by decide +kernel
theorem dX8_goEvening_121 : decode cX8_goEvening 121 = .ok (.iload 4, 2) := by decide +kernel
theorem dX8_goEvening_123 : decode cX8_goEvening 123 = .ok (.iconst 4, 1) := by decide +kernel
theorem dX8_goEvening_124 : decode cX8_goEvening 124 = .ok (.if_icmp .ge 36, 3) := by decide +kernel
theorem dX8_goEvening_127 : decode cX8_goEvening 127 = .ok (.aload_n 0, 1) := by decide +kernel
theorem dX8_goEvening_128 : decode cX8_goEvening 128 = .ok (.getfield 88, 3) := by decide +kernel
theorem dX8_goEvening_131 : decode cX8_goEvening 131 = .ok (.iload 4, 2) := by decide +kernel
theorem dX8_goEvening_133 : decode cX8_goEvening 133 = .ok (.iload_n 3, 1) := by decide +kernel
theorem dX8_goEvening_134 : decode cX8_goEvening 134 = .ok (.iload 4, 2) := by decide +kernel
theorem dX8_goEvening_136 : decode cX8_goEvening 136 = .ok (.invokestatic 215, 3) := by decide +kernel
theorem dX8_goEvening_139 : decode cX8_goEvening 139 = .ok (.ifCond .eq 7, 3) := by decide +kernel
theorem dX8_goEvening_142 : decode cX8_goEvening 142 = .ok (.iload_n 2, 1) := by decide +kernel
theorem dX8_goEvening_143 : decode cX8_goEvening 143 = .ok (.goto 10, 3) := by decide +kernel
theorem dX8_goEvening_146 : decode cX8_goEvening 146 = .ok (.aload_n 0, 1) := by decide +kernel
theorem dX8_goEvening_147 : decode cX8_goEvening 147 = .ok (.getfield 88, 3) := by decide +kernel
theorem dX8_goEvening_150 : decode cX8_goEvening 150 = .ok (.iload 4, 2) := by decide +kernel
theorem dX8_goEvening_152 : decode cX8_goEvening 152 = .ok (.iaload, 1) := by decide +kernel
theorem dX8_goEvening_153 : decode cX8_goEvening 153 = .ok (.iastore, 1) := by decide +kernel
theorem dX8_goEvening_154 : decode cX8_goEvening 154 = .ok (.iinc 4 1, 3) := by decide +kernel
theorem dX8_goEvening_157 : decode cX8_goEvening 157 = .ok (.goto (-36), 3) := by decide +kernel
theorem dX8_goEvening_160 : decode cX8_goEvening 160 = .ok (.iload_n 3, 1) := by decide +kernel
theorem dX8_goEvening_161 : decode cX8_goEvening 161 = .ok (.ifCond .eq 7, 3) := by decide +kernel
theorem dX8_goEvening_164 : decode cX8_goEvening 164 = .ok (.iload_n 2, 1) := by decide +kernel
theorem dX8_goEvening_165 : decode cX8_goEvening 165 = .ok (.goto 4, 3) := by decide +kernel
theorem dX8_goEvening_168 : decode cX8_goEvening 168 = .ok (.iload_n 1, 1) := by decide +kernel
theorem dX8_goEvening_169 : decode cX8_goEvening 169 = .ok (.istore_n 1, 1) := by decide +kernel
theorem dX8_goEvening_170 : decode cX8_goEvening 170 = .ok (.iconst 0, 1) := by decide +kernel
theorem dX8_goEvening_171 : decode cX8_goEvening 171 = .ok (.istore 4, 2) := by decide +kernel
theorem dX8_goEvening_173 : decode cX8_goEvening 173 = .ok (.iload 4, 2) := by decide +kernel
theorem dX8_goEvening_175 : decode cX8_goEvening 175 = .ok (.aload_n 0, 1) := by decide +kernel
theorem dX8_goEvening_176 : decode cX8_goEvening 176 = .ok (.getfield 13, 3) := by decide +kernel
theorem dX8_goEvening_179 : decode cX8_goEvening 179 = .ok (.iconst 0, 1) := by decide +kernel
theorem dX8_goEvening_180 : decode cX8_goEvening 180 = .ok (.iaload, 1) := by decide +kernel
theorem dX8_goEvening_181 : decode cX8_goEvening 181 = .ok (.if_icmp .ge 80, 3) := by decide +kernel
theorem dX8_goEvening_184 : decode cX8_goEvening 184 = .ok (.aload_n 0, 1) := by decide +kernel
theorem dX8_goEvening_185 : decode cX8_goEvening 185 = .ok (.getfield 88, 3) := by decide +kernel
theorem dX8_goEvening_188 : decode cX8_goEvening 188 = .ok (.aload_n 0, 1) := by decide +kernel
theorem dX8_goEvening_189 : decode cX8_goEvening 189 = .ok (.getfield 16, 3) := by decide +kernel
theorem dX8_goEvening_192 : decode cX8_goEvening 192 = .ok (.iload 4, 2) := by decide +kernel
theorem dX8_goEvening_194 : decode cX8_goEvening 194 = .ok (.iaload, 1) := by decide +kernel
theorem dX8_goEvening_195 : decode cX8_goEvening 195 = .ok (.iaload, 1) := by decide +kernel
theorem dX8_goEvening_196 : decode cX8_goEvening 196 = .ok (.ldc 211, 2) := by decide +kernel
theorem dX8_goEvening_198 : decode cX8_goEvening 198 = .ok (.if_icmp .eq 19, 3) := by decide +kernel
theorem dX8_goEvening_201 : decode cX8_goEvening 201 = .ok (.aload_n 0, 1) := by decide +kernel
theorem dX8_goEvening_202 : decode cX8_goEvening 202 = .ok (.getfield 91, 3) := by decide +kernel
theorem dX8_goEvening_205 : decode cX8_goEvening 205 = .ok (.iload 4, 2) := by decide +kernel
theorem dX8_goEvening_207 : decode cX8_goEvening 207 = .ok (.iaload, 1) := by decide +kernel
theorem dX8_goEvening_208 : decode cX8_goEvening 208 = .ok (.ldc 211, 2) := by decide +kernel
theorem dX8_goEvening_210 : decode cX8_goEvening 210 = .ok (.if_icmp .ne 7, 3) := by decide +kernel
theorem dX8_goEvening_213 : decode cX8_goEvening 213 = .ok (.iconst 1, 1) := by decide +kernel
theorem dX8_goEvening_214 : decode cX8_goEvening 214 = .ok (.goto 4, 3) := by decide +kernel
theorem dX8_goEvening_217 : decode cX8_goEvening 217 = .ok (.iconst 0, 1) := by decide +kernel
theorem dX8_goEvening_218 : decode cX8_goEvening 218 = .ok (.istore 5, 2) := by decide +kernel
theorem dX8_goEvening_220 : decode cX8_goEvening 220 = .ok (.aload_n 0, 1) := by decide +kernel
theorem dX8_goEvening_221 : decode cX8_goEvening 221 = .ok (.getfield 91, 3) := by decide +kernel
theorem dX8_goEvening_224 : decode cX8_goEvening 224 = .ok (.iload 4, 2) := by decide +kernel
theorem dX8_goEvening_226 : decode cX8_goEvening 226 = .ok (.iload 5, 2) := by decide +kernel
theorem dX8_goEvening_228 : decode cX8_goEvening 228 = .ok (.ifCond .eq 19, 3) := by decide +kernel
theorem dX8_goEvening_231 : decode cX8_goEvening 231 = .ok (.iload_n 2, 1) := by decide +kernel
theorem dX8_goEvening_232 : decode cX8_goEvening 232 = .ok (.iload_n 1, 1) := by decide +kernel
theorem dX8_goEvening_233 : decode cX8_goEvening 233 = .ok (.isub, 1) := by decide +kernel
theorem dX8_goEvening_234 : decode cX8_goEvening 234 = .ok (.aload_n 0, 1) := by decide +kernel
theorem dX8_goEvening_235 : decode cX8_goEvening 235 = .ok (.getfield 40, 3) := by decide +kernel
theorem dX8_goEvening_238 : decode cX8_goEvening 238 = .ok (.iconst 0, 1) := by decide +kernel
theorem dX8_goEvening_239 : decode cX8_goEvening 239 = .ok (.iaload, 1) := by decide +kernel
theorem dX8_goEvening_240 : decode cX8_goEvening 240 = .ok (.if_icmp .lt 7, 3) := by decide +kernel
theorem dX8_goEvening_243 : decode cX8_goEvening 243 = .ok (.iload_n 2, 1) := by decide +kernel
theorem dX8_goEvening_244 : decode cX8_goEvening 244 = .ok (.goto 10, 3) := by decide +kernel
theorem dX8_goEvening_247 : decode cX8_goEvening 247 = .ok (.aload_n 0, 1) := by decide +kernel
theorem dX8_goEvening_248 : decode cX8_goEvening 248 = .ok (.getfield 91, 3) := by decide +kernel
theorem dX8_goEvening_251 : decode cX8_goEvening 251 = .ok (.iload 4, 2) := by decide +kernel
theorem dX8_goEvening_253 : decode cX8_goEvening 253 = .ok (.iaload, 1) := by decide +kernel
theorem dX8_goEvening_254 : decode cX8_goEvening 254 = .ok (.iastore, 1) := by decide +kernel
theorem dX8_goEvening_255 : decode cX8_goEvening 255 = .ok (.iinc 4 1, 3) := by decide +kernel
theorem dX8_goEvening_258 : decode cX8_goEvening 258 = .ok (.goto (-85), 3) := by decide +kernel
theorem dX8_goEvening_261 : decode cX8_goEvening 261 = .ok (.iinc 2 1, 3) := by decide +kernel
theorem dX8_goEvening_264 : decode cX8_goEvening 264 = .ok (.goto (-217), 3) := by decide +kernel
theorem dX8_goEvening_267 : decode cX8_goEvening 267 = .ok (.return_, 1) := by decide +kernel
theorem dX8_lastOf_0 : decode cX8_lastOf 0 = .ok (.iconst 0, 1) := by decide +kernel
theorem dX8_lastOf_1 : decode cX8_lastOf 1 = .ok (.istore_n 1, 1) := by decide +kernel
theorem dX8_lastOf_2 : decode cX8_lastOf 2 = .ok (.iconst 0, 1) := by decide +kernel
theorem dX8_lastOf_3 : decode cX8_lastOf 3 = .ok (.istore_n 2, 1) := by decide +kernel
theorem dX8_lastOf_4 : decode cX8_lastOf 4 = .ok (.iload_n 2, 1) := by decide +kernel
theorem dX8_lastOf_5 : decode cX8_lastOf 5 = .ok (.aload_n 0, 1) := by decide +kernel
theorem dX8_lastOf_6 : decode cX8_lastOf 6 = .ok (.getfield 13, 3) := by decide +kernel
theorem dX8_lastOf_9 : decode cX8_lastOf 9 = .ok (.iconst 0, 1) := by decide +kernel
theorem dX8_lastOf_10 : decode cX8_lastOf 10 = .ok (.iaload, 1) := by decide +kernel
theorem dX8_lastOf_11 : decode cX8_lastOf 11 = .ok (.if_icmp .ge 30, 3) := by decide +kernel
theorem dX8_lastOf_14 : decode cX8_lastOf 14 = .ok (.aload_n 0, 1) := by decide +kernel
theorem dX8_lastOf_15 : decode cX8_lastOf 15 = .ok (.getfield 91, 3) := by decide +kernel
theorem dX8_lastOf_18 : decode cX8_lastOf 18 = .ok (.iload_n 2, 1) := by decide +kernel
theorem dX8_lastOf_19 : decode cX8_lastOf 19 = .ok (.iaload, 1) := by decide +kernel
theorem dX8_lastOf_20 : decode cX8_lastOf 20 = .ok (.iload_n 1, 1) := by decide +kernel
theorem dX8_lastOf_21 : decode cX8_lastOf 21 = .ok (.if_icmp .le 12, 3) := by decide +kernel
theorem dX8_lastOf_24 : decode cX8_lastOf 24 = .ok (.aload_n 0, 1) := by decide +kernel
theorem dX8_lastOf_25 : decode cX8_lastOf 25 = .ok (.getfield 91, 3) := by decide +kernel
theorem dX8_lastOf_28 : decode cX8_lastOf 28 = .ok (.iload_n 2, 1) := by decide +kernel
theorem dX8_lastOf_29 : decode cX8_lastOf 29 = .ok (.iaload, 1) := by decide +kernel
theorem dX8_lastOf_30 : decode cX8_lastOf 30 = .ok (.goto 4, 3) := by decide +kernel
theorem dX8_lastOf_33 : decode cX8_lastOf 33 = .ok (.iload_n 1, 1) := by decide +kernel
theorem dX8_lastOf_34 : decode cX8_lastOf 34 = .ok (.istore_n 1, 1) := by decide +kernel
theorem dX8_lastOf_35 : decode cX8_lastOf 35 = .ok (.iinc 2 1, 3) := by decide +kernel
theorem dX8_lastOf_38 : decode cX8_lastOf 38 = .ok (.goto (-34), 3) := by decide +kernel
theorem dX8_lastOf_41 : decode cX8_lastOf 41 = .ok (.iload_n 1, 1) := by decide +kernel
theorem dX8_lastOf_42 : decode cX8_lastOf 42 = .ok (.ireturn, 1) := by decide +kernel
theorem dX8_away_0 : decode cX8_away 0 = .ok (.iload_n 0, 1) := by decide +kernel
theorem dX8_away_1 : decode cX8_away 1 = .ok (.iload_n 1, 1) := by decide +kernel
theorem dX8_away_2 : decode cX8_away 2 = .ok (.if_icmp .ge 9, 3) := by decide +kernel
theorem dX8_away_5 : decode cX8_away 5 = .ok (.iload_n 1, 1) := by decide +kernel
theorem dX8_away_6 : decode cX8_away 6 = .ok (.iload_n 0, 1) := by decide +kernel
theorem dX8_away_7 : decode cX8_away 7 = .ok (.isub, 1) := by decide +kernel
theorem dX8_away_8 : decode cX8_away 8 = .ok (.goto 6, 3) := by decide +kernel
theorem dX8_away_11 : decode cX8_away 11 = .ok (.iload_n 0, 1) := by decide +kernel
theorem dX8_away_12 : decode cX8_away 12 = .ok (.iload_n 1, 1) := by decide +kernel
theorem dX8_away_13 : decode cX8_away 13 = .ok (.isub, 1) := by decide +kernel
theorem dX8_away_14 : decode cX8_away 14 = .ok (.ireturn, 1) := by decide +kernel
theorem dX8_allWasted_0 : decode cX8_allWasted 0 = .ok (.aload_n 0, 1) := by decide +kernel
theorem dX8_allWasted_1 : decode cX8_allWasted 1 = .ok (.invokevirtual 218, 3) := by decide +kernel
theorem dX8_allWasted_4 : decode cX8_allWasted 4 = .ok (.aload_n 0, 1) := by decide +kernel
theorem dX8_allWasted_5 : decode cX8_allWasted 5 = .ok (.getfield 43, 3) := by decide +kernel
theorem dX8_allWasted_8 : decode cX8_allWasted 8 = .ok (.iconst 0, 1) := by decide +kernel
theorem dX8_allWasted_9 : decode cX8_allWasted 9 = .ok (.iaload, 1) := by decide +kernel
theorem dX8_allWasted_10 : decode cX8_allWasted 10 = .ok (.invokestatic 221, 3) := by decide +kernel
theorem dX8_allWasted_13 : decode cX8_allWasted 13 = .ok (.istore_n 1, 1) := by decide +kernel
theorem dX8_allWasted_14 : decode cX8_allWasted 14 = .ok (.iconst 0, 1) := by decide +kernel
theorem dX8_allWasted_15 : decode cX8_allWasted 15 = .ok (.istore_n 2, 1) := by decide +kernel
theorem dX8_allWasted_16 : decode cX8_allWasted 16 = .ok (.iload_n 2, 1) := by decide +kernel
theorem dX8_allWasted_17 : decode cX8_allWasted 17 = .ok (.aload_n 0, 1) := by decide +kernel
theorem dX8_allWasted_18 : decode cX8_allWasted 18 = .ok (.getfield 13, 3) := by decide +kernel
theorem dX8_allWasted_21 : decode cX8_allWasted 21 = .ok (.iconst 0, 1) := by decide +kernel
theorem dX8_allWasted_22 : decode cX8_allWasted 22 = .ok (.iaload, 1) := by decide +kernel
theorem dX8_allWasted_23 : decode cX8_allWasted 23 = .ok (.if_icmp .ge 27, 3) := by decide +kernel
theorem dX8_allWasted_26 : decode cX8_allWasted 26 = .ok (.iload_n 1, 1) := by decide +kernel
theorem dX8_allWasted_27 : decode cX8_allWasted 27 = .ok (.aload_n 0, 1) := by decide +kernel
theorem dX8_allWasted_28 : decode cX8_allWasted 28 = .ok (.getfield 91, 3) := by decide +kernel
theorem dX8_allWasted_31 : decode cX8_allWasted 31 = .ok (.iload_n 2, 1) := by decide +kernel
theorem dX8_allWasted_32 : decode cX8_allWasted 32 = .ok (.iaload, 1) := by decide +kernel
theorem dX8_allWasted_33 : decode cX8_allWasted 33 = .ok (.aload_n 0, 1) := by decide +kernel
theorem dX8_allWasted_34 : decode cX8_allWasted 34 = .ok (.getfield 19, 3) := by decide +kernel
theorem dX8_allWasted_37 : decode cX8_allWasted 37 = .ok (.iload_n 2, 1) := by decide +kernel
theorem dX8_allWasted_38 : decode cX8_allWasted 38 = .ok (.iaload, 1) := by decide +kernel
theorem dX8_allWasted_39 : decode cX8_allWasted 39 = .ok (.invokestatic 221, 3) := by decide +kernel
theorem dX8_allWasted_42 : decode cX8_allWasted 42 = .ok (.iadd, 1) := by decide +kernel
theorem dX8_allWasted_43 : decode cX8_allWasted 43 = .ok (.istore_n 1, 1) := by decide +kernel
theorem dX8_allWasted_44 : decode cX8_allWasted 44 = .ok (.iinc 2 1, 3) := by decide +kernel
theorem dX8_allWasted_47 : decode cX8_allWasted 47 = .ok (.goto (-31), 3) := by decide +kernel
theorem dX8_allWasted_50 : decode cX8_allWasted 50 = .ok (.iload_n 1, 1) := by decide +kernel
theorem dX8_allWasted_51 : decode cX8_allWasted 51 = .ok (.ireturn, 1) := by decide +kernel
theorem dX8_goAsItIs_0 : decode cX8_goAsItIs 0 = .ok (.aload_n 0, 1) := by decide +kernel
theorem dX8_goAsItIs_1 : decode cX8_goAsItIs 1 = .ok (.invokevirtual 224, 3) := by decide +kernel
theorem dX8_goAsItIs_4 : decode cX8_goAsItIs 4 = .ok (.aload_n 0, 1) := by decide +kernel
theorem dX8_goAsItIs_5 : decode cX8_goAsItIs 5 = .ok (.invokevirtual 227, 3) := by decide +kernel
theorem dX8_goAsItIs_8 : decode cX8_goAsItIs 8 = .ok (.return_, 1) := by decide +kernel
theorem dX8_isTime_0 : decode cX8_isTime 0 = .ok (.iload_n 0, 1) := by decide +kernel
theorem dX8_isTime_1 : decode cX8_isTime 1 = .ok (.i2l, 1) := by decide +kernel
theorem dX8_isTime_2 : decode cX8_isTime 2 = .ok (.lconst 0, 1) := by decide +kernel
theorem dX8_isTime_3 : decode cX8_isTime 3 = .ok (.ldc2_w 230, 3) := by decide +kernel
theorem dX8_isTime_6 : decode cX8_isTime 6 = .ok (.invokestatic 109, 3) := by decide +kernel
theorem dX8_isTime_9 : decode cX8_isTime 9 = .ok (.ireturn, 1) := by decide +kernel
theorem dX8_shame_0 : decode cX8_shame 0 = .ok (.aload_n 0, 1) := by decide +kernel
theorem dX8_shame_1 : decode cX8_shame 1 = .ok (.iload_n 1, 1) := by decide +kernel
theorem dX8_shame_2 : decode cX8_shame 2 = .ok (.invokevirtual 167, 3) := by decide +kernel
theorem dX8_shame_5 : decode cX8_shame 5 = .ok (.ifCond .eq 10, 3) := by decide +kernel
theorem dX8_shame_8 : decode cX8_shame 8 = .ok (.iload_n 2, 1) := by decide +kernel
theorem dX8_shame_9 : decode cX8_shame 9 = .ok (.invokestatic 232, 3) := by decide +kernel
theorem dX8_shame_12 : decode cX8_shame 12 = .ok (.ifCond .ne 5, 3) := by decide +kernel
theorem dX8_shame_15 : decode cX8_shame 15 = .ok (.iconst (-1), 1) := by decide +kernel
theorem dX8_shame_16 : decode cX8_shame 16 = .ok (.ireturn, 1) := by decide +kernel
theorem dX8_shame_17 : decode cX8_shame 17 = .ok (.aload_n 0, 1) := by decide +kernel
theorem dX8_shame_18 : decode cX8_shame 18 = .ok (.invokevirtual 235, 3) := by decide +kernel
theorem dX8_shame_21 : decode cX8_shame 21 = .ok (.aload_n 0, 1) := by decide +kernel
theorem dX8_shame_22 : decode cX8_shame 22 = .ok (.iload_n 1, 1) := by decide +kernel
theorem dX8_shame_23 : decode cX8_shame 23 = .ok (.iload_n 2, 1) := by decide +kernel
theorem dX8_shame_24 : decode cX8_shame 24 = .ok (.invokevirtual 204, 3) := by decide +kernel
theorem dX8_shame_27 : decode cX8_shame 27 = .ok (.ireturn, 1) := by decide +kernel
theorem dX8_presses_0 : decode cX8_presses 0 = .ok (.aload_n 0, 1) := by decide +kernel
theorem dX8_presses_1 : decode cX8_presses 1 = .ok (.iload_n 1, 1) := by decide +kernel
theorem dX8_presses_2 : decode cX8_presses 2 = .ok (.invokevirtual 167, 3) := by decide +kernel
theorem dX8_presses_5 : decode cX8_presses 5 = .ok (.ifCond .eq 10, 3) := by decide +kernel
theorem dX8_presses_8 : decode cX8_presses 8 = .ok (.iload_n 2, 1) := by decide +kernel
theorem dX8_presses_9 : decode cX8_presses 9 = .ok (.invokestatic 232, 3) := by decide +kernel
theorem dX8_presses_12 : decode cX8_presses 12 = .ok (.ifCond .ne 5, 3) := by decide +kernel
theorem dX8_presses_15 : decode cX8_presses 15 = .ok (.iconst (-1), 1) := by decide +kernel
theorem dX8_presses_16 : decode cX8_presses 16 = .ok (.ireturn, 1) := by decide +kernel
theorem dX8_presses_17 : decode cX8_presses 17 = .ok (.aload_n 0, 1) := by decide +kernel
theorem dX8_presses_18 : decode cX8_presses 18 = .ok (.invokevirtual 235, 3) := by decide +kernel
theorem dX8_presses_21 : decode cX8_presses 21 = .ok (.aload_n 0, 1) := by decide +kernel
theorem dX8_presses_22 : decode cX8_presses 22 = .ok (.iload_n 1, 1) := by decide +kernel
theorem dX8_presses_23 : decode cX8_presses 23 = .ok (.iload_n 2, 1) := by decide +kernel
theorem dX8_presses_24 : decode cX8_presses 24 = .ok (.invokevirtual 208, 3) := by decide +kernel
theorem dX8_presses_27 : decode cX8_presses 27 = .ok (.ifCond .eq 7, 3) := by decide +kernel
theorem dX8_presses_30 : decode cX8_presses 30 = .ok (.iconst 1, 1) := by decide +kernel
theorem dX8_presses_31 : decode cX8_presses 31 = .ok (.goto 4, 3) := by decide +kernel
theorem dX8_presses_34 : decode cX8_presses 34 = .ok (.iconst 0, 1) := by decide +kernel
theorem dX8_presses_35 : decode cX8_presses 35 = .ok (.ireturn, 1) := by decide +kernel
theorem dX8_is_0 : decode cX8_is 0 = .ok (.aload_n 0, 1) := by decide +kernel
theorem dX8_is_1 : decode cX8_is 1 = .ok (.iload_n 1, 1) := by decide +kernel
theorem dX8_is_2 : decode cX8_is 2 = .ok (.invokevirtual 167, 3) := by decide +kernel
theorem dX8_is_5 : decode cX8_is 5 = .ok (.ifCond .eq 15, 3) := by decide +kernel
theorem dX8_is_8 : decode cX8_is 8 = .ok (.iload_n 2, 1) := by decide +kernel
theorem dX8_is_9 : decode cX8_is 9 = .ok (.i2l, 1) := by decide +kernel
theorem dX8_is_10 : decode cX8_is 10 = .ok (.lconst 0, 1) := by decide +kernel
theorem dX8_is_11 : decode cX8_is 11 = .ok (.ldc2_w 238, 3) := by decide +kernel
theorem dX8_is_14 : decode cX8_is 14 = .ok (.invokestatic 109, 3) := by decide +kernel
theorem dX8_is_17 : decode cX8_is 17 = .ok (.ifCond .ne 5, 3) := by decide +kernel
theorem dX8_is_20 : decode cX8_is 20 = .ok (.iconst (-1), 1) := by decide +kernel
theorem dX8_is_21 : decode cX8_is 21 = .ok (.ireturn, 1) := by decide +kernel
theorem dX8_is_22 : decode cX8_is 22 = .ok (.aload_n 0, 1) := by decide +kernel
theorem dX8_is_23 : decode cX8_is 23 = .ok (.invokevirtual 235, 3) := by decide +kernel
theorem dX8_is_26 : decode cX8_is 26 = .ok (.iload_n 2, 1) := by decide +kernel
theorem dX8_is_27 : decode cX8_is 27 = .ok (.aload_n 0, 1) := by decide +kernel
theorem dX8_is_28 : decode cX8_is 28 = .ok (.getfield 88, 3) := by decide +kernel
theorem dX8_is_31 : decode cX8_is 31 = .ok (.aload_n 0, 1) := by decide +kernel
theorem dX8_is_32 : decode cX8_is 32 = .ok (.getfield 16, 3) := by decide +kernel
theorem dX8_is_35 : decode cX8_is 35 = .ok (.iload_n 1, 1) := by decide +kernel
theorem dX8_is_36 : decode cX8_is 36 = .ok (.iaload, 1) := by decide +kernel
theorem dX8_is_37 : decode cX8_is 37 = .ok (.iaload, 1) := by decide +kernel
theorem dX8_is_38 : decode cX8_is 38 = .ok (.if_icmp .ge 7, 3) := by decide +kernel
theorem dX8_is_41 : decode cX8_is 41 = .ok (.iconst 0, 1) := by decide +kernel
theorem dX8_is_42 : decode cX8_is 42 = .ok (.goto 18, 3) := by decide +kernel
theorem dX8_is_45 : decode cX8_is 45 = .ok (.iload_n 2, 1) := by decide +kernel
theorem dX8_is_46 : decode cX8_is 46 = .ok (.aload_n 0, 1) := by decide +kernel
theorem dX8_is_47 : decode cX8_is 47 = .ok (.getfield 91, 3) := by decide +kernel
theorem dX8_is_50 : decode cX8_is 50 = .ok (.iload_n 1, 1) := by decide +kernel
theorem dX8_is_51 : decode cX8_is 51 = .ok (.iaload, 1) := by decide +kernel
theorem dX8_is_52 : decode cX8_is 52 = .ok (.if_icmp .ge 7, 3) := by decide +kernel
theorem dX8_is_55 : decode cX8_is 55 = .ok (.iconst 1, 1) := by decide +kernel
theorem dX8_is_56 : decode cX8_is 56 = .ok (.goto 4, 3) := by decide +kernel
theorem dX8_is_59 : decode cX8_is 59 = .ok (.iconst 2, 1) := by decide +kernel
theorem dX8_is_60 : decode cX8_is 60 = .ok (.ireturn, 1) := by decide +kernel
theorem dX8_when_0 : decode cX8_when 0 = .ok (.aload_n 0, 1) := by decide +kernel
theorem dX8_when_1 : decode cX8_when 1 = .ok (.iload_n 1, 1) := by decide +kernel
theorem dX8_when_2 : decode cX8_when 2 = .ok (.invokevirtual 167, 3) := by decide +kernel
theorem dX8_when_5 : decode cX8_when 5 = .ok (.ifCond .eq 13, 3) := by decide +kernel
theorem dX8_when_8 : decode cX8_when 8 = .ok (.iload_n 2, 1) := by decide +kernel
theorem dX8_when_9 : decode cX8_when 9 = .ok (.i2l, 1) := by decide +kernel
theorem dX8_when_10 : decode cX8_when 10 = .ok (.lconst 0, 1) := by decide +kernel
theorem dX8_when_11 : decode cX8_when 11 = .ok (.lconst 1, 1) := by decide +kernel
theorem dX8_when_12 : decode cX8_when 12 = .ok (.invokestatic 109, 3) := by decide +kernel
theorem dX8_when_15 : decode cX8_when 15 = .ok (.ifCond .ne 5, 3) := by decide +kernel
theorem dX8_when_18 : decode cX8_when 18 = .ok (.iconst (-1), 1) := by decide +kernel
theorem dX8_when_19 : decode cX8_when 19 = .ok (.ireturn, 1) := by decide +kernel
theorem dX8_when_20 : decode cX8_when 20 = .ok (.aload_n 0, 1) := by decide +kernel
theorem dX8_when_21 : decode cX8_when 21 = .ok (.invokevirtual 235, 3) := by decide +kernel
theorem dX8_when_24 : decode cX8_when 24 = .ok (.iload_n 2, 1) := by decide +kernel
theorem dX8_when_25 : decode cX8_when 25 = .ok (.ifCond .ne 17, 3) := by decide +kernel
theorem dX8_when_28 : decode cX8_when 28 = .ok (.aload_n 0, 1) := by decide +kernel
theorem dX8_when_29 : decode cX8_when 29 = .ok (.getfield 88, 3) := by decide +kernel
theorem dX8_when_32 : decode cX8_when 32 = .ok (.aload_n 0, 1) := by decide +kernel
theorem dX8_when_33 : decode cX8_when 33 = .ok (.getfield 16, 3) := by decide +kernel
theorem dX8_when_36 : decode cX8_when 36 = .ok (.iload_n 1, 1) := by decide +kernel
theorem dX8_when_37 : decode cX8_when 37 = .ok (.iaload, 1) := by decide +kernel
theorem dX8_when_38 : decode cX8_when 38 = .ok (.iaload, 1) := by decide +kernel
theorem dX8_when_39 : decode cX8_when 39 = .ok (.goto 9, 3) := by decide +kernel
theorem dX8_when_42 : decode cX8_when 42 = .ok (.aload_n 0, 1) := by decide +kernel
theorem dX8_when_43 : decode cX8_when 43 = .ok (.getfield 91, 3) := by decide +kernel
theorem dX8_when_46 : decode cX8_when 46 = .ok (.iload_n 1, 1) := by decide +kernel
theorem dX8_when_47 : decode cX8_when 47 = .ok (.iaload, 1) := by decide +kernel
theorem dX8_when_48 : decode cX8_when 48 = .ok (.ireturn, 1) := by decide +kernel
theorem dX8_wasted_0 : decode cX8_wasted 0 = .ok (.iload_n 1, 1) := by decide +kernel
theorem dX8_wasted_1 : decode cX8_wasted 1 = .ok (.iconst (-1), 1) := by decide +kernel
theorem dX8_wasted_2 : decode cX8_wasted 2 = .ok (.if_icmp .eq 19, 3) := by decide +kernel
theorem dX8_wasted_5 : decode cX8_wasted 5 = .ok (.iload_n 1, 1) := by decide +kernel
theorem dX8_wasted_6 : decode cX8_wasted 6 = .ok (.bipush (-2), 2) := by decide +kernel
theorem dX8_wasted_8 : decode cX8_wasted 8 = .ok (.if_icmp .eq 13, 3) := by decide +kernel
theorem dX8_wasted_11 : decode cX8_wasted 11 = .ok (.aload_n 0, 1) := by decide +kernel
theorem dX8_wasted_12 : decode cX8_wasted 12 = .ok (.iload_n 1, 1) := by decide +kernel
theorem dX8_wasted_13 : decode cX8_wasted 13 = .ok (.invokevirtual 167, 3) := by decide +kernel
theorem dX8_wasted_16 : decode cX8_wasted 16 = .ok (.ifCond .ne 5, 3) := by decide +kernel
theorem dX8_wasted_19 : decode cX8_wasted 19 = .ok (.iconst (-1), 1) := by decide +kernel
theorem dX8_wasted_20 : decode cX8_wasted 20 = .ok (.ireturn, 1) := by decide +kernel
theorem dX8_wasted_21 : decode cX8_wasted 21 = .ok (.aload_n 0, 1) := by decide +kernel
theorem dX8_wasted_22 : decode cX8_wasted 22 = .ok (.invokevirtual 235, 3) := by decide +kernel
theorem dX8_wasted_25 : decode cX8_wasted 25 = .ok (.iload_n 1, 1) := by decide +kernel
theorem dX8_wasted_26 : decode cX8_wasted 26 = .ok (.bipush (-2), 2) := by decide +kernel
theorem dX8_wasted_28 : decode cX8_wasted 28 = .ok (.if_icmp .ne 10, 3) := by decide +kernel
theorem dX8_wasted_31 : decode cX8_wasted 31 = .ok (.aload_n 0, 1) := by decide +kernel
theorem dX8_wasted_32 : decode cX8_wasted 32 = .ok (.invokevirtual 240, 3) := by decide +kernel
theorem dX8_wasted_35 : decode cX8_wasted 35 = .ok (.goto 39, 3) := by decide +kernel
theorem dX8_wasted_38 : decode cX8_wasted 38 = .ok (.iload_n 1, 1) := by decide +kernel
theorem dX8_wasted_39 : decode cX8_wasted 39 = .ok (.iconst (-1), 1) := by decide +kernel
theorem dX8_wasted_40 : decode cX8_wasted 40 = .ok (.if_icmp .ne 19, 3) := by decide +kernel
theorem dX8_wasted_43 : decode cX8_wasted 43 = .ok (.aload_n 0, 1) := by decide +kernel
theorem dX8_wasted_44 : decode cX8_wasted 44 = .ok (.invokevirtual 218, 3) := by decide +kernel
theorem dX8_wasted_47 : decode cX8_wasted 47 = .ok (.aload_n 0, 1) := by decide +kernel
theorem dX8_wasted_48 : decode cX8_wasted 48 = .ok (.getfield 43, 3) := by decide +kernel
theorem dX8_wasted_51 : decode cX8_wasted 51 = .ok (.iconst 0, 1) := by decide +kernel
theorem dX8_wasted_52 : decode cX8_wasted 52 = .ok (.iaload, 1) := by decide +kernel
theorem dX8_wasted_53 : decode cX8_wasted 53 = .ok (.invokestatic 221, 3) := by decide +kernel
theorem dX8_wasted_56 : decode cX8_wasted 56 = .ok (.goto 18, 3) := by decide +kernel
theorem dX8_wasted_59 : decode cX8_wasted 59 = .ok (.aload_n 0, 1) := by decide +kernel
theorem dX8_wasted_60 : decode cX8_wasted 60 = .ok (.getfield 91, 3) := by decide +kernel
theorem dX8_wasted_63 : decode cX8_wasted 63 = .ok (.iload_n 1, 1) := by decide +kernel
theorem dX8_wasted_64 : decode cX8_wasted 64 = .ok (.iaload, 1) := by decide +kernel
theorem dX8_wasted_65 : decode cX8_wasted 65 = .ok (.aload_n 0, 1) := by decide +kernel
theorem dX8_wasted_66 : decode cX8_wasted 66 = .ok (.getfield 19, 3) := by decide +kernel
theorem dX8_wasted_69 : decode cX8_wasted 69 = .ok (.iload_n 1, 1) := by decide +kernel
theorem dX8_wasted_70 : decode cX8_wasted 70 = .ok (.iaload, 1) := by decide +kernel
theorem dX8_wasted_71 : decode cX8_wasted 71 = .ok (.invokestatic 221, 3) := by decide +kernel
theorem dX8_wasted_74 : decode cX8_wasted 74 = .ok (.ireturn, 1) := by decide +kernel
theorem dX8_freesOf_0 : decode cX8_freesOf 0 = .ok (.aload_n 0, 1) := by decide +kernel
theorem dX8_freesOf_1 : decode cX8_freesOf 1 = .ok (.invokevirtual 235, 3) := by decide +kernel
theorem dX8_freesOf_4 : decode cX8_freesOf 4 = .ok (.aload_n 0, 1) := by decide +kernel
theorem dX8_freesOf_5 : decode cX8_freesOf 5 = .ok (.invokevirtual 240, 3) := by decide +kernel
theorem dX8_freesOf_8 : decode cX8_freesOf 8 = .ok (.istore_n 3, 1) := by decide +kernel
theorem dX8_freesOf_9 : decode cX8_freesOf 9 = .ok (.aload_n 0, 1) := by decide +kernel
theorem dX8_freesOf_10 : decode cX8_freesOf 10 = .ok (.iload_n 1, 1) := by decide +kernel
theorem dX8_freesOf_11 : decode cX8_freesOf 11 = .ok (.putfield 170, 3) := by decide +kernel
theorem dX8_freesOf_14 : decode cX8_freesOf 14 = .ok (.aload_n 0, 1) := by decide +kernel
theorem dX8_freesOf_15 : decode cX8_freesOf 15 = .ok (.iload_n 2, 1) := by decide +kernel
theorem dX8_freesOf_16 : decode cX8_freesOf 16 = .ok (.putfield 173, 3) := by decide +kernel
theorem dX8_freesOf_19 : decode cX8_freesOf 19 = .ok (.aload_n 0, 1) := by decide +kernel
theorem dX8_freesOf_20 : decode cX8_freesOf 20 = .ok (.invokevirtual 227, 3) := by decide +kernel
theorem dX8_freesOf_23 : decode cX8_freesOf 23 = .ok (.iload_n 3, 1) := by decide +kernel
theorem dX8_freesOf_24 : decode cX8_freesOf 24 = .ok (.aload_n 0, 1) := by decide +kernel
theorem dX8_freesOf_25 : decode cX8_freesOf 25 = .ok (.invokevirtual 240, 3) := by decide +kernel
theorem dX8_freesOf_28 : decode cX8_freesOf 28 = .ok (.isub, 1) := by decide +kernel
theorem dX8_freesOf_29 : decode cX8_freesOf 29 = .ok (.ireturn, 1) := by decide +kernel
theorem dX8_frees_0 : decode cX8_frees 0 = .ok (.aload_n 0, 1) := by decide +kernel
theorem dX8_frees_1 : decode cX8_frees 1 = .ok (.iload_n 1, 1) := by decide +kernel
theorem dX8_frees_2 : decode cX8_frees 2 = .ok (.invokevirtual 167, 3) := by decide +kernel
theorem dX8_frees_5 : decode cX8_frees 5 = .ok (.ifCond .eq 22, 3) := by decide +kernel
theorem dX8_frees_8 : decode cX8_frees 8 = .ok (.iload_n 2, 1) := by decide +kernel
theorem dX8_frees_9 : decode cX8_frees 9 = .ok (.invokestatic 138, 3) := by decide +kernel
theorem dX8_frees_12 : decode cX8_frees 12 = .ok (.ifCond .eq 15, 3) := by decide +kernel
theorem dX8_frees_15 : decode cX8_frees 15 = .ok (.ldc 243, 2) := by decide +kernel
theorem dX8_frees_17 : decode cX8_frees 17 = .ok (.aload_n 0, 1) := by decide +kernel
theorem dX8_frees_18 : decode cX8_frees 18 = .ok (.iload_n 1, 1) := by decide +kernel
theorem dX8_frees_19 : decode cX8_frees 19 = .ok (.iload_n 2, 1) := by decide +kernel
theorem dX8_frees_20 : decode cX8_frees 20 = .ok (.invokevirtual 244, 3) := by decide +kernel
theorem dX8_frees_23 : decode cX8_frees 23 = .ok (.iadd, 1) := by decide +kernel
theorem dX8_frees_24 : decode cX8_frees 24 = .ok (.goto 4, 3) := by decide +kernel
theorem dX8_frees_27 : decode cX8_frees 27 = .ok (.iconst (-1), 1) := by decide +kernel
theorem dX8_frees_28 : decode cX8_frees 28 = .ok (.ireturn, 1) := by decide +kernel
theorem dX8_madeUp_0 : decode cX8_madeUp 0 = .ok (.aload_n 0, 1) := by decide +kernel
theorem dX8_madeUp_1 : decode cX8_madeUp 1 = .ok (.iload_n 1, 1) := by decide +kernel
theorem dX8_madeUp_2 : decode cX8_madeUp 2 = .ok (.invokevirtual 167, 3) := by decide +kernel
theorem dX8_madeUp_5 : decode cX8_madeUp 5 = .ok (.ifCond .eq 13, 3) := by decide +kernel
theorem dX8_madeUp_8 : decode cX8_madeUp 8 = .ok (.iload_n 2, 1) := by decide +kernel
theorem dX8_madeUp_9 : decode cX8_madeUp 9 = .ok (.i2l, 1) := by decide +kernel
theorem dX8_madeUp_10 : decode cX8_madeUp 10 = .ok (.lconst 0, 1) := by decide +kernel
theorem dX8_madeUp_11 : decode cX8_madeUp 11 = .ok (.lconst 1, 1) := by decide +kernel
theorem dX8_madeUp_12 : decode cX8_madeUp 12 = .ok (.invokestatic 109, 3) := by decide +kernel
theorem dX8_madeUp_15 : decode cX8_madeUp 15 = .ok (.ifCond .ne 5, 3) := by decide +kernel
theorem dX8_madeUp_18 : decode cX8_madeUp 18 = .ok (.iconst (-1), 1) := by decide +kernel
theorem dX8_madeUp_19 : decode cX8_madeUp 19 = .ok (.ireturn, 1) := by decide +kernel
theorem dX8_madeUp_20 : decode cX8_madeUp 20 = .ok (.bipush (-4), 2) := by decide +kernel
theorem dX8_madeUp_22 : decode cX8_madeUp 22 = .ok (.istore_n 3, 1) := by decide +kernel
theorem dX8_madeUp_23 : decode cX8_madeUp 23 = .ok (.iconst 0, 1) := by decide +kernel
theorem dX8_madeUp_24 : decode cX8_madeUp 24 = .ok (.istore 4, 2) := by decide +kernel
theorem dX8_madeUp_26 : decode cX8_madeUp 26 = .ok (.iconst 0, 1) := by decide +kernel
theorem dX8_madeUp_27 : decode cX8_madeUp 27 = .ok (.istore 5, 2) := by decide +kernel
theorem dX8_madeUp_29 : decode cX8_madeUp 29 = .ok (.iload 5, 2) := by decide +kernel
theorem dX8_madeUp_31 : decode cX8_madeUp 31 = .ok (.sipush 350, 3) := by decide +kernel
theorem dX8_madeUp_34 : decode cX8_madeUp 34 = .ok (.if_icmp .gt 48, 3) := by decide +kernel
theorem dX8_madeUp_37 : decode cX8_madeUp 37 = .ok (.aload_n 0, 1) := by decide +kernel
theorem dX8_madeUp_38 : decode cX8_madeUp 38 = .ok (.iload_n 1, 1) := by decide +kernel
theorem dX8_madeUp_39 : decode cX8_madeUp 39 = .ok (.iload 5, 2) := by decide +kernel
theorem dX8_madeUp_41 : decode cX8_madeUp 41 = .ok (.invokevirtual 244, 3) := by decide +kernel
theorem dX8_madeUp_44 : decode cX8_madeUp 44 = .ok (.istore 6, 2) := by decide +kernel
theorem dX8_madeUp_46 : decode cX8_madeUp 46 = .ok (.iload 6, 2) := by decide +kernel
theorem dX8_madeUp_48 : decode cX8_madeUp 48 = .ok (.iload 4, 2) := by decide +kernel
theorem dX8_madeUp_50 : decode cX8_madeUp 50 = .ok (.if_icmp .le 8, 3) := by decide +kernel
theorem dX8_madeUp_53 : decode cX8_madeUp 53 = .ok (.iload 5, 2) := by decide +kernel
theorem dX8_madeUp_55 : decode cX8_madeUp 55 = .ok (.goto 4, 3) := by decide +kernel
theorem dX8_madeUp_58 : decode cX8_madeUp 58 = .ok (.iload_n 3, 1) := by decide +kernel
theorem dX8_madeUp_59 : decode cX8_madeUp 59 = .ok (.istore_n 3, 1) := by decide +kernel
theorem dX8_madeUp_60 : decode cX8_madeUp 60 = .ok (.iload 6, 2) := by decide +kernel
theorem dX8_madeUp_62 : decode cX8_madeUp 62 = .ok (.iload 4, 2) := by decide +kernel
theorem dX8_madeUp_64 : decode cX8_madeUp 64 = .ok (.if_icmp .le 8, 3) := by decide +kernel
theorem dX8_madeUp_67 : decode cX8_madeUp 67 = .ok (.iload 6, 2) := by decide +kernel
theorem dX8_madeUp_69 : decode cX8_madeUp 69 = .ok (.goto 5, 3) := by decide +kernel
theorem dX8_madeUp_72 : decode cX8_madeUp 72 = .ok (.iload 4, 2) := by decide +kernel
theorem dX8_madeUp_74 : decode cX8_madeUp 74 = .ok (.istore 4, 2) := by decide +kernel
theorem dX8_madeUp_76 : decode cX8_madeUp 76 = .ok (.iinc 5 10, 3) := by decide +kernel
theorem dX8_madeUp_79 : decode cX8_madeUp 79 = .ok (.goto (-50), 3) := by decide +kernel
theorem dX8_madeUp_82 : decode cX8_madeUp 82 = .ok (.iload_n 3, 1) := by decide +kernel
theorem dX8_madeUp_83 : decode cX8_madeUp 83 = .ok (.ifCond .ge 8, 3) := by decide +kernel
theorem dX8_madeUp_86 : decode cX8_madeUp 86 = .ok (.bipush (-4), 2) := by decide +kernel
theorem dX8_madeUp_88 : decode cX8_madeUp 88 = .ok (.goto 16, 3) := by decide +kernel
theorem dX8_madeUp_91 : decode cX8_madeUp 91 = .ok (.iload_n 2, 1) := by decide +kernel
theorem dX8_madeUp_92 : decode cX8_madeUp 92 = .ok (.ifCond .ne 7, 3) := by decide +kernel
theorem dX8_madeUp_95 : decode cX8_madeUp 95 = .ok (.iload_n 3, 1) := by decide +kernel
theorem dX8_madeUp_96 : decode cX8_madeUp 96 = .ok (.goto 8, 3) := by decide +kernel
theorem dX8_madeUp_99 : decode cX8_madeUp 99 = .ok (.ldc 243, 2) := by decide +kernel
theorem dX8_madeUp_101 : decode cX8_madeUp 101 = .ok (.iload 4, 2) := by decide +kernel
theorem dX8_madeUp_103 : decode cX8_madeUp 103 = .ok (.iadd, 1) := by decide +kernel
theorem dX8_madeUp_104 : decode cX8_madeUp 104 = .ok (.ireturn, 1) := by decide +kernel
theorem dX8_bellOf_0 : decode cX8_bellOf 0 = .ok (.aload_n 0, 1) := by decide +kernel
theorem dX8_bellOf_1 : decode cX8_bellOf 1 = .ok (.invokevirtual 224, 3) := by decide +kernel
theorem dX8_bellOf_4 : decode cX8_bellOf 4 = .ok (.aload_n 0, 1) := by decide +kernel
theorem dX8_bellOf_5 : decode cX8_bellOf 5 = .ok (.iload_n 1, 1) := by decide +kernel
theorem dX8_bellOf_6 : decode cX8_bellOf 6 = .ok (.putfield 176, 3) := by decide +kernel
theorem dX8_bellOf_9 : decode cX8_bellOf 9 = .ok (.aload_n 0, 1) := by decide +kernel
theorem dX8_bellOf_10 : decode cX8_bellOf 10 = .ok (.invokevirtual 227, 3) := by decide +kernel
theorem dX8_bellOf_13 : decode cX8_bellOf 13 = .ok (.aload_n 0, 1) := by decide +kernel
theorem dX8_bellOf_14 : decode cX8_bellOf 14 = .ok (.invokevirtual 240, 3) := by decide +kernel
theorem dX8_bellOf_17 : decode cX8_bellOf 17 = .ok (.ireturn, 1) := by decide +kernel
theorem dX8_bell_0 : decode cX8_bell 0 = .ok (.iload_n 1, 1) := by decide +kernel
theorem dX8_bell_1 : decode cX8_bell 1 = .ok (.invokestatic 232, 3) := by decide +kernel
theorem dX8_bell_4 : decode cX8_bell 4 = .ok (.ifCond .eq 11, 3) := by decide +kernel
theorem dX8_bell_7 : decode cX8_bell 7 = .ok (.aload_n 0, 1) := by decide +kernel
theorem dX8_bell_8 : decode cX8_bell 8 = .ok (.iload_n 1, 1) := by decide +kernel
theorem dX8_bell_9 : decode cX8_bell 9 = .ok (.invokevirtual 247, 3) := by decide +kernel
theorem dX8_bell_12 : decode cX8_bell 12 = .ok (.goto 4, 3) := by decide +kernel
theorem dX8_bell_15 : decode cX8_bell 15 = .ok (.iconst (-1), 1) := by decide +kernel
theorem dX8_bell_16 : decode cX8_bell 16 = .ok (.ireturn, 1) := by decide +kernel
theorem dX8_best_0 : decode cX8_best 0 = .ok (.iload_n 1, 1) := by decide +kernel
theorem dX8_best_1 : decode cX8_best 1 = .ok (.i2l, 1) := by decide +kernel
theorem dX8_best_2 : decode cX8_best 2 = .ok (.lconst 0, 1) := by decide +kernel
theorem dX8_best_3 : decode cX8_best 3 = .ok (.lconst 1, 1) := by decide +kernel
theorem dX8_best_4 : decode cX8_best 4 = .ok (.invokestatic 109, 3) := by decide +kernel
theorem dX8_best_7 : decode cX8_best 7 = .ok (.ifCond .ne 5, 3) := by decide +kernel
theorem dX8_best_10 : decode cX8_best 10 = .ok (.iconst (-1), 1) := by decide +kernel
theorem dX8_best_11 : decode cX8_best 11 = .ok (.ireturn, 1) := by decide +kernel
theorem dX8_best_12 : decode cX8_best 12 = .ok (.iconst 0, 1) := by decide +kernel
theorem dX8_best_13 : decode cX8_best 13 = .ok (.istore_n 2, 1) := by decide +kernel
theorem dX8_best_14 : decode cX8_best 14 = .ok (.aload_n 0, 1) := by decide +kernel
theorem dX8_best_15 : decode cX8_best 15 = .ok (.iconst 0, 1) := by decide +kernel
theorem dX8_best_16 : decode cX8_best 16 = .ok (.invokevirtual 247, 3) := by decide +kernel
theorem dX8_best_19 : decode cX8_best 19 = .ok (.istore_n 3, 1) := by decide +kernel
theorem dX8_best_20 : decode cX8_best 20 = .ok (.bipush 10, 2) := by decide +kernel
theorem dX8_best_22 : decode cX8_best 22 = .ok (.istore 4, 2) := by decide +kernel
theorem dX8_best_24 : decode cX8_best 24 = .ok (.iload 4, 2) := by decide +kernel
theorem dX8_best_26 : decode cX8_best 26 = .ok (.sipush 350, 3) := by decide +kernel
theorem dX8_best_29 : decode cX8_best 29 = .ok (.if_icmp .gt 43, 3) := by decide +kernel
theorem dX8_best_32 : decode cX8_best 32 = .ok (.aload_n 0, 1) := by decide +kernel
theorem dX8_best_33 : decode cX8_best 33 = .ok (.iload 4, 2) := by decide +kernel
theorem dX8_best_35 : decode cX8_best 35 = .ok (.invokevirtual 247, 3) := by decide +kernel
theorem dX8_best_38 : decode cX8_best 38 = .ok (.istore 5, 2) := by decide +kernel
theorem dX8_best_40 : decode cX8_best 40 = .ok (.iload 5, 2) := by decide +kernel
theorem dX8_best_42 : decode cX8_best 42 = .ok (.iload_n 3, 1) := by decide +kernel
theorem dX8_best_43 : decode cX8_best 43 = .ok (.if_icmp .ge 8, 3) := by decide +kernel
theorem dX8_best_46 : decode cX8_best 46 = .ok (.iload 4, 2) := by decide +kernel
theorem dX8_best_48 : decode cX8_best 48 = .ok (.goto 4, 3) := by decide +kernel
theorem dX8_best_51 : decode cX8_best 51 = .ok (.iload_n 2, 1) := by decide +kernel
theorem dX8_best_52 : decode cX8_best 52 = .ok (.istore_n 2, 1) := by decide +kernel
theorem dX8_best_53 : decode cX8_best 53 = .ok (.iload 5, 2) := by decide +kernel
theorem dX8_best_55 : decode cX8_best 55 = .ok (.iload_n 3, 1) := by decide +kernel
theorem dX8_best_56 : decode cX8_best 56 = .ok (.if_icmp .ge 8, 3) := by decide +kernel
theorem dX8_best_59 : decode cX8_best 59 = .ok (.iload 5, 2) := by decide +kernel
theorem dX8_best_61 : decode cX8_best 61 = .ok (.goto 4, 3) := by decide +kernel
theorem dX8_best_64 : decode cX8_best 64 = .ok (.iload_n 3, 1) := by decide +kernel
theorem dX8_best_65 : decode cX8_best 65 = .ok (.istore_n 3, 1) := by decide +kernel
theorem dX8_best_66 : decode cX8_best 66 = .ok (.iinc 4 10, 3) := by decide +kernel
theorem dX8_best_69 : decode cX8_best 69 = .ok (.goto (-45), 3) := by decide +kernel
theorem dX8_best_72 : decode cX8_best 72 = .ok (.iload_n 1, 1) := by decide +kernel
theorem dX8_best_73 : decode cX8_best 73 = .ok (.ifCond .ne 7, 3) := by decide +kernel
theorem dX8_best_76 : decode cX8_best 76 = .ok (.iload_n 2, 1) := by decide +kernel
theorem dX8_best_77 : decode cX8_best 77 = .ok (.goto 4, 3) := by decide +kernel
theorem dX8_best_80 : decode cX8_best 80 = .ok (.iload_n 3, 1) := by decide +kernel
theorem dX8_best_81 : decode cX8_best 81 = .ok (.ireturn, 1) := by decide +kernel
theorem dX8_givenBy_0 : decode cX8_givenBy 0 = .ok (.aload_n 0, 1) := by decide +kernel
theorem dX8_givenBy_1 : decode cX8_givenBy 1 = .ok (.invokevirtual 224, 3) := by decide +kernel
theorem dX8_givenBy_4 : decode cX8_givenBy 4 = .ok (.iload_n 1, 1) := by decide +kernel
theorem dX8_givenBy_5 : decode cX8_givenBy 5 = .ok (.istore_n 2, 1) := by decide +kernel
theorem dX8_givenBy_6 : decode cX8_givenBy 6 = .ok (.iconst 0, 1) := by decide +kernel
theorem dX8_givenBy_7 : decode cX8_givenBy 7 = .ok (.istore_n 3, 1) := by decide +kernel
theorem dX8_givenBy_8 : decode cX8_givenBy 8 = .ok (.aload_n 0, 1) := by decide +kernel
theorem dX8_givenBy_9 : decode cX8_givenBy 9 = .ok (.getfield 28, 3) := by decide +kernel
theorem dX8_givenBy_12 : decode cX8_givenBy 12 = .ok (.iconst 0, 1) := by decide +kernel
theorem dX8_givenBy_13 : decode cX8_givenBy 13 = .ok (.iaload, 1) := by decide +kernel
theorem dX8_givenBy_14 : decode cX8_givenBy 14 = .ok (.iconst 1, 1) := by decide +kernel
theorem dX8_givenBy_15 : decode cX8_givenBy 15 = .ok (.isub, 1) := by decide +kernel
theorem dX8_givenBy_16 : decode cX8_givenBy 16 = .ok (.istore 4, 2) := by decide +kernel
theorem dX8_givenBy_18 : decode cX8_givenBy 18 = .ok (.iload 4, 2) := by decide +kernel
theorem dX8_givenBy_20 : decode cX8_givenBy 20 = .ok (.ifCond .lt 63, 3) := by decide +kernel
theorem dX8_givenBy_23 : decode cX8_givenBy 23 = .ok (.aload_n 0, 1) := by decide +kernel
theorem dX8_givenBy_24 : decode cX8_givenBy 24 = .ok (.getfield 85, 3) := by decide +kernel
theorem dX8_givenBy_27 : decode cX8_givenBy 27 = .ok (.iload 4, 2) := by decide +kernel
theorem dX8_givenBy_29 : decode cX8_givenBy 29 = .ok (.iload_n 2, 1) := by decide +kernel
theorem dX8_givenBy_30 : decode cX8_givenBy 30 = .ok (.bipush 13, 2) := by decide +kernel
theorem dX8_givenBy_32 : decode cX8_givenBy 32 = .ok (.irem, 1) := by decide +kernel
theorem dX8_givenBy_33 : decode cX8_givenBy 33 = .ok (.ifCond .ne 8, 3) := by decide +kernel
theorem dX8_givenBy_36 : decode cX8_givenBy 36 = .ok (.bipush (-4), 2) := by decide +kernel
theorem dX8_givenBy_38 : decode cX8_givenBy 38 = .ok (.goto 12, 3) := by decide +kernel
theorem dX8_givenBy_41 : decode cX8_givenBy 41 = .ok (.bipush 30, 2) := by decide +kernel
theorem dX8_givenBy_43 : decode cX8_givenBy 43 = .ok (.iload_n 2, 1) := by decide +kernel
theorem dX8_givenBy_44 : decode cX8_givenBy 44 = .ok (.bipush 13, 2) := by decide +kernel
theorem dX8_givenBy_46 : decode cX8_givenBy 46 = .ok (.irem, 1) := by decide +kernel
theorem dX8_givenBy_47 : decode cX8_givenBy 47 = .ok (.iconst 1, 1) := by decide +kernel
theorem dX8_givenBy_48 : decode cX8_givenBy 48 = .ok (.isub, 1) := by decide +kernel
theorem dX8_givenBy_49 : decode cX8_givenBy 49 = .ok (.imul, 1) := by decide +kernel
theorem dX8_givenBy_50 : decode cX8_givenBy 50 = .ok (.iastore, 1) := by decide +kernel
theorem dX8_givenBy_51 : decode cX8_givenBy 51 = .ok (.iload_n 3, 1) := by decide +kernel
theorem dX8_givenBy_52 : decode cX8_givenBy 52 = .ok (.iload_n 2, 1) := by decide +kernel
theorem dX8_givenBy_53 : decode cX8_givenBy 53 = .ok (.bipush 13, 2) := by decide +kernel
theorem dX8_givenBy_55 : decode cX8_givenBy 55 = .ok (.irem, 1) := by decide +kernel
theorem dX8_givenBy_56 : decode cX8_givenBy 56 = .ok (.ifCond .ne 7, 3) := by decide +kernel
theorem dX8_givenBy_59 : decode cX8_givenBy 59 = .ok (.iconst 0, 1) := by decide +kernel
theorem dX8_givenBy_60 : decode cX8_givenBy 60 = .ok (.goto 10, 3) := by decide +kernel
theorem dX8_givenBy_63 : decode cX8_givenBy 63 = .ok (.aload_n 0, 1) := by decide +kernel
theorem dX8_givenBy_64 : decode cX8_givenBy 64 = .ok (.getfield 34, 3) := by decide +kernel
theorem dX8_givenBy_67 : decode cX8_givenBy 67 = .ok (.iload 4, 2) := by decide +kernel
theorem dX8_givenBy_69 : decode cX8_givenBy 69 = .ok (.iaload, 1) := by decide +kernel
theorem dX8_givenBy_70 : decode cX8_givenBy 70 = .ok (.iadd, 1) := by decide +kernel
theorem dX8_givenBy_71 : decode cX8_givenBy 71 = .ok (.istore_n 3, 1) := by decide +kernel
theorem dX8_givenBy_72 : decode cX8_givenBy 72 = .ok (.iload_n 2, 1) := by decide +kernel
theorem dX8_givenBy_73 : decode cX8_givenBy 73 = .ok (.bipush 13, 2) := by decide +kernel
theorem dX8_givenBy_75 : decode cX8_givenBy 75 = .ok (.idiv, 1) := by decide +kernel
theorem dX8_givenBy_76 : decode cX8_givenBy 76 = .ok (.istore_n 2, 1) := by decide +kernel
theorem dX8_givenBy_77 : decode cX8_givenBy 77 = .ok (.iinc 4 (-1), 3) := by decide +kernel
theorem dX8_givenBy_80 : decode cX8_givenBy 80 = .ok (.goto (-62), 3) := by decide +kernel
theorem dX8_givenBy_83 : decode cX8_givenBy 83 = .ok (.aload_n 0, 1) := by decide +kernel
theorem dX8_givenBy_84 : decode cX8_givenBy 84 = .ok (.invokevirtual 227, 3) := by decide +kernel
theorem dX8_givenBy_87 : decode cX8_givenBy 87 = .ok (.iload_n 3, 1) := by decide +kernel
theorem dX8_givenBy_88 : decode cX8_givenBy 88 = .ok (.aload_n 0, 1) := by decide +kernel
theorem dX8_givenBy_89 : decode cX8_givenBy 89 = .ok (.invokevirtual 240, 3) := by decide +kernel
theorem dX8_givenBy_92 : decode cX8_givenBy 92 = .ok (.iadd, 1) := by decide +kernel
theorem dX8_givenBy_93 : decode cX8_givenBy 93 = .ok (.ireturn, 1) := by decide +kernel
theorem dX8_given_0 : decode cX8_given 0 = .ok (.iload_n 1, 1) := by decide +kernel
theorem dX8_given_1 : decode cX8_given 1 = .ok (.i2l, 1) := by decide +kernel
theorem dX8_given_2 : decode cX8_given 2 = .ok (.ldc2_w 250, 3) := by decide +kernel
theorem dX8_given_5 : decode cX8_given 5 = .ok (.aload_n 0, 1) := by decide +kernel
theorem dX8_given_6 : decode cX8_given 6 = .ok (.getfield 28, 3) := by decide +kernel
theorem dX8_given_9 : decode cX8_given 9 = .ok (.iconst 0, 1) := by decide +kernel
theorem dX8_given_10 : decode cX8_given 10 = .ok (.iaload, 1) := by decide +kernel
theorem dX8_given_11 : decode cX8_given 11 = .ok (.iconst 1, 1) := by decide +kernel
theorem dX8_given_12 : decode cX8_given 12 = .ok (.isub, 1) := by decide +kernel
theorem dX8_given_13 : decode cX8_given 13 = .ok (.i2l, 1) := by decide +kernel
theorem dX8_given_14 : decode cX8_given 14 = .ok (.invokestatic 109, 3) := by decide +kernel
theorem dX8_given_17 : decode cX8_given 17 = .ok (.ifCond .ne 5, 3) := by decide +kernel
theorem dX8_given_20 : decode cX8_given 20 = .ok (.iconst (-1), 1) := by decide +kernel
theorem dX8_given_21 : decode cX8_given 21 = .ok (.ireturn, 1) := by decide +kernel
theorem dX8_given_22 : decode cX8_given 22 = .ok (.aload_n 0, 1) := by decide +kernel
theorem dX8_given_23 : decode cX8_given 23 = .ok (.getfield 28, 3) := by decide +kernel
theorem dX8_given_26 : decode cX8_given 26 = .ok (.iconst 0, 1) := by decide +kernel
theorem dX8_given_27 : decode cX8_given 27 = .ok (.iaload, 1) := by decide +kernel
theorem dX8_given_28 : decode cX8_given 28 = .ok (.ifCond .ne 7, 3) := by decide +kernel
theorem dX8_given_31 : decode cX8_given 31 = .ok (.iconst 1, 1) := by decide +kernel
theorem dX8_given_32 : decode cX8_given 32 = .ok (.goto 37, 3) := by decide +kernel
theorem dX8_given_35 : decode cX8_given 35 = .ok (.aload_n 0, 1) := by decide +kernel
theorem dX8_given_36 : decode cX8_given 36 = .ok (.getfield 28, 3) := by decide +kernel
theorem dX8_given_39 : decode cX8_given 39 = .ok (.iconst 0, 1) := by decide +kernel
theorem dX8_given_40 : decode cX8_given 40 = .ok (.iaload, 1) := by decide +kernel
theorem dX8_given_41 : decode cX8_given 41 = .ok (.iconst 1, 1) := by decide +kernel
theorem dX8_given_42 : decode cX8_given 42 = .ok (.if_icmp .ne 8, 3) := by decide +kernel
theorem dX8_given_45 : decode cX8_given 45 = .ok (.bipush 13, 2) := by decide +kernel
theorem dX8_given_47 : decode cX8_given 47 = .ok (.goto 22, 3) := by decide +kernel
theorem dX8_given_50 : decode cX8_given 50 = .ok (.aload_n 0, 1) := by decide +kernel
theorem dX8_given_51 : decode cX8_given 51 = .ok (.getfield 28, 3) := by decide +kernel
theorem dX8_given_54 : decode cX8_given 54 = .ok (.iconst 0, 1) := by decide +kernel
theorem dX8_given_55 : decode cX8_given 55 = .ok (.iaload, 1) := by decide +kernel
theorem dX8_given_56 : decode cX8_given 56 = .ok (.iconst 2, 1) := by decide +kernel
theorem dX8_given_57 : decode cX8_given 57 = .ok (.if_icmp .ne 9, 3) := by decide +kernel
theorem dX8_given_60 : decode cX8_given 60 = .ok (.sipush 169, 3) := by decide +kernel
theorem dX8_given_63 : decode cX8_given 63 = .ok (.goto 6, 3) := by decide +kernel
theorem dX8_given_66 : decode cX8_given 66 = .ok (.sipush 2197, 3) := by decide +kernel
theorem dX8_given_69 : decode cX8_given 69 = .ok (.istore_n 2, 1) := by decide +kernel
theorem dX8_given_70 : decode cX8_given 70 = .ok (.iconst 0, 1) := by decide +kernel
theorem dX8_given_71 : decode cX8_given 71 = .ok (.istore_n 3, 1) := by decide +kernel
theorem dX8_given_72 : decode cX8_given 72 = .ok (.aload_n 0, 1) := by decide +kernel
theorem dX8_given_73 : decode cX8_given 73 = .ok (.iconst 0, 1) := by decide +kernel
theorem dX8_given_74 : decode cX8_given 74 = .ok (.invokevirtual 252, 3) := by decide +kernel
theorem dX8_given_77 : decode cX8_given 77 = .ok (.istore 4, 2) := by decide +kernel
theorem dX8_given_79 : decode cX8_given 79 = .ok (.iconst 1, 1) := by decide +kernel
theorem dX8_given_80 : decode cX8_given 80 = .ok (.istore 5, 2) := by decide +kernel
theorem dX8_given_82 : decode cX8_given 82 = .ok (.iload 5, 2) := by decide +kernel
theorem dX8_given_84 : decode cX8_given 84 = .ok (.iload_n 2, 1) := by decide +kernel
theorem dX8_given_85 : decode cX8_given 85 = .ok (.if_icmp .ge 47, 3) := by decide +kernel
theorem dX8_given_88 : decode cX8_given 88 = .ok (.aload_n 0, 1) := by decide +kernel
theorem dX8_given_89 : decode cX8_given 89 = .ok (.iload 5, 2) := by decide +kernel
theorem dX8_given_91 : decode cX8_given 91 = .ok (.invokevirtual 252, 3) := by decide +kernel
theorem dX8_given_94 : decode cX8_given 94 = .ok (.istore 6, 2) := by decide +kernel
theorem dX8_given_96 : decode cX8_given 96 = .ok (.iload 6, 2) := by decide +kernel
theorem dX8_given_98 : decode cX8_given 98 = .ok (.iload 4, 2) := by decide +kernel
theorem dX8_given_100 : decode cX8_given 100 = .ok (.if_icmp .ge 8, 3) := by decide +kernel
theorem dX8_given_103 : decode cX8_given 103 = .ok (.iload 5, 2) := by decide +kernel
theorem dX8_given_105 : decode cX8_given 105 = .ok (.goto 4, 3) := by decide +kernel
theorem dX8_given_108 : decode cX8_given 108 = .ok (.iload_n 3, 1) := by decide +kernel
theorem dX8_given_109 : decode cX8_given 109 = .ok (.istore_n 3, 1) := by decide +kernel
theorem dX8_given_110 : decode cX8_given 110 = .ok (.iload 6, 2) := by decide +kernel
theorem dX8_given_112 : decode cX8_given 112 = .ok (.iload 4, 2) := by decide +kernel
theorem dX8_given_114 : decode cX8_given 114 = .ok (.if_icmp .ge 8, 3) := by decide +kernel
theorem dX8_given_117 : decode cX8_given 117 = .ok (.iload 6, 2) := by decide +kernel
theorem dX8_given_119 : decode cX8_given 119 = .ok (.goto 5, 3) := by decide +kernel
theorem dX8_given_122 : decode cX8_given 122 = .ok (.iload 4, 2) := by decide +kernel
theorem dX8_given_124 : decode cX8_given 124 = .ok (.istore 4, 2) := by decide +kernel
theorem dX8_given_126 : decode cX8_given 126 = .ok (.iinc 5 1, 3) := by decide +kernel
theorem dX8_given_129 : decode cX8_given 129 = .ok (.goto (-47), 3) := by decide +kernel
theorem dX8_given_132 : decode cX8_given 132 = .ok (.aload_n 0, 1) := by decide +kernel
theorem dX8_given_133 : decode cX8_given 133 = .ok (.iload_n 3, 1) := by decide +kernel
theorem dX8_given_134 : decode cX8_given 134 = .ok (.invokevirtual 252, 3) := by decide +kernel
theorem dX8_given_137 : decode cX8_given 137 = .ok (.pop, 1) := by decide +kernel
theorem dX8_given_138 : decode cX8_given 138 = .ok (.iload_n 1, 1) := by decide +kernel
theorem dX8_given_139 : decode cX8_given 139 = .ok (.ifCond .ge 8, 3) := by decide +kernel
theorem dX8_given_142 : decode cX8_given 142 = .ok (.iload 4, 2) := by decide +kernel
theorem dX8_given_144 : decode cX8_given 144 = .ok (.goto 9, 3) := by decide +kernel
theorem dX8_given_147 : decode cX8_given 147 = .ok (.aload_n 0, 1) := by decide +kernel
theorem dX8_given_148 : decode cX8_given 148 = .ok (.getfield 85, 3) := by decide +kernel
theorem dX8_given_151 : decode cX8_given 151 = .ok (.iload_n 1, 1) := by decide +kernel
theorem dX8_given_152 : decode cX8_given 152 = .ok (.iaload, 1) := by decide +kernel
theorem dX8_given_153 : decode cX8_given 153 = .ok (.ireturn, 1) := by decide +kernel
theorem dX8_layGame_0 : decode cX8_layGame 0 = .ok (.aload_n 0, 1) := by decide +kernel
theorem dX8_layGame_1 : decode cX8_layGame 1 = .ok (.iconst 0, 1) := by decide +kernel
theorem dX8_layGame_2 : decode cX8_layGame 2 = .ok (.putfield 255, 3) := by decide +kernel
theorem dX8_layGame_5 : decode cX8_layGame 5 = .ok (.iconst 0, 1) := by decide +kernel
theorem dX8_layGame_6 : decode cX8_layGame 6 = .ok (.istore_n 1, 1) := by decide +kernel
theorem dX8_layGame_7 : decode cX8_layGame 7 = .ok (.iload_n 1, 1) := by decide +kernel
theorem dX8_layGame_8 : decode cX8_layGame 8 = .ok (.iconst 4, 1) := by decide +kernel
theorem dX8_layGame_9 : decode cX8_layGame 9 = .ok (.if_icmp .ge 137, 3) := by decide +kernel
theorem dX8_layGame_12 : decode cX8_layGame 12 = .ok (.bipush (-4), 2) := by decide +kernel
theorem dX8_layGame_14 : decode cX8_layGame 14 = .ok (.istore_n 2, 1) := by decide +kernel
theorem dX8_layGame_15 : decode cX8_layGame 15 = .ok (.bipush (-4), 2) := by decide +kernel
theorem dX8_layGame_17 : decode cX8_layGame 17 = .ok (.istore_n 3, 1) := by decide +kernel
theorem dX8_layGame_18 : decode cX8_layGame 18 = .ok (.iconst 0, 1) := by decide +kernel
theorem dX8_layGame_19 : decode cX8_layGame 19 = .ok (.istore 4, 2) := by decide +kernel
theorem dX8_layGame_21 : decode cX8_layGame 21 = .ok (.iload 4, 2) := by decide +kernel
theorem dX8_layGame_23 : decode cX8_layGame 23 = .ok (.aload_n 0, 1) := by decide +kernel
theorem dX8_layGame_24 : decode cX8_layGame 24 = .ok (.getfield 13, 3) := by decide +kernel
theorem dX8_layGame_27 : decode cX8_layGame 27 = .ok (.iconst 0, 1) := by decide +kernel
theorem dX8_layGame_28 : decode cX8_layGame 28 = .ok (.iaload, 1) := by decide +kernel
theorem dX8_layGame_29 : decode cX8_layGame 29 = .ok (.if_icmp .ge 77, 3) := by decide +kernel
theorem dX8_layGame_32 : decode cX8_layGame 32 = .ok (.aload_n 0, 1) := by decide +kernel
theorem dX8_layGame_33 : decode cX8_layGame 33 = .ok (.getfield 16, 3) := by decide +kernel
theorem dX8_layGame_36 : decode cX8_layGame 36 = .ok (.iload 4, 2) := by decide +kernel
theorem dX8_layGame_38 : decode cX8_layGame 38 = .ok (.iaload, 1) := by decide +kernel
theorem dX8_layGame_39 : decode cX8_layGame 39 = .ok (.iload_n 1, 1) := by decide +kernel
theorem dX8_layGame_40 : decode cX8_layGame 40 = .ok (.if_icmp .ne 24, 3) := by decide +kernel
theorem dX8_layGame_43 : decode cX8_layGame 43 = .ok (.aload_n 0, 1) := by decide +kernel
theorem dX8_layGame_44 : decode cX8_layGame 44 = .ok (.getfield 19, 3) := by decide +kernel
theorem dX8_layGame_47 : decode cX8_layGame 47 = .ok (.iload 4, 2) := by decide +kernel
theorem dX8_layGame_49 : decode cX8_layGame 49 = .ok (.iaload, 1) := by decide +kernel
theorem dX8_layGame_50 : decode cX8_layGame 50 = .ok (.iload_n 2, 1) := by decide +kernel
theorem dX8_layGame_51 : decode cX8_layGame 51 = .ok (.if_icmp .le 13, 3) := by decide +kernel
theorem dX8_layGame_54 : decode cX8_layGame 54 = .ok (.aload_n 0, 1) := by decide +kernel
theorem dX8_layGame_55 : decode cX8_layGame 55 = .ok (.getfield 19, 3) := by decide +kernel
theorem dX8_layGame_58 : decode cX8_layGame 58 = .ok (.iload 4, 2) := by decide +kernel
theorem dX8_layGame_60 : decode cX8_layGame 60 = .ok (.iaload, 1) := by decide +kernel
theorem dX8_layGame_61 : decode cX8_layGame 61 = .ok (.goto 4, 3) := by decide +kernel
theorem dX8_layGame_64 : decode cX8_layGame 64 = .ok (.iload_n 2, 1) := by decide +kernel
theorem dX8_layGame_65 : decode cX8_layGame 65 = .ok (.istore_n 2, 1) := by decide +kernel
theorem dX8_layGame_66 : decode cX8_layGame 66 = .ok (.aload_n 0, 1) := by decide +kernel
theorem dX8_layGame_67 : decode cX8_layGame 67 = .ok (.getfield 16, 3) := by decide +kernel
theorem dX8_layGame_70 : decode cX8_layGame 70 = .ok (.iload 4, 2) := by decide +kernel
theorem dX8_layGame_72 : decode cX8_layGame 72 = .ok (.iaload, 1) := by decide +kernel
theorem dX8_layGame_73 : decode cX8_layGame 73 = .ok (.iload_n 1, 1) := by decide +kernel
theorem dX8_layGame_74 : decode cX8_layGame 74 = .ok (.if_icmp .ne 24, 3) := by decide +kernel
theorem dX8_layGame_77 : decode cX8_layGame 77 = .ok (.aload_n 0, 1) := by decide +kernel
theorem dX8_layGame_78 : decode cX8_layGame 78 = .ok (.getfield 22, 3) := by decide +kernel
theorem dX8_layGame_81 : decode cX8_layGame 81 = .ok (.iload 4, 2) := by decide +kernel
theorem dX8_layGame_83 : decode cX8_layGame 83 = .ok (.iaload, 1) := by decide +kernel
theorem dX8_layGame_84 : decode cX8_layGame 84 = .ok (.iload_n 3, 1) := by decide +kernel
theorem dX8_layGame_85 : decode cX8_layGame 85 = .ok (.if_icmp .le 13, 3) := by decide +kernel
theorem dX8_layGame_88 : decode cX8_layGame 88 = .ok (.aload_n 0, 1) := by decide +kernel
theorem dX8_layGame_89 : decode cX8_layGame 89 = .ok (.getfield 22, 3) := by decide +kernel
theorem dX8_layGame_92 : decode cX8_layGame 92 = .ok (.iload 4, 2) := by decide +kernel
theorem dX8_layGame_94 : decode cX8_layGame 94 = .ok (.iaload, 1) := by decide +kernel
theorem dX8_layGame_95 : decode cX8_layGame 95 = .ok (.goto 4, 3) := by decide +kernel
theorem dX8_layGame_98 : decode cX8_layGame 98 = .ok (.iload_n 3, 1) := by decide +kernel
theorem dX8_layGame_99 : decode cX8_layGame 99 = .ok (.istore_n 3, 1) := by decide +kernel
theorem dX8_layGame_100 : decode cX8_layGame 100 = .ok (.iinc 4 1, 3) := by decide +kernel
theorem dX8_layGame_103 : decode cX8_layGame 103 = .ok (.goto (-82), 3) := by decide +kernel
theorem dX8_layGame_106 : decode cX8_layGame 106 = .ok (.iload_n 2, 1) := by decide +kernel
theorem dX8_layGame_107 : decode cX8_layGame 107 = .ok (.ifCond .lt 33, 3) := by decide +kernel
theorem dX8_layGame_110 : decode cX8_layGame 110 = .ok (.aload_n 0, 1) := by decide +kernel
theorem dX8_layGame_111 : decode cX8_layGame 111 = .ok (.getfield 94, 3) := by decide +kernel
theorem dX8_layGame_114 : decode cX8_layGame 114 = .ok (.aload_n 0, 1) := by decide +kernel
theorem dX8_layGame_115 : decode cX8_layGame 115 = .ok (.getfield 255, 3) := by decide +kernel
theorem dX8_layGame_118 : decode cX8_layGame 118 = .ok (.iload_n 2, 1) := by decide +kernel
theorem dX8_layGame_119 : decode cX8_layGame 119 = .ok (.iastore, 1) := by decide +kernel
theorem dX8_layGame_120 : decode cX8_layGame 120 = .ok (.aload_n 0, 1) := by decide +kernel
theorem dX8_layGame_121 : decode cX8_layGame 121 = .ok (.getfield 97, 3) := by decide +kernel
theorem dX8_layGame_124 : decode cX8_layGame 124 = .ok (.aload_n 0, 1) := by decide +kernel
theorem dX8_layGame_125 : decode cX8_layGame 125 = .ok (.getfield 255, 3) := by decide +kernel
theorem dX8_layGame_128 : decode cX8_layGame 128 = .ok (.iload_n 3, 1) := by decide +kernel
theorem dX8_layGame_129 : decode cX8_layGame 129 = .ok (.iastore, 1) := by decide +kernel
theorem dX8_layGame_130 : decode cX8_layGame 130 = .ok (.aload_n 0, 1) := by decide +kernel
theorem dX8_layGame_131 : decode cX8_layGame 131 = .ok (.dup, 1) := by decide +kernel
theorem dX8_layGame_132 : decode cX8_layGame 132 = .ok (.getfield 255, 3) := by decide +kernel
theorem dX8_layGame_135 : decode cX8_layGame 135 = .ok (.iconst 1, 1) := by decide +kernel
theorem dX8_layGame_136 : decode cX8_layGame 136 = .ok (.iadd, 1) := by decide +kernel
theorem dX8_layGame_137 : decode cX8_layGame 137 = .ok (.putfield 255, 3) := by decide +kernel
theorem dX8_layGame_140 : decode cX8_layGame 140 = .ok (.iinc 1 1, 3) := by decide +kernel
theorem dX8_layGame_143 : decode cX8_layGame 143 = .ok (.goto (-136), 3) := by decide +kernel
theorem dX8_layGame_146 : decode cX8_layGame 146 = .ok (.return_, 1) := by decide +kernel
theorem dX8_costOf_0 : decode cX8_costOf 0 = .ok (.iconst 1, 1) := by decide +kernel
theorem dX8_costOf_1 : decode cX8_costOf 1 = .ok (.istore_n 2, 1) := by decide +kernel
theorem dX8_costOf_2 : decode cX8_costOf 2 = .ok (.iconst 0, 1) := by decide +kernel
theorem dX8_costOf_3 : decode cX8_costOf 3 = .ok (.istore_n 3, 1) := by decide +kernel
theorem dX8_costOf_4 : decode cX8_costOf 4 = .ok (.iload_n 3, 1) := by decide +kernel
theorem dX8_costOf_5 : decode cX8_costOf 5 = .ok (.aload_n 0, 1) := by decide +kernel
theorem dX8_costOf_6 : decode cX8_costOf 6 = .ok (.getfield 255, 3) := by decide +kernel
theorem dX8_costOf_9 : decode cX8_costOf 9 = .ok (.if_icmp .ge 39, 3) := by decide +kernel
theorem dX8_costOf_12 : decode cX8_costOf 12 = .ok (.iload_n 2, 1) := by decide +kernel
theorem dX8_costOf_13 : decode cX8_costOf 13 = .ok (.ifCond .eq 27, 3) := by decide +kernel
theorem dX8_costOf_16 : decode cX8_costOf 16 = .ok (.iload_n 3, 1) := by decide +kernel
theorem dX8_costOf_17 : decode cX8_costOf 17 = .ok (.iload_n 1, 1) := by decide +kernel
theorem dX8_costOf_18 : decode cX8_costOf 18 = .ok (.if_icmp .eq 18, 3) := by decide +kernel
theorem dX8_costOf_21 : decode cX8_costOf 21 = .ok (.aload_n 0, 1) := by decide +kernel
theorem dX8_costOf_22 : decode cX8_costOf 22 = .ok (.getfield 100, 3) := by decide +kernel
theorem dX8_costOf_25 : decode cX8_costOf 25 = .ok (.iload_n 3, 1) := by decide +kernel
theorem dX8_costOf_26 : decode cX8_costOf 26 = .ok (.iaload, 1) := by decide +kernel
theorem dX8_costOf_27 : decode cX8_costOf 27 = .ok (.aload_n 0, 1) := by decide +kernel
theorem dX8_costOf_28 : decode cX8_costOf 28 = .ok (.getfield 100, 3) := by decide +kernel
theorem dX8_costOf_31 : decode cX8_costOf 31 = .ok (.iload_n 1, 1) := by decide +kernel
theorem dX8_costOf_32 : decode cX8_costOf 32 = .ok (.iaload, 1) := by decide +kernel
theorem dX8_costOf_33 : decode cX8_costOf 33 = .ok (.if_icmp .le 7, 3) := by decide +kernel
theorem dX8_costOf_36 : decode cX8_costOf 36 = .ok (.iconst 1, 1) := by decide +kernel
theorem dX8_costOf_37 : decode cX8_costOf 37 = .ok (.goto 4, 3) := by decide +kernel
theorem dX8_costOf_40 : decode cX8_costOf 40 = .ok (.iconst 0, 1) := by decide +kernel
theorem dX8_costOf_41 : decode cX8_costOf 41 = .ok (.istore_n 2, 1) := by decide +kernel
theorem dX8_costOf_42 : decode cX8_costOf 42 = .ok (.iinc 3 1, 3) := by decide +kernel
theorem dX8_costOf_45 : decode cX8_costOf 45 = .ok (.goto (-41), 3) := by decide +kernel
theorem dX8_costOf_48 : decode cX8_costOf 48 = .ok (.sipush 180, 3) := by decide +kernel
theorem dX8_costOf_51 : decode cX8_costOf 51 = .ok (.bipush 30, 2) := by decide +kernel
theorem dX8_costOf_53 : decode cX8_costOf 53 = .ok (.aload_n 0, 1) := by decide +kernel
theorem dX8_costOf_54 : decode cX8_costOf 54 = .ok (.getfield 100, 3) := by decide +kernel
theorem dX8_costOf_57 : decode cX8_costOf 57 = .ok (.iload_n 1, 1) := by decide +kernel
theorem dX8_costOf_58 : decode cX8_costOf 58 = .ok (.iaload, 1) := by decide +kernel
theorem dX8_costOf_59 : decode cX8_costOf 59 = .ok (.imul, 1) := by decide +kernel
theorem dX8_costOf_60 : decode cX8_costOf 60 = .ok (.iadd, 1) := by decide +kernel
theorem dX8_costOf_61 : decode cX8_costOf 61 = .ok (.aload_n 0, 1) := by decide +kernel
theorem dX8_costOf_62 : decode cX8_costOf 62 = .ok (.getfield 94, 3) := by decide +kernel
theorem dX8_costOf_65 : decode cX8_costOf 65 = .ok (.iload_n 1, 1) := by decide +kernel
theorem dX8_costOf_66 : decode cX8_costOf 66 = .ok (.iaload, 1) := by decide +kernel
theorem dX8_costOf_67 : decode cX8_costOf 67 = .ok (.invokestatic 221, 3) := by decide +kernel
theorem dX8_costOf_70 : decode cX8_costOf 70 = .ok (.iload_n 2, 1) := by decide +kernel
theorem dX8_costOf_71 : decode cX8_costOf 71 = .ok (.ifCond .eq 12, 3) := by decide +kernel
theorem dX8_costOf_74 : decode cX8_costOf 74 = .ok (.aload_n 0, 1) := by decide +kernel
theorem dX8_costOf_75 : decode cX8_costOf 75 = .ok (.getfield 97, 3) := by decide +kernel
theorem dX8_costOf_78 : decode cX8_costOf 78 = .ok (.iload_n 1, 1) := by decide +kernel
theorem dX8_costOf_79 : decode cX8_costOf 79 = .ok (.iaload, 1) := by decide +kernel
theorem dX8_costOf_80 : decode cX8_costOf 80 = .ok (.goto 4, 3) := by decide +kernel
theorem dX8_costOf_83 : decode cX8_costOf 83 = .ok (.iconst 0, 1) := by decide +kernel
theorem dX8_costOf_84 : decode cX8_costOf 84 = .ok (.iadd, 1) := by decide +kernel
theorem dX8_costOf_85 : decode cX8_costOf 85 = .ok (.ireturn, 1) := by decide +kernel
theorem dX8_cost_0 : decode cX8_cost 0 = .ok (.aload_n 0, 1) := by decide +kernel
theorem dX8_cost_1 : decode cX8_cost 1 = .ok (.invokevirtual 258, 3) := by decide +kernel
theorem dX8_cost_4 : decode cX8_cost 4 = .ok (.iload_n 1, 1) := by decide +kernel
theorem dX8_cost_5 : decode cX8_cost 5 = .ok (.i2l, 1) := by decide +kernel
theorem dX8_cost_6 : decode cX8_cost 6 = .ok (.lconst 0, 1) := by decide +kernel
theorem dX8_cost_7 : decode cX8_cost 7 = .ok (.aload_n 0, 1) := by decide +kernel
theorem dX8_cost_8 : decode cX8_cost 8 = .ok (.getfield 255, 3) := by decide +kernel
theorem dX8_cost_11 : decode cX8_cost 11 = .ok (.iconst 1, 1) := by decide +kernel
theorem dX8_cost_12 : decode cX8_cost 12 = .ok (.isub, 1) := by decide +kernel
theorem dX8_cost_13 : decode cX8_cost 13 = .ok (.i2l, 1) := by decide +kernel
theorem dX8_cost_14 : decode cX8_cost 14 = .ok (.invokestatic 109, 3) := by decide +kernel
theorem dX8_cost_17 : decode cX8_cost 17 = .ok (.ifCond .eq 15, 3) := by decide +kernel
theorem dX8_cost_20 : decode cX8_cost 20 = .ok (.iload_n 2, 1) := by decide +kernel
theorem dX8_cost_21 : decode cX8_cost 21 = .ok (.i2l, 1) := by decide +kernel
theorem dX8_cost_22 : decode cX8_cost 22 = .ok (.lconst 0, 1) := by decide +kernel
theorem dX8_cost_23 : decode cX8_cost 23 = .ok (.ldc2_w 261, 3) := by decide +kernel
theorem dX8_cost_26 : decode cX8_cost 26 = .ok (.invokestatic 109, 3) := by decide +kernel
theorem dX8_cost_29 : decode cX8_cost 29 = .ok (.ifCond .ne 5, 3) := by decide +kernel
end
section
theorem dX8_cost_32 : decode cX8_cost 32 = .ok (.iconst (-1), 1) := by decide +kernel
theorem dX8_cost_33 : decode cX8_cost 33 = .ok (.ireturn, 1) := by decide +kernel
theorem dX8_cost_34 : decode cX8_cost 34 = .ok (.iload_n 2, 1) := by decide +kernel
theorem dX8_cost_35 : decode cX8_cost 35 = .ok (.istore_n 3, 1) := by decide +kernel
theorem dX8_cost_36 : decode cX8_cost 36 = .ok (.iconst 1, 1) := by decide +kernel
theorem dX8_cost_37 : decode cX8_cost 37 = .ok (.istore 4, 2) := by decide +kernel
theorem dX8_cost_39 : decode cX8_cost 39 = .ok (.iconst 0, 1) := by decide +kernel
theorem dX8_cost_40 : decode cX8_cost 40 = .ok (.istore 5, 2) := by decide +kernel
theorem dX8_cost_42 : decode cX8_cost 42 = .ok (.iload 5, 2) := by decide +kernel
theorem dX8_cost_44 : decode cX8_cost 44 = .ok (.aload_n 0, 1) := by decide +kernel
theorem dX8_cost_45 : decode cX8_cost 45 = .ok (.getfield 255, 3) := by decide +kernel
theorem dX8_cost_48 : decode cX8_cost 48 = .ok (.if_icmp .ge 49, 3) := by decide +kernel
theorem dX8_cost_51 : decode cX8_cost 51 = .ok (.aload_n 0, 1) := by decide +kernel
theorem dX8_cost_52 : decode cX8_cost 52 = .ok (.getfield 100, 3) := by decide +kernel
theorem dX8_cost_55 : decode cX8_cost 55 = .ok (.iload 5, 2) := by decide +kernel
theorem dX8_cost_57 : decode cX8_cost 57 = .ok (.iload_n 3, 1) := by decide +kernel
theorem dX8_cost_58 : decode cX8_cost 58 = .ok (.bipush 10, 2) := by decide +kernel
theorem dX8_cost_60 : decode cX8_cost 60 = .ok (.irem, 1) := by decide +kernel
theorem dX8_cost_61 : decode cX8_cost 61 = .ok (.iastore, 1) := by decide +kernel
theorem dX8_cost_62 : decode cX8_cost 62 = .ok (.iload 4, 2) := by decide +kernel
theorem dX8_cost_64 : decode cX8_cost 64 = .ok (.ifCond .eq 19, 3) := by decide +kernel
theorem dX8_cost_67 : decode cX8_cost 67 = .ok (.aload_n 0, 1) := by decide +kernel
theorem dX8_cost_68 : decode cX8_cost 68 = .ok (.getfield 100, 3) := by decide +kernel
theorem dX8_cost_71 : decode cX8_cost 71 = .ok (.iload 5, 2) := by decide +kernel
theorem dX8_cost_73 : decode cX8_cost 73 = .ok (.iaload, 1) := by decide +kernel
theorem dX8_cost_74 : decode cX8_cost 74 = .ok (.bipush 6, 2) := by decide +kernel
theorem dX8_cost_76 : decode cX8_cost 76 = .ok (.if_icmp .ge 7, 3) := by decide +kernel
theorem dX8_cost_79 : decode cX8_cost 79 = .ok (.iconst 1, 1) := by decide +kernel
theorem dX8_cost_80 : decode cX8_cost 80 = .ok (.goto 4, 3) := by decide +kernel
theorem dX8_cost_83 : decode cX8_cost 83 = .ok (.iconst 0, 1) := by decide +kernel
theorem dX8_cost_84 : decode cX8_cost 84 = .ok (.istore 4, 2) := by decide +kernel
theorem dX8_cost_86 : decode cX8_cost 86 = .ok (.iload_n 3, 1) := by decide +kernel
theorem dX8_cost_87 : decode cX8_cost 87 = .ok (.bipush 10, 2) := by decide +kernel
theorem dX8_cost_89 : decode cX8_cost 89 = .ok (.idiv, 1) := by decide +kernel
theorem dX8_cost_90 : decode cX8_cost 90 = .ok (.istore_n 3, 1) := by decide +kernel
theorem dX8_cost_91 : decode cX8_cost 91 = .ok (.iinc 5 1, 3) := by decide +kernel
theorem dX8_cost_94 : decode cX8_cost 94 = .ok (.goto (-52), 3) := by decide +kernel
theorem dX8_cost_97 : decode cX8_cost 97 = .ok (.iload 4, 2) := by decide +kernel
theorem dX8_cost_99 : decode cX8_cost 99 = .ok (.ifCond .eq 11, 3) := by decide +kernel
theorem dX8_cost_102 : decode cX8_cost 102 = .ok (.aload_n 0, 1) := by decide +kernel
theorem dX8_cost_103 : decode cX8_cost 103 = .ok (.iload_n 1, 1) := by decide +kernel
theorem dX8_cost_104 : decode cX8_cost 104 = .ok (.invokevirtual 263, 3) := by decide +kernel
theorem dX8_cost_107 : decode cX8_cost 107 = .ok (.goto 4, 3) := by decide +kernel
theorem dX8_cost_110 : decode cX8_cost 110 = .ok (.iconst (-1), 1) := by decide +kernel
theorem dX8_cost_111 : decode cX8_cost 111 = .ok (.ireturn, 1) := by decide +kernel
theorem dX8_takeSlots_0 : decode cX8_takeSlots 0 = .ok (.iload_n 1, 1) := by decide +kernel
theorem dX8_takeSlots_1 : decode cX8_takeSlots 1 = .ok (.istore_n 2, 1) := by decide +kernel
theorem dX8_takeSlots_2 : decode cX8_takeSlots 2 = .ok (.aload_n 0, 1) := by decide +kernel
theorem dX8_takeSlots_3 : decode cX8_takeSlots 3 = .ok (.getfield 255, 3) := by decide +kernel
theorem dX8_takeSlots_6 : decode cX8_takeSlots 6 = .ok (.iconst 1, 1) := by decide +kernel
theorem dX8_takeSlots_7 : decode cX8_takeSlots 7 = .ok (.isub, 1) := by decide +kernel
theorem dX8_takeSlots_8 : decode cX8_takeSlots 8 = .ok (.istore_n 3, 1) := by decide +kernel
theorem dX8_takeSlots_9 : decode cX8_takeSlots 9 = .ok (.iload_n 3, 1) := by decide +kernel
theorem dX8_takeSlots_10 : decode cX8_takeSlots 10 = .ok (.ifCond .lt 24, 3) := by decide +kernel
theorem dX8_takeSlots_13 : decode cX8_takeSlots 13 = .ok (.aload_n 0, 1) := by decide +kernel
theorem dX8_takeSlots_14 : decode cX8_takeSlots 14 = .ok (.getfield 100, 3) := by decide +kernel
theorem dX8_takeSlots_17 : decode cX8_takeSlots 17 = .ok (.iload_n 3, 1) := by decide +kernel
theorem dX8_takeSlots_18 : decode cX8_takeSlots 18 = .ok (.iload_n 2, 1) := by decide +kernel
theorem dX8_takeSlots_19 : decode cX8_takeSlots 19 = .ok (.bipush 6, 2) := by decide +kernel
theorem dX8_takeSlots_21 : decode cX8_takeSlots 21 = .ok (.irem, 1) := by decide +kernel
theorem dX8_takeSlots_22 : decode cX8_takeSlots 22 = .ok (.iastore, 1) := by decide +kernel
theorem dX8_takeSlots_23 : decode cX8_takeSlots 23 = .ok (.iload_n 2, 1) := by decide +kernel
theorem dX8_takeSlots_24 : decode cX8_takeSlots 24 = .ok (.bipush 6, 2) := by decide +kernel
theorem dX8_takeSlots_26 : decode cX8_takeSlots 26 = .ok (.idiv, 1) := by decide +kernel
theorem dX8_takeSlots_27 : decode cX8_takeSlots 27 = .ok (.istore_n 2, 1) := by decide +kernel
theorem dX8_takeSlots_28 : decode cX8_takeSlots 28 = .ok (.iinc 3 (-1), 3) := by decide +kernel
theorem dX8_takeSlots_31 : decode cX8_takeSlots 31 = .ok (.goto (-22), 3) := by decide +kernel
theorem dX8_takeSlots_34 : decode cX8_takeSlots 34 = .ok (.return_, 1) := by decide +kernel
theorem dX8_isRest_0 : decode cX8_isRest 0 = .ok (.iconst 1, 1) := by decide +kernel
theorem dX8_isRest_1 : decode cX8_isRest 1 = .ok (.istore_n 1, 1) := by decide +kernel
theorem dX8_isRest_2 : decode cX8_isRest 2 = .ok (.iconst 0, 1) := by decide +kernel
theorem dX8_isRest_3 : decode cX8_isRest 3 = .ok (.istore_n 2, 1) := by decide +kernel
theorem dX8_isRest_4 : decode cX8_isRest 4 = .ok (.iload_n 2, 1) := by decide +kernel
theorem dX8_isRest_5 : decode cX8_isRest 5 = .ok (.aload_n 0, 1) := by decide +kernel
theorem dX8_isRest_6 : decode cX8_isRest 6 = .ok (.getfield 255, 3) := by decide +kernel
theorem dX8_isRest_9 : decode cX8_isRest 9 = .ok (.if_icmp .ge 74, 3) := by decide +kernel
theorem dX8_isRest_12 : decode cX8_isRest 12 = .ok (.aload_n 0, 1) := by decide +kernel
theorem dX8_isRest_13 : decode cX8_isRest 13 = .ok (.getfield 100, 3) := by decide +kernel
theorem dX8_isRest_16 : decode cX8_isRest 16 = .ok (.iload_n 2, 1) := by decide +kernel
theorem dX8_isRest_17 : decode cX8_isRest 17 = .ok (.iaload, 1) := by decide +kernel
theorem dX8_isRest_18 : decode cX8_isRest 18 = .ok (.istore_n 3, 1) := by decide +kernel
theorem dX8_isRest_19 : decode cX8_isRest 19 = .ok (.aload_n 0, 1) := by decide +kernel
theorem dX8_isRest_20 : decode cX8_isRest 20 = .ok (.iload_n 2, 1) := by decide +kernel
theorem dX8_isRest_21 : decode cX8_isRest 21 = .ok (.invokevirtual 263, 3) := by decide +kernel
theorem dX8_isRest_24 : decode cX8_isRest 24 = .ok (.istore 4, 2) := by decide +kernel
theorem dX8_isRest_26 : decode cX8_isRest 26 = .ok (.iconst 0, 1) := by decide +kernel
theorem dX8_isRest_27 : decode cX8_isRest 27 = .ok (.istore 5, 2) := by decide +kernel
theorem dX8_isRest_29 : decode cX8_isRest 29 = .ok (.iload 5, 2) := by decide +kernel
theorem dX8_isRest_31 : decode cX8_isRest 31 = .ok (.bipush 6, 2) := by decide +kernel
theorem dX8_isRest_33 : decode cX8_isRest 33 = .ok (.if_icmp .ge 37, 3) := by decide +kernel
theorem dX8_isRest_36 : decode cX8_isRest 36 = .ok (.aload_n 0, 1) := by decide +kernel
theorem dX8_isRest_37 : decode cX8_isRest 37 = .ok (.getfield 100, 3) := by decide +kernel
theorem dX8_isRest_40 : decode cX8_isRest 40 = .ok (.iload_n 2, 1) := by decide +kernel
theorem dX8_isRest_41 : decode cX8_isRest 41 = .ok (.iload 5, 2) := by decide +kernel
theorem dX8_isRest_43 : decode cX8_isRest 43 = .ok (.iastore, 1) := by decide +kernel
theorem dX8_isRest_44 : decode cX8_isRest 44 = .ok (.iload_n 1, 1) := by decide +kernel
theorem dX8_isRest_45 : decode cX8_isRest 45 = .ok (.ifCond .eq 17, 3) := by decide +kernel
theorem dX8_isRest_48 : decode cX8_isRest 48 = .ok (.aload_n 0, 1) := by decide +kernel
theorem dX8_isRest_49 : decode cX8_isRest 49 = .ok (.iload_n 2, 1) := by decide +kernel
theorem dX8_isRest_50 : decode cX8_isRest 50 = .ok (.invokevirtual 263, 3) := by decide +kernel
theorem dX8_isRest_53 : decode cX8_isRest 53 = .ok (.iload 4, 2) := by decide +kernel
theorem dX8_isRest_55 : decode cX8_isRest 55 = .ok (.if_icmp .lt 7, 3) := by decide +kernel
theorem dX8_isRest_58 : decode cX8_isRest 58 = .ok (.iconst 1, 1) := by decide +kernel
theorem dX8_isRest_59 : decode cX8_isRest 59 = .ok (.goto 4, 3) := by decide +kernel
theorem dX8_isRest_62 : decode cX8_isRest 62 = .ok (.iconst 0, 1) := by decide +kernel
theorem dX8_isRest_63 : decode cX8_isRest 63 = .ok (.istore_n 1, 1) := by decide +kernel
theorem dX8_isRest_64 : decode cX8_isRest 64 = .ok (.iinc 5 1, 3) := by decide +kernel
theorem dX8_isRest_67 : decode cX8_isRest 67 = .ok (.goto (-38), 3) := by decide +kernel
theorem dX8_isRest_70 : decode cX8_isRest 70 = .ok (.aload_n 0, 1) := by decide +kernel
theorem dX8_isRest_71 : decode cX8_isRest 71 = .ok (.getfield 100, 3) := by decide +kernel
theorem dX8_isRest_74 : decode cX8_isRest 74 = .ok (.iload_n 2, 1) := by decide +kernel
theorem dX8_isRest_75 : decode cX8_isRest 75 = .ok (.iload_n 3, 1) := by decide +kernel
theorem dX8_isRest_76 : decode cX8_isRest 76 = .ok (.iastore, 1) := by decide +kernel
theorem dX8_isRest_77 : decode cX8_isRest 77 = .ok (.iinc 2 1, 3) := by decide +kernel
theorem dX8_isRest_80 : decode cX8_isRest 80 = .ok (.goto (-76), 3) := by decide +kernel
theorem dX8_isRest_83 : decode cX8_isRest 83 = .ok (.iload_n 1, 1) := by decide +kernel
theorem dX8_isRest_84 : decode cX8_isRest 84 = .ok (.ireturn, 1) := by decide +kernel
theorem dX8_sumOfCosts_0 : decode cX8_sumOfCosts 0 = .ok (.iconst 0, 1) := by decide +kernel
theorem dX8_sumOfCosts_1 : decode cX8_sumOfCosts 1 = .ok (.istore_n 1, 1) := by decide +kernel
theorem dX8_sumOfCosts_2 : decode cX8_sumOfCosts 2 = .ok (.iconst 0, 1) := by decide +kernel
theorem dX8_sumOfCosts_3 : decode cX8_sumOfCosts 3 = .ok (.istore_n 2, 1) := by decide +kernel
theorem dX8_sumOfCosts_4 : decode cX8_sumOfCosts 4 = .ok (.iload_n 2, 1) := by decide +kernel
theorem dX8_sumOfCosts_5 : decode cX8_sumOfCosts 5 = .ok (.aload_n 0, 1) := by decide +kernel
theorem dX8_sumOfCosts_6 : decode cX8_sumOfCosts 6 = .ok (.getfield 255, 3) := by decide +kernel
theorem dX8_sumOfCosts_9 : decode cX8_sumOfCosts 9 = .ok (.if_icmp .ge 17, 3) := by decide +kernel
theorem dX8_sumOfCosts_12 : decode cX8_sumOfCosts 12 = .ok (.iload_n 1, 1) := by decide +kernel
theorem dX8_sumOfCosts_13 : decode cX8_sumOfCosts 13 = .ok (.aload_n 0, 1) := by decide +kernel
theorem dX8_sumOfCosts_14 : decode cX8_sumOfCosts 14 = .ok (.iload_n 2, 1) := by decide +kernel
theorem dX8_sumOfCosts_15 : decode cX8_sumOfCosts 15 = .ok (.invokevirtual 263, 3) := by decide +kernel
theorem dX8_sumOfCosts_18 : decode cX8_sumOfCosts 18 = .ok (.iadd, 1) := by decide +kernel
theorem dX8_sumOfCosts_19 : decode cX8_sumOfCosts 19 = .ok (.istore_n 1, 1) := by decide +kernel
theorem dX8_sumOfCosts_20 : decode cX8_sumOfCosts 20 = .ok (.iinc 2 1, 3) := by decide +kernel
theorem dX8_sumOfCosts_23 : decode cX8_sumOfCosts 23 = .ok (.goto (-19), 3) := by decide +kernel
theorem dX8_sumOfCosts_26 : decode cX8_sumOfCosts 26 = .ok (.iload_n 1, 1) := by decide +kernel
theorem dX8_sumOfCosts_27 : decode cX8_sumOfCosts 27 = .ok (.ireturn, 1) := by decide +kernel
theorem dX8_codesOf_0 : decode cX8_codesOf 0 = .ok (.iconst 1, 1) := by decide +kernel
theorem dX8_codesOf_1 : decode cX8_codesOf 1 = .ok (.istore_n 1, 1) := by decide +kernel
theorem dX8_codesOf_2 : decode cX8_codesOf 2 = .ok (.iconst 0, 1) := by decide +kernel
theorem dX8_codesOf_3 : decode cX8_codesOf 3 = .ok (.istore_n 2, 1) := by decide +kernel
theorem dX8_codesOf_4 : decode cX8_codesOf 4 = .ok (.iload_n 2, 1) := by decide +kernel
theorem dX8_codesOf_5 : decode cX8_codesOf 5 = .ok (.aload_n 0, 1) := by decide +kernel
theorem dX8_codesOf_6 : decode cX8_codesOf 6 = .ok (.getfield 255, 3) := by decide +kernel
theorem dX8_codesOf_9 : decode cX8_codesOf 9 = .ok (.if_icmp .ge 14, 3) := by decide +kernel
theorem dX8_codesOf_12 : decode cX8_codesOf 12 = .ok (.iload_n 1, 1) := by decide +kernel
theorem dX8_codesOf_13 : decode cX8_codesOf 13 = .ok (.bipush 6, 2) := by decide +kernel
theorem dX8_codesOf_15 : decode cX8_codesOf 15 = .ok (.imul, 1) := by decide +kernel
theorem dX8_codesOf_16 : decode cX8_codesOf 16 = .ok (.istore_n 1, 1) := by decide +kernel
theorem dX8_codesOf_17 : decode cX8_codesOf 17 = .ok (.iinc 2 1, 3) := by decide +kernel
theorem dX8_codesOf_20 : decode cX8_codesOf 20 = .ok (.goto (-16), 3) := by decide +kernel
theorem dX8_codesOf_23 : decode cX8_codesOf 23 = .ok (.iload_n 1, 1) := by decide +kernel
theorem dX8_codesOf_24 : decode cX8_codesOf 24 = .ok (.ireturn, 1) := by decide +kernel
theorem dX8_rests_0 : decode cX8_rests 0 = .ok (.aload_n 0, 1) := by decide +kernel
theorem dX8_rests_1 : decode cX8_rests 1 = .ok (.invokevirtual 258, 3) := by decide +kernel
theorem dX8_rests_4 : decode cX8_rests 4 = .ok (.iload_n 1, 1) := by decide +kernel
theorem dX8_rests_5 : decode cX8_rests 5 = .ok (.i2l, 1) := by decide +kernel
theorem dX8_rests_6 : decode cX8_rests 6 = .ok (.ldc2_w 250, 3) := by decide +kernel
theorem dX8_rests_9 : decode cX8_rests 9 = .ok (.aload_n 0, 1) := by decide +kernel
theorem dX8_rests_10 : decode cX8_rests 10 = .ok (.getfield 255, 3) := by decide +kernel
theorem dX8_rests_13 : decode cX8_rests 13 = .ok (.iconst 1, 1) := by decide +kernel
theorem dX8_rests_14 : decode cX8_rests 14 = .ok (.isub, 1) := by decide +kernel
theorem dX8_rests_15 : decode cX8_rests 15 = .ok (.i2l, 1) := by decide +kernel
theorem dX8_rests_16 : decode cX8_rests 16 = .ok (.invokestatic 109, 3) := by decide +kernel
theorem dX8_rests_19 : decode cX8_rests 19 = .ok (.ifCond .ne 5, 3) := by decide +kernel
theorem dX8_rests_22 : decode cX8_rests 22 = .ok (.iconst (-1), 1) := by decide +kernel
theorem dX8_rests_23 : decode cX8_rests 23 = .ok (.ireturn, 1) := by decide +kernel
theorem dX8_rests_24 : decode cX8_rests 24 = .ok (.iconst 0, 1) := by decide +kernel
theorem dX8_rests_25 : decode cX8_rests 25 = .ok (.istore_n 2, 1) := by decide +kernel
theorem dX8_rests_26 : decode cX8_rests 26 = .ok (.iconst 0, 1) := by decide +kernel
theorem dX8_rests_27 : decode cX8_rests 27 = .ok (.istore_n 3, 1) := by decide +kernel
theorem dX8_rests_28 : decode cX8_rests 28 = .ok (.iload_n 3, 1) := by decide +kernel
theorem dX8_rests_29 : decode cX8_rests 29 = .ok (.aload_n 0, 1) := by decide +kernel
theorem dX8_rests_30 : decode cX8_rests 30 = .ok (.invokevirtual 266, 3) := by decide +kernel
theorem dX8_rests_33 : decode cX8_rests 33 = .ok (.if_icmp .ge 35, 3) := by decide +kernel
theorem dX8_rests_36 : decode cX8_rests 36 = .ok (.aload_n 0, 1) := by decide +kernel
theorem dX8_rests_37 : decode cX8_rests 37 = .ok (.iload_n 3, 1) := by decide +kernel
theorem dX8_rests_38 : decode cX8_rests 38 = .ok (.invokevirtual 269, 3) := by decide +kernel
theorem dX8_rests_41 : decode cX8_rests 41 = .ok (.aload_n 0, 1) := by decide +kernel
theorem dX8_rests_42 : decode cX8_rests 42 = .ok (.invokevirtual 272, 3) := by decide +kernel
theorem dX8_rests_45 : decode cX8_rests 45 = .ok (.ifCond .eq 17, 3) := by decide +kernel
theorem dX8_rests_48 : decode cX8_rests 48 = .ok (.iload_n 1, 1) := by decide +kernel
theorem dX8_rests_49 : decode cX8_rests 49 = .ok (.ifCond .lt 10, 3) := by decide +kernel
theorem dX8_rests_52 : decode cX8_rests 52 = .ok (.aload_n 0, 1) := by decide +kernel
theorem dX8_rests_53 : decode cX8_rests 53 = .ok (.getfield 100, 3) := by decide +kernel
theorem dX8_rests_56 : decode cX8_rests 56 = .ok (.iload_n 1, 1) := by decide +kernel
theorem dX8_rests_57 : decode cX8_rests 57 = .ok (.iaload, 1) := by decide +kernel
theorem dX8_rests_58 : decode cX8_rests 58 = .ok (.ireturn, 1) := by decide +kernel
theorem dX8_rests_59 : decode cX8_rests 59 = .ok (.iinc 2 1, 3) := by decide +kernel
theorem dX8_rests_62 : decode cX8_rests 62 = .ok (.iinc 3 1, 3) := by decide +kernel
theorem dX8_rests_65 : decode cX8_rests 65 = .ok (.goto (-37), 3) := by decide +kernel
theorem dX8_rests_68 : decode cX8_rests 68 = .ok (.iload_n 1, 1) := by decide +kernel
theorem dX8_rests_69 : decode cX8_rests 69 = .ok (.ifCond .ge 7, 3) := by decide +kernel
theorem dX8_rests_72 : decode cX8_rests 72 = .ok (.iload_n 2, 1) := by decide +kernel
theorem dX8_rests_73 : decode cX8_rests 73 = .ok (.goto 5, 3) := by decide +kernel
theorem dX8_rests_76 : decode cX8_rests 76 = .ok (.bipush (-4), 2) := by decide +kernel
theorem dX8_rests_78 : decode cX8_rests 78 = .ok (.ireturn, 1) := by decide +kernel
theorem dX8_price_0 : decode cX8_price 0 = .ok (.aload_n 0, 1) := by decide +kernel
theorem dX8_price_1 : decode cX8_price 1 = .ok (.invokevirtual 258, 3) := by decide +kernel
theorem dX8_price_4 : decode cX8_price 4 = .ok (.bipush (-4), 2) := by decide +kernel
theorem dX8_price_6 : decode cX8_price 6 = .ok (.istore_n 1, 1) := by decide +kernel
theorem dX8_price_7 : decode cX8_price 7 = .ok (.bipush (-4), 2) := by decide +kernel
theorem dX8_price_9 : decode cX8_price 9 = .ok (.istore_n 2, 1) := by decide +kernel
theorem dX8_price_10 : decode cX8_price 10 = .ok (.iconst 0, 1) := by decide +kernel
theorem dX8_price_11 : decode cX8_price 11 = .ok (.istore_n 3, 1) := by decide +kernel
theorem dX8_price_12 : decode cX8_price 12 = .ok (.iload_n 3, 1) := by decide +kernel
theorem dX8_price_13 : decode cX8_price 13 = .ok (.aload_n 0, 1) := by decide +kernel
theorem dX8_price_14 : decode cX8_price 14 = .ok (.invokevirtual 266, 3) := by decide +kernel
theorem dX8_price_17 : decode cX8_price 17 = .ok (.if_icmp .ge 61, 3) := by decide +kernel
theorem dX8_price_20 : decode cX8_price 20 = .ok (.aload_n 0, 1) := by decide +kernel
theorem dX8_price_21 : decode cX8_price 21 = .ok (.iload_n 3, 1) := by decide +kernel
theorem dX8_price_22 : decode cX8_price 22 = .ok (.invokevirtual 269, 3) := by decide +kernel
theorem dX8_price_25 : decode cX8_price 25 = .ok (.aload_n 0, 1) := by decide +kernel
theorem dX8_price_26 : decode cX8_price 26 = .ok (.invokevirtual 275, 3) := by decide +kernel
theorem dX8_price_29 : decode cX8_price 29 = .ok (.istore 4, 2) := by decide +kernel
theorem dX8_price_31 : decode cX8_price 31 = .ok (.iload_n 2, 1) := by decide +kernel
theorem dX8_price_32 : decode cX8_price 32 = .ok (.ifCond .lt 9, 3) := by decide +kernel
theorem dX8_price_35 : decode cX8_price 35 = .ok (.iload 4, 2) := by decide +kernel
theorem dX8_price_37 : decode cX8_price 37 = .ok (.iload_n 2, 1) := by decide +kernel
theorem dX8_price_38 : decode cX8_price 38 = .ok (.if_icmp .ge 8, 3) := by decide +kernel
theorem dX8_price_41 : decode cX8_price 41 = .ok (.iload 4, 2) := by decide +kernel
theorem dX8_price_43 : decode cX8_price 43 = .ok (.goto 4, 3) := by decide +kernel
theorem dX8_price_46 : decode cX8_price 46 = .ok (.iload_n 2, 1) := by decide +kernel
theorem dX8_price_47 : decode cX8_price 47 = .ok (.istore_n 2, 1) := by decide +kernel
theorem dX8_price_48 : decode cX8_price 48 = .ok (.aload_n 0, 1) := by decide +kernel
theorem dX8_price_49 : decode cX8_price 49 = .ok (.invokevirtual 272, 3) := by decide +kernel
theorem dX8_price_52 : decode cX8_price 52 = .ok (.ifCond .eq 18, 3) := by decide +kernel
theorem dX8_price_55 : decode cX8_price 55 = .ok (.iload_n 1, 1) := by decide +kernel
theorem dX8_price_56 : decode cX8_price 56 = .ok (.ifCond .lt 9, 3) := by decide +kernel
theorem dX8_price_59 : decode cX8_price 59 = .ok (.iload 4, 2) := by decide +kernel
theorem dX8_price_61 : decode cX8_price 61 = .ok (.iload_n 1, 1) := by decide +kernel
theorem dX8_price_62 : decode cX8_price 62 = .ok (.if_icmp .ge 8, 3) := by decide +kernel
theorem dX8_price_65 : decode cX8_price 65 = .ok (.iload 4, 2) := by decide +kernel
theorem dX8_price_67 : decode cX8_price 67 = .ok (.goto 4, 3) := by decide +kernel
theorem dX8_price_70 : decode cX8_price 70 = .ok (.iload_n 1, 1) := by decide +kernel
theorem dX8_price_71 : decode cX8_price 71 = .ok (.istore_n 1, 1) := by decide +kernel
theorem dX8_price_72 : decode cX8_price 72 = .ok (.iinc 3 1, 3) := by decide +kernel
theorem dX8_price_75 : decode cX8_price 75 = .ok (.goto (-63), 3) := by decide +kernel
theorem dX8_price_78 : decode cX8_price 78 = .ok (.iload_n 1, 1) := by decide +kernel
theorem dX8_price_79 : decode cX8_price 79 = .ok (.ifCond .ge 8, 3) := by decide +kernel
theorem dX8_price_82 : decode cX8_price 82 = .ok (.bipush (-4), 2) := by decide +kernel
theorem dX8_price_84 : decode cX8_price 84 = .ok (.goto 6, 3) := by decide +kernel
theorem dX8_price_87 : decode cX8_price 87 = .ok (.iload_n 1, 1) := by decide +kernel
theorem dX8_price_88 : decode cX8_price 88 = .ok (.iload_n 2, 1) := by decide +kernel
theorem dX8_price_89 : decode cX8_price 89 = .ok (.isub, 1) := by decide +kernel
theorem dX8_price_90 : decode cX8_price 90 = .ok (.ireturn, 1) := by decide +kernel
theorem dX8_lowest_0 : decode cX8_lowest 0 = .ok (.lload_n 0, 1) := by decide +kernel
theorem dX8_lowest_1 : decode cX8_lowest 1 = .ok (.lstore 5, 2) := by decide +kernel
theorem dX8_lowest_3 : decode cX8_lowest 3 = .ok (.lload_n 2, 1) := by decide +kernel
theorem dX8_lowest_4 : decode cX8_lowest 4 = .ok (.lstore 7, 2) := by decide +kernel
theorem dX8_lowest_6 : decode cX8_lowest 6 = .ok (.lload 7, 2) := by decide +kernel
theorem dX8_lowest_8 : decode cX8_lowest 8 = .ok (.lconst 0, 1) := by decide +kernel
theorem dX8_lowest_9 : decode cX8_lowest 9 = .ok (.lcmp, 1) := by decide +kernel
theorem dX8_lowest_10 : decode cX8_lowest 10 = .ok (.ifCond .eq 21, 3) := by decide +kernel
theorem dX8_lowest_13 : decode cX8_lowest 13 = .ok (.lload 5, 2) := by decide +kernel
theorem dX8_lowest_15 : decode cX8_lowest 15 = .ok (.lload 7, 2) := by decide +kernel
theorem dX8_lowest_17 : decode cX8_lowest 17 = .ok (.lrem, 1) := by decide +kernel
theorem dX8_lowest_18 : decode cX8_lowest 18 = .ok (.lstore 9, 2) := by decide +kernel
theorem dX8_lowest_20 : decode cX8_lowest 20 = .ok (.lload 7, 2) := by decide +kernel
theorem dX8_lowest_22 : decode cX8_lowest 22 = .ok (.lstore 5, 2) := by decide +kernel
theorem dX8_lowest_24 : decode cX8_lowest 24 = .ok (.lload 9, 2) := by decide +kernel
theorem dX8_lowest_26 : decode cX8_lowest 26 = .ok (.lstore 7, 2) := by decide +kernel
theorem dX8_lowest_28 : decode cX8_lowest 28 = .ok (.goto (-22), 3) := by decide +kernel
theorem dX8_lowest_31 : decode cX8_lowest 31 = .ok (.iload 4, 2) := by decide +kernel
theorem dX8_lowest_33 : decode cX8_lowest 33 = .ok (.ifCond .ne 10, 3) := by decide +kernel
theorem dX8_lowest_36 : decode cX8_lowest 36 = .ok (.lload_n 0, 1) := by decide +kernel
theorem dX8_lowest_37 : decode cX8_lowest 37 = .ok (.lload 5, 2) := by decide +kernel
theorem dX8_lowest_39 : decode cX8_lowest 39 = .ok (.ldiv, 1) := by decide +kernel
theorem dX8_lowest_40 : decode cX8_lowest 40 = .ok (.goto 7, 3) := by decide +kernel
theorem dX8_lowest_43 : decode cX8_lowest 43 = .ok (.lload_n 2, 1) := by decide +kernel
theorem dX8_lowest_44 : decode cX8_lowest 44 = .ok (.lload 5, 2) := by decide +kernel
theorem dX8_lowest_46 : decode cX8_lowest 46 = .ok (.ldiv, 1) := by decide +kernel
theorem dX8_lowest_47 : decode cX8_lowest 47 = .ok (.lreturn, 1) := by decide +kernel
theorem dX8_meant_0 : decode cX8_meant 0 = .ok (.iload_n 1, 1) := by decide +kernel
theorem dX8_meant_1 : decode cX8_meant 1 = .ok (.i2l, 1) := by decide +kernel
theorem dX8_meant_2 : decode cX8_meant 2 = .ok (.lconst 1, 1) := by decide +kernel
theorem dX8_meant_3 : decode cX8_meant 3 = .ok (.ldc2_w 130, 3) := by decide +kernel
theorem dX8_meant_6 : decode cX8_meant 6 = .ok (.invokestatic 109, 3) := by decide +kernel
theorem dX8_meant_9 : decode cX8_meant 9 = .ok (.ifCond .eq 13, 3) := by decide +kernel
theorem dX8_meant_12 : decode cX8_meant 12 = .ok (.iload_n 2, 1) := by decide +kernel
theorem dX8_meant_13 : decode cX8_meant 13 = .ok (.i2l, 1) := by decide +kernel
theorem dX8_meant_14 : decode cX8_meant 14 = .ok (.lconst 0, 1) := by decide +kernel
theorem dX8_meant_15 : decode cX8_meant 15 = .ok (.lconst 1, 1) := by decide +kernel
theorem dX8_meant_16 : decode cX8_meant 16 = .ok (.invokestatic 109, 3) := by decide +kernel
theorem dX8_meant_19 : decode cX8_meant 19 = .ok (.ifCond .ne 5, 3) := by decide +kernel
theorem dX8_meant_22 : decode cX8_meant 22 = .ok (.iconst (-1), 1) := by decide +kernel
theorem dX8_meant_23 : decode cX8_meant 23 = .ok (.ireturn, 1) := by decide +kernel
theorem dX8_meant_24 : decode cX8_meant 24 = .ok (.aload_n 0, 1) := by decide +kernel
theorem dX8_meant_25 : decode cX8_meant 25 = .ok (.getfield 46, 3) := by decide +kernel
theorem dX8_meant_28 : decode cX8_meant 28 = .ok (.iload_n 1, 1) := by decide +kernel
theorem dX8_meant_29 : decode cX8_meant 29 = .ok (.iconst 1, 1) := by decide +kernel
theorem dX8_meant_30 : decode cX8_meant 30 = .ok (.isub, 1) := by decide +kernel
theorem dX8_meant_31 : decode cX8_meant 31 = .ok (.iaload, 1) := by decide +kernel
theorem dX8_meant_32 : decode cX8_meant 32 = .ok (.aload_n 0, 1) := by decide +kernel
theorem dX8_meant_33 : decode cX8_meant 33 = .ok (.getfield 49, 3) := by decide +kernel
theorem dX8_meant_36 : decode cX8_meant 36 = .ok (.iload_n 1, 1) := by decide +kernel
theorem dX8_meant_37 : decode cX8_meant 37 = .ok (.iconst 1, 1) := by decide +kernel
theorem dX8_meant_38 : decode cX8_meant 38 = .ok (.isub, 1) := by decide +kernel
theorem dX8_meant_39 : decode cX8_meant 39 = .ok (.iaload, 1) := by decide +kernel
theorem dX8_meant_40 : decode cX8_meant 40 = .ok (.iadd, 1) := by decide +kernel
theorem dX8_meant_41 : decode cX8_meant 41 = .ok (.istore_n 3, 1) := by decide +kernel
theorem dX8_meant_42 : decode cX8_meant 42 = .ok (.iload_n 3, 1) := by decide +kernel
theorem dX8_meant_43 : decode cX8_meant 43 = .ok (.ifCond .ne 8, 3) := by decide +kernel
theorem dX8_meant_46 : decode cX8_meant 46 = .ok (.bipush (-4), 2) := by decide +kernel
theorem dX8_meant_48 : decode cX8_meant 48 = .ok (.goto 19, 3) := by decide +kernel
theorem dX8_meant_51 : decode cX8_meant 51 = .ok (.aload_n 0, 1) := by decide +kernel
theorem dX8_meant_52 : decode cX8_meant 52 = .ok (.getfield 46, 3) := by decide +kernel
theorem dX8_meant_55 : decode cX8_meant 55 = .ok (.iload_n 1, 1) := by decide +kernel
theorem dX8_meant_56 : decode cX8_meant 56 = .ok (.iconst 1, 1) := by decide +kernel
theorem dX8_meant_57 : decode cX8_meant 57 = .ok (.isub, 1) := by decide +kernel
theorem dX8_meant_58 : decode cX8_meant 58 = .ok (.iaload, 1) := by decide +kernel
theorem dX8_meant_59 : decode cX8_meant 59 = .ok (.i2l, 1) := by decide +kernel
theorem dX8_meant_60 : decode cX8_meant 60 = .ok (.iload_n 3, 1) := by decide +kernel
theorem dX8_meant_61 : decode cX8_meant 61 = .ok (.i2l, 1) := by decide +kernel
theorem dX8_meant_62 : decode cX8_meant 62 = .ok (.iload_n 2, 1) := by decide +kernel
theorem dX8_meant_63 : decode cX8_meant 63 = .ok (.invokestatic 278, 3) := by decide +kernel
theorem dX8_meant_66 : decode cX8_meant 66 = .ok (.l2i, 1) := by decide +kernel
theorem dX8_meant_67 : decode cX8_meant 67 = .ok (.ireturn, 1) := by decide +kernel
theorem dX8_sinceOf_0 : decode cX8_sinceOf 0 = .ok (.lconst 1, 1) := by decide +kernel
theorem dX8_sinceOf_1 : decode cX8_sinceOf 1 = .ok (.lstore_n 3, 1) := by decide +kernel
theorem dX8_sinceOf_2 : decode cX8_sinceOf 2 = .ok (.iconst 0, 1) := by decide +kernel
theorem dX8_sinceOf_3 : decode cX8_sinceOf 3 = .ok (.istore 5, 2) := by decide +kernel
theorem dX8_sinceOf_5 : decode cX8_sinceOf 5 = .ok (.iload 5, 2) := by decide +kernel
theorem dX8_sinceOf_7 : decode cX8_sinceOf 7 = .ok (.aload_n 0, 1) := by decide +kernel
theorem dX8_sinceOf_8 : decode cX8_sinceOf 8 = .ok (.getfield 52, 3) := by decide +kernel
theorem dX8_sinceOf_11 : decode cX8_sinceOf 11 = .ok (.iconst 0, 1) := by decide +kernel
theorem dX8_sinceOf_12 : decode cX8_sinceOf 12 = .ok (.iaload, 1) := by decide +kernel
theorem dX8_sinceOf_13 : decode cX8_sinceOf 13 = .ok (.if_icmp .ge 90, 3) := by decide +kernel
theorem dX8_sinceOf_16 : decode cX8_sinceOf 16 = .ok (.aload_n 0, 1) := by decide +kernel
theorem dX8_sinceOf_17 : decode cX8_sinceOf 17 = .ok (.getfield 55, 3) := by decide +kernel
theorem dX8_sinceOf_20 : decode cX8_sinceOf 20 = .ok (.iload 5, 2) := by decide +kernel
theorem dX8_sinceOf_22 : decode cX8_sinceOf 22 = .ok (.iaload, 1) := by decide +kernel
theorem dX8_sinceOf_23 : decode cX8_sinceOf 23 = .ok (.iload_n 1, 1) := by decide +kernel
theorem dX8_sinceOf_24 : decode cX8_sinceOf 24 = .ok (.if_icmp .ne 73, 3) := by decide +kernel
theorem dX8_sinceOf_27 : decode cX8_sinceOf 27 = .ok (.aload_n 0, 1) := by decide +kernel
theorem dX8_sinceOf_28 : decode cX8_sinceOf 28 = .ok (.getfield 58, 3) := by decide +kernel
theorem dX8_sinceOf_31 : decode cX8_sinceOf 31 = .ok (.iload 5, 2) := by decide +kernel
theorem dX8_sinceOf_33 : decode cX8_sinceOf 33 = .ok (.iaload, 1) := by decide +kernel
theorem dX8_sinceOf_34 : decode cX8_sinceOf 34 = .ok (.bipush 30, 2) := by decide +kernel
theorem dX8_sinceOf_36 : decode cX8_sinceOf 36 = .ok (.iload_n 2, 1) := by decide +kernel
theorem dX8_sinceOf_37 : decode cX8_sinceOf 37 = .ok (.imul, 1) := by decide +kernel
theorem dX8_sinceOf_38 : decode cX8_sinceOf 38 = .ok (.if_icmp .ge 7, 3) := by decide +kernel
theorem dX8_sinceOf_41 : decode cX8_sinceOf 41 = .ok (.iconst 1, 1) := by decide +kernel
theorem dX8_sinceOf_42 : decode cX8_sinceOf 42 = .ok (.goto 4, 3) := by decide +kernel
theorem dX8_sinceOf_45 : decode cX8_sinceOf 45 = .ok (.iconst 0, 1) := by decide +kernel
theorem dX8_sinceOf_46 : decode cX8_sinceOf 46 = .ok (.istore 6, 2) := by decide +kernel
theorem dX8_sinceOf_48 : decode cX8_sinceOf 48 = .ok (.lload_n 3, 1) := by decide +kernel
theorem dX8_sinceOf_49 : decode cX8_sinceOf 49 = .ok (.iload 6, 2) := by decide +kernel
theorem dX8_sinceOf_51 : decode cX8_sinceOf 51 = .ok (.ifCond .eq 24, 3) := by decide +kernel
theorem dX8_sinceOf_54 : decode cX8_sinceOf 54 = .ok (.aload_n 0, 1) := by decide +kernel
theorem dX8_sinceOf_55 : decode cX8_sinceOf 55 = .ok (.getfield 61, 3) := by decide +kernel
theorem dX8_sinceOf_58 : decode cX8_sinceOf 58 = .ok (.iload 5, 2) := by decide +kernel
theorem dX8_sinceOf_60 : decode cX8_sinceOf 60 = .ok (.iaload, 1) := by decide +kernel
theorem dX8_sinceOf_61 : decode cX8_sinceOf 61 = .ok (.iconst 1, 1) := by decide +kernel
theorem dX8_sinceOf_62 : decode cX8_sinceOf 62 = .ok (.if_icmp .ne 7, 3) := by decide +kernel
theorem dX8_sinceOf_65 : decode cX8_sinceOf 65 = .ok (.lconst 0, 1) := by decide +kernel
theorem dX8_sinceOf_66 : decode cX8_sinceOf 66 = .ok (.goto 29, 3) := by decide +kernel
theorem dX8_sinceOf_69 : decode cX8_sinceOf 69 = .ok (.ldc2_w 190, 3) := by decide +kernel
theorem dX8_sinceOf_72 : decode cX8_sinceOf 72 = .ok (.goto 23, 3) := by decide +kernel
theorem dX8_sinceOf_75 : decode cX8_sinceOf 75 = .ok (.aload_n 0, 1) := by decide +kernel
theorem dX8_sinceOf_76 : decode cX8_sinceOf 76 = .ok (.getfield 61, 3) := by decide +kernel
theorem dX8_sinceOf_79 : decode cX8_sinceOf 79 = .ok (.iload 5, 2) := by decide +kernel
theorem dX8_sinceOf_81 : decode cX8_sinceOf 81 = .ok (.iaload, 1) := by decide +kernel
theorem dX8_sinceOf_82 : decode cX8_sinceOf 82 = .ok (.iconst 1, 1) := by decide +kernel
theorem dX8_sinceOf_83 : decode cX8_sinceOf 83 = .ok (.if_icmp .ne 9, 3) := by decide +kernel
theorem dX8_sinceOf_86 : decode cX8_sinceOf 86 = .ok (.ldc2_w 130, 3) := by decide +kernel
theorem dX8_sinceOf_89 : decode cX8_sinceOf 89 = .ok (.goto 6, 3) := by decide +kernel
theorem dX8_sinceOf_92 : decode cX8_sinceOf 92 = .ok (.ldc2_w 282, 3) := by decide +kernel
theorem dX8_sinceOf_95 : decode cX8_sinceOf 95 = .ok (.lmul, 1) := by decide +kernel
theorem dX8_sinceOf_96 : decode cX8_sinceOf 96 = .ok (.lstore_n 3, 1) := by decide +kernel
theorem dX8_sinceOf_97 : decode cX8_sinceOf 97 = .ok (.iinc 5 1, 3) := by decide +kernel
theorem dX8_sinceOf_100 : decode cX8_sinceOf 100 = .ok (.goto (-95), 3) := by decide +kernel
theorem dX8_sinceOf_103 : decode cX8_sinceOf 103 = .ok (.lload_n 3, 1) := by decide +kernel
theorem dX8_sinceOf_104 : decode cX8_sinceOf 104 = .ok (.lreturn, 1) := by decide +kernel
theorem dX8_since_0 : decode cX8_since 0 = .ok (.aload_n 0, 1) := by decide +kernel
theorem dX8_since_1 : decode cX8_since 1 = .ok (.iload_n 1, 1) := by decide +kernel
theorem dX8_since_2 : decode cX8_since 2 = .ok (.invokevirtual 167, 3) := by decide +kernel
theorem dX8_since_5 : decode cX8_since 5 = .ok (.ifCond .eq 25, 3) := by decide +kernel
theorem dX8_since_8 : decode cX8_since 8 = .ok (.iload_n 2, 1) := by decide +kernel
theorem dX8_since_9 : decode cX8_since 9 = .ok (.i2l, 1) := by decide +kernel
theorem dX8_since_10 : decode cX8_since 10 = .ok (.lconst 0, 1) := by decide +kernel
theorem dX8_since_11 : decode cX8_since 11 = .ok (.ldc2_w 284, 3) := by decide +kernel
theorem dX8_since_14 : decode cX8_since 14 = .ok (.invokestatic 109, 3) := by decide +kernel
theorem dX8_since_17 : decode cX8_since 17 = .ok (.ifCond .eq 13, 3) := by decide +kernel
theorem dX8_since_20 : decode cX8_since 20 = .ok (.iload_n 3, 1) := by decide +kernel
theorem dX8_since_21 : decode cX8_since 21 = .ok (.i2l, 1) := by decide +kernel
theorem dX8_since_22 : decode cX8_since 22 = .ok (.lconst 0, 1) := by decide +kernel
theorem dX8_since_23 : decode cX8_since 23 = .ok (.lconst 1, 1) := by decide +kernel
theorem dX8_since_24 : decode cX8_since 24 = .ok (.invokestatic 109, 3) := by decide +kernel
theorem dX8_since_27 : decode cX8_since 27 = .ok (.ifCond .ne 5, 3) := by decide +kernel
theorem dX8_since_30 : decode cX8_since 30 = .ok (.iconst (-1), 1) := by decide +kernel
theorem dX8_since_31 : decode cX8_since 31 = .ok (.ireturn, 1) := by decide +kernel
theorem dX8_since_32 : decode cX8_since 32 = .ok (.lconst 0, 1) := by decide +kernel
theorem dX8_since_33 : decode cX8_since 33 = .ok (.lstore 4, 2) := by decide +kernel
theorem dX8_since_35 : decode cX8_since 35 = .ok (.iconst 0, 1) := by decide +kernel
theorem dX8_since_36 : decode cX8_since 36 = .ok (.istore 6, 2) := by decide +kernel
theorem dX8_since_38 : decode cX8_since 38 = .ok (.iload 6, 2) := by decide +kernel
theorem dX8_since_40 : decode cX8_since 40 = .ok (.bipush 12, 2) := by decide +kernel
theorem dX8_since_42 : decode cX8_since 42 = .ok (.if_icmp .ge 21, 3) := by decide +kernel
theorem dX8_since_45 : decode cX8_since 45 = .ok (.lload 4, 2) := by decide +kernel
theorem dX8_since_47 : decode cX8_since 47 = .ok (.aload_n 0, 1) := by decide +kernel
theorem dX8_since_48 : decode cX8_since 48 = .ok (.iload_n 1, 1) := by decide +kernel
theorem dX8_since_49 : decode cX8_since 49 = .ok (.iload 6, 2) := by decide +kernel
theorem dX8_since_51 : decode cX8_since 51 = .ok (.invokevirtual 286, 3) := by decide +kernel
theorem dX8_since_54 : decode cX8_since 54 = .ok (.ladd, 1) := by decide +kernel
theorem dX8_since_55 : decode cX8_since 55 = .ok (.lstore 4, 2) := by decide +kernel
theorem dX8_since_57 : decode cX8_since 57 = .ok (.iinc 6 1, 3) := by decide +kernel
theorem dX8_since_60 : decode cX8_since 60 = .ok (.goto (-22), 3) := by decide +kernel
theorem dX8_since_63 : decode cX8_since 63 = .ok (.lload 4, 2) := by decide +kernel
theorem dX8_since_65 : decode cX8_since 65 = .ok (.lconst 0, 1) := by decide +kernel
theorem dX8_since_66 : decode cX8_since 66 = .ok (.lcmp, 1) := by decide +kernel
theorem dX8_since_67 : decode cX8_since 67 = .ok (.ifCond .ne 8, 3) := by decide +kernel
theorem dX8_since_70 : decode cX8_since 70 = .ok (.bipush (-4), 2) := by decide +kernel
theorem dX8_since_72 : decode cX8_since 72 = .ok (.goto 16, 3) := by decide +kernel
theorem dX8_since_75 : decode cX8_since 75 = .ok (.aload_n 0, 1) := by decide +kernel
theorem dX8_since_76 : decode cX8_since 76 = .ok (.iload_n 1, 1) := by decide +kernel
theorem dX8_since_77 : decode cX8_since 77 = .ok (.iload_n 2, 1) := by decide +kernel
theorem dX8_since_78 : decode cX8_since 78 = .ok (.invokevirtual 286, 3) := by decide +kernel
theorem dX8_since_81 : decode cX8_since 81 = .ok (.lload 4, 2) := by decide +kernel
theorem dX8_since_83 : decode cX8_since 83 = .ok (.iload_n 3, 1) := by decide +kernel
theorem dX8_since_84 : decode cX8_since 84 = .ok (.invokestatic 278, 3) := by decide +kernel
theorem dX8_since_87 : decode cX8_since 87 = .ok (.l2i, 1) := by decide +kernel
theorem dX8_since_88 : decode cX8_since 88 = .ok (.ireturn, 1) := by decide +kernel
theorem dX8_around_0 : decode cX8_around 0 = .ok (.iload_n 0, 1) := by decide +kernel
theorem dX8_around_1 : decode cX8_around 1 = .ok (.iload_n 1, 1) := by decide +kernel
theorem dX8_around_2 : decode cX8_around 2 = .ok (.irem, 1) := by decide +kernel
theorem dX8_around_3 : decode cX8_around 3 = .ok (.iload_n 1, 1) := by decide +kernel
theorem dX8_around_4 : decode cX8_around 4 = .ok (.iadd, 1) := by decide +kernel
theorem dX8_around_5 : decode cX8_around 5 = .ok (.iload_n 1, 1) := by decide +kernel
theorem dX8_around_6 : decode cX8_around 6 = .ok (.irem, 1) := by decide +kernel
theorem dX8_around_7 : decode cX8_around 7 = .ok (.ireturn, 1) := by decide +kernel
theorem dX8_leave_0 : decode cX8_leave 0 = .ok (.iload_n 1, 1) := by decide +kernel
theorem dX8_leave_1 : decode cX8_leave 1 = .ok (.i2l, 1) := by decide +kernel
theorem dX8_leave_2 : decode cX8_leave 2 = .ok (.ldc2_w 290, 3) := by decide +kernel
theorem dX8_leave_5 : decode cX8_leave 5 = .ok (.ldc2_w 292, 3) := by decide +kernel
theorem dX8_leave_8 : decode cX8_leave 8 = .ok (.invokestatic 109, 3) := by decide +kernel
theorem dX8_leave_11 : decode cX8_leave 11 = .ok (.ifCond .eq 43, 3) := by decide +kernel
theorem dX8_leave_14 : decode cX8_leave 14 = .ok (.iload_n 2, 1) := by decide +kernel
theorem dX8_leave_15 : decode cX8_leave 15 = .ok (.i2l, 1) := by decide +kernel
theorem dX8_leave_16 : decode cX8_leave 16 = .ok (.lconst 0, 1) := by decide +kernel
theorem dX8_leave_17 : decode cX8_leave 17 = .ok (.iload_n 1, 1) := by decide +kernel
theorem dX8_leave_18 : decode cX8_leave 18 = .ok (.iconst 2, 1) := by decide +kernel
theorem dX8_leave_19 : decode cX8_leave 19 = .ok (.irem, 1) := by decide +kernel
theorem dX8_leave_20 : decode cX8_leave 20 = .ok (.iconst 1, 1) := by decide +kernel
theorem dX8_leave_21 : decode cX8_leave 21 = .ok (.if_icmp .ne 10, 3) := by decide +kernel
theorem dX8_leave_24 : decode cX8_leave 24 = .ok (.iload_n 1, 1) := by decide +kernel
theorem dX8_leave_25 : decode cX8_leave 25 = .ok (.iconst 1, 1) := by decide +kernel
theorem dX8_leave_26 : decode cX8_leave 26 = .ok (.isub, 1) := by decide +kernel
theorem dX8_leave_27 : decode cX8_leave 27 = .ok (.i2l, 1) := by decide +kernel
theorem dX8_leave_28 : decode cX8_leave 28 = .ok (.goto 7, 3) := by decide +kernel
theorem dX8_leave_31 : decode cX8_leave 31 = .ok (.iload_n 1, 1) := by decide +kernel
theorem dX8_leave_32 : decode cX8_leave 32 = .ok (.iconst 2, 1) := by decide +kernel
theorem dX8_leave_33 : decode cX8_leave 33 = .ok (.isub, 1) := by decide +kernel
theorem dX8_leave_34 : decode cX8_leave 34 = .ok (.i2l, 1) := by decide +kernel
theorem dX8_leave_35 : decode cX8_leave 35 = .ok (.invokestatic 109, 3) := by decide +kernel
theorem dX8_leave_38 : decode cX8_leave 38 = .ok (.ifCond .eq 16, 3) := by decide +kernel
theorem dX8_leave_41 : decode cX8_leave 41 = .ok (.iload_n 3, 1) := by decide +kernel
theorem dX8_leave_42 : decode cX8_leave 42 = .ok (.i2l, 1) := by decide +kernel
theorem dX8_leave_43 : decode cX8_leave 43 = .ok (.lconst 0, 1) := by decide +kernel
theorem dX8_leave_44 : decode cX8_leave 44 = .ok (.iload_n 1, 1) := by decide +kernel
theorem dX8_leave_45 : decode cX8_leave 45 = .ok (.iconst 1, 1) := by decide +kernel
theorem dX8_leave_46 : decode cX8_leave 46 = .ok (.isub, 1) := by decide +kernel
theorem dX8_leave_47 : decode cX8_leave 47 = .ok (.i2l, 1) := by decide +kernel
theorem dX8_leave_48 : decode cX8_leave 48 = .ok (.invokestatic 109, 3) := by decide +kernel
theorem dX8_leave_51 : decode cX8_leave 51 = .ok (.ifCond .ne 5, 3) := by decide +kernel
theorem dX8_leave_54 : decode cX8_leave 54 = .ok (.iconst (-1), 1) := by decide +kernel
theorem dX8_leave_55 : decode cX8_leave 55 = .ok (.ireturn, 1) := by decide +kernel
theorem dX8_leave_56 : decode cX8_leave 56 = .ok (.iload_n 1, 1) := by decide +kernel
theorem dX8_leave_57 : decode cX8_leave 57 = .ok (.iconst 2, 1) := by decide +kernel
theorem dX8_leave_58 : decode cX8_leave 58 = .ok (.irem, 1) := by decide +kernel
theorem dX8_leave_59 : decode cX8_leave 59 = .ok (.iconst 1, 1) := by decide +kernel
theorem dX8_leave_60 : decode cX8_leave 60 = .ok (.if_icmp .ne 26, 3) := by decide +kernel
theorem dX8_leave_63 : decode cX8_leave 63 = .ok (.iload_n 2, 1) := by decide +kernel
theorem dX8_leave_64 : decode cX8_leave 64 = .ok (.iload_n 3, 1) := by decide +kernel
theorem dX8_leave_65 : decode cX8_leave 65 = .ok (.isub, 1) := by decide +kernel
theorem dX8_leave_66 : decode cX8_leave 66 = .ok (.iload_n 1, 1) := by decide +kernel
theorem dX8_leave_67 : decode cX8_leave 67 = .ok (.invokestatic 294, 3) := by decide +kernel
theorem dX8_leave_70 : decode cX8_leave 70 = .ok (.istore 4, 2) := by decide +kernel
theorem dX8_leave_72 : decode cX8_leave 72 = .ok (.iload 4, 2) := by decide +kernel
theorem dX8_leave_74 : decode cX8_leave 74 = .ok (.iload_n 3, 1) := by decide +kernel
theorem dX8_leave_75 : decode cX8_leave 75 = .ok (.if_icmp .ne 8, 3) := by decide +kernel
theorem dX8_leave_78 : decode cX8_leave 78 = .ok (.bipush (-4), 2) := by decide +kernel
theorem dX8_leave_80 : decode cX8_leave 80 = .ok (.goto 5, 3) := by decide +kernel
theorem dX8_leave_83 : decode cX8_leave 83 = .ok (.iload 4, 2) := by decide +kernel
theorem dX8_leave_85 : decode cX8_leave 85 = .ok (.ireturn, 1) := by decide +kernel
theorem dX8_leave_86 : decode cX8_leave 86 = .ok (.iload_n 3, 1) := by decide +kernel
theorem dX8_leave_87 : decode cX8_leave 87 = .ok (.iload_n 1, 1) := by decide +kernel
theorem dX8_leave_88 : decode cX8_leave 88 = .ok (.iconst 1, 1) := by decide +kernel
theorem dX8_leave_89 : decode cX8_leave 89 = .ok (.isub, 1) := by decide +kernel
theorem dX8_leave_90 : decode cX8_leave 90 = .ok (.if_icmp .ge 29, 3) := by decide +kernel
theorem dX8_leave_93 : decode cX8_leave 93 = .ok (.iload_n 2, 1) := by decide +kernel
theorem dX8_leave_94 : decode cX8_leave 94 = .ok (.iload_n 3, 1) := by decide +kernel
theorem dX8_leave_95 : decode cX8_leave 95 = .ok (.isub, 1) := by decide +kernel
theorem dX8_leave_96 : decode cX8_leave 96 = .ok (.iload_n 1, 1) := by decide +kernel
theorem dX8_leave_97 : decode cX8_leave 97 = .ok (.iconst 1, 1) := by decide +kernel
theorem dX8_leave_98 : decode cX8_leave 98 = .ok (.isub, 1) := by decide +kernel
theorem dX8_leave_99 : decode cX8_leave 99 = .ok (.invokestatic 294, 3) := by decide +kernel
theorem dX8_leave_102 : decode cX8_leave 102 = .ok (.istore 4, 2) := by decide +kernel
theorem dX8_leave_104 : decode cX8_leave 104 = .ok (.iload 4, 2) := by decide +kernel
theorem dX8_leave_106 : decode cX8_leave 106 = .ok (.iload_n 3, 1) := by decide +kernel
theorem dX8_leave_107 : decode cX8_leave 107 = .ok (.if_icmp .ne 9, 3) := by decide +kernel
theorem dX8_leave_110 : decode cX8_leave 110 = .ok (.iload_n 1, 1) := by decide +kernel
theorem dX8_leave_111 : decode cX8_leave 111 = .ok (.iconst 1, 1) := by decide +kernel
theorem dX8_leave_112 : decode cX8_leave 112 = .ok (.isub, 1) := by decide +kernel
theorem dX8_leave_113 : decode cX8_leave 113 = .ok (.goto 5, 3) := by decide +kernel
theorem dX8_leave_116 : decode cX8_leave 116 = .ok (.iload 4, 2) := by decide +kernel
theorem dX8_leave_118 : decode cX8_leave 118 = .ok (.ireturn, 1) := by decide +kernel
theorem dX8_leave_119 : decode cX8_leave 119 = .ok (.iconst 0, 1) := by decide +kernel
theorem dX8_leave_120 : decode cX8_leave 120 = .ok (.istore 4, 2) := by decide +kernel
theorem dX8_leave_122 : decode cX8_leave 122 = .ok (.iload_n 2, 1) := by decide +kernel
theorem dX8_leave_123 : decode cX8_leave 123 = .ok (.iload 4, 2) := by decide +kernel
theorem dX8_leave_125 : decode cX8_leave 125 = .ok (.isub, 1) := by decide +kernel
theorem dX8_leave_126 : decode cX8_leave 126 = .ok (.iload_n 1, 1) := by decide +kernel
theorem dX8_leave_127 : decode cX8_leave 127 = .ok (.iconst 1, 1) := by decide +kernel
theorem dX8_leave_128 : decode cX8_leave 128 = .ok (.isub, 1) := by decide +kernel
theorem dX8_leave_129 : decode cX8_leave 129 = .ok (.invokestatic 294, 3) := by decide +kernel
theorem dX8_leave_132 : decode cX8_leave 132 = .ok (.iload 4, 2) := by decide +kernel
theorem dX8_leave_134 : decode cX8_leave 134 = .ok (.if_icmp .eq 9, 3) := by decide +kernel
theorem dX8_leave_137 : decode cX8_leave 137 = .ok (.iinc 4 1, 3) := by decide +kernel
theorem dX8_leave_140 : decode cX8_leave 140 = .ok (.goto (-18), 3) := by decide +kernel
theorem dX8_leave_143 : decode cX8_leave 143 = .ok (.iload 4, 2) := by decide +kernel
theorem dX8_leave_145 : decode cX8_leave 145 = .ok (.ireturn, 1) := by decide +kernel
theorem dX8_drawn_0 : decode cX8_drawn 0 = .ok (.iload_n 1, 1) := by decide +kernel
theorem dX8_drawn_1 : decode cX8_drawn 1 = .ok (.i2l, 1) := by decide +kernel
theorem dX8_drawn_2 : decode cX8_drawn 2 = .ok (.lconst 0, 1) := by decide +kernel
theorem dX8_drawn_3 : decode cX8_drawn 3 = .ok (.ldc2_w 297, 3) := by decide +kernel
theorem dX8_drawn_6 : decode cX8_drawn 6 = .ok (.invokestatic 109, 3) := by decide +kernel
theorem dX8_drawn_9 : decode cX8_drawn 9 = .ok (.ifCond .eq 13, 3) := by decide +kernel
theorem dX8_drawn_12 : decode cX8_drawn 12 = .ok (.iload_n 2, 1) := by decide +kernel
theorem dX8_drawn_13 : decode cX8_drawn 13 = .ok (.i2l, 1) := by decide +kernel
theorem dX8_drawn_14 : decode cX8_drawn 14 = .ok (.lconst 0, 1) := by decide +kernel
theorem dX8_drawn_15 : decode cX8_drawn 15 = .ok (.lconst 1, 1) := by decide +kernel
theorem dX8_drawn_16 : decode cX8_drawn 16 = .ok (.invokestatic 109, 3) := by decide +kernel
theorem dX8_drawn_19 : decode cX8_drawn 19 = .ok (.ifCond .ne 5, 3) := by decide +kernel
theorem dX8_drawn_22 : decode cX8_drawn 22 = .ok (.iconst (-1), 1) := by decide +kernel
theorem dX8_drawn_23 : decode cX8_drawn 23 = .ok (.ireturn, 1) := by decide +kernel
theorem dX8_drawn_24 : decode cX8_drawn 24 = .ok (.aload_n 0, 1) := by decide +kernel
theorem dX8_drawn_25 : decode cX8_drawn 25 = .ok (.invokevirtual 224, 3) := by decide +kernel
theorem dX8_drawn_28 : decode cX8_drawn 28 = .ok (.aload_n 0, 1) := by decide +kernel
theorem dX8_drawn_29 : decode cX8_drawn 29 = .ok (.iload_n 1, 1) := by decide +kernel
theorem dX8_drawn_30 : decode cX8_drawn 30 = .ok (.putfield 179, 3) := by decide +kernel
theorem dX8_drawn_33 : decode cX8_drawn 33 = .ok (.aload_n 0, 1) := by decide +kernel
theorem dX8_drawn_34 : decode cX8_drawn 34 = .ok (.invokevirtual 227, 3) := by decide +kernel
theorem dX8_drawn_37 : decode cX8_drawn 37 = .ok (.iload_n 2, 1) := by decide +kernel
theorem dX8_drawn_38 : decode cX8_drawn 38 = .ok (.ifCond .ne 10, 3) := by decide +kernel
theorem dX8_drawn_41 : decode cX8_drawn 41 = .ok (.aload_n 0, 1) := by decide +kernel
theorem dX8_drawn_42 : decode cX8_drawn 42 = .ok (.invokevirtual 218, 3) := by decide +kernel
theorem dX8_drawn_45 : decode cX8_drawn 45 = .ok (.goto 7, 3) := by decide +kernel
theorem dX8_drawn_48 : decode cX8_drawn 48 = .ok (.aload_n 0, 1) := by decide +kernel
theorem dX8_drawn_49 : decode cX8_drawn 49 = .ok (.invokevirtual 240, 3) := by decide +kernel
theorem dX8_drawn_52 : decode cX8_drawn 52 = .ok (.ireturn, 1) := by decide +kernel
theorem dX8_note_0 : decode cX8_note 0 = .ok (.aload_n 0, 1) := by decide +kernel
theorem dX8_note_1 : decode cX8_note 1 = .ok (.getfield 164, 3) := by decide +kernel
theorem dX8_note_4 : decode cX8_note 4 = .ok (.bipush 8, 2) := by decide +kernel
theorem dX8_note_6 : decode cX8_note 6 = .ok (.if_icmp .ne 41, 3) := by decide +kernel
theorem dX8_note_9 : decode cX8_note 9 = .ok (.iconst 1, 1) := by decide +kernel
theorem dX8_note_10 : decode cX8_note 10 = .ok (.istore_n 2, 1) := by decide +kernel
theorem dX8_note_11 : decode cX8_note 11 = .ok (.iload_n 2, 1) := by decide +kernel
theorem dX8_note_12 : decode cX8_note 12 = .ok (.bipush 8, 2) := by decide +kernel
theorem dX8_note_14 : decode cX8_note 14 = .ok (.if_icmp .ge 23, 3) := by decide +kernel
theorem dX8_note_17 : decode cX8_note 17 = .ok (.aload_n 0, 1) := by decide +kernel
theorem dX8_note_18 : decode cX8_note 18 = .ok (.getfield 79, 3) := by decide +kernel
theorem dX8_note_21 : decode cX8_note 21 = .ok (.iload_n 2, 1) := by decide +kernel
theorem dX8_note_22 : decode cX8_note 22 = .ok (.iconst 1, 1) := by decide +kernel
theorem dX8_note_23 : decode cX8_note 23 = .ok (.isub, 1) := by decide +kernel
theorem dX8_note_24 : decode cX8_note 24 = .ok (.aload_n 0, 1) := by decide +kernel
theorem dX8_note_25 : decode cX8_note 25 = .ok (.getfield 79, 3) := by decide +kernel
theorem dX8_note_28 : decode cX8_note 28 = .ok (.iload_n 2, 1) := by decide +kernel
theorem dX8_note_29 : decode cX8_note 29 = .ok (.iaload, 1) := by decide +kernel
theorem dX8_note_30 : decode cX8_note 30 = .ok (.iastore, 1) := by decide +kernel
theorem dX8_note_31 : decode cX8_note 31 = .ok (.iinc 2 1, 3) := by decide +kernel
theorem dX8_note_34 : decode cX8_note 34 = .ok (.goto (-23), 3) := by decide +kernel
theorem dX8_note_37 : decode cX8_note 37 = .ok (.aload_n 0, 1) := by decide +kernel
theorem dX8_note_38 : decode cX8_note 38 = .ok (.dup, 1) := by decide +kernel
theorem dX8_note_39 : decode cX8_note 39 = .ok (.getfield 164, 3) := by decide +kernel
theorem dX8_note_42 : decode cX8_note 42 = .ok (.iconst 1, 1) := by decide +kernel
theorem dX8_note_43 : decode cX8_note 43 = .ok (.isub, 1) := by decide +kernel
theorem dX8_note_44 : decode cX8_note 44 = .ok (.putfield 164, 3) := by decide +kernel
theorem dX8_note_47 : decode cX8_note 47 = .ok (.aload_n 0, 1) := by decide +kernel
theorem dX8_note_48 : decode cX8_note 48 = .ok (.getfield 79, 3) := by decide +kernel
theorem dX8_note_51 : decode cX8_note 51 = .ok (.aload_n 0, 1) := by decide +kernel
theorem dX8_note_52 : decode cX8_note 52 = .ok (.getfield 164, 3) := by decide +kernel
theorem dX8_note_55 : decode cX8_note 55 = .ok (.iload_n 1, 1) := by decide +kernel
theorem dX8_note_56 : decode cX8_note 56 = .ok (.iastore, 1) := by decide +kernel
theorem dX8_note_57 : decode cX8_note 57 = .ok (.aload_n 0, 1) := by decide +kernel
theorem dX8_note_58 : decode cX8_note 58 = .ok (.dup, 1) := by decide +kernel
theorem dX8_note_59 : decode cX8_note 59 = .ok (.getfield 164, 3) := by decide +kernel
theorem dX8_note_62 : decode cX8_note 62 = .ok (.iconst 1, 1) := by decide +kernel
theorem dX8_note_63 : decode cX8_note 63 = .ok (.iadd, 1) := by decide +kernel
theorem dX8_note_64 : decode cX8_note 64 = .ok (.putfield 164, 3) := by decide +kernel
theorem dX8_note_67 : decode cX8_note 67 = .ok (.return_, 1) := by decide +kernel
theorem dX8_sign_0 : decode cX8_sign 0 = .ok (.iload_n 1, 1) := by decide +kernel
theorem dX8_sign_1 : decode cX8_sign 1 = .ok (.invokestatic 138, 3) := by decide +kernel
theorem dX8_sign_4 : decode cX8_sign 4 = .ok (.ifCond .eq 15, 3) := by decide +kernel
theorem dX8_sign_7 : decode cX8_sign 7 = .ok (.iload_n 2, 1) := by decide +kernel
theorem dX8_sign_8 : decode cX8_sign 8 = .ok (.i2l, 1) := by decide +kernel
theorem dX8_sign_9 : decode cX8_sign 9 = .ok (.lconst 1, 1) := by decide +kernel
theorem dX8_sign_10 : decode cX8_sign 10 = .ok (.ldc2_w 148, 3) := by decide +kernel
theorem dX8_sign_13 : decode cX8_sign 13 = .ok (.invokestatic 109, 3) := by decide +kernel
theorem dX8_sign_16 : decode cX8_sign 16 = .ok (.ifCond .ne 5, 3) := by decide +kernel
theorem dX8_sign_19 : decode cX8_sign 19 = .ok (.iconst (-1), 1) := by decide +kernel
theorem dX8_sign_20 : decode cX8_sign 20 = .ok (.ireturn, 1) := by decide +kernel
theorem dX8_sign_21 : decode cX8_sign 21 = .ok (.aload_n 0, 1) := by decide +kernel
theorem dX8_sign_22 : decode cX8_sign 22 = .ok (.getfield 64, 3) := by decide +kernel
theorem dX8_sign_25 : decode cX8_sign 25 = .ok (.iconst 0, 1) := by decide +kernel
theorem dX8_sign_26 : decode cX8_sign 26 = .ok (.iaload, 1) := by decide +kernel
theorem dX8_sign_27 : decode cX8_sign 27 = .ok (.bipush 6, 2) := by decide +kernel
theorem dX8_sign_29 : decode cX8_sign 29 = .ok (.if_icmp .ne 6, 3) := by decide +kernel
theorem dX8_sign_32 : decode cX8_sign 32 = .ok (.bipush (-3), 2) := by decide +kernel
theorem dX8_sign_34 : decode cX8_sign 34 = .ok (.ireturn, 1) := by decide +kernel
theorem dX8_sign_35 : decode cX8_sign 35 = .ok (.aload_n 0, 1) := by decide +kernel
theorem dX8_sign_36 : decode cX8_sign 36 = .ok (.getfield 67, 3) := by decide +kernel
theorem dX8_sign_39 : decode cX8_sign 39 = .ok (.aload_n 0, 1) := by decide +kernel
theorem dX8_sign_40 : decode cX8_sign 40 = .ok (.getfield 64, 3) := by decide +kernel
theorem dX8_sign_43 : decode cX8_sign 43 = .ok (.iconst 0, 1) := by decide +kernel
theorem dX8_sign_44 : decode cX8_sign 44 = .ok (.iaload, 1) := by decide +kernel
theorem dX8_sign_45 : decode cX8_sign 45 = .ok (.iload_n 1, 1) := by decide +kernel
theorem dX8_sign_46 : decode cX8_sign 46 = .ok (.iastore, 1) := by decide +kernel
theorem dX8_sign_47 : decode cX8_sign 47 = .ok (.aload_n 0, 1) := by decide +kernel
theorem dX8_sign_48 : decode cX8_sign 48 = .ok (.getfield 70, 3) := by decide +kernel
theorem dX8_sign_51 : decode cX8_sign 51 = .ok (.aload_n 0, 1) := by decide +kernel
theorem dX8_sign_52 : decode cX8_sign 52 = .ok (.getfield 64, 3) := by decide +kernel
theorem dX8_sign_55 : decode cX8_sign 55 = .ok (.iconst 0, 1) := by decide +kernel
theorem dX8_sign_56 : decode cX8_sign 56 = .ok (.iaload, 1) := by decide +kernel
theorem dX8_sign_57 : decode cX8_sign 57 = .ok (.iload_n 2, 1) := by decide +kernel
theorem dX8_sign_58 : decode cX8_sign 58 = .ok (.iastore, 1) := by decide +kernel
theorem dX8_sign_59 : decode cX8_sign 59 = .ok (.aload_n 0, 1) := by decide +kernel
theorem dX8_sign_60 : decode cX8_sign 60 = .ok (.getfield 64, 3) := by decide +kernel
theorem dX8_sign_63 : decode cX8_sign 63 = .ok (.iconst 0, 1) := by decide +kernel
theorem dX8_sign_64 : decode cX8_sign 64 = .ok (.dup2, 1) := by decide +kernel
theorem dX8_sign_65 : decode cX8_sign 65 = .ok (.iaload, 1) := by decide +kernel
theorem dX8_sign_66 : decode cX8_sign 66 = .ok (.iconst 1, 1) := by decide +kernel
theorem dX8_sign_67 : decode cX8_sign 67 = .ok (.iadd, 1) := by decide +kernel
theorem dX8_sign_68 : decode cX8_sign 68 = .ok (.iastore, 1) := by decide +kernel
theorem dX8_sign_69 : decode cX8_sign 69 = .ok (.aload_n 0, 1) := by decide +kernel
theorem dX8_sign_70 : decode cX8_sign 70 = .ok (.iconst 0, 1) := by decide +kernel
theorem dX8_sign_71 : decode cX8_sign 71 = .ok (.invokevirtual 299, 3) := by decide +kernel
theorem dX8_sign_74 : decode cX8_sign 74 = .ok (.aload_n 0, 1) := by decide +kernel
theorem dX8_sign_75 : decode cX8_sign 75 = .ok (.getfield 64, 3) := by decide +kernel
theorem dX8_sign_78 : decode cX8_sign 78 = .ok (.iconst 0, 1) := by decide +kernel
theorem dX8_sign_79 : decode cX8_sign 79 = .ok (.iaload, 1) := by decide +kernel
theorem dX8_sign_80 : decode cX8_sign 80 = .ok (.ireturn, 1) := by decide +kernel
theorem dX8_say_0 : decode cX8_say 0 = .ok (.iload_n 1, 1) := by decide +kernel
theorem dX8_say_1 : decode cX8_say 1 = .ok (.invokestatic 138, 3) := by decide +kernel
theorem dX8_say_4 : decode cX8_say 4 = .ok (.ifCond .ne 5, 3) := by decide +kernel
theorem dX8_say_7 : decode cX8_say 7 = .ok (.iconst (-1), 1) := by decide +kernel
theorem dX8_say_8 : decode cX8_say 8 = .ok (.ireturn, 1) := by decide +kernel
theorem dX8_say_9 : decode cX8_say 9 = .ok (.aload_n 0, 1) := by decide +kernel
theorem dX8_say_10 : decode cX8_say 10 = .ok (.getfield 73, 3) := by decide +kernel
theorem dX8_say_13 : decode cX8_say 13 = .ok (.iconst 0, 1) := by decide +kernel
theorem dX8_say_14 : decode cX8_say 14 = .ok (.iaload, 1) := by decide +kernel
theorem dX8_say_15 : decode cX8_say 15 = .ok (.iconst 4, 1) := by decide +kernel
theorem dX8_say_16 : decode cX8_say 16 = .ok (.if_icmp .ne 6, 3) := by decide +kernel
theorem dX8_say_19 : decode cX8_say 19 = .ok (.bipush (-3), 2) := by decide +kernel
theorem dX8_say_21 : decode cX8_say 21 = .ok (.ireturn, 1) := by decide +kernel
theorem dX8_say_22 : decode cX8_say 22 = .ok (.aload_n 0, 1) := by decide +kernel
theorem dX8_say_23 : decode cX8_say 23 = .ok (.getfield 76, 3) := by decide +kernel
theorem dX8_say_26 : decode cX8_say 26 = .ok (.aload_n 0, 1) := by decide +kernel
theorem dX8_say_27 : decode cX8_say 27 = .ok (.getfield 73, 3) := by decide +kernel
theorem dX8_say_30 : decode cX8_say 30 = .ok (.iconst 0, 1) := by decide +kernel
theorem dX8_say_31 : decode cX8_say 31 = .ok (.iaload, 1) := by decide +kernel
theorem dX8_say_32 : decode cX8_say 32 = .ok (.iload_n 1, 1) := by decide +kernel
theorem dX8_say_33 : decode cX8_say 33 = .ok (.iastore, 1) := by decide +kernel
theorem dX8_say_34 : decode cX8_say 34 = .ok (.aload_n 0, 1) := by decide +kernel
theorem dX8_say_35 : decode cX8_say 35 = .ok (.getfield 73, 3) := by decide +kernel
theorem dX8_say_38 : decode cX8_say 38 = .ok (.iconst 0, 1) := by decide +kernel
theorem dX8_say_39 : decode cX8_say 39 = .ok (.dup2, 1) := by decide +kernel
theorem dX8_say_40 : decode cX8_say 40 = .ok (.iaload, 1) := by decide +kernel
theorem dX8_say_41 : decode cX8_say 41 = .ok (.iconst 1, 1) := by decide +kernel
theorem dX8_say_42 : decode cX8_say 42 = .ok (.iadd, 1) := by decide +kernel
theorem dX8_say_43 : decode cX8_say 43 = .ok (.iastore, 1) := by decide +kernel
theorem dX8_say_44 : decode cX8_say 44 = .ok (.aload_n 0, 1) := by decide +kernel
theorem dX8_say_45 : decode cX8_say 45 = .ok (.iconst 1, 1) := by decide +kernel
theorem dX8_say_46 : decode cX8_say 46 = .ok (.invokevirtual 299, 3) := by decide +kernel
theorem dX8_say_49 : decode cX8_say 49 = .ok (.aload_n 0, 1) := by decide +kernel
theorem dX8_say_50 : decode cX8_say 50 = .ok (.getfield 73, 3) := by decide +kernel
theorem dX8_say_53 : decode cX8_say 53 = .ok (.iconst 0, 1) := by decide +kernel
theorem dX8_say_54 : decode cX8_say 54 = .ok (.iaload, 1) := by decide +kernel
theorem dX8_say_55 : decode cX8_say 55 = .ok (.ireturn, 1) := by decide +kernel
theorem dX8_takeBack_0 : decode cX8_takeBack 0 = .ok (.aload_n 0, 1) := by decide +kernel
theorem dX8_takeBack_1 : decode cX8_takeBack 1 = .ok (.getfield 164, 3) := by decide +kernel
theorem dX8_takeBack_4 : decode cX8_takeBack 4 = .ok (.ifCond .ne 6, 3) := by decide +kernel
theorem dX8_takeBack_7 : decode cX8_takeBack 7 = .ok (.bipush (-2), 2) := by decide +kernel
theorem dX8_takeBack_9 : decode cX8_takeBack 9 = .ok (.ireturn, 1) := by decide +kernel
theorem dX8_takeBack_10 : decode cX8_takeBack 10 = .ok (.aload_n 0, 1) := by decide +kernel
theorem dX8_takeBack_11 : decode cX8_takeBack 11 = .ok (.dup, 1) := by decide +kernel
theorem dX8_takeBack_12 : decode cX8_takeBack 12 = .ok (.getfield 164, 3) := by decide +kernel
theorem dX8_takeBack_15 : decode cX8_takeBack 15 = .ok (.iconst 1, 1) := by decide +kernel
theorem dX8_takeBack_16 : decode cX8_takeBack 16 = .ok (.isub, 1) := by decide +kernel
theorem dX8_takeBack_17 : decode cX8_takeBack 17 = .ok (.putfield 164, 3) := by decide +kernel
theorem dX8_takeBack_20 : decode cX8_takeBack 20 = .ok (.aload_n 0, 1) := by decide +kernel
theorem dX8_takeBack_21 : decode cX8_takeBack 21 = .ok (.getfield 79, 3) := by decide +kernel
theorem dX8_takeBack_24 : decode cX8_takeBack 24 = .ok (.aload_n 0, 1) := by decide +kernel
theorem dX8_takeBack_25 : decode cX8_takeBack 25 = .ok (.getfield 164, 3) := by decide +kernel
theorem dX8_takeBack_28 : decode cX8_takeBack 28 = .ok (.iaload, 1) := by decide +kernel
theorem dX8_takeBack_29 : decode cX8_takeBack 29 = .ok (.ifCond .ne 16, 3) := by decide +kernel
theorem dX8_takeBack_32 : decode cX8_takeBack 32 = .ok (.aload_n 0, 1) := by decide +kernel
theorem dX8_takeBack_33 : decode cX8_takeBack 33 = .ok (.getfield 64, 3) := by decide +kernel
theorem dX8_takeBack_36 : decode cX8_takeBack 36 = .ok (.iconst 0, 1) := by decide +kernel
theorem dX8_takeBack_37 : decode cX8_takeBack 37 = .ok (.dup2, 1) := by decide +kernel
theorem dX8_takeBack_38 : decode cX8_takeBack 38 = .ok (.iaload, 1) := by decide +kernel
theorem dX8_takeBack_39 : decode cX8_takeBack 39 = .ok (.iconst 1, 1) := by decide +kernel
theorem dX8_takeBack_40 : decode cX8_takeBack 40 = .ok (.isub, 1) := by decide +kernel
theorem dX8_takeBack_41 : decode cX8_takeBack 41 = .ok (.iastore, 1) := by decide +kernel
theorem dX8_takeBack_42 : decode cX8_takeBack 42 = .ok (.goto 13, 3) := by decide +kernel
theorem dX8_takeBack_45 : decode cX8_takeBack 45 = .ok (.aload_n 0, 1) := by decide +kernel
theorem dX8_takeBack_46 : decode cX8_takeBack 46 = .ok (.getfield 73, 3) := by decide +kernel
theorem dX8_takeBack_49 : decode cX8_takeBack 49 = .ok (.iconst 0, 1) := by decide +kernel
theorem dX8_takeBack_50 : decode cX8_takeBack 50 = .ok (.dup2, 1) := by decide +kernel
theorem dX8_takeBack_51 : decode cX8_takeBack 51 = .ok (.iaload, 1) := by decide +kernel
theorem dX8_takeBack_52 : decode cX8_takeBack 52 = .ok (.iconst 1, 1) := by decide +kernel
theorem dX8_takeBack_53 : decode cX8_takeBack 53 = .ok (.isub, 1) := by decide +kernel
theorem dX8_takeBack_54 : decode cX8_takeBack 54 = .ok (.iastore, 1) := by decide +kernel
theorem dX8_takeBack_55 : decode cX8_takeBack 55 = .ok (.aload_n 0, 1) := by decide +kernel
theorem dX8_takeBack_56 : decode cX8_takeBack 56 = .ok (.getfield 164, 3) := by decide +kernel
theorem dX8_takeBack_59 : decode cX8_takeBack 59 = .ok (.ireturn, 1) := by decide +kernel
theorem dX8_keep_0 : decode cX8_keep 0 = .ok (.aload_n 0, 1) := by decide +kernel
theorem dX8_keep_1 : decode cX8_keep 1 = .ok (.getfield 161, 3) := by decide +kernel
theorem dX8_keep_4 : decode cX8_keep 4 = .ok (.iconst 2, 1) := by decide +kernel
theorem dX8_keep_5 : decode cX8_keep 5 = .ok (.if_icmp .ne 6, 3) := by decide +kernel
theorem dX8_keep_8 : decode cX8_keep 8 = .ok (.bipush (-3), 2) := by decide +kernel
theorem dX8_keep_10 : decode cX8_keep 10 = .ok (.ireturn, 1) := by decide +kernel
theorem dX8_keep_11 : decode cX8_keep 11 = .ok (.aload_n 0, 1) := by decide +kernel
theorem dX8_keep_12 : decode cX8_keep 12 = .ok (.dup, 1) := by decide +kernel
theorem dX8_keep_13 : decode cX8_keep 13 = .ok (.getfield 161, 3) := by decide +kernel
theorem dX8_keep_16 : decode cX8_keep 16 = .ok (.iconst 1, 1) := by decide +kernel
theorem dX8_keep_17 : decode cX8_keep 17 = .ok (.iadd, 1) := by decide +kernel
theorem dX8_keep_18 : decode cX8_keep 18 = .ok (.putfield 161, 3) := by decide +kernel
theorem dX8_keep_21 : decode cX8_keep 21 = .ok (.aload_n 0, 1) := by decide +kernel
theorem dX8_keep_22 : decode cX8_keep 22 = .ok (.iconst 0, 1) := by decide +kernel
theorem dX8_keep_23 : decode cX8_keep 23 = .ok (.iconst 1, 1) := by decide +kernel
theorem dX8_keep_24 : decode cX8_keep 24 = .ok (.aload_n 0, 1) := by decide +kernel
theorem dX8_keep_25 : decode cX8_keep 25 = .ok (.getfield 161, 3) := by decide +kernel
theorem dX8_keep_28 : decode cX8_keep 28 = .ok (.iadd, 1) := by decide +kernel
theorem dX8_keep_29 : decode cX8_keep 29 = .ok (.invokevirtual 157, 3) := by decide +kernel
theorem dX8_keep_32 : decode cX8_keep 32 = .ok (.aload_n 0, 1) := by decide +kernel
theorem dX8_keep_33 : decode cX8_keep 33 = .ok (.getfield 161, 3) := by decide +kernel
theorem dX8_keep_36 : decode cX8_keep 36 = .ok (.ireturn, 1) := by decide +kernel
theorem dX8_back_0 : decode cX8_back 0 = .ok (.aload_n 0, 1) := by decide +kernel
theorem dX8_back_1 : decode cX8_back 1 = .ok (.getfield 161, 3) := by decide +kernel
theorem dX8_back_4 : decode cX8_back 4 = .ok (.ifCond .ne 6, 3) := by decide +kernel
theorem dX8_back_7 : decode cX8_back 7 = .ok (.bipush (-2), 2) := by decide +kernel
theorem dX8_back_9 : decode cX8_back 9 = .ok (.ireturn, 1) := by decide +kernel
theorem dX8_back_10 : decode cX8_back 10 = .ok (.aload_n 0, 1) := by decide +kernel
theorem dX8_back_11 : decode cX8_back 11 = .ok (.iconst 1, 1) := by decide +kernel
theorem dX8_back_12 : decode cX8_back 12 = .ok (.aload_n 0, 1) := by decide +kernel
theorem dX8_back_13 : decode cX8_back 13 = .ok (.getfield 161, 3) := by decide +kernel
theorem dX8_back_16 : decode cX8_back 16 = .ok (.iadd, 1) := by decide +kernel
theorem dX8_back_17 : decode cX8_back 17 = .ok (.iconst 0, 1) := by decide +kernel
theorem dX8_back_18 : decode cX8_back 18 = .ok (.invokevirtual 157, 3) := by decide +kernel
theorem dX8_back_21 : decode cX8_back 21 = .ok (.aload_n 0, 1) := by decide +kernel
theorem dX8_back_22 : decode cX8_back 22 = .ok (.dup, 1) := by decide +kernel
theorem dX8_back_23 : decode cX8_back 23 = .ok (.getfield 161, 3) := by decide +kernel
theorem dX8_back_26 : decode cX8_back 26 = .ok (.iconst 1, 1) := by decide +kernel
theorem dX8_back_27 : decode cX8_back 27 = .ok (.isub, 1) := by decide +kernel
theorem dX8_back_28 : decode cX8_back 28 = .ok (.putfield 161, 3) := by decide +kernel
theorem dX8_back_31 : decode cX8_back 31 = .ok (.aload_n 0, 1) := by decide +kernel
theorem dX8_back_32 : decode cX8_back 32 = .ok (.iconst 0, 1) := by decide +kernel
theorem dX8_back_33 : decode cX8_back 33 = .ok (.putfield 164, 3) := by decide +kernel
theorem dX8_back_36 : decode cX8_back 36 = .ok (.aload_n 0, 1) := by decide +kernel
theorem dX8_back_37 : decode cX8_back 37 = .ok (.getfield 161, 3) := by decide +kernel
theorem dX8_back_40 : decode cX8_back 40 = .ok (.ireturn, 1) := by decide +kernel
theorem dX8_pairMany_0 : decode cX8_pairMany 0 = .ok (.iconst 0, 1) := by decide +kernel
theorem dX8_pairMany_1 : decode cX8_pairMany 1 = .ok (.istore_n 1, 1) := by decide +kernel
theorem dX8_pairMany_2 : decode cX8_pairMany 2 = .ok (.iconst 0, 1) := by decide +kernel
theorem dX8_pairMany_3 : decode cX8_pairMany 3 = .ok (.istore_n 2, 1) := by decide +kernel
theorem dX8_pairMany_4 : decode cX8_pairMany 4 = .ok (.iconst 0, 1) := by decide +kernel
theorem dX8_pairMany_5 : decode cX8_pairMany 5 = .ok (.istore_n 3, 1) := by decide +kernel
theorem dX8_pairMany_6 : decode cX8_pairMany 6 = .ok (.iload_n 3, 1) := by decide +kernel
theorem dX8_pairMany_7 : decode cX8_pairMany 7 = .ok (.aload_n 0, 1) := by decide +kernel
theorem dX8_pairMany_8 : decode cX8_pairMany 8 = .ok (.getfield 13, 3) := by decide +kernel
theorem dX8_pairMany_11 : decode cX8_pairMany 11 = .ok (.iconst 0, 1) := by decide +kernel
theorem dX8_pairMany_12 : decode cX8_pairMany 12 = .ok (.iaload, 1) := by decide +kernel
theorem dX8_pairMany_13 : decode cX8_pairMany 13 = .ok (.if_icmp .ge 41, 3) := by decide +kernel
theorem dX8_pairMany_16 : decode cX8_pairMany 16 = .ok (.iload_n 2, 1) := by decide +kernel
theorem dX8_pairMany_17 : decode cX8_pairMany 17 = .ok (.iload_n 1, 1) := by decide +kernel
theorem dX8_pairMany_18 : decode cX8_pairMany 18 = .ok (.aload_n 0, 1) := by decide +kernel
theorem dX8_pairMany_19 : decode cX8_pairMany 19 = .ok (.getfield 16, 3) := by decide +kernel
theorem dX8_pairMany_22 : decode cX8_pairMany 22 = .ok (.iload_n 3, 1) := by decide +kernel
theorem dX8_pairMany_23 : decode cX8_pairMany 23 = .ok (.iaload, 1) := by decide +kernel
theorem dX8_pairMany_24 : decode cX8_pairMany 24 = .ok (.invokestatic 215, 3) := by decide +kernel
theorem dX8_pairMany_27 : decode cX8_pairMany 27 = .ok (.ifCond .eq 7, 3) := by decide +kernel
theorem dX8_pairMany_30 : decode cX8_pairMany 30 = .ok (.iconst 0, 1) := by decide +kernel
theorem dX8_pairMany_31 : decode cX8_pairMany 31 = .ok (.goto 4, 3) := by decide +kernel
theorem dX8_pairMany_34 : decode cX8_pairMany 34 = .ok (.iconst 1, 1) := by decide +kernel
theorem dX8_pairMany_35 : decode cX8_pairMany 35 = .ok (.iadd, 1) := by decide +kernel
theorem dX8_pairMany_36 : decode cX8_pairMany 36 = .ok (.istore_n 2, 1) := by decide +kernel
theorem dX8_pairMany_37 : decode cX8_pairMany 37 = .ok (.iload_n 1, 1) := by decide +kernel
theorem dX8_pairMany_38 : decode cX8_pairMany 38 = .ok (.iconst 1, 1) := by decide +kernel
theorem dX8_pairMany_39 : decode cX8_pairMany 39 = .ok (.aload_n 0, 1) := by decide +kernel
theorem dX8_pairMany_40 : decode cX8_pairMany 40 = .ok (.getfield 16, 3) := by decide +kernel
theorem dX8_pairMany_43 : decode cX8_pairMany 43 = .ok (.iload_n 3, 1) := by decide +kernel
theorem dX8_pairMany_44 : decode cX8_pairMany 44 = .ok (.iaload, 1) := by decide +kernel
theorem dX8_pairMany_45 : decode cX8_pairMany 45 = .ok (.ishl, 1) := by decide +kernel
theorem dX8_pairMany_46 : decode cX8_pairMany 46 = .ok (.ior, 1) := by decide +kernel
theorem dX8_pairMany_47 : decode cX8_pairMany 47 = .ok (.istore_n 1, 1) := by decide +kernel
theorem dX8_pairMany_48 : decode cX8_pairMany 48 = .ok (.iinc 3 1, 3) := by decide +kernel
theorem dX8_pairMany_51 : decode cX8_pairMany 51 = .ok (.goto (-45), 3) := by decide +kernel
theorem dX8_pairMany_54 : decode cX8_pairMany 54 = .ok (.iload_n 2, 1) := by decide +kernel
theorem dX8_pairMany_55 : decode cX8_pairMany 55 = .ok (.ireturn, 1) := by decide +kernel
theorem dX8_count_0 : decode cX8_count 0 = .ok (.iload_n 1, 1) := by decide +kernel
theorem dX8_count_1 : decode cX8_count 1 = .ok (.tableswitch 106 0 8 #[51, 58, 63, 70, 77, 84, 91, 96, 101], 51) := by decide +kernel
theorem dX8_count_52 : decode cX8_count 52 = .ok (.aload_n 0, 1) := by decide +kernel
theorem dX8_count_53 : decode cX8_count 53 = .ok (.getfield 13, 3) := by decide +kernel
theorem dX8_count_56 : decode cX8_count 56 = .ok (.iconst 0, 1) := by decide +kernel
theorem dX8_count_57 : decode cX8_count 57 = .ok (.iaload, 1) := by decide +kernel
theorem dX8_count_58 : decode cX8_count 58 = .ok (.ireturn, 1) := by decide +kernel
theorem dX8_count_59 : decode cX8_count 59 = .ok (.aload_n 0, 1) := by decide +kernel
theorem dX8_count_60 : decode cX8_count 60 = .ok (.invokevirtual 302, 3) := by decide +kernel
theorem dX8_count_63 : decode cX8_count 63 = .ok (.ireturn, 1) := by decide +kernel
theorem dX8_count_64 : decode cX8_count 64 = .ok (.aload_n 0, 1) := by decide +kernel
theorem dX8_count_65 : decode cX8_count 65 = .ok (.getfield 64, 3) := by decide +kernel
theorem dX8_count_68 : decode cX8_count 68 = .ok (.iconst 0, 1) := by decide +kernel
theorem dX8_count_69 : decode cX8_count 69 = .ok (.iaload, 1) := by decide +kernel
theorem dX8_count_70 : decode cX8_count 70 = .ok (.ireturn, 1) := by decide +kernel
theorem dX8_count_71 : decode cX8_count 71 = .ok (.aload_n 0, 1) := by decide +kernel
theorem dX8_count_72 : decode cX8_count 72 = .ok (.getfield 73, 3) := by decide +kernel
theorem dX8_count_75 : decode cX8_count 75 = .ok (.iconst 0, 1) := by decide +kernel
theorem dX8_count_76 : decode cX8_count 76 = .ok (.iaload, 1) := by decide +kernel
theorem dX8_count_77 : decode cX8_count 77 = .ok (.ireturn, 1) := by decide +kernel
theorem dX8_count_78 : decode cX8_count 78 = .ok (.aload_n 0, 1) := by decide +kernel
theorem dX8_count_79 : decode cX8_count 79 = .ok (.getfield 28, 3) := by decide +kernel
theorem dX8_count_82 : decode cX8_count 82 = .ok (.iconst 0, 1) := by decide +kernel
theorem dX8_count_83 : decode cX8_count 83 = .ok (.iaload, 1) := by decide +kernel
theorem dX8_count_84 : decode cX8_count 84 = .ok (.ireturn, 1) := by decide +kernel
theorem dX8_count_85 : decode cX8_count 85 = .ok (.aload_n 0, 1) := by decide +kernel
theorem dX8_count_86 : decode cX8_count 86 = .ok (.getfield 52, 3) := by decide +kernel
theorem dX8_count_89 : decode cX8_count 89 = .ok (.iconst 0, 1) := by decide +kernel
theorem dX8_count_90 : decode cX8_count 90 = .ok (.iaload, 1) := by decide +kernel
theorem dX8_count_91 : decode cX8_count 91 = .ok (.ireturn, 1) := by decide +kernel
theorem dX8_count_92 : decode cX8_count 92 = .ok (.aload_n 0, 1) := by decide +kernel
theorem dX8_count_93 : decode cX8_count 93 = .ok (.getfield 164, 3) := by decide +kernel
theorem dX8_count_96 : decode cX8_count 96 = .ok (.ireturn, 1) := by decide +kernel
theorem dX8_count_97 : decode cX8_count 97 = .ok (.aload_n 0, 1) := by decide +kernel
theorem dX8_count_98 : decode cX8_count 98 = .ok (.getfield 161, 3) := by decide +kernel
theorem dX8_count_101 : decode cX8_count 101 = .ok (.ireturn, 1) := by decide +kernel
theorem dX8_count_102 : decode cX8_count 102 = .ok (.aload_n 0, 1) := by decide +kernel
theorem dX8_count_103 : decode cX8_count 103 = .ok (.getfield 113, 3) := by decide +kernel
theorem dX8_count_106 : decode cX8_count 106 = .ok (.ireturn, 1) := by decide +kernel
theorem dX8_count_107 : decode cX8_count 107 = .ok (.iconst (-1), 1) := by decide +kernel
theorem dX8_count_108 : decode cX8_count 108 = .ok (.ireturn, 1) := by decide +kernel
theorem dJ9_floorMod_7cf53_0 : decode cJ9_floorMod_7cf53 0 = .ok (.iload_n 0, 1) := by decide +kernel
theorem dJ9_floorMod_7cf53_1 : decode cJ9_floorMod_7cf53 1 = .ok (.iload_n 1, 1) := by decide +kernel
theorem dJ9_floorMod_7cf53_2 : decode cJ9_floorMod_7cf53 2 = .ok (.irem, 1) := by decide +kernel
theorem dJ9_floorMod_7cf53_3 : decode cJ9_floorMod_7cf53 3 = .ok (.istore_n 2, 1) := by decide +kernel
theorem dJ9_floorMod_7cf53_4 : decode cJ9_floorMod_7cf53 4 = .ok (.iload_n 0, 1) := by decide +kernel
theorem dJ9_floorMod_7cf53_5 : decode cJ9_floorMod_7cf53 5 = .ok (.iload_n 1, 1) := by decide +kernel
theorem dJ9_floorMod_7cf53_6 : decode cJ9_floorMod_7cf53 6 = .ok (.ixor, 1) := by decide +kernel
theorem dJ9_floorMod_7cf53_7 : decode cJ9_floorMod_7cf53 7 = .ok (.ifCond .ge 11, 3) := by decide +kernel
theorem dJ9_floorMod_7cf53_10 : decode cJ9_floorMod_7cf53 10 = .ok (.iload_n 2, 1) := by decide +kernel
theorem dJ9_floorMod_7cf53_11 : decode cJ9_floorMod_7cf53 11 = .ok (.ifCond .eq 7, 3) := by decide +kernel
theorem dJ9_floorMod_7cf53_14 : decode cJ9_floorMod_7cf53 14 = .ok (.iload_n 2, 1) := by decide +kernel
theorem dJ9_floorMod_7cf53_15 : decode cJ9_floorMod_7cf53 15 = .ok (.iload_n 1, 1) := by decide +kernel
theorem dJ9_floorMod_7cf53_16 : decode cJ9_floorMod_7cf53 16 = .ok (.iadd, 1) := by decide +kernel
theorem dJ9_floorMod_7cf53_17 : decode cJ9_floorMod_7cf53 17 = .ok (.ireturn, 1) := by decide +kernel
theorem dJ9_floorMod_7cf53_18 : decode cJ9_floorMod_7cf53 18 = .ok (.iload_n 2, 1) := by decide +kernel
theorem dJ9_floorMod_7cf53_19 : decode cJ9_floorMod_7cf53 19 = .ok (.ireturn, 1) := by decide +kernel
theorem dJ0_length_8abf5_0 : decode cJ0_length_8abf5 0 = .ok (.aload_n 0, 1) := by decide +kernel
theorem dJ0_length_8abf5_1 : decode cJ0_length_8abf5 1 = .ok (.getfield 9, 3) := by decide +kernel
theorem dJ0_length_8abf5_4 : decode cJ0_length_8abf5 4 = .ok (.arraylength, 1) := by decide +kernel
theorem dJ0_length_8abf5_5 : decode cJ0_length_8abf5 5 = .ok (.aload_n 0, 1) := by decide +kernel
theorem dJ0_length_8abf5_6 : decode cJ0_length_8abf5 6 = .ok (.invokevirtual 335, 3) := by decide +kernel
theorem dJ0_length_8abf5_9 : decode cJ0_length_8abf5 9 = .ok (.ishr, 1) := by decide +kernel
theorem dJ0_length_8abf5_10 : decode cJ0_length_8abf5 10 = .ok (.ireturn, 1) := by decide +kernel
theorem dJ0_indexOf_0f7a4_0 : decode cJ0_indexOf_0f7a4 0 = .ok (.aload_n 0, 1) := by decide +kernel
theorem dJ0_indexOf_0f7a4_1 : decode cJ0_indexOf_0f7a4 1 = .ok (.iload_n 1, 1) := by decide +kernel
theorem dJ0_indexOf_0f7a4_2 : decode cJ0_indexOf_0f7a4 2 = .ok (.iconst 0, 1) := by decide +kernel
theorem dJ0_indexOf_0f7a4_3 : decode cJ0_indexOf_0f7a4 3 = .ok (.invokevirtual 633, 3) := by decide +kernel
theorem dJ0_indexOf_0f7a4_6 : decode cJ0_indexOf_0f7a4 6 = .ok (.ireturn, 1) := by decide +kernel
theorem dJ0_indexOf_7cf53_0 : decode cJ0_indexOf_7cf53 0 = .ok (.aload_n 0, 1) := by decide +kernel
theorem dJ0_indexOf_7cf53_1 : decode cJ0_indexOf_7cf53 1 = .ok (.invokevirtual 492, 3) := by decide +kernel
theorem dJ0_indexOf_7cf53_4 : decode cJ0_indexOf_7cf53 4 = .ok (.ifCond .eq 19, 3) := by decide +kernel
theorem dJ0_indexOf_7cf53_7 : decode cJ0_indexOf_7cf53 7 = .ok (.aload_n 0, 1) := by decide +kernel
theorem dJ0_indexOf_7cf53_8 : decode cJ0_indexOf_7cf53 8 = .ok (.getfield 9, 3) := by decide +kernel
theorem dJ0_indexOf_7cf53_11 : decode cJ0_indexOf_7cf53 11 = .ok (.iload_n 1, 1) := by decide +kernel
theorem dJ0_indexOf_7cf53_12 : decode cJ0_indexOf_7cf53 12 = .ok (.iload_n 2, 1) := by decide +kernel
theorem dJ0_indexOf_7cf53_13 : decode cJ0_indexOf_7cf53 13 = .ok (.aload_n 0, 1) := by decide +kernel
theorem dJ0_indexOf_7cf53_14 : decode cJ0_indexOf_7cf53 14 = .ok (.invokevirtual 505, 3) := by decide +kernel
theorem dJ0_indexOf_7cf53_17 : decode cJ0_indexOf_7cf53 17 = .ok (.invokestatic 637, 3) := by decide +kernel
theorem dJ0_indexOf_7cf53_20 : decode cJ0_indexOf_7cf53 20 = .ok (.goto 16, 3) := by decide +kernel
theorem dJ0_indexOf_7cf53_23 : decode cJ0_indexOf_7cf53 23 = .ok (.aload_n 0, 1) := by decide +kernel
theorem dJ0_indexOf_7cf53_24 : decode cJ0_indexOf_7cf53 24 = .ok (.getfield 9, 3) := by decide +kernel
theorem dJ0_indexOf_7cf53_27 : decode cJ0_indexOf_7cf53 27 = .ok (.iload_n 1, 1) := by decide +kernel
theorem dJ0_indexOf_7cf53_28 : decode cJ0_indexOf_7cf53 28 = .ok (.iload_n 2, 1) := by decide +kernel
theorem dJ0_indexOf_7cf53_29 : decode cJ0_indexOf_7cf53 29 = .ok (.aload_n 0, 1) := by decide +kernel
theorem dJ0_indexOf_7cf53_30 : decode cJ0_indexOf_7cf53 30 = .ok (.invokevirtual 505, 3) := by decide +kernel
theorem dJ0_indexOf_7cf53_33 : decode cJ0_indexOf_7cf53 33 = .ok (.invokestatic 640, 3) := by decide +kernel
theorem dJ0_indexOf_7cf53_36 : decode cJ0_indexOf_7cf53 36 = .ok (.ireturn, 1) := by decide +kernel
theorem dJ0_coder_7d493_0 : decode cJ0_coder_7d493 0 = .ok (.getstatic 38, 3) := by decide +kernel
theorem dJ0_coder_7d493_3 : decode cJ0_coder_7d493 3 = .ok (.ifCond .eq 10, 3) := by decide +kernel
theorem dJ0_coder_7d493_6 : decode cJ0_coder_7d493 6 = .ok (.aload_n 0, 1) := by decide +kernel
theorem dJ0_coder_7d493_7 : decode cJ0_coder_7d493 7 = .ok (.getfield 15, 3) := by decide +kernel
theorem dJ0_coder_7d493_10 : decode cJ0_coder_7d493 10 = .ok (.goto 4, 3) := by decide +kernel
theorem dJ0_coder_7d493_13 : decode cJ0_coder_7d493 13 = .ok (.iconst 1, 1) := by decide +kernel
theorem dJ0_coder_7d493_14 : decode cJ0_coder_7d493 14 = .ok (.ireturn, 1) := by decide +kernel
theorem dJ0_isLatin1_aae02_0 : decode cJ0_isLatin1_aae02 0 = .ok (.getstatic 38, 3) := by decide +kernel
theorem dJ0_isLatin1_aae02_3 : decode cJ0_isLatin1_aae02 3 = .ok (.ifCond .eq 14, 3) := by decide +kernel
theorem dJ0_isLatin1_aae02_6 : decode cJ0_isLatin1_aae02 6 = .ok (.aload_n 0, 1) := by decide +kernel
theorem dJ0_isLatin1_aae02_7 : decode cJ0_isLatin1_aae02 7 = .ok (.getfield 15, 3) := by decide +kernel
theorem dJ0_isLatin1_aae02_10 : decode cJ0_isLatin1_aae02 10 = .ok (.ifCond .ne 7, 3) := by decide +kernel
theorem dJ0_isLatin1_aae02_13 : decode cJ0_isLatin1_aae02 13 = .ok (.iconst 1, 1) := by decide +kernel
theorem dJ0_isLatin1_aae02_14 : decode cJ0_isLatin1_aae02 14 = .ok (.goto 4, 3) := by decide +kernel
theorem dJ0_isLatin1_aae02_17 : decode cJ0_isLatin1_aae02 17 = .ok (.iconst 0, 1) := by decide +kernel
theorem dJ0_isLatin1_aae02_18 : decode cJ0_isLatin1_aae02 18 = .ok (.ireturn, 1) := by decide +kernel
theorem dJ0_checkBoundsBeginEnd_23922_0 : decode cJ0_checkBoundsBeginEnd_23922 0 = .ok (.iload_n 0, 1) := by decide +kernel
theorem dJ0_checkBoundsBeginEnd_23922_1 : decode cJ0_checkBoundsBeginEnd_23922 1 = .ok (.iload_n 1, 1) := by decide +kernel
theorem dJ0_checkBoundsBeginEnd_23922_2 : decode cJ0_checkBoundsBeginEnd_23922 2 = .ok (.iload_n 2, 1) := by decide +kernel
theorem dJ0_checkBoundsBeginEnd_23922_3 : decode cJ0_checkBoundsBeginEnd_23922 3 = .ok (.getstatic 1053, 3) := by decide +kernel
theorem dJ0_checkBoundsBeginEnd_23922_6 : decode cJ0_checkBoundsBeginEnd_23922 6 = .ok (.invokestatic 1062, 3) := by decide +kernel
theorem dJ0_checkBoundsBeginEnd_23922_9 : decode cJ0_checkBoundsBeginEnd_23922 9 = .ok (.pop, 1) := by decide +kernel
theorem dJ0_checkBoundsBeginEnd_23922_10 : decode cJ0_checkBoundsBeginEnd_23922 10 = .ok (.return_, 1) := by decide +kernel
theorem dJ1_canEncode_9a6ad_0 : decode cJ1_canEncode_9a6ad 0 = .ok (.iload_n 0, 1) := by decide +kernel
theorem dJ1_canEncode_9a6ad_1 : decode cJ1_canEncode_9a6ad 1 = .ok (.ifCond .lt 14, 3) := by decide +kernel
theorem dJ1_canEncode_9a6ad_4 : decode cJ1_canEncode_9a6ad 4 = .ok (.iload_n 0, 1) := by decide +kernel
theorem dJ1_canEncode_9a6ad_5 : decode cJ1_canEncode_9a6ad 5 = .ok (.sipush 255, 3) := by decide +kernel
theorem dJ1_canEncode_9a6ad_8 : decode cJ1_canEncode_9a6ad 8 = .ok (.if_icmp .gt 7, 3) := by decide +kernel
theorem dJ1_canEncode_9a6ad_11 : decode cJ1_canEncode_9a6ad 11 = .ok (.iconst 1, 1) := by decide +kernel
theorem dJ1_canEncode_9a6ad_12 : decode cJ1_canEncode_9a6ad 12 = .ok (.goto 4, 3) := by decide +kernel
theorem dJ1_canEncode_9a6ad_15 : decode cJ1_canEncode_9a6ad 15 = .ok (.iconst 0, 1) := by decide +kernel
theorem dJ1_canEncode_9a6ad_16 : decode cJ1_canEncode_9a6ad 16 = .ok (.ireturn, 1) := by decide +kernel
theorem dJ1_indexOf_4cfef_0 : decode cJ1_indexOf_4cfef 0 = .ok (.iload_n 1, 1) := by decide +kernel
theorem dJ1_indexOf_4cfef_1 : decode cJ1_indexOf_4cfef 1 = .ok (.invokestatic 88, 3) := by decide +kernel
theorem dJ1_indexOf_4cfef_4 : decode cJ1_indexOf_4cfef 4 = .ok (.ifCond .ne 5, 3) := by decide +kernel
theorem dJ1_indexOf_4cfef_7 : decode cJ1_indexOf_4cfef 7 = .ok (.iconst (-1), 1) := by decide +kernel
theorem dJ1_indexOf_4cfef_8 : decode cJ1_indexOf_4cfef 8 = .ok (.ireturn, 1) := by decide +kernel
theorem dJ1_indexOf_4cfef_9 : decode cJ1_indexOf_4cfef 9 = .ok (.iload_n 2, 1) := by decide +kernel
theorem dJ1_indexOf_4cfef_10 : decode cJ1_indexOf_4cfef 10 = .ok (.iconst 0, 1) := by decide +kernel
theorem dJ1_indexOf_4cfef_11 : decode cJ1_indexOf_4cfef 11 = .ok (.invokestatic 92, 3) := by decide +kernel
theorem dJ1_indexOf_4cfef_14 : decode cJ1_indexOf_4cfef 14 = .ok (.istore_n 2, 1) := by decide +kernel
theorem dJ1_indexOf_4cfef_15 : decode cJ1_indexOf_4cfef 15 = .ok (.iload_n 3, 1) := by decide +kernel
theorem dJ1_indexOf_4cfef_16 : decode cJ1_indexOf_4cfef 16 = .ok (.aload_n 0, 1) := by decide +kernel
theorem dJ1_indexOf_4cfef_17 : decode cJ1_indexOf_4cfef 17 = .ok (.arraylength, 1) := by decide +kernel
theorem dJ1_indexOf_4cfef_18 : decode cJ1_indexOf_4cfef 18 = .ok (.invokestatic 38, 3) := by decide +kernel
theorem dJ1_indexOf_4cfef_21 : decode cJ1_indexOf_4cfef 21 = .ok (.istore_n 3, 1) := by decide +kernel
theorem dJ1_indexOf_4cfef_22 : decode cJ1_indexOf_4cfef 22 = .ok (.iload_n 2, 1) := by decide +kernel
theorem dJ1_indexOf_4cfef_23 : decode cJ1_indexOf_4cfef 23 = .ok (.iload_n 3, 1) := by decide +kernel
theorem dJ1_indexOf_4cfef_24 : decode cJ1_indexOf_4cfef 24 = .ok (.if_icmp .lt 5, 3) := by decide +kernel
theorem dJ1_indexOf_4cfef_27 : decode cJ1_indexOf_4cfef 27 = .ok (.iconst (-1), 1) := by decide +kernel
theorem dJ1_indexOf_4cfef_28 : decode cJ1_indexOf_4cfef 28 = .ok (.ireturn, 1) := by decide +kernel
theorem dJ1_indexOf_4cfef_29 : decode cJ1_indexOf_4cfef 29 = .ok (.aload_n 0, 1) := by decide +kernel
theorem dJ1_indexOf_4cfef_30 : decode cJ1_indexOf_4cfef 30 = .ok (.iload_n 1, 1) := by decide +kernel
theorem dJ1_indexOf_4cfef_31 : decode cJ1_indexOf_4cfef 31 = .ok (.iload_n 2, 1) := by decide +kernel
theorem dJ1_indexOf_4cfef_32 : decode cJ1_indexOf_4cfef 32 = .ok (.iload_n 3, 1) := by decide +kernel
theorem dJ1_indexOf_4cfef_33 : decode cJ1_indexOf_4cfef 33 = .ok (.invokestatic 95, 3) := by decide +kernel
theorem dJ1_indexOf_4cfef_36 : decode cJ1_indexOf_4cfef 36 = .ok (.ireturn, 1) := by decide +kernel
theorem dJ1_indexOfChar_4cfef_0 : decode cJ1_indexOfChar_4cfef 0 = .ok (.iload_n 1, 1) := by decide +kernel
theorem dJ1_indexOfChar_4cfef_1 : decode cJ1_indexOfChar_4cfef 1 = .ok (.i2b, 1) := by decide +kernel
theorem dJ1_indexOfChar_4cfef_2 : decode cJ1_indexOfChar_4cfef 2 = .ok (.istore 4, 2) := by decide +kernel
theorem dJ1_indexOfChar_4cfef_4 : decode cJ1_indexOfChar_4cfef 4 = .ok (.iload_n 2, 1) := by decide +kernel
theorem dJ1_indexOfChar_4cfef_5 : decode cJ1_indexOfChar_4cfef 5 = .ok (.istore 5, 2) := by decide +kernel
theorem dJ1_indexOfChar_4cfef_7 : decode cJ1_indexOfChar_4cfef 7 = .ok (.iload 5, 2) := by decide +kernel
theorem dJ1_indexOfChar_4cfef_9 : decode cJ1_indexOfChar_4cfef 9 = .ok (.iload_n 3, 1) := by decide +kernel
theorem dJ1_indexOfChar_4cfef_10 : decode cJ1_indexOfChar_4cfef 10 = .ok (.if_icmp .ge 21, 3) := by decide +kernel
theorem dJ1_indexOfChar_4cfef_13 : decode cJ1_indexOfChar_4cfef 13 = .ok (.aload_n 0, 1) := by decide +kernel
theorem dJ1_indexOfChar_4cfef_14 : decode cJ1_indexOfChar_4cfef 14 = .ok (.iload 5, 2) := by decide +kernel
theorem dJ1_indexOfChar_4cfef_16 : decode cJ1_indexOfChar_4cfef 16 = .ok (.baload, 1) := by decide +kernel
theorem dJ1_indexOfChar_4cfef_17 : decode cJ1_indexOfChar_4cfef 17 = .ok (.iload 4, 2) := by decide +kernel
theorem dJ1_indexOfChar_4cfef_19 : decode cJ1_indexOfChar_4cfef 19 = .ok (.if_icmp .ne 6, 3) := by decide +kernel
theorem dJ1_indexOfChar_4cfef_22 : decode cJ1_indexOfChar_4cfef 22 = .ok (.iload 5, 2) := by decide +kernel
theorem dJ1_indexOfChar_4cfef_24 : decode cJ1_indexOfChar_4cfef 24 = .ok (.ireturn, 1) := by decide +kernel
theorem dJ1_indexOfChar_4cfef_25 : decode cJ1_indexOfChar_4cfef 25 = .ok (.iinc 5 1, 3) := by decide +kernel
theorem dJ1_indexOfChar_4cfef_28 : decode cJ1_indexOfChar_4cfef 28 = .ok (.goto (-21), 3) := by decide +kernel
theorem dJ1_indexOfChar_4cfef_31 : decode cJ1_indexOfChar_4cfef 31 = .ok (.iconst (-1), 1) := by decide +kernel
theorem dJ1_indexOfChar_4cfef_32 : decode cJ1_indexOfChar_4cfef 32 = .ok (.ireturn, 1) := by decide +kernel
theorem dJ7_fill_53178_0 : decode cJ7_fill_53178 0 = .ok (.iconst 0, 1) := by decide +kernel
theorem dJ7_fill_53178_1 : decode cJ7_fill_53178 1 = .ok (.istore_n 2, 1) := by decide +kernel
theorem dJ7_fill_53178_2 : decode cJ7_fill_53178 2 = .ok (.aload_n 0, 1) := by decide +kernel
theorem dJ7_fill_53178_3 : decode cJ7_fill_53178 3 = .ok (.arraylength, 1) := by decide +kernel
theorem dJ7_fill_53178_4 : decode cJ7_fill_53178 4 = .ok (.istore_n 3, 1) := by decide +kernel
theorem dJ7_fill_53178_5 : decode cJ7_fill_53178 5 = .ok (.iload_n 2, 1) := by decide +kernel
theorem dJ7_fill_53178_6 : decode cJ7_fill_53178 6 = .ok (.iload_n 3, 1) := by decide +kernel
theorem dJ7_fill_53178_7 : decode cJ7_fill_53178 7 = .ok (.if_icmp .ge 13, 3) := by decide +kernel
theorem dJ7_fill_53178_10 : decode cJ7_fill_53178 10 = .ok (.aload_n 0, 1) := by decide +kernel
theorem dJ7_fill_53178_11 : decode cJ7_fill_53178 11 = .ok (.iload_n 2, 1) := by decide +kernel
theorem dJ7_fill_53178_12 : decode cJ7_fill_53178 12 = .ok (.iload_n 1, 1) := by decide +kernel
theorem dJ7_fill_53178_13 : decode cJ7_fill_53178 13 = .ok (.iastore, 1) := by decide +kernel
theorem dJ7_fill_53178_14 : decode cJ7_fill_53178 14 = .ok (.iinc 2 1, 3) := by decide +kernel
theorem dJ7_fill_53178_17 : decode cJ7_fill_53178 17 = .ok (.goto (-12), 3) := by decide +kernel
theorem dJ7_fill_53178_20 : decode cJ7_fill_53178 20 = .ok (.return_, 1) := by decide +kernel
theorem dL_law_0 : decode cL_law 0 = .ok (.new 7, 3) := by decide +kernel
theorem dL_law_3 : decode cL_law 3 = .ok (.dup, 1) := by decide +kernel
theorem dL_law_4 : decode cL_law 4 = .ok (.invokespecial 9, 3) := by decide +kernel
theorem dL_law_7 : decode cL_law 7 = .ok (.astore_n 1, 1) := by decide +kernel
theorem dL_law_8 : decode cL_law 8 = .ok (.new 10, 3) := by decide +kernel
theorem dL_law_11 : decode cL_law 11 = .ok (.dup, 1) := by decide +kernel
theorem dL_law_12 : decode cL_law 12 = .ok (.invokespecial 12, 3) := by decide +kernel
theorem dL_law_15 : decode cL_law 15 = .ok (.astore_n 2, 1) := by decide +kernel
theorem dL_law_16 : decode cL_law 16 = .ok (.iconst 0, 1) := by decide +kernel
theorem dL_law_17 : decode cL_law 17 = .ok (.istore_n 3, 1) := by decide +kernel
theorem dL_law_18 : decode cL_law 18 = .ok (.iload_n 3, 1) := by decide +kernel
theorem dL_law_19 : decode cL_law 19 = .ok (.aload_n 0, 1) := by decide +kernel
theorem dL_law_20 : decode cL_law 20 = .ok (.arraylength, 1) := by decide +kernel
theorem dL_law_21 : decode cL_law 21 = .ok (.iconst 4, 1) := by decide +kernel
theorem dL_law_22 : decode cL_law 22 = .ok (.isub, 1) := by decide +kernel
theorem dL_law_23 : decode cL_law 23 = .ok (.if_icmp .gt 907, 3) := by decide +kernel
theorem dL_law_26 : decode cL_law 26 = .ok (.aload_n 0, 1) := by decide +kernel
theorem dL_law_27 : decode cL_law 27 = .ok (.iload_n 3, 1) := by decide +kernel
theorem dL_law_28 : decode cL_law 28 = .ok (.iaload, 1) := by decide +kernel
theorem dL_law_29 : decode cL_law 29 = .ok (.bipush 31, 2) := by decide +kernel
theorem dL_law_31 : decode cL_law 31 = .ok (.iand, 1) := by decide +kernel
theorem dL_law_32 : decode cL_law 32 = .ok (.tableswitch 892 0 27 #[128, 191, 204, 217, 230, 263, 296, 329, 362, 395, 418, 451, 484, 507, 530, 553, 586, 609, 622, 655, 698, 741, 774, 807, 830, 843, 856, 869], 128) := by decide +kernel
theorem dL_law_160 : decode cL_law 160 = .ok (.aload_n 1, 1) := by decide +kernel
theorem dL_law_161 : decode cL_law 161 = .ok (.aload_n 0, 1) := by decide +kernel
theorem dL_law_162 : decode cL_law 162 = .ok (.iload_n 3, 1) := by decide +kernel
theorem dL_law_163 : decode cL_law 163 = .ok (.iconst 1, 1) := by decide +kernel
theorem dL_law_164 : decode cL_law 164 = .ok (.iadd, 1) := by decide +kernel
theorem dL_law_165 : decode cL_law 165 = .ok (.iaload, 1) := by decide +kernel
theorem dL_law_166 : decode cL_law 166 = .ok (.aload_n 0, 1) := by decide +kernel
theorem dL_law_167 : decode cL_law 167 = .ok (.iload_n 3, 1) := by decide +kernel
theorem dL_law_168 : decode cL_law 168 = .ok (.iconst 2, 1) := by decide +kernel
theorem dL_law_169 : decode cL_law 169 = .ok (.iadd, 1) := by decide +kernel
theorem dL_law_170 : decode cL_law 170 = .ok (.iaload, 1) := by decide +kernel
theorem dL_law_171 : decode cL_law 171 = .ok (.i2l, 1) := by decide +kernel
theorem dL_law_172 : decode cL_law 172 = .ok (.bipush 32, 2) := by decide +kernel
theorem dL_law_174 : decode cL_law 174 = .ok (.lshl, 1) := by decide +kernel
theorem dL_law_175 : decode cL_law 175 = .ok (.aload_n 0, 1) := by decide +kernel
theorem dL_law_176 : decode cL_law 176 = .ok (.iload_n 3, 1) := by decide +kernel
theorem dL_law_177 : decode cL_law 177 = .ok (.iconst 3, 1) := by decide +kernel
theorem dL_law_178 : decode cL_law 178 = .ok (.iadd, 1) := by decide +kernel
theorem dL_law_179 : decode cL_law 179 = .ok (.iaload, 1) := by decide +kernel
theorem dL_law_180 : decode cL_law 180 = .ok (.i2l, 1) := by decide +kernel
theorem dL_law_181 : decode cL_law 181 = .ok (.ldc2_w 13, 3) := by decide +kernel
theorem dL_law_184 : decode cL_law 184 = .ok (.land, 1) := by decide +kernel
theorem dL_law_185 : decode cL_law 185 = .ok (.lor, 1) := by decide +kernel
theorem dL_law_186 : decode cL_law 186 = .ok (.invokevirtual 15, 3) := by decide +kernel
theorem dL_law_189 : decode cL_law 189 = .ok (.aload_n 2, 1) := by decide +kernel
theorem dL_law_190 : decode cL_law 190 = .ok (.aload_n 0, 1) := by decide +kernel
theorem dL_law_191 : decode cL_law 191 = .ok (.iload_n 3, 1) := by decide +kernel
theorem dL_law_192 : decode cL_law 192 = .ok (.iconst 1, 1) := by decide +kernel
theorem dL_law_193 : decode cL_law 193 = .ok (.iadd, 1) := by decide +kernel
theorem dL_law_194 : decode cL_law 194 = .ok (.iaload, 1) := by decide +kernel
theorem dL_law_195 : decode cL_law 195 = .ok (.aload_n 0, 1) := by decide +kernel
theorem dL_law_196 : decode cL_law 196 = .ok (.iload_n 3, 1) := by decide +kernel
theorem dL_law_197 : decode cL_law 197 = .ok (.iconst 2, 1) := by decide +kernel
theorem dL_law_198 : decode cL_law 198 = .ok (.iadd, 1) := by decide +kernel
theorem dL_law_199 : decode cL_law 199 = .ok (.iaload, 1) := by decide +kernel
theorem dL_law_200 : decode cL_law 200 = .ok (.i2l, 1) := by decide +kernel
theorem dL_law_201 : decode cL_law 201 = .ok (.bipush 32, 2) := by decide +kernel
theorem dL_law_203 : decode cL_law 203 = .ok (.lshl, 1) := by decide +kernel
theorem dL_law_204 : decode cL_law 204 = .ok (.aload_n 0, 1) := by decide +kernel
theorem dL_law_205 : decode cL_law 205 = .ok (.iload_n 3, 1) := by decide +kernel
theorem dL_law_206 : decode cL_law 206 = .ok (.iconst 3, 1) := by decide +kernel
theorem dL_law_207 : decode cL_law 207 = .ok (.iadd, 1) := by decide +kernel
theorem dL_law_208 : decode cL_law 208 = .ok (.iaload, 1) := by decide +kernel
theorem dL_law_209 : decode cL_law 209 = .ok (.i2l, 1) := by decide +kernel
theorem dL_law_210 : decode cL_law 210 = .ok (.ldc2_w 13, 3) := by decide +kernel
theorem dL_law_213 : decode cL_law 213 = .ok (.land, 1) := by decide +kernel
theorem dL_law_214 : decode cL_law 214 = .ok (.lor, 1) := by decide +kernel
theorem dL_law_215 : decode cL_law 215 = .ok (.invokevirtual 19, 3) := by decide +kernel
theorem dL_law_218 : decode cL_law 218 = .ok (.if_icmp .eq 706, 3) := by decide +kernel
theorem dL_law_221 : decode cL_law 221 = .ok (.iconst 0, 1) := by decide +kernel
theorem dL_law_222 : decode cL_law 222 = .ok (.ireturn, 1) := by decide +kernel
theorem dL_law_223 : decode cL_law 223 = .ok (.aload_n 1, 1) := by decide +kernel
theorem dL_law_224 : decode cL_law 224 = .ok (.invokevirtual 20, 3) := by decide +kernel
theorem dL_law_227 : decode cL_law 227 = .ok (.aload_n 2, 1) := by decide +kernel
theorem dL_law_228 : decode cL_law 228 = .ok (.invokevirtual 24, 3) := by decide +kernel
theorem dL_law_231 : decode cL_law 231 = .ok (.if_icmp .eq 693, 3) := by decide +kernel
theorem dL_law_234 : decode cL_law 234 = .ok (.iconst 0, 1) := by decide +kernel
theorem dL_law_235 : decode cL_law 235 = .ok (.ireturn, 1) := by decide +kernel
theorem dL_law_236 : decode cL_law 236 = .ok (.aload_n 1, 1) := by decide +kernel
theorem dL_law_237 : decode cL_law 237 = .ok (.invokevirtual 25, 3) := by decide +kernel
theorem dL_law_240 : decode cL_law 240 = .ok (.aload_n 2, 1) := by decide +kernel
theorem dL_law_241 : decode cL_law 241 = .ok (.invokevirtual 28, 3) := by decide +kernel
theorem dL_law_244 : decode cL_law 244 = .ok (.if_icmp .eq 680, 3) := by decide +kernel
theorem dL_law_247 : decode cL_law 247 = .ok (.iconst 0, 1) := by decide +kernel
theorem dL_law_248 : decode cL_law 248 = .ok (.ireturn, 1) := by decide +kernel
theorem dL_law_249 : decode cL_law 249 = .ok (.aload_n 1, 1) := by decide +kernel
theorem dL_law_250 : decode cL_law 250 = .ok (.invokevirtual 29, 3) := by decide +kernel
theorem dL_law_253 : decode cL_law 253 = .ok (.aload_n 2, 1) := by decide +kernel
theorem dL_law_254 : decode cL_law 254 = .ok (.invokevirtual 32, 3) := by decide +kernel
theorem dL_law_257 : decode cL_law 257 = .ok (.if_icmp .eq 667, 3) := by decide +kernel
theorem dL_law_260 : decode cL_law 260 = .ok (.iconst 0, 1) := by decide +kernel
theorem dL_law_261 : decode cL_law 261 = .ok (.ireturn, 1) := by decide +kernel
theorem dL_law_262 : decode cL_law 262 = .ok (.aload_n 1, 1) := by decide +kernel
theorem dL_law_263 : decode cL_law 263 = .ok (.aload_n 0, 1) := by decide +kernel
theorem dL_law_264 : decode cL_law 264 = .ok (.iload_n 3, 1) := by decide +kernel
theorem dL_law_265 : decode cL_law 265 = .ok (.iconst 1, 1) := by decide +kernel
theorem dL_law_266 : decode cL_law 266 = .ok (.iadd, 1) := by decide +kernel
theorem dL_law_267 : decode cL_law 267 = .ok (.iaload, 1) := by decide +kernel
theorem dL_law_268 : decode cL_law 268 = .ok (.aload_n 0, 1) := by decide +kernel
theorem dL_law_269 : decode cL_law 269 = .ok (.iload_n 3, 1) := by decide +kernel
theorem dL_law_270 : decode cL_law 270 = .ok (.iconst 2, 1) := by decide +kernel
theorem dL_law_271 : decode cL_law 271 = .ok (.iadd, 1) := by decide +kernel
theorem dL_law_272 : decode cL_law 272 = .ok (.iaload, 1) := by decide +kernel
theorem dL_law_273 : decode cL_law 273 = .ok (.invokevirtual 33, 3) := by decide +kernel
theorem dL_law_276 : decode cL_law 276 = .ok (.aload_n 2, 1) := by decide +kernel
theorem dL_law_277 : decode cL_law 277 = .ok (.aload_n 0, 1) := by decide +kernel
theorem dL_law_278 : decode cL_law 278 = .ok (.iload_n 3, 1) := by decide +kernel
theorem dL_law_279 : decode cL_law 279 = .ok (.iconst 1, 1) := by decide +kernel
theorem dL_law_280 : decode cL_law 280 = .ok (.iadd, 1) := by decide +kernel
theorem dL_law_281 : decode cL_law 281 = .ok (.iaload, 1) := by decide +kernel
theorem dL_law_282 : decode cL_law 282 = .ok (.aload_n 0, 1) := by decide +kernel
theorem dL_law_283 : decode cL_law 283 = .ok (.iload_n 3, 1) := by decide +kernel
theorem dL_law_284 : decode cL_law 284 = .ok (.iconst 2, 1) := by decide +kernel
theorem dL_law_285 : decode cL_law 285 = .ok (.iadd, 1) := by decide +kernel
theorem dL_law_286 : decode cL_law 286 = .ok (.iaload, 1) := by decide +kernel
theorem dL_law_287 : decode cL_law 287 = .ok (.invokevirtual 37, 3) := by decide +kernel
theorem dL_law_290 : decode cL_law 290 = .ok (.if_icmp .eq 634, 3) := by decide +kernel
theorem dL_law_293 : decode cL_law 293 = .ok (.iconst 0, 1) := by decide +kernel
theorem dL_law_294 : decode cL_law 294 = .ok (.ireturn, 1) := by decide +kernel
theorem dL_law_295 : decode cL_law 295 = .ok (.aload_n 1, 1) := by decide +kernel
theorem dL_law_296 : decode cL_law 296 = .ok (.aload_n 0, 1) := by decide +kernel
theorem dL_law_297 : decode cL_law 297 = .ok (.iload_n 3, 1) := by decide +kernel
theorem dL_law_298 : decode cL_law 298 = .ok (.iconst 1, 1) := by decide +kernel
theorem dL_law_299 : decode cL_law 299 = .ok (.iadd, 1) := by decide +kernel
theorem dL_law_300 : decode cL_law 300 = .ok (.iaload, 1) := by decide +kernel
theorem dL_law_301 : decode cL_law 301 = .ok (.aload_n 0, 1) := by decide +kernel
theorem dL_law_302 : decode cL_law 302 = .ok (.iload_n 3, 1) := by decide +kernel
theorem dL_law_303 : decode cL_law 303 = .ok (.iconst 2, 1) := by decide +kernel
theorem dL_law_304 : decode cL_law 304 = .ok (.iadd, 1) := by decide +kernel
theorem dL_law_305 : decode cL_law 305 = .ok (.iaload, 1) := by decide +kernel
theorem dL_law_306 : decode cL_law 306 = .ok (.invokevirtual 38, 3) := by decide +kernel
theorem dL_law_309 : decode cL_law 309 = .ok (.aload_n 2, 1) := by decide +kernel
theorem dL_law_310 : decode cL_law 310 = .ok (.aload_n 0, 1) := by decide +kernel
theorem dL_law_311 : decode cL_law 311 = .ok (.iload_n 3, 1) := by decide +kernel
theorem dL_law_312 : decode cL_law 312 = .ok (.iconst 1, 1) := by decide +kernel
theorem dL_law_313 : decode cL_law 313 = .ok (.iadd, 1) := by decide +kernel
theorem dL_law_314 : decode cL_law 314 = .ok (.iaload, 1) := by decide +kernel
theorem dL_law_315 : decode cL_law 315 = .ok (.aload_n 0, 1) := by decide +kernel
theorem dL_law_316 : decode cL_law 316 = .ok (.iload_n 3, 1) := by decide +kernel
theorem dL_law_317 : decode cL_law 317 = .ok (.iconst 2, 1) := by decide +kernel
theorem dL_law_318 : decode cL_law 318 = .ok (.iadd, 1) := by decide +kernel
theorem dL_law_319 : decode cL_law 319 = .ok (.iaload, 1) := by decide +kernel
theorem dL_law_320 : decode cL_law 320 = .ok (.invokevirtual 41, 3) := by decide +kernel
theorem dL_law_323 : decode cL_law 323 = .ok (.if_icmp .eq 601, 3) := by decide +kernel
theorem dL_law_326 : decode cL_law 326 = .ok (.iconst 0, 1) := by decide +kernel
theorem dL_law_327 : decode cL_law 327 = .ok (.ireturn, 1) := by decide +kernel
theorem dL_law_328 : decode cL_law 328 = .ok (.aload_n 1, 1) := by decide +kernel
theorem dL_law_329 : decode cL_law 329 = .ok (.aload_n 0, 1) := by decide +kernel
theorem dL_law_330 : decode cL_law 330 = .ok (.iload_n 3, 1) := by decide +kernel
theorem dL_law_331 : decode cL_law 331 = .ok (.iconst 1, 1) := by decide +kernel
theorem dL_law_332 : decode cL_law 332 = .ok (.iadd, 1) := by decide +kernel
theorem dL_law_333 : decode cL_law 333 = .ok (.iaload, 1) := by decide +kernel
theorem dL_law_334 : decode cL_law 334 = .ok (.aload_n 0, 1) := by decide +kernel
theorem dL_law_335 : decode cL_law 335 = .ok (.iload_n 3, 1) := by decide +kernel
theorem dL_law_336 : decode cL_law 336 = .ok (.iconst 2, 1) := by decide +kernel
theorem dL_law_337 : decode cL_law 337 = .ok (.iadd, 1) := by decide +kernel
theorem dL_law_338 : decode cL_law 338 = .ok (.iaload, 1) := by decide +kernel
theorem dL_law_339 : decode cL_law 339 = .ok (.invokevirtual 42, 3) := by decide +kernel
theorem dL_law_342 : decode cL_law 342 = .ok (.aload_n 2, 1) := by decide +kernel
theorem dL_law_343 : decode cL_law 343 = .ok (.aload_n 0, 1) := by decide +kernel
theorem dL_law_344 : decode cL_law 344 = .ok (.iload_n 3, 1) := by decide +kernel
theorem dL_law_345 : decode cL_law 345 = .ok (.iconst 1, 1) := by decide +kernel
theorem dL_law_346 : decode cL_law 346 = .ok (.iadd, 1) := by decide +kernel
theorem dL_law_347 : decode cL_law 347 = .ok (.iaload, 1) := by decide +kernel
theorem dL_law_348 : decode cL_law 348 = .ok (.aload_n 0, 1) := by decide +kernel
theorem dL_law_349 : decode cL_law 349 = .ok (.iload_n 3, 1) := by decide +kernel
theorem dL_law_350 : decode cL_law 350 = .ok (.iconst 2, 1) := by decide +kernel
theorem dL_law_351 : decode cL_law 351 = .ok (.iadd, 1) := by decide +kernel
theorem dL_law_352 : decode cL_law 352 = .ok (.iaload, 1) := by decide +kernel
theorem dL_law_353 : decode cL_law 353 = .ok (.invokevirtual 45, 3) := by decide +kernel
theorem dL_law_356 : decode cL_law 356 = .ok (.if_icmp .eq 568, 3) := by decide +kernel
theorem dL_law_359 : decode cL_law 359 = .ok (.iconst 0, 1) := by decide +kernel
theorem dL_law_360 : decode cL_law 360 = .ok (.ireturn, 1) := by decide +kernel
theorem dL_law_361 : decode cL_law 361 = .ok (.aload_n 1, 1) := by decide +kernel
theorem dL_law_362 : decode cL_law 362 = .ok (.aload_n 0, 1) := by decide +kernel
theorem dL_law_363 : decode cL_law 363 = .ok (.iload_n 3, 1) := by decide +kernel
theorem dL_law_364 : decode cL_law 364 = .ok (.iconst 1, 1) := by decide +kernel
theorem dL_law_365 : decode cL_law 365 = .ok (.iadd, 1) := by decide +kernel
theorem dL_law_366 : decode cL_law 366 = .ok (.iaload, 1) := by decide +kernel
theorem dL_law_367 : decode cL_law 367 = .ok (.aload_n 0, 1) := by decide +kernel
theorem dL_law_368 : decode cL_law 368 = .ok (.iload_n 3, 1) := by decide +kernel
theorem dL_law_369 : decode cL_law 369 = .ok (.iconst 2, 1) := by decide +kernel
theorem dL_law_370 : decode cL_law 370 = .ok (.iadd, 1) := by decide +kernel
theorem dL_law_371 : decode cL_law 371 = .ok (.iaload, 1) := by decide +kernel
theorem dL_law_372 : decode cL_law 372 = .ok (.invokevirtual 46, 3) := by decide +kernel
theorem dL_law_375 : decode cL_law 375 = .ok (.aload_n 2, 1) := by decide +kernel
theorem dL_law_376 : decode cL_law 376 = .ok (.aload_n 0, 1) := by decide +kernel
theorem dL_law_377 : decode cL_law 377 = .ok (.iload_n 3, 1) := by decide +kernel
theorem dL_law_378 : decode cL_law 378 = .ok (.iconst 1, 1) := by decide +kernel
theorem dL_law_379 : decode cL_law 379 = .ok (.iadd, 1) := by decide +kernel
theorem dL_law_380 : decode cL_law 380 = .ok (.iaload, 1) := by decide +kernel
theorem dL_law_381 : decode cL_law 381 = .ok (.aload_n 0, 1) := by decide +kernel
theorem dL_law_382 : decode cL_law 382 = .ok (.iload_n 3, 1) := by decide +kernel
theorem dL_law_383 : decode cL_law 383 = .ok (.iconst 2, 1) := by decide +kernel
theorem dL_law_384 : decode cL_law 384 = .ok (.iadd, 1) := by decide +kernel
theorem dL_law_385 : decode cL_law 385 = .ok (.iaload, 1) := by decide +kernel
theorem dL_law_386 : decode cL_law 386 = .ok (.invokevirtual 49, 3) := by decide +kernel
theorem dL_law_389 : decode cL_law 389 = .ok (.if_icmp .eq 535, 3) := by decide +kernel
theorem dL_law_392 : decode cL_law 392 = .ok (.iconst 0, 1) := by decide +kernel
theorem dL_law_393 : decode cL_law 393 = .ok (.ireturn, 1) := by decide +kernel
theorem dL_law_394 : decode cL_law 394 = .ok (.aload_n 1, 1) := by decide +kernel
theorem dL_law_395 : decode cL_law 395 = .ok (.aload_n 0, 1) := by decide +kernel
theorem dL_law_396 : decode cL_law 396 = .ok (.iload_n 3, 1) := by decide +kernel
theorem dL_law_397 : decode cL_law 397 = .ok (.iconst 1, 1) := by decide +kernel
theorem dL_law_398 : decode cL_law 398 = .ok (.iadd, 1) := by decide +kernel
theorem dL_law_399 : decode cL_law 399 = .ok (.iaload, 1) := by decide +kernel
theorem dL_law_400 : decode cL_law 400 = .ok (.aload_n 0, 1) := by decide +kernel
theorem dL_law_401 : decode cL_law 401 = .ok (.iload_n 3, 1) := by decide +kernel
theorem dL_law_402 : decode cL_law 402 = .ok (.iconst 2, 1) := by decide +kernel
theorem dL_law_403 : decode cL_law 403 = .ok (.iadd, 1) := by decide +kernel
theorem dL_law_404 : decode cL_law 404 = .ok (.iaload, 1) := by decide +kernel
theorem dL_law_405 : decode cL_law 405 = .ok (.invokevirtual 50, 3) := by decide +kernel
theorem dL_law_408 : decode cL_law 408 = .ok (.aload_n 2, 1) := by decide +kernel
theorem dL_law_409 : decode cL_law 409 = .ok (.aload_n 0, 1) := by decide +kernel
theorem dL_law_410 : decode cL_law 410 = .ok (.iload_n 3, 1) := by decide +kernel
theorem dL_law_411 : decode cL_law 411 = .ok (.iconst 1, 1) := by decide +kernel
theorem dL_law_412 : decode cL_law 412 = .ok (.iadd, 1) := by decide +kernel
theorem dL_law_413 : decode cL_law 413 = .ok (.iaload, 1) := by decide +kernel
theorem dL_law_414 : decode cL_law 414 = .ok (.aload_n 0, 1) := by decide +kernel
theorem dL_law_415 : decode cL_law 415 = .ok (.iload_n 3, 1) := by decide +kernel
theorem dL_law_416 : decode cL_law 416 = .ok (.iconst 2, 1) := by decide +kernel
theorem dL_law_417 : decode cL_law 417 = .ok (.iadd, 1) := by decide +kernel
theorem dL_law_418 : decode cL_law 418 = .ok (.iaload, 1) := by decide +kernel
theorem dL_law_419 : decode cL_law 419 = .ok (.invokevirtual 53, 3) := by decide +kernel
theorem dL_law_422 : decode cL_law 422 = .ok (.if_icmp .eq 502, 3) := by decide +kernel
theorem dL_law_425 : decode cL_law 425 = .ok (.iconst 0, 1) := by decide +kernel
theorem dL_law_426 : decode cL_law 426 = .ok (.ireturn, 1) := by decide +kernel
theorem dL_law_427 : decode cL_law 427 = .ok (.aload_n 1, 1) := by decide +kernel
theorem dL_law_428 : decode cL_law 428 = .ok (.aload_n 0, 1) := by decide +kernel
theorem dL_law_429 : decode cL_law 429 = .ok (.iload_n 3, 1) := by decide +kernel
theorem dL_law_430 : decode cL_law 430 = .ok (.iconst 1, 1) := by decide +kernel
theorem dL_law_431 : decode cL_law 431 = .ok (.iadd, 1) := by decide +kernel
theorem dL_law_432 : decode cL_law 432 = .ok (.iaload, 1) := by decide +kernel
theorem dL_law_433 : decode cL_law 433 = .ok (.invokevirtual 54, 3) := by decide +kernel
theorem dL_law_436 : decode cL_law 436 = .ok (.aload_n 2, 1) := by decide +kernel
theorem dL_law_437 : decode cL_law 437 = .ok (.aload_n 0, 1) := by decide +kernel
theorem dL_law_438 : decode cL_law 438 = .ok (.iload_n 3, 1) := by decide +kernel
theorem dL_law_439 : decode cL_law 439 = .ok (.iconst 1, 1) := by decide +kernel
theorem dL_law_440 : decode cL_law 440 = .ok (.iadd, 1) := by decide +kernel
theorem dL_law_441 : decode cL_law 441 = .ok (.iaload, 1) := by decide +kernel
theorem dL_law_442 : decode cL_law 442 = .ok (.invokevirtual 58, 3) := by decide +kernel
theorem dL_law_445 : decode cL_law 445 = .ok (.if_icmp .eq 479, 3) := by decide +kernel
theorem dL_law_448 : decode cL_law 448 = .ok (.iconst 0, 1) := by decide +kernel
theorem dL_law_449 : decode cL_law 449 = .ok (.ireturn, 1) := by decide +kernel
theorem dL_law_450 : decode cL_law 450 = .ok (.aload_n 1, 1) := by decide +kernel
theorem dL_law_451 : decode cL_law 451 = .ok (.aload_n 0, 1) := by decide +kernel
theorem dL_law_452 : decode cL_law 452 = .ok (.iload_n 3, 1) := by decide +kernel
theorem dL_law_453 : decode cL_law 453 = .ok (.iconst 1, 1) := by decide +kernel
theorem dL_law_454 : decode cL_law 454 = .ok (.iadd, 1) := by decide +kernel
theorem dL_law_455 : decode cL_law 455 = .ok (.iaload, 1) := by decide +kernel
theorem dL_law_456 : decode cL_law 456 = .ok (.aload_n 0, 1) := by decide +kernel
theorem dL_law_457 : decode cL_law 457 = .ok (.iload_n 3, 1) := by decide +kernel
theorem dL_law_458 : decode cL_law 458 = .ok (.iconst 2, 1) := by decide +kernel
theorem dL_law_459 : decode cL_law 459 = .ok (.iadd, 1) := by decide +kernel
theorem dL_law_460 : decode cL_law 460 = .ok (.iaload, 1) := by decide +kernel
theorem dL_law_461 : decode cL_law 461 = .ok (.invokevirtual 59, 3) := by decide +kernel
theorem dL_law_464 : decode cL_law 464 = .ok (.aload_n 2, 1) := by decide +kernel
theorem dL_law_465 : decode cL_law 465 = .ok (.aload_n 0, 1) := by decide +kernel
theorem dL_law_466 : decode cL_law 466 = .ok (.iload_n 3, 1) := by decide +kernel
theorem dL_law_467 : decode cL_law 467 = .ok (.iconst 1, 1) := by decide +kernel
theorem dL_law_468 : decode cL_law 468 = .ok (.iadd, 1) := by decide +kernel
theorem dL_law_469 : decode cL_law 469 = .ok (.iaload, 1) := by decide +kernel
theorem dL_law_470 : decode cL_law 470 = .ok (.aload_n 0, 1) := by decide +kernel
theorem dL_law_471 : decode cL_law 471 = .ok (.iload_n 3, 1) := by decide +kernel
theorem dL_law_472 : decode cL_law 472 = .ok (.iconst 2, 1) := by decide +kernel
theorem dL_law_473 : decode cL_law 473 = .ok (.iadd, 1) := by decide +kernel
theorem dL_law_474 : decode cL_law 474 = .ok (.iaload, 1) := by decide +kernel
theorem dL_law_475 : decode cL_law 475 = .ok (.invokevirtual 62, 3) := by decide +kernel
theorem dL_law_478 : decode cL_law 478 = .ok (.if_icmp .eq 446, 3) := by decide +kernel
theorem dL_law_481 : decode cL_law 481 = .ok (.iconst 0, 1) := by decide +kernel
theorem dL_law_482 : decode cL_law 482 = .ok (.ireturn, 1) := by decide +kernel
theorem dL_law_483 : decode cL_law 483 = .ok (.aload_n 1, 1) := by decide +kernel
theorem dL_law_484 : decode cL_law 484 = .ok (.aload_n 0, 1) := by decide +kernel
theorem dL_law_485 : decode cL_law 485 = .ok (.iload_n 3, 1) := by decide +kernel
theorem dL_law_486 : decode cL_law 486 = .ok (.iconst 1, 1) := by decide +kernel
theorem dL_law_487 : decode cL_law 487 = .ok (.iadd, 1) := by decide +kernel
theorem dL_law_488 : decode cL_law 488 = .ok (.iaload, 1) := by decide +kernel
theorem dL_law_489 : decode cL_law 489 = .ok (.aload_n 0, 1) := by decide +kernel
theorem dL_law_490 : decode cL_law 490 = .ok (.iload_n 3, 1) := by decide +kernel
theorem dL_law_491 : decode cL_law 491 = .ok (.iconst 2, 1) := by decide +kernel
theorem dL_law_492 : decode cL_law 492 = .ok (.iadd, 1) := by decide +kernel
theorem dL_law_493 : decode cL_law 493 = .ok (.iaload, 1) := by decide +kernel
theorem dL_law_494 : decode cL_law 494 = .ok (.invokevirtual 63, 3) := by decide +kernel
theorem dL_law_497 : decode cL_law 497 = .ok (.aload_n 2, 1) := by decide +kernel
theorem dL_law_498 : decode cL_law 498 = .ok (.aload_n 0, 1) := by decide +kernel
theorem dL_law_499 : decode cL_law 499 = .ok (.iload_n 3, 1) := by decide +kernel
theorem dL_law_500 : decode cL_law 500 = .ok (.iconst 1, 1) := by decide +kernel
theorem dL_law_501 : decode cL_law 501 = .ok (.iadd, 1) := by decide +kernel
theorem dL_law_502 : decode cL_law 502 = .ok (.iaload, 1) := by decide +kernel
theorem dL_law_503 : decode cL_law 503 = .ok (.aload_n 0, 1) := by decide +kernel
theorem dL_law_504 : decode cL_law 504 = .ok (.iload_n 3, 1) := by decide +kernel
theorem dL_law_505 : decode cL_law 505 = .ok (.iconst 2, 1) := by decide +kernel
theorem dL_law_506 : decode cL_law 506 = .ok (.iadd, 1) := by decide +kernel
theorem dL_law_507 : decode cL_law 507 = .ok (.iaload, 1) := by decide +kernel
theorem dL_law_508 : decode cL_law 508 = .ok (.invokevirtual 66, 3) := by decide +kernel
theorem dL_law_511 : decode cL_law 511 = .ok (.if_icmp .eq 413, 3) := by decide +kernel
theorem dL_law_514 : decode cL_law 514 = .ok (.iconst 0, 1) := by decide +kernel
theorem dL_law_515 : decode cL_law 515 = .ok (.ireturn, 1) := by decide +kernel
theorem dL_law_516 : decode cL_law 516 = .ok (.aload_n 1, 1) := by decide +kernel
theorem dL_law_517 : decode cL_law 517 = .ok (.aload_n 0, 1) := by decide +kernel
theorem dL_law_518 : decode cL_law 518 = .ok (.iload_n 3, 1) := by decide +kernel
theorem dL_law_519 : decode cL_law 519 = .ok (.iconst 1, 1) := by decide +kernel
theorem dL_law_520 : decode cL_law 520 = .ok (.iadd, 1) := by decide +kernel
theorem dL_law_521 : decode cL_law 521 = .ok (.iaload, 1) := by decide +kernel
theorem dL_law_522 : decode cL_law 522 = .ok (.invokevirtual 67, 3) := by decide +kernel
theorem dL_law_525 : decode cL_law 525 = .ok (.aload_n 2, 1) := by decide +kernel
theorem dL_law_526 : decode cL_law 526 = .ok (.aload_n 0, 1) := by decide +kernel
theorem dL_law_527 : decode cL_law 527 = .ok (.iload_n 3, 1) := by decide +kernel
theorem dL_law_528 : decode cL_law 528 = .ok (.iconst 1, 1) := by decide +kernel
theorem dL_law_529 : decode cL_law 529 = .ok (.iadd, 1) := by decide +kernel
theorem dL_law_530 : decode cL_law 530 = .ok (.iaload, 1) := by decide +kernel
theorem dL_law_531 : decode cL_law 531 = .ok (.invokevirtual 70, 3) := by decide +kernel
theorem dL_law_534 : decode cL_law 534 = .ok (.if_icmp .eq 390, 3) := by decide +kernel
theorem dL_law_537 : decode cL_law 537 = .ok (.iconst 0, 1) := by decide +kernel
theorem dL_law_538 : decode cL_law 538 = .ok (.ireturn, 1) := by decide +kernel
theorem dL_law_539 : decode cL_law 539 = .ok (.aload_n 1, 1) := by decide +kernel
theorem dL_law_540 : decode cL_law 540 = .ok (.aload_n 0, 1) := by decide +kernel
theorem dL_law_541 : decode cL_law 541 = .ok (.iload_n 3, 1) := by decide +kernel
theorem dL_law_542 : decode cL_law 542 = .ok (.iconst 1, 1) := by decide +kernel
theorem dL_law_543 : decode cL_law 543 = .ok (.iadd, 1) := by decide +kernel
theorem dL_law_544 : decode cL_law 544 = .ok (.iaload, 1) := by decide +kernel
theorem dL_law_545 : decode cL_law 545 = .ok (.invokevirtual 71, 3) := by decide +kernel
theorem dL_law_548 : decode cL_law 548 = .ok (.aload_n 2, 1) := by decide +kernel
theorem dL_law_549 : decode cL_law 549 = .ok (.aload_n 0, 1) := by decide +kernel
theorem dL_law_550 : decode cL_law 550 = .ok (.iload_n 3, 1) := by decide +kernel
theorem dL_law_551 : decode cL_law 551 = .ok (.iconst 1, 1) := by decide +kernel
theorem dL_law_552 : decode cL_law 552 = .ok (.iadd, 1) := by decide +kernel
theorem dL_law_553 : decode cL_law 553 = .ok (.iaload, 1) := by decide +kernel
theorem dL_law_554 : decode cL_law 554 = .ok (.invokevirtual 74, 3) := by decide +kernel
theorem dL_law_557 : decode cL_law 557 = .ok (.if_icmp .eq 367, 3) := by decide +kernel
theorem dL_law_560 : decode cL_law 560 = .ok (.iconst 0, 1) := by decide +kernel
theorem dL_law_561 : decode cL_law 561 = .ok (.ireturn, 1) := by decide +kernel
theorem dL_law_562 : decode cL_law 562 = .ok (.aload_n 1, 1) := by decide +kernel
theorem dL_law_563 : decode cL_law 563 = .ok (.aload_n 0, 1) := by decide +kernel
theorem dL_law_564 : decode cL_law 564 = .ok (.iload_n 3, 1) := by decide +kernel
theorem dL_law_565 : decode cL_law 565 = .ok (.iconst 1, 1) := by decide +kernel
theorem dL_law_566 : decode cL_law 566 = .ok (.iadd, 1) := by decide +kernel
theorem dL_law_567 : decode cL_law 567 = .ok (.iaload, 1) := by decide +kernel
theorem dL_law_568 : decode cL_law 568 = .ok (.invokevirtual 75, 3) := by decide +kernel
theorem dL_law_571 : decode cL_law 571 = .ok (.aload_n 2, 1) := by decide +kernel
theorem dL_law_572 : decode cL_law 572 = .ok (.aload_n 0, 1) := by decide +kernel
theorem dL_law_573 : decode cL_law 573 = .ok (.iload_n 3, 1) := by decide +kernel
theorem dL_law_574 : decode cL_law 574 = .ok (.iconst 1, 1) := by decide +kernel
theorem dL_law_575 : decode cL_law 575 = .ok (.iadd, 1) := by decide +kernel
theorem dL_law_576 : decode cL_law 576 = .ok (.iaload, 1) := by decide +kernel
theorem dL_law_577 : decode cL_law 577 = .ok (.invokevirtual 78, 3) := by decide +kernel
theorem dL_law_580 : decode cL_law 580 = .ok (.if_icmp .eq 344, 3) := by decide +kernel
theorem dL_law_583 : decode cL_law 583 = .ok (.iconst 0, 1) := by decide +kernel
theorem dL_law_584 : decode cL_law 584 = .ok (.ireturn, 1) := by decide +kernel
theorem dL_law_585 : decode cL_law 585 = .ok (.aload_n 1, 1) := by decide +kernel
theorem dL_law_586 : decode cL_law 586 = .ok (.aload_n 0, 1) := by decide +kernel
theorem dL_law_587 : decode cL_law 587 = .ok (.iload_n 3, 1) := by decide +kernel
theorem dL_law_588 : decode cL_law 588 = .ok (.iconst 1, 1) := by decide +kernel
theorem dL_law_589 : decode cL_law 589 = .ok (.iadd, 1) := by decide +kernel
theorem dL_law_590 : decode cL_law 590 = .ok (.iaload, 1) := by decide +kernel
theorem dL_law_591 : decode cL_law 591 = .ok (.aload_n 0, 1) := by decide +kernel
theorem dL_law_592 : decode cL_law 592 = .ok (.iload_n 3, 1) := by decide +kernel
theorem dL_law_593 : decode cL_law 593 = .ok (.iconst 2, 1) := by decide +kernel
theorem dL_law_594 : decode cL_law 594 = .ok (.iadd, 1) := by decide +kernel
theorem dL_law_595 : decode cL_law 595 = .ok (.iaload, 1) := by decide +kernel
theorem dL_law_596 : decode cL_law 596 = .ok (.invokevirtual 79, 3) := by decide +kernel
theorem dL_law_599 : decode cL_law 599 = .ok (.aload_n 2, 1) := by decide +kernel
theorem dL_law_600 : decode cL_law 600 = .ok (.aload_n 0, 1) := by decide +kernel
theorem dL_law_601 : decode cL_law 601 = .ok (.iload_n 3, 1) := by decide +kernel
theorem dL_law_602 : decode cL_law 602 = .ok (.iconst 1, 1) := by decide +kernel
theorem dL_law_603 : decode cL_law 603 = .ok (.iadd, 1) := by decide +kernel
theorem dL_law_604 : decode cL_law 604 = .ok (.iaload, 1) := by decide +kernel
theorem dL_law_605 : decode cL_law 605 = .ok (.aload_n 0, 1) := by decide +kernel
theorem dL_law_606 : decode cL_law 606 = .ok (.iload_n 3, 1) := by decide +kernel
theorem dL_law_607 : decode cL_law 607 = .ok (.iconst 2, 1) := by decide +kernel
theorem dL_law_608 : decode cL_law 608 = .ok (.iadd, 1) := by decide +kernel
theorem dL_law_609 : decode cL_law 609 = .ok (.iaload, 1) := by decide +kernel
theorem dL_law_610 : decode cL_law 610 = .ok (.invokevirtual 82, 3) := by decide +kernel
theorem dL_law_613 : decode cL_law 613 = .ok (.if_icmp .eq 311, 3) := by decide +kernel
theorem dL_law_616 : decode cL_law 616 = .ok (.iconst 0, 1) := by decide +kernel
theorem dL_law_617 : decode cL_law 617 = .ok (.ireturn, 1) := by decide +kernel
theorem dL_law_618 : decode cL_law 618 = .ok (.aload_n 1, 1) := by decide +kernel
theorem dL_law_619 : decode cL_law 619 = .ok (.aload_n 0, 1) := by decide +kernel
theorem dL_law_620 : decode cL_law 620 = .ok (.iload_n 3, 1) := by decide +kernel
theorem dL_law_621 : decode cL_law 621 = .ok (.iconst 1, 1) := by decide +kernel
theorem dL_law_622 : decode cL_law 622 = .ok (.iadd, 1) := by decide +kernel
theorem dL_law_623 : decode cL_law 623 = .ok (.iaload, 1) := by decide +kernel
theorem dL_law_624 : decode cL_law 624 = .ok (.invokevirtual 83, 3) := by decide +kernel
theorem dL_law_627 : decode cL_law 627 = .ok (.aload_n 2, 1) := by decide +kernel
theorem dL_law_628 : decode cL_law 628 = .ok (.aload_n 0, 1) := by decide +kernel
theorem dL_law_629 : decode cL_law 629 = .ok (.iload_n 3, 1) := by decide +kernel
theorem dL_law_630 : decode cL_law 630 = .ok (.iconst 1, 1) := by decide +kernel
theorem dL_law_631 : decode cL_law 631 = .ok (.iadd, 1) := by decide +kernel
theorem dL_law_632 : decode cL_law 632 = .ok (.iaload, 1) := by decide +kernel
theorem dL_law_633 : decode cL_law 633 = .ok (.invokevirtual 86, 3) := by decide +kernel
theorem dL_law_636 : decode cL_law 636 = .ok (.if_icmp .eq 288, 3) := by decide +kernel
theorem dL_law_639 : decode cL_law 639 = .ok (.iconst 0, 1) := by decide +kernel
theorem dL_law_640 : decode cL_law 640 = .ok (.ireturn, 1) := by decide +kernel
theorem dL_law_641 : decode cL_law 641 = .ok (.aload_n 1, 1) := by decide +kernel
theorem dL_law_642 : decode cL_law 642 = .ok (.invokevirtual 87, 3) := by decide +kernel
theorem dL_law_645 : decode cL_law 645 = .ok (.aload_n 2, 1) := by decide +kernel
theorem dL_law_646 : decode cL_law 646 = .ok (.invokevirtual 90, 3) := by decide +kernel
theorem dL_law_649 : decode cL_law 649 = .ok (.if_icmp .eq 275, 3) := by decide +kernel
theorem dL_law_652 : decode cL_law 652 = .ok (.iconst 0, 1) := by decide +kernel
theorem dL_law_653 : decode cL_law 653 = .ok (.ireturn, 1) := by decide +kernel
theorem dL_law_654 : decode cL_law 654 = .ok (.aload_n 1, 1) := by decide +kernel
theorem dL_law_655 : decode cL_law 655 = .ok (.aload_n 0, 1) := by decide +kernel
theorem dL_law_656 : decode cL_law 656 = .ok (.iload_n 3, 1) := by decide +kernel
theorem dL_law_657 : decode cL_law 657 = .ok (.iconst 1, 1) := by decide +kernel
theorem dL_law_658 : decode cL_law 658 = .ok (.iadd, 1) := by decide +kernel
theorem dL_law_659 : decode cL_law 659 = .ok (.iaload, 1) := by decide +kernel
theorem dL_law_660 : decode cL_law 660 = .ok (.aload_n 0, 1) := by decide +kernel
theorem dL_law_661 : decode cL_law 661 = .ok (.iload_n 3, 1) := by decide +kernel
theorem dL_law_662 : decode cL_law 662 = .ok (.iconst 2, 1) := by decide +kernel
theorem dL_law_663 : decode cL_law 663 = .ok (.iadd, 1) := by decide +kernel
theorem dL_law_664 : decode cL_law 664 = .ok (.iaload, 1) := by decide +kernel
theorem dL_law_665 : decode cL_law 665 = .ok (.invokevirtual 91, 3) := by decide +kernel
theorem dL_law_668 : decode cL_law 668 = .ok (.aload_n 2, 1) := by decide +kernel
theorem dL_law_669 : decode cL_law 669 = .ok (.aload_n 0, 1) := by decide +kernel
theorem dL_law_670 : decode cL_law 670 = .ok (.iload_n 3, 1) := by decide +kernel
theorem dL_law_671 : decode cL_law 671 = .ok (.iconst 1, 1) := by decide +kernel
theorem dL_law_672 : decode cL_law 672 = .ok (.iadd, 1) := by decide +kernel
theorem dL_law_673 : decode cL_law 673 = .ok (.iaload, 1) := by decide +kernel
theorem dL_law_674 : decode cL_law 674 = .ok (.aload_n 0, 1) := by decide +kernel
theorem dL_law_675 : decode cL_law 675 = .ok (.iload_n 3, 1) := by decide +kernel
theorem dL_law_676 : decode cL_law 676 = .ok (.iconst 2, 1) := by decide +kernel
end
section
theorem dL_law_677 : decode cL_law 677 = .ok (.iadd, 1) := by decide +kernel
theorem dL_law_678 : decode cL_law 678 = .ok (.iaload, 1) := by decide +kernel
theorem dL_law_679 : decode cL_law 679 = .ok (.invokevirtual 94, 3) := by decide +kernel
theorem dL_law_682 : decode cL_law 682 = .ok (.if_icmp .eq 242, 3) := by decide +kernel
theorem dL_law_685 : decode cL_law 685 = .ok (.iconst 0, 1) := by decide +kernel
theorem dL_law_686 : decode cL_law 686 = .ok (.ireturn, 1) := by decide +kernel
theorem dL_law_687 : decode cL_law 687 = .ok (.aload_n 1, 1) := by decide +kernel
theorem dL_law_688 : decode cL_law 688 = .ok (.aload_n 0, 1) := by decide +kernel
theorem dL_law_689 : decode cL_law 689 = .ok (.iload_n 3, 1) := by decide +kernel
theorem dL_law_690 : decode cL_law 690 = .ok (.iconst 1, 1) := by decide +kernel
theorem dL_law_691 : decode cL_law 691 = .ok (.iadd, 1) := by decide +kernel
theorem dL_law_692 : decode cL_law 692 = .ok (.iaload, 1) := by decide +kernel
theorem dL_law_693 : decode cL_law 693 = .ok (.aload_n 0, 1) := by decide +kernel
theorem dL_law_694 : decode cL_law 694 = .ok (.iload_n 3, 1) := by decide +kernel
theorem dL_law_695 : decode cL_law 695 = .ok (.iconst 2, 1) := by decide +kernel
theorem dL_law_696 : decode cL_law 696 = .ok (.iadd, 1) := by decide +kernel
theorem dL_law_697 : decode cL_law 697 = .ok (.iaload, 1) := by decide +kernel
theorem dL_law_698 : decode cL_law 698 = .ok (.aload_n 0, 1) := by decide +kernel
theorem dL_law_699 : decode cL_law 699 = .ok (.iload_n 3, 1) := by decide +kernel
theorem dL_law_700 : decode cL_law 700 = .ok (.iconst 3, 1) := by decide +kernel
theorem dL_law_701 : decode cL_law 701 = .ok (.iadd, 1) := by decide +kernel
theorem dL_law_702 : decode cL_law 702 = .ok (.iaload, 1) := by decide +kernel
theorem dL_law_703 : decode cL_law 703 = .ok (.invokevirtual 95, 3) := by decide +kernel
theorem dL_law_706 : decode cL_law 706 = .ok (.aload_n 2, 1) := by decide +kernel
theorem dL_law_707 : decode cL_law 707 = .ok (.aload_n 0, 1) := by decide +kernel
theorem dL_law_708 : decode cL_law 708 = .ok (.iload_n 3, 1) := by decide +kernel
theorem dL_law_709 : decode cL_law 709 = .ok (.iconst 1, 1) := by decide +kernel
theorem dL_law_710 : decode cL_law 710 = .ok (.iadd, 1) := by decide +kernel
theorem dL_law_711 : decode cL_law 711 = .ok (.iaload, 1) := by decide +kernel
theorem dL_law_712 : decode cL_law 712 = .ok (.aload_n 0, 1) := by decide +kernel
theorem dL_law_713 : decode cL_law 713 = .ok (.iload_n 3, 1) := by decide +kernel
theorem dL_law_714 : decode cL_law 714 = .ok (.iconst 2, 1) := by decide +kernel
theorem dL_law_715 : decode cL_law 715 = .ok (.iadd, 1) := by decide +kernel
theorem dL_law_716 : decode cL_law 716 = .ok (.iaload, 1) := by decide +kernel
theorem dL_law_717 : decode cL_law 717 = .ok (.aload_n 0, 1) := by decide +kernel
theorem dL_law_718 : decode cL_law 718 = .ok (.iload_n 3, 1) := by decide +kernel
theorem dL_law_719 : decode cL_law 719 = .ok (.iconst 3, 1) := by decide +kernel
theorem dL_law_720 : decode cL_law 720 = .ok (.iadd, 1) := by decide +kernel
theorem dL_law_721 : decode cL_law 721 = .ok (.iaload, 1) := by decide +kernel
theorem dL_law_722 : decode cL_law 722 = .ok (.invokevirtual 99, 3) := by decide +kernel
theorem dL_law_725 : decode cL_law 725 = .ok (.if_icmp .eq 199, 3) := by decide +kernel
theorem dL_law_728 : decode cL_law 728 = .ok (.iconst 0, 1) := by decide +kernel
theorem dL_law_729 : decode cL_law 729 = .ok (.ireturn, 1) := by decide +kernel
theorem dL_law_730 : decode cL_law 730 = .ok (.aload_n 1, 1) := by decide +kernel
theorem dL_law_731 : decode cL_law 731 = .ok (.aload_n 0, 1) := by decide +kernel
theorem dL_law_732 : decode cL_law 732 = .ok (.iload_n 3, 1) := by decide +kernel
theorem dL_law_733 : decode cL_law 733 = .ok (.iconst 1, 1) := by decide +kernel
theorem dL_law_734 : decode cL_law 734 = .ok (.iadd, 1) := by decide +kernel
theorem dL_law_735 : decode cL_law 735 = .ok (.iaload, 1) := by decide +kernel
theorem dL_law_736 : decode cL_law 736 = .ok (.aload_n 0, 1) := by decide +kernel
theorem dL_law_737 : decode cL_law 737 = .ok (.iload_n 3, 1) := by decide +kernel
theorem dL_law_738 : decode cL_law 738 = .ok (.iconst 2, 1) := by decide +kernel
theorem dL_law_739 : decode cL_law 739 = .ok (.iadd, 1) := by decide +kernel
theorem dL_law_740 : decode cL_law 740 = .ok (.iaload, 1) := by decide +kernel
theorem dL_law_741 : decode cL_law 741 = .ok (.aload_n 0, 1) := by decide +kernel
theorem dL_law_742 : decode cL_law 742 = .ok (.iload_n 3, 1) := by decide +kernel
theorem dL_law_743 : decode cL_law 743 = .ok (.iconst 3, 1) := by decide +kernel
theorem dL_law_744 : decode cL_law 744 = .ok (.iadd, 1) := by decide +kernel
theorem dL_law_745 : decode cL_law 745 = .ok (.iaload, 1) := by decide +kernel
theorem dL_law_746 : decode cL_law 746 = .ok (.invokevirtual 100, 3) := by decide +kernel
theorem dL_law_749 : decode cL_law 749 = .ok (.aload_n 2, 1) := by decide +kernel
theorem dL_law_750 : decode cL_law 750 = .ok (.aload_n 0, 1) := by decide +kernel
theorem dL_law_751 : decode cL_law 751 = .ok (.iload_n 3, 1) := by decide +kernel
theorem dL_law_752 : decode cL_law 752 = .ok (.iconst 1, 1) := by decide +kernel
theorem dL_law_753 : decode cL_law 753 = .ok (.iadd, 1) := by decide +kernel
theorem dL_law_754 : decode cL_law 754 = .ok (.iaload, 1) := by decide +kernel
theorem dL_law_755 : decode cL_law 755 = .ok (.aload_n 0, 1) := by decide +kernel
theorem dL_law_756 : decode cL_law 756 = .ok (.iload_n 3, 1) := by decide +kernel
theorem dL_law_757 : decode cL_law 757 = .ok (.iconst 2, 1) := by decide +kernel
theorem dL_law_758 : decode cL_law 758 = .ok (.iadd, 1) := by decide +kernel
theorem dL_law_759 : decode cL_law 759 = .ok (.iaload, 1) := by decide +kernel
theorem dL_law_760 : decode cL_law 760 = .ok (.aload_n 0, 1) := by decide +kernel
theorem dL_law_761 : decode cL_law 761 = .ok (.iload_n 3, 1) := by decide +kernel
theorem dL_law_762 : decode cL_law 762 = .ok (.iconst 3, 1) := by decide +kernel
theorem dL_law_763 : decode cL_law 763 = .ok (.iadd, 1) := by decide +kernel
theorem dL_law_764 : decode cL_law 764 = .ok (.iaload, 1) := by decide +kernel
theorem dL_law_765 : decode cL_law 765 = .ok (.invokevirtual 103, 3) := by decide +kernel
theorem dL_law_768 : decode cL_law 768 = .ok (.if_icmp .eq 156, 3) := by decide +kernel
theorem dL_law_771 : decode cL_law 771 = .ok (.iconst 0, 1) := by decide +kernel
theorem dL_law_772 : decode cL_law 772 = .ok (.ireturn, 1) := by decide +kernel
theorem dL_law_773 : decode cL_law 773 = .ok (.aload_n 1, 1) := by decide +kernel
theorem dL_law_774 : decode cL_law 774 = .ok (.aload_n 0, 1) := by decide +kernel
theorem dL_law_775 : decode cL_law 775 = .ok (.iload_n 3, 1) := by decide +kernel
theorem dL_law_776 : decode cL_law 776 = .ok (.iconst 1, 1) := by decide +kernel
theorem dL_law_777 : decode cL_law 777 = .ok (.iadd, 1) := by decide +kernel
theorem dL_law_778 : decode cL_law 778 = .ok (.iaload, 1) := by decide +kernel
theorem dL_law_779 : decode cL_law 779 = .ok (.aload_n 0, 1) := by decide +kernel
theorem dL_law_780 : decode cL_law 780 = .ok (.iload_n 3, 1) := by decide +kernel
theorem dL_law_781 : decode cL_law 781 = .ok (.iconst 2, 1) := by decide +kernel
theorem dL_law_782 : decode cL_law 782 = .ok (.iadd, 1) := by decide +kernel
theorem dL_law_783 : decode cL_law 783 = .ok (.iaload, 1) := by decide +kernel
theorem dL_law_784 : decode cL_law 784 = .ok (.invokevirtual 104, 3) := by decide +kernel
theorem dL_law_787 : decode cL_law 787 = .ok (.aload_n 2, 1) := by decide +kernel
theorem dL_law_788 : decode cL_law 788 = .ok (.aload_n 0, 1) := by decide +kernel
theorem dL_law_789 : decode cL_law 789 = .ok (.iload_n 3, 1) := by decide +kernel
theorem dL_law_790 : decode cL_law 790 = .ok (.iconst 1, 1) := by decide +kernel
theorem dL_law_791 : decode cL_law 791 = .ok (.iadd, 1) := by decide +kernel
theorem dL_law_792 : decode cL_law 792 = .ok (.iaload, 1) := by decide +kernel
theorem dL_law_793 : decode cL_law 793 = .ok (.aload_n 0, 1) := by decide +kernel
theorem dL_law_794 : decode cL_law 794 = .ok (.iload_n 3, 1) := by decide +kernel
theorem dL_law_795 : decode cL_law 795 = .ok (.iconst 2, 1) := by decide +kernel
theorem dL_law_796 : decode cL_law 796 = .ok (.iadd, 1) := by decide +kernel
theorem dL_law_797 : decode cL_law 797 = .ok (.iaload, 1) := by decide +kernel
theorem dL_law_798 : decode cL_law 798 = .ok (.invokevirtual 107, 3) := by decide +kernel
theorem dL_law_801 : decode cL_law 801 = .ok (.if_icmp .eq 123, 3) := by decide +kernel
theorem dL_law_804 : decode cL_law 804 = .ok (.iconst 0, 1) := by decide +kernel
theorem dL_law_805 : decode cL_law 805 = .ok (.ireturn, 1) := by decide +kernel
theorem dL_law_806 : decode cL_law 806 = .ok (.aload_n 1, 1) := by decide +kernel
theorem dL_law_807 : decode cL_law 807 = .ok (.aload_n 0, 1) := by decide +kernel
theorem dL_law_808 : decode cL_law 808 = .ok (.iload_n 3, 1) := by decide +kernel
theorem dL_law_809 : decode cL_law 809 = .ok (.iconst 1, 1) := by decide +kernel
theorem dL_law_810 : decode cL_law 810 = .ok (.iadd, 1) := by decide +kernel
theorem dL_law_811 : decode cL_law 811 = .ok (.iaload, 1) := by decide +kernel
theorem dL_law_812 : decode cL_law 812 = .ok (.aload_n 0, 1) := by decide +kernel
theorem dL_law_813 : decode cL_law 813 = .ok (.iload_n 3, 1) := by decide +kernel
theorem dL_law_814 : decode cL_law 814 = .ok (.iconst 2, 1) := by decide +kernel
theorem dL_law_815 : decode cL_law 815 = .ok (.iadd, 1) := by decide +kernel
theorem dL_law_816 : decode cL_law 816 = .ok (.iaload, 1) := by decide +kernel
theorem dL_law_817 : decode cL_law 817 = .ok (.invokevirtual 108, 3) := by decide +kernel
theorem dL_law_820 : decode cL_law 820 = .ok (.aload_n 2, 1) := by decide +kernel
theorem dL_law_821 : decode cL_law 821 = .ok (.aload_n 0, 1) := by decide +kernel
theorem dL_law_822 : decode cL_law 822 = .ok (.iload_n 3, 1) := by decide +kernel
theorem dL_law_823 : decode cL_law 823 = .ok (.iconst 1, 1) := by decide +kernel
theorem dL_law_824 : decode cL_law 824 = .ok (.iadd, 1) := by decide +kernel
theorem dL_law_825 : decode cL_law 825 = .ok (.iaload, 1) := by decide +kernel
theorem dL_law_826 : decode cL_law 826 = .ok (.aload_n 0, 1) := by decide +kernel
theorem dL_law_827 : decode cL_law 827 = .ok (.iload_n 3, 1) := by decide +kernel
theorem dL_law_828 : decode cL_law 828 = .ok (.iconst 2, 1) := by decide +kernel
theorem dL_law_829 : decode cL_law 829 = .ok (.iadd, 1) := by decide +kernel
theorem dL_law_830 : decode cL_law 830 = .ok (.iaload, 1) := by decide +kernel
theorem dL_law_831 : decode cL_law 831 = .ok (.invokevirtual 111, 3) := by decide +kernel
theorem dL_law_834 : decode cL_law 834 = .ok (.if_icmp .eq 90, 3) := by decide +kernel
theorem dL_law_837 : decode cL_law 837 = .ok (.iconst 0, 1) := by decide +kernel
theorem dL_law_838 : decode cL_law 838 = .ok (.ireturn, 1) := by decide +kernel
theorem dL_law_839 : decode cL_law 839 = .ok (.aload_n 1, 1) := by decide +kernel
theorem dL_law_840 : decode cL_law 840 = .ok (.aload_n 0, 1) := by decide +kernel
theorem dL_law_841 : decode cL_law 841 = .ok (.iload_n 3, 1) := by decide +kernel
theorem dL_law_842 : decode cL_law 842 = .ok (.iconst 1, 1) := by decide +kernel
theorem dL_law_843 : decode cL_law 843 = .ok (.iadd, 1) := by decide +kernel
theorem dL_law_844 : decode cL_law 844 = .ok (.iaload, 1) := by decide +kernel
theorem dL_law_845 : decode cL_law 845 = .ok (.invokevirtual 112, 3) := by decide +kernel
theorem dL_law_848 : decode cL_law 848 = .ok (.aload_n 2, 1) := by decide +kernel
theorem dL_law_849 : decode cL_law 849 = .ok (.aload_n 0, 1) := by decide +kernel
theorem dL_law_850 : decode cL_law 850 = .ok (.iload_n 3, 1) := by decide +kernel
theorem dL_law_851 : decode cL_law 851 = .ok (.iconst 1, 1) := by decide +kernel
theorem dL_law_852 : decode cL_law 852 = .ok (.iadd, 1) := by decide +kernel
theorem dL_law_853 : decode cL_law 853 = .ok (.iaload, 1) := by decide +kernel
theorem dL_law_854 : decode cL_law 854 = .ok (.invokevirtual 115, 3) := by decide +kernel
theorem dL_law_857 : decode cL_law 857 = .ok (.if_icmp .eq 67, 3) := by decide +kernel
theorem dL_law_860 : decode cL_law 860 = .ok (.iconst 0, 1) := by decide +kernel
theorem dL_law_861 : decode cL_law 861 = .ok (.ireturn, 1) := by decide +kernel
theorem dL_law_862 : decode cL_law 862 = .ok (.aload_n 1, 1) := by decide +kernel
theorem dL_law_863 : decode cL_law 863 = .ok (.invokevirtual 116, 3) := by decide +kernel
theorem dL_law_866 : decode cL_law 866 = .ok (.aload_n 2, 1) := by decide +kernel
theorem dL_law_867 : decode cL_law 867 = .ok (.invokevirtual 119, 3) := by decide +kernel
theorem dL_law_870 : decode cL_law 870 = .ok (.if_icmp .eq 54, 3) := by decide +kernel
theorem dL_law_873 : decode cL_law 873 = .ok (.iconst 0, 1) := by decide +kernel
theorem dL_law_874 : decode cL_law 874 = .ok (.ireturn, 1) := by decide +kernel
theorem dL_law_875 : decode cL_law 875 = .ok (.aload_n 1, 1) := by decide +kernel
theorem dL_law_876 : decode cL_law 876 = .ok (.invokevirtual 120, 3) := by decide +kernel
theorem dL_law_879 : decode cL_law 879 = .ok (.aload_n 2, 1) := by decide +kernel
theorem dL_law_880 : decode cL_law 880 = .ok (.invokevirtual 123, 3) := by decide +kernel
theorem dL_law_883 : decode cL_law 883 = .ok (.if_icmp .eq 41, 3) := by decide +kernel
theorem dL_law_886 : decode cL_law 886 = .ok (.iconst 0, 1) := by decide +kernel
theorem dL_law_887 : decode cL_law 887 = .ok (.ireturn, 1) := by decide +kernel
theorem dL_law_888 : decode cL_law 888 = .ok (.aload_n 1, 1) := by decide +kernel
theorem dL_law_889 : decode cL_law 889 = .ok (.invokevirtual 124, 3) := by decide +kernel
theorem dL_law_892 : decode cL_law 892 = .ok (.aload_n 2, 1) := by decide +kernel
theorem dL_law_893 : decode cL_law 893 = .ok (.invokevirtual 127, 3) := by decide +kernel
theorem dL_law_896 : decode cL_law 896 = .ok (.if_icmp .eq 28, 3) := by decide +kernel
theorem dL_law_899 : decode cL_law 899 = .ok (.iconst 0, 1) := by decide +kernel
theorem dL_law_900 : decode cL_law 900 = .ok (.ireturn, 1) := by decide +kernel
theorem dL_law_901 : decode cL_law 901 = .ok (.aload_n 1, 1) := by decide +kernel
theorem dL_law_902 : decode cL_law 902 = .ok (.aload_n 0, 1) := by decide +kernel
theorem dL_law_903 : decode cL_law 903 = .ok (.iload_n 3, 1) := by decide +kernel
theorem dL_law_904 : decode cL_law 904 = .ok (.iconst 1, 1) := by decide +kernel
theorem dL_law_905 : decode cL_law 905 = .ok (.iadd, 1) := by decide +kernel
theorem dL_law_906 : decode cL_law 906 = .ok (.iaload, 1) := by decide +kernel
theorem dL_law_907 : decode cL_law 907 = .ok (.invokevirtual 128, 3) := by decide +kernel
theorem dL_law_910 : decode cL_law 910 = .ok (.aload_n 2, 1) := by decide +kernel
theorem dL_law_911 : decode cL_law 911 = .ok (.aload_n 0, 1) := by decide +kernel
theorem dL_law_912 : decode cL_law 912 = .ok (.iload_n 3, 1) := by decide +kernel
theorem dL_law_913 : decode cL_law 913 = .ok (.iconst 1, 1) := by decide +kernel
theorem dL_law_914 : decode cL_law 914 = .ok (.iadd, 1) := by decide +kernel
theorem dL_law_915 : decode cL_law 915 = .ok (.iaload, 1) := by decide +kernel
theorem dL_law_916 : decode cL_law 916 = .ok (.invokevirtual 131, 3) := by decide +kernel
theorem dL_law_919 : decode cL_law 919 = .ok (.if_icmp .eq 5, 3) := by decide +kernel
theorem dL_law_922 : decode cL_law 922 = .ok (.iconst 0, 1) := by decide +kernel
theorem dL_law_923 : decode cL_law 923 = .ok (.ireturn, 1) := by decide +kernel
theorem dL_law_924 : decode cL_law 924 = .ok (.iinc 3 4, 3) := by decide +kernel
theorem dL_law_927 : decode cL_law 927 = .ok (.goto (-909), 3) := by decide +kernel
theorem dL_law_930 : decode cL_law 930 = .ok (.iconst 1, 1) := by decide +kernel
theorem dL_law_931 : decode cL_law 931 = .ok (.ireturn, 1) := by decide +kernel
end
section
/-! A system's state as numbers: cell k of the world, its slot (or place) j. A world is a list of shapes. -/
abbrev nb_St : Type := Nat → Nat → Int32
def nb_st (σ : nb_St) (k j : Nat) (v : Int32) : nb_St := fun a b => if a = k ∧ b = j then v else σ a b
def nb_sa (σ : nb_St) (k : Nat) (f : Nat → Int32) : nb_St := fun a => if a = k then f else σ a
theorem nb_st_s {σ : nb_St} {k j : Nat} {v : Int32} : nb_st σ k j v k j = v := by simp [nb_st]
theorem nb_st_n {σ : nb_St} {k j a b : Nat} {v : Int32} (h : a ≠ k ∨ b ≠ j) : nb_st σ k j v a b = σ a b := by
  unfold nb_st
  rw [if_neg]
  rintro ⟨h1, h2⟩
  rcases h with h | h
  · exact h h1
  · exact h h2
theorem nb_st_k {σ : nb_St} {k j a : Nat} {v : Int32} (h : a ≠ k) : nb_st σ k j v a = σ a := by
  funext b
  exact nb_st_n (Or.inl h)
theorem nb_st_u {σ : nb_St} {k j : Nat} {v : Int32} : nb_st σ k j v k = upd (σ k) j v := by
  funext b
  simp [nb_st, upd]
theorem nb_sa_s {σ : nb_St} {k : Nat} {f : Nat → Int32} : nb_sa σ k f k = f := by simp [nb_sa]
theorem nb_sa_n {σ : nb_St} {k a : Nat} {f : Nat → Int32} (h : a ≠ k) : nb_sa σ k f a = σ a := by simp [nb_sa, h]
def nb_let {α β : Type} (x : α) (f : α → β) : β := f x
theorem nb_let_e {α β : Type} {x : α} {f : α → β} {y : β} (h : nb_let x f = y) : ∃ z, z = x ∧ f z = y := ⟨x, rfl, h⟩
def nb_g {R : Type} (b : Bool) (k : Option R) : Option R := if b = true then k else none
theorem nb_g_e {R : Type} {b : Bool} {k : Option R} {r : R} (h : nb_g b k = some r) : b = true ∧ k = some r := by
  unfold nb_g at h
  split at h
  · exact ⟨by assumption, h⟩
  · cases h
theorem nb_g_t {R : Type} {b : Bool} {k : Option R} (h : b = true) : nb_g b k = k := by unfold nb_g; rw [if_pos h]
/-- a call that may not come back is none -/
def nb_b {A R : Type} (x : Option A) (f : A → Option R) : Option R := match x with
  | none => none
  | some a => f a
theorem nb_b_e {A R : Type} {x : Option A} {f : A → Option R} {r : R} (h : nb_b x f = some r) : ∃ a, x = some a ∧ f a = some r := by
  cases x with
  | none => cases h
  | some a => exact ⟨a, rfl, h⟩
def nb_b2 {A B R : Type} (x : Option (A × B)) (f : A → B → Option R) : Option R := match x with
  | none => none
  | some a => f a.1 a.2
theorem nb_b2_e {A B R : Type} {x : Option (A × B)} {f : A → B → Option R} {r : R} (h : nb_b2 x f = some r) : ∃ a b, x = some (a, b) ∧ f a b = some r := by
  cases x with
  | none => cases h
  | some a => exact ⟨a.1, a.2, rfl, h⟩
theorem nb_b_s {A R : Type} {x : Option A} {a : A} {f : A → Option R} (h : x = some a) : nb_b x f = f a := by subst h; rfl
theorem nb_b2_s {A B R : Type} {x : Option (A × B)} {a : A} {b : B} {f : A → B → Option R} (h : x = some (a, b)) : nb_b2 x f = f a b := by subst h; rfl
def nb_in (i : Int32) (n : Nat) : Bool := decide (0 ≤ i.toInt ∧ i.toInt < n)
theorem nb_in_v {i : Int32} {n : Nat} (h : nb_in i n = true) : vp_in i n := vp_in_iff.mpr (of_decide_eq_true h)
abbrev nb_ix (i : Int32) : Nat := i.toNatClampNeg
def nb_rem (x y : Int32) : Int32 := x - x / y * y
def nb_lrem (x y : Int64) : Int64 := x - x / y * y
def nb_max (x y : Int32) : Int32 := if x < y then y else x
abbrev nb_K : Type := Option (Option Nat)
abbrev nb_S : Type := (Nat × Nat) ⊕ (Nat × List nb_K)
def nb_fv (ad : Nat → Nat) (σ : nb_St) (k j : Nat) (f : nb_K) : Value := match f with
  | none => .int (σ k j)
  | some none => .ref (ad (σ k j).toNatClampNeg)
  | some (some q) => .ref (ad q)
def nb_fs (ad : Nat → Nat) (σ : nb_St) (k : Nat) : Nat → List nb_K → List Value
  | _, [] => []
  | j, f :: fs => nb_fv ad σ k j f :: nb_fs ad σ k (j + 1) fs
theorem nb_fs_get {ad : Nat → Nat} {σ : nb_St} {k : Nat} : ∀ (fl : List nb_K) (j i : Nat), (nb_fs ad σ k j fl)[i]? = (fl[i]?).map (nb_fv ad σ k (j + i))
  | [], j, i => by simp [nb_fs]
  | f :: fs, j, 0 => by simp [nb_fs]
  | f :: fs, j, i + 1 => by
    rw [nb_fs, List.getElem?_cons_succ, List.getElem?_cons_succ, nb_fs_get fs (j + 1) i]
    rw [show j + 1 + i = j + (i + 1) by omega]
theorem nb_fs_len {ad : Nat → Nat} {σ : nb_St} {k : Nat} : ∀ (fl : List nb_K) (j : Nat), (nb_fs ad σ k j fl).length = fl.length
  | [], j => rfl
  | f :: fs, j => by rw [nb_fs, List.length_cons, List.length_cons, nb_fs_len fs (j + 1)]
def nb_ce (ad : Nat → Nat) (cA : Nat → ClassId) (σ : nb_St) (k : Nat) (s : nb_S) : Nat × va_E := match s with
  | .inl x => (ad k, .inl (cA x.1, x.2, .inl (σ k)))
  | .inr y => (ad k, .inr (y.1, nb_fs ad σ k 0 y.2))
def nb_cs (sh : List nb_S) (ad : Nat → Nat) (cA : Nat → ClassId) (σ : nb_St) : va_W := sh.mapIdx (fun k s => nb_ce ad cA σ k s)
theorem nb_cs_get {sh : List nb_S} {ad : Nat → Nat} {cA : Nat → ClassId} {σ : nb_St} {k : Nat} {s : nb_S} (h : sh[k]? = some s) : (nb_cs sh ad cA σ)[k]? = some (nb_ce ad cA σ k s) := by
  unfold nb_cs
  rw [List.getElem?_mapIdx, h]
  rfl
theorem nb_cs_of {sh : List nb_S} {ad : Nat → Nat} {cA : Nat → ClassId} {σ : nb_St} {k : Nat} {q : Nat × va_E} (h : (nb_cs sh ad cA σ)[k]? = some q) : ∃ s, sh[k]? = some s ∧ q = nb_ce ad cA σ k s := by
  unfold nb_cs at h
  rw [List.getElem?_mapIdx] at h
  cases hs : sh[k]? with
  | none => rw [hs] at h; cases h
  | some s => rw [hs] at h; exact ⟨s, rfl, (Option.some.inj h).symm⟩
theorem nb_ce_ad {ad : Nat → Nat} {cA : Nat → ClassId} {σ : nb_St} {k : Nat} {s : nb_S} : (nb_ce ad cA σ k s).1 = ad k := by
  cases s <;> rfl
theorem nb_ce_of {ad : Nat → Nat} {cA : Nat → ClassId} {σ σ' : nb_St} {k : Nat} {s : nb_S} (h : σ' k = σ k) : nb_ce ad cA σ' k s = nb_ce ad cA σ k s := by
  cases s with
  | inl x => simp only [nb_ce, h]
  | inr y =>
    have key : ∀ (fl : List nb_K) (j : Nat), nb_fs ad σ' k j fl = nb_fs ad σ k j fl := by
      intro fl
      induction fl with
      | nil => intro j; rfl
      | cons f fl ih =>
        intro j
        rw [nb_fs, nb_fs, ih]
        congr 1
        cases f with
        | none => simp only [nb_fv, h]
        | some f => cases f <;> simp only [nb_fv, h]
    simp only [nb_ce, key]
theorem nb_cs_set {sh : List nb_S} {ad : Nat → Nat} {cA : Nat → ClassId} {σ σ' : nb_St} {k : Nat} {s : nb_S} {e : Nat × va_E} (hs : sh[k]? = some s) (hk : ∀ j, j ≠ k → σ' j = σ j) (he : nb_ce ad cA σ' k s = e) : (nb_cs sh ad cA σ).set k e = nb_cs sh ad cA σ' := by
  apply List.ext_getElem?
  intro i
  by_cases hi : i = k
  · subst hi
    rw [nb_cs_get hs, he, List.getElem?_set_self]
    exact (List.getElem?_eq_some_iff.mp (nb_cs_get (ad := ad) (cA := cA) (σ := σ) hs)).1
  · rw [List.getElem?_set_ne (Ne.symm hi)]
    unfold nb_cs
    rw [List.getElem?_mapIdx, List.getElem?_mapIdx]
    cases sh[i]? with
    | none => rfl
    | some t => simp only [Option.map_some, nb_ce_of (hk i hi)]
def nb_A (sh : List nb_S) (ad : Nat → Nat) : Nat → Prop := fun q => ∃ k, k < sh.length ∧ q = ad k
def nb_inj (sh : List nb_S) (ad : Nat → Nat) : Prop := ∀ i j, i < sh.length → j < sh.length → ad i = ad j → i = j
theorem nb_D {sh : List nb_S} {ad : Nat → Nat} {cA : Nat → ClassId} {σ : nb_St} (h : nb_inj sh ad) : va_D (nb_A sh ad) (nb_cs sh ad cA σ) := by
  refine ⟨fun i j p q hp hq e => ?_, fun k q hq => ?_⟩
  · obtain ⟨s, hs, rfl⟩ := nb_cs_of hp
    obtain ⟨t, ht, rfl⟩ := nb_cs_of hq
    rw [nb_ce_ad, nb_ce_ad] at e
    exact h i j (List.getElem?_eq_some_iff.mp hs).1 (List.getElem?_eq_some_iff.mp ht).1 e
  · obtain ⟨s, hs, rfl⟩ := nb_cs_of hq
    exact ⟨k, (List.getElem?_eq_some_iff.mp hs).1, nb_ce_ad⟩
abbrev nb_G : Type := va_G × (Nat → Nat) × (Nat → ClassId)
def nb_ty (cA : Nat → ClassId) : List (ClassId × FieldType) := [(cA 0, .int), (cA 1, .byte), (cA 2, .boolean)]
def nb_Zok (A : Nat → Prop) (Z : State → Heap → Prop) : Prop := (∀ (u U : State) (H : Heap), u.WarmedH U.vm → Z u H → Z U H) ∧ (∀ (u U : State) (H : Heap), u.vm = U.vm → Z u H → Z U H) ∧ ∀ (U : State) (H H1 : Heap), (∀ a : Nat, a < H.size → ¬ A a → H1[a]? = H[a]?) → Z U H → Z U H1
def nb_Wp (G : nb_G) (sh : List nb_S) (Z : State → Heap → Prop) (σ : nb_St) (U : State) : Prop := va_P G.1 vwCl (nb_cs sh G.2.1 G.2.2 σ) U.heap ∧ va_K G.1 vwCl (nb_ty G.2.2) U ∧ Z U U.heap
def nb_W (G : nb_G) (sh : List nb_S) (H0 : Heap) (σ : nb_St) (H : Heap) (locs : List Loc) : Prop := va_P G.1 vwCl (nb_cs sh G.2.1 G.2.2 σ) H ∧ va_S (nb_A sh G.2.1) H0 H locs
def nb_Pc (G : nb_G) (sh : List nb_S) (Z : State → Heap → Prop) (σ : nb_St) (av : List Value) : Array Value → State → Prop := va_Pc av (nb_Wp G sh Z σ)
def nb_Qi (G : nb_G) (sh : List nb_S) (Z : State → Heap → Prop) (r : Int32) (σ : nb_St) : Array Value → State → Outcome → State → Prop := va_Qi (fun r' (_ : Unit) => r' = r) (fun _ t => nb_Wp G sh Z σ t) (nb_A sh G.2.1)
def nb_Ql (G : nb_G) (sh : List nb_S) (Z : State → Heap → Prop) (r : Int64) (σ : nb_St) : Array Value → State → Outcome → State → Prop := va_Ql (fun r' (_ : Unit) => r' = r) (fun _ t => nb_Wp G sh Z σ t) (nb_A sh G.2.1)
def nb_Qv (G : nb_G) (sh : List nb_S) (Z : State → Heap → Prop) (σ : nb_St) : Array Value → State → Outcome → State → Prop := va_Qv (fun (_ : Unit) => True) (fun _ t => nb_Wp G sh Z σ t) (nb_A sh G.2.1)
def nb_Qr (G : nb_G) (sh : List nb_S) (Z : State → Heap → Prop) (r : Nat) (σ : nb_St) : Array Value → State → Outcome → State → Prop := va_Qr (fun (_ : Unit) => True) (fun _ a t => a = G.2.1 r ∧ nb_Wp G sh Z σ t) (nb_A sh G.2.1)
theorem nb_blind {G : nb_G} {sh : List nb_S} {Z : State → Heap → Prop} {σ : nb_St} {av : List Value} (hZo : nb_Zok (nb_A sh G.2.1) Z) : FrameBlind (nb_Pc G sh Z σ av) := by
  intro a U g mk h
  obtain ⟨h0, h1, h2, h3⟩ := h
  exact ⟨h0, h1, va_K.moved (u := U) (U := U.calling g mk a) (Vm.Alike.refl U.vm) h2, hZo.2.1 U (U.calling g mk a) U.heap rfl h3⟩
section NBR
variable {p : Program} {l : Launch} {e : Env} {R : Room} {s : State} {m : MethodId} {args : Array Value} {below : List Frame} {meth : Method} {c : Code} {H H0 : Heap} {locs : List Loc} {cells slots : Nat} {Q : State → Prop} {cc : ByteArray} {pc : Nat} {ls : Array Slot} {rest : List Value} {G : nb_G} {sh : List nb_S} {Z : State → Heap → Prop} {σ σ' : nb_St}
theorem nb_fs_set {ad : Nat → Nat} {k j : Nat} {f : nb_K} {x : Int32} {v : Value} {fl : List nb_K} (hf : fl[j]? = some f) (hv : nb_fv ad (nb_st σ k j x) k j f = v) : nb_fs ad (nb_st σ k j x) k 0 fl = (nb_fs ad σ k 0 fl).set j v := by
  have hj : j < fl.length := (List.getElem?_eq_some_iff.mp hf).1
  apply List.ext_getElem?
  intro i
  by_cases hi : i = j
  · subst hi
    rw [nb_fs_get, hf, List.getElem?_set_self (by rw [nb_fs_len]; exact hj)]
    simp only [Option.map_some, Nat.zero_add, hv]
  · rw [List.getElem?_set_ne (Ne.symm hi), nb_fs_get, nb_fs_get]
    cases fl[i]? with
    | none => rfl
    | some g =>
      simp only [Option.map_some, Nat.zero_add]
      cases g with
      | none => simp only [nb_fv, nb_st_n (Or.inr hi)]
      | some g => cases g <;> simp only [nb_fv, nb_st_n (Or.inr hi)]

theorem nb_get (hx : p.tables.exec = Jvm.exec) (hb : c.code = cc) {own ref C host : String} {T : u_T} {N ci index : Nat} {Ts : List Cond} (hts : ∀ w ∈ Ts, w.before args s = true) (hin : ∀ w ∈ u_ws C T N, w ∈ Ts) (hown : s.vm.findClass own = some m.cls) (hK : va_K G.1 vwCl (nb_ty G.2.2) s) (hW : nb_W G sh H0 σ H locs) (k : Nat) {fl : List nb_K} (hs : sh[k]? = some (.inr (ci, fl))) (hc : vwCl[ci]? = some (C, T, N)) (j : Nat) (hj : j < N) (hlink : (Cond.fieldLink own index ref (T j).2.1 (T j).2.2.1).before args s = true) (hsame : ∀ x, s.fieldFound? (T j).1 (T j).2.1 (T j).2.2.1 = some x → s.fieldFound? ref (T j).2.1 (T j).2.2.1 = some x) {f : nb_K} (hf : fl[j]? = some f) {v : Value} (hv : nb_fv G.2.1 σ k j f = v) (hdg : decode cc pc = .ok (.getfield index, 3))
    (kk : W p l e R s m args below meth c H locs cells slots Q (F0 m (pc + 3) ls (v :: rest))) : W p l e R s m args below meth c H locs cells slots Q (F0 m pc ls (.ref (G.2.1 k) :: rest)) :=
  va_get hx hb hts hin hown hK hW.1 k (show (nb_cs sh G.2.1 G.2.2 σ)[k]? = some (G.2.1 k, .inr (ci, nb_fs G.2.1 σ k 0 fl)) from nb_cs_get hs) hc j hj hlink hsame (v := v) (by rw [nb_fs_get, hf]; simp only [Option.map_some, Nat.zero_add, hv]) hdg kk
theorem nb_put (hx : p.tables.exec = Jvm.exec) (hb : c.code = cc) {own ref C host : String} {T : u_T} {N ci index : Nat} {Ts : List Cond} (hts : ∀ w ∈ Ts, w.before args s = true) (hin : ∀ w ∈ u_ws C T N, w ∈ Ts) (hown : s.vm.findClass own = some m.cls) (hK : va_K G.1 vwCl (nb_ty G.2.2) s) (ty0 : Nat → FieldType) (hty : ∀ k, k < N → parseFieldDescriptor (T k).2.2.1 = some (ty0 k)) (hnm : ∀ a, a < N → ∀ b, b < N → a ≠ b → (T a).2.1 ≠ (T b).2.1) (hinj : nb_inj sh G.2.1) (hW : nb_W G sh H0 σ H locs) (k : Nat) {fl : List nb_K} (hs : sh[k]? = some (.inr (ci, fl))) (hc : vwCl[ci]? = some (C, T, N)) (j : Nat) (hj : j < N) (hlink : (Cond.fieldLink own index ref (T j).2.1 (T j).2.2.1).before args s = true) (hsame : ∀ x, s.fieldFound? (T j).1 (T j).2.1 (T j).2.2.1 = some x → s.fieldFound? ref (T j).2.1 (T j).2.2.1 = some x) (hfin : (T j).2.2.2 = false) {ty : FieldType} {v : Value} (hd : parseFieldDescriptor (T j).2.2.1 = some ty) (hn : narrow ty v = v) (hfit : fits ty v = true) {f : nb_K} (hf : fl[j]? = some f) {x : Int32} (hv : nb_fv G.2.1 (nb_st σ k j x) k j f = v) (hσ : σ' = nb_st σ k j x) (hdg : decode cc pc = .ok (.putfield index, 3))
    (kk : ∀ (H1 : Heap) (locs1 : List Loc), nb_W G sh H0 σ' H1 locs1 → W p l e R s m args below meth c H1 locs1 cells slots Q (F0 m (pc + 3) ls rest)) : W p l e R s m args below meth c H locs cells slots Q (F0 m pc ls (v :: .ref (G.2.1 k) :: rest)) := by
  have he : (nb_cs sh G.2.1 G.2.2 σ).set k (G.2.1 k, .inr (ci, (nb_fs G.2.1 σ k 0 fl).set j v)) = nb_cs sh G.2.1 G.2.2 (nb_st σ k j x) := nb_cs_set hs (fun i hi => nb_st_k hi) (by simp only [nb_ce, nb_fs_set hf hv])
  subst hσ
  refine va_put hx hb hts hin ty0 hty hnm hown hK hW.1 (nb_D hinj) hW.2 k (show (nb_cs sh G.2.1 G.2.2 σ)[k]? = some (G.2.1 k, .inr (ci, nb_fs G.2.1 σ k 0 fl)) from nb_cs_get hs) hc j hj hlink hsame hfin hd hn hfit (by rw [nb_fs_len]; exact (List.getElem?_eq_some_iff.mp hf).1) hdg (fun H1 locs1 hP _ hS => kk H1 locs1 ⟨?_, hS⟩)
  rw [he] at hP
  exact hP
theorem nb_getN (hx : p.tables.exec = Jvm.exec) (hb : c.code = cc) {own ref C host : String} {T : u_T} {N ci index : Nat} {Ts : List Cond} (hts : ∀ w ∈ Ts, w.before args s = true) (hin : ∀ w ∈ u_ws C T N, w ∈ Ts) (hown : s.vm.findClass own = some m.cls) (hK : va_K G.1 vwCl (nb_ty G.2.2) s) (hW : nb_W G sh H0 σ H locs) (k : Nat) {fl : List nb_K} (hs : sh[k]? = some (.inr (ci, fl))) (hc : vwCl[ci]? = some (C, T, N)) (j : Nat) (hj : j < N) (hlink : (Cond.fieldLinkNest own index ref (T j).2.1 (T j).2.2.1 host).before args s = true) (hsame : ∀ x, s.fieldFound? (T j).1 (T j).2.1 (T j).2.2.1 = some x → s.fieldFound? ref (T j).2.1 (T j).2.2.1 = some x) {f : nb_K} (hf : fl[j]? = some f) {v : Value} (hv : nb_fv G.2.1 σ k j f = v) (hdg : decode cc pc = .ok (.getfield index, 3))
    (kk : W p l e R s m args below meth c H locs cells slots Q (F0 m (pc + 3) ls (v :: rest))) : W p l e R s m args below meth c H locs cells slots Q (F0 m pc ls (.ref (G.2.1 k) :: rest)) :=
  va_getN hx hb hts hin hown hK hW.1 k (show (nb_cs sh G.2.1 G.2.2 σ)[k]? = some (G.2.1 k, .inr (ci, nb_fs G.2.1 σ k 0 fl)) from nb_cs_get hs) hc j hj hlink hsame (v := v) (by rw [nb_fs_get, hf]; simp only [Option.map_some, Nat.zero_add, hv]) hdg kk
theorem nb_putN (hx : p.tables.exec = Jvm.exec) (hb : c.code = cc) {own ref C host : String} {T : u_T} {N ci index : Nat} {Ts : List Cond} (hts : ∀ w ∈ Ts, w.before args s = true) (hin : ∀ w ∈ u_ws C T N, w ∈ Ts) (hown : s.vm.findClass own = some m.cls) (hK : va_K G.1 vwCl (nb_ty G.2.2) s) (ty0 : Nat → FieldType) (hty : ∀ k, k < N → parseFieldDescriptor (T k).2.2.1 = some (ty0 k)) (hnm : ∀ a, a < N → ∀ b, b < N → a ≠ b → (T a).2.1 ≠ (T b).2.1) (hinj : nb_inj sh G.2.1) (hW : nb_W G sh H0 σ H locs) (k : Nat) {fl : List nb_K} (hs : sh[k]? = some (.inr (ci, fl))) (hc : vwCl[ci]? = some (C, T, N)) (j : Nat) (hj : j < N) (hlink : (Cond.fieldLinkNest own index ref (T j).2.1 (T j).2.2.1 host).before args s = true) (hsame : ∀ x, s.fieldFound? (T j).1 (T j).2.1 (T j).2.2.1 = some x → s.fieldFound? ref (T j).2.1 (T j).2.2.1 = some x) (hfin : (T j).2.2.2 = false) {ty : FieldType} {v : Value} (hd : parseFieldDescriptor (T j).2.2.1 = some ty) (hn : narrow ty v = v) (hfit : fits ty v = true) {f : nb_K} (hf : fl[j]? = some f) {x : Int32} (hv : nb_fv G.2.1 (nb_st σ k j x) k j f = v) (hσ : σ' = nb_st σ k j x) (hdg : decode cc pc = .ok (.putfield index, 3))
    (kk : ∀ (H1 : Heap) (locs1 : List Loc), nb_W G sh H0 σ' H1 locs1 → W p l e R s m args below meth c H1 locs1 cells slots Q (F0 m (pc + 3) ls rest)) : W p l e R s m args below meth c H locs cells slots Q (F0 m pc ls (v :: .ref (G.2.1 k) :: rest)) := by
  have he : (nb_cs sh G.2.1 G.2.2 σ).set k (G.2.1 k, .inr (ci, (nb_fs G.2.1 σ k 0 fl).set j v)) = nb_cs sh G.2.1 G.2.2 (nb_st σ k j x) := nb_cs_set hs (fun i hi => nb_st_k hi) (by simp only [nb_ce, nb_fs_set hf hv])
  subst hσ
  refine va_putN hx hb hts hin ty0 hty hnm hown hK hW.1 (nb_D hinj) hW.2 k (show (nb_cs sh G.2.1 G.2.2 σ)[k]? = some (G.2.1 k, .inr (ci, nb_fs G.2.1 σ k 0 fl)) from nb_cs_get hs) hc j hj hlink hsame hfin hd hn hfit (by rw [nb_fs_len]; exact (List.getElem?_eq_some_iff.mp hf).1) hdg (fun H1 locs1 hP _ hS => kk H1 locs1 ⟨?_, hS⟩)
  rw [he] at hP
  exact hP
theorem nb_iald (hx : p.tables.exec = Jvm.exec) (hb : c.code = cc) (hK : va_K G.1 vwCl (nb_ty G.2.2) s) (hW : nb_W G sh H0 σ H locs) (k : Nat) {n : Nat} (hs : sh[k]? = some (.inl (0, n))) {i : Int32} (hin : nb_in i n = true) (hdg : decode cc pc = .ok (.iaload, 1))
    (kk : W p l e R s m args below meth c H locs cells slots Q (F0 m (pc + 1) ls (.int (σ k (nb_ix i)) :: rest))) : W p l e R s m args below meth c H locs cells slots Q (F0 m pc ls (.int i :: .ref (G.2.1 k) :: rest)) :=
  va_iald hx hb hK hW.1 k 0 (show (nb_cs sh G.2.1 G.2.2 σ)[k]? = some (G.2.1 k, .inl (G.2.2 0, n, .inl (σ k))) from nb_cs_get hs) rfl (nb_in_v hin) hdg kk
theorem nb_bald (hx : p.tables.exec = Jvm.exec) (hb : c.code = cc) (hK : va_K G.1 vwCl (nb_ty G.2.2) s) (hW : nb_W G sh H0 σ H locs) (k : Nat) {n : Nat} (hs : sh[k]? = some (.inl (1, n))) {i : Int32} (hin : nb_in i n = true) (hdg : decode cc pc = .ok (.baload, 1))
    (kk : W p l e R s m args below meth c H locs cells slots Q (F0 m (pc + 1) ls (.int (σ k (nb_ix i)) :: rest))) : W p l e R s m args below meth c H locs cells slots Q (F0 m pc ls (.int i :: .ref (G.2.1 k) :: rest)) :=
  va_bald hx hb hK hW.1 k 1 (show (nb_cs sh G.2.1 G.2.2 σ)[k]? = some (G.2.1 k, .inl (G.2.2 1, n, .inl (σ k))) from nb_cs_get hs) rfl (nb_in_v hin) hdg kk
theorem nb_zald (hx : p.tables.exec = Jvm.exec) (hb : c.code = cc) (hK : va_K G.1 vwCl (nb_ty G.2.2) s) (hW : nb_W G sh H0 σ H locs) (k : Nat) {n : Nat} (hs : sh[k]? = some (.inl (2, n))) {i : Int32} (hin : nb_in i n = true) (hdg : decode cc pc = .ok (.baload, 1))
    (kk : W p l e R s m args below meth c H locs cells slots Q (F0 m (pc + 1) ls (.int (σ k (nb_ix i)) :: rest))) : W p l e R s m args below meth c H locs cells slots Q (F0 m pc ls (.int i :: .ref (G.2.1 k) :: rest)) :=
  va_zald hx hb hK hW.1 k 2 (show (nb_cs sh G.2.1 G.2.2 σ)[k]? = some (G.2.1 k, .inl (G.2.2 2, n, .inl (σ k))) from nb_cs_get hs) rfl (nb_in_v hin) hdg kk
theorem nb_iast (hx : p.tables.exec = Jvm.exec) (hb : c.code = cc) (hK : va_K G.1 vwCl (nb_ty G.2.2) s) (hinj : nb_inj sh G.2.1) (hW : nb_W G sh H0 σ H locs) (k : Nat) {n : Nat} (hs : sh[k]? = some (.inl (0, n))) {i x : Int32} (hin : nb_in i n = true) (hσ : σ' = nb_st σ k (nb_ix i) x) (hdg : decode cc pc = .ok (.iastore, 1))
    (kk : ∀ (H1 : Heap) (locs1 : List Loc), nb_W G sh H0 σ' H1 locs1 → W p l e R s m args below meth c H1 locs1 cells slots Q (F0 m (pc + 1) ls rest)) : W p l e R s m args below meth c H locs cells slots Q (F0 m pc ls (.int x :: .int i :: .ref (G.2.1 k) :: rest)) := by
  have he : (nb_cs sh G.2.1 G.2.2 σ).set k (G.2.1 k, .inl (G.2.2 0, n, .inl (upd (σ k) i.toNatClampNeg x))) = nb_cs sh G.2.1 G.2.2 (nb_st σ k (nb_ix i) x) := nb_cs_set hs (fun i hi => nb_st_k hi) (by simp only [nb_ce, nb_st_u])
  subst hσ
  refine va_iast hx hb hK hW.1 (nb_D hinj) hW.2 k 0 (show (nb_cs sh G.2.1 G.2.2 σ)[k]? = some (G.2.1 k, .inl (G.2.2 0, n, .inl (σ k))) from nb_cs_get hs) rfl (nb_in_v hin) hdg (fun H1 locs1 hP _ hS => kk H1 locs1 ⟨?_, hS⟩)
  rw [he] at hP
  exact hP
theorem nb_bast (hx : p.tables.exec = Jvm.exec) (hb : c.code = cc) (hK : va_K G.1 vwCl (nb_ty G.2.2) s) (hinj : nb_inj sh G.2.1) (hW : nb_W G sh H0 σ H locs) (k : Nat) {n : Nat} (hs : sh[k]? = some (.inl (1, n))) {i x : Int32} (hin : nb_in i n = true) (hσ : σ' = nb_st σ k (nb_ix i) (vp_nar .byte x)) (hdg : decode cc pc = .ok (.bastore, 1))
    (kk : ∀ (H1 : Heap) (locs1 : List Loc), nb_W G sh H0 σ' H1 locs1 → W p l e R s m args below meth c H1 locs1 cells slots Q (F0 m (pc + 1) ls rest)) : W p l e R s m args below meth c H locs cells slots Q (F0 m pc ls (.int x :: .int i :: .ref (G.2.1 k) :: rest)) := by
  have he : (nb_cs sh G.2.1 G.2.2 σ).set k (G.2.1 k, .inl (G.2.2 1, n, .inl (upd (σ k) i.toNatClampNeg (vp_nar .byte x)))) = nb_cs sh G.2.1 G.2.2 (nb_st σ k (nb_ix i) (vp_nar .byte x)) := nb_cs_set hs (fun i hi => nb_st_k hi) (by simp only [nb_ce, nb_st_u])
  subst hσ
  refine va_bast hx hb hK hW.1 (nb_D hinj) hW.2 k 1 (show (nb_cs sh G.2.1 G.2.2 σ)[k]? = some (G.2.1 k, .inl (G.2.2 1, n, .inl (σ k))) from nb_cs_get hs) rfl (nb_in_v hin) hdg (fun H1 locs1 hP _ hS => kk H1 locs1 ⟨?_, hS⟩)
  rw [he] at hP
  exact hP
theorem nb_zast (hx : p.tables.exec = Jvm.exec) (hb : c.code = cc) (hK : va_K G.1 vwCl (nb_ty G.2.2) s) (hinj : nb_inj sh G.2.1) (hW : nb_W G sh H0 σ H locs) (k : Nat) {n : Nat} (hs : sh[k]? = some (.inl (2, n))) {i x : Int32} (hin : nb_in i n = true) (hσ : σ' = nb_st σ k (nb_ix i) (vp_nar .boolean x)) (hdg : decode cc pc = .ok (.bastore, 1))
    (kk : ∀ (H1 : Heap) (locs1 : List Loc), nb_W G sh H0 σ' H1 locs1 → W p l e R s m args below meth c H1 locs1 cells slots Q (F0 m (pc + 1) ls rest)) : W p l e R s m args below meth c H locs cells slots Q (F0 m pc ls (.int x :: .int i :: .ref (G.2.1 k) :: rest)) := by
  have he : (nb_cs sh G.2.1 G.2.2 σ).set k (G.2.1 k, .inl (G.2.2 2, n, .inl (upd (σ k) i.toNatClampNeg (vp_nar .boolean x)))) = nb_cs sh G.2.1 G.2.2 (nb_st σ k (nb_ix i) (vp_nar .boolean x)) := nb_cs_set hs (fun i hi => nb_st_k hi) (by simp only [nb_ce, nb_st_u])
  subst hσ
  refine va_zast hx hb hK hW.1 (nb_D hinj) hW.2 k 2 (show (nb_cs sh G.2.1 G.2.2 σ)[k]? = some (G.2.1 k, .inl (G.2.2 2, n, .inl (σ k))) from nb_cs_get hs) rfl (nb_in_v hin) hdg (fun H1 locs1 hP _ hS => kk H1 locs1 ⟨?_, hS⟩)
  rw [he] at hP
  exact hP
theorem nb_alen (hx : p.tables.exec = Jvm.exec) (hb : c.code = cc) (hK : va_K G.1 vwCl (nb_ty G.2.2) s) (hW : nb_W G sh H0 σ H locs) (k : Nat) {n : Nat} (hs : sh[k]? = some (.inl (0, n))) (hdg : decode cc pc = .ok (.arraylength, 1))
    (kk : W p l e R s m args below meth c H locs cells slots Q (F0 m (pc + 1) ls (.int (Int32.ofNat n) :: rest))) : W p l e R s m args below meth c H locs cells slots Q (F0 m pc ls (.ref (G.2.1 k) :: rest)) :=
  va_alen hx hb hK hW.1 k 0 (ty := .int) (show (nb_cs sh G.2.1 G.2.2 σ)[k]? = some (G.2.1 k, .inl (G.2.2 0, n, .inl (σ k))) from nb_cs_get hs) rfl rfl hdg kk
theorem nb_copy (hx : p.tables.exec = Jvm.exec) (hb : c.code = cc) (hml : c.maxLocals = ls.size) {own : String} {index : Nat} (hown : s.vm.findClass own = some m.cls) (hlink : (Cond.methodLink own index arraycopyName).before args s = true) (hnat : (Cond.native arraycopyName).before args s = true) (hstat : (Cond.static arraycopyName).before args s = true) (hini : (Cond.initialized "java/lang/System").before args s = true)
    (hK : va_K G.1 vwCl (nb_ty G.2.2) s) (hinj : nb_inj sh G.2.1) (hW : nb_W G sh H0 σ H locs) (k0 k1 : Nat) {n0 n1 : Nat} (hs0 : sh[k0]? = some (.inl (0, n0))) (hs1 : sh[k1]? = some (.inl (0, n1)))
    {sp dp n : Int32} (h1 : ¬ sp < 0) (h2 : ¬ dp < 0) (h3 : ¬ n < 0) (h4 : sp.toNatClampNeg + n.toNatClampNeg ≤ n0) (h5 : dp.toNatClampNeg + n.toNatClampNeg ≤ n1)
    (hframes : 1 ≤ R.frames) (hlocals : (rest.map fun v => v.category).sum + (nativeFrameWords "java/lang/System" "arraycopy" 5 + 11) ≤ R.locals) (hσ : σ' = nb_sa σ k1 (va_cpy (σ k0) (σ k1) (nb_ix sp) (nb_ix dp) (nb_ix n))) (hdg : decode cc pc = .ok (.invokestatic index, 3))
    (kk : ∀ (H1 : Heap) (locs1 : List Loc), nb_W G sh H0 σ' H1 locs1 → W p l e R s m args below meth c H1 locs1 cells slots Q (F0 m (pc + 3) ls rest)) : W p l e R s m args below meth c H locs cells slots Q (F0 m pc ls (.int n :: .int dp :: .ref (G.2.1 k1) :: .int sp :: .ref (G.2.1 k0) :: rest)) := by
  have he : (nb_cs sh G.2.1 G.2.2 σ).set k1 (G.2.1 k1, .inl (G.2.2 0, n1, .inl (va_cpy (σ k0) (σ k1) sp.toNatClampNeg dp.toNatClampNeg n.toNatClampNeg))) = nb_cs sh G.2.1 G.2.2 (nb_sa σ k1 (va_cpy (σ k0) (σ k1) (nb_ix sp) (nb_ix dp) (nb_ix n))) := nb_cs_set hs1 (fun i hi => nb_sa_n hi) (by simp only [nb_ce, nb_sa_s])
  subst hσ
  refine va_copyi hx hb hml hown hlink hnat hstat hini hK hW.1 (nb_D hinj) hW.2 k0 k1 0 0 (ty := .int) (show (nb_cs sh G.2.1 G.2.2 σ)[k0]? = some (G.2.1 k0, .inl (G.2.2 0, n0, .inl (σ k0))) from nb_cs_get hs0) (show (nb_cs sh G.2.1 G.2.2 σ)[k1]? = some (G.2.1 k1, .inl (G.2.2 0, n1, .inl (σ k1))) from nb_cs_get hs1) rfl rfl rfl h1 h2 h3 h4 h5 (fun _ _ => rfl) hframes hlocals hdg (fun H1 locs1 hP _ hS => kk H1 locs1 ⟨?_, hS⟩)
  rw [he] at hP
  exact hP
theorem nb_end {t : State} (hK : va_K G.1 vwCl (nb_ty G.2.2) s) (hZ : Z s s.heap) (hZo : nb_Zok (nb_A sh G.2.1) Z) (hW : nb_W G sh s.heap σ H locs) (ht : t.heap = H) (hw : s.WarmedH t.vm) : nb_Wp G sh Z σ t := by
  refine ⟨by rw [ht]; exact hW.1, va_K.moved hw.alike hK, ?_⟩
  rw [ht]
  exact hZo.2.2 t s.heap H (fun a h1 h2 => hW.2.2.1 a h1 h2) (hZo.1 s t s.heap hw hZ)
theorem nb_preV {k ci : Nat} {fl : List nb_K} {q : vw_C} {As : List Value} (hK : va_K G.1 vwCl (nb_ty G.2.2) s) (hZ : Z s s.heap) (hZo : nb_Zok (nb_A sh G.2.1) Z) (hW : nb_W G sh s.heap σ H locs) (hs : sh[k]? = some (.inr (ci, fl))) (hc : vwCl[ci]? = some q) : PreV s H q.1 (G.2.1 k) (nb_Pc G sh Z σ (.ref (G.2.1 k) :: As)) As :=
  ⟨nb_blind hZo, va_recv hK hW.1 (ci := ci) (q0 := k) (fs := nb_fs G.2.1 σ k 0 fl) hc (nb_cs_get hs), fun _ hU hw => ⟨rfl, nb_end hK hZ hZo hW hU hw⟩⟩
theorem nb_preS {As : List Value} (hK : va_K G.1 vwCl (nb_ty G.2.2) s) (hZ : Z s s.heap) (hZo : nb_Zok (nb_A sh G.2.1) Z) (hW : nb_W G sh s.heap σ H locs) : PreS s H (nb_Pc G sh Z σ As) As :=
  ⟨nb_blind hZo, fun _ hU hw => ⟨rfl, nb_end hK hZ hZo hW hU hw⟩⟩

theorem nb_ri {v r : Int32} {σ1 : nb_St} (hx : p.tables.exec = Jvm.exec) (hb : c.code = cc) (hr : meth.sig.returnType = some .int) (hlocks : meth.locks = false) (hK : va_K G.1 vwCl (nb_ty G.2.2) s) (hZ : Z s s.heap) (hZo : nb_Zok (nb_A sh G.2.1) Z) (hW : nb_W G sh s.heap σ H locs)  (hf : some (v, σ) = some (r, σ1)) (hdg : decode cc pc = .ok (.ireturn, 1)) : W p l e R s m args below meth c H locs 0 0 (MQ below (nb_Qi G sh Z r σ1) args s 0 0 (nb_A sh G.2.1)) (F0 m pc ls [.int v]) := by
  cases hf
  exact W.iret hx hb hr  (fun t ht hw => ⟨⟨v, (), rfl, rfl, nb_end hK hZ hZo hW ht hw⟩, hW.2.F ht⟩) hW.2.2.2 hdg
theorem nb_rip {v r : Int32} (hx : p.tables.exec = Jvm.exec) (hb : c.code = cc) (hr : meth.sig.returnType = some .int) (hlocks : meth.locks = false) (hK : va_K G.1 vwCl (nb_ty G.2.2) s) (hZ : Z s s.heap) (hZo : nb_Zok (nb_A sh G.2.1) Z) (hW : nb_W G sh s.heap σ H locs)  (hf : some v = some r) (hdg : decode cc pc = .ok (.ireturn, 1)) : W p l e R s m args below meth c H locs 0 0 (MQ below (nb_Qi G sh Z r σ) args s 0 0 (nb_A sh G.2.1)) (F0 m pc ls [.int v]) := by
  cases hf
  exact W.iret hx hb hr  (fun t ht hw => ⟨⟨v, (), rfl, rfl, nb_end hK hZ hZo hW ht hw⟩, hW.2.F ht⟩) hW.2.2.2 hdg
theorem nb_rz {v r : Int32} {σ1 : nb_St} (hx : p.tables.exec = Jvm.exec) (hb : c.code = cc) (hr : meth.sig.returnType = some .boolean) (hlocks : meth.locks = false) (hK : va_K G.1 vwCl (nb_ty G.2.2) s) (hZ : Z s s.heap) (hZo : nb_Zok (nb_A sh G.2.1) Z) (hW : nb_W G sh s.heap σ H locs) (hn : narrow .boolean (.int v) = .int v) (hf : some (v, σ) = some (r, σ1)) (hdg : decode cc pc = .ok (.ireturn, 1)) : W p l e R s m args below meth c H locs 0 0 (MQ below (nb_Qi G sh Z r σ1) args s 0 0 (nb_A sh G.2.1)) (F0 m pc ls [.int v]) := by
  cases hf
  exact W.zret hx hb hr hn (fun t ht hw => ⟨⟨v, (), rfl, rfl, nb_end hK hZ hZo hW ht hw⟩, hW.2.F ht⟩) hW.2.2.2 hdg
theorem nb_rzp {v r : Int32} (hx : p.tables.exec = Jvm.exec) (hb : c.code = cc) (hr : meth.sig.returnType = some .boolean) (hlocks : meth.locks = false) (hK : va_K G.1 vwCl (nb_ty G.2.2) s) (hZ : Z s s.heap) (hZo : nb_Zok (nb_A sh G.2.1) Z) (hW : nb_W G sh s.heap σ H locs) (hn : narrow .boolean (.int v) = .int v) (hf : some v = some r) (hdg : decode cc pc = .ok (.ireturn, 1)) : W p l e R s m args below meth c H locs 0 0 (MQ below (nb_Qi G sh Z r σ) args s 0 0 (nb_A sh G.2.1)) (F0 m pc ls [.int v]) := by
  cases hf
  exact W.zret hx hb hr hn (fun t ht hw => ⟨⟨v, (), rfl, rfl, nb_end hK hZ hZo hW ht hw⟩, hW.2.F ht⟩) hW.2.2.2 hdg
theorem nb_rl {v r : Int64} {σ1 : nb_St} (hx : p.tables.exec = Jvm.exec) (hb : c.code = cc) (hr : meth.sig.returnType = some .long) (hlocks : meth.locks = false) (hK : va_K G.1 vwCl (nb_ty G.2.2) s) (hZ : Z s s.heap) (hZo : nb_Zok (nb_A sh G.2.1) Z) (hW : nb_W G sh s.heap σ H locs)  (hf : some (v, σ) = some (r, σ1)) (hdg : decode cc pc = .ok (.lreturn, 1)) : W p l e R s m args below meth c H locs 0 0 (MQ below (nb_Ql G sh Z r σ1) args s 0 0 (nb_A sh G.2.1)) (F0 m pc ls [.long v]) := by
  cases hf
  exact W.lret hx hb hr  (fun t ht hw => ⟨⟨v, (), rfl, rfl, nb_end hK hZ hZo hW ht hw⟩, hW.2.F ht⟩) hW.2.2.2 hdg
theorem nb_rlp {v r : Int64} (hx : p.tables.exec = Jvm.exec) (hb : c.code = cc) (hr : meth.sig.returnType = some .long) (hlocks : meth.locks = false) (hK : va_K G.1 vwCl (nb_ty G.2.2) s) (hZ : Z s s.heap) (hZo : nb_Zok (nb_A sh G.2.1) Z) (hW : nb_W G sh s.heap σ H locs)  (hf : some v = some r) (hdg : decode cc pc = .ok (.lreturn, 1)) : W p l e R s m args below meth c H locs 0 0 (MQ below (nb_Ql G sh Z r σ) args s 0 0 (nb_A sh G.2.1)) (F0 m pc ls [.long v]) := by
  cases hf
  exact W.lret hx hb hr  (fun t ht hw => ⟨⟨v, (), rfl, rfl, nb_end hK hZ hZo hW ht hw⟩, hW.2.F ht⟩) hW.2.2.2 hdg
theorem nb_rv {σ1 : nb_St} (hx : p.tables.exec = Jvm.exec) (hb : c.code = cc) (hr : meth.sig.returnType = none) (hlocks : meth.locks = false) (hK : va_K G.1 vwCl (nb_ty G.2.2) s) (hZ : Z s s.heap) (hZo : nb_Zok (nb_A sh G.2.1) Z) (hW : nb_W G sh s.heap σ H locs) (hf : some σ = some σ1) (hdg : decode cc pc = .ok (.return_, 1)) : W p l e R s m args below meth c H locs 0 0 (MQ below (nb_Qv G sh Z σ1) args s 0 0 (nb_A sh G.2.1)) (F0 m pc ls []) := by
  cases hf
  exact W.vret hx hb hr (fun t ht hw => ⟨⟨(), rfl, trivial, nb_end hK hZ hZo hW ht hw⟩, hW.2.F ht⟩) hW.2.2.2 hdg
theorem nb_rr {k r : Nat} {C : String} (hx : p.tables.exec = Jvm.exec) (hb : c.code = cc) (hr : meth.sig.returnType = some (.object C)) (hlocks : meth.locks = false) (hK : va_K G.1 vwCl (nb_ty G.2.2) s) (hZ : Z s s.heap) (hZo : nb_Zok (nb_A sh G.2.1) Z) (hW : nb_W G sh s.heap σ H locs) (hf : some k = some r) (hdg : decode cc pc = .ok (.areturn, 1)) : W p l e R s m args below meth c H locs 0 0 (MQ below (nb_Qr G sh Z r σ) args s 0 0 (nb_A sh G.2.1)) (F0 m pc ls [.ref (G.2.1 k)]) := by
  cases hf
  exact W.aret hx hb hr (Or.inl ⟨_, rfl⟩) (Or.inr ⟨_, rfl⟩) (fun t ht hw => ⟨⟨(), G.2.1 k, rfl, trivial, rfl, nb_end hK hZ hZo hW ht hw⟩, hW.2.F ht⟩) hW.2.2.2 hdg
theorem nb_ci {st0 : List Value} {a : Array Value} {r : Int32} {σ1 : nb_St} (hW : nb_W G sh H0 σ H locs) (hr : va_Run p l e R s m args below meth c H locs cells slots 0 0 (F0 m pc ls st0) rest (nb_Qi G sh Z r σ1 a) (nb_A sh G.2.1)) (kk : ∀ (H1 : Heap) (locs1 : List Loc), nb_W G sh H0 σ1 H1 locs1 → W p l e R s m args below meth c H1 locs1 cells slots Q (F0 m (pc + 3) ls (.int r :: rest))) : W p l e R s m args below meth c H locs cells slots Q (F0 m pc ls st0) :=
  va_calli hr hW.2 (fun _ _ h => h) (fun _ h => h) (fun r' u t H1 locs1 ht hvm hw hB hz hk hS => by subst hw; exact kk H1 locs1 ⟨by rw [← ht]; exact hB.1, hS⟩)
theorem nb_cl {st0 : List Value} {a : Array Value} {r : Int64} {σ1 : nb_St} (hW : nb_W G sh H0 σ H locs) (hr : va_Run p l e R s m args below meth c H locs cells slots 0 0 (F0 m pc ls st0) rest (nb_Ql G sh Z r σ1 a) (nb_A sh G.2.1)) (kk : ∀ (H1 : Heap) (locs1 : List Loc), nb_W G sh H0 σ1 H1 locs1 → W p l e R s m args below meth c H1 locs1 cells slots Q (F0 m (pc + 3) ls (.long r :: rest))) : W p l e R s m args below meth c H locs cells slots Q (F0 m pc ls st0) :=
  va_calll hr hW.2 (fun _ _ h => h) (fun _ h => h) (fun r' u t H1 locs1 ht hvm hw hB hz hk hS => by subst hw; exact kk H1 locs1 ⟨by rw [← ht]; exact hB.1, hS⟩)
theorem nb_cv {st0 : List Value} {a : Array Value} {σ1 : nb_St} (hW : nb_W G sh H0 σ H locs) (hr : va_Run p l e R s m args below meth c H locs cells slots 0 0 (F0 m pc ls st0) rest (nb_Qv G sh Z σ1 a) (nb_A sh G.2.1)) (kk : ∀ (H1 : Heap) (locs1 : List Loc), nb_W G sh H0 σ1 H1 locs1 → W p l e R s m args below meth c H1 locs1 cells slots Q (F0 m (pc + 3) ls rest)) : W p l e R s m args below meth c H locs cells slots Q (F0 m pc ls st0) :=
  va_callv hr hW.2 (fun _ _ h => h) (fun _ h => h) (fun u t H1 locs1 ht hvm hw hB hz hk hS => kk H1 locs1 ⟨by rw [← ht]; exact hB.1, hS⟩)
theorem nb_cr {st0 : List Value} {a : Array Value} {r : Nat} {σ1 : nb_St} (hW : nb_W G sh H0 σ H locs) (hr : va_Run p l e R s m args below meth c H locs cells slots 0 0 (F0 m pc ls st0) rest (nb_Qr G sh Z r σ1 a) (nb_A sh G.2.1)) (kk : ∀ (H1 : Heap) (locs1 : List Loc), nb_W G sh H0 σ1 H1 locs1 → W p l e R s m args below meth c H1 locs1 cells slots Q (F0 m (pc + 3) ls (.ref (G.2.1 r) :: rest))) : W p l e R s m args below meth c H locs cells slots Q (F0 m pc ls st0) :=
  va_callr hr hW.2 (fun _ _ h => h) (fun _ h => h) (fun u ra t H1 locs1 ht hvm hw hB hz hk hS => by obtain ⟨rfl, hB⟩ := hB; exact kk H1 locs1 ⟨by rw [← ht]; exact hB.1, hS⟩)
theorem nb_nami {x y : Int32} (h : y = x) (k : W p l e R s m args below meth c H locs cells slots Q (F0 m pc ls (.int y :: rest))) : W p l e R s m args below meth c H locs cells slots Q (F0 m pc ls (.int x :: rest)) := h ▸ k
theorem nb_naml {x y : Int64} (h : y = x) (k : W p l e R s m args below meth c H locs cells slots Q (F0 m pc ls (.long y :: rest))) : W p l e R s m args below meth c H locs cells slots Q (F0 m pc ls (.long x :: rest)) := h ▸ k
theorem nb_irem (hx : p.tables.exec = Jvm.exec) (hb : c.code = cc) {x y : Int32} (hdg : decode cc pc = .ok (.irem, 1)) (hne : ¬ y = 0) (k : W p l e R s m args below meth c H locs cells slots Q (F0 m (pc + 1) ls (.int (nb_rem x y) :: rest))) : W p l e R s m args below meth c H locs cells slots Q (F0 m pc ls (.int y :: .int x :: rest)) := lv_irem hx hb hdg hne k
theorem nb_lremr (hx : p.tables.exec = Jvm.exec) (hb : c.code = cc) {x y : Int64} (hdg : decode cc pc = .ok (.lrem, 1)) (hne : ¬ y = 0) (k : W p l e R s m args below meth c H locs cells slots Q (F0 m (pc + 1) ls (.long (nb_lrem x y) :: rest))) : W p l e R s m args below meth c H locs cells slots Q (F0 m pc ls (.long y :: .long x :: rest)) := lv_lrem hx hb hdg hne k
end NBR
def nb_lp1 {A0 R : Type} (f : (A0 → Option R) → A0 → Option R) : Nat → A0 → Option R
  | 0, _ => none
  | n + 1, a0 => f (nb_lp1 f n) a0
theorem nb_w1 {A0 R : Type} {f : (A0 → Option R) → A0 → Option R} {r : R} {P : A0 → Prop} (h : ∀ ag : A0 → Option R, (∀ a0, ag a0 = some r → P a0) → ∀ a0, f ag a0 = some r → P a0) : ∀ (n : Nat) (a0 : A0), nb_lp1 f n a0 = some r → P a0
  | 0, a0, q => by cases q
  | n + 1, a0, q => h (nb_lp1 f n) (fun a0 q => nb_w1 h n a0 q) a0 q
theorem nb_i1 {A0 R : Type} {f : (A0 → Option R) → A0 → Option R} {r : Option R} (I : A0 → Prop) (μ : A0 → Nat) (h : ∀ (ag : A0 → Option R) (a0 : A0), I a0 → (∀ b0, I b0 → μ b0 < μ a0 → ag b0 = r) → f ag a0 = r) : ∀ (n : Nat) (a0 : A0), μ a0 < n → I a0 → nb_lp1 f n a0 = r
  | 0, a0, q, _ => by omega
  | n + 1, a0, q, i => h (nb_lp1 f n) a0 i (fun b0 i2 q2 => nb_i1 I μ h n b0 (by omega) i2)
def nb_lp2 {A0 A1 R : Type} (f : (A0 → A1 → Option R) → A0 → A1 → Option R) : Nat → A0 → A1 → Option R
  | 0, _, _ => none
  | n + 1, a0, a1 => f (nb_lp2 f n) a0 a1
theorem nb_w2 {A0 A1 R : Type} {f : (A0 → A1 → Option R) → A0 → A1 → Option R} {r : R} {P : A0 → A1 → Prop} (h : ∀ ag : A0 → A1 → Option R, (∀ a0 a1, ag a0 a1 = some r → P a0 a1) → ∀ a0 a1, f ag a0 a1 = some r → P a0 a1) : ∀ (n : Nat) (a0 : A0) (a1 : A1), nb_lp2 f n a0 a1 = some r → P a0 a1
  | 0, a0, a1, q => by cases q
  | n + 1, a0, a1, q => h (nb_lp2 f n) (fun a0 a1 q => nb_w2 h n a0 a1 q) a0 a1 q
theorem nb_i2 {A0 A1 R : Type} {f : (A0 → A1 → Option R) → A0 → A1 → Option R} {r : Option R} (I : A0 → A1 → Prop) (μ : A0 → A1 → Nat) (h : ∀ (ag : A0 → A1 → Option R) (a0 : A0) (a1 : A1), I a0 a1 → (∀ b0 b1, I b0 b1 → μ b0 b1 < μ a0 a1 → ag b0 b1 = r) → f ag a0 a1 = r) : ∀ (n : Nat) (a0 : A0) (a1 : A1), μ a0 a1 < n → I a0 a1 → nb_lp2 f n a0 a1 = r
  | 0, a0, a1, q, _ => by omega
  | n + 1, a0, a1, q, i => h (nb_lp2 f n) a0 a1 i (fun b0 b1 i2 q2 => nb_i2 I μ h n b0 b1 (by omega) i2)
def nb_lp3 {A0 A1 A2 R : Type} (f : (A0 → A1 → A2 → Option R) → A0 → A1 → A2 → Option R) : Nat → A0 → A1 → A2 → Option R
  | 0, _, _, _ => none
  | n + 1, a0, a1, a2 => f (nb_lp3 f n) a0 a1 a2
theorem nb_w3 {A0 A1 A2 R : Type} {f : (A0 → A1 → A2 → Option R) → A0 → A1 → A2 → Option R} {r : R} {P : A0 → A1 → A2 → Prop} (h : ∀ ag : A0 → A1 → A2 → Option R, (∀ a0 a1 a2, ag a0 a1 a2 = some r → P a0 a1 a2) → ∀ a0 a1 a2, f ag a0 a1 a2 = some r → P a0 a1 a2) : ∀ (n : Nat) (a0 : A0) (a1 : A1) (a2 : A2), nb_lp3 f n a0 a1 a2 = some r → P a0 a1 a2
  | 0, a0, a1, a2, q => by cases q
  | n + 1, a0, a1, a2, q => h (nb_lp3 f n) (fun a0 a1 a2 q => nb_w3 h n a0 a1 a2 q) a0 a1 a2 q
theorem nb_i3 {A0 A1 A2 R : Type} {f : (A0 → A1 → A2 → Option R) → A0 → A1 → A2 → Option R} {r : Option R} (I : A0 → A1 → A2 → Prop) (μ : A0 → A1 → A2 → Nat) (h : ∀ (ag : A0 → A1 → A2 → Option R) (a0 : A0) (a1 : A1) (a2 : A2), I a0 a1 a2 → (∀ b0 b1 b2, I b0 b1 b2 → μ b0 b1 b2 < μ a0 a1 a2 → ag b0 b1 b2 = r) → f ag a0 a1 a2 = r) : ∀ (n : Nat) (a0 : A0) (a1 : A1) (a2 : A2), μ a0 a1 a2 < n → I a0 a1 a2 → nb_lp3 f n a0 a1 a2 = r
  | 0, a0, a1, a2, q, _ => by omega
  | n + 1, a0, a1, a2, q, i => h (nb_lp3 f n) a0 a1 a2 i (fun b0 b1 b2 i2 q2 => nb_i3 I μ h n b0 b1 b2 (by omega) i2)
def nb_lp4 {A0 A1 A2 A3 R : Type} (f : (A0 → A1 → A2 → A3 → Option R) → A0 → A1 → A2 → A3 → Option R) : Nat → A0 → A1 → A2 → A3 → Option R
  | 0, _, _, _, _ => none
  | n + 1, a0, a1, a2, a3 => f (nb_lp4 f n) a0 a1 a2 a3
theorem nb_w4 {A0 A1 A2 A3 R : Type} {f : (A0 → A1 → A2 → A3 → Option R) → A0 → A1 → A2 → A3 → Option R} {r : R} {P : A0 → A1 → A2 → A3 → Prop} (h : ∀ ag : A0 → A1 → A2 → A3 → Option R, (∀ a0 a1 a2 a3, ag a0 a1 a2 a3 = some r → P a0 a1 a2 a3) → ∀ a0 a1 a2 a3, f ag a0 a1 a2 a3 = some r → P a0 a1 a2 a3) : ∀ (n : Nat) (a0 : A0) (a1 : A1) (a2 : A2) (a3 : A3), nb_lp4 f n a0 a1 a2 a3 = some r → P a0 a1 a2 a3
  | 0, a0, a1, a2, a3, q => by cases q
  | n + 1, a0, a1, a2, a3, q => h (nb_lp4 f n) (fun a0 a1 a2 a3 q => nb_w4 h n a0 a1 a2 a3 q) a0 a1 a2 a3 q
theorem nb_i4 {A0 A1 A2 A3 R : Type} {f : (A0 → A1 → A2 → A3 → Option R) → A0 → A1 → A2 → A3 → Option R} {r : Option R} (I : A0 → A1 → A2 → A3 → Prop) (μ : A0 → A1 → A2 → A3 → Nat) (h : ∀ (ag : A0 → A1 → A2 → A3 → Option R) (a0 : A0) (a1 : A1) (a2 : A2) (a3 : A3), I a0 a1 a2 a3 → (∀ b0 b1 b2 b3, I b0 b1 b2 b3 → μ b0 b1 b2 b3 < μ a0 a1 a2 a3 → ag b0 b1 b2 b3 = r) → f ag a0 a1 a2 a3 = r) : ∀ (n : Nat) (a0 : A0) (a1 : A1) (a2 : A2) (a3 : A3), μ a0 a1 a2 a3 < n → I a0 a1 a2 a3 → nb_lp4 f n a0 a1 a2 a3 = r
  | 0, a0, a1, a2, a3, q, _ => by omega
  | n + 1, a0, a1, a2, a3, q, i => h (nb_lp4 f n) a0 a1 a2 a3 i (fun b0 b1 b2 b3 i2 q2 => nb_i4 I μ h n b0 b1 b2 b3 (by omega) i2)
def nb_lp5 {A0 A1 A2 A3 A4 R : Type} (f : (A0 → A1 → A2 → A3 → A4 → Option R) → A0 → A1 → A2 → A3 → A4 → Option R) : Nat → A0 → A1 → A2 → A3 → A4 → Option R
  | 0, _, _, _, _, _ => none
  | n + 1, a0, a1, a2, a3, a4 => f (nb_lp5 f n) a0 a1 a2 a3 a4
theorem nb_w5 {A0 A1 A2 A3 A4 R : Type} {f : (A0 → A1 → A2 → A3 → A4 → Option R) → A0 → A1 → A2 → A3 → A4 → Option R} {r : R} {P : A0 → A1 → A2 → A3 → A4 → Prop} (h : ∀ ag : A0 → A1 → A2 → A3 → A4 → Option R, (∀ a0 a1 a2 a3 a4, ag a0 a1 a2 a3 a4 = some r → P a0 a1 a2 a3 a4) → ∀ a0 a1 a2 a3 a4, f ag a0 a1 a2 a3 a4 = some r → P a0 a1 a2 a3 a4) : ∀ (n : Nat) (a0 : A0) (a1 : A1) (a2 : A2) (a3 : A3) (a4 : A4), nb_lp5 f n a0 a1 a2 a3 a4 = some r → P a0 a1 a2 a3 a4
  | 0, a0, a1, a2, a3, a4, q => by cases q
  | n + 1, a0, a1, a2, a3, a4, q => h (nb_lp5 f n) (fun a0 a1 a2 a3 a4 q => nb_w5 h n a0 a1 a2 a3 a4 q) a0 a1 a2 a3 a4 q
theorem nb_i5 {A0 A1 A2 A3 A4 R : Type} {f : (A0 → A1 → A2 → A3 → A4 → Option R) → A0 → A1 → A2 → A3 → A4 → Option R} {r : Option R} (I : A0 → A1 → A2 → A3 → A4 → Prop) (μ : A0 → A1 → A2 → A3 → A4 → Nat) (h : ∀ (ag : A0 → A1 → A2 → A3 → A4 → Option R) (a0 : A0) (a1 : A1) (a2 : A2) (a3 : A3) (a4 : A4), I a0 a1 a2 a3 a4 → (∀ b0 b1 b2 b3 b4, I b0 b1 b2 b3 b4 → μ b0 b1 b2 b3 b4 < μ a0 a1 a2 a3 a4 → ag b0 b1 b2 b3 b4 = r) → f ag a0 a1 a2 a3 a4 = r) : ∀ (n : Nat) (a0 : A0) (a1 : A1) (a2 : A2) (a3 : A3) (a4 : A4), μ a0 a1 a2 a3 a4 < n → I a0 a1 a2 a3 a4 → nb_lp5 f n a0 a1 a2 a3 a4 = r
  | 0, a0, a1, a2, a3, a4, q, _ => by omega
  | n + 1, a0, a1, a2, a3, a4, q, i => h (nb_lp5 f n) a0 a1 a2 a3 a4 i (fun b0 b1 b2 b3 b4 i2 q2 => nb_i5 I μ h n b0 b1 b2 b3 b4 (by omega) i2)
def nb_lp6 {A0 A1 A2 A3 A4 A5 R : Type} (f : (A0 → A1 → A2 → A3 → A4 → A5 → Option R) → A0 → A1 → A2 → A3 → A4 → A5 → Option R) : Nat → A0 → A1 → A2 → A3 → A4 → A5 → Option R
  | 0, _, _, _, _, _, _ => none
  | n + 1, a0, a1, a2, a3, a4, a5 => f (nb_lp6 f n) a0 a1 a2 a3 a4 a5
theorem nb_w6 {A0 A1 A2 A3 A4 A5 R : Type} {f : (A0 → A1 → A2 → A3 → A4 → A5 → Option R) → A0 → A1 → A2 → A3 → A4 → A5 → Option R} {r : R} {P : A0 → A1 → A2 → A3 → A4 → A5 → Prop} (h : ∀ ag : A0 → A1 → A2 → A3 → A4 → A5 → Option R, (∀ a0 a1 a2 a3 a4 a5, ag a0 a1 a2 a3 a4 a5 = some r → P a0 a1 a2 a3 a4 a5) → ∀ a0 a1 a2 a3 a4 a5, f ag a0 a1 a2 a3 a4 a5 = some r → P a0 a1 a2 a3 a4 a5) : ∀ (n : Nat) (a0 : A0) (a1 : A1) (a2 : A2) (a3 : A3) (a4 : A4) (a5 : A5), nb_lp6 f n a0 a1 a2 a3 a4 a5 = some r → P a0 a1 a2 a3 a4 a5
  | 0, a0, a1, a2, a3, a4, a5, q => by cases q
  | n + 1, a0, a1, a2, a3, a4, a5, q => h (nb_lp6 f n) (fun a0 a1 a2 a3 a4 a5 q => nb_w6 h n a0 a1 a2 a3 a4 a5 q) a0 a1 a2 a3 a4 a5 q
theorem nb_i6 {A0 A1 A2 A3 A4 A5 R : Type} {f : (A0 → A1 → A2 → A3 → A4 → A5 → Option R) → A0 → A1 → A2 → A3 → A4 → A5 → Option R} {r : Option R} (I : A0 → A1 → A2 → A3 → A4 → A5 → Prop) (μ : A0 → A1 → A2 → A3 → A4 → A5 → Nat) (h : ∀ (ag : A0 → A1 → A2 → A3 → A4 → A5 → Option R) (a0 : A0) (a1 : A1) (a2 : A2) (a3 : A3) (a4 : A4) (a5 : A5), I a0 a1 a2 a3 a4 a5 → (∀ b0 b1 b2 b3 b4 b5, I b0 b1 b2 b3 b4 b5 → μ b0 b1 b2 b3 b4 b5 < μ a0 a1 a2 a3 a4 a5 → ag b0 b1 b2 b3 b4 b5 = r) → f ag a0 a1 a2 a3 a4 a5 = r) : ∀ (n : Nat) (a0 : A0) (a1 : A1) (a2 : A2) (a3 : A3) (a4 : A4) (a5 : A5), μ a0 a1 a2 a3 a4 a5 < n → I a0 a1 a2 a3 a4 a5 → nb_lp6 f n a0 a1 a2 a3 a4 a5 = r
  | 0, a0, a1, a2, a3, a4, a5, q, _ => by omega
  | n + 1, a0, a1, a2, a3, a4, a5, q, i => h (nb_lp6 f n) a0 a1 a2 a3 a4 a5 i (fun b0 b1 b2 b3 b4 b5 i2 q2 => nb_i6 I μ h n b0 b1 b2 b3 b4 b5 (by omega) i2)
def nb_lp7 {A0 A1 A2 A3 A4 A5 A6 R : Type} (f : (A0 → A1 → A2 → A3 → A4 → A5 → A6 → Option R) → A0 → A1 → A2 → A3 → A4 → A5 → A6 → Option R) : Nat → A0 → A1 → A2 → A3 → A4 → A5 → A6 → Option R
  | 0, _, _, _, _, _, _, _ => none
  | n + 1, a0, a1, a2, a3, a4, a5, a6 => f (nb_lp7 f n) a0 a1 a2 a3 a4 a5 a6
theorem nb_w7 {A0 A1 A2 A3 A4 A5 A6 R : Type} {f : (A0 → A1 → A2 → A3 → A4 → A5 → A6 → Option R) → A0 → A1 → A2 → A3 → A4 → A5 → A6 → Option R} {r : R} {P : A0 → A1 → A2 → A3 → A4 → A5 → A6 → Prop} (h : ∀ ag : A0 → A1 → A2 → A3 → A4 → A5 → A6 → Option R, (∀ a0 a1 a2 a3 a4 a5 a6, ag a0 a1 a2 a3 a4 a5 a6 = some r → P a0 a1 a2 a3 a4 a5 a6) → ∀ a0 a1 a2 a3 a4 a5 a6, f ag a0 a1 a2 a3 a4 a5 a6 = some r → P a0 a1 a2 a3 a4 a5 a6) : ∀ (n : Nat) (a0 : A0) (a1 : A1) (a2 : A2) (a3 : A3) (a4 : A4) (a5 : A5) (a6 : A6), nb_lp7 f n a0 a1 a2 a3 a4 a5 a6 = some r → P a0 a1 a2 a3 a4 a5 a6
  | 0, a0, a1, a2, a3, a4, a5, a6, q => by cases q
  | n + 1, a0, a1, a2, a3, a4, a5, a6, q => h (nb_lp7 f n) (fun a0 a1 a2 a3 a4 a5 a6 q => nb_w7 h n a0 a1 a2 a3 a4 a5 a6 q) a0 a1 a2 a3 a4 a5 a6 q
theorem nb_i7 {A0 A1 A2 A3 A4 A5 A6 R : Type} {f : (A0 → A1 → A2 → A3 → A4 → A5 → A6 → Option R) → A0 → A1 → A2 → A3 → A4 → A5 → A6 → Option R} {r : Option R} (I : A0 → A1 → A2 → A3 → A4 → A5 → A6 → Prop) (μ : A0 → A1 → A2 → A3 → A4 → A5 → A6 → Nat) (h : ∀ (ag : A0 → A1 → A2 → A3 → A4 → A5 → A6 → Option R) (a0 : A0) (a1 : A1) (a2 : A2) (a3 : A3) (a4 : A4) (a5 : A5) (a6 : A6), I a0 a1 a2 a3 a4 a5 a6 → (∀ b0 b1 b2 b3 b4 b5 b6, I b0 b1 b2 b3 b4 b5 b6 → μ b0 b1 b2 b3 b4 b5 b6 < μ a0 a1 a2 a3 a4 a5 a6 → ag b0 b1 b2 b3 b4 b5 b6 = r) → f ag a0 a1 a2 a3 a4 a5 a6 = r) : ∀ (n : Nat) (a0 : A0) (a1 : A1) (a2 : A2) (a3 : A3) (a4 : A4) (a5 : A5) (a6 : A6), μ a0 a1 a2 a3 a4 a5 a6 < n → I a0 a1 a2 a3 a4 a5 a6 → nb_lp7 f n a0 a1 a2 a3 a4 a5 a6 = r
  | 0, a0, a1, a2, a3, a4, a5, a6, q, _ => by omega
  | n + 1, a0, a1, a2, a3, a4, a5, a6, q, i => h (nb_lp7 f n) a0 a1 a2 a3 a4 a5 a6 i (fun b0 b1 b2 b3 b4 b5 b6 i2 q2 => nb_i7 I μ h n b0 b1 b2 b3 b4 b5 b6 (by omega) i2)
def nb_lp8 {A0 A1 A2 A3 A4 A5 A6 A7 R : Type} (f : (A0 → A1 → A2 → A3 → A4 → A5 → A6 → A7 → Option R) → A0 → A1 → A2 → A3 → A4 → A5 → A6 → A7 → Option R) : Nat → A0 → A1 → A2 → A3 → A4 → A5 → A6 → A7 → Option R
  | 0, _, _, _, _, _, _, _, _ => none
  | n + 1, a0, a1, a2, a3, a4, a5, a6, a7 => f (nb_lp8 f n) a0 a1 a2 a3 a4 a5 a6 a7
theorem nb_w8 {A0 A1 A2 A3 A4 A5 A6 A7 R : Type} {f : (A0 → A1 → A2 → A3 → A4 → A5 → A6 → A7 → Option R) → A0 → A1 → A2 → A3 → A4 → A5 → A6 → A7 → Option R} {r : R} {P : A0 → A1 → A2 → A3 → A4 → A5 → A6 → A7 → Prop} (h : ∀ ag : A0 → A1 → A2 → A3 → A4 → A5 → A6 → A7 → Option R, (∀ a0 a1 a2 a3 a4 a5 a6 a7, ag a0 a1 a2 a3 a4 a5 a6 a7 = some r → P a0 a1 a2 a3 a4 a5 a6 a7) → ∀ a0 a1 a2 a3 a4 a5 a6 a7, f ag a0 a1 a2 a3 a4 a5 a6 a7 = some r → P a0 a1 a2 a3 a4 a5 a6 a7) : ∀ (n : Nat) (a0 : A0) (a1 : A1) (a2 : A2) (a3 : A3) (a4 : A4) (a5 : A5) (a6 : A6) (a7 : A7), nb_lp8 f n a0 a1 a2 a3 a4 a5 a6 a7 = some r → P a0 a1 a2 a3 a4 a5 a6 a7
  | 0, a0, a1, a2, a3, a4, a5, a6, a7, q => by cases q
  | n + 1, a0, a1, a2, a3, a4, a5, a6, a7, q => h (nb_lp8 f n) (fun a0 a1 a2 a3 a4 a5 a6 a7 q => nb_w8 h n a0 a1 a2 a3 a4 a5 a6 a7 q) a0 a1 a2 a3 a4 a5 a6 a7 q
theorem nb_i8 {A0 A1 A2 A3 A4 A5 A6 A7 R : Type} {f : (A0 → A1 → A2 → A3 → A4 → A5 → A6 → A7 → Option R) → A0 → A1 → A2 → A3 → A4 → A5 → A6 → A7 → Option R} {r : Option R} (I : A0 → A1 → A2 → A3 → A4 → A5 → A6 → A7 → Prop) (μ : A0 → A1 → A2 → A3 → A4 → A5 → A6 → A7 → Nat) (h : ∀ (ag : A0 → A1 → A2 → A3 → A4 → A5 → A6 → A7 → Option R) (a0 : A0) (a1 : A1) (a2 : A2) (a3 : A3) (a4 : A4) (a5 : A5) (a6 : A6) (a7 : A7), I a0 a1 a2 a3 a4 a5 a6 a7 → (∀ b0 b1 b2 b3 b4 b5 b6 b7, I b0 b1 b2 b3 b4 b5 b6 b7 → μ b0 b1 b2 b3 b4 b5 b6 b7 < μ a0 a1 a2 a3 a4 a5 a6 a7 → ag b0 b1 b2 b3 b4 b5 b6 b7 = r) → f ag a0 a1 a2 a3 a4 a5 a6 a7 = r) : ∀ (n : Nat) (a0 : A0) (a1 : A1) (a2 : A2) (a3 : A3) (a4 : A4) (a5 : A5) (a6 : A6) (a7 : A7), μ a0 a1 a2 a3 a4 a5 a6 a7 < n → I a0 a1 a2 a3 a4 a5 a6 a7 → nb_lp8 f n a0 a1 a2 a3 a4 a5 a6 a7 = r
  | 0, a0, a1, a2, a3, a4, a5, a6, a7, q, _ => by omega
  | n + 1, a0, a1, a2, a3, a4, a5, a6, a7, q, i => h (nb_lp8 f n) a0 a1 a2 a3 a4 a5 a6 a7 i (fun b0 b1 b2 b3 b4 b5 b6 b7 i2 q2 => nb_i8 I μ h n b0 b1 b2 b3 b4 b5 b6 b7 (by omega) i2)
end
section
def xc_sh : List nb_S := [.inr (7, [some (some 1), none, some (some 2), some none, some none, some (some 36), some (some 61), some (some 64), some (some 69)]),
  .inl (1, 400),
  .inr (5, [some (some 3), none]),
  .inl (0, 4),
  .inr (4, [none, some (some 5), some (some 6), some (some 7), some (some 8), some (some 9), none, none, none, none, some (some 13), some (some 14), some (some 15), some (some 16), none, some (some 17), some (some 18), some (some 19)]),
  .inl (0, 8),
  .inl (0, 8),
  .inl (0, 8),
  .inl (0, 8),
  .inr (6, [none, some (some 10), some (some 11), none, some (some 12)]),
  .inl (0, 6),
  .inl (0, 6),
  .inl (0, 4),
  .inl (0, 3),
  .inl (0, 3),
  .inl (0, 4),
  .inl (0, 4),
  .inl (0, 6),
  .inl (0, 6),
  .inl (0, 6),
  .inr (4, [none, some (some 21), some (some 22), some (some 23), some (some 24), some (some 25), none, none, none, none, some (some 29), some (some 30), some (some 31), some (some 32), none, some (some 33), some (some 34), some (some 35)]),
  .inl (0, 8),
  .inl (0, 8),
  .inl (0, 8),
  .inl (0, 8),
  .inr (6, [none, some (some 26), some (some 27), none, some (some 28)]),
  .inl (0, 6),
  .inl (0, 6),
  .inl (0, 4),
  .inl (0, 3),
  .inl (0, 3),
  .inl (0, 4),
  .inl (0, 4),
  .inl (0, 6),
  .inl (0, 6),
  .inl (0, 6),
  .inr (0, [some none, some (some 53), some (some 54), none, some (some 55), some (some 56), some (some 57), none, none, none, none, some (some 58), some (some 59), some (some 60)]),
  .inr (4, [none, some (some 38), some (some 39), some (some 40), some (some 41), some (some 42), none, none, none, none, some (some 46), some (some 47), some (some 48), some (some 49), none, some (some 50), some (some 51), some (some 52)]),
  .inl (0, 8),
  .inl (0, 8),
  .inl (0, 8),
  .inl (0, 8),
  .inr (6, [none, some (some 43), some (some 44), none, some (some 45)]),
  .inl (0, 6),
  .inl (0, 6),
  .inl (0, 4),
  .inl (0, 3),
  .inl (0, 3),
  .inl (0, 4),
  .inl (0, 4),
  .inl (0, 6),
  .inl (0, 6),
  .inl (0, 6),
  .inl (0, 8),
  .inl (0, 8),
  .inl (0, 9),
  .inl (0, 9),
  .inl (0, 9),
  .inl (0, 4),
  .inl (0, 4),
  .inl (0, 4),
  .inr (2, [none, none, some (some 62), some (some 63)]),
  .inl (0, 3),
  .inl (0, 3),
  .inr (1, [none, none, some (some 65), some (some 66), some (some 67), some (some 68), none, none, none]),
  .inl (0, 4),
  .inl (0, 4),
  .inl (0, 4),
  .inl (0, 4),
  .inr (3, [some (some 70), none, some (some 71), some (some 75), none]),
  .inl (2, 8),
  .inr (6, [none, some (some 72), some (some 73), none, some (some 74)]),
  .inl (0, 6),
  .inl (0, 6),
  .inl (0, 4),
  .inr (6, [none, some (some 76), some (some 77), none, some (some 78)]),
  .inl (0, 6),
  .inl (0, 6),
  .inl (0, 4)]
def xm_sh : List nb_S := [.inr (8, [none, some (some 1), some (some 2), some (some 3), some (some 4), some (some 5), some (some 6), some (some 7), some (some 8), some (some 9), some (some 10), some (some 11), some (some 12), some (some 13), some (some 14), some (some 15), some (some 16), some (some 17), some (some 18), some (some 19), some (some 20), some (some 21), some (some 22), some (some 23), none, none, some (some 24), none, some (some 25), none, none, none, none, some (some 26), some (some 27), some (some 28), none, some (some 29), some (some 30), some (some 31)]),
  .inl (0, 400),
  .inl (0, 2),
  .inl (0, 16),
  .inl (0, 16),
  .inl (0, 16),
  .inl (0, 16),
  .inl (0, 2),
  .inl (0, 6),
  .inl (0, 6),
  .inl (0, 2),
  .inl (0, 2),
  .inl (0, 2),
  .inl (0, 6),
  .inl (0, 6),
  .inl (0, 2),
  .inl (0, 12),
  .inl (0, 12),
  .inl (0, 12),
  .inl (0, 4),
  .inl (0, 24),
  .inl (0, 24),
  .inl (0, 4),
  .inl (0, 16),
  .inl (0, 8),
  .inl (0, 4),
  .inl (0, 3),
  .inl (0, 4),
  .inl (0, 8),
  .inl (0, 4),
  .inl (0, 4),
  .inl (0, 4)]
def xc_pty (p : Nat) : Bool := p == 4 || p == 20 || p == 37
theorem x_pty_c {p : Nat} (h : xc_pty p = true) : p = 4 ∨ p = 20 ∨ p = 37 := by simpa [xc_pty, or_assoc] using h
theorem x_pty_lt {p : Nat} (h : xc_pty p = true) : p < 2 ^ 31 := by rcases x_pty_c h with rfl | rfl | rfl <;> decide
theorem sx_pty_0 {p : Nat} (h : xc_pty p = true) : xc_sh[p]? = some (.inr (4, [none, some (some (p + 1)), some (some (p + 2)), some (some (p + 3)), some (some (p + 4)), some (some (p + 5)), none, none, none, none, some (some (p + 9)), some (some (p + 10)), some (some (p + 11)), some (some (p + 12)), none, some (some (p + 13)), some (some (p + 14)), some (some (p + 15))])) := by rcases x_pty_c h with rfl | rfl | rfl <;> rfl
theorem sx_pty_1 {p : Nat} (h : xc_pty p = true) : xc_sh[p + 1]? = some (.inl (0, 8)) := by rcases x_pty_c h with rfl | rfl | rfl <;> rfl
theorem sx_pty_2 {p : Nat} (h : xc_pty p = true) : xc_sh[p + 2]? = some (.inl (0, 8)) := by rcases x_pty_c h with rfl | rfl | rfl <;> rfl
theorem sx_pty_3 {p : Nat} (h : xc_pty p = true) : xc_sh[p + 3]? = some (.inl (0, 8)) := by rcases x_pty_c h with rfl | rfl | rfl <;> rfl
theorem sx_pty_4 {p : Nat} (h : xc_pty p = true) : xc_sh[p + 4]? = some (.inl (0, 8)) := by rcases x_pty_c h with rfl | rfl | rfl <;> rfl
theorem sx_pty_5 {p : Nat} (h : xc_pty p = true) : xc_sh[p + 5]? = some (.inr (6, [none, some (some (p + 6)), some (some (p + 7)), none, some (some (p + 8))])) := by rcases x_pty_c h with rfl | rfl | rfl <;> rfl
theorem sx_pty_6 {p : Nat} (h : xc_pty p = true) : xc_sh[p + 6]? = some (.inl (0, 6)) := by rcases x_pty_c h with rfl | rfl | rfl <;> rfl
theorem sx_pty_7 {p : Nat} (h : xc_pty p = true) : xc_sh[p + 7]? = some (.inl (0, 6)) := by rcases x_pty_c h with rfl | rfl | rfl <;> rfl
theorem sx_pty_8 {p : Nat} (h : xc_pty p = true) : xc_sh[p + 8]? = some (.inl (0, 4)) := by rcases x_pty_c h with rfl | rfl | rfl <;> rfl
theorem sx_pty_9 {p : Nat} (h : xc_pty p = true) : xc_sh[p + 9]? = some (.inl (0, 3)) := by rcases x_pty_c h with rfl | rfl | rfl <;> rfl
theorem sx_pty_10 {p : Nat} (h : xc_pty p = true) : xc_sh[p + 10]? = some (.inl (0, 3)) := by rcases x_pty_c h with rfl | rfl | rfl <;> rfl
theorem sx_pty_11 {p : Nat} (h : xc_pty p = true) : xc_sh[p + 11]? = some (.inl (0, 4)) := by rcases x_pty_c h with rfl | rfl | rfl <;> rfl
theorem sx_pty_12 {p : Nat} (h : xc_pty p = true) : xc_sh[p + 12]? = some (.inl (0, 4)) := by rcases x_pty_c h with rfl | rfl | rfl <;> rfl
theorem sx_pty_13 {p : Nat} (h : xc_pty p = true) : xc_sh[p + 13]? = some (.inl (0, 6)) := by rcases x_pty_c h with rfl | rfl | rfl <;> rfl
theorem sx_pty_14 {p : Nat} (h : xc_pty p = true) : xc_sh[p + 14]? = some (.inl (0, 6)) := by rcases x_pty_c h with rfl | rfl | rfl <;> rfl
theorem sx_pty_15 {p : Nat} (h : xc_pty p = true) : xc_sh[p + 15]? = some (.inl (0, 6)) := by rcases x_pty_c h with rfl | rfl | rfl <;> rfl
def xc_tld (p : Nat) : Bool := p == 9 || p == 25 || p == 42 || p == 71 || p == 75
theorem x_tld_c {p : Nat} (h : xc_tld p = true) : p = 9 ∨ p = 25 ∨ p = 42 ∨ p = 71 ∨ p = 75 := by simpa [xc_tld, or_assoc] using h
theorem x_tld_lt {p : Nat} (h : xc_tld p = true) : p < 2 ^ 31 := by rcases x_tld_c h with rfl | rfl | rfl | rfl | rfl <;> decide
theorem sx_tld_0 {p : Nat} (h : xc_tld p = true) : xc_sh[p]? = some (.inr (6, [none, some (some (p + 1)), some (some (p + 2)), none, some (some (p + 3))])) := by rcases x_tld_c h with rfl | rfl | rfl | rfl | rfl <;> rfl
theorem sx_tld_1 {p : Nat} (h : xc_tld p = true) : xc_sh[p + 1]? = some (.inl (0, 6)) := by rcases x_tld_c h with rfl | rfl | rfl | rfl | rfl <;> rfl
theorem sx_tld_2 {p : Nat} (h : xc_tld p = true) : xc_sh[p + 2]? = some (.inl (0, 6)) := by rcases x_tld_c h with rfl | rfl | rfl | rfl | rfl <;> rfl
theorem sx_tld_3 {p : Nat} (h : xc_tld p = true) : xc_sh[p + 3]? = some (.inl (0, 4)) := by rcases x_tld_c h with rfl | rfl | rfl | rfl | rfl <;> rfl
theorem x_tld_of {p : Nat} (h : xc_pty p = true) : xc_tld (p + 5) = true := by rcases x_pty_c h with rfl | rfl | rfl <;> rfl
def xc_nf : List (String × Nat × String × String × String × String) := [("NobodyFirst$Evening", 73, "NobodyFirst$Told", "signs", "I", "NobodyFirst"),
  ("NobodyFirst$History", 32, "NobodyFirst$Told", "signs", "I", "NobodyFirst"),
  ("NobodyFirst", 227, "NobodyFirst$Told", "signs", "I", "NobodyFirst"),
  ("NobodyFirst$Evening", 76, "NobodyFirst$Told", "signMinute", "[I", "NobodyFirst"),
  ("NobodyFirst$Evening", 77, "NobodyFirst$Told", "signWorth", "[I", "NobodyFirst"),
  ("NobodyFirst$History", 41, "NobodyFirst$Told", "words", "I", "NobodyFirst"),
  ("NobodyFirst$Evening", 127, "NobodyFirst$Told", "words", "I", "NobodyFirst"),
  ("NobodyFirst", 233, "NobodyFirst$Told", "words", "I", "NobodyFirst"),
  ("NobodyFirst$Evening", 130, "NobodyFirst$Told", "wordMinute", "[I", "NobodyFirst"),
  ("NobodyFirst$Evening", 59, "NobodyFirst$Party", "guests", "I", "NobodyFirst"),
  ("NobodyFirst$Game", 41, "NobodyFirst$Party", "guests", "I", "NobodyFirst"),
  ("NobodyFirst", 78, "NobodyFirst$Party", "guests", "I", "NobodyFirst"),
  ("NobodyFirst$Evening", 62, "NobodyFirst$Party", "pair", "[I", "NobodyFirst"),
  ("NobodyFirst$Game", 46, "NobodyFirst$Party", "pair", "[I", "NobodyFirst"),
  ("NobodyFirst", 92, "NobodyFirst$Party", "pair", "[I", "NobodyFirst"),
  ("NobodyFirst$Evening", 66, "NobodyFirst$Party", "wouldGo", "[I", "NobodyFirst"),
  ("NobodyFirst$Game", 49, "NobodyFirst$Party", "wouldGo", "[I", "NobodyFirst"),
  ("NobodyFirst", 96, "NobodyFirst$Party", "wouldGo", "[I", "NobodyFirst"),
  ("NobodyFirst$Game", 56, "NobodyFirst$Party", "ownShame", "[I", "NobodyFirst"),
  ("NobodyFirst", 99, "NobodyFirst$Party", "ownShame", "[I", "NobodyFirst"),
  ("NobodyFirst$Evening", 139, "NobodyFirst$Party", "ownShame", "[I", "NobodyFirst"),
  ("NobodyFirst$Evening", 65, "NobodyFirst$Party", "kind", "[I", "NobodyFirst"),
  ("NobodyFirst", 102, "NobodyFirst$Party", "kind", "[I", "NobodyFirst"),
  ("NobodyFirst$Evening", 69, "NobodyFirst$Party", "told", "LNobodyFirst$Told;", "NobodyFirst"),
  ("NobodyFirst$Reader", 57, "NobodyFirst$Party", "told", "LNobodyFirst$Told;", "NobodyFirst"),
  ("NobodyFirst", 213, "NobodyFirst$Party", "told", "LNobodyFirst$Told;", "NobodyFirst"),
  ("NobodyFirst$Evening", 142, "NobodyFirst$Party", "drawsBy", "I", "NobodyFirst"),
  ("NobodyFirst$Evening", 145, "NobodyFirst$Party", "hall", "I", "NobodyFirst"),
  ("NobodyFirst$Evening", 158, "NobodyFirst$Party", "end", "I", "NobodyFirst"),
  ("NobodyFirst$Giving", 26, "NobodyFirst$Party", "offers", "I", "NobodyFirst"),
  ("NobodyFirst", 143, "NobodyFirst$Party", "offers", "I", "NobodyFirst"),
  ("NobodyFirst$Giving", 62, "NobodyFirst$Party", "offerWorth", "[I", "NobodyFirst"),
  ("NobodyFirst$Giving", 68, "NobodyFirst$Party", "offerCost", "[I", "NobodyFirst"),
  ("NobodyFirst", 180, "NobodyFirst$Party", "ifMeant", "[I", "NobodyFirst"),
  ("NobodyFirst", 183, "NobodyFirst$Party", "ifNot", "[I", "NobodyFirst"),
  ("NobodyFirst", 253, "NobodyFirst$Party", "looks", "I", "NobodyFirst"),
  ("NobodyFirst", 84, "NobodyFirst$Giving", "known", "Z", "NobodyFirst"),
  ("NobodyFirst", 150, "NobodyFirst$Giving", "least", "I", "NobodyFirst"),
  ("NobodyFirst", 156, "NobodyFirst$Game", "pairs", "I", "NobodyFirst"),
  ("NobodyFirst", 171, "NobodyFirst$Game", "firstRest", "[I", "NobodyFirst"),
  ("NobodyFirst", 168, "NobodyFirst$Game", "restsFound", "I", "NobodyFirst"),
  ("NobodyFirst", 174, "NobodyFirst$Game", "leastOfRests", "I", "NobodyFirst"),
  ("NobodyFirst", 177, "NobodyFirst$Game", "leastOfAll", "I", "NobodyFirst"),
  ("NobodyFirst", 236, "NobodyFirst$History", "steps", "I", "NobodyFirst"),
  ("NobodyFirst", 247, "NobodyFirst$History", "kept", "I", "NobodyFirst")]
def xc_nm : List (String × Nat × MethodName × String) := [("NobodyFirst", 19, yX5_init, "NobodyFirst"),
  ("NobodyFirst", 26, yX4_init, "NobodyFirst"),
  ("NobodyFirst$Party", 30, yX6_init, "NobodyFirst"),
  ("NobodyFirst", 36, yX0_init, "NobodyFirst"),
  ("NobodyFirst$Evening", 11, yX4_init, "NobodyFirst"),
  ("NobodyFirst", 43, yX2_init, "NobodyFirst"),
  ("NobodyFirst", 50, yX1_init, "NobodyFirst"),
  ("NobodyFirst", 57, yX3_init, "NobodyFirst"),
  ("NobodyFirst$History", 21, yX6_init, "NobodyFirst"),
  ("NobodyFirst$Party", 80, yX7_within, "NobodyFirst")]
def nb_tab0 (k : Nat) : Int32 := ([4, 2, 1, 2, 1, 2, 3, 3] : List Int32).getD k 0
def nb_tab1 (k : Nat) : Int32 := ([0, 0, 0, 0, 0, 1, 0, 0, 0, 0, 0, 0, 0, 0, 0, 0, 0, 0, 0, 0, 1, 0, 0, 0, 1, 0, 0, 0, 0, 0, 0, 0] : List Int32).getD k 0
def nb_tab2 (k : Nat) : Int32 := ([3, 359, 199, 5, 359, 99, 0, 0, 359, 0, 0, 0, 99, 60, 0, 0, 359, 0, 0, 0, 99, 999, 0, 0, 3, 99, 99, 0, 7, 359, 1, 0] : List Int32).getD k 0
def xc_Z (A : Nat → Prop) (tb : Nat → Nat) (U : State) (H : Heap) : Prop :=
  (∀ q ∈ xc_nf, va_Nw (.fieldLinkNest q.1 q.2.1 q.2.2.1 q.2.2.2.1 q.2.2.2.2.1 q.2.2.2.2.2) U) ∧ (∀ q ∈ xc_nm, va_Nw (.methodLinkNest q.1 q.2.1 q.2.2.1 q.2.2.2) U) ∧
  (va_Z "NobodyFirst$Reader" "HOW_MANY" "[I" (.ref (tb 0)) A U H ∧ va_T .int (tb 0) 8 (fun k => .int (nb_tab0 k)) A U H) ∧
  (va_Z "NobodyFirst$Reader" "LEAST" "[I" (.ref (tb 1)) A U H ∧ va_T .int (tb 1) 32 (fun k => .int (nb_tab1 k)) A U H) ∧
  (va_Z "NobodyFirst$Reader" "MOST" "[I" (.ref (tb 2)) A U H ∧ va_T .int (tb 2) 32 (fun k => .int (nb_tab2 k)) A U H)
theorem xc_Zok {A : Nat → Prop} {tb : Nat → Nat} : nb_Zok A (xc_Z A tb) := by
  refine ⟨fun s U H hw h => ?_, fun u U H hv h => ?_, fun U H H1 hq h => ?_⟩
  · obtain ⟨h1, h2, h3, h4, h5⟩ := h
    exact ⟨fun q hq => va_Nw.warmF hw (h1 q hq), fun q hq => va_Nw.warmM hw (h2 q hq), ⟨h3.1.moved hw.alike, h3.2.moved hw.alike⟩, ⟨h4.1.moved hw.alike, h4.2.moved hw.alike⟩, ⟨h5.1.moved hw.alike, h5.2.moved hw.alike⟩⟩
  · obtain ⟨h1, h2, h3, h4, h5⟩ := h
    have ha : u.vm.Alike U.vm := hv ▸ Vm.Alike.refl u.vm
    exact ⟨fun q hq => va_Nw.same rfl hv (h1 q hq), fun q hq => va_Nw.same rfl hv (h2 q hq), ⟨h3.1.moved ha, h3.2.moved ha⟩, ⟨h4.1.moved ha, h4.2.moved ha⟩, ⟨h5.1.moved ha, h5.2.moved ha⟩⟩
  · obtain ⟨h1, h2, h3, h4, h5⟩ := h
    exact ⟨h1, h2, ⟨h3.1.kept hq, h3.2.kept hq⟩, ⟨h4.1.kept hq, h4.2.kept hq⟩, ⟨h5.1.kept hq, h5.2.kept hq⟩⟩
theorem nb_Tok {A : Nat → Prop} : nb_Zok A (fun _ _ => True) := ⟨fun _ _ _ _ _ => trivial, fun _ _ _ _ _ => trivial, fun _ _ _ _ _ => trivial⟩
def nb_min (x y : Int32) : Int32 := if y < x then y else x
def nb_abs (x : Int32) : Int32 := if 0 ≤ x then x else 0 - x
def nb_01 (v : Int32) : Bool := v == 0 || v == 1
theorem nb_01_n {v : Int32} (h : nb_01 v = true) : narrow .boolean (.int v) = .int v := by
  have : v = 0 ∨ v = 1 := by simpa [nb_01] using h
  rcases this with rfl | rfl <;> rfl
theorem nb_fv_d {ad : Nat → Nat} {σ : nb_St} {k j P : Nat} (h : P < 2 ^ 31) : nb_fv ad (nb_st σ k j (nI P)) k j (some none) = .ref (ad P) := by
  show Value.ref (ad (nb_st σ k j (nI P) k j).toNatClampNeg) = _
  rw [nb_st_s, nI_clamp h]
theorem nb_out0_3 {y : Int32} (h0 : ¬ y = 0) (h1 : ¬ y = 1) (h2 : ¬ y = 2) (h3 : ¬ y = 3) : y.toInt < 0 ∨ 3 < y.toInt := by
  have f : ∀ k : Int32, ¬ y = k → ¬ y.toInt = k.toInt := fun k h e => h (Int32.toInt_inj.mp e)
  have g0 : ¬ y.toInt = 0 := f 0 h0
  have g1 : ¬ y.toInt = 1 := f 1 h1
  have g2 : ¬ y.toInt = 2 := f 2 h2
  have g3 : ¬ y.toInt = 3 := f 3 h3
  omega
theorem nb_out0_7 {y : Int32} (h0 : ¬ y = 0) (h1 : ¬ y = 1) (h2 : ¬ y = 2) (h3 : ¬ y = 3) (h4 : ¬ y = 4) (h5 : ¬ y = 5) (h6 : ¬ y = 6) (h7 : ¬ y = 7) : y.toInt < 0 ∨ 7 < y.toInt := by
  have f : ∀ k : Int32, ¬ y = k → ¬ y.toInt = k.toInt := fun k h e => h (Int32.toInt_inj.mp e)
  have g0 : ¬ y.toInt = 0 := f 0 h0
  have g1 : ¬ y.toInt = 1 := f 1 h1
  have g2 : ¬ y.toInt = 2 := f 2 h2
  have g3 : ¬ y.toInt = 3 := f 3 h3
  have g4 : ¬ y.toInt = 4 := f 4 h4
  have g5 : ¬ y.toInt = 5 := f 5 h5
  have g6 : ¬ y.toInt = 6 := f 6 h6
  have g7 : ¬ y.toInt = 7 := f 7 h7
  omega
theorem nb_out0_8 {y : Int32} (h0 : ¬ y = 0) (h1 : ¬ y = 1) (h2 : ¬ y = 2) (h3 : ¬ y = 3) (h4 : ¬ y = 4) (h5 : ¬ y = 5) (h6 : ¬ y = 6) (h7 : ¬ y = 7) (h8 : ¬ y = 8) : y.toInt < 0 ∨ 8 < y.toInt := by
  have f : ∀ k : Int32, ¬ y = k → ¬ y.toInt = k.toInt := fun k h e => h (Int32.toInt_inj.mp e)
  have g0 : ¬ y.toInt = 0 := f 0 h0
  have g1 : ¬ y.toInt = 1 := f 1 h1
  have g2 : ¬ y.toInt = 2 := f 2 h2
  have g3 : ¬ y.toInt = 3 := f 3 h3
  have g4 : ¬ y.toInt = 4 := f 4 h4
  have g5 : ¬ y.toInt = 5 := f 5 h5
  have g6 : ¬ y.toInt = 6 := f 6 h6
  have g7 : ¬ y.toInt = 7 := f 7 h7
  have g8 : ¬ y.toInt = 8 := f 8 h8
  omega
theorem nb_out0_27 {y : Int32} (h0 : ¬ y = 0) (h1 : ¬ y = 1) (h2 : ¬ y = 2) (h3 : ¬ y = 3) (h4 : ¬ y = 4) (h5 : ¬ y = 5) (h6 : ¬ y = 6) (h7 : ¬ y = 7) (h8 : ¬ y = 8) (h9 : ¬ y = 9) (h10 : ¬ y = 10) (h11 : ¬ y = 11) (h12 : ¬ y = 12) (h13 : ¬ y = 13) (h14 : ¬ y = 14) (h15 : ¬ y = 15) (h16 : ¬ y = 16) (h17 : ¬ y = 17) (h18 : ¬ y = 18) (h19 : ¬ y = 19) (h20 : ¬ y = 20) (h21 : ¬ y = 21) (h22 : ¬ y = 22) (h23 : ¬ y = 23) (h24 : ¬ y = 24) (h25 : ¬ y = 25) (h26 : ¬ y = 26) (h27 : ¬ y = 27) : y.toInt < 0 ∨ 27 < y.toInt := by
  have f : ∀ k : Int32, ¬ y = k → ¬ y.toInt = k.toInt := fun k h e => h (Int32.toInt_inj.mp e)
  have g0 : ¬ y.toInt = 0 := f 0 h0
  have g1 : ¬ y.toInt = 1 := f 1 h1
  have g2 : ¬ y.toInt = 2 := f 2 h2
  have g3 : ¬ y.toInt = 3 := f 3 h3
  have g4 : ¬ y.toInt = 4 := f 4 h4
  have g5 : ¬ y.toInt = 5 := f 5 h5
  have g6 : ¬ y.toInt = 6 := f 6 h6
  have g7 : ¬ y.toInt = 7 := f 7 h7
  have g8 : ¬ y.toInt = 8 := f 8 h8
  have g9 : ¬ y.toInt = 9 := f 9 h9
  have g10 : ¬ y.toInt = 10 := f 10 h10
  have g11 : ¬ y.toInt = 11 := f 11 h11
  have g12 : ¬ y.toInt = 12 := f 12 h12
  have g13 : ¬ y.toInt = 13 := f 13 h13
  have g14 : ¬ y.toInt = 14 := f 14 h14
  have g15 : ¬ y.toInt = 15 := f 15 h15
  have g16 : ¬ y.toInt = 16 := f 16 h16
  have g17 : ¬ y.toInt = 17 := f 17 h17
  have g18 : ¬ y.toInt = 18 := f 18 h18
  have g19 : ¬ y.toInt = 19 := f 19 h19
  have g20 : ¬ y.toInt = 20 := f 20 h20
  have g21 : ¬ y.toInt = 21 := f 21 h21
  have g22 : ¬ y.toInt = 22 := f 22 h22
  have g23 : ¬ y.toInt = 23 := f 23 h23
  have g24 : ¬ y.toInt = 24 := f 24 h24
  have g25 : ¬ y.toInt = 25 := f 25 h25
  have g26 : ¬ y.toInt = 26 := f 26 h26
  have g27 : ¬ y.toInt = 27 := f 27 h27
  omega
theorem nb_out98_121 {y : Int32} (h98 : ¬ y = 98) (h99 : ¬ y = 99) (h100 : ¬ y = 100) (h101 : ¬ y = 101) (h102 : ¬ y = 102) (h103 : ¬ y = 103) (h104 : ¬ y = 104) (h105 : ¬ y = 105) (h106 : ¬ y = 106) (h107 : ¬ y = 107) (h108 : ¬ y = 108) (h109 : ¬ y = 109) (h110 : ¬ y = 110) (h111 : ¬ y = 111) (h112 : ¬ y = 112) (h113 : ¬ y = 113) (h114 : ¬ y = 114) (h115 : ¬ y = 115) (h116 : ¬ y = 116) (h117 : ¬ y = 117) (h118 : ¬ y = 118) (h119 : ¬ y = 119) (h120 : ¬ y = 120) (h121 : ¬ y = 121) : y.toInt < 98 ∨ 121 < y.toInt := by
  have f : ∀ k : Int32, ¬ y = k → ¬ y.toInt = k.toInt := fun k h e => h (Int32.toInt_inj.mp e)
  have g98 : ¬ y.toInt = 98 := f 98 h98
  have g99 : ¬ y.toInt = 99 := f 99 h99
  have g100 : ¬ y.toInt = 100 := f 100 h100
  have g101 : ¬ y.toInt = 101 := f 101 h101
  have g102 : ¬ y.toInt = 102 := f 102 h102
  have g103 : ¬ y.toInt = 103 := f 103 h103
  have g104 : ¬ y.toInt = 104 := f 104 h104
  have g105 : ¬ y.toInt = 105 := f 105 h105
  have g106 : ¬ y.toInt = 106 := f 106 h106
  have g107 : ¬ y.toInt = 107 := f 107 h107
  have g108 : ¬ y.toInt = 108 := f 108 h108
  have g109 : ¬ y.toInt = 109 := f 109 h109
  have g110 : ¬ y.toInt = 110 := f 110 h110
  have g111 : ¬ y.toInt = 111 := f 111 h111
  have g112 : ¬ y.toInt = 112 := f 112 h112
  have g113 : ¬ y.toInt = 113 := f 113 h113
  have g114 : ¬ y.toInt = 114 := f 114 h114
  have g115 : ¬ y.toInt = 115 := f 115 h115
  have g116 : ¬ y.toInt = 116 := f 116 h116
  have g117 : ¬ y.toInt = 117 := f 117 h117
  have g118 : ¬ y.toInt = 118 := f 118 h118
  have g119 : ¬ y.toInt = 119 := f 119 h119
  have g120 : ¬ y.toInt = 120 := f 120 h120
  have g121 : ¬ y.toInt = 121 := f 121 h121
  omega
end
