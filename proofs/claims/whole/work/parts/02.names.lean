-- ===== PART A: goes FIRST, ahead of the names: the tables' words, and 'selects' of the private methods out of them =====
/-- a private method of a class that the tables say can be made, by its rows of tables_1 -/
def lw_okq (q : MethodName × Nat) : Prop := (q.1.cls ≠ "java/lang/invoke/MethodHandle" ∧ q.1.cls ≠ "java/lang/invoke/VarHandle") ∧ Cond.instantiable q.1.cls q.2 ∈ tables_1 ∧ Cond.privateMethod q.1 ∈ tables_1 ∧ Cond.instanceMethod q.1 ∈ tables_1
theorem lw_p0 : lw_okq (⟨"FordToll", "signOf", "(I)C"⟩, 12) := ⟨⟨by decide +kernel, by decide +kernel⟩, List.mem_of_getElem? (i := 23) (by decide +kernel), List.mem_of_getElem? (i := 241) (by decide +kernel), List.mem_of_getElem? (i := 242) (by decide +kernel)⟩
theorem lw_p1 : lw_okq (⟨"FordToll", "writeDigit", "(I)V"⟩, 12) := ⟨⟨by decide +kernel, by decide +kernel⟩, List.mem_of_getElem? (i := 23) (by decide +kernel), List.mem_of_getElem? (i := 249) (by decide +kernel), List.mem_of_getElem? (i := 250) (by decide +kernel)⟩
theorem lw_p2 : lw_okq (⟨"java/lang/Throwable", "fillInStackTrace", "(I)Ljava/lang/Throwable;"⟩, 6) := ⟨⟨by decide +kernel, by decide +kernel⟩, List.mem_of_getElem? (i := 322) (by decide +kernel), List.mem_of_getElem? (i := 320) (by decide +kernel), List.mem_of_getElem? (i := 321) (by decide +kernel)⟩
theorem lw_p3 : lw_okq (⟨"FordToll", "refuse", "(II)V"⟩, 12) := ⟨⟨by decide +kernel, by decide +kernel⟩, List.mem_of_getElem? (i := 23) (by decide +kernel), List.mem_of_getElem? (i := 409) (by decide +kernel), List.mem_of_getElem? (i := 410) (by decide +kernel)⟩
theorem lw_p4 : lw_okq (⟨"FordToll", "found", "(I)LFordToll$Traveller;"⟩, 12) := ⟨⟨by decide +kernel, by decide +kernel⟩, List.mem_of_getElem? (i := 23) (by decide +kernel), List.mem_of_getElem? (i := 538) (by decide +kernel), List.mem_of_getElem? (i := 539) (by decide +kernel)⟩
theorem lw_p5 : lw_okq (⟨"FordToll", "setStopped", "(IZ)I"⟩, 12) := ⟨⟨by decide +kernel, by decide +kernel⟩, List.mem_of_getElem? (i := 23) (by decide +kernel), List.mem_of_getElem? (i := 575) (by decide +kernel), List.mem_of_getElem? (i := 576) (by decide +kernel)⟩
theorem lw_p6 : lw_okq (⟨"FordToll$Ford", "sendBack", "(LFordToll$Traveller;)V"⟩, 12) := ⟨⟨by decide +kernel, by decide +kernel⟩, List.mem_of_getElem? (i := 31) (by decide +kernel), List.mem_of_getElem? (i := 609) (by decide +kernel), List.mem_of_getElem? (i := 610) (by decide +kernel)⟩
theorem lw_p7 : lw_okq (⟨"FordToll$Ford", "sendOn", "(LFordToll$Traveller;)V"⟩, 12) := ⟨⟨by decide +kernel, by decide +kernel⟩, List.mem_of_getElem? (i := 31) (by decide +kernel), List.mem_of_getElem? (i := 626) (by decide +kernel), List.mem_of_getElem? (i := 627) (by decide +kernel)⟩
theorem lw_p8 : lw_okq (⟨"FordToll$Ford", "comeOver", "(LFordToll$Traveller;)V"⟩, 12) := ⟨⟨by decide +kernel, by decide +kernel⟩, List.mem_of_getElem? (i := 31) (by decide +kernel), List.mem_of_getElem? (i := 634) (by decide +kernel), List.mem_of_getElem? (i := 635) (by decide +kernel)⟩
theorem lw_p9 : lw_okq (⟨"FordToll$Ford", "wetOrDry", "(LFordToll$Traveller;)V"⟩, 12) := ⟨⟨by decide +kernel, by decide +kernel⟩, List.mem_of_getElem? (i := 31) (by decide +kernel), List.mem_of_getElem? (i := 638) (by decide +kernel), List.mem_of_getElem? (i := 639) (by decide +kernel)⟩
theorem lw_p10 : lw_okq (⟨"FordToll$Ford", "heat", "(I)V"⟩, 12) := ⟨⟨by decide +kernel, by decide +kernel⟩, List.mem_of_getElem? (i := 31) (by decide +kernel), List.mem_of_getElem? (i := 647) (by decide +kernel), List.mem_of_getElem? (i := 648) (by decide +kernel)⟩
theorem lw_p11 : lw_okq (⟨"FordToll$Ford", "wettestOn", "(II)I"⟩, 12) := ⟨⟨by decide +kernel, by decide +kernel⟩, List.mem_of_getElem? (i := 31) (by decide +kernel), List.mem_of_getElem? (i := 651) (by decide +kernel), List.mem_of_getElem? (i := 652) (by decide +kernel)⟩
theorem lw_p12 : lw_okq (⟨"FordToll$Question", "readQuestion", "(LFordToll$Ford;I)I"⟩, 4) := ⟨⟨by decide +kernel, by decide +kernel⟩, List.mem_of_getElem? (i := 154) (by decide +kernel), List.mem_of_getElem? (i := 718) (by decide +kernel), List.mem_of_getElem? (i := 719) (by decide +kernel)⟩
theorem lw_p13 : lw_okq (⟨"FordToll$Question", "readPart", "(LFordToll$Ford;I)I"⟩, 4) := ⟨⟨by decide +kernel, by decide +kernel⟩, List.mem_of_getElem? (i := 154) (by decide +kernel), List.mem_of_getElem? (i := 722) (by decide +kernel), List.mem_of_getElem? (i := 723) (by decide +kernel)⟩
theorem lw_p14 : lw_okq (⟨"FordToll$Question", "readOne", "(LFordToll$Ford;I)I"⟩, 4) := ⟨⟨by decide +kernel, by decide +kernel⟩, List.mem_of_getElem? (i := 154) (by decide +kernel), List.mem_of_getElem? (i := 726) (by decide +kernel), List.mem_of_getElem? (i := 727) (by decide +kernel)⟩
theorem lw_p15 : lw_okq (⟨"FordToll$Question", "isNext", "(C)Z"⟩, 4) := ⟨⟨by decide +kernel, by decide +kernel⟩, List.mem_of_getElem? (i := 154) (by decide +kernel), List.mem_of_getElem? (i := 730) (by decide +kernel), List.mem_of_getElem? (i := 731) (by decide +kernel)⟩
def lw_privs_1 : List (MethodName × Nat) := [(⟨"FordToll", "signOf", "(I)C"⟩, 12), (⟨"FordToll", "writeDigit", "(I)V"⟩, 12), (⟨"java/lang/Throwable", "fillInStackTrace", "(I)Ljava/lang/Throwable;"⟩, 6), (⟨"FordToll", "refuse", "(II)V"⟩, 12), (⟨"FordToll", "found", "(I)LFordToll$Traveller;"⟩, 12), (⟨"FordToll", "setStopped", "(IZ)I"⟩, 12), (⟨"FordToll$Ford", "sendBack", "(LFordToll$Traveller;)V"⟩, 12), (⟨"FordToll$Ford", "sendOn", "(LFordToll$Traveller;)V"⟩, 12), (⟨"FordToll$Ford", "comeOver", "(LFordToll$Traveller;)V"⟩, 12), (⟨"FordToll$Ford", "wetOrDry", "(LFordToll$Traveller;)V"⟩, 12), (⟨"FordToll$Ford", "heat", "(I)V"⟩, 12), (⟨"FordToll$Ford", "wettestOn", "(II)I"⟩, 12), (⟨"FordToll$Question", "readQuestion", "(LFordToll$Ford;I)I"⟩, 4), (⟨"FordToll$Question", "readPart", "(LFordToll$Ford;I)I"⟩, 4), (⟨"FordToll$Question", "readOne", "(LFordToll$Ford;I)I"⟩, 4), (⟨"FordToll$Question", "isNext", "(C)Z"⟩, 4)]
theorem lw_r1 : ∀ q ∈ lw_privs_1, lw_okq q := List.forall_mem_cons.mpr ⟨lw_p0, List.forall_mem_cons.mpr ⟨lw_p1, List.forall_mem_cons.mpr ⟨lw_p2, List.forall_mem_cons.mpr ⟨lw_p3, List.forall_mem_cons.mpr ⟨lw_p4, List.forall_mem_cons.mpr ⟨lw_p5, List.forall_mem_cons.mpr ⟨lw_p6, List.forall_mem_cons.mpr ⟨lw_p7, List.forall_mem_cons.mpr ⟨lw_p8, List.forall_mem_cons.mpr ⟨lw_p9, List.forall_mem_cons.mpr ⟨lw_p10, List.forall_mem_cons.mpr ⟨lw_p11, List.forall_mem_cons.mpr ⟨lw_p12, List.forall_mem_cons.mpr ⟨lw_p13, List.forall_mem_cons.mpr ⟨lw_p14, List.forall_mem_cons.mpr ⟨lw_p15, fun _ h => absurd h List.not_mem_nil⟩⟩⟩⟩⟩⟩⟩⟩⟩⟩⟩⟩⟩⟩⟩⟩
theorem lw_p16 : lw_okq (⟨"FordToll$Question", "fail", "(I)V"⟩, 4) := ⟨⟨by decide +kernel, by decide +kernel⟩, List.mem_of_getElem? (i := 154) (by decide +kernel), List.mem_of_getElem? (i := 734) (by decide +kernel), List.mem_of_getElem? (i := 735) (by decide +kernel)⟩
theorem lw_p17 : lw_okq (⟨"FordToll$Question", "takes", "(C)Z"⟩, 4) := ⟨⟨by decide +kernel, by decide +kernel⟩, List.mem_of_getElem? (i := 154) (by decide +kernel), List.mem_of_getElem? (i := 738) (by decide +kernel), List.mem_of_getElem? (i := 739) (by decide +kernel)⟩
theorem lw_p18 : lw_okq (⟨"FordToll$Question", "readWord", "()LFordToll$Word;"⟩, 4) := ⟨⟨by decide +kernel, by decide +kernel⟩, List.mem_of_getElem? (i := 154) (by decide +kernel), List.mem_of_getElem? (i := 745) (by decide +kernel), List.mem_of_getElem? (i := 746) (by decide +kernel)⟩
theorem lw_p19 : lw_okq (⟨"FordToll$Question", "lettersAlike", "(Ljava/lang/String;)I"⟩, 4) := ⟨⟨by decide +kernel, by decide +kernel⟩, List.mem_of_getElem? (i := 154) (by decide +kernel), List.mem_of_getElem? (i := 751) (by decide +kernel), List.mem_of_getElem? (i := 752) (by decide +kernel)⟩
theorem lw_p20 : lw_okq (⟨"FordToll$Question", "readSign", "()C"⟩, 4) := ⟨⟨by decide +kernel, by decide +kernel⟩, List.mem_of_getElem? (i := 154) (by decide +kernel), List.mem_of_getElem? (i := 812) (by decide +kernel), List.mem_of_getElem? (i := 813) (by decide +kernel)⟩
theorem lw_p21 : lw_okq (⟨"FordToll$Question", "readNumber", "()I"⟩, 4) := ⟨⟨by decide +kernel, by decide +kernel⟩, List.mem_of_getElem? (i := 154) (by decide +kernel), List.mem_of_getElem? (i := 816) (by decide +kernel), List.mem_of_getElem? (i := 817) (by decide +kernel)⟩
theorem lw_p22 : lw_okq (⟨"FordToll$Question", "isDigitNext", "()Z"⟩, 4) := ⟨⟨by decide +kernel, by decide +kernel⟩, List.mem_of_getElem? (i := 154) (by decide +kernel), List.mem_of_getElem? (i := 820) (by decide +kernel), List.mem_of_getElem? (i := 821) (by decide +kernel)⟩
theorem lw_p23 : lw_okq (⟨"FordToll$Question", "readDigit", "()I"⟩, 4) := ⟨⟨by decide +kernel, by decide +kernel⟩, List.mem_of_getElem? (i := 154) (by decide +kernel), List.mem_of_getElem? (i := 824) (by decide +kernel), List.mem_of_getElem? (i := 825) (by decide +kernel)⟩
theorem lw_p24 : lw_okq (⟨"FordToll", "keepAnswer", "(I)V"⟩, 12) := ⟨⟨by decide +kernel, by decide +kernel⟩, List.mem_of_getElem? (i := 23) (by decide +kernel), List.mem_of_getElem? (i := 833) (by decide +kernel), List.mem_of_getElem? (i := 834) (by decide +kernel)⟩
theorem lw_p25 : lw_okq (⟨"FordTollModel", "tries", "()V"⟩, 22) := ⟨⟨by decide +kernel, by decide +kernel⟩, List.mem_of_getElem? (i := 937) (by decide +kernel), List.mem_of_getElem? (i := 1019) (by decide +kernel), List.mem_of_getElem? (i := 1020) (by decide +kernel)⟩
theorem lw_p26 : lw_okq (⟨"FordTollModel", "raises", "(I)I"⟩, 22) := ⟨⟨by decide +kernel, by decide +kernel⟩, List.mem_of_getElem? (i := 937) (by decide +kernel), List.mem_of_getElem? (i := 1029) (by decide +kernel), List.mem_of_getElem? (i := 1030) (by decide +kernel)⟩
theorem lw_p27 : lw_okq (⟨"FordTollModel", "lowestOn", "(I)I"⟩, 22) := ⟨⟨by decide +kernel, by decide +kernel⟩, List.mem_of_getElem? (i := 937) (by decide +kernel), List.mem_of_getElem? (i := 1033) (by decide +kernel), List.mem_of_getElem? (i := 1034) (by decide +kernel)⟩
theorem lw_p28 : lw_okq (⟨"FordTollModel", "of", "(II)I"⟩, 22) := ⟨⟨by decide +kernel, by decide +kernel⟩, List.mem_of_getElem? (i := 937) (by decide +kernel), List.mem_of_getElem? (i := 1037) (by decide +kernel), List.mem_of_getElem? (i := 1038) (by decide +kernel)⟩
theorem lw_p29 : lw_okq (⟨"FordTollModel", "refuses", "(III)I"⟩, 22) := ⟨⟨by decide +kernel, by decide +kernel⟩, List.mem_of_getElem? (i := 937) (by decide +kernel), List.mem_of_getElem? (i := 1041) (by decide +kernel), List.mem_of_getElem? (i := 1042) (by decide +kernel)⟩
theorem lw_p30 : lw_okq (⟨"FordTollModel", "keeps", "(I)I"⟩, 22) := ⟨⟨by decide +kernel, by decide +kernel⟩, List.mem_of_getElem? (i := 937) (by decide +kernel), List.mem_of_getElem? (i := 1045) (by decide +kernel), List.mem_of_getElem? (i := 1046) (by decide +kernel)⟩
theorem lw_p31 : lw_okq (⟨"FordTollModel", "state", "(I)I"⟩, 22) := ⟨⟨by decide +kernel, by decide +kernel⟩, List.mem_of_getElem? (i := 937) (by decide +kernel), List.mem_of_getElem? (i := 1061) (by decide +kernel), List.mem_of_getElem? (i := 1062) (by decide +kernel)⟩
def lw_privs_2 : List (MethodName × Nat) := [(⟨"FordToll$Question", "fail", "(I)V"⟩, 4), (⟨"FordToll$Question", "takes", "(C)Z"⟩, 4), (⟨"FordToll$Question", "readWord", "()LFordToll$Word;"⟩, 4), (⟨"FordToll$Question", "lettersAlike", "(Ljava/lang/String;)I"⟩, 4), (⟨"FordToll$Question", "readSign", "()C"⟩, 4), (⟨"FordToll$Question", "readNumber", "()I"⟩, 4), (⟨"FordToll$Question", "isDigitNext", "()Z"⟩, 4), (⟨"FordToll$Question", "readDigit", "()I"⟩, 4), (⟨"FordToll", "keepAnswer", "(I)V"⟩, 12), (⟨"FordTollModel", "tries", "()V"⟩, 22), (⟨"FordTollModel", "raises", "(I)I"⟩, 22), (⟨"FordTollModel", "lowestOn", "(I)I"⟩, 22), (⟨"FordTollModel", "of", "(II)I"⟩, 22), (⟨"FordTollModel", "refuses", "(III)I"⟩, 22), (⟨"FordTollModel", "keeps", "(I)I"⟩, 22), (⟨"FordTollModel", "state", "(I)I"⟩, 22)]
theorem lw_r2 : ∀ q ∈ lw_privs_2, lw_okq q := List.forall_mem_cons.mpr ⟨lw_p16, List.forall_mem_cons.mpr ⟨lw_p17, List.forall_mem_cons.mpr ⟨lw_p18, List.forall_mem_cons.mpr ⟨lw_p19, List.forall_mem_cons.mpr ⟨lw_p20, List.forall_mem_cons.mpr ⟨lw_p21, List.forall_mem_cons.mpr ⟨lw_p22, List.forall_mem_cons.mpr ⟨lw_p23, List.forall_mem_cons.mpr ⟨lw_p24, List.forall_mem_cons.mpr ⟨lw_p25, List.forall_mem_cons.mpr ⟨lw_p26, List.forall_mem_cons.mpr ⟨lw_p27, List.forall_mem_cons.mpr ⟨lw_p28, List.forall_mem_cons.mpr ⟨lw_p29, List.forall_mem_cons.mpr ⟨lw_p30, List.forall_mem_cons.mpr ⟨lw_p31, fun _ h => absurd h List.not_mem_nil⟩⟩⟩⟩⟩⟩⟩⟩⟩⟩⟩⟩⟩⟩⟩⟩
theorem lw_p32 : lw_okq (⟨"FordTollModel", "countAt", "(II)I"⟩, 22) := ⟨⟨by decide +kernel, by decide +kernel⟩, List.mem_of_getElem? (i := 937) (by decide +kernel), List.mem_of_getElem? (i := 1065) (by decide +kernel), List.mem_of_getElem? (i := 1066) (by decide +kernel)⟩
theorem lw_p33 : lw_okq (⟨"FordTollModel", "underNow", "()I"⟩, 22) := ⟨⟨by decide +kernel, by decide +kernel⟩, List.mem_of_getElem? (i := 937) (by decide +kernel), List.mem_of_getElem? (i := 1073) (by decide +kernel), List.mem_of_getElem? (i := 1074) (by decide +kernel)⟩
theorem lw_p34 : lw_okq (⟨"FordTollModel", "floodIn", "(I)I"⟩, 22) := ⟨⟨by decide +kernel, by decide +kernel⟩, List.mem_of_getElem? (i := 937) (by decide +kernel), List.mem_of_getElem? (i := 1081) (by decide +kernel), List.mem_of_getElem? (i := 1082) (by decide +kernel)⟩
theorem lw_p35 : lw_okq (⟨"FordTollModel", "next", "(I)I"⟩, 22) := ⟨⟨by decide +kernel, by decide +kernel⟩, List.mem_of_getElem? (i := 937) (by decide +kernel), List.mem_of_getElem? (i := 1085) (by decide +kernel), List.mem_of_getElem? (i := 1086) (by decide +kernel)⟩
theorem lw_p36 : lw_okq (⟨"FordTollModel", "sets", "(III)V"⟩, 22) := ⟨⟨by decide +kernel, by decide +kernel⟩, List.mem_of_getElem? (i := 937) (by decide +kernel), List.mem_of_getElem? (i := 1104) (by decide +kernel), List.mem_of_getElem? (i := 1105) (by decide +kernel)⟩
theorem lw_p37 : lw_okq (⟨"FordTollModel", "isTraveller", "(I)Z"⟩, 22) := ⟨⟨by decide +kernel, by decide +kernel⟩, List.mem_of_getElem? (i := 937) (by decide +kernel), List.mem_of_getElem? (i := 1112) (by decide +kernel), List.mem_of_getElem? (i := 1113) (by decide +kernel)⟩
theorem lw_p38 : lw_okq (⟨"FordTollModel", "kind", "(I)I"⟩, 22) := ⟨⟨by decide +kernel, by decide +kernel⟩, List.mem_of_getElem? (i := 937) (by decide +kernel), List.mem_of_getElem? (i := 1116) (by decide +kernel), List.mem_of_getElem? (i := 1117) (by decide +kernel)⟩
theorem lw_p39 : lw_okq (⟨"FordTollModel", "feeOf", "(I)I"⟩, 22) := ⟨⟨by decide +kernel, by decide +kernel⟩, List.mem_of_getElem? (i := 937) (by decide +kernel), List.mem_of_getElem? (i := 1124) (by decide +kernel), List.mem_of_getElem? (i := 1125) (by decide +kernel)⟩
theorem lw_p40 : lw_okq (⟨"FordTollModel", "halts", "(II)I"⟩, 22) := ⟨⟨by decide +kernel, by decide +kernel⟩, List.mem_of_getElem? (i := 937) (by decide +kernel), List.mem_of_getElem? (i := 1136) (by decide +kernel), List.mem_of_getElem? (i := 1137) (by decide +kernel)⟩
theorem lw_p41 : lw_okq (⟨"FordTollModel", "goes", "()I"⟩, 22) := ⟨⟨by decide +kernel, by decide +kernel⟩, List.mem_of_getElem? (i := 937) (by decide +kernel), List.mem_of_getElem? (i := 1152) (by decide +kernel), List.mem_of_getElem? (i := 1153) (by decide +kernel)⟩
theorem lw_p42 : lw_okq (⟨"FordTollModel", "goesBack", "(I)V"⟩, 22) := ⟨⟨by decide +kernel, by decide +kernel⟩, List.mem_of_getElem? (i := 937) (by decide +kernel), List.mem_of_getElem? (i := 1156) (by decide +kernel), List.mem_of_getElem? (i := 1157) (by decide +kernel)⟩
theorem lw_p43 : lw_okq (⟨"FordTollModel", "wets", "(II)V"⟩, 22) := ⟨⟨by decide +kernel, by decide +kernel⟩, List.mem_of_getElem? (i := 937) (by decide +kernel), List.mem_of_getElem? (i := 1160) (by decide +kernel), List.mem_of_getElem? (i := 1161) (by decide +kernel)⟩
theorem lw_p44 : lw_okq (⟨"FordTollModel", "comesToBank", "(II)V"⟩, 22) := ⟨⟨by decide +kernel, by decide +kernel⟩, List.mem_of_getElem? (i := 937) (by decide +kernel), List.mem_of_getElem? (i := 1164) (by decide +kernel), List.mem_of_getElem? (i := 1165) (by decide +kernel)⟩
theorem lw_p45 : lw_okq (⟨"FordTollModel", "steps", "(I)Z"⟩, 22) := ⟨⟨by decide +kernel, by decide +kernel⟩, List.mem_of_getElem? (i := 937) (by decide +kernel), List.mem_of_getElem? (i := 1168) (by decide +kernel), List.mem_of_getElem? (i := 1169) (by decide +kernel)⟩
theorem lw_p46 : lw_okq (⟨"FordTollModel", "can", "(III)Z"⟩, 22) := ⟨⟨by decide +kernel, by decide +kernel⟩, List.mem_of_getElem? (i := 937) (by decide +kernel), List.mem_of_getElem? (i := 1172) (by decide +kernel), List.mem_of_getElem? (i := 1173) (by decide +kernel)⟩
theorem lw_p47 : lw_okq (⟨"FordTollModel", "dries", "(I)V"⟩, 22) := ⟨⟨by decide +kernel, by decide +kernel⟩, List.mem_of_getElem? (i := 937) (by decide +kernel), List.mem_of_getElem? (i := 1176) (by decide +kernel), List.mem_of_getElem? (i := 1177) (by decide +kernel)⟩
def lw_privs_3 : List (MethodName × Nat) := [(⟨"FordTollModel", "countAt", "(II)I"⟩, 22), (⟨"FordTollModel", "underNow", "()I"⟩, 22), (⟨"FordTollModel", "floodIn", "(I)I"⟩, 22), (⟨"FordTollModel", "next", "(I)I"⟩, 22), (⟨"FordTollModel", "sets", "(III)V"⟩, 22), (⟨"FordTollModel", "isTraveller", "(I)Z"⟩, 22), (⟨"FordTollModel", "kind", "(I)I"⟩, 22), (⟨"FordTollModel", "feeOf", "(I)I"⟩, 22), (⟨"FordTollModel", "halts", "(II)I"⟩, 22), (⟨"FordTollModel", "goes", "()I"⟩, 22), (⟨"FordTollModel", "goesBack", "(I)V"⟩, 22), (⟨"FordTollModel", "wets", "(II)V"⟩, 22), (⟨"FordTollModel", "comesToBank", "(II)V"⟩, 22), (⟨"FordTollModel", "steps", "(I)Z"⟩, 22), (⟨"FordTollModel", "can", "(III)Z"⟩, 22), (⟨"FordTollModel", "dries", "(I)V"⟩, 22)]
theorem lw_r3 : ∀ q ∈ lw_privs_3, lw_okq q := List.forall_mem_cons.mpr ⟨lw_p32, List.forall_mem_cons.mpr ⟨lw_p33, List.forall_mem_cons.mpr ⟨lw_p34, List.forall_mem_cons.mpr ⟨lw_p35, List.forall_mem_cons.mpr ⟨lw_p36, List.forall_mem_cons.mpr ⟨lw_p37, List.forall_mem_cons.mpr ⟨lw_p38, List.forall_mem_cons.mpr ⟨lw_p39, List.forall_mem_cons.mpr ⟨lw_p40, List.forall_mem_cons.mpr ⟨lw_p41, List.forall_mem_cons.mpr ⟨lw_p42, List.forall_mem_cons.mpr ⟨lw_p43, List.forall_mem_cons.mpr ⟨lw_p44, List.forall_mem_cons.mpr ⟨lw_p45, List.forall_mem_cons.mpr ⟨lw_p46, List.forall_mem_cons.mpr ⟨lw_p47, fun _ h => absurd h List.not_mem_nil⟩⟩⟩⟩⟩⟩⟩⟩⟩⟩⟩⟩⟩⟩⟩⟩
theorem lw_p48 : lw_okq (⟨"FordTollModel", "thinks", "()V"⟩, 22) := ⟨⟨by decide +kernel, by decide +kernel⟩, List.mem_of_getElem? (i := 937) (by decide +kernel), List.mem_of_getElem? (i := 1184) (by decide +kernel), List.mem_of_getElem? (i := 1185) (by decide +kernel)⟩
theorem lw_p49 : lw_okq (⟨"FordTollModel", "thinksNoMore", "()V"⟩, 22) := ⟨⟨by decide +kernel, by decide +kernel⟩, List.mem_of_getElem? (i := 937) (by decide +kernel), List.mem_of_getElem? (i := 1188) (by decide +kernel), List.mem_of_getElem? (i := 1189) (by decide +kernel)⟩
theorem lw_p50 : lw_okq (⟨"FordTollModel", "awashFor", "(I)I"⟩, 22) := ⟨⟨by decide +kernel, by decide +kernel⟩, List.mem_of_getElem? (i := 937) (by decide +kernel), List.mem_of_getElem? (i := 1196) (by decide +kernel), List.mem_of_getElem? (i := 1197) (by decide +kernel)⟩
theorem lw_p51 : lw_okq (⟨"FordTollModel", "question", "()Z"⟩, 22) := ⟨⟨by decide +kernel, by decide +kernel⟩, List.mem_of_getElem? (i := 937) (by decide +kernel), List.mem_of_getElem? (i := 1212) (by decide +kernel), List.mem_of_getElem? (i := 1213) (by decide +kernel)⟩
theorem lw_p52 : lw_okq (⟨"FordTollModel", "part", "()Z"⟩, 22) := ⟨⟨by decide +kernel, by decide +kernel⟩, List.mem_of_getElem? (i := 937) (by decide +kernel), List.mem_of_getElem? (i := 1216) (by decide +kernel), List.mem_of_getElem? (i := 1217) (by decide +kernel)⟩
theorem lw_p53 : lw_okq (⟨"FordTollModel", "one", "()Z"⟩, 22) := ⟨⟨by decide +kernel, by decide +kernel⟩, List.mem_of_getElem? (i := 937) (by decide +kernel), List.mem_of_getElem? (i := 1220) (by decide +kernel), List.mem_of_getElem? (i := 1221) (by decide +kernel)⟩
theorem lw_p54 : lw_okq (⟨"FordTollModel", "isNext", "(C)Z"⟩, 22) := ⟨⟨by decide +kernel, by decide +kernel⟩, List.mem_of_getElem? (i := 937) (by decide +kernel), List.mem_of_getElem? (i := 1224) (by decide +kernel), List.mem_of_getElem? (i := 1225) (by decide +kernel)⟩
theorem lw_p55 : lw_okq (⟨"FordTollModel", "takes", "(C)Z"⟩, 22) := ⟨⟨by decide +kernel, by decide +kernel⟩, List.mem_of_getElem? (i := 937) (by decide +kernel), List.mem_of_getElem? (i := 1228) (by decide +kernel), List.mem_of_getElem? (i := 1229) (by decide +kernel)⟩
theorem lw_p56 : lw_okq (⟨"FordTollModel", "codes", "(I)Z"⟩, 22) := ⟨⟨by decide +kernel, by decide +kernel⟩, List.mem_of_getElem? (i := 937) (by decide +kernel), List.mem_of_getElem? (i := 1232) (by decide +kernel), List.mem_of_getElem? (i := 1233) (by decide +kernel)⟩
theorem lw_p57 : lw_okq (⟨"FordTollModel", "measure", "(Ljava/lang/String;I)Z"⟩, 22) := ⟨⟨by decide +kernel, by decide +kernel⟩, List.mem_of_getElem? (i := 937) (by decide +kernel), List.mem_of_getElem? (i := 1237) (by decide +kernel), List.mem_of_getElem? (i := 1238) (by decide +kernel)⟩
theorem lw_p58 : lw_okq (⟨"FordTollModel", "word", "(Ljava/lang/String;)Z"⟩, 22) := ⟨⟨by decide +kernel, by decide +kernel⟩, List.mem_of_getElem? (i := 937) (by decide +kernel), List.mem_of_getElem? (i := 1241) (by decide +kernel), List.mem_of_getElem? (i := 1242) (by decide +kernel)⟩
theorem lw_p59 : lw_okq (⟨"FordTollModel", "fulfils", "(I)Z"⟩, 22) := ⟨⟨by decide +kernel, by decide +kernel⟩, List.mem_of_getElem? (i := 937) (by decide +kernel), List.mem_of_getElem? (i := 1256) (by decide +kernel), List.mem_of_getElem? (i := 1257) (by decide +kernel)⟩
theorem lw_p60 : lw_okq (⟨"FordTollModel", "holds", "(II)Z"⟩, 22) := ⟨⟨by decide +kernel, by decide +kernel⟩, List.mem_of_getElem? (i := 937) (by decide +kernel), List.mem_of_getElem? (i := 1260) (by decide +kernel), List.mem_of_getElem? (i := 1261) (by decide +kernel)⟩
theorem lw_p61 : lw_okq (⟨"FordTollModel", "sum", "(I)I"⟩, 22) := ⟨⟨by decide +kernel, by decide +kernel⟩, List.mem_of_getElem? (i := 937) (by decide +kernel), List.mem_of_getElem? (i := 1289) (by decide +kernel), List.mem_of_getElem? (i := 1290) (by decide +kernel)⟩
def lw_privs_4 : List (MethodName × Nat) := [(⟨"FordTollModel", "thinks", "()V"⟩, 22), (⟨"FordTollModel", "thinksNoMore", "()V"⟩, 22), (⟨"FordTollModel", "awashFor", "(I)I"⟩, 22), (⟨"FordTollModel", "question", "()Z"⟩, 22), (⟨"FordTollModel", "part", "()Z"⟩, 22), (⟨"FordTollModel", "one", "()Z"⟩, 22), (⟨"FordTollModel", "isNext", "(C)Z"⟩, 22), (⟨"FordTollModel", "takes", "(C)Z"⟩, 22), (⟨"FordTollModel", "codes", "(I)Z"⟩, 22), (⟨"FordTollModel", "measure", "(Ljava/lang/String;I)Z"⟩, 22), (⟨"FordTollModel", "word", "(Ljava/lang/String;)Z"⟩, 22), (⟨"FordTollModel", "fulfils", "(I)Z"⟩, 22), (⟨"FordTollModel", "holds", "(II)Z"⟩, 22), (⟨"FordTollModel", "sum", "(I)I"⟩, 22)]
theorem lw_r4 : ∀ q ∈ lw_privs_4, lw_okq q := List.forall_mem_cons.mpr ⟨lw_p48, List.forall_mem_cons.mpr ⟨lw_p49, List.forall_mem_cons.mpr ⟨lw_p50, List.forall_mem_cons.mpr ⟨lw_p51, List.forall_mem_cons.mpr ⟨lw_p52, List.forall_mem_cons.mpr ⟨lw_p53, List.forall_mem_cons.mpr ⟨lw_p54, List.forall_mem_cons.mpr ⟨lw_p55, List.forall_mem_cons.mpr ⟨lw_p56, List.forall_mem_cons.mpr ⟨lw_p57, List.forall_mem_cons.mpr ⟨lw_p58, List.forall_mem_cons.mpr ⟨lw_p59, List.forall_mem_cons.mpr ⟨lw_p60, List.forall_mem_cons.mpr ⟨lw_p61, fun _ h => absurd h List.not_mem_nil⟩⟩⟩⟩⟩⟩⟩⟩⟩⟩⟩⟩⟩⟩
def lw_privs : List (MethodName × Nat) := lw_privs_1 ++ (lw_privs_2 ++ (lw_privs_3 ++ (lw_privs_4)))
def lw_tbl : List Cond := k2_sels lw_privs ++ tables_1
theorem lw_privs_ok : ∀ q ∈ lw_privs, lw_okq q := by
  show ∀ q ∈ lw_privs_1 ++ (lw_privs_2 ++ (lw_privs_3 ++ (lw_privs_4))), lw_okq q
  exact List.forall_mem_append.mpr ⟨lw_r1, List.forall_mem_append.mpr ⟨lw_r2, List.forall_mem_append.mpr ⟨lw_r3, lw_r4⟩⟩⟩
/-- the streams that the claim lets the run draw from -/
abbrev lw_cs : List Choice := [Jvm.Choice.named "NaN.bits"]
theorem lw_bits : nanBits ∈ lw_cs := by first | decide | exact List.mem_cons_self | simp [lw_cs, nanBits]
-- ===== end of PART A =====
/-! ===== BEGIN printed: names, fields, word lists, decode rows ===== -/
def RX0 : String := "FordToll$Ford"
def TX0 : u_T := fun k => match k with
  | 0 => ("FordToll$Ford", "heights", "[I", true)
  | 1 => ("FordToll$Ford", "travellers", "[LFordToll$Traveller;", true)
  | 2 => ("FordToll$Ford", "count", "I", false)
  | 3 => ("FordToll$Ford", "hour", "I", false)
  | 4 => ("FordToll$Ford", "level", "I", false)
  | 5 => ("FordToll$Ford", "rainfall", "I", false)
  | 6 => ("FordToll$Ford", "bag", "I", false)
  | 7 => ("FordToll$Ford", "lettersDelivered", "I", false)
  | 8 => ("FordToll$Ford", "lettersPut", "I", false)
  | 9 => ("FordToll$Ford", "chest", "I", false)
  | 10 => ("FordToll$Ford", "crossings", "I", false)
  | _ => ("FordToll$Ford", "retreats", "I", false)
def tyX0 : Nat → FieldType := fun k => match k with
  | 0 => .array .int
  | 1 => .array (.object "FordToll$Traveller")
  | 2 => .int
  | 3 => .int
  | 4 => .int
  | 5 => .int
  | 6 => .int
  | 7 => .int
  | 8 => .int
  | 9 => .int
  | 10 => .int
  | _ => .int
abbrev wsX00 : List Cond := u_ws RX0 TX0 12
theorem nmX0 : ∀ a, a < 12 → ∀ b, b < 12 → a ≠ b → (TX0 a).2.1 ≠ (TX0 b).2.1 := by decide +kernel
theorem tyX0_ok : ∀ k, k < 12 → parseFieldDescriptor (TX0 k).2.2.1 = some (tyX0 k) := by decide +kernel
abbrev cX0_init : ByteArray := prog_2_method_1_code
def yX0_init : MethodName := ⟨RX0, "<init>", "()V"⟩
abbrev cX0_copyFrom : ByteArray := prog_2_method_2_code
def yX0_copyFrom : MethodName := ⟨RX0, "copyFrom", "(LFordToll$Ford;)V"⟩
abbrev cX0_stateOf : ByteArray := prog_2_method_3_code
def yX0_stateOf : MethodName := ⟨RX0, "stateOf", "(II)I"⟩
abbrev cX0_lowestHeight : ByteArray := prog_2_method_4_code
def yX0_lowestHeight : MethodName := ⟨RX0, "lowestHeight", "()I"⟩
abbrev cX0_levelAfterHour : ByteArray := prog_2_method_5_code
def yX0_levelAfterHour : MethodName := ⟨RX0, "levelAfterHour", "(I)I"⟩
abbrev cX0_levelOnTheWayToRest : ByteArray := prog_2_method_6_code
def yX0_levelOnTheWayToRest : MethodName := ⟨RX0, "levelOnTheWayToRest", "(I)I"⟩
abbrev cX0_lowestOn : ByteArray := prog_2_method_7_code
def yX0_lowestOn : MethodName := ⟨RX0, "lowestOn", "(I)I"⟩
abbrev cX0_countOn : ByteArray := prog_2_method_8_code
def yX0_countOn : MethodName := ⟨RX0, "countOn", "(I)I"⟩
abbrev cX0_countIn : ByteArray := prog_2_method_9_code
def yX0_countIn : MethodName := ⟨RX0, "countIn", "(I)I"⟩
abbrev cX0_sumOf : ByteArray := prog_2_method_10_code
def yX0_sumOf : MethodName := ⟨RX0, "sumOf", "(I)I"⟩
abbrev cX0_welcome : ByteArray := prog_2_method_11_code
def yX0_welcome : MethodName := ⟨RX0, "welcome", "(I)I"⟩
abbrev cX0_takeAway : ByteArray := prog_2_method_12_code
def yX0_takeAway : MethodName := ⟨RX0, "takeAway", "(I)V"⟩
abbrev cX0_startCrossing : ByteArray := prog_2_method_13_code
def yX0_startCrossing : MethodName := ⟨RX0, "startCrossing", "(LFordToll$Traveller;)I"⟩
abbrev cX0_canGo : ByteArray := prog_2_method_14_code
def yX0_canGo : MethodName := ⟨RX0, "canGo", "(IIII)Z"⟩
abbrev cX0_placeAfterStep : ByteArray := prog_2_method_15_code
def yX0_placeAfterStep : MethodName := ⟨RX0, "placeAfterStep", "(IIZI)I"⟩
abbrev cX0_placeAfterGoingBack : ByteArray := prog_2_method_16_code
def yX0_placeAfterGoingBack : MethodName := ⟨RX0, "placeAfterGoingBack", "(IZI)I"⟩
abbrev cX0_wetStepsOf : ByteArray := prog_2_method_17_code
def yX0_wetStepsOf : MethodName := ⟨RX0, "wetStepsOf", "(I)I"⟩
abbrev cX0_hoursToCross : ByteArray := prog_2_method_18_code
def yX0_hoursToCross : MethodName := ⟨RX0, "hoursToCross", "(LFordToll$Traveller;)I"⟩
abbrev cX0_letHourGoBy : ByteArray := prog_2_method_19_code
def yX0_letHourGoBy : MethodName := ⟨RX0, "letHourGoBy", "()V"⟩
abbrev cX0_sendBack : ByteArray := prog_2_method_20_code
def yX0_sendBack : MethodName := ⟨RX0, "sendBack", "(LFordToll$Traveller;)V"⟩
abbrev cX0_sendOn : ByteArray := prog_2_method_21_code
def yX0_sendOn : MethodName := ⟨RX0, "sendOn", "(LFordToll$Traveller;)V"⟩
abbrev cX0_comeOver : ByteArray := prog_2_method_22_code
def yX0_comeOver : MethodName := ⟨RX0, "comeOver", "(LFordToll$Traveller;)V"⟩
abbrev cX0_wetOrDry : ByteArray := prog_2_method_23_code
def yX0_wetOrDry : MethodName := ⟨RX0, "wetOrDry", "(LFordToll$Traveller;)V"⟩
abbrev cX0_heat : ByteArray := prog_2_method_24_code
def yX0_heat : MethodName := ⟨RX0, "heat", "(I)V"⟩
abbrev cX0_wettestOn : ByteArray := prog_2_method_25_code
def yX0_wettestOn : MethodName := ⟨RX0, "wettestOn", "(II)I"⟩
def RX1 : String := "FordToll$History"
def TX1 : u_T := fun k => match k with
  | 0 => ("FordToll$History", "before", "[LFordToll$Ford;", true)
  | 1 => ("FordToll$History", "next", "I", false)
  | _ => ("FordToll$History", "count", "I", false)
def tyX1 : Nat → FieldType := fun k => match k with
  | 0 => .array (.object "FordToll$Ford")
  | 1 => .int
  | _ => .int
abbrev wsX10 : List Cond := u_ws RX1 TX1 3
theorem nmX1 : ∀ a, a < 3 → ∀ b, b < 3 → a ≠ b → (TX1 a).2.1 ≠ (TX1 b).2.1 := by decide +kernel
theorem tyX1_ok : ∀ k, k < 3 → parseFieldDescriptor (TX1 k).2.2.1 = some (tyX1 k) := by decide +kernel
abbrev cX1_init : ByteArray := prog_3_method_1_code
def yX1_init : MethodName := ⟨RX1, "<init>", "()V"⟩
abbrev cX1_keep : ByteArray := prog_3_method_2_code
def yX1_keep : MethodName := ⟨RX1, "keep", "(LFordToll$Ford;)V"⟩
abbrev cX1_takeBack : ByteArray := prog_3_method_3_code
def yX1_takeBack : MethodName := ⟨RX1, "takeBack", "(LFordToll$Ford;)V"⟩
abbrev cX1_forget : ByteArray := prog_3_method_4_code
def yX1_forget : MethodName := ⟨RX1, "forget", "()V"⟩
def RX2 : String := "FordToll$Question"
def TX2 : u_T := fun k => match k with
  | 0 => ("FordToll$Question", "text", "[C", true)
  | 1 => ("FordToll$Question", "length", "I", false)
  | 2 => ("FordToll$Question", "at", "I", false)
  | _ => ("FordToll$Question", "fault", "I", false)
def tyX2 : Nat → FieldType := fun k => match k with
  | 0 => .array .char
  | 1 => .int
  | 2 => .int
  | _ => .int
abbrev wsX20 : List Cond := u_ws RX2 TX2 4
theorem nmX2 : ∀ a, a < 4 → ∀ b, b < 4 → a ≠ b → (TX2 a).2.1 ≠ (TX2 b).2.1 := by decide +kernel
theorem tyX2_ok : ∀ k, k < 4 → parseFieldDescriptor (TX2 k).2.2.1 = some (tyX2 k) := by decide +kernel
abbrev cX2_init : ByteArray := prog_4_method_1_code
def yX2_init : MethodName := ⟨RX2, "<init>", "()V"⟩
abbrev cX2_isFull : ByteArray := prog_4_method_2_code
def yX2_isFull : MethodName := ⟨RX2, "isFull", "()Z"⟩
abbrev cX2_append : ByteArray := prog_4_method_3_code
def yX2_append : MethodName := ⟨RX2, "append", "(C)I"⟩
abbrev cX2_empty : ByteArray := prog_4_method_4_code
def yX2_empty : MethodName := ⟨RX2, "empty", "()V"⟩
abbrev cX2_readFor : ByteArray := prog_4_method_5_code
def yX2_readFor : MethodName := ⟨RX2, "readFor", "(LFordToll$Ford;)I"⟩
abbrev cX2_readQuestion : ByteArray := prog_4_method_6_code
def yX2_readQuestion : MethodName := ⟨RX2, "readQuestion", "(LFordToll$Ford;I)I"⟩
abbrev cX2_readPart : ByteArray := prog_4_method_7_code
def yX2_readPart : MethodName := ⟨RX2, "readPart", "(LFordToll$Ford;I)I"⟩
abbrev cX2_readOne : ByteArray := prog_4_method_8_code
def yX2_readOne : MethodName := ⟨RX2, "readOne", "(LFordToll$Ford;I)I"⟩
abbrev cX2_readWord : ByteArray := prog_4_method_9_code
def yX2_readWord : MethodName := ⟨RX2, "readWord", "()LFordToll$Word;"⟩
abbrev cX2_lettersAlike : ByteArray := prog_4_method_10_code
def yX2_lettersAlike : MethodName := ⟨RX2, "lettersAlike", "(Ljava/lang/String;)I"⟩
abbrev cX2_readSign : ByteArray := prog_4_method_11_code
def yX2_readSign : MethodName := ⟨RX2, "readSign", "()C"⟩
abbrev cX2_readNumber : ByteArray := prog_4_method_12_code
def yX2_readNumber : MethodName := ⟨RX2, "readNumber", "()I"⟩
abbrev cX2_isDigitNext : ByteArray := prog_4_method_13_code
def yX2_isDigitNext : MethodName := ⟨RX2, "isDigitNext", "()Z"⟩
abbrev cX2_readDigit : ByteArray := prog_4_method_14_code
def yX2_readDigit : MethodName := ⟨RX2, "readDigit", "()I"⟩
abbrev cX2_isNext : ByteArray := prog_4_method_15_code
def yX2_isNext : MethodName := ⟨RX2, "isNext", "(C)Z"⟩
abbrev cX2_takes : ByteArray := prog_4_method_16_code
def yX2_takes : MethodName := ⟨RX2, "takes", "(C)Z"⟩
abbrev cX2_fail : ByteArray := prog_4_method_17_code
def yX2_fail : MethodName := ⟨RX2, "fail", "(I)V"⟩
abbrev cX2_everyone : ByteArray := prog_4_method_18_code
def yX2_everyone : MethodName := ⟨RX2, "everyone", "(LFordToll$Ford;)I"⟩
abbrev cX2_thoseWith : ByteArray := prog_4_method_19_code
def yX2_thoseWith : MethodName := ⟨RX2, "thoseWith", "(LFordToll$Ford;ICI)I"⟩
abbrev cX2_isSo : ByteArray := prog_4_method_20_code
def yX2_isSo : MethodName := ⟨RX2, "isSo", "(ICI)Z"⟩
def RX3 : String := "FordToll$Traveller"
def TX3 : u_T := fun k => match k with
  | 0 => ("FordToll$Traveller", "load", "I", false)
  | 1 => ("FordToll$Traveller", "wet", "I", false)
  | 2 => ("FordToll$Traveller", "place", "I", false)
  | 3 => ("FordToll$Traveller", "out", "Z", false)
  | 4 => ("FordToll$Traveller", "toFar", "Z", false)
  | 5 => ("FordToll$Traveller", "stopped", "Z", false)
  | 6 => ("FordToll$Traveller", "crossed", "I", false)
  | _ => ("FordToll$Traveller", "mail", "I", false)
def tyX3 : Nat → FieldType := fun k => match k with
  | 0 => .int
  | 1 => .int
  | 2 => .int
  | 3 => .boolean
  | 4 => .boolean
  | 5 => .boolean
  | 6 => .int
  | _ => .int
abbrev wsX30 : List Cond := u_ws RX3 TX3 8
theorem nmX3 : ∀ a, a < 8 → ∀ b, b < 8 → a ≠ b → (TX3 a).2.1 ≠ (TX3 b).2.1 := by decide +kernel
theorem tyX3_ok : ∀ k, k < 8 → parseFieldDescriptor (TX3 k).2.2.1 = some (tyX3 k) := by decide +kernel
abbrev cX3_init : ByteArray := prog_5_method_1_code
def yX3_init : MethodName := ⟨RX3, "<init>", "()V"⟩
abbrev cX3_arrive : ByteArray := prog_5_method_2_code
def yX3_arrive : MethodName := ⟨RX3, "arrive", "(I)V"⟩
abbrev cX3_copyFrom : ByteArray := prog_5_method_3_code
def yX3_copyFrom : MethodName := ⟨RX3, "copyFrom", "(LFordToll$Traveller;)V"⟩
abbrev cX3_kind : ByteArray := prog_5_method_4_code
def yX3_kind : MethodName := ⟨RX3, "kind", "()I"⟩
abbrev cX3_toll : ByteArray := prog_5_method_5_code
def yX3_toll : MethodName := ⟨RX3, "toll", "()I"⟩
abbrev cX3_region : ByteArray := prog_5_method_6_code
def yX3_region : MethodName := ⟨RX3, "region", "()I"⟩
abbrev cX3_getWetter : ByteArray := prog_5_method_7_code
def yX3_getWetter : MethodName := ⟨RX3, "getWetter", "(I)V"⟩
abbrev cX3_getDrier : ByteArray := prog_5_method_8_code
def yX3_getDrier : MethodName := ⟨RX3, "getDrier", "(I)V"⟩
abbrev cX3_restOnBank : ByteArray := prog_5_method_9_code
def yX3_restOnBank : MethodName := ⟨RX3, "restOnBank", "()V"⟩
abbrev cX3_numberOf : ByteArray := prog_5_method_10_code
def yX3_numberOf : MethodName := ⟨RX3, "numberOf", "(I)I"⟩
def RX4 : String := "FordToll$Word"
def TX4 : u_T := fun k => match k with
  | _ => ("", "", "", false)
def tyX4 : Nat → FieldType := fun k => match k with
  | _ => .int
abbrev wsX40 : List Cond := u_ws RX4 TX4 0
theorem nmX4 : ∀ a, a < 0 → ∀ b, b < 0 → a ≠ b → (TX4 a).2.1 ≠ (TX4 b).2.1 := by decide +kernel
theorem tyX4_ok : ∀ k, k < 0 → parseFieldDescriptor (TX4 k).2.2.1 = some (tyX4 k) := by decide +kernel
def RX5 : String := "FordToll"
def TX5 : u_T := fun k => match k with
  | 0 => ("FordToll", "now", "LFordToll$Ford;", true)
  | 1 => ("FordToll", "history", "LFordToll$History;", true)
  | 2 => ("FordToll", "snapshot", "LFordToll$Ford;", true)
  | 3 => ("FordToll", "hasSnapshot", "Z", false)
  | 4 => ("FordToll", "question", "LFordToll$Question;", true)
  | 5 => ("FordToll", "errorAt", "I", false)
  | 6 => ("FordToll", "answered", "[I", true)
  | 7 => ("FordToll", "answeredCount", "I", false)
  | 8 => ("FordToll", "refusedReason", "I", false)
  | 9 => ("FordToll", "refusedDetail", "I", false)
  | 10 => ("FordToll", "line", "[C", true)
  | _ => ("FordToll", "lineLength", "I", false)
def tyX5 : Nat → FieldType := fun k => match k with
  | 0 => .object "FordToll$Ford"
  | 1 => .object "FordToll$History"
  | 2 => .object "FordToll$Ford"
  | 3 => .boolean
  | 4 => .object "FordToll$Question"
  | 5 => .int
  | 6 => .array .int
  | 7 => .int
  | 8 => .int
  | 9 => .int
  | 10 => .array .char
  | _ => .int
abbrev wsX50 : List Cond := u_ws RX5 TX5 12
theorem nmX5 : ∀ a, a < 12 → ∀ b, b < 12 → a ≠ b → (TX5 a).2.1 ≠ (TX5 b).2.1 := by decide +kernel
theorem tyX5_ok : ∀ k, k < 12 → parseFieldDescriptor (TX5 k).2.2.1 = some (tyX5 k) := by decide +kernel
abbrev cX5_init : ByteArray := prog_1_method_1_code
def yX5_init : MethodName := ⟨RX5, "<init>", "()V"⟩
abbrev cX5_height : ByteArray := prog_1_method_2_code
def yX5_height : MethodName := ⟨RX5, "height", "(II)I"⟩
abbrev cX5_rain : ByteArray := prog_1_method_3_code
def yX5_rain : MethodName := ⟨RX5, "rain", "(I)I"⟩
abbrev cX5_letters : ByteArray := prog_1_method_4_code
def yX5_letters : MethodName := ⟨RX5, "letters", "(I)I"⟩
abbrev cX5_stoneOf : ByteArray := prog_1_method_5_code
def yX5_stoneOf : MethodName := ⟨RX5, "stoneOf", "(II)I"⟩
abbrev cX5_under : ByteArray := prog_1_method_6_code
def yX5_under : MethodName := ⟨RX5, "under", "()I"⟩
abbrev cX5_flood : ByteArray := prog_1_method_7_code
def yX5_flood : MethodName := ⟨RX5, "flood", "(I)I"⟩
abbrev cX5_floodAgain : ByteArray := prog_1_method_8_code
def yX5_floodAgain : MethodName := ⟨RX5, "floodAgain", "(I)I"⟩
abbrev cX5_clearIn : ByteArray := prog_1_method_9_code
def yX5_clearIn : MethodName := ⟨RX5, "clearIn", "()I"⟩
abbrev cX5_traveller : ByteArray := prog_1_method_10_code
def yX5_traveller : MethodName := ⟨RX5, "traveller", "(I)I"⟩
abbrev cX5_travellerOf : ByteArray := prog_1_method_11_code
def yX5_travellerOf : MethodName := ⟨RX5, "travellerOf", "(II)I"⟩
abbrev cX5_fee : ByteArray := prog_1_method_12_code
def yX5_fee : MethodName := ⟨RX5, "fee", "(I)I"⟩
abbrev cX5_setOut : ByteArray := prog_1_method_13_code
def yX5_setOut : MethodName := ⟨RX5, "setOut", "(I)I"⟩
abbrev cX5_stop : ByteArray := prog_1_method_14_code
def yX5_stop : MethodName := ⟨RX5, "stop", "(I)I"⟩
abbrev cX5_go : ByteArray := prog_1_method_15_code
def yX5_go : MethodName := ⟨RX5, "go", "(I)I"⟩
abbrev cX5_leave : ByteArray := prog_1_method_16_code
def yX5_leave : MethodName := ⟨RX5, "leave", "(I)I"⟩
abbrev cX5_pass : ByteArray := prog_1_method_17_code
def yX5_pass : MethodName := ⟨RX5, "pass", "(I)I"⟩
abbrev cX5_crossedIn : ByteArray := prog_1_method_18_code
def yX5_crossedIn : MethodName := ⟨RX5, "crossedIn", "(I)I"⟩
abbrev cX5_wetSteps : ByteArray := prog_1_method_19_code
def yX5_wetSteps : MethodName := ⟨RX5, "wetSteps", "(I)I"⟩
abbrev cX5_kinds : ByteArray := prog_1_method_20_code
def yX5_kinds : MethodName := ⟨RX5, "kinds", "()I"⟩
abbrev cX5_type : ByteArray := prog_1_method_21_code
def yX5_type : MethodName := ⟨RX5, "type", "(C)I"⟩
abbrev cX5_ask : ByteArray := prog_1_method_22_code
def yX5_ask : MethodName := ⟨RX5, "ask", "()I"⟩
abbrev cX5_answer : ByteArray := prog_1_method_23_code
def yX5_answer : MethodName := ⟨RX5, "answer", "(I)I"⟩
abbrev cX5_errorPosition : ByteArray := prog_1_method_24_code
def yX5_errorPosition : MethodName := ⟨RX5, "errorPosition", "()I"⟩
abbrev cX5_refusal : ByteArray := prog_1_method_25_code
def yX5_refusal : MethodName := ⟨RX5, "refusal", "(Z)I"⟩
abbrev cX5_describe : ByteArray := prog_1_method_26_code
def yX5_describe : MethodName := ⟨RX5, "describe", "()I"⟩
abbrev cX5_written : ByteArray := prog_1_method_27_code
def yX5_written : MethodName := ⟨RX5, "written", "(I)C"⟩
abbrev cX5_account : ByteArray := prog_1_method_28_code
def yX5_account : MethodName := ⟨RX5, "account", "(I)I"⟩
abbrev cX5_lettersAgain : ByteArray := prog_1_method_29_code
def yX5_lettersAgain : MethodName := ⟨RX5, "lettersAgain", "()I"⟩
abbrev cX5_meanWet : ByteArray := prog_1_method_30_code
def yX5_meanWet : MethodName := ⟨RX5, "meanWet", "()D"⟩
abbrev cX5_crossingShare : ByteArray := prog_1_method_31_code
def yX5_crossingShare : MethodName := ⟨RX5, "crossingShare", "()F"⟩
abbrev cX5_undo : ByteArray := prog_1_method_32_code
def yX5_undo : MethodName := ⟨RX5, "undo", "()I"⟩
abbrev cX5_save : ByteArray := prog_1_method_33_code
def yX5_save : MethodName := ⟨RX5, "save", "()I"⟩
abbrev cX5_restore : ByteArray := prog_1_method_34_code
def yX5_restore : MethodName := ⟨RX5, "restore", "()I"⟩
abbrev cX5_checkStone : ByteArray := prog_1_method_35_code
def yX5_checkStone : MethodName := ⟨RX5, "checkStone", "(I)V"⟩
abbrev cX5_checkRange : ByteArray := prog_1_method_36_code
def yX5_checkRange : MethodName := ⟨RX5, "checkRange", "(III)V"⟩
abbrev cX5_found : ByteArray := prog_1_method_37_code
def yX5_found : MethodName := ⟨RX5, "found", "(I)LFordToll$Traveller;"⟩
abbrev cX5_refuse : ByteArray := prog_1_method_38_code
def yX5_refuse : MethodName := ⟨RX5, "refuse", "(II)V"⟩
abbrev cX5_setStopped : ByteArray := prog_1_method_39_code
def yX5_setStopped : MethodName := ⟨RX5, "setStopped", "(IZ)I"⟩
abbrev cX5_keepAnswer : ByteArray := prog_1_method_40_code
def yX5_keepAnswer : MethodName := ⟨RX5, "keepAnswer", "(I)V"⟩
abbrev cX5_signOf : ByteArray := prog_1_method_41_code
def yX5_signOf : MethodName := ⟨RX5, "signOf", "(I)C"⟩
abbrev cX5_writeDigit : ByteArray := prog_1_method_42_code
def yX5_writeDigit : MethodName := ⟨RX5, "writeDigit", "(I)V"⟩
abbrev cX5_isStone : ByteArray := prog_1_method_43_code
def yX5_isStone : MethodName := ⟨RX5, "isStone", "(I)Z"⟩
def RX6 : String := "FordTollModel"
def TX6 : u_T := fun k => match k with
  | 0 => ("FordTollModel", "now", "[I", true)
  | 1 => ("FordTollModel", "tried", "[I", true)
  | 2 => ("FordTollModel", "thought", "[I", true)
  | 3 => ("FordTollModel", "kept", "[I", true)
  | 4 => ("FordTollModel", "undos", "I", false)
  | 5 => ("FordTollModel", "saved", "[I", true)
  | 6 => ("FordTollModel", "isSaved", "Z", false)
  | 7 => ("FordTollModel", "line", "[C", true)
  | 8 => ("FordTollModel", "lined", "I", false)
  | 9 => ("FordTollModel", "text", "[C", true)
  | 10 => ("FordTollModel", "length", "I", false)
  | 11 => ("FordTollModel", "at", "I", false)
  | 12 => ("FordTollModel", "open", "I", false)
  | 13 => ("FordTollModel", "codes", "[I", true)
  | 14 => ("FordTollModel", "coded", "I", false)
  | 15 => ("FordTollModel", "stack", "[Z", true)
  | 16 => ("FordTollModel", "answers", "[I", true)
  | 17 => ("FordTollModel", "answered", "I", false)
  | 18 => ("FordTollModel", "fault", "I", false)
  | 19 => ("FordTollModel", "reason", "I", false)
  | 20 => ("FordTollModel", "detail", "I", false)
  | _ => ("FordTollModel", "thrown", "I", false)
def tyX6 : Nat → FieldType := fun k => match k with
  | 0 => .array .int
  | 1 => .array .int
  | 2 => .array .int
  | 3 => .array .int
  | 4 => .int
  | 5 => .array .int
  | 6 => .boolean
  | 7 => .array .char
  | 8 => .int
  | 9 => .array .char
  | 10 => .int
  | 11 => .int
  | 12 => .int
  | 13 => .array .int
  | 14 => .int
  | 15 => .array .boolean
  | 16 => .array .int
  | 17 => .int
  | 18 => .int
  | 19 => .int
  | 20 => .int
  | _ => .int
abbrev wsX60 : List Cond := u_ws RX6 TX6 22
theorem nmX6 : ∀ a, a < 22 → ∀ b, b < 22 → a ≠ b → (TX6 a).2.1 ≠ (TX6 b).2.1 := by decide +kernel
theorem tyX6_ok : ∀ k, k < 22 → parseFieldDescriptor (TX6 k).2.2.1 = some (tyX6 k) := by decide +kernel
abbrev cX6_init : ByteArray := prog_8_method_1_code
def yX6_init : MethodName := ⟨RX6, "<init>", "()V"⟩
abbrev cX6_thrown : ByteArray := prog_8_method_2_code
def yX6_thrown : MethodName := ⟨RX6, "thrown", "()I"⟩
abbrev cX6_raises : ByteArray := prog_8_method_3_code
def yX6_raises : MethodName := ⟨RX6, "raises", "(I)I"⟩
abbrev cX6_in : ByteArray := prog_8_method_4_code
def yX6_in : MethodName := ⟨RX6, "in", "(III)Z"⟩
abbrev cX6_tries : ByteArray := prog_8_method_5_code
def yX6_tries : MethodName := ⟨RX6, "tries", "()V"⟩
abbrev cX6_thinks : ByteArray := prog_8_method_6_code
def yX6_thinks : MethodName := ⟨RX6, "thinks", "()V"⟩
abbrev cX6_thinksNoMore : ByteArray := prog_8_method_7_code
def yX6_thinksNoMore : MethodName := ⟨RX6, "thinksNoMore", "()V"⟩
abbrev cX6_keeps : ByteArray := prog_8_method_8_code
def yX6_keeps : MethodName := ⟨RX6, "keeps", "(I)I"⟩
abbrev cX6_refuses : ByteArray := prog_8_method_9_code
def yX6_refuses : MethodName := ⟨RX6, "refuses", "(III)I"⟩
abbrev cX6_isStone : ByteArray := prog_8_method_10_code
def yX6_isStone : MethodName := ⟨RX6, "isStone", "(I)Z"⟩
abbrev cX6_isTraveller : ByteArray := prog_8_method_11_code
def yX6_isTraveller : MethodName := ⟨RX6, "isTraveller", "(I)Z"⟩
abbrev cX6_of : ByteArray := prog_8_method_12_code
def yX6_of : MethodName := ⟨RX6, "of", "(II)I"⟩
abbrev cX6_sets : ByteArray := prog_8_method_13_code
def yX6_sets : MethodName := ⟨RX6, "sets", "(III)V"⟩
abbrev cX6_wets : ByteArray := prog_8_method_14_code
def yX6_wets : MethodName := ⟨RX6, "wets", "(II)V"⟩
abbrev cX6_kind : ByteArray := prog_8_method_15_code
def yX6_kind : MethodName := ⟨RX6, "kind", "(I)I"⟩
abbrev cX6_state : ByteArray := prog_8_method_16_code
def yX6_state : MethodName := ⟨RX6, "state", "(I)I"⟩
abbrev cX6_lowestOn : ByteArray := prog_8_method_17_code
def yX6_lowestOn : MethodName := ⟨RX6, "lowestOn", "(I)I"⟩
abbrev cX6_countAt : ByteArray := prog_8_method_18_code
def yX6_countAt : MethodName := ⟨RX6, "countAt", "(II)I"⟩
abbrev cX6_sum : ByteArray := prog_8_method_19_code
def yX6_sum : MethodName := ⟨RX6, "sum", "(I)I"⟩
abbrev cX6_height : ByteArray := prog_8_method_20_code
def yX6_height : MethodName := ⟨RX6, "height", "(II)I"⟩
abbrev cX6_rain : ByteArray := prog_8_method_21_code
def yX6_rain : MethodName := ⟨RX6, "rain", "(I)I"⟩
abbrev cX6_letters : ByteArray := prog_8_method_22_code
def yX6_letters : MethodName := ⟨RX6, "letters", "(I)I"⟩
abbrev cX6_stoneOf : ByteArray := prog_8_method_23_code
def yX6_stoneOf : MethodName := ⟨RX6, "stoneOf", "(II)I"⟩
abbrev cX6_underNow : ByteArray := prog_8_method_24_code
def yX6_underNow : MethodName := ⟨RX6, "underNow", "()I"⟩
abbrev cX6_under : ByteArray := prog_8_method_25_code
def yX6_under : MethodName := ⟨RX6, "under", "()I"⟩
abbrev cX6_next : ByteArray := prog_8_method_26_code
def yX6_next : MethodName := ⟨RX6, "next", "(I)I"⟩
abbrev cX6_floodIn : ByteArray := prog_8_method_27_code
def yX6_floodIn : MethodName := ⟨RX6, "floodIn", "(I)I"⟩
abbrev cX6_flood : ByteArray := prog_8_method_28_code
def yX6_flood : MethodName := ⟨RX6, "flood", "(I)I"⟩
abbrev cX6_floodAgain : ByteArray := prog_8_method_29_code
def yX6_floodAgain : MethodName := ⟨RX6, "floodAgain", "(I)I"⟩
abbrev cX6_clearIn : ByteArray := prog_8_method_30_code
def yX6_clearIn : MethodName := ⟨RX6, "clearIn", "()I"⟩
abbrev cX6_traveller : ByteArray := prog_8_method_31_code
def yX6_traveller : MethodName := ⟨RX6, "traveller", "(I)I"⟩
abbrev cX6_travellerOf : ByteArray := prog_8_method_32_code
def yX6_travellerOf : MethodName := ⟨RX6, "travellerOf", "(II)I"⟩
abbrev cX6_feeOf : ByteArray := prog_8_method_33_code
def yX6_feeOf : MethodName := ⟨RX6, "feeOf", "(I)I"⟩
abbrev cX6_fee : ByteArray := prog_8_method_34_code
def yX6_fee : MethodName := ⟨RX6, "fee", "(I)I"⟩
abbrev cX6_setOut : ByteArray := prog_8_method_35_code
def yX6_setOut : MethodName := ⟨RX6, "setOut", "(I)I"⟩
abbrev cX6_halts : ByteArray := prog_8_method_36_code
def yX6_halts : MethodName := ⟨RX6, "halts", "(II)I"⟩
abbrev cX6_stop : ByteArray := prog_8_method_37_code
def yX6_stop : MethodName := ⟨RX6, "stop", "(I)I"⟩
abbrev cX6_go : ByteArray := prog_8_method_38_code
def yX6_go : MethodName := ⟨RX6, "go", "(I)I"⟩
abbrev cX6_leave : ByteArray := prog_8_method_39_code
def yX6_leave : MethodName := ⟨RX6, "leave", "(I)I"⟩
abbrev cX6_comesToBank : ByteArray := prog_8_method_40_code
def yX6_comesToBank : MethodName := ⟨RX6, "comesToBank", "(II)V"⟩
abbrev cX6_goesBack : ByteArray := prog_8_method_41_code
def yX6_goesBack : MethodName := ⟨RX6, "goesBack", "(I)V"⟩
abbrev cX6_can : ByteArray := prog_8_method_42_code
def yX6_can : MethodName := ⟨RX6, "can", "(III)Z"⟩
abbrev cX6_steps : ByteArray := prog_8_method_43_code
def yX6_steps : MethodName := ⟨RX6, "steps", "(I)Z"⟩
abbrev cX6_dries : ByteArray := prog_8_method_44_code
def yX6_dries : MethodName := ⟨RX6, "dries", "(I)V"⟩
abbrev cX6_goes : ByteArray := prog_8_method_45_code
def yX6_goes : MethodName := ⟨RX6, "goes", "()I"⟩
abbrev cX6_pass : ByteArray := prog_8_method_46_code
def yX6_pass : MethodName := ⟨RX6, "pass", "(I)I"⟩
abbrev cX6_crossedIn : ByteArray := prog_8_method_47_code
def yX6_crossedIn : MethodName := ⟨RX6, "crossedIn", "(I)I"⟩
abbrev cX6_awashFor : ByteArray := prog_8_method_48_code
def yX6_awashFor : MethodName := ⟨RX6, "awashFor", "(I)I"⟩
abbrev cX6_wetSteps : ByteArray := prog_8_method_49_code
def yX6_wetSteps : MethodName := ⟨RX6, "wetSteps", "(I)I"⟩
abbrev cX6_kinds : ByteArray := prog_8_method_50_code
def yX6_kinds : MethodName := ⟨RX6, "kinds", "()I"⟩
abbrev cX6_type : ByteArray := prog_8_method_51_code
def yX6_type : MethodName := ⟨RX6, "type", "(C)I"⟩
abbrev cX6_isNext : ByteArray := prog_8_method_52_code
def yX6_isNext : MethodName := ⟨RX6, "isNext", "(C)Z"⟩
abbrev cX6_takes : ByteArray := prog_8_method_53_code
def yX6_takes : MethodName := ⟨RX6, "takes", "(C)Z"⟩
abbrev cX6_word : ByteArray := prog_8_method_54_code
def yX6_word : MethodName := ⟨RX6, "word", "(Ljava/lang/String;)Z"⟩
abbrev cX6_codes : ByteArray := prog_8_method_55_code
def yX6_codes : MethodName := ⟨RX6, "codes", "(I)Z"⟩
abbrev cX6_measure : ByteArray := prog_8_method_56_code
def yX6_measure : MethodName := ⟨RX6, "measure", "(Ljava/lang/String;I)Z"⟩
abbrev cX6_one : ByteArray := prog_8_method_57_code
def yX6_one : MethodName := ⟨RX6, "one", "()Z"⟩
abbrev cX6_part : ByteArray := prog_8_method_58_code
def yX6_part : MethodName := ⟨RX6, "part", "()Z"⟩
abbrev cX6_question : ByteArray := prog_8_method_59_code
def yX6_question : MethodName := ⟨RX6, "question", "()Z"⟩
abbrev cX6_holds : ByteArray := prog_8_method_60_code
def yX6_holds : MethodName := ⟨RX6, "holds", "(II)Z"⟩
abbrev cX6_fulfils : ByteArray := prog_8_method_61_code
def yX6_fulfils : MethodName := ⟨RX6, "fulfils", "(I)Z"⟩
abbrev cX6_ask : ByteArray := prog_8_method_62_code
def yX6_ask : MethodName := ⟨RX6, "ask", "()I"⟩
abbrev cX6_answer : ByteArray := prog_8_method_63_code
def yX6_answer : MethodName := ⟨RX6, "answer", "(I)I"⟩
abbrev cX6_errorPosition : ByteArray := prog_8_method_64_code
def yX6_errorPosition : MethodName := ⟨RX6, "errorPosition", "()I"⟩
abbrev cX6_refusal : ByteArray := prog_8_method_65_code
def yX6_refusal : MethodName := ⟨RX6, "refusal", "(Z)I"⟩
abbrev cX6_describe : ByteArray := prog_8_method_66_code
def yX6_describe : MethodName := ⟨RX6, "describe", "()I"⟩
abbrev cX6_written : ByteArray := prog_8_method_67_code
def yX6_written : MethodName := ⟨RX6, "written", "(I)C"⟩
abbrev cX6_account : ByteArray := prog_8_method_68_code
def yX6_account : MethodName := ⟨RX6, "account", "(I)I"⟩
abbrev cX6_lettersAgain : ByteArray := prog_8_method_69_code
def yX6_lettersAgain : MethodName := ⟨RX6, "lettersAgain", "()I"⟩
abbrev cX6_meanWet : ByteArray := prog_8_method_70_code
def yX6_meanWet : MethodName := ⟨RX6, "meanWet", "()D"⟩
abbrev cX6_crossingShare : ByteArray := prog_8_method_71_code
def yX6_crossingShare : MethodName := ⟨RX6, "crossingShare", "()F"⟩
abbrev cX6_undo : ByteArray := prog_8_method_72_code
def yX6_undo : MethodName := ⟨RX6, "undo", "()I"⟩
abbrev cX6_save : ByteArray := prog_8_method_73_code
def yX6_save : MethodName := ⟨RX6, "save", "()I"⟩
abbrev cX6_restore : ByteArray := prog_8_method_74_code
def yX6_restore : MethodName := ⟨RX6, "restore", "()I"⟩
def RJx145de : String := "java/io/Serializable"
def TJx145de : u_T := fun k => match k with
  | _ => ("", "", "", false)
def tyJx145de : Nat → FieldType := fun k => match k with
  | _ => .int
abbrev wsJx145de0 : List Cond := u_ws RJx145de TJx145de 0
theorem nmJx145de : ∀ a, a < 0 → ∀ b, b < 0 → a ≠ b → (TJx145de a).2.1 ≠ (TJx145de b).2.1 := by decide +kernel
theorem tyJx145de_ok : ∀ k, k < 0 → parseFieldDescriptor (TJx145de k).2.2.1 = some (tyJx145de k) := by decide +kernel
def RJx00060 : String := "java/lang/ArrayIndexOutOfBoundsException"
def TJx00060 : u_T := fun k => match k with
  | 0 => ("java/lang/Throwable", "backtrace", "Ljava/lang/Object;", false)
  | 1 => ("java/lang/Throwable", "detailMessage", "Ljava/lang/String;", false)
  | 2 => ("java/lang/Throwable", "cause", "Ljava/lang/Throwable;", false)
  | 3 => ("java/lang/Throwable", "stackTrace", "[Ljava/lang/StackTraceElement;", false)
  | 4 => ("java/lang/Throwable", "depth", "I", false)
  | _ => ("java/lang/Throwable", "suppressedExceptions", "Ljava/util/List;", false)
def tyJx00060 : Nat → FieldType := fun k => match k with
  | 0 => .object "java/lang/Object"
  | 1 => .object "java/lang/String"
  | 2 => .object "java/lang/Throwable"
  | 3 => .array (.object "java/lang/StackTraceElement")
  | 4 => .int
  | _ => .object "java/util/List"
abbrev wsJx000600 : List Cond := u_ws RJx00060 TJx00060 6
theorem nmJx00060 : ∀ a, a < 6 → ∀ b, b < 6 → a ≠ b → (TJx00060 a).2.1 ≠ (TJx00060 b).2.1 := by decide +kernel
theorem tyJx00060_ok : ∀ k, k < 6 → parseFieldDescriptor (TJx00060 k).2.2.1 = some (tyJx00060 k) := by decide +kernel
abbrev cJx00060_init_a7421 : ByteArray := prog_11_method_2_code
def yJx00060_init_a7421 : MethodName := ⟨RJx00060, "<init>", "(Ljava/lang/String;)V"⟩
def RJx9f9b0 : String := "java/lang/CharSequence"
def TJx9f9b0 : u_T := fun k => match k with
  | _ => ("", "", "", false)
def tyJx9f9b0 : Nat → FieldType := fun k => match k with
  | _ => .int
abbrev wsJx9f9b00 : List Cond := u_ws RJx9f9b0 TJx9f9b0 0
theorem nmJx9f9b0 : ∀ a, a < 0 → ∀ b, b < 0 → a ≠ b → (TJx9f9b0 a).2.1 ≠ (TJx9f9b0 b).2.1 := by decide +kernel
theorem tyJx9f9b0_ok : ∀ k, k < 0 → parseFieldDescriptor (TJx9f9b0 k).2.2.1 = some (tyJx9f9b0 k) := by decide +kernel
def RJxb160c : String := "java/lang/Comparable"
def TJxb160c : u_T := fun k => match k with
  | _ => ("", "", "", false)
def tyJxb160c : Nat → FieldType := fun k => match k with
  | _ => .int
abbrev wsJxb160c0 : List Cond := u_ws RJxb160c TJxb160c 0
theorem nmJxb160c : ∀ a, a < 0 → ∀ b, b < 0 → a ≠ b → (TJxb160c a).2.1 ≠ (TJxb160c b).2.1 := by decide +kernel
theorem tyJxb160c_ok : ∀ k, k < 0 → parseFieldDescriptor (TJxb160c k).2.2.1 = some (tyJxb160c k) := by decide +kernel
def RJx29ce0 : String := "java/lang/Enum"
def TJx29ce0 : u_T := fun k => match k with
  | _ => ("", "", "", false)
def tyJx29ce0 : Nat → FieldType := fun k => match k with
  | _ => .int
abbrev wsJx29ce00 : List Cond := u_ws RJx29ce0 TJx29ce0 0
theorem nmJx29ce0 : ∀ a, a < 0 → ∀ b, b < 0 → a ≠ b → (TJx29ce0 a).2.1 ≠ (TJx29ce0 b).2.1 := by decide +kernel
theorem tyJx29ce0_ok : ∀ k, k < 0 → parseFieldDescriptor (TJx29ce0 k).2.2.1 = some (tyJx29ce0 k) := by decide +kernel
def RJ9 : String := "java/lang/Math"
def TJ9 : u_T := fun k => match k with
  | _ => ("", "", "", false)
def tyJ9 : Nat → FieldType := fun k => match k with
  | _ => .int
abbrev wsJ90 : List Cond := u_ws RJ9 TJ9 0
theorem nmJ9 : ∀ a, a < 0 → ∀ b, b < 0 → a ≠ b → (TJ9 a).2.1 ≠ (TJ9 b).2.1 := by decide +kernel
theorem tyJ9_ok : ∀ k, k < 0 → parseFieldDescriptor (TJ9 k).2.2.1 = some (tyJ9 k) := by decide +kernel
abbrev cJ9_max_7cf53 : ByteArray := prog_19_method_65_code
def yJ9_max_7cf53 : MethodName := ⟨RJ9, "max", "(II)I"⟩
abbrev cJ9_min_7cf53 : ByteArray := prog_19_method_69_code
def yJ9_min_7cf53 : MethodName := ⟨RJ9, "min", "(II)I"⟩
def RJ0 : String := "java/lang/String"
def TJ0 : u_T := fun k => match k with
  | 0 => ("java/lang/String", "value", "[B", true)
  | _ => ("java/lang/String", "coder", "B", true)
def tyJ0 : Nat → FieldType := fun k => match k with
  | 0 => .array .byte
  | _ => .byte
abbrev wsJ00 : List Cond := u_ws RJ0 TJ0 2
theorem nmJ0 : ∀ a, a < 2 → ∀ b, b < 2 → a ≠ b → (TJ0 a).2.1 ≠ (TJ0 b).2.1 := by decide +kernel
theorem tyJ0_ok : ∀ k, k < 2 → parseFieldDescriptor (TJ0 k).2.2.1 = some (tyJ0 k) := by decide +kernel
abbrev cJ0_length_8abf5 : ByteArray := prog_21_method_54_code
def yJ0_length_8abf5 : MethodName := ⟨RJ0, "length", "()I"⟩
abbrev cJ0_charAt_5068e : ByteArray := prog_21_method_56_code
def yJ0_charAt_5068e : MethodName := ⟨RJ0, "charAt", "(I)C"⟩
abbrev cJ0_coder_7d493 : ByteArray := prog_21_method_152_code
def yJ0_coder_7d493 : MethodName := ⟨RJ0, "coder", "()B"⟩
abbrev cJ0_isLatin1_aae02 : ByteArray := prog_21_method_154_code
def yJ0_isLatin1_aae02 : MethodName := ⟨RJ0, "isLatin1", "()Z"⟩
abbrev cJ0_checkIndex_df160 : ByteArray := prog_21_method_155_code
def yJ0_checkIndex_df160 : MethodName := ⟨RJ0, "checkIndex", "(II)V"⟩
def RJ1 : String := "java/lang/StringLatin1"
def TJ1 : u_T := fun k => match k with
  | _ => ("", "", "", false)
def tyJ1 : Nat → FieldType := fun k => match k with
  | _ => .int
abbrev wsJ10 : List Cond := u_ws RJ1 TJ1 0
theorem nmJ1 : ∀ a, a < 0 → ∀ b, b < 0 → a ≠ b → (TJ1 a).2.1 ≠ (TJ1 b).2.1 := by decide +kernel
theorem tyJ1_ok : ∀ k, k < 0 → parseFieldDescriptor (TJ1 k).2.2.1 = some (tyJ1 k) := by decide +kernel
abbrev cJ1_charAt_3b067 : ByteArray := prog_22_method_2_code
def yJ1_charAt_3b067 : MethodName := ⟨RJ1, "charAt", "([BI)C"⟩
def RJ2 : String := "java/lang/StringUTF16"
def TJ2 : u_T := fun k => match k with
  | _ => ("", "", "", false)
def tyJ2 : Nat → FieldType := fun k => match k with
  | _ => .int
abbrev wsJ20 : List Cond := u_ws RJ2 TJ2 0
theorem nmJ2 : ∀ a, a < 0 → ∀ b, b < 0 → a ≠ b → (TJ2 a).2.1 ≠ (TJ2 b).2.1 := by decide +kernel
theorem tyJ2_ok : ∀ k, k < 0 → parseFieldDescriptor (TJ2 k).2.2.1 = some (tyJ2 k) := by decide +kernel
abbrev cJ2_getChar_3b067 : ByteArray := prog_23_method_5_code
def yJ2_getChar_3b067 : MethodName := ⟨RJ2, "getChar", "([BI)C"⟩
abbrev cJ2_length_9d52b : ByteArray := prog_23_method_6_code
def yJ2_length_9d52b : MethodName := ⟨RJ2, "length", "([B)I"⟩
abbrev cJ2_charAt_3b067 : ByteArray := prog_23_method_83_code
def yJ2_charAt_3b067 : MethodName := ⟨RJ2, "charAt", "([BI)C"⟩
abbrev cJ2_checkIndex_2214a : ByteArray := prog_23_method_91_code
def yJ2_checkIndex_2214a : MethodName := ⟨RJ2, "checkIndex", "(I[B)V"⟩
def RJxfd54e : String := "java/lang/constant/Constable"
def TJxfd54e : u_T := fun k => match k with
  | _ => ("", "", "", false)
def tyJxfd54e : Nat → FieldType := fun k => match k with
  | _ => .int
abbrev wsJxfd54e0 : List Cond := u_ws RJxfd54e TJxfd54e 0
theorem nmJxfd54e : ∀ a, a < 0 → ∀ b, b < 0 → a ≠ b → (TJxfd54e a).2.1 ≠ (TJxfd54e b).2.1 := by decide +kernel
theorem tyJxfd54e_ok : ∀ k, k < 0 → parseFieldDescriptor (TJxfd54e k).2.2.1 = some (tyJxfd54e k) := by decide +kernel
def RJx3cf43 : String := "java/lang/constant/ConstantDesc"
def TJx3cf43 : u_T := fun k => match k with
  | _ => ("", "", "", false)
def tyJx3cf43 : Nat → FieldType := fun k => match k with
  | _ => .int
abbrev wsJx3cf430 : List Cond := u_ws RJx3cf43 TJx3cf43 0
theorem nmJx3cf43 : ∀ a, a < 0 → ∀ b, b < 0 → a ≠ b → (TJx3cf43 a).2.1 ≠ (TJx3cf43 b).2.1 := by decide +kernel
theorem tyJx3cf43_ok : ∀ k, k < 0 → parseFieldDescriptor (TJx3cf43 k).2.2.1 = some (tyJx3cf43 k) := by decide +kernel
def RJ3 : String := "jdk/internal/util/Preconditions"
def TJ3 : u_T := fun k => match k with
  | _ => ("", "", "", false)
def tyJ3 : Nat → FieldType := fun k => match k with
  | _ => .int
abbrev wsJ30 : List Cond := u_ws RJ3 TJ3 0
theorem nmJ3 : ∀ a, a < 0 → ∀ b, b < 0 → a ≠ b → (TJ3 a).2.1 ≠ (TJ3 b).2.1 := by decide +kernel
theorem tyJ3_ok : ∀ k, k < 0 → parseFieldDescriptor (TJ3 k).2.2.1 = some (tyJ3 k) := by decide +kernel
abbrev cJ3_checkIndex_8e157 : ByteArray := prog_29_method_11_code
def yJ3_checkIndex_8e157 : MethodName := ⟨RJ3, "checkIndex", "(IILjava/util/function/BiFunction;)I"⟩
def RL : String := "FordTollLaw"
abbrev cL_height : ByteArray := method_3_code
def yL_height : MethodName := ⟨RL, "height", "(LFordToll;II[J)I"⟩
abbrev cL_rain : ByteArray := method_4_code
def yL_rain : MethodName := ⟨RL, "rain", "(LFordToll;I[J)I"⟩
abbrev cL_letters : ByteArray := method_5_code
def yL_letters : MethodName := ⟨RL, "letters", "(LFordToll;I[J)I"⟩
abbrev cL_stoneOf : ByteArray := method_6_code
def yL_stoneOf : MethodName := ⟨RL, "stoneOf", "(LFordToll;II[J)I"⟩
abbrev cL_flood : ByteArray := method_7_code
def yL_flood : MethodName := ⟨RL, "flood", "(LFordToll;I[J)I"⟩
abbrev cL_floodAgain : ByteArray := method_8_code
def yL_floodAgain : MethodName := ⟨RL, "floodAgain", "(LFordToll;I[J)I"⟩
abbrev cL_clearIn : ByteArray := method_9_code
def yL_clearIn : MethodName := ⟨RL, "clearIn", "(LFordToll;[J)I"⟩
abbrev cL_traveller : ByteArray := method_10_code
def yL_traveller : MethodName := ⟨RL, "traveller", "(LFordToll;I[J)I"⟩
abbrev cL_travellerOf : ByteArray := method_11_code
def yL_travellerOf : MethodName := ⟨RL, "travellerOf", "(LFordToll;II[J)I"⟩
abbrev cL_fee : ByteArray := method_12_code
def yL_fee : MethodName := ⟨RL, "fee", "(LFordToll;I[J)I"⟩
abbrev cL_setOut : ByteArray := method_13_code
def yL_setOut : MethodName := ⟨RL, "setOut", "(LFordToll;I[J)I"⟩
abbrev cL_stop : ByteArray := method_14_code
def yL_stop : MethodName := ⟨RL, "stop", "(LFordToll;I[J)I"⟩
abbrev cL_go : ByteArray := method_15_code
def yL_go : MethodName := ⟨RL, "go", "(LFordToll;I[J)I"⟩
abbrev cL_leave : ByteArray := method_16_code
def yL_leave : MethodName := ⟨RL, "leave", "(LFordToll;I[J)I"⟩
abbrev cL_pass : ByteArray := method_17_code
def yL_pass : MethodName := ⟨RL, "pass", "(LFordToll;I[J)I"⟩
abbrev cL_crossedIn : ByteArray := method_18_code
def yL_crossedIn : MethodName := ⟨RL, "crossedIn", "(LFordToll;I[J)I"⟩
abbrev cL_wetSteps : ByteArray := method_19_code
def yL_wetSteps : MethodName := ⟨RL, "wetSteps", "(LFordToll;I[J)I"⟩
abbrev cL_type : ByteArray := method_20_code
def yL_type : MethodName := ⟨RL, "type", "(LFordToll;C[J)I"⟩
abbrev cL_ask : ByteArray := method_21_code
def yL_ask : MethodName := ⟨RL, "ask", "(LFordToll;[J)I"⟩
abbrev cL_answer : ByteArray := method_22_code
def yL_answer : MethodName := ⟨RL, "answer", "(LFordToll;I[J)I"⟩
abbrev cL_errorPosition : ByteArray := method_23_code
def yL_errorPosition : MethodName := ⟨RL, "errorPosition", "(LFordToll;[J)I"⟩
abbrev cL_refusal : ByteArray := method_24_code
def yL_refusal : MethodName := ⟨RL, "refusal", "(LFordToll;Z[J)I"⟩
abbrev cL_written : ByteArray := method_25_code
def yL_written : MethodName := ⟨RL, "written", "(LFordToll;I[J)I"⟩
abbrev cL_account : ByteArray := method_26_code
def yL_account : MethodName := ⟨RL, "account", "(LFordToll;I[J)I"⟩
abbrev cL_meanWet : ByteArray := method_27_code
def yL_meanWet : MethodName := ⟨RL, "meanWet", "(LFordToll;[D)I"⟩
abbrev cL_crossingShare : ByteArray := method_28_code
def yL_crossingShare : MethodName := ⟨RL, "crossingShare", "(LFordToll;[D)I"⟩
abbrev cL_undo : ByteArray := method_29_code
def yL_undo : MethodName := ⟨RL, "undo", "(LFordToll;[J)I"⟩
abbrev cL_restore : ByteArray := method_30_code
def yL_restore : MethodName := ⟨RL, "restore", "(LFordToll;[J)I"⟩
abbrev cL_law : ByteArray := code
def yL_law : MethodName := ⟨RL, "law", "([I)Z"⟩
