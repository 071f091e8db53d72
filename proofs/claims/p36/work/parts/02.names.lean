-- ===== PART A: goes FIRST, ahead of the names: the tables' words, and 'selects' of the private methods out of them =====
/-- a private method of a class that the tables say can be made, by its rows of tables_1 -/
def lw_okq (q : MethodName × Nat) : Prop := (q.1.cls ≠ "java/lang/invoke/MethodHandle" ∧ q.1.cls ≠ "java/lang/invoke/VarHandle") ∧ Cond.instantiable q.1.cls q.2 ∈ tables_1 ∧ Cond.privateMethod q.1 ∈ tables_1 ∧ Cond.instanceMethod q.1 ∈ tables_1
theorem lw_p0 : lw_okq (⟨"java/lang/Throwable", "fillInStackTrace", "(I)Ljava/lang/Throwable;"⟩, 6) := ⟨⟨by decide +kernel, by decide +kernel⟩, List.mem_of_getElem? (i := 294) (by decide +kernel), List.mem_of_getElem? (i := 292) (by decide +kernel), List.mem_of_getElem? (i := 293) (by decide +kernel)⟩
theorem lw_p1 : lw_okq (⟨"FordToll", "refuse", "(II)V"⟩, 12) := ⟨⟨by decide +kernel, by decide +kernel⟩, List.mem_of_getElem? (i := 25) (by decide +kernel), List.mem_of_getElem? (i := 385) (by decide +kernel), List.mem_of_getElem? (i := 386) (by decide +kernel)⟩
theorem lw_p2 : lw_okq (⟨"FordToll", "found", "(I)LFordToll$Traveller;"⟩, 12) := ⟨⟨by decide +kernel, by decide +kernel⟩, List.mem_of_getElem? (i := 25) (by decide +kernel), List.mem_of_getElem? (i := 471) (by decide +kernel), List.mem_of_getElem? (i := 472) (by decide +kernel)⟩
theorem lw_p3 : lw_okq (⟨"FordToll", "setStopped", "(IZ)I"⟩, 12) := ⟨⟨by decide +kernel, by decide +kernel⟩, List.mem_of_getElem? (i := 25) (by decide +kernel), List.mem_of_getElem? (i := 519) (by decide +kernel), List.mem_of_getElem? (i := 520) (by decide +kernel)⟩
theorem lw_p4 : lw_okq (⟨"FordToll$Ford", "sendBack", "(LFordToll$Traveller;)V"⟩, 12) := ⟨⟨by decide +kernel, by decide +kernel⟩, List.mem_of_getElem? (i := 33) (by decide +kernel), List.mem_of_getElem? (i := 553) (by decide +kernel), List.mem_of_getElem? (i := 554) (by decide +kernel)⟩
theorem lw_p5 : lw_okq (⟨"FordToll$Ford", "sendOn", "(LFordToll$Traveller;)V"⟩, 12) := ⟨⟨by decide +kernel, by decide +kernel⟩, List.mem_of_getElem? (i := 33) (by decide +kernel), List.mem_of_getElem? (i := 570) (by decide +kernel), List.mem_of_getElem? (i := 571) (by decide +kernel)⟩
theorem lw_p6 : lw_okq (⟨"FordToll$Ford", "comeOver", "(LFordToll$Traveller;)V"⟩, 12) := ⟨⟨by decide +kernel, by decide +kernel⟩, List.mem_of_getElem? (i := 33) (by decide +kernel), List.mem_of_getElem? (i := 578) (by decide +kernel), List.mem_of_getElem? (i := 579) (by decide +kernel)⟩
theorem lw_p7 : lw_okq (⟨"FordToll$Ford", "wetOrDry", "(LFordToll$Traveller;)V"⟩, 12) := ⟨⟨by decide +kernel, by decide +kernel⟩, List.mem_of_getElem? (i := 33) (by decide +kernel), List.mem_of_getElem? (i := 582) (by decide +kernel), List.mem_of_getElem? (i := 583) (by decide +kernel)⟩
theorem lw_p8 : lw_okq (⟨"FordToll$Ford", "heat", "(I)V"⟩, 12) := ⟨⟨by decide +kernel, by decide +kernel⟩, List.mem_of_getElem? (i := 33) (by decide +kernel), List.mem_of_getElem? (i := 591) (by decide +kernel), List.mem_of_getElem? (i := 592) (by decide +kernel)⟩
theorem lw_p9 : lw_okq (⟨"FordToll$Ford", "wettestOn", "(II)I"⟩, 12) := ⟨⟨by decide +kernel, by decide +kernel⟩, List.mem_of_getElem? (i := 33) (by decide +kernel), List.mem_of_getElem? (i := 595) (by decide +kernel), List.mem_of_getElem? (i := 596) (by decide +kernel)⟩
theorem lw_p10 : lw_okq (⟨"FordToll$Question", "readQuestion", "(LFordToll$Ford;I)I"⟩, 4) := ⟨⟨by decide +kernel, by decide +kernel⟩, List.mem_of_getElem? (i := 156) (by decide +kernel), List.mem_of_getElem? (i := 654) (by decide +kernel), List.mem_of_getElem? (i := 655) (by decide +kernel)⟩
theorem lw_p11 : lw_okq (⟨"FordToll$Question", "readPart", "(LFordToll$Ford;I)I"⟩, 4) := ⟨⟨by decide +kernel, by decide +kernel⟩, List.mem_of_getElem? (i := 156) (by decide +kernel), List.mem_of_getElem? (i := 658) (by decide +kernel), List.mem_of_getElem? (i := 659) (by decide +kernel)⟩
theorem lw_p12 : lw_okq (⟨"FordToll$Question", "readOne", "(LFordToll$Ford;I)I"⟩, 4) := ⟨⟨by decide +kernel, by decide +kernel⟩, List.mem_of_getElem? (i := 156) (by decide +kernel), List.mem_of_getElem? (i := 662) (by decide +kernel), List.mem_of_getElem? (i := 663) (by decide +kernel)⟩
theorem lw_p13 : lw_okq (⟨"FordToll$Question", "isNext", "(C)Z"⟩, 4) := ⟨⟨by decide +kernel, by decide +kernel⟩, List.mem_of_getElem? (i := 156) (by decide +kernel), List.mem_of_getElem? (i := 666) (by decide +kernel), List.mem_of_getElem? (i := 667) (by decide +kernel)⟩
theorem lw_p14 : lw_okq (⟨"FordToll$Question", "fail", "(I)V"⟩, 4) := ⟨⟨by decide +kernel, by decide +kernel⟩, List.mem_of_getElem? (i := 156) (by decide +kernel), List.mem_of_getElem? (i := 670) (by decide +kernel), List.mem_of_getElem? (i := 671) (by decide +kernel)⟩
theorem lw_p15 : lw_okq (⟨"FordToll$Question", "takes", "(C)Z"⟩, 4) := ⟨⟨by decide +kernel, by decide +kernel⟩, List.mem_of_getElem? (i := 156) (by decide +kernel), List.mem_of_getElem? (i := 674) (by decide +kernel), List.mem_of_getElem? (i := 675) (by decide +kernel)⟩
def lw_privs_1 : List (MethodName × Nat) := [(⟨"java/lang/Throwable", "fillInStackTrace", "(I)Ljava/lang/Throwable;"⟩, 6), (⟨"FordToll", "refuse", "(II)V"⟩, 12), (⟨"FordToll", "found", "(I)LFordToll$Traveller;"⟩, 12), (⟨"FordToll", "setStopped", "(IZ)I"⟩, 12), (⟨"FordToll$Ford", "sendBack", "(LFordToll$Traveller;)V"⟩, 12), (⟨"FordToll$Ford", "sendOn", "(LFordToll$Traveller;)V"⟩, 12), (⟨"FordToll$Ford", "comeOver", "(LFordToll$Traveller;)V"⟩, 12), (⟨"FordToll$Ford", "wetOrDry", "(LFordToll$Traveller;)V"⟩, 12), (⟨"FordToll$Ford", "heat", "(I)V"⟩, 12), (⟨"FordToll$Ford", "wettestOn", "(II)I"⟩, 12), (⟨"FordToll$Question", "readQuestion", "(LFordToll$Ford;I)I"⟩, 4), (⟨"FordToll$Question", "readPart", "(LFordToll$Ford;I)I"⟩, 4), (⟨"FordToll$Question", "readOne", "(LFordToll$Ford;I)I"⟩, 4), (⟨"FordToll$Question", "isNext", "(C)Z"⟩, 4), (⟨"FordToll$Question", "fail", "(I)V"⟩, 4), (⟨"FordToll$Question", "takes", "(C)Z"⟩, 4)]
theorem lw_r1 : ∀ q ∈ lw_privs_1, lw_okq q := List.forall_mem_cons.mpr ⟨lw_p0, List.forall_mem_cons.mpr ⟨lw_p1, List.forall_mem_cons.mpr ⟨lw_p2, List.forall_mem_cons.mpr ⟨lw_p3, List.forall_mem_cons.mpr ⟨lw_p4, List.forall_mem_cons.mpr ⟨lw_p5, List.forall_mem_cons.mpr ⟨lw_p6, List.forall_mem_cons.mpr ⟨lw_p7, List.forall_mem_cons.mpr ⟨lw_p8, List.forall_mem_cons.mpr ⟨lw_p9, List.forall_mem_cons.mpr ⟨lw_p10, List.forall_mem_cons.mpr ⟨lw_p11, List.forall_mem_cons.mpr ⟨lw_p12, List.forall_mem_cons.mpr ⟨lw_p13, List.forall_mem_cons.mpr ⟨lw_p14, List.forall_mem_cons.mpr ⟨lw_p15, fun _ h => absurd h List.not_mem_nil⟩⟩⟩⟩⟩⟩⟩⟩⟩⟩⟩⟩⟩⟩⟩⟩
theorem lw_p16 : lw_okq (⟨"FordToll$Question", "readWord", "()LFordToll$Word;"⟩, 4) := ⟨⟨by decide +kernel, by decide +kernel⟩, List.mem_of_getElem? (i := 156) (by decide +kernel), List.mem_of_getElem? (i := 681) (by decide +kernel), List.mem_of_getElem? (i := 682) (by decide +kernel)⟩
theorem lw_p17 : lw_okq (⟨"FordToll$Question", "lettersAlike", "(Ljava/lang/String;)I"⟩, 4) := ⟨⟨by decide +kernel, by decide +kernel⟩, List.mem_of_getElem? (i := 156) (by decide +kernel), List.mem_of_getElem? (i := 687) (by decide +kernel), List.mem_of_getElem? (i := 688) (by decide +kernel)⟩
theorem lw_p18 : lw_okq (⟨"FordToll$Question", "readSign", "()C"⟩, 4) := ⟨⟨by decide +kernel, by decide +kernel⟩, List.mem_of_getElem? (i := 156) (by decide +kernel), List.mem_of_getElem? (i := 748) (by decide +kernel), List.mem_of_getElem? (i := 749) (by decide +kernel)⟩
theorem lw_p19 : lw_okq (⟨"FordToll$Question", "readNumber", "()I"⟩, 4) := ⟨⟨by decide +kernel, by decide +kernel⟩, List.mem_of_getElem? (i := 156) (by decide +kernel), List.mem_of_getElem? (i := 752) (by decide +kernel), List.mem_of_getElem? (i := 753) (by decide +kernel)⟩
theorem lw_p20 : lw_okq (⟨"FordToll$Question", "isDigitNext", "()Z"⟩, 4) := ⟨⟨by decide +kernel, by decide +kernel⟩, List.mem_of_getElem? (i := 156) (by decide +kernel), List.mem_of_getElem? (i := 756) (by decide +kernel), List.mem_of_getElem? (i := 757) (by decide +kernel)⟩
theorem lw_p21 : lw_okq (⟨"FordToll$Question", "readDigit", "()I"⟩, 4) := ⟨⟨by decide +kernel, by decide +kernel⟩, List.mem_of_getElem? (i := 156) (by decide +kernel), List.mem_of_getElem? (i := 760) (by decide +kernel), List.mem_of_getElem? (i := 761) (by decide +kernel)⟩
theorem lw_p22 : lw_okq (⟨"FordToll", "keepAnswer", "(I)V"⟩, 12) := ⟨⟨by decide +kernel, by decide +kernel⟩, List.mem_of_getElem? (i := 25) (by decide +kernel), List.mem_of_getElem? (i := 769) (by decide +kernel), List.mem_of_getElem? (i := 770) (by decide +kernel)⟩
theorem lw_p23 : lw_okq (⟨"FordToll", "signOf", "(I)C"⟩, 12) := ⟨⟨by decide +kernel, by decide +kernel⟩, List.mem_of_getElem? (i := 25) (by decide +kernel), List.mem_of_getElem? (i := 923) (by decide +kernel), List.mem_of_getElem? (i := 924) (by decide +kernel)⟩
theorem lw_p24 : lw_okq (⟨"FordToll", "writeDigit", "(I)V"⟩, 12) := ⟨⟨by decide +kernel, by decide +kernel⟩, List.mem_of_getElem? (i := 25) (by decide +kernel), List.mem_of_getElem? (i := 927) (by decide +kernel), List.mem_of_getElem? (i := 928) (by decide +kernel)⟩
def lw_privs_2 : List (MethodName × Nat) := [(⟨"FordToll$Question", "readWord", "()LFordToll$Word;"⟩, 4), (⟨"FordToll$Question", "lettersAlike", "(Ljava/lang/String;)I"⟩, 4), (⟨"FordToll$Question", "readSign", "()C"⟩, 4), (⟨"FordToll$Question", "readNumber", "()I"⟩, 4), (⟨"FordToll$Question", "isDigitNext", "()Z"⟩, 4), (⟨"FordToll$Question", "readDigit", "()I"⟩, 4), (⟨"FordToll", "keepAnswer", "(I)V"⟩, 12), (⟨"FordToll", "signOf", "(I)C"⟩, 12), (⟨"FordToll", "writeDigit", "(I)V"⟩, 12)]
theorem lw_r2 : ∀ q ∈ lw_privs_2, lw_okq q := List.forall_mem_cons.mpr ⟨lw_p16, List.forall_mem_cons.mpr ⟨lw_p17, List.forall_mem_cons.mpr ⟨lw_p18, List.forall_mem_cons.mpr ⟨lw_p19, List.forall_mem_cons.mpr ⟨lw_p20, List.forall_mem_cons.mpr ⟨lw_p21, List.forall_mem_cons.mpr ⟨lw_p22, List.forall_mem_cons.mpr ⟨lw_p23, List.forall_mem_cons.mpr ⟨lw_p24, fun _ h => absurd h List.not_mem_nil⟩⟩⟩⟩⟩⟩⟩⟩⟩
def lw_privs : List (MethodName × Nat) := lw_privs_1 ++ (lw_privs_2)
def lw_tbl : List Cond := k2_sels lw_privs ++ tables_1
theorem lw_privs_ok : ∀ q ∈ lw_privs, lw_okq q := by
  show ∀ q ∈ lw_privs_1 ++ (lw_privs_2), lw_okq q
  exact List.forall_mem_append.mpr ⟨lw_r1, lw_r2⟩
/-- the streams that the claim lets the run draw from -/
abbrev lw_cs : List Choice := [Jvm.Choice.named "NaN.bits"]
theorem lw_bits : nanBits ∈ lw_cs := by first | decide | exact List.mem_cons_self | simp [lw_cs, nanBits]
-- ===== end of PART A =====
/-! ===== BEGIN printed: names, fields, word lists, decode rows ===== -/
def RX0 : String := "FordToll$Ford"
def TX0 : u_T := fun k => match k with
  | 0 => ("FordToll$Ford", "heights", "[I", true)
  | 1 => ("FordToll$Ford", "travellers", "[LFordToll$Traveller;", true)
  | 2 => ("FordToll$Ford", "count", "I", false)
  | 3 => ("FordToll$Ford", "hour", "I", false)
  | 4 => ("FordToll$Ford", "level", "I", false)
  | 5 => ("FordToll$Ford", "rainfall", "I", false)
  | 6 => ("FordToll$Ford", "bag", "I", false)
  | 7 => ("FordToll$Ford", "lettersDelivered", "I", false)
  | 8 => ("FordToll$Ford", "lettersPut", "I", false)
  | 9 => ("FordToll$Ford", "chest", "I", false)
  | 10 => ("FordToll$Ford", "crossings", "I", false)
  | _ => ("FordToll$Ford", "retreats", "I", false)
def tyX0 : Nat → FieldType := fun k => match k with
  | 0 => .array .int
  | 1 => .array (.object "FordToll$Traveller")
  | 2 => .int
  | 3 => .int
  | 4 => .int
  | 5 => .int
  | 6 => .int
  | 7 => .int
  | 8 => .int
  | 9 => .int
  | 10 => .int
  | _ => .int
abbrev wsX00 : List Cond := u_ws RX0 TX0 12
theorem nmX0 : ∀ a, a < 12 → ∀ b, b < 12 → a ≠ b → (TX0 a).2.1 ≠ (TX0 b).2.1 := by decide +kernel
theorem tyX0_ok : ∀ k, k < 12 → parseFieldDescriptor (TX0 k).2.2.1 = some (tyX0 k) := by decide +kernel
abbrev cX0_init : ByteArray := prog_2_method_1_code
def yX0_init : MethodName := ⟨RX0, "<init>", "()V"⟩
abbrev cX0_copyFrom : ByteArray := prog_2_method_2_code
def yX0_copyFrom : MethodName := ⟨RX0, "copyFrom", "(LFordToll$Ford;)V"⟩
abbrev cX0_stateOf : ByteArray := prog_2_method_3_code
def yX0_stateOf : MethodName := ⟨RX0, "stateOf", "(II)I"⟩
abbrev cX0_lowestHeight : ByteArray := prog_2_method_4_code
def yX0_lowestHeight : MethodName := ⟨RX0, "lowestHeight", "()I"⟩
abbrev cX0_levelAfterHour : ByteArray := prog_2_method_5_code
def yX0_levelAfterHour : MethodName := ⟨RX0, "levelAfterHour", "(I)I"⟩
abbrev cX0_levelOnTheWayToRest : ByteArray := prog_2_method_6_code
def yX0_levelOnTheWayToRest : MethodName := ⟨RX0, "levelOnTheWayToRest", "(I)I"⟩
abbrev cX0_lowestOn : ByteArray := prog_2_method_7_code
def yX0_lowestOn : MethodName := ⟨RX0, "lowestOn", "(I)I"⟩
abbrev cX0_countOn : ByteArray := prog_2_method_8_code
def yX0_countOn : MethodName := ⟨RX0, "countOn", "(I)I"⟩
abbrev cX0_countIn : ByteArray := prog_2_method_9_code
def yX0_countIn : MethodName := ⟨RX0, "countIn", "(I)I"⟩
abbrev cX0_sumOf : ByteArray := prog_2_method_10_code
def yX0_sumOf : MethodName := ⟨RX0, "sumOf", "(I)I"⟩
abbrev cX0_welcome : ByteArray := prog_2_method_11_code
def yX0_welcome : MethodName := ⟨RX0, "welcome", "(I)I"⟩
abbrev cX0_takeAway : ByteArray := prog_2_method_12_code
def yX0_takeAway : MethodName := ⟨RX0, "takeAway", "(I)V"⟩
abbrev cX0_startCrossing : ByteArray := prog_2_method_13_code
def yX0_startCrossing : MethodName := ⟨RX0, "startCrossing", "(LFordToll$Traveller;)I"⟩
abbrev cX0_canGo : ByteArray := prog_2_method_14_code
def yX0_canGo : MethodName := ⟨RX0, "canGo", "(IIII)Z"⟩
abbrev cX0_placeAfterStep : ByteArray := prog_2_method_15_code
def yX0_placeAfterStep : MethodName := ⟨RX0, "placeAfterStep", "(IIZI)I"⟩
abbrev cX0_placeAfterGoingBack : ByteArray := prog_2_method_16_code
def yX0_placeAfterGoingBack : MethodName := ⟨RX0, "placeAfterGoingBack", "(IZI)I"⟩
abbrev cX0_wetStepsOf : ByteArray := prog_2_method_17_code
def yX0_wetStepsOf : MethodName := ⟨RX0, "wetStepsOf", "(I)I"⟩
abbrev cX0_hoursToCross : ByteArray := prog_2_method_18_code
def yX0_hoursToCross : MethodName := ⟨RX0, "hoursToCross", "(LFordToll$Traveller;)I"⟩
abbrev cX0_letHourGoBy : ByteArray := prog_2_method_19_code
def yX0_letHourGoBy : MethodName := ⟨RX0, "letHourGoBy", "()V"⟩
abbrev cX0_sendBack : ByteArray := prog_2_method_20_code
def yX0_sendBack : MethodName := ⟨RX0, "sendBack", "(LFordToll$Traveller;)V"⟩
abbrev cX0_sendOn : ByteArray := prog_2_method_21_code
def yX0_sendOn : MethodName := ⟨RX0, "sendOn", "(LFordToll$Traveller;)V"⟩
abbrev cX0_comeOver : ByteArray := prog_2_method_22_code
def yX0_comeOver : MethodName := ⟨RX0, "comeOver", "(LFordToll$Traveller;)V"⟩
abbrev cX0_wetOrDry : ByteArray := prog_2_method_23_code
def yX0_wetOrDry : MethodName := ⟨RX0, "wetOrDry", "(LFordToll$Traveller;)V"⟩
abbrev cX0_heat : ByteArray := prog_2_method_24_code
def yX0_heat : MethodName := ⟨RX0, "heat", "(I)V"⟩
abbrev cX0_wettestOn : ByteArray := prog_2_method_25_code
def yX0_wettestOn : MethodName := ⟨RX0, "wettestOn", "(II)I"⟩
def RX1 : String := "FordToll$History"
def TX1 : u_T := fun k => match k with
  | 0 => ("FordToll$History", "before", "[LFordToll$Ford;", true)
  | 1 => ("FordToll$History", "next", "I", false)
  | _ => ("FordToll$History", "count", "I", false)
def tyX1 : Nat → FieldType := fun k => match k with
  | 0 => .array (.object "FordToll$Ford")
  | 1 => .int
  | _ => .int
abbrev wsX10 : List Cond := u_ws RX1 TX1 3
theorem nmX1 : ∀ a, a < 3 → ∀ b, b < 3 → a ≠ b → (TX1 a).2.1 ≠ (TX1 b).2.1 := by decide +kernel
theorem tyX1_ok : ∀ k, k < 3 → parseFieldDescriptor (TX1 k).2.2.1 = some (tyX1 k) := by decide +kernel
abbrev cX1_init : ByteArray := prog_3_method_1_code
def yX1_init : MethodName := ⟨RX1, "<init>", "()V"⟩
abbrev cX1_keep : ByteArray := prog_3_method_2_code
def yX1_keep : MethodName := ⟨RX1, "keep", "(LFordToll$Ford;)V"⟩
abbrev cX1_takeBack : ByteArray := prog_3_method_3_code
def yX1_takeBack : MethodName := ⟨RX1, "takeBack", "(LFordToll$Ford;)V"⟩
abbrev cX1_forget : ByteArray := prog_3_method_4_code
def yX1_forget : MethodName := ⟨RX1, "forget", "()V"⟩
def RX2 : String := "FordToll$Question"
def TX2 : u_T := fun k => match k with
  | 0 => ("FordToll$Question", "text", "[C", true)
  | 1 => ("FordToll$Question", "length", "I", false)
  | 2 => ("FordToll$Question", "at", "I", false)
  | _ => ("FordToll$Question", "fault", "I", false)
def tyX2 : Nat → FieldType := fun k => match k with
  | 0 => .array .char
  | 1 => .int
  | 2 => .int
  | _ => .int
abbrev wsX20 : List Cond := u_ws RX2 TX2 4
theorem nmX2 : ∀ a, a < 4 → ∀ b, b < 4 → a ≠ b → (TX2 a).2.1 ≠ (TX2 b).2.1 := by decide +kernel
theorem tyX2_ok : ∀ k, k < 4 → parseFieldDescriptor (TX2 k).2.2.1 = some (tyX2 k) := by decide +kernel
abbrev cX2_init : ByteArray := prog_4_method_1_code
def yX2_init : MethodName := ⟨RX2, "<init>", "()V"⟩
abbrev cX2_isFull : ByteArray := prog_4_method_2_code
def yX2_isFull : MethodName := ⟨RX2, "isFull", "()Z"⟩
abbrev cX2_append : ByteArray := prog_4_method_3_code
def yX2_append : MethodName := ⟨RX2, "append", "(C)I"⟩
abbrev cX2_empty : ByteArray := prog_4_method_4_code
def yX2_empty : MethodName := ⟨RX2, "empty", "()V"⟩
abbrev cX2_readFor : ByteArray := prog_4_method_5_code
def yX2_readFor : MethodName := ⟨RX2, "readFor", "(LFordToll$Ford;)I"⟩
abbrev cX2_readQuestion : ByteArray := prog_4_method_6_code
def yX2_readQuestion : MethodName := ⟨RX2, "readQuestion", "(LFordToll$Ford;I)I"⟩
abbrev cX2_readPart : ByteArray := prog_4_method_7_code
def yX2_readPart : MethodName := ⟨RX2, "readPart", "(LFordToll$Ford;I)I"⟩
abbrev cX2_readOne : ByteArray := prog_4_method_8_code
def yX2_readOne : MethodName := ⟨RX2, "readOne", "(LFordToll$Ford;I)I"⟩
abbrev cX2_readWord : ByteArray := prog_4_method_9_code
def yX2_readWord : MethodName := ⟨RX2, "readWord", "()LFordToll$Word;"⟩
abbrev cX2_lettersAlike : ByteArray := prog_4_method_10_code
def yX2_lettersAlike : MethodName := ⟨RX2, "lettersAlike", "(Ljava/lang/String;)I"⟩
abbrev cX2_readSign : ByteArray := prog_4_method_11_code
def yX2_readSign : MethodName := ⟨RX2, "readSign", "()C"⟩
abbrev cX2_readNumber : ByteArray := prog_4_method_12_code
def yX2_readNumber : MethodName := ⟨RX2, "readNumber", "()I"⟩
abbrev cX2_isDigitNext : ByteArray := prog_4_method_13_code
def yX2_isDigitNext : MethodName := ⟨RX2, "isDigitNext", "()Z"⟩
abbrev cX2_readDigit : ByteArray := prog_4_method_14_code
def yX2_readDigit : MethodName := ⟨RX2, "readDigit", "()I"⟩
abbrev cX2_isNext : ByteArray := prog_4_method_15_code
def yX2_isNext : MethodName := ⟨RX2, "isNext", "(C)Z"⟩
abbrev cX2_takes : ByteArray := prog_4_method_16_code
def yX2_takes : MethodName := ⟨RX2, "takes", "(C)Z"⟩
abbrev cX2_fail : ByteArray := prog_4_method_17_code
def yX2_fail : MethodName := ⟨RX2, "fail", "(I)V"⟩
abbrev cX2_everyone : ByteArray := prog_4_method_18_code
def yX2_everyone : MethodName := ⟨RX2, "everyone", "(LFordToll$Ford;)I"⟩
abbrev cX2_thoseWith : ByteArray := prog_4_method_19_code
def yX2_thoseWith : MethodName := ⟨RX2, "thoseWith", "(LFordToll$Ford;ICI)I"⟩
abbrev cX2_isSo : ByteArray := prog_4_method_20_code
def yX2_isSo : MethodName := ⟨RX2, "isSo", "(ICI)Z"⟩
def RX3 : String := "FordToll$Traveller"
def TX3 : u_T := fun k => match k with
  | 0 => ("FordToll$Traveller", "load", "I", false)
  | 1 => ("FordToll$Traveller", "wet", "I", false)
  | 2 => ("FordToll$Traveller", "place", "I", false)
  | 3 => ("FordToll$Traveller", "out", "Z", false)
  | 4 => ("FordToll$Traveller", "toFar", "Z", false)
  | 5 => ("FordToll$Traveller", "stopped", "Z", false)
  | 6 => ("FordToll$Traveller", "crossed", "I", false)
  | _ => ("FordToll$Traveller", "mail", "I", false)
def tyX3 : Nat → FieldType := fun k => match k with
  | 0 => .int
  | 1 => .int
  | 2 => .int
  | 3 => .boolean
  | 4 => .boolean
  | 5 => .boolean
  | 6 => .int
  | _ => .int
abbrev wsX30 : List Cond := u_ws RX3 TX3 8
theorem nmX3 : ∀ a, a < 8 → ∀ b, b < 8 → a ≠ b → (TX3 a).2.1 ≠ (TX3 b).2.1 := by decide +kernel
theorem tyX3_ok : ∀ k, k < 8 → parseFieldDescriptor (TX3 k).2.2.1 = some (tyX3 k) := by decide +kernel
abbrev cX3_init : ByteArray := prog_5_method_1_code
def yX3_init : MethodName := ⟨RX3, "<init>", "()V"⟩
abbrev cX3_arrive : ByteArray := prog_5_method_2_code
def yX3_arrive : MethodName := ⟨RX3, "arrive", "(I)V"⟩
abbrev cX3_copyFrom : ByteArray := prog_5_method_3_code
def yX3_copyFrom : MethodName := ⟨RX3, "copyFrom", "(LFordToll$Traveller;)V"⟩
abbrev cX3_kind : ByteArray := prog_5_method_4_code
def yX3_kind : MethodName := ⟨RX3, "kind", "()I"⟩
abbrev cX3_toll : ByteArray := prog_5_method_5_code
def yX3_toll : MethodName := ⟨RX3, "toll", "()I"⟩
abbrev cX3_region : ByteArray := prog_5_method_6_code
def yX3_region : MethodName := ⟨RX3, "region", "()I"⟩
abbrev cX3_getWetter : ByteArray := prog_5_method_7_code
def yX3_getWetter : MethodName := ⟨RX3, "getWetter", "(I)V"⟩
abbrev cX3_getDrier : ByteArray := prog_5_method_8_code
def yX3_getDrier : MethodName := ⟨RX3, "getDrier", "(I)V"⟩
abbrev cX3_restOnBank : ByteArray := prog_5_method_9_code
def yX3_restOnBank : MethodName := ⟨RX3, "restOnBank", "()V"⟩
abbrev cX3_numberOf : ByteArray := prog_5_method_10_code
def yX3_numberOf : MethodName := ⟨RX3, "numberOf", "(I)I"⟩
def RX4 : String := "FordToll$Word"
def TX4 : u_T := fun k => match k with
  | _ => ("", "", "", false)
def tyX4 : Nat → FieldType := fun k => match k with
  | _ => .int
abbrev wsX40 : List Cond := u_ws RX4 TX4 0
theorem nmX4 : ∀ a, a < 0 → ∀ b, b < 0 → a ≠ b → (TX4 a).2.1 ≠ (TX4 b).2.1 := by decide +kernel
theorem tyX4_ok : ∀ k, k < 0 → parseFieldDescriptor (TX4 k).2.2.1 = some (tyX4 k) := by decide +kernel
def RX5 : String := "FordToll"
def TX5 : u_T := fun k => match k with
  | 0 => ("FordToll", "now", "LFordToll$Ford;", true)
  | 1 => ("FordToll", "history", "LFordToll$History;", true)
  | 2 => ("FordToll", "snapshot", "LFordToll$Ford;", true)
  | 3 => ("FordToll", "hasSnapshot", "Z", false)
  | 4 => ("FordToll", "question", "LFordToll$Question;", true)
  | 5 => ("FordToll", "errorAt", "I", false)
  | 6 => ("FordToll", "answered", "[I", true)
  | 7 => ("FordToll", "answeredCount", "I", false)
  | 8 => ("FordToll", "refusedReason", "I", false)
  | 9 => ("FordToll", "refusedDetail", "I", false)
  | 10 => ("FordToll", "line", "[C", true)
  | _ => ("FordToll", "lineLength", "I", false)
def tyX5 : Nat → FieldType := fun k => match k with
  | 0 => .object "FordToll$Ford"
  | 1 => .object "FordToll$History"
  | 2 => .object "FordToll$Ford"
  | 3 => .boolean
  | 4 => .object "FordToll$Question"
  | 5 => .int
  | 6 => .array .int
  | 7 => .int
  | 8 => .int
  | 9 => .int
  | 10 => .array .char
  | _ => .int
abbrev wsX50 : List Cond := u_ws RX5 TX5 12
theorem nmX5 : ∀ a, a < 12 → ∀ b, b < 12 → a ≠ b → (TX5 a).2.1 ≠ (TX5 b).2.1 := by decide +kernel
theorem tyX5_ok : ∀ k, k < 12 → parseFieldDescriptor (TX5 k).2.2.1 = some (tyX5 k) := by decide +kernel
abbrev cX5_init : ByteArray := prog_1_method_1_code
def yX5_init : MethodName := ⟨RX5, "<init>", "()V"⟩
abbrev cX5_height : ByteArray := prog_1_method_2_code
def yX5_height : MethodName := ⟨RX5, "height", "(II)I"⟩
abbrev cX5_rain : ByteArray := prog_1_method_3_code
def yX5_rain : MethodName := ⟨RX5, "rain", "(I)I"⟩
abbrev cX5_letters : ByteArray := prog_1_method_4_code
def yX5_letters : MethodName := ⟨RX5, "letters", "(I)I"⟩
abbrev cX5_stoneOf : ByteArray := prog_1_method_5_code
def yX5_stoneOf : MethodName := ⟨RX5, "stoneOf", "(II)I"⟩
abbrev cX5_under : ByteArray := prog_1_method_6_code
def yX5_under : MethodName := ⟨RX5, "under", "()I"⟩
abbrev cX5_flood : ByteArray := prog_1_method_7_code
def yX5_flood : MethodName := ⟨RX5, "flood", "(I)I"⟩
abbrev cX5_floodAgain : ByteArray := prog_1_method_8_code
def yX5_floodAgain : MethodName := ⟨RX5, "floodAgain", "(I)I"⟩
abbrev cX5_clearIn : ByteArray := prog_1_method_9_code
def yX5_clearIn : MethodName := ⟨RX5, "clearIn", "()I"⟩
abbrev cX5_traveller : ByteArray := prog_1_method_10_code
def yX5_traveller : MethodName := ⟨RX5, "traveller", "(I)I"⟩
abbrev cX5_travellerOf : ByteArray := prog_1_method_11_code
def yX5_travellerOf : MethodName := ⟨RX5, "travellerOf", "(II)I"⟩
abbrev cX5_fee : ByteArray := prog_1_method_12_code
def yX5_fee : MethodName := ⟨RX5, "fee", "(I)I"⟩
abbrev cX5_setOut : ByteArray := prog_1_method_13_code
def yX5_setOut : MethodName := ⟨RX5, "setOut", "(I)I"⟩
abbrev cX5_stop : ByteArray := prog_1_method_14_code
def yX5_stop : MethodName := ⟨RX5, "stop", "(I)I"⟩
abbrev cX5_go : ByteArray := prog_1_method_15_code
def yX5_go : MethodName := ⟨RX5, "go", "(I)I"⟩
abbrev cX5_leave : ByteArray := prog_1_method_16_code
def yX5_leave : MethodName := ⟨RX5, "leave", "(I)I"⟩
abbrev cX5_pass : ByteArray := prog_1_method_17_code
def yX5_pass : MethodName := ⟨RX5, "pass", "(I)I"⟩
abbrev cX5_crossedIn : ByteArray := prog_1_method_18_code
def yX5_crossedIn : MethodName := ⟨RX5, "crossedIn", "(I)I"⟩
abbrev cX5_wetSteps : ByteArray := prog_1_method_19_code
def yX5_wetSteps : MethodName := ⟨RX5, "wetSteps", "(I)I"⟩
abbrev cX5_kinds : ByteArray := prog_1_method_20_code
def yX5_kinds : MethodName := ⟨RX5, "kinds", "()I"⟩
abbrev cX5_type : ByteArray := prog_1_method_21_code
def yX5_type : MethodName := ⟨RX5, "type", "(C)I"⟩
abbrev cX5_ask : ByteArray := prog_1_method_22_code
def yX5_ask : MethodName := ⟨RX5, "ask", "()I"⟩
abbrev cX5_answer : ByteArray := prog_1_method_23_code
def yX5_answer : MethodName := ⟨RX5, "answer", "(I)I"⟩
abbrev cX5_errorPosition : ByteArray := prog_1_method_24_code
def yX5_errorPosition : MethodName := ⟨RX5, "errorPosition", "()I"⟩
abbrev cX5_refusal : ByteArray := prog_1_method_25_code
def yX5_refusal : MethodName := ⟨RX5, "refusal", "(Z)I"⟩
abbrev cX5_describe : ByteArray := prog_1_method_26_code
def yX5_describe : MethodName := ⟨RX5, "describe", "()I"⟩
abbrev cX5_written : ByteArray := prog_1_method_27_code
def yX5_written : MethodName := ⟨RX5, "written", "(I)C"⟩
abbrev cX5_account : ByteArray := prog_1_method_28_code
def yX5_account : MethodName := ⟨RX5, "account", "(I)I"⟩
abbrev cX5_lettersAgain : ByteArray := prog_1_method_29_code
def yX5_lettersAgain : MethodName := ⟨RX5, "lettersAgain", "()I"⟩
abbrev cX5_meanWet : ByteArray := prog_1_method_30_code
def yX5_meanWet : MethodName := ⟨RX5, "meanWet", "()D"⟩
abbrev cX5_crossingShare : ByteArray := prog_1_method_31_code
def yX5_crossingShare : MethodName := ⟨RX5, "crossingShare", "()F"⟩
abbrev cX5_undo : ByteArray := prog_1_method_32_code
def yX5_undo : MethodName := ⟨RX5, "undo", "()I"⟩
abbrev cX5_save : ByteArray := prog_1_method_33_code
def yX5_save : MethodName := ⟨RX5, "save", "()I"⟩
abbrev cX5_restore : ByteArray := prog_1_method_34_code
def yX5_restore : MethodName := ⟨RX5, "restore", "()I"⟩
abbrev cX5_checkStone : ByteArray := prog_1_method_35_code
def yX5_checkStone : MethodName := ⟨RX5, "checkStone", "(I)V"⟩
abbrev cX5_checkRange : ByteArray := prog_1_method_36_code
def yX5_checkRange : MethodName := ⟨RX5, "checkRange", "(III)V"⟩
abbrev cX5_found : ByteArray := prog_1_method_37_code
def yX5_found : MethodName := ⟨RX5, "found", "(I)LFordToll$Traveller;"⟩
abbrev cX5_refuse : ByteArray := prog_1_method_38_code
def yX5_refuse : MethodName := ⟨RX5, "refuse", "(II)V"⟩
abbrev cX5_setStopped : ByteArray := prog_1_method_39_code
def yX5_setStopped : MethodName := ⟨RX5, "setStopped", "(IZ)I"⟩
abbrev cX5_keepAnswer : ByteArray := prog_1_method_40_code
def yX5_keepAnswer : MethodName := ⟨RX5, "keepAnswer", "(I)V"⟩
abbrev cX5_signOf : ByteArray := prog_1_method_41_code
def yX5_signOf : MethodName := ⟨RX5, "signOf", "(I)C"⟩
abbrev cX5_writeDigit : ByteArray := prog_1_method_42_code
def yX5_writeDigit : MethodName := ⟨RX5, "writeDigit", "(I)V"⟩
abbrev cX5_isStone : ByteArray := prog_1_method_43_code
def yX5_isStone : MethodName := ⟨RX5, "isStone", "(I)Z"⟩
def RX6 : String := "FordTollModel"
def TX6 : u_T := fun k => match k with
  | _ => ("", "", "", false)
def tyX6 : Nat → FieldType := fun k => match k with
  | _ => .int
abbrev wsX60 : List Cond := u_ws RX6 TX6 0
theorem nmX6 : ∀ a, a < 0 → ∀ b, b < 0 → a ≠ b → (TX6 a).2.1 ≠ (TX6 b).2.1 := by decide +kernel
theorem tyX6_ok : ∀ k, k < 0 → parseFieldDescriptor (TX6 k).2.2.1 = some (tyX6 k) := by decide +kernel
def RJx145de : String := "java/io/Serializable"
def TJx145de : u_T := fun k => match k with
  | _ => ("", "", "", false)
def tyJx145de : Nat → FieldType := fun k => match k with
  | _ => .int
abbrev wsJx145de0 : List Cond := u_ws RJx145de TJx145de 0
theorem nmJx145de : ∀ a, a < 0 → ∀ b, b < 0 → a ≠ b → (TJx145de a).2.1 ≠ (TJx145de b).2.1 := by decide +kernel
theorem tyJx145de_ok : ∀ k, k < 0 → parseFieldDescriptor (TJx145de k).2.2.1 = some (tyJx145de k) := by decide +kernel
def RJx00060 : String := "java/lang/ArrayIndexOutOfBoundsException"
def TJx00060 : u_T := fun k => match k with
  | 0 => ("java/lang/Throwable", "backtrace", "Ljava/lang/Object;", false)
  | 1 => ("java/lang/Throwable", "detailMessage", "Ljava/lang/String;", false)
  | 2 => ("java/lang/Throwable", "cause", "Ljava/lang/Throwable;", false)
  | 3 => ("java/lang/Throwable", "stackTrace", "[Ljava/lang/StackTraceElement;", false)
  | 4 => ("java/lang/Throwable", "depth", "I", false)
  | _ => ("java/lang/Throwable", "suppressedExceptions", "Ljava/util/List;", false)
def tyJx00060 : Nat → FieldType := fun k => match k with
  | 0 => .object "java/lang/Object"
  | 1 => .object "java/lang/String"
  | 2 => .object "java/lang/Throwable"
  | 3 => .array (.object "java/lang/StackTraceElement")
  | 4 => .int
  | _ => .object "java/util/List"
abbrev wsJx000600 : List Cond := u_ws RJx00060 TJx00060 6
theorem nmJx00060 : ∀ a, a < 6 → ∀ b, b < 6 → a ≠ b → (TJx00060 a).2.1 ≠ (TJx00060 b).2.1 := by decide +kernel
theorem tyJx00060_ok : ∀ k, k < 6 → parseFieldDescriptor (TJx00060 k).2.2.1 = some (tyJx00060 k) := by decide +kernel
abbrev cJx00060_init_a7421 : ByteArray := prog_11_method_2_code
def yJx00060_init_a7421 : MethodName := ⟨RJx00060, "<init>", "(Ljava/lang/String;)V"⟩
def RJx9f9b0 : String := "java/lang/CharSequence"
def TJx9f9b0 : u_T := fun k => match k with
  | _ => ("", "", "", false)
def tyJx9f9b0 : Nat → FieldType := fun k => match k with
  | _ => .int
abbrev wsJx9f9b00 : List Cond := u_ws RJx9f9b0 TJx9f9b0 0
theorem nmJx9f9b0 : ∀ a, a < 0 → ∀ b, b < 0 → a ≠ b → (TJx9f9b0 a).2.1 ≠ (TJx9f9b0 b).2.1 := by decide +kernel
theorem tyJx9f9b0_ok : ∀ k, k < 0 → parseFieldDescriptor (TJx9f9b0 k).2.2.1 = some (tyJx9f9b0 k) := by decide +kernel
def RJxb160c : String := "java/lang/Comparable"
def TJxb160c : u_T := fun k => match k with
  | _ => ("", "", "", false)
def tyJxb160c : Nat → FieldType := fun k => match k with
  | _ => .int
abbrev wsJxb160c0 : List Cond := u_ws RJxb160c TJxb160c 0
theorem nmJxb160c : ∀ a, a < 0 → ∀ b, b < 0 → a ≠ b → (TJxb160c a).2.1 ≠ (TJxb160c b).2.1 := by decide +kernel
theorem tyJxb160c_ok : ∀ k, k < 0 → parseFieldDescriptor (TJxb160c k).2.2.1 = some (tyJxb160c k) := by decide +kernel
def RJxe99ae : String := "java/lang/Double"
def TJxe99ae : u_T := fun k => match k with
  | _ => ("", "", "", false)
def tyJxe99ae : Nat → FieldType := fun k => match k with
  | _ => .int
abbrev wsJxe99ae0 : List Cond := u_ws RJxe99ae TJxe99ae 0
theorem nmJxe99ae : ∀ a, a < 0 → ∀ b, b < 0 → a ≠ b → (TJxe99ae a).2.1 ≠ (TJxe99ae b).2.1 := by decide +kernel
theorem tyJxe99ae_ok : ∀ k, k < 0 → parseFieldDescriptor (TJxe99ae k).2.2.1 = some (tyJxe99ae k) := by decide +kernel
abbrev cJxe99ae_isNaN_b9ae7 : ByteArray := prog_14_method_6_code
def yJxe99ae_isNaN_b9ae7 : MethodName := ⟨RJxe99ae, "isNaN", "(D)Z"⟩
abbrev cJxe99ae_doubleToLongBits_ccdee : ByteArray := prog_14_method_23_code
def yJxe99ae_doubleToLongBits_ccdee : MethodName := ⟨RJxe99ae, "doubleToLongBits", "(D)J"⟩
def RJx29ce0 : String := "java/lang/Enum"
def TJx29ce0 : u_T := fun k => match k with
  | _ => ("", "", "", false)
def tyJx29ce0 : Nat → FieldType := fun k => match k with
  | _ => .int
abbrev wsJx29ce00 : List Cond := u_ws RJx29ce0 TJx29ce0 0
theorem nmJx29ce0 : ∀ a, a < 0 → ∀ b, b < 0 → a ≠ b → (TJx29ce0 a).2.1 ≠ (TJx29ce0 b).2.1 := by decide +kernel
theorem tyJx29ce0_ok : ∀ k, k < 0 → parseFieldDescriptor (TJx29ce0 k).2.2.1 = some (tyJx29ce0 k) := by decide +kernel
def RJxf58ca : String := "java/lang/Float"
def TJxf58ca : u_T := fun k => match k with
  | _ => ("", "", "", false)
def tyJxf58ca : Nat → FieldType := fun k => match k with
  | _ => .int
abbrev wsJxf58ca0 : List Cond := u_ws RJxf58ca TJxf58ca 0
theorem nmJxf58ca : ∀ a, a < 0 → ∀ b, b < 0 → a ≠ b → (TJxf58ca a).2.1 ≠ (TJxf58ca b).2.1 := by decide +kernel
theorem tyJxf58ca_ok : ∀ k, k < 0 → parseFieldDescriptor (TJxf58ca k).2.2.1 = some (tyJxf58ca k) := by decide +kernel
abbrev cJxf58ca_isNaN_12338 : ByteArray := prog_17_method_6_code
def yJxf58ca_isNaN_12338 : MethodName := ⟨RJxf58ca, "isNaN", "(F)Z"⟩
abbrev cJxf58ca_floatToIntBits_5c35a : ByteArray := prog_17_method_24_code
def yJxf58ca_floatToIntBits_5c35a : MethodName := ⟨RJxf58ca, "floatToIntBits", "(F)I"⟩
def RJ9 : String := "java/lang/Math"
def TJ9 : u_T := fun k => match k with
  | _ => ("", "", "", false)
def tyJ9 : Nat → FieldType := fun k => match k with
  | _ => .int
abbrev wsJ90 : List Cond := u_ws RJ9 TJ9 0
theorem nmJ9 : ∀ a, a < 0 → ∀ b, b < 0 → a ≠ b → (TJ9 a).2.1 ≠ (TJ9 b).2.1 := by decide +kernel
theorem tyJ9_ok : ∀ k, k < 0 → parseFieldDescriptor (TJ9 k).2.2.1 = some (tyJ9 k) := by decide +kernel
abbrev cJ9_max_7cf53 : ByteArray := prog_21_method_65_code
def yJ9_max_7cf53 : MethodName := ⟨RJ9, "max", "(II)I"⟩
abbrev cJ9_min_7cf53 : ByteArray := prog_21_method_69_code
def yJ9_min_7cf53 : MethodName := ⟨RJ9, "min", "(II)I"⟩
def RJxd2413 : String := "java/lang/Number"
def TJxd2413 : u_T := fun k => match k with
  | _ => ("", "", "", false)
def tyJxd2413 : Nat → FieldType := fun k => match k with
  | _ => .int
abbrev wsJxd24130 : List Cond := u_ws RJxd2413 TJxd2413 0
theorem nmJxd2413 : ∀ a, a < 0 → ∀ b, b < 0 → a ≠ b → (TJxd2413 a).2.1 ≠ (TJxd2413 b).2.1 := by decide +kernel
theorem tyJxd2413_ok : ∀ k, k < 0 → parseFieldDescriptor (TJxd2413 k).2.2.1 = some (tyJxd2413 k) := by decide +kernel
def RJ0 : String := "java/lang/String"
def TJ0 : u_T := fun k => match k with
  | 0 => ("java/lang/String", "value", "[B", true)
  | _ => ("java/lang/String", "coder", "B", true)
def tyJ0 : Nat → FieldType := fun k => match k with
  | 0 => .array .byte
  | _ => .byte
abbrev wsJ00 : List Cond := u_ws RJ0 TJ0 2
theorem nmJ0 : ∀ a, a < 2 → ∀ b, b < 2 → a ≠ b → (TJ0 a).2.1 ≠ (TJ0 b).2.1 := by decide +kernel
theorem tyJ0_ok : ∀ k, k < 2 → parseFieldDescriptor (TJ0 k).2.2.1 = some (tyJ0 k) := by decide +kernel
abbrev cJ0_length_8abf5 : ByteArray := prog_24_method_54_code
def yJ0_length_8abf5 : MethodName := ⟨RJ0, "length", "()I"⟩
abbrev cJ0_charAt_5068e : ByteArray := prog_24_method_56_code
def yJ0_charAt_5068e : MethodName := ⟨RJ0, "charAt", "(I)C"⟩
abbrev cJ0_coder_7d493 : ByteArray := prog_24_method_152_code
def yJ0_coder_7d493 : MethodName := ⟨RJ0, "coder", "()B"⟩
abbrev cJ0_isLatin1_aae02 : ByteArray := prog_24_method_154_code
def yJ0_isLatin1_aae02 : MethodName := ⟨RJ0, "isLatin1", "()Z"⟩
abbrev cJ0_checkIndex_df160 : ByteArray := prog_24_method_155_code
def yJ0_checkIndex_df160 : MethodName := ⟨RJ0, "checkIndex", "(II)V"⟩
def RJ1 : String := "java/lang/StringLatin1"
def TJ1 : u_T := fun k => match k with
  | _ => ("", "", "", false)
def tyJ1 : Nat → FieldType := fun k => match k with
  | _ => .int
abbrev wsJ10 : List Cond := u_ws RJ1 TJ1 0
theorem nmJ1 : ∀ a, a < 0 → ∀ b, b < 0 → a ≠ b → (TJ1 a).2.1 ≠ (TJ1 b).2.1 := by decide +kernel
theorem tyJ1_ok : ∀ k, k < 0 → parseFieldDescriptor (TJ1 k).2.2.1 = some (tyJ1 k) := by decide +kernel
abbrev cJ1_charAt_3b067 : ByteArray := prog_25_method_2_code
def yJ1_charAt_3b067 : MethodName := ⟨RJ1, "charAt", "([BI)C"⟩
def RJ2 : String := "java/lang/StringUTF16"
def TJ2 : u_T := fun k => match k with
  | _ => ("", "", "", false)
def tyJ2 : Nat → FieldType := fun k => match k with
  | _ => .int
abbrev wsJ20 : List Cond := u_ws RJ2 TJ2 0
theorem nmJ2 : ∀ a, a < 0 → ∀ b, b < 0 → a ≠ b → (TJ2 a).2.1 ≠ (TJ2 b).2.1 := by decide +kernel
theorem tyJ2_ok : ∀ k, k < 0 → parseFieldDescriptor (TJ2 k).2.2.1 = some (tyJ2 k) := by decide +kernel
abbrev cJ2_getChar_3b067 : ByteArray := prog_26_method_5_code
def yJ2_getChar_3b067 : MethodName := ⟨RJ2, "getChar", "([BI)C"⟩
abbrev cJ2_length_9d52b : ByteArray := prog_26_method_6_code
def yJ2_length_9d52b : MethodName := ⟨RJ2, "length", "([B)I"⟩
abbrev cJ2_charAt_3b067 : ByteArray := prog_26_method_83_code
def yJ2_charAt_3b067 : MethodName := ⟨RJ2, "charAt", "([BI)C"⟩
abbrev cJ2_checkIndex_2214a : ByteArray := prog_26_method_91_code
def yJ2_checkIndex_2214a : MethodName := ⟨RJ2, "checkIndex", "(I[B)V"⟩
def RJxfd54e : String := "java/lang/constant/Constable"
def TJxfd54e : u_T := fun k => match k with
  | _ => ("", "", "", false)
def tyJxfd54e : Nat → FieldType := fun k => match k with
  | _ => .int
abbrev wsJxfd54e0 : List Cond := u_ws RJxfd54e TJxfd54e 0
theorem nmJxfd54e : ∀ a, a < 0 → ∀ b, b < 0 → a ≠ b → (TJxfd54e a).2.1 ≠ (TJxfd54e b).2.1 := by decide +kernel
theorem tyJxfd54e_ok : ∀ k, k < 0 → parseFieldDescriptor (TJxfd54e k).2.2.1 = some (tyJxfd54e k) := by decide +kernel
def RJx3cf43 : String := "java/lang/constant/ConstantDesc"
def TJx3cf43 : u_T := fun k => match k with
  | _ => ("", "", "", false)
def tyJx3cf43 : Nat → FieldType := fun k => match k with
  | _ => .int
abbrev wsJx3cf430 : List Cond := u_ws RJx3cf43 TJx3cf43 0
theorem nmJx3cf43 : ∀ a, a < 0 → ∀ b, b < 0 → a ≠ b → (TJx3cf43 a).2.1 ≠ (TJx3cf43 b).2.1 := by decide +kernel
theorem tyJx3cf43_ok : ∀ k, k < 0 → parseFieldDescriptor (TJx3cf43 k).2.2.1 = some (tyJx3cf43 k) := by decide +kernel
def RJ3 : String := "jdk/internal/util/Preconditions"
def TJ3 : u_T := fun k => match k with
  | _ => ("", "", "", false)
def tyJ3 : Nat → FieldType := fun k => match k with
  | _ => .int
abbrev wsJ30 : List Cond := u_ws RJ3 TJ3 0
theorem nmJ3 : ∀ a, a < 0 → ∀ b, b < 0 → a ≠ b → (TJ3 a).2.1 ≠ (TJ3 b).2.1 := by decide +kernel
theorem tyJ3_ok : ∀ k, k < 0 → parseFieldDescriptor (TJ3 k).2.2.1 = some (tyJ3 k) := by decide +kernel
abbrev cJ3_checkIndex_8e157 : ByteArray := prog_32_method_11_code
def yJ3_checkIndex_8e157 : MethodName := ⟨RJ3, "checkIndex", "(IILjava/util/function/BiFunction;)I"⟩
def RL : String := "FordTollLaw"
abbrev cL_at : ByteArray := method_2_code
def yL_at : MethodName := ⟨RL, "at", "([II)I"⟩
abbrev cL_some : ByteArray := method_3_code
def yL_some : MethodName := ⟨RL, "some", "(II)I"⟩
abbrev cL_height : ByteArray := method_4_code
def yL_height : MethodName := ⟨RL, "height", "(LFordToll;II)I"⟩
abbrev cL_rain : ByteArray := method_5_code
def yL_rain : MethodName := ⟨RL, "rain", "(LFordToll;I)I"⟩
abbrev cL_letters : ByteArray := method_6_code
def yL_letters : MethodName := ⟨RL, "letters", "(LFordToll;I)I"⟩
abbrev cL_stoneOf : ByteArray := method_7_code
def yL_stoneOf : MethodName := ⟨RL, "stoneOf", "(LFordToll;II)I"⟩
abbrev cL_flood : ByteArray := method_8_code
def yL_flood : MethodName := ⟨RL, "flood", "(LFordToll;I)I"⟩
abbrev cL_floodAgain : ByteArray := method_9_code
def yL_floodAgain : MethodName := ⟨RL, "floodAgain", "(LFordToll;I)I"⟩
abbrev cL_clearIn : ByteArray := method_10_code
def yL_clearIn : MethodName := ⟨RL, "clearIn", "(LFordToll;)I"⟩
abbrev cL_traveller : ByteArray := method_11_code
def yL_traveller : MethodName := ⟨RL, "traveller", "(LFordToll;I)I"⟩
abbrev cL_travellerOf : ByteArray := method_12_code
def yL_travellerOf : MethodName := ⟨RL, "travellerOf", "(LFordToll;II)I"⟩
abbrev cL_fee : ByteArray := method_13_code
def yL_fee : MethodName := ⟨RL, "fee", "(LFordToll;I)I"⟩
abbrev cL_setOut : ByteArray := method_14_code
def yL_setOut : MethodName := ⟨RL, "setOut", "(LFordToll;I)I"⟩
abbrev cL_stop : ByteArray := method_15_code
def yL_stop : MethodName := ⟨RL, "stop", "(LFordToll;I)I"⟩
abbrev cL_go : ByteArray := method_16_code
def yL_go : MethodName := ⟨RL, "go", "(LFordToll;I)I"⟩
abbrev cL_leave : ByteArray := method_17_code
def yL_leave : MethodName := ⟨RL, "leave", "(LFordToll;I)I"⟩
abbrev cL_pass : ByteArray := method_18_code
def yL_pass : MethodName := ⟨RL, "pass", "(LFordToll;I)I"⟩
abbrev cL_crossedIn : ByteArray := method_19_code
def yL_crossedIn : MethodName := ⟨RL, "crossedIn", "(LFordToll;I)I"⟩
abbrev cL_wetSteps : ByteArray := method_20_code
def yL_wetSteps : MethodName := ⟨RL, "wetSteps", "(LFordToll;I)I"⟩
abbrev cL_type : ByteArray := method_21_code
def yL_type : MethodName := ⟨RL, "type", "(LFordToll;C)I"⟩
abbrev cL_ask : ByteArray := method_22_code
def yL_ask : MethodName := ⟨RL, "ask", "(LFordToll;)I"⟩
abbrev cL_answer : ByteArray := method_23_code
def yL_answer : MethodName := ⟨RL, "answer", "(LFordToll;I)I"⟩
abbrev cL_errorPosition : ByteArray := method_24_code
def yL_errorPosition : MethodName := ⟨RL, "errorPosition", "(LFordToll;)I"⟩
abbrev cL_refusal : ByteArray := method_25_code
def yL_refusal : MethodName := ⟨RL, "refusal", "(LFordToll;Z)I"⟩
abbrev cL_written : ByteArray := method_26_code
def yL_written : MethodName := ⟨RL, "written", "(LFordToll;I)I"⟩
abbrev cL_account : ByteArray := method_27_code
def yL_account : MethodName := ⟨RL, "account", "(LFordToll;I)I"⟩
abbrev cL_meanWet : ByteArray := method_28_code
def yL_meanWet : MethodName := ⟨RL, "meanWet", "(LFordToll;)D"⟩
abbrev cL_crossingShare : ByteArray := method_29_code
def yL_crossingShare : MethodName := ⟨RL, "crossingShare", "(LFordToll;)F"⟩
abbrev cL_undo : ByteArray := method_30_code
def yL_undo : MethodName := ⟨RL, "undo", "(LFordToll;)I"⟩
abbrev cL_restore : ByteArray := method_31_code
def yL_restore : MethodName := ⟨RL, "restore", "(LFordToll;)I"⟩
abbrev cL_asks : ByteArray := method_32_code
def yL_asks : MethodName := ⟨RL, "asks", "(LFordToll;Ljava/lang/String;)I"⟩
abbrev cL_is : ByteArray := method_33_code
def yL_is : MethodName := ⟨RL, "is", "(LFordToll;II)Z"⟩
abbrev cL_makes : ByteArray := method_35_code
def yL_makes : MethodName := ⟨RL, "makes", "(LFordToll;[I)Z"⟩
abbrev cL_told : ByteArray := method_36_code
def yL_told : MethodName := ⟨RL, "told", "(LFordToll;)J"⟩
abbrev cL_changes : ByteArray := method_37_code
def yL_changes : MethodName := ⟨RL, "changes", "(LFordToll;I)Z"⟩
abbrev cL_refused : ByteArray := method_38_code
def yL_refused : MethodName := ⟨RL, "refused", "(LFordToll;)Z"⟩
abbrev cL_law : ByteArray := code
def yL_law : MethodName := ⟨RL, "law", "([I)Z"⟩
abbrev cL_o9 : ByteArray := method_40_code
def yL_o9 : MethodName := ⟨RL, "o9", "(LFordToll;)I"⟩
