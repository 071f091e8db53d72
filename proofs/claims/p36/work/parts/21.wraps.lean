theorem cst_ArrayIndexOutOfBoundsException : Cond.castable "java/lang/ArrayIndexOutOfBoundsException" "java/lang/ArrayIndexOutOfBoundsException" ∈ wC := wC_of (tb_2 (List.mem_of_getElem? (i := 74) rfl)) rfl
theorem cst_IndexOutOfBoundsException : Cond.castable "java/lang/IndexOutOfBoundsException" "java/lang/IndexOutOfBoundsException" ∈ wC := wC_of (tb_2 (List.mem_of_getElem? (i := 110) rfl)) rfl
theorem cst_IllegalArgumentException : Cond.castable "java/lang/IllegalArgumentException" "java/lang/IllegalArgumentException" ∈ wC := wC_of (tb_2 (List.mem_of_getElem? (i := 126) rfl)) rfl
theorem cst_UnsupportedOperationException : Cond.castable "java/lang/UnsupportedOperationException" "java/lang/UnsupportedOperationException" ∈ wC := wC_of (tb_2 (List.mem_of_getElem? (i := 150) rfl)) rfl
theorem cst_NoSuchElementException : Cond.castable "java/util/NoSuchElementException" "java/util/NoSuchElementException" ∈ wC := wC_of (tb_2 (List.mem_of_getElem? (i := 194) rfl)) rfl
theorem cst_IllegalStateException : Cond.castable "java/lang/IllegalStateException" "java/lang/IllegalStateException" ∈ wC := wC_of (tb_3 (List.mem_of_getElem? (i := 144) rfl)) rfl
theorem cst_ArithmeticException : Cond.castable "java/lang/ArithmeticException" "java/lang/ArithmeticException" ∈ wC := wC_of (tb_4 (List.mem_of_getElem? (i := 92) rfl)) rfl
theorem ncG {a b : String} {A : Nat → Prop} {ex : Nat → Nat → Nat} {U : State} {H : Heap} (h : ST ex A U H) (hm : (a, b) ∈ ncP) : va_Nc a b U := h.2.2.2.2.2.2.2.2.2.2.2.2.1 _ hm
theorem csG {a b : String} {A : Nat → Prop} {ex : Nat → Nat → Nat} {U : State} {H : Heap} {args : Array Value} (h : ST ex A U H) (hm : Cond.castable a b ∈ wC) : (Cond.castable a b).before args U = true := va_Nw.use rfl (h.2.1 _ hm)
theorem wh_L_124 : WH "FordTollLaw" 124 yL_type cL_type 3 (some .int) [(0, 5, 6, 75)] 2 := ⟨q3_130, q3_131, q1_0, q3_132, by decide, by decide, by decide +kernel⟩
theorem wh_L_129 : WH "FordTollLaw" 129 yL_ask cL_ask 2 (some .int) [(0, 4, 5, 15)] 1 := ⟨q3_162, q3_163, q1_0, q3_164, by decide, by decide, by decide +kernel⟩
theorem wh_L_132 : WH "FordTollLaw" 132 yL_refusal cL_refusal 3 (some .int) [(0, 5, 6, 39)] 2 := ⟨q4_129, q4_130, q1_0, q4_131, by decide, by decide, by decide +kernel⟩
theorem wv_L_141 : WT "FordTollLaw" 141 yL_at cL_at 2 (some .int) 2 := ⟨q2_10, q2_11, q1_0, q2_12, by decide, by decide, by decide +kernel⟩
theorem wv_L_145 : WT "FordTollLaw" 145 yL_some cL_some 3 (some .int) 2 := ⟨q2_13, q2_14, q1_0, q2_15, by decide, by decide, by decide +kernel⟩
theorem wh_L_148 : WH "FordTollLaw" 148 yL_height cL_height 4 (some .int) [(0, 6, 7, 13), (0, 6, 12, 15), (0, 6, 17, 17)] 3 := ⟨q2_16, q2_17, q1_0, q2_18, by decide, by decide, by decide +kernel⟩
theorem wh_L_151 : WH "FordTollLaw" 151 yL_traveller cL_traveller 3 (some .int) [(0, 5, 6, 15), (0, 5, 11, 17)] 2 := ⟨q2_208, q2_209, q1_0, q2_210, by decide, by decide, by decide +kernel⟩
theorem wh_L_153 : WH "FordTollLaw" 153 yL_letters cL_letters 3 (some .int) [(0, 5, 6, 15), (0, 5, 11, 17)] 2 := ⟨q4_140, q4_141, q1_0, q4_142, by decide, by decide, by decide +kernel⟩
theorem wh_L_155 : WH "FordTollLaw" 155 yL_rain cL_rain 3 (some .int) [(0, 5, 6, 15)] 2 := ⟨q4_147, q4_148, q1_0, q4_149, by decide, by decide, by decide +kernel⟩
theorem wh_L_159 : WH "FordTollLaw" 159 yL_meanWet cL_meanWet 2 (some .double) [(0, 4, 5, 101)] 1 := ⟨q4_158, q4_159, q1_0, q4_160, by decide, by decide, by decide +kernel⟩
theorem wh_L_168 : WH "FordTollLaw" 168 yL_crossingShare cL_crossingShare 2 (some .float) [(0, 4, 5, 101)] 1 := ⟨q4_77, q4_78, q1_0, q4_79, by decide, by decide, by decide +kernel⟩
theorem wh_L_177 : WH "FordTollLaw" 177 yL_account cL_account 3 (some .int) [(0, 5, 6, 15)] 2 := ⟨q4_60, q4_61, q1_0, q4_62, by decide, by decide, by decide +kernel⟩
theorem wh_L_179 : WH "FordTollLaw" 179 yL_stoneOf cL_stoneOf 4 (some .int) [(0, 6, 7, 13), (0, 6, 12, 15)] 3 := ⟨q4_187, q4_188, q1_0, q4_189, by decide, by decide, by decide +kernel⟩
theorem wh_L_181 : WH "FordTollLaw" 181 yL_travellerOf cL_travellerOf 4 (some .int) [(0, 6, 7, 13), (0, 6, 12, 15)] 3 := ⟨q2_223, q2_224, q1_0, q2_225, by decide, by decide, by decide +kernel⟩
theorem wh_L_183 : WH "FordTollLaw" 183 yL_fee cL_fee 3 (some .int) [(0, 5, 6, 13)] 2 := ⟨q3_7, q3_8, q1_0, q3_9, by decide, by decide, by decide +kernel⟩
theorem wh_L_185 : WH "FordTollLaw" 185 yL_crossedIn cL_crossedIn 3 (some .int) [(0, 5, 6, 13), (0, 5, 11, 39)] 2 := ⟨q3_118, q3_119, q1_0, q3_120, by decide, by decide, by decide +kernel⟩
theorem wh_L_138 : WH "FordTollLaw" 138 yL_written cL_written 3 (some .int) [(0, 5, 6, 39)] 2 := ⟨q4_210, q4_211, q1_0, q4_212, by decide, by decide, by decide +kernel⟩
theorem wh_L_187 : WH "FordTollLaw" 187 yL_wetSteps cL_wetSteps 3 (some .int) [(0, 5, 6, 15), (0, 5, 11, 39)] 2 := ⟨q4_218, q4_219, q1_0, q4_220, by decide, by decide, by decide +kernel⟩
theorem wh_L_195 : WH "FordTollLaw" 195 yL_clearIn cL_clearIn 2 (some .int) [(0, 4, 5, 39)] 1 := ⟨q2_172, q2_173, q1_0, q2_174, by decide, by decide, by decide +kernel⟩
theorem wh_L_197 : WH "FordTollLaw" 197 yL_flood cL_flood 3 (some .int) [(0, 5, 6, 15)] 2 := ⟨q4_226, q4_227, q1_0, q4_228, by decide, by decide, by decide +kernel⟩
theorem wh_L_199 : WH "FordTollLaw" 199 yL_floodAgain cL_floodAgain 3 (some .int) [(0, 5, 6, 15)] 2 := ⟨q4_233, q4_234, q1_0, q4_235, by decide, by decide, by decide +kernel⟩
theorem wh_L_204 : WH "FordTollLaw" 204 yL_leave cL_leave 3 (some .int) [(0, 5, 6, 13), (0, 5, 11, 17)] 2 := ⟨q3_49, q3_50, q1_0, q3_51, by decide, by decide, by decide +kernel⟩
theorem wh_L_206 : WH "FordTollLaw" 206 yL_setOut cL_setOut 3 (some .int) [(0, 5, 6, 13), (0, 5, 11, 17)] 2 := ⟨q3_18, q3_19, q1_0, q3_20, by decide, by decide, by decide +kernel⟩
theorem wh_L_208 : WH "FordTollLaw" 208 yL_stop cL_stop 3 (some .int) [(0, 5, 6, 13), (0, 5, 11, 17)] 2 := ⟨q3_31, q3_32, q1_0, q3_33, by decide, by decide, by decide +kernel⟩
theorem wh_L_210 : WH "FordTollLaw" 210 yL_go cL_go 3 (some .int) [(0, 5, 6, 13), (0, 5, 11, 17)] 2 := ⟨q3_42, q3_43, q1_0, q3_44, by decide, by decide, by decide +kernel⟩
theorem wh_L_212 : WH "FordTollLaw" 212 yL_pass cL_pass 3 (some .int) [(0, 5, 6, 15)] 2 := ⟨q3_60, q3_61, q1_0, q3_62, by decide, by decide, by decide +kernel⟩
theorem wv_L_214 : WT "FordTollLaw" 214 yL_told cL_told 5 (some .long) 1 := ⟨q4_154, q4_155, q1_0, q4_156, by decide, by decide, by decide +kernel⟩
theorem wh_L_218 : WH "FordTollLaw" 218 yL_answer cL_answer 3 (some .int) [(0, 5, 6, 39)] 2 := ⟨q5_14, q5_15, q1_0, q5_16, by decide, by decide, by decide +kernel⟩
theorem wv_L_222 : WT "FordTollLaw" 222 yL_asks cL_asks 3 (some .int) 2 := ⟨q5_23, q5_24, q1_0, q5_25, by decide, by decide, by decide +kernel⟩
theorem wh_L_226 : WH "FordTollLaw" 226 yL_errorPosition cL_errorPosition 2 (some .int) [(0, 4, 5, 39)] 1 := ⟨q4_52, q4_53, q1_0, q4_54, by decide, by decide, by decide +kernel⟩
theorem wh_L_231 : WH "FordTollLaw" 231 yL_undo cL_undo 2 (some .int) [(0, 4, 5, 75)] 1 := ⟨q4_102, q4_103, q1_0, q4_104, by decide, by decide, by decide +kernel⟩
theorem wh_L_233 : WH "FordTollLaw" 233 yL_restore cL_restore 2 (some .int) [(0, 4, 5, 75)] 1 := ⟨q4_114, q4_115, q1_0, q4_116, by decide, by decide, by decide +kernel⟩
theorem wv_L_238 : WT "FordTollLaw" 238 yL_is cL_is 3 (some .boolean) 3 := ⟨q4_126, q4_127, q1_0, q4_128, by decide, by decide, by decide +kernel⟩
theorem wv_L_242 : WT "FordTollLaw" 242 yL_o9 cL_o9 1 (some .int) 1 := ⟨q5_29, q5_30, q1_0, q5_31, by decide, by decide, by decide +kernel⟩
theorem wv_L_245 : WT "FordTollLaw" 245 yL_makes cL_makes 4 (some .boolean) 2 := ⟨q4_137, q4_138, q1_0, q4_139, by decide, by decide, by decide +kernel⟩
theorem wv_L_249 : WT "FordTollLaw" 249 yL_refused cL_refused 5 (some .boolean) 1 := ⟨q5_11, q5_12, q1_0, q5_13, by decide, by decide, by decide +kernel⟩
theorem wv_L_253 : WT "FordTollLaw" 253 yL_changes cL_changes 3 (some .boolean) 2 := ⟨q5_8, q5_9, q1_0, q5_10, by decide, by decide, by decide +kernel⟩
def mL_height (post : Int32 → Mem → Prop) (S : Mem) (v1 : Int32) (v2 : Int32) : Prop := mX5_height (fun (r : Int32) (S1 : Mem) => post r S1) (fun (E : String) (S1 : Mem) => (E = "java/lang/IndexOutOfBoundsException" ∧ post (-1001 : Int32) S1) ∨ (E = "java/lang/IllegalArgumentException" ∧ post (-1002 : Int32) S1) ∨ (E = "java/lang/UnsupportedOperationException" ∧ post (-1003 : Int32) S1)) S v1 v2
def rmL_height : Room := { frames := 8, cells := 3, slots := 18, locals := 128 }
set_option maxRecDepth 100000 in
theorem kL_height {l : Launch} {D : va_G} {ky : Nat → ClassId} {ad : Nat → Nat} {ex : Nat → Nat → Nat} {post : Int32 → Mem → Prop} {S : Mem} {v1 : Int32} {v2 : Int32} (hf : l.stackTraces = false) (h : mL_height post S v1 v2) : CWi l D ky ad ex yL_height cL_height 4 (some .int) [(0, 6, 7, 13), (0, 6, 12, 15), (0, 6, 17, 17)] rmL_height 3 18 [.ref (ad 110), .int v1, .int v2] S post := by
  refine CWi.of (by decide) (Nat.le_of_ble_eq_true rfl) (fun p e s m args below meth c ls F hr ht C hl => ?_)
  have hl : lv_has ls 4 [(0, .ref (ad 110)), (1, .int v1), (2, .int v2)] := hl
  unfold mL_height at h
  refine lv_aload_n F.x F.b dL_height_0 rfl (lv_at hl 0 rfl) ?_
  refine lv_iload_n F.x F.b dL_height_1 rfl (lv_at hl 1 rfl) ?_
  refine lv_iload_n F.x F.b dL_height_2 rfl (lv_at hl 2 rfl) ?_
  refine gkX F.g C.g hl (kX5_height hf h) (by decide) (ce_X _) rfl wv_L_7 ⟨rfl, rfl, ⟨Nat.le_of_ble_eq_true rfl, Nat.le_of_ble_eq_true rfl⟩, ⟨Nat.le_of_ble_eq_true rfl, Nat.le_of_ble_eq_true rfl⟩, Nat.le_of_ble_eq_true rfl⟩ (rest := []) rfl dL_height_3 (fun E9 ce9 q9 S1 H locs hp C hc9 hv9 hcl9 => ?_) (fun r S1 H locs h C => ?_)
  · rcases hp with ⟨rfl, h⟩ | ⟨rfl, h⟩ | ⟨rfl, h⟩
    · refine vx_catch F.ow [] ⟨0, 6, 7, 13⟩ [⟨0, 6, 12, 15⟩, ⟨0, 6, 17, 17⟩] (by rw [ht]; rfl) (fun z hz => nomatch hz) rfl (by decide) (F.ts _ q2_19) (csG F.st cst_IndexOutOfBoundsException) hc9 hv9 hcl9 ?_
      refine lv_astore_n (lv' := [(3, .ref q9), (0, .ref (ad 110)), (1, .int v1), (2, .int v2)]) F.x F.b dL_height_7 rfl hl (by decide) rfl (fun ls hl => ?_)
      refine lv_sipush (v := -1001) F.x F.b dL_height_8 (by decide) ?_
      exact vx_ret (retI F hr C.c h dL_height_11)
    · refine vx_catch F.ow [⟨0, 6, 7, 13⟩] ⟨0, 6, 12, 15⟩ [⟨0, 6, 17, 17⟩] (by rw [ht]; rfl) (fun z hz => by cases List.mem_singleton.mp hz; exact Or.inr ⟨by decide, "java/lang/IndexOutOfBoundsException", F.ts _ q2_19, ncG F.st (List.mem_of_getElem? (i := 0) rfl)⟩) rfl (by decide) (F.ts _ q2_99) (csG F.st cst_IllegalArgumentException) hc9 hv9 hcl9 ?_
      refine lv_astore_n (lv' := [(3, .ref q9), (0, .ref (ad 110)), (1, .int v1), (2, .int v2)]) F.x F.b dL_height_12 rfl hl (by decide) rfl (fun ls hl => ?_)
      refine lv_sipush (v := -1002) F.x F.b dL_height_13 (by decide) ?_
      exact vx_ret (retI F hr C.c h dL_height_16)
    · refine vx_catch F.ow [⟨0, 6, 7, 13⟩, ⟨0, 6, 12, 15⟩] ⟨0, 6, 17, 17⟩ [] (by rw [ht]; rfl) (fun z hz => by rcases List.mem_cons.mp hz with rfl | hz; exact Or.inr ⟨by decide, "java/lang/IndexOutOfBoundsException", F.ts _ q2_19, ncG F.st (List.mem_of_getElem? (i := 1) rfl)⟩; cases List.mem_singleton.mp hz; exact Or.inr ⟨by decide, "java/lang/IllegalArgumentException", F.ts _ q2_99, ncG F.st (List.mem_of_getElem? (i := 2) rfl)⟩) rfl (by decide) (F.ts _ q2_100) (csG F.st cst_UnsupportedOperationException) hc9 hv9 hcl9 ?_
      refine lv_astore_n (lv' := [(3, .ref q9), (0, .ref (ad 110)), (1, .int v1), (2, .int v2)]) F.x F.b dL_height_17 rfl hl (by decide) rfl (fun ls hl => ?_)
      refine lv_sipush (v := -1003) F.x F.b dL_height_18 (by decide) ?_
      exact vx_ret (retI F hr C.c h dL_height_21)
  · exact vx_ret (retI F hr C.c h dL_height_6)
def mL_rain (post : Int32 → Mem → Prop) (S : Mem) (v1 : Int32) : Prop := mX5_rain (fun (r : Int32) (S1 : Mem) => post r S1) (fun (E : String) (S1 : Mem) => (E = "java/lang/IllegalArgumentException" ∧ post (-1001 : Int32) S1)) S v1
def rmL_rain : Room := { frames := 8, cells := 1, slots := 6, locals := 126 }
set_option maxRecDepth 100000 in
theorem kL_rain {l : Launch} {D : va_G} {ky : Nat → ClassId} {ad : Nat → Nat} {ex : Nat → Nat → Nat} {post : Int32 → Mem → Prop} {S : Mem} {v1 : Int32} (hf : l.stackTraces = false) (h : mL_rain post S v1) : CWi l D ky ad ex yL_rain cL_rain 3 (some .int) [(0, 5, 6, 15)] rmL_rain 1 6 [.ref (ad 110), .int v1] S post := by
  refine CWi.of (by decide) (Nat.le_of_ble_eq_true rfl) (fun p e s m args below meth c ls F hr ht C hl => ?_)
  have hl : lv_has ls 3 [(0, .ref (ad 110)), (1, .int v1)] := hl
  unfold mL_rain at h
  refine lv_aload_n F.x F.b dL_rain_0 rfl (lv_at hl 0 rfl) ?_
  refine lv_iload_n F.x F.b dL_rain_1 rfl (lv_at hl 1 rfl) ?_
  refine gkX F.g C.g hl (kX5_rain hf h) (by decide) (ce_X _) rfl wv_L_19 ⟨rfl, rfl, ⟨Nat.le_of_ble_eq_true rfl, Nat.le_of_ble_eq_true rfl⟩, ⟨Nat.le_of_ble_eq_true rfl, Nat.le_of_ble_eq_true rfl⟩, Nat.le_of_ble_eq_true rfl⟩ (rest := []) rfl dL_rain_2 (fun E9 ce9 q9 S1 H locs hp C hc9 hv9 hcl9 => ?_) (fun r S1 H locs h C => ?_)
  · obtain ⟨rfl, h⟩ := hp
    refine vx_catch F.ow [] ⟨0, 5, 6, 15⟩ [] (by rw [ht]; rfl) (fun z hz => nomatch hz) rfl (by decide) (F.ts _ q2_99) (csG F.st cst_IllegalArgumentException) hc9 hv9 hcl9 ?_
    refine lv_astore_n (lv' := [(2, .ref q9), (0, .ref (ad 110)), (1, .int v1)]) F.x F.b dL_rain_6 rfl hl (by decide) rfl (fun ls hl => ?_)
    refine lv_sipush (v := -1001) F.x F.b dL_rain_7 (by decide) ?_
    exact vx_ret (retI F hr C.c h dL_rain_10)
  · exact vx_ret (retI F hr C.c h dL_rain_5)
def mL_letters (post : Int32 → Mem → Prop) (S : Mem) (v1 : Int32) : Prop := mX5_letters (fun (r : Int32) (S1 : Mem) => post r S1) (fun (E : String) (S1 : Mem) => (E = "java/lang/IllegalArgumentException" ∧ post (-1001 : Int32) S1) ∨ (E = "java/lang/UnsupportedOperationException" ∧ post (-1002 : Int32) S1)) S v1
def rmL_letters : Room := { frames := 8, cells := 2, slots := 12, locals := 125 }
set_option maxRecDepth 100000 in
theorem kL_letters {l : Launch} {D : va_G} {ky : Nat → ClassId} {ad : Nat → Nat} {ex : Nat → Nat → Nat} {post : Int32 → Mem → Prop} {S : Mem} {v1 : Int32} (hf : l.stackTraces = false) (h : mL_letters post S v1) : CWi l D ky ad ex yL_letters cL_letters 3 (some .int) [(0, 5, 6, 15), (0, 5, 11, 17)] rmL_letters 2 12 [.ref (ad 110), .int v1] S post := by
  refine CWi.of (by decide) (Nat.le_of_ble_eq_true rfl) (fun p e s m args below meth c ls F hr ht C hl => ?_)
  have hl : lv_has ls 3 [(0, .ref (ad 110)), (1, .int v1)] := hl
  unfold mL_letters at h
  refine lv_aload_n F.x F.b dL_letters_0 rfl (lv_at hl 0 rfl) ?_
  refine lv_iload_n F.x F.b dL_letters_1 rfl (lv_at hl 1 rfl) ?_
  refine gkX F.g C.g hl (kX5_letters hf h) (by decide) (ce_X _) rfl wv_L_23 ⟨rfl, rfl, ⟨Nat.le_of_ble_eq_true rfl, Nat.le_of_ble_eq_true rfl⟩, ⟨Nat.le_of_ble_eq_true rfl, Nat.le_of_ble_eq_true rfl⟩, Nat.le_of_ble_eq_true rfl⟩ (rest := []) rfl dL_letters_2 (fun E9 ce9 q9 S1 H locs hp C hc9 hv9 hcl9 => ?_) (fun r S1 H locs h C => ?_)
  · rcases hp with ⟨rfl, h⟩ | ⟨rfl, h⟩
    · refine vx_catch F.ow [] ⟨0, 5, 6, 15⟩ [⟨0, 5, 11, 17⟩] (by rw [ht]; rfl) (fun z hz => nomatch hz) rfl (by decide) (F.ts _ q2_99) (csG F.st cst_IllegalArgumentException) hc9 hv9 hcl9 ?_
      refine lv_astore_n (lv' := [(2, .ref q9), (0, .ref (ad 110)), (1, .int v1)]) F.x F.b dL_letters_6 rfl hl (by decide) rfl (fun ls hl => ?_)
      refine lv_sipush (v := -1001) F.x F.b dL_letters_7 (by decide) ?_
      exact vx_ret (retI F hr C.c h dL_letters_10)
    · refine vx_catch F.ow [⟨0, 5, 6, 15⟩] ⟨0, 5, 11, 17⟩ [] (by rw [ht]; rfl) (fun z hz => by cases List.mem_singleton.mp hz; exact Or.inr ⟨by decide, "java/lang/IllegalArgumentException", F.ts _ q2_99, ncG F.st (List.mem_of_getElem? (i := 2) rfl)⟩) rfl (by decide) (F.ts _ q2_100) (csG F.st cst_UnsupportedOperationException) hc9 hv9 hcl9 ?_
      refine lv_astore_n (lv' := [(2, .ref q9), (0, .ref (ad 110)), (1, .int v1)]) F.x F.b dL_letters_11 rfl hl (by decide) rfl (fun ls hl => ?_)
      refine lv_sipush (v := -1002) F.x F.b dL_letters_12 (by decide) ?_
      exact vx_ret (retI F hr C.c h dL_letters_15)
  · exact vx_ret (retI F hr C.c h dL_letters_5)
def mL_stoneOf (post : Int32 → Mem → Prop) (S : Mem) (v1 : Int32) (v2 : Int32) : Prop := mX5_stoneOf (fun (r : Int32) (S1 : Mem) => post r S1) (fun (E : String) (S1 : Mem) => (E = "java/lang/IndexOutOfBoundsException" ∧ post (-1001 : Int32) S1) ∨ (E = "java/lang/IllegalArgumentException" ∧ post (-1002 : Int32) S1)) S v1 v2
def rmL_stoneOf : Room := { frames := 8, cells := 2, slots := 12, locals := 126 }
set_option maxRecDepth 100000 in
theorem kL_stoneOf {l : Launch} {D : va_G} {ky : Nat → ClassId} {ad : Nat → Nat} {ex : Nat → Nat → Nat} {post : Int32 → Mem → Prop} {S : Mem} {v1 : Int32} {v2 : Int32} (hf : l.stackTraces = false) (h : mL_stoneOf post S v1 v2) : CWi l D ky ad ex yL_stoneOf cL_stoneOf 4 (some .int) [(0, 6, 7, 13), (0, 6, 12, 15)] rmL_stoneOf 2 12 [.ref (ad 110), .int v1, .int v2] S post := by
  refine CWi.of (by decide) (Nat.le_of_ble_eq_true rfl) (fun p e s m args below meth c ls F hr ht C hl => ?_)
  have hl : lv_has ls 4 [(0, .ref (ad 110)), (1, .int v1), (2, .int v2)] := hl
  unfold mL_stoneOf at h
  refine lv_aload_n F.x F.b dL_stoneOf_0 rfl (lv_at hl 0 rfl) ?_
  refine lv_iload_n F.x F.b dL_stoneOf_1 rfl (lv_at hl 1 rfl) ?_
  refine lv_iload_n F.x F.b dL_stoneOf_2 rfl (lv_at hl 2 rfl) ?_
  refine gkX F.g C.g hl (kX5_stoneOf hf h) (by decide) (ce_X _) rfl wv_L_26 ⟨rfl, rfl, ⟨Nat.le_of_ble_eq_true rfl, Nat.le_of_ble_eq_true rfl⟩, ⟨Nat.le_of_ble_eq_true rfl, Nat.le_of_ble_eq_true rfl⟩, Nat.le_of_ble_eq_true rfl⟩ (rest := []) rfl dL_stoneOf_3 (fun E9 ce9 q9 S1 H locs hp C hc9 hv9 hcl9 => ?_) (fun r S1 H locs h C => ?_)
  · rcases hp with ⟨rfl, h⟩ | ⟨rfl, h⟩
    · refine vx_catch F.ow [] ⟨0, 6, 7, 13⟩ [⟨0, 6, 12, 15⟩] (by rw [ht]; rfl) (fun z hz => nomatch hz) rfl (by decide) (F.ts _ q2_19) (csG F.st cst_IndexOutOfBoundsException) hc9 hv9 hcl9 ?_
      refine lv_astore_n (lv' := [(3, .ref q9), (0, .ref (ad 110)), (1, .int v1), (2, .int v2)]) F.x F.b dL_stoneOf_7 rfl hl (by decide) rfl (fun ls hl => ?_)
      refine lv_sipush (v := -1001) F.x F.b dL_stoneOf_8 (by decide) ?_
      exact vx_ret (retI F hr C.c h dL_stoneOf_11)
    · refine vx_catch F.ow [⟨0, 6, 7, 13⟩] ⟨0, 6, 12, 15⟩ [] (by rw [ht]; rfl) (fun z hz => by cases List.mem_singleton.mp hz; exact Or.inr ⟨by decide, "java/lang/IndexOutOfBoundsException", F.ts _ q2_19, ncG F.st (List.mem_of_getElem? (i := 0) rfl)⟩) rfl (by decide) (F.ts _ q2_99) (csG F.st cst_IllegalArgumentException) hc9 hv9 hcl9 ?_
      refine lv_astore_n (lv' := [(3, .ref q9), (0, .ref (ad 110)), (1, .int v1), (2, .int v2)]) F.x F.b dL_stoneOf_12 rfl hl (by decide) rfl (fun ls hl => ?_)
      refine lv_sipush (v := -1002) F.x F.b dL_stoneOf_13 (by decide) ?_
      exact vx_ret (retI F hr C.c h dL_stoneOf_16)
  · exact vx_ret (retI F hr C.c h dL_stoneOf_6)
def mL_flood (post : Int32 → Mem → Prop) (S : Mem) (v1 : Int32) : Prop := mX5_flood (fun (r : Int32) (S1 : Mem) => post r S1) (fun (E : String) (S1 : Mem) => (E = "java/lang/IllegalArgumentException" ∧ post (-1001 : Int32) S1)) S v1
def rmL_flood : Room := { frames := 8, cells := 1, slots := 6, locals := 127 }
set_option maxRecDepth 100000 in
theorem kL_flood {l : Launch} {D : va_G} {ky : Nat → ClassId} {ad : Nat → Nat} {ex : Nat → Nat → Nat} {post : Int32 → Mem → Prop} {S : Mem} {v1 : Int32} (hf : l.stackTraces = false) (h : mL_flood post S v1) : CWi l D ky ad ex yL_flood cL_flood 3 (some .int) [(0, 5, 6, 15)] rmL_flood 1 6 [.ref (ad 110), .int v1] S post := by
  refine CWi.of (by decide) (Nat.le_of_ble_eq_true rfl) (fun p e s m args below meth c ls F hr ht C hl => ?_)
  have hl : lv_has ls 3 [(0, .ref (ad 110)), (1, .int v1)] := hl
  unfold mL_flood at h
  refine lv_aload_n F.x F.b dL_flood_0 rfl (lv_at hl 0 rfl) ?_
  refine lv_iload_n F.x F.b dL_flood_1 rfl (lv_at hl 1 rfl) ?_
  refine gkX F.g C.g hl (kX5_flood hf h) (by decide) (ce_X _) rfl wv_L_29 ⟨rfl, rfl, ⟨Nat.le_of_ble_eq_true rfl, Nat.le_of_ble_eq_true rfl⟩, ⟨Nat.le_of_ble_eq_true rfl, Nat.le_of_ble_eq_true rfl⟩, Nat.le_of_ble_eq_true rfl⟩ (rest := []) rfl dL_flood_2 (fun E9 ce9 q9 S1 H locs hp C hc9 hv9 hcl9 => ?_) (fun r S1 H locs h C => ?_)
  · obtain ⟨rfl, h⟩ := hp
    refine vx_catch F.ow [] ⟨0, 5, 6, 15⟩ [] (by rw [ht]; rfl) (fun z hz => nomatch hz) rfl (by decide) (F.ts _ q2_99) (csG F.st cst_IllegalArgumentException) hc9 hv9 hcl9 ?_
    refine lv_astore_n (lv' := [(2, .ref q9), (0, .ref (ad 110)), (1, .int v1)]) F.x F.b dL_flood_6 rfl hl (by decide) rfl (fun ls hl => ?_)
    refine lv_sipush (v := -1001) F.x F.b dL_flood_7 (by decide) ?_
    exact vx_ret (retI F hr C.c h dL_flood_10)
  · exact vx_ret (retI F hr C.c h dL_flood_5)
def mL_floodAgain (post : Int32 → Mem → Prop) (S : Mem) (v1 : Int32) : Prop := mX5_floodAgain (fun (r : Int32) (S1 : Mem) => post r S1) (fun (E : String) (S1 : Mem) => (E = "java/lang/IllegalArgumentException" ∧ post (-1001 : Int32) S1)) S v1
def rmL_floodAgain : Room := { frames := 8, cells := 1, slots := 6, locals := 125 }
set_option maxRecDepth 100000 in
theorem kL_floodAgain {l : Launch} {D : va_G} {ky : Nat → ClassId} {ad : Nat → Nat} {ex : Nat → Nat → Nat} {post : Int32 → Mem → Prop} {S : Mem} {v1 : Int32} (hf : l.stackTraces = false) (h : mL_floodAgain post S v1) : CWi l D ky ad ex yL_floodAgain cL_floodAgain 3 (some .int) [(0, 5, 6, 15)] rmL_floodAgain 1 6 [.ref (ad 110), .int v1] S post := by
  refine CWi.of (by decide) (Nat.le_of_ble_eq_true rfl) (fun p e s m args below meth c ls F hr ht C hl => ?_)
  have hl : lv_has ls 3 [(0, .ref (ad 110)), (1, .int v1)] := hl
  unfold mL_floodAgain at h
  refine lv_aload_n F.x F.b dL_floodAgain_0 rfl (lv_at hl 0 rfl) ?_
  refine lv_iload_n F.x F.b dL_floodAgain_1 rfl (lv_at hl 1 rfl) ?_
  refine gkX F.g C.g hl (kX5_floodAgain hf h) (by decide) (ce_X _) rfl wv_L_32 ⟨rfl, rfl, ⟨Nat.le_of_ble_eq_true rfl, Nat.le_of_ble_eq_true rfl⟩, ⟨Nat.le_of_ble_eq_true rfl, Nat.le_of_ble_eq_true rfl⟩, Nat.le_of_ble_eq_true rfl⟩ (rest := []) rfl dL_floodAgain_2 (fun E9 ce9 q9 S1 H locs hp C hc9 hv9 hcl9 => ?_) (fun r S1 H locs h C => ?_)
  · obtain ⟨rfl, h⟩ := hp
    refine vx_catch F.ow [] ⟨0, 5, 6, 15⟩ [] (by rw [ht]; rfl) (fun z hz => nomatch hz) rfl (by decide) (F.ts _ q2_99) (csG F.st cst_IllegalArgumentException) hc9 hv9 hcl9 ?_
    refine lv_astore_n (lv' := [(2, .ref q9), (0, .ref (ad 110)), (1, .int v1)]) F.x F.b dL_floodAgain_6 rfl hl (by decide) rfl (fun ls hl => ?_)
    refine lv_sipush (v := -1001) F.x F.b dL_floodAgain_7 (by decide) ?_
    exact vx_ret (retI F hr C.c h dL_floodAgain_10)
  · exact vx_ret (retI F hr C.c h dL_floodAgain_5)
def mL_clearIn (post : Int32 → Mem → Prop) (S : Mem) : Prop := mX5_clearIn (fun (r : Int32) (S1 : Mem) => post r S1) (fun (E : String) (S1 : Mem) => (E = "java/util/NoSuchElementException" ∧ post (-1001 : Int32) S1)) S
def rmL_clearIn : Room := { frames := 7, cells := 1, slots := 6, locals := 105 }
set_option maxRecDepth 100000 in
theorem kL_clearIn {l : Launch} {D : va_G} {ky : Nat → ClassId} {ad : Nat → Nat} {ex : Nat → Nat → Nat} {post : Int32 → Mem → Prop} {S : Mem} (hf : l.stackTraces = false) (h : mL_clearIn post S) : CWi l D ky ad ex yL_clearIn cL_clearIn 2 (some .int) [(0, 4, 5, 39)] rmL_clearIn 1 6 [.ref (ad 110)] S post := by
  refine CWi.of (by decide) (Nat.le_of_ble_eq_true rfl) (fun p e s m args below meth c ls F hr ht C hl => ?_)
  have hl : lv_has ls 2 [(0, .ref (ad 110))] := hl
  unfold mL_clearIn at h
  refine lv_aload_n F.x F.b dL_clearIn_0 rfl (lv_at hl 0 rfl) ?_
  refine gkX F.g C.g hl (kX5_clearIn hf h) (by decide) (ce_X _) rfl wv_L_35 ⟨rfl, rfl, ⟨Nat.le_of_ble_eq_true rfl, Nat.le_of_ble_eq_true rfl⟩, ⟨Nat.le_of_ble_eq_true rfl, Nat.le_of_ble_eq_true rfl⟩, Nat.le_of_ble_eq_true rfl⟩ (rest := []) rfl dL_clearIn_1 (fun E9 ce9 q9 S1 H locs hp C hc9 hv9 hcl9 => ?_) (fun r S1 H locs h C => ?_)
  · obtain ⟨rfl, h⟩ := hp
    refine vx_catch F.ow [] ⟨0, 4, 5, 39⟩ [] (by rw [ht]; rfl) (fun z hz => nomatch hz) rfl (by decide) (F.ts _ q2_175) (csG F.st cst_NoSuchElementException) hc9 hv9 hcl9 ?_
    refine lv_astore_n (lv' := [(1, .ref q9), (0, .ref (ad 110))]) F.x F.b dL_clearIn_5 rfl hl (by decide) rfl (fun ls hl => ?_)
    refine lv_sipush (v := -1001) F.x F.b dL_clearIn_6 (by decide) ?_
    exact vx_ret (retI F hr C.c h dL_clearIn_9)
  · exact vx_ret (retI F hr C.c h dL_clearIn_4)
def mL_traveller (post : Int32 → Mem → Prop) (S : Mem) (v1 : Int32) : Prop := mX5_traveller (fun (r : Int32) (S1 : Mem) => post r S1) (fun (E : String) (S1 : Mem) => (E = "java/lang/IllegalArgumentException" ∧ post (-1001 : Int32) S1) ∨ (E = "java/lang/UnsupportedOperationException" ∧ post (-1002 : Int32) S1)) S v1
def rmL_traveller : Room := { frames := 8, cells := 2, slots := 12, locals := 125 }
set_option maxRecDepth 100000 in
theorem kL_traveller {l : Launch} {D : va_G} {ky : Nat → ClassId} {ad : Nat → Nat} {ex : Nat → Nat → Nat} {post : Int32 → Mem → Prop} {S : Mem} {v1 : Int32} (hf : l.stackTraces = false) (h : mL_traveller post S v1) : CWi l D ky ad ex yL_traveller cL_traveller 3 (some .int) [(0, 5, 6, 15), (0, 5, 11, 17)] rmL_traveller 2 12 [.ref (ad 110), .int v1] S post := by
  refine CWi.of (by decide) (Nat.le_of_ble_eq_true rfl) (fun p e s m args below meth c ls F hr ht C hl => ?_)
  have hl : lv_has ls 3 [(0, .ref (ad 110)), (1, .int v1)] := hl
  unfold mL_traveller at h
  refine lv_aload_n F.x F.b dL_traveller_0 rfl (lv_at hl 0 rfl) ?_
  refine lv_iload_n F.x F.b dL_traveller_1 rfl (lv_at hl 1 rfl) ?_
  refine gkX F.g C.g hl (kX5_traveller hf h) (by decide) (ce_X _) rfl wv_L_41 ⟨rfl, rfl, ⟨Nat.le_of_ble_eq_true rfl, Nat.le_of_ble_eq_true rfl⟩, ⟨Nat.le_of_ble_eq_true rfl, Nat.le_of_ble_eq_true rfl⟩, Nat.le_of_ble_eq_true rfl⟩ (rest := []) rfl dL_traveller_2 (fun E9 ce9 q9 S1 H locs hp C hc9 hv9 hcl9 => ?_) (fun r S1 H locs h C => ?_)
  · rcases hp with ⟨rfl, h⟩ | ⟨rfl, h⟩
    · refine vx_catch F.ow [] ⟨0, 5, 6, 15⟩ [⟨0, 5, 11, 17⟩] (by rw [ht]; rfl) (fun z hz => nomatch hz) rfl (by decide) (F.ts _ q2_99) (csG F.st cst_IllegalArgumentException) hc9 hv9 hcl9 ?_
      refine lv_astore_n (lv' := [(2, .ref q9), (0, .ref (ad 110)), (1, .int v1)]) F.x F.b dL_traveller_6 rfl hl (by decide) rfl (fun ls hl => ?_)
      refine lv_sipush (v := -1001) F.x F.b dL_traveller_7 (by decide) ?_
      exact vx_ret (retI F hr C.c h dL_traveller_10)
    · refine vx_catch F.ow [⟨0, 5, 6, 15⟩] ⟨0, 5, 11, 17⟩ [] (by rw [ht]; rfl) (fun z hz => by cases List.mem_singleton.mp hz; exact Or.inr ⟨by decide, "java/lang/IllegalArgumentException", F.ts _ q2_99, ncG F.st (List.mem_of_getElem? (i := 2) rfl)⟩) rfl (by decide) (F.ts _ q2_100) (csG F.st cst_UnsupportedOperationException) hc9 hv9 hcl9 ?_
      refine lv_astore_n (lv' := [(2, .ref q9), (0, .ref (ad 110)), (1, .int v1)]) F.x F.b dL_traveller_11 rfl hl (by decide) rfl (fun ls hl => ?_)
      refine lv_sipush (v := -1002) F.x F.b dL_traveller_12 (by decide) ?_
      exact vx_ret (retI F hr C.c h dL_traveller_15)
  · exact vx_ret (retI F hr C.c h dL_traveller_5)
def mL_travellerOf (post : Int32 → Mem → Prop) (S : Mem) (v1 : Int32) (v2 : Int32) : Prop := mX5_travellerOf (fun (r : Int32) (S1 : Mem) => post r S1) (fun (E : String) (S1 : Mem) => (E = "java/lang/IndexOutOfBoundsException" ∧ post (-1001 : Int32) S1) ∨ (E = "java/lang/IllegalArgumentException" ∧ post (-1002 : Int32) S1)) S v1 v2
def rmL_travellerOf : Room := { frames := 8, cells := 2, slots := 12, locals := 127 }
set_option maxRecDepth 100000 in
theorem kL_travellerOf {l : Launch} {D : va_G} {ky : Nat → ClassId} {ad : Nat → Nat} {ex : Nat → Nat → Nat} {post : Int32 → Mem → Prop} {S : Mem} {v1 : Int32} {v2 : Int32} (hf : l.stackTraces = false) (h : mL_travellerOf post S v1 v2) : CWi l D ky ad ex yL_travellerOf cL_travellerOf 4 (some .int) [(0, 6, 7, 13), (0, 6, 12, 15)] rmL_travellerOf 2 12 [.ref (ad 110), .int v1, .int v2] S post := by
  refine CWi.of (by decide) (Nat.le_of_ble_eq_true rfl) (fun p e s m args below meth c ls F hr ht C hl => ?_)
  have hl : lv_has ls 4 [(0, .ref (ad 110)), (1, .int v1), (2, .int v2)] := hl
  unfold mL_travellerOf at h
  refine lv_aload_n F.x F.b dL_travellerOf_0 rfl (lv_at hl 0 rfl) ?_
  refine lv_iload_n F.x F.b dL_travellerOf_1 rfl (lv_at hl 1 rfl) ?_
  refine lv_iload_n F.x F.b dL_travellerOf_2 rfl (lv_at hl 2 rfl) ?_
  refine gkX F.g C.g hl (kX5_travellerOf hf h) (by decide) (ce_X _) rfl wv_L_44 ⟨rfl, rfl, ⟨Nat.le_of_ble_eq_true rfl, Nat.le_of_ble_eq_true rfl⟩, ⟨Nat.le_of_ble_eq_true rfl, Nat.le_of_ble_eq_true rfl⟩, Nat.le_of_ble_eq_true rfl⟩ (rest := []) rfl dL_travellerOf_3 (fun E9 ce9 q9 S1 H locs hp C hc9 hv9 hcl9 => ?_) (fun r S1 H locs h C => ?_)
  · rcases hp with ⟨rfl, h⟩ | ⟨rfl, h⟩
    · refine vx_catch F.ow [] ⟨0, 6, 7, 13⟩ [⟨0, 6, 12, 15⟩] (by rw [ht]; rfl) (fun z hz => nomatch hz) rfl (by decide) (F.ts _ q2_19) (csG F.st cst_IndexOutOfBoundsException) hc9 hv9 hcl9 ?_
      refine lv_astore_n (lv' := [(3, .ref q9), (0, .ref (ad 110)), (1, .int v1), (2, .int v2)]) F.x F.b dL_travellerOf_7 rfl hl (by decide) rfl (fun ls hl => ?_)
      refine lv_sipush (v := -1001) F.x F.b dL_travellerOf_8 (by decide) ?_
      exact vx_ret (retI F hr C.c h dL_travellerOf_11)
    · refine vx_catch F.ow [⟨0, 6, 7, 13⟩] ⟨0, 6, 12, 15⟩ [] (by rw [ht]; rfl) (fun z hz => by cases List.mem_singleton.mp hz; exact Or.inr ⟨by decide, "java/lang/IndexOutOfBoundsException", F.ts _ q2_19, ncG F.st (List.mem_of_getElem? (i := 0) rfl)⟩) rfl (by decide) (F.ts _ q2_99) (csG F.st cst_IllegalArgumentException) hc9 hv9 hcl9 ?_
      refine lv_astore_n (lv' := [(3, .ref q9), (0, .ref (ad 110)), (1, .int v1), (2, .int v2)]) F.x F.b dL_travellerOf_12 rfl hl (by decide) rfl (fun ls hl => ?_)
      refine lv_sipush (v := -1002) F.x F.b dL_travellerOf_13 (by decide) ?_
      exact vx_ret (retI F hr C.c h dL_travellerOf_16)
  · exact vx_ret (retI F hr C.c h dL_travellerOf_6)
def mL_fee (post : Int32 → Mem → Prop) (S : Mem) (v1 : Int32) : Prop := mX5_fee (fun (r : Int32) (S1 : Mem) => post r S1) (fun (E : String) (S1 : Mem) => (E = "java/lang/IndexOutOfBoundsException" ∧ post (-1001 : Int32) S1)) S v1
def rmL_fee : Room := { frames := 8, cells := 1, slots := 6, locals := 124 }
set_option maxRecDepth 100000 in
theorem kL_fee {l : Launch} {D : va_G} {ky : Nat → ClassId} {ad : Nat → Nat} {ex : Nat → Nat → Nat} {post : Int32 → Mem → Prop} {S : Mem} {v1 : Int32} (hf : l.stackTraces = false) (h : mL_fee post S v1) : CWi l D ky ad ex yL_fee cL_fee 3 (some .int) [(0, 5, 6, 13)] rmL_fee 1 6 [.ref (ad 110), .int v1] S post := by
  refine CWi.of (by decide) (Nat.le_of_ble_eq_true rfl) (fun p e s m args below meth c ls F hr ht C hl => ?_)
  have hl : lv_has ls 3 [(0, .ref (ad 110)), (1, .int v1)] := hl
  unfold mL_fee at h
  refine lv_aload_n F.x F.b dL_fee_0 rfl (lv_at hl 0 rfl) ?_
  refine lv_iload_n F.x F.b dL_fee_1 rfl (lv_at hl 1 rfl) ?_
  refine gkX F.g C.g hl (kX5_fee hf h) (by decide) (ce_X _) rfl wv_L_47 ⟨rfl, rfl, ⟨Nat.le_of_ble_eq_true rfl, Nat.le_of_ble_eq_true rfl⟩, ⟨Nat.le_of_ble_eq_true rfl, Nat.le_of_ble_eq_true rfl⟩, Nat.le_of_ble_eq_true rfl⟩ (rest := []) rfl dL_fee_2 (fun E9 ce9 q9 S1 H locs hp C hc9 hv9 hcl9 => ?_) (fun r S1 H locs h C => ?_)
  · obtain ⟨rfl, h⟩ := hp
    refine vx_catch F.ow [] ⟨0, 5, 6, 13⟩ [] (by rw [ht]; rfl) (fun z hz => nomatch hz) rfl (by decide) (F.ts _ q2_19) (csG F.st cst_IndexOutOfBoundsException) hc9 hv9 hcl9 ?_
    refine lv_astore_n (lv' := [(2, .ref q9), (0, .ref (ad 110)), (1, .int v1)]) F.x F.b dL_fee_6 rfl hl (by decide) rfl (fun ls hl => ?_)
    refine lv_sipush (v := -1001) F.x F.b dL_fee_7 (by decide) ?_
    exact vx_ret (retI F hr C.c h dL_fee_10)
  · exact vx_ret (retI F hr C.c h dL_fee_5)
def mL_setOut (post : Int32 → Mem → Prop) (S : Mem) (v1 : Int32) : Prop := mX5_setOut (fun (r : Int32) (S1 : Mem) => post r S1) (fun (E : String) (S1 : Mem) => (E = "java/lang/IndexOutOfBoundsException" ∧ post (-1001 : Int32) S1) ∨ (E = "java/lang/UnsupportedOperationException" ∧ post (-1002 : Int32) S1)) S v1
def rmL_setOut : Room := { frames := 8, cells := 3, slots := 18, locals := 126 }
set_option maxRecDepth 100000 in
theorem kL_setOut {l : Launch} {D : va_G} {ky : Nat → ClassId} {ad : Nat → Nat} {ex : Nat → Nat → Nat} {post : Int32 → Mem → Prop} {S : Mem} {v1 : Int32} (hf : l.stackTraces = false) (h : mL_setOut post S v1) : CWi l D ky ad ex yL_setOut cL_setOut 3 (some .int) [(0, 5, 6, 13), (0, 5, 11, 17)] rmL_setOut 3 18 [.ref (ad 110), .int v1] S post := by
  refine CWi.of (by decide) (Nat.le_of_ble_eq_true rfl) (fun p e s m args below meth c ls F hr ht C hl => ?_)
  have hl : lv_has ls 3 [(0, .ref (ad 110)), (1, .int v1)] := hl
  unfold mL_setOut at h
  refine lv_aload_n F.x F.b dL_setOut_0 rfl (lv_at hl 0 rfl) ?_
  refine lv_iload_n F.x F.b dL_setOut_1 rfl (lv_at hl 1 rfl) ?_
  refine gkX F.g C.g hl (kX5_setOut hf h) (by decide) (ce_X _) rfl wv_L_50 ⟨rfl, rfl, ⟨Nat.le_of_ble_eq_true rfl, Nat.le_of_ble_eq_true rfl⟩, ⟨Nat.le_of_ble_eq_true rfl, Nat.le_of_ble_eq_true rfl⟩, Nat.le_of_ble_eq_true rfl⟩ (rest := []) rfl dL_setOut_2 (fun E9 ce9 q9 S1 H locs hp C hc9 hv9 hcl9 => ?_) (fun r S1 H locs h C => ?_)
  · rcases hp with ⟨rfl, h⟩ | ⟨rfl, h⟩
    · refine vx_catch F.ow [] ⟨0, 5, 6, 13⟩ [⟨0, 5, 11, 17⟩] (by rw [ht]; rfl) (fun z hz => nomatch hz) rfl (by decide) (F.ts _ q2_19) (csG F.st cst_IndexOutOfBoundsException) hc9 hv9 hcl9 ?_
      refine lv_astore_n (lv' := [(2, .ref q9), (0, .ref (ad 110)), (1, .int v1)]) F.x F.b dL_setOut_6 rfl hl (by decide) rfl (fun ls hl => ?_)
      refine lv_sipush (v := -1001) F.x F.b dL_setOut_7 (by decide) ?_
      exact vx_ret (retI F hr C.c h dL_setOut_10)
    · refine vx_catch F.ow [⟨0, 5, 6, 13⟩] ⟨0, 5, 11, 17⟩ [] (by rw [ht]; rfl) (fun z hz => by cases List.mem_singleton.mp hz; exact Or.inr ⟨by decide, "java/lang/IndexOutOfBoundsException", F.ts _ q2_19, ncG F.st (List.mem_of_getElem? (i := 1) rfl)⟩) rfl (by decide) (F.ts _ q2_100) (csG F.st cst_UnsupportedOperationException) hc9 hv9 hcl9 ?_
      refine lv_astore_n (lv' := [(2, .ref q9), (0, .ref (ad 110)), (1, .int v1)]) F.x F.b dL_setOut_11 rfl hl (by decide) rfl (fun ls hl => ?_)
      refine lv_sipush (v := -1002) F.x F.b dL_setOut_12 (by decide) ?_
      exact vx_ret (retI F hr C.c h dL_setOut_15)
  · exact vx_ret (retI F hr C.c h dL_setOut_5)
def mL_stop (post : Int32 → Mem → Prop) (S : Mem) (v1 : Int32) : Prop := mX5_stop (fun (r : Int32) (S1 : Mem) => post r S1) (fun (E : String) (S1 : Mem) => (E = "java/lang/IndexOutOfBoundsException" ∧ post (-1001 : Int32) S1) ∨ (E = "java/lang/UnsupportedOperationException" ∧ post (-1002 : Int32) S1)) S v1
def rmL_stop : Room := { frames := 9, cells := 3, slots := 18, locals := 148 }
set_option maxRecDepth 100000 in
theorem kL_stop {l : Launch} {D : va_G} {ky : Nat → ClassId} {ad : Nat → Nat} {ex : Nat → Nat → Nat} {post : Int32 → Mem → Prop} {S : Mem} {v1 : Int32} (hf : l.stackTraces = false) (h : mL_stop post S v1) : CWi l D ky ad ex yL_stop cL_stop 3 (some .int) [(0, 5, 6, 13), (0, 5, 11, 17)] rmL_stop 3 18 [.ref (ad 110), .int v1] S post := by
  refine CWi.of (by decide) (Nat.le_of_ble_eq_true rfl) (fun p e s m args below meth c ls F hr ht C hl => ?_)
  have hl : lv_has ls 3 [(0, .ref (ad 110)), (1, .int v1)] := hl
  unfold mL_stop at h
  refine lv_aload_n F.x F.b dL_stop_0 rfl (lv_at hl 0 rfl) ?_
  refine lv_iload_n F.x F.b dL_stop_1 rfl (lv_at hl 1 rfl) ?_
  refine gkX F.g C.g hl (kX5_stop hf h) (by decide) (ce_X _) rfl wv_L_53 ⟨rfl, rfl, ⟨Nat.le_of_ble_eq_true rfl, Nat.le_of_ble_eq_true rfl⟩, ⟨Nat.le_of_ble_eq_true rfl, Nat.le_of_ble_eq_true rfl⟩, Nat.le_of_ble_eq_true rfl⟩ (rest := []) rfl dL_stop_2 (fun E9 ce9 q9 S1 H locs hp C hc9 hv9 hcl9 => ?_) (fun r S1 H locs h C => ?_)
  · rcases hp with ⟨rfl, h⟩ | ⟨rfl, h⟩
    · refine vx_catch F.ow [] ⟨0, 5, 6, 13⟩ [⟨0, 5, 11, 17⟩] (by rw [ht]; rfl) (fun z hz => nomatch hz) rfl (by decide) (F.ts _ q2_19) (csG F.st cst_IndexOutOfBoundsException) hc9 hv9 hcl9 ?_
      refine lv_astore_n (lv' := [(2, .ref q9), (0, .ref (ad 110)), (1, .int v1)]) F.x F.b dL_stop_6 rfl hl (by decide) rfl (fun ls hl => ?_)
      refine lv_sipush (v := -1001) F.x F.b dL_stop_7 (by decide) ?_
      exact vx_ret (retI F hr C.c h dL_stop_10)
    · refine vx_catch F.ow [⟨0, 5, 6, 13⟩] ⟨0, 5, 11, 17⟩ [] (by rw [ht]; rfl) (fun z hz => by cases List.mem_singleton.mp hz; exact Or.inr ⟨by decide, "java/lang/IndexOutOfBoundsException", F.ts _ q2_19, ncG F.st (List.mem_of_getElem? (i := 1) rfl)⟩) rfl (by decide) (F.ts _ q2_100) (csG F.st cst_UnsupportedOperationException) hc9 hv9 hcl9 ?_
      refine lv_astore_n (lv' := [(2, .ref q9), (0, .ref (ad 110)), (1, .int v1)]) F.x F.b dL_stop_11 rfl hl (by decide) rfl (fun ls hl => ?_)
      refine lv_sipush (v := -1002) F.x F.b dL_stop_12 (by decide) ?_
      exact vx_ret (retI F hr C.c h dL_stop_15)
  · exact vx_ret (retI F hr C.c h dL_stop_5)
def mL_go (post : Int32 → Mem → Prop) (S : Mem) (v1 : Int32) : Prop := mX5_go (fun (r : Int32) (S1 : Mem) => post r S1) (fun (E : String) (S1 : Mem) => (E = "java/lang/IndexOutOfBoundsException" ∧ post (-1001 : Int32) S1) ∨ (E = "java/lang/UnsupportedOperationException" ∧ post (-1002 : Int32) S1)) S v1
def rmL_go : Room := { frames := 9, cells := 3, slots := 18, locals := 148 }
set_option maxRecDepth 100000 in
theorem kL_go {l : Launch} {D : va_G} {ky : Nat → ClassId} {ad : Nat → Nat} {ex : Nat → Nat → Nat} {post : Int32 → Mem → Prop} {S : Mem} {v1 : Int32} (hf : l.stackTraces = false) (h : mL_go post S v1) : CWi l D ky ad ex yL_go cL_go 3 (some .int) [(0, 5, 6, 13), (0, 5, 11, 17)] rmL_go 3 18 [.ref (ad 110), .int v1] S post := by
  refine CWi.of (by decide) (Nat.le_of_ble_eq_true rfl) (fun p e s m args below meth c ls F hr ht C hl => ?_)
  have hl : lv_has ls 3 [(0, .ref (ad 110)), (1, .int v1)] := hl
  unfold mL_go at h
  refine lv_aload_n F.x F.b dL_go_0 rfl (lv_at hl 0 rfl) ?_
  refine lv_iload_n F.x F.b dL_go_1 rfl (lv_at hl 1 rfl) ?_
  refine gkX F.g C.g hl (kX5_go hf h) (by decide) (ce_X _) rfl wv_L_56 ⟨rfl, rfl, ⟨Nat.le_of_ble_eq_true rfl, Nat.le_of_ble_eq_true rfl⟩, ⟨Nat.le_of_ble_eq_true rfl, Nat.le_of_ble_eq_true rfl⟩, Nat.le_of_ble_eq_true rfl⟩ (rest := []) rfl dL_go_2 (fun E9 ce9 q9 S1 H locs hp C hc9 hv9 hcl9 => ?_) (fun r S1 H locs h C => ?_)
  · rcases hp with ⟨rfl, h⟩ | ⟨rfl, h⟩
    · refine vx_catch F.ow [] ⟨0, 5, 6, 13⟩ [⟨0, 5, 11, 17⟩] (by rw [ht]; rfl) (fun z hz => nomatch hz) rfl (by decide) (F.ts _ q2_19) (csG F.st cst_IndexOutOfBoundsException) hc9 hv9 hcl9 ?_
      refine lv_astore_n (lv' := [(2, .ref q9), (0, .ref (ad 110)), (1, .int v1)]) F.x F.b dL_go_6 rfl hl (by decide) rfl (fun ls hl => ?_)
      refine lv_sipush (v := -1001) F.x F.b dL_go_7 (by decide) ?_
      exact vx_ret (retI F hr C.c h dL_go_10)
    · refine vx_catch F.ow [⟨0, 5, 6, 13⟩] ⟨0, 5, 11, 17⟩ [] (by rw [ht]; rfl) (fun z hz => by cases List.mem_singleton.mp hz; exact Or.inr ⟨by decide, "java/lang/IndexOutOfBoundsException", F.ts _ q2_19, ncG F.st (List.mem_of_getElem? (i := 1) rfl)⟩) rfl (by decide) (F.ts _ q2_100) (csG F.st cst_UnsupportedOperationException) hc9 hv9 hcl9 ?_
      refine lv_astore_n (lv' := [(2, .ref q9), (0, .ref (ad 110)), (1, .int v1)]) F.x F.b dL_go_11 rfl hl (by decide) rfl (fun ls hl => ?_)
      refine lv_sipush (v := -1002) F.x F.b dL_go_12 (by decide) ?_
      exact vx_ret (retI F hr C.c h dL_go_15)
  · exact vx_ret (retI F hr C.c h dL_go_5)
def mL_leave (post : Int32 → Mem → Prop) (S : Mem) (v1 : Int32) : Prop := mX5_leave (fun (r : Int32) (S1 : Mem) => post r S1) (fun (E : String) (S1 : Mem) => (E = "java/lang/IndexOutOfBoundsException" ∧ post (-1001 : Int32) S1) ∨ (E = "java/lang/UnsupportedOperationException" ∧ post (-1002 : Int32) S1)) S v1
def rmL_leave : Room := { frames := 8, cells := 2, slots := 12, locals := 127 }
set_option maxRecDepth 100000 in
theorem kL_leave {l : Launch} {D : va_G} {ky : Nat → ClassId} {ad : Nat → Nat} {ex : Nat → Nat → Nat} {post : Int32 → Mem → Prop} {S : Mem} {v1 : Int32} (hf : l.stackTraces = false) (h : mL_leave post S v1) : CWi l D ky ad ex yL_leave cL_leave 3 (some .int) [(0, 5, 6, 13), (0, 5, 11, 17)] rmL_leave 2 12 [.ref (ad 110), .int v1] S post := by
  refine CWi.of (by decide) (Nat.le_of_ble_eq_true rfl) (fun p e s m args below meth c ls F hr ht C hl => ?_)
  have hl : lv_has ls 3 [(0, .ref (ad 110)), (1, .int v1)] := hl
  unfold mL_leave at h
  refine lv_aload_n F.x F.b dL_leave_0 rfl (lv_at hl 0 rfl) ?_
  refine lv_iload_n F.x F.b dL_leave_1 rfl (lv_at hl 1 rfl) ?_
  refine gkX F.g C.g hl (kX5_leave hf h) (by decide) (ce_X _) rfl wv_L_59 ⟨rfl, rfl, ⟨Nat.le_of_ble_eq_true rfl, Nat.le_of_ble_eq_true rfl⟩, ⟨Nat.le_of_ble_eq_true rfl, Nat.le_of_ble_eq_true rfl⟩, Nat.le_of_ble_eq_true rfl⟩ (rest := []) rfl dL_leave_2 (fun E9 ce9 q9 S1 H locs hp C hc9 hv9 hcl9 => ?_) (fun r S1 H locs h C => ?_)
  · rcases hp with ⟨rfl, h⟩ | ⟨rfl, h⟩
    · refine vx_catch F.ow [] ⟨0, 5, 6, 13⟩ [⟨0, 5, 11, 17⟩] (by rw [ht]; rfl) (fun z hz => nomatch hz) rfl (by decide) (F.ts _ q2_19) (csG F.st cst_IndexOutOfBoundsException) hc9 hv9 hcl9 ?_
      refine lv_astore_n (lv' := [(2, .ref q9), (0, .ref (ad 110)), (1, .int v1)]) F.x F.b dL_leave_6 rfl hl (by decide) rfl (fun ls hl => ?_)
      refine lv_sipush (v := -1001) F.x F.b dL_leave_7 (by decide) ?_
      exact vx_ret (retI F hr C.c h dL_leave_10)
    · refine vx_catch F.ow [⟨0, 5, 6, 13⟩] ⟨0, 5, 11, 17⟩ [] (by rw [ht]; rfl) (fun z hz => by cases List.mem_singleton.mp hz; exact Or.inr ⟨by decide, "java/lang/IndexOutOfBoundsException", F.ts _ q2_19, ncG F.st (List.mem_of_getElem? (i := 1) rfl)⟩) rfl (by decide) (F.ts _ q2_100) (csG F.st cst_UnsupportedOperationException) hc9 hv9 hcl9 ?_
      refine lv_astore_n (lv' := [(2, .ref q9), (0, .ref (ad 110)), (1, .int v1)]) F.x F.b dL_leave_11 rfl hl (by decide) rfl (fun ls hl => ?_)
      refine lv_sipush (v := -1002) F.x F.b dL_leave_12 (by decide) ?_
      exact vx_ret (retI F hr C.c h dL_leave_15)
  · exact vx_ret (retI F hr C.c h dL_leave_5)
def mL_pass (post : Int32 → Mem → Prop) (S : Mem) (v1 : Int32) : Prop := mX5_pass (fun (r : Int32) (S1 : Mem) => post r S1) (fun (E : String) (S1 : Mem) => (E = "java/lang/IllegalArgumentException" ∧ post (-1001 : Int32) S1)) S v1
def rmL_pass : Room := { frames := 8, cells := 1, slots := 6, locals := 138 }
set_option maxRecDepth 100000 in
theorem kL_pass {l : Launch} {D : va_G} {ky : Nat → ClassId} {ad : Nat → Nat} {ex : Nat → Nat → Nat} {post : Int32 → Mem → Prop} {S : Mem} {v1 : Int32} (hf : l.stackTraces = false) (h : mL_pass post S v1) : CWi l D ky ad ex yL_pass cL_pass 3 (some .int) [(0, 5, 6, 15)] rmL_pass 1 6 [.ref (ad 110), .int v1] S post := by
  refine CWi.of (by decide) (Nat.le_of_ble_eq_true rfl) (fun p e s m args below meth c ls F hr ht C hl => ?_)
  have hl : lv_has ls 3 [(0, .ref (ad 110)), (1, .int v1)] := hl
  unfold mL_pass at h
  refine lv_aload_n F.x F.b dL_pass_0 rfl (lv_at hl 0 rfl) ?_
  refine lv_iload_n F.x F.b dL_pass_1 rfl (lv_at hl 1 rfl) ?_
  refine gkX F.g C.g hl (kX5_pass hf h) (by decide) (ce_X _) rfl wv_L_62 ⟨rfl, rfl, ⟨Nat.le_of_ble_eq_true rfl, Nat.le_of_ble_eq_true rfl⟩, ⟨Nat.le_of_ble_eq_true rfl, Nat.le_of_ble_eq_true rfl⟩, Nat.le_of_ble_eq_true rfl⟩ (rest := []) rfl dL_pass_2 (fun E9 ce9 q9 S1 H locs hp C hc9 hv9 hcl9 => ?_) (fun r S1 H locs h C => ?_)
  · obtain ⟨rfl, h⟩ := hp
    refine vx_catch F.ow [] ⟨0, 5, 6, 15⟩ [] (by rw [ht]; rfl) (fun z hz => nomatch hz) rfl (by decide) (F.ts _ q2_99) (csG F.st cst_IllegalArgumentException) hc9 hv9 hcl9 ?_
    refine lv_astore_n (lv' := [(2, .ref q9), (0, .ref (ad 110)), (1, .int v1)]) F.x F.b dL_pass_6 rfl hl (by decide) rfl (fun ls hl => ?_)
    refine lv_sipush (v := -1001) F.x F.b dL_pass_7 (by decide) ?_
    exact vx_ret (retI F hr C.c h dL_pass_10)
  · exact vx_ret (retI F hr C.c h dL_pass_5)
def mL_crossedIn (post : Int32 → Mem → Prop) (S : Mem) (v1 : Int32) : Prop := mX5_crossedIn (fun (r : Int32) (S1 : Mem) => post r S1) (fun (E : String) (S1 : Mem) => (E = "java/lang/IndexOutOfBoundsException" ∧ post (-1001 : Int32) S1) ∨ (E = "java/util/NoSuchElementException" ∧ post (-1002 : Int32) S1)) S v1
def rmL_crossedIn : Room := { frames := 8, cells := 2, slots := 12, locals := 125 }
set_option maxRecDepth 100000 in
theorem kL_crossedIn {l : Launch} {D : va_G} {ky : Nat → ClassId} {ad : Nat → Nat} {ex : Nat → Nat → Nat} {post : Int32 → Mem → Prop} {S : Mem} {v1 : Int32} (hf : l.stackTraces = false) (h : mL_crossedIn post S v1) : CWi l D ky ad ex yL_crossedIn cL_crossedIn 3 (some .int) [(0, 5, 6, 13), (0, 5, 11, 39)] rmL_crossedIn 2 12 [.ref (ad 110), .int v1] S post := by
  refine CWi.of (by decide) (Nat.le_of_ble_eq_true rfl) (fun p e s m args below meth c ls F hr ht C hl => ?_)
  have hl : lv_has ls 3 [(0, .ref (ad 110)), (1, .int v1)] := hl
  unfold mL_crossedIn at h
  refine lv_aload_n F.x F.b dL_crossedIn_0 rfl (lv_at hl 0 rfl) ?_
  refine lv_iload_n F.x F.b dL_crossedIn_1 rfl (lv_at hl 1 rfl) ?_
  refine gkX F.g C.g hl (kX5_crossedIn hf h) (by decide) (ce_X _) rfl wv_L_65 ⟨rfl, rfl, ⟨Nat.le_of_ble_eq_true rfl, Nat.le_of_ble_eq_true rfl⟩, ⟨Nat.le_of_ble_eq_true rfl, Nat.le_of_ble_eq_true rfl⟩, Nat.le_of_ble_eq_true rfl⟩ (rest := []) rfl dL_crossedIn_2 (fun E9 ce9 q9 S1 H locs hp C hc9 hv9 hcl9 => ?_) (fun r S1 H locs h C => ?_)
  · rcases hp with ⟨rfl, h⟩ | ⟨rfl, h⟩
    · refine vx_catch F.ow [] ⟨0, 5, 6, 13⟩ [⟨0, 5, 11, 39⟩] (by rw [ht]; rfl) (fun z hz => nomatch hz) rfl (by decide) (F.ts _ q2_19) (csG F.st cst_IndexOutOfBoundsException) hc9 hv9 hcl9 ?_
      refine lv_astore_n (lv' := [(2, .ref q9), (0, .ref (ad 110)), (1, .int v1)]) F.x F.b dL_crossedIn_6 rfl hl (by decide) rfl (fun ls hl => ?_)
      refine lv_sipush (v := -1001) F.x F.b dL_crossedIn_7 (by decide) ?_
      exact vx_ret (retI F hr C.c h dL_crossedIn_10)
    · refine vx_catch F.ow [⟨0, 5, 6, 13⟩] ⟨0, 5, 11, 39⟩ [] (by rw [ht]; rfl) (fun z hz => by cases List.mem_singleton.mp hz; exact Or.inr ⟨by decide, "java/lang/IndexOutOfBoundsException", F.ts _ q2_19, ncG F.st (List.mem_of_getElem? (i := 3) rfl)⟩) rfl (by decide) (F.ts _ q2_175) (csG F.st cst_NoSuchElementException) hc9 hv9 hcl9 ?_
      refine lv_astore_n (lv' := [(2, .ref q9), (0, .ref (ad 110)), (1, .int v1)]) F.x F.b dL_crossedIn_11 rfl hl (by decide) rfl (fun ls hl => ?_)
      refine lv_sipush (v := -1002) F.x F.b dL_crossedIn_12 (by decide) ?_
      exact vx_ret (retI F hr C.c h dL_crossedIn_15)
  · exact vx_ret (retI F hr C.c h dL_crossedIn_5)
def mL_wetSteps (post : Int32 → Mem → Prop) (S : Mem) (v1 : Int32) : Prop := mX5_wetSteps (fun (r : Int32) (S1 : Mem) => post r S1) (fun (E : String) (S1 : Mem) => (E = "java/lang/IllegalArgumentException" ∧ post (-1001 : Int32) S1) ∨ (E = "java/util/NoSuchElementException" ∧ post (-1002 : Int32) S1)) S v1
def rmL_wetSteps : Room := { frames := 8, cells := 2, slots := 12, locals := 126 }
set_option maxRecDepth 100000 in
theorem kL_wetSteps {l : Launch} {D : va_G} {ky : Nat → ClassId} {ad : Nat → Nat} {ex : Nat → Nat → Nat} {post : Int32 → Mem → Prop} {S : Mem} {v1 : Int32} (hf : l.stackTraces = false) (h : mL_wetSteps post S v1) : CWi l D ky ad ex yL_wetSteps cL_wetSteps 3 (some .int) [(0, 5, 6, 15), (0, 5, 11, 39)] rmL_wetSteps 2 12 [.ref (ad 110), .int v1] S post := by
  refine CWi.of (by decide) (Nat.le_of_ble_eq_true rfl) (fun p e s m args below meth c ls F hr ht C hl => ?_)
  have hl : lv_has ls 3 [(0, .ref (ad 110)), (1, .int v1)] := hl
  unfold mL_wetSteps at h
  refine lv_aload_n F.x F.b dL_wetSteps_0 rfl (lv_at hl 0 rfl) ?_
  refine lv_iload_n F.x F.b dL_wetSteps_1 rfl (lv_at hl 1 rfl) ?_
  refine gkX F.g C.g hl (kX5_wetSteps hf h) (by decide) (ce_X _) rfl wv_L_68 ⟨rfl, rfl, ⟨Nat.le_of_ble_eq_true rfl, Nat.le_of_ble_eq_true rfl⟩, ⟨Nat.le_of_ble_eq_true rfl, Nat.le_of_ble_eq_true rfl⟩, Nat.le_of_ble_eq_true rfl⟩ (rest := []) rfl dL_wetSteps_2 (fun E9 ce9 q9 S1 H locs hp C hc9 hv9 hcl9 => ?_) (fun r S1 H locs h C => ?_)
  · rcases hp with ⟨rfl, h⟩ | ⟨rfl, h⟩
    · refine vx_catch F.ow [] ⟨0, 5, 6, 15⟩ [⟨0, 5, 11, 39⟩] (by rw [ht]; rfl) (fun z hz => nomatch hz) rfl (by decide) (F.ts _ q2_99) (csG F.st cst_IllegalArgumentException) hc9 hv9 hcl9 ?_
      refine lv_astore_n (lv' := [(2, .ref q9), (0, .ref (ad 110)), (1, .int v1)]) F.x F.b dL_wetSteps_6 rfl hl (by decide) rfl (fun ls hl => ?_)
      refine lv_sipush (v := -1001) F.x F.b dL_wetSteps_7 (by decide) ?_
      exact vx_ret (retI F hr C.c h dL_wetSteps_10)
    · refine vx_catch F.ow [⟨0, 5, 6, 15⟩] ⟨0, 5, 11, 39⟩ [] (by rw [ht]; rfl) (fun z hz => by cases List.mem_singleton.mp hz; exact Or.inr ⟨by decide, "java/lang/IllegalArgumentException", F.ts _ q2_99, ncG F.st (List.mem_of_getElem? (i := 4) rfl)⟩) rfl (by decide) (F.ts _ q2_175) (csG F.st cst_NoSuchElementException) hc9 hv9 hcl9 ?_
      refine lv_astore_n (lv' := [(2, .ref q9), (0, .ref (ad 110)), (1, .int v1)]) F.x F.b dL_wetSteps_11 rfl hl (by decide) rfl (fun ls hl => ?_)
      refine lv_sipush (v := -1002) F.x F.b dL_wetSteps_12 (by decide) ?_
      exact vx_ret (retI F hr C.c h dL_wetSteps_15)
  · exact vx_ret (retI F hr C.c h dL_wetSteps_5)
def mL_type (post : Int32 → Mem → Prop) (S : Mem) (v1 : Int32) : Prop := mX5_type (fun (r : Int32) (S1 : Mem) => post r S1) (fun (E : String) (S1 : Mem) => (E = "java/lang/IllegalStateException" ∧ post (-1001 : Int32) S1)) S v1
def rmL_type : Room := { frames := 7, cells := 1, slots := 6, locals := 103 }
set_option maxRecDepth 100000 in
theorem kL_type {l : Launch} {D : va_G} {ky : Nat → ClassId} {ad : Nat → Nat} {ex : Nat → Nat → Nat} {post : Int32 → Mem → Prop} {S : Mem} {v1 : Int32} (hf : l.stackTraces = false) (h : mL_type post S v1) : CWi l D ky ad ex yL_type cL_type 3 (some .int) [(0, 5, 6, 75)] rmL_type 1 6 [.ref (ad 110), .int v1] S post := by
  refine CWi.of (by decide) (Nat.le_of_ble_eq_true rfl) (fun p e s m args below meth c ls F hr ht C hl => ?_)
  have hl : lv_has ls 3 [(0, .ref (ad 110)), (1, .int v1)] := hl
  unfold mL_type at h
  refine lv_aload_n F.x F.b dL_type_0 rfl (lv_at hl 0 rfl) ?_
  refine lv_iload_n F.x F.b dL_type_1 rfl (lv_at hl 1 rfl) ?_
  refine gkX F.g C.g hl (kX5_type hf h) (by decide) (ce_X _) rfl wv_L_71 ⟨rfl, rfl, ⟨Nat.le_of_ble_eq_true rfl, Nat.le_of_ble_eq_true rfl⟩, ⟨Nat.le_of_ble_eq_true rfl, Nat.le_of_ble_eq_true rfl⟩, Nat.le_of_ble_eq_true rfl⟩ (rest := []) rfl dL_type_2 (fun E9 ce9 q9 S1 H locs hp C hc9 hv9 hcl9 => ?_) (fun r S1 H locs h C => ?_)
  · obtain ⟨rfl, h⟩ := hp
    refine vx_catch F.ow [] ⟨0, 5, 6, 75⟩ [] (by rw [ht]; rfl) (fun z hz => nomatch hz) rfl (by decide) (F.ts _ q3_133) (csG F.st cst_IllegalStateException) hc9 hv9 hcl9 ?_
    refine lv_astore_n (lv' := [(2, .ref q9), (0, .ref (ad 110)), (1, .int v1)]) F.x F.b dL_type_6 rfl hl (by decide) rfl (fun ls hl => ?_)
    refine lv_sipush (v := -1001) F.x F.b dL_type_7 (by decide) ?_
    exact vx_ret (retI F hr C.c h dL_type_10)
  · exact vx_ret (retI F hr C.c h dL_type_5)
def mL_ask (post : Int32 → Mem → Prop) (S : Mem) : Prop := mX5_ask (fun (r : Int32) (S1 : Mem) => post r S1) (fun (E : String) (S1 : Mem) => (E = "java/lang/IllegalArgumentException" ∧ post (-1001 : Int32) S1)) S
def rmL_ask : Room := { frames := 57, cells := 1, slots := 6, locals := 1927 }
set_option maxRecDepth 100000 in
theorem kL_ask {l : Launch} {D : va_G} {ky : Nat → ClassId} {ad : Nat → Nat} {ex : Nat → Nat → Nat} {post : Int32 → Mem → Prop} {S : Mem} (hf : l.stackTraces = false) (h : mL_ask post S) : CWi l D ky ad ex yL_ask cL_ask 2 (some .int) [(0, 4, 5, 15)] rmL_ask 1 6 [.ref (ad 110)] S post := by
  refine CWi.of (by decide) (Nat.le_of_ble_eq_true rfl) (fun p e s m args below meth c ls F hr ht C hl => ?_)
  have hl : lv_has ls 2 [(0, .ref (ad 110))] := hl
  unfold mL_ask at h
  refine lv_aload_n F.x F.b dL_ask_0 rfl (lv_at hl 0 rfl) ?_
  refine gkX F.g C.g hl (kX5_ask hf h) (by decide) (ce_X _) rfl wv_L_77 ⟨rfl, rfl, ⟨Nat.le_of_ble_eq_true rfl, Nat.le_of_ble_eq_true rfl⟩, ⟨Nat.le_of_ble_eq_true rfl, Nat.le_of_ble_eq_true rfl⟩, Nat.le_of_ble_eq_true rfl⟩ (rest := []) rfl dL_ask_1 (fun E9 ce9 q9 S1 H locs hp C hc9 hv9 hcl9 => ?_) (fun r S1 H locs h C => ?_)
  · obtain ⟨rfl, h⟩ := hp
    refine vx_catch F.ow [] ⟨0, 4, 5, 15⟩ [] (by rw [ht]; rfl) (fun z hz => nomatch hz) rfl (by decide) (F.ts _ q2_99) (csG F.st cst_IllegalArgumentException) hc9 hv9 hcl9 ?_
    refine lv_astore_n (lv' := [(1, .ref q9), (0, .ref (ad 110))]) F.x F.b dL_ask_5 rfl hl (by decide) rfl (fun ls hl => ?_)
    refine lv_sipush (v := -1001) F.x F.b dL_ask_6 (by decide) ?_
    exact vx_ret (retI F hr C.c h dL_ask_9)
  · exact vx_ret (retI F hr C.c h dL_ask_4)
def mL_answer (post : Int32 → Mem → Prop) (S : Mem) (v1 : Int32) : Prop := mX5_answer (fun (r : Int32) (S1 : Mem) => post r S1) (fun (E : String) (S1 : Mem) => (E = "java/util/NoSuchElementException" ∧ post (-1001 : Int32) S1)) S v1
def rmL_answer : Room := { frames := 7, cells := 1, slots := 6, locals := 103 }
set_option maxRecDepth 100000 in
theorem kL_answer {l : Launch} {D : va_G} {ky : Nat → ClassId} {ad : Nat → Nat} {ex : Nat → Nat → Nat} {post : Int32 → Mem → Prop} {S : Mem} {v1 : Int32} (hf : l.stackTraces = false) (h : mL_answer post S v1) : CWi l D ky ad ex yL_answer cL_answer 3 (some .int) [(0, 5, 6, 39)] rmL_answer 1 6 [.ref (ad 110), .int v1] S post := by
  refine CWi.of (by decide) (Nat.le_of_ble_eq_true rfl) (fun p e s m args below meth c ls F hr ht C hl => ?_)
  have hl : lv_has ls 3 [(0, .ref (ad 110)), (1, .int v1)] := hl
  unfold mL_answer at h
  refine lv_aload_n F.x F.b dL_answer_0 rfl (lv_at hl 0 rfl) ?_
  refine lv_iload_n F.x F.b dL_answer_1 rfl (lv_at hl 1 rfl) ?_
  refine gkX F.g C.g hl (kX5_answer hf h) (by decide) (ce_X _) rfl wv_L_80 ⟨rfl, rfl, ⟨Nat.le_of_ble_eq_true rfl, Nat.le_of_ble_eq_true rfl⟩, ⟨Nat.le_of_ble_eq_true rfl, Nat.le_of_ble_eq_true rfl⟩, Nat.le_of_ble_eq_true rfl⟩ (rest := []) rfl dL_answer_2 (fun E9 ce9 q9 S1 H locs hp C hc9 hv9 hcl9 => ?_) (fun r S1 H locs h C => ?_)
  · obtain ⟨rfl, h⟩ := hp
    refine vx_catch F.ow [] ⟨0, 5, 6, 39⟩ [] (by rw [ht]; rfl) (fun z hz => nomatch hz) rfl (by decide) (F.ts _ q2_175) (csG F.st cst_NoSuchElementException) hc9 hv9 hcl9 ?_
    refine lv_astore_n (lv' := [(2, .ref q9), (0, .ref (ad 110)), (1, .int v1)]) F.x F.b dL_answer_6 rfl hl (by decide) rfl (fun ls hl => ?_)
    refine lv_sipush (v := -1001) F.x F.b dL_answer_7 (by decide) ?_
    exact vx_ret (retI F hr C.c h dL_answer_10)
  · exact vx_ret (retI F hr C.c h dL_answer_5)
def mL_errorPosition (post : Int32 → Mem → Prop) (S : Mem) : Prop := mX5_errorPosition (fun (r : Int32) (S1 : Mem) => post r S1) (fun (E : String) (S1 : Mem) => (E = "java/util/NoSuchElementException" ∧ post (-1001 : Int32) S1)) S
def rmL_errorPosition : Room := { frames := 7, cells := 1, slots := 6, locals := 102 }
set_option maxRecDepth 100000 in
theorem kL_errorPosition {l : Launch} {D : va_G} {ky : Nat → ClassId} {ad : Nat → Nat} {ex : Nat → Nat → Nat} {post : Int32 → Mem → Prop} {S : Mem} (hf : l.stackTraces = false) (h : mL_errorPosition post S) : CWi l D ky ad ex yL_errorPosition cL_errorPosition 2 (some .int) [(0, 4, 5, 39)] rmL_errorPosition 1 6 [.ref (ad 110)] S post := by
  refine CWi.of (by decide) (Nat.le_of_ble_eq_true rfl) (fun p e s m args below meth c ls F hr ht C hl => ?_)
  have hl : lv_has ls 2 [(0, .ref (ad 110))] := hl
  unfold mL_errorPosition at h
  refine lv_aload_n F.x F.b dL_errorPosition_0 rfl (lv_at hl 0 rfl) ?_
  refine gkX F.g C.g hl (kX5_errorPosition hf h) (by decide) (ce_X _) rfl wv_L_83 ⟨rfl, rfl, ⟨Nat.le_of_ble_eq_true rfl, Nat.le_of_ble_eq_true rfl⟩, ⟨Nat.le_of_ble_eq_true rfl, Nat.le_of_ble_eq_true rfl⟩, Nat.le_of_ble_eq_true rfl⟩ (rest := []) rfl dL_errorPosition_1 (fun E9 ce9 q9 S1 H locs hp C hc9 hv9 hcl9 => ?_) (fun r S1 H locs h C => ?_)
  · obtain ⟨rfl, h⟩ := hp
    refine vx_catch F.ow [] ⟨0, 4, 5, 39⟩ [] (by rw [ht]; rfl) (fun z hz => nomatch hz) rfl (by decide) (F.ts _ q2_175) (csG F.st cst_NoSuchElementException) hc9 hv9 hcl9 ?_
    refine lv_astore_n (lv' := [(1, .ref q9), (0, .ref (ad 110))]) F.x F.b dL_errorPosition_5 rfl hl (by decide) rfl (fun ls hl => ?_)
    refine lv_sipush (v := -1001) F.x F.b dL_errorPosition_6 (by decide) ?_
    exact vx_ret (retI F hr C.c h dL_errorPosition_9)
  · exact vx_ret (retI F hr C.c h dL_errorPosition_4)
def mL_refusal (post : Int32 → Mem → Prop) (S : Mem) (v1 : Int32) : Prop := mX5_refusal (fun (r : Int32) (S1 : Mem) => post r S1) (fun (E : String) (S1 : Mem) => (E = "java/util/NoSuchElementException" ∧ post (-1001 : Int32) S1)) S v1
def rmL_refusal : Room := { frames := 7, cells := 1, slots := 6, locals := 103 }
set_option maxRecDepth 100000 in
theorem kL_refusal {l : Launch} {D : va_G} {ky : Nat → ClassId} {ad : Nat → Nat} {ex : Nat → Nat → Nat} {post : Int32 → Mem → Prop} {S : Mem} {v1 : Int32} (hf : l.stackTraces = false) (h : mL_refusal post S v1) : CWi l D ky ad ex yL_refusal cL_refusal 3 (some .int) [(0, 5, 6, 39)] rmL_refusal 1 6 [.ref (ad 110), .int v1] S post := by
  refine CWi.of (by decide) (Nat.le_of_ble_eq_true rfl) (fun p e s m args below meth c ls F hr ht C hl => ?_)
  have hl : lv_has ls 3 [(0, .ref (ad 110)), (1, .int v1)] := hl
  unfold mL_refusal at h
  refine lv_aload_n F.x F.b dL_refusal_0 rfl (lv_at hl 0 rfl) ?_
  refine lv_iload_n F.x F.b dL_refusal_1 rfl (lv_at hl 1 rfl) ?_
  refine gkX F.g C.g hl (kX5_refusal hf h) (by decide) (ce_X _) rfl wv_L_86 ⟨rfl, rfl, ⟨Nat.le_of_ble_eq_true rfl, Nat.le_of_ble_eq_true rfl⟩, ⟨Nat.le_of_ble_eq_true rfl, Nat.le_of_ble_eq_true rfl⟩, Nat.le_of_ble_eq_true rfl⟩ (rest := []) rfl dL_refusal_2 (fun E9 ce9 q9 S1 H locs hp C hc9 hv9 hcl9 => ?_) (fun r S1 H locs h C => ?_)
  · obtain ⟨rfl, h⟩ := hp
    refine vx_catch F.ow [] ⟨0, 5, 6, 39⟩ [] (by rw [ht]; rfl) (fun z hz => nomatch hz) rfl (by decide) (F.ts _ q2_175) (csG F.st cst_NoSuchElementException) hc9 hv9 hcl9 ?_
    refine lv_astore_n (lv' := [(2, .ref q9), (0, .ref (ad 110)), (1, .int v1)]) F.x F.b dL_refusal_6 rfl hl (by decide) rfl (fun ls hl => ?_)
    refine lv_sipush (v := -1001) F.x F.b dL_refusal_7 (by decide) ?_
    exact vx_ret (retI F hr C.c h dL_refusal_10)
  · exact vx_ret (retI F hr C.c h dL_refusal_5)
def mL_written (post : Int32 → Mem → Prop) (S : Mem) (v1 : Int32) : Prop := mX5_written (fun (r : Int32) (S1 : Mem) => post r S1) (fun (E : String) (S1 : Mem) => (E = "java/util/NoSuchElementException" ∧ post (-1001 : Int32) S1)) S v1
def rmL_written : Room := { frames := 7, cells := 1, slots := 6, locals := 103 }
set_option maxRecDepth 100000 in
theorem kL_written {l : Launch} {D : va_G} {ky : Nat → ClassId} {ad : Nat → Nat} {ex : Nat → Nat → Nat} {post : Int32 → Mem → Prop} {S : Mem} {v1 : Int32} (hf : l.stackTraces = false) (h : mL_written post S v1) : CWi l D ky ad ex yL_written cL_written 3 (some .int) [(0, 5, 6, 39)] rmL_written 1 6 [.ref (ad 110), .int v1] S post := by
  refine CWi.of (by decide) (Nat.le_of_ble_eq_true rfl) (fun p e s m args below meth c ls F hr ht C hl => ?_)
  have hl : lv_has ls 3 [(0, .ref (ad 110)), (1, .int v1)] := hl
  unfold mL_written at h
  refine lv_aload_n F.x F.b dL_written_0 rfl (lv_at hl 0 rfl) ?_
  refine lv_iload_n F.x F.b dL_written_1 rfl (lv_at hl 1 rfl) ?_
  refine gkX F.g C.g hl (kX5_written hf h) (by decide) (ce_X _) rfl wv_L_90 ⟨rfl, rfl, ⟨Nat.le_of_ble_eq_true rfl, Nat.le_of_ble_eq_true rfl⟩, ⟨Nat.le_of_ble_eq_true rfl, Nat.le_of_ble_eq_true rfl⟩, Nat.le_of_ble_eq_true rfl⟩ (rest := []) rfl dL_written_2 (fun E9 ce9 q9 S1 H locs hp C hc9 hv9 hcl9 => ?_) (fun r S1 H locs h C => ?_)
  · obtain ⟨rfl, h⟩ := hp
    refine vx_catch F.ow [] ⟨0, 5, 6, 39⟩ [] (by rw [ht]; rfl) (fun z hz => nomatch hz) rfl (by decide) (F.ts _ q2_175) (csG F.st cst_NoSuchElementException) hc9 hv9 hcl9 ?_
    refine lv_astore_n (lv' := [(2, .ref q9), (0, .ref (ad 110)), (1, .int v1)]) F.x F.b dL_written_6 rfl hl (by decide) rfl (fun ls hl => ?_)
    refine lv_sipush (v := -1001) F.x F.b dL_written_7 (by decide) ?_
    exact vx_ret (retI F hr C.c h dL_written_10)
  · exact vx_ret (retI F hr C.c h dL_written_5)
def mL_account (post : Int32 → Mem → Prop) (S : Mem) (v1 : Int32) : Prop := mX5_account (fun (r : Int32) (S1 : Mem) => post r S1) (fun (E : String) (S1 : Mem) => (E = "java/lang/IllegalArgumentException" ∧ post (-1001 : Int32) S1)) S v1
def rmL_account : Room := { frames := 8, cells := 1, slots := 6, locals := 125 }
set_option maxRecDepth 100000 in
theorem kL_account {l : Launch} {D : va_G} {ky : Nat → ClassId} {ad : Nat → Nat} {ex : Nat → Nat → Nat} {post : Int32 → Mem → Prop} {S : Mem} {v1 : Int32} (hf : l.stackTraces = false) (h : mL_account post S v1) : CWi l D ky ad ex yL_account cL_account 3 (some .int) [(0, 5, 6, 15)] rmL_account 1 6 [.ref (ad 110), .int v1] S post := by
  refine CWi.of (by decide) (Nat.le_of_ble_eq_true rfl) (fun p e s m args below meth c ls F hr ht C hl => ?_)
  have hl : lv_has ls 3 [(0, .ref (ad 110)), (1, .int v1)] := hl
  unfold mL_account at h
  refine lv_aload_n F.x F.b dL_account_0 rfl (lv_at hl 0 rfl) ?_
  refine lv_iload_n F.x F.b dL_account_1 rfl (lv_at hl 1 rfl) ?_
  refine gkX F.g C.g hl (kX5_account hf h) (by decide) (ce_X _) rfl wv_L_94 ⟨rfl, rfl, ⟨Nat.le_of_ble_eq_true rfl, Nat.le_of_ble_eq_true rfl⟩, ⟨Nat.le_of_ble_eq_true rfl, Nat.le_of_ble_eq_true rfl⟩, Nat.le_of_ble_eq_true rfl⟩ (rest := []) rfl dL_account_2 (fun E9 ce9 q9 S1 H locs hp C hc9 hv9 hcl9 => ?_) (fun r S1 H locs h C => ?_)
  · obtain ⟨rfl, h⟩ := hp
    refine vx_catch F.ow [] ⟨0, 5, 6, 15⟩ [] (by rw [ht]; rfl) (fun z hz => nomatch hz) rfl (by decide) (F.ts _ q2_99) (csG F.st cst_IllegalArgumentException) hc9 hv9 hcl9 ?_
    refine lv_astore_n (lv' := [(2, .ref q9), (0, .ref (ad 110)), (1, .int v1)]) F.x F.b dL_account_6 rfl hl (by decide) rfl (fun ls hl => ?_)
    refine lv_sipush (v := -1001) F.x F.b dL_account_7 (by decide) ?_
    exact vx_ret (retI F hr C.c h dL_account_10)
  · exact vx_ret (retI F hr C.c h dL_account_5)
def mL_meanWet (post : UInt64 → Mem → Prop) (S : Mem) : Prop := mX5_meanWet (fun (r : UInt64) (S1 : Mem) => post r S1) (fun (E : String) (S1 : Mem) => (E = "java/lang/ArithmeticException" ∧ post (13875388141788987392 : UInt64) S1)) S
def rmL_meanWet : Room := { frames := 7, cells := 1, slots := 6, locals := 102 }
set_option maxRecDepth 100000 in
theorem kL_meanWet {l : Launch} {D : va_G} {ky : Nat → ClassId} {ad : Nat → Nat} {ex : Nat → Nat → Nat} {post : UInt64 → Mem → Prop} {S : Mem} (hf : l.stackTraces = false) (h : mL_meanWet post S) : CWd l D ky ad ex yL_meanWet cL_meanWet 2 (some .double) [(0, 4, 5, 101)] rmL_meanWet 1 6 [.ref (ad 110)] S post := by
  refine CWd.of (by decide) (Nat.le_of_ble_eq_true rfl) (fun p e s m args below meth c ls F hr ht C hl => ?_)
  have hl : lv_has ls 2 [(0, .ref (ad 110))] := hl
  unfold mL_meanWet at h
  refine lv_aload_n F.x F.b dL_meanWet_0 rfl (lv_at hl 0 rfl) ?_
  refine gkXD F.g C.g hl (kX5_meanWet hf h) (by decide) (ce_X _) rfl wv_L_97 ⟨rfl, rfl, ⟨Nat.le_of_ble_eq_true rfl, Nat.le_of_ble_eq_true rfl⟩, ⟨Nat.le_of_ble_eq_true rfl, Nat.le_of_ble_eq_true rfl⟩, Nat.le_of_ble_eq_true rfl⟩ (rest := []) rfl dL_meanWet_1 (fun E9 ce9 q9 S1 H locs hp C hc9 hv9 hcl9 => ?_) (fun r S1 H locs h C => ?_)
  · obtain ⟨rfl, h⟩ := hp
    refine vx_catch F.ow [] ⟨0, 4, 5, 101⟩ [] (by rw [ht]; rfl) (fun z hz => nomatch hz) rfl (by decide) (F.ts _ q4_80) (csG F.st cst_ArithmeticException) hc9 hv9 hcl9 ?_
    refine lv_astore_n (lv' := [(1, .ref q9), (0, .ref (ad 110))]) F.x F.b dL_meanWet_5 rfl hl (by decide) rfl (fun ls hl => ?_)
    refine lv_ldc2d F.x F.b F.ow (F.ts _ q4_166) dL_meanWet_6 ?_
    exact vx_ret (retD F hr C.c h dL_meanWet_9)
  · exact vx_ret (retD F hr C.c h dL_meanWet_4)
def mL_crossingShare (post : UInt32 → Mem → Prop) (S : Mem) : Prop := mX5_crossingShare (fun (r : UInt32) (S1 : Mem) => post r S1) (fun (E : String) (S1 : Mem) => (E = "java/lang/ArithmeticException" ∧ post (3296346112 : UInt32) S1)) S
def rmL_crossingShare : Room := { frames := 7, cells := 1, slots := 6, locals := 103 }
set_option maxRecDepth 100000 in
theorem kL_crossingShare {l : Launch} {D : va_G} {ky : Nat → ClassId} {ad : Nat → Nat} {ex : Nat → Nat → Nat} {post : UInt32 → Mem → Prop} {S : Mem} (hf : l.stackTraces = false) (h : mL_crossingShare post S) : CWf l D ky ad ex yL_crossingShare cL_crossingShare 2 (some .float) [(0, 4, 5, 101)] rmL_crossingShare 1 6 [.ref (ad 110)] S post := by
  refine CWf.of (by decide) (Nat.le_of_ble_eq_true rfl) (fun p e s m args below meth c ls F hr ht C hl => ?_)
  have hl : lv_has ls 2 [(0, .ref (ad 110))] := hl
  unfold mL_crossingShare at h
  refine lv_aload_n F.x F.b dL_crossingShare_0 rfl (lv_at hl 0 rfl) ?_
  refine gkXF F.g C.g hl (kX5_crossingShare hf h) (by decide) (ce_X _) rfl wv_L_105 ⟨rfl, rfl, ⟨Nat.le_of_ble_eq_true rfl, Nat.le_of_ble_eq_true rfl⟩, ⟨Nat.le_of_ble_eq_true rfl, Nat.le_of_ble_eq_true rfl⟩, Nat.le_of_ble_eq_true rfl⟩ (rest := []) rfl dL_crossingShare_1 (fun E9 ce9 q9 S1 H locs hp C hc9 hv9 hcl9 => ?_) (fun r S1 H locs h C => ?_)
  · obtain ⟨rfl, h⟩ := hp
    refine vx_catch F.ow [] ⟨0, 4, 5, 101⟩ [] (by rw [ht]; rfl) (fun z hz => nomatch hz) rfl (by decide) (F.ts _ q4_80) (csG F.st cst_ArithmeticException) hc9 hv9 hcl9 ?_
    refine lv_astore_n (lv' := [(1, .ref q9), (0, .ref (ad 110))]) F.x F.b dL_crossingShare_5 rfl hl (by decide) rfl (fun ls hl => ?_)
    refine lv_ldcf F.x F.b F.ow (F.ts _ q4_101) dL_crossingShare_6 ?_
    exact vx_ret (retFl F hr C.c h dL_crossingShare_8)
  · exact vx_ret (retFl F hr C.c h dL_crossingShare_4)
def mL_undo (post : Int32 → Mem → Prop) (S : Mem) : Prop := mX5_undo (fun (r : Int32) (S1 : Mem) => post r S1) (fun (E : String) (S1 : Mem) => (E = "java/lang/IllegalStateException" ∧ post (-1001 : Int32) S1)) S
def rmL_undo : Room := { frames := 7, cells := 1, slots := 6, locals := 102 }
set_option maxRecDepth 100000 in
theorem kL_undo {l : Launch} {D : va_G} {ky : Nat → ClassId} {ad : Nat → Nat} {ex : Nat → Nat → Nat} {post : Int32 → Mem → Prop} {S : Mem} (hf : l.stackTraces = false) (h : mL_undo post S) : CWi l D ky ad ex yL_undo cL_undo 2 (some .int) [(0, 4, 5, 75)] rmL_undo 1 6 [.ref (ad 110)] S post := by
  refine CWi.of (by decide) (Nat.le_of_ble_eq_true rfl) (fun p e s m args below meth c ls F hr ht C hl => ?_)
  have hl : lv_has ls 2 [(0, .ref (ad 110))] := hl
  unfold mL_undo at h
  refine lv_aload_n F.x F.b dL_undo_0 rfl (lv_at hl 0 rfl) ?_
  refine gkX F.g C.g hl (kX5_undo hf h) (by decide) (ce_X _) rfl wv_L_110 ⟨rfl, rfl, ⟨Nat.le_of_ble_eq_true rfl, Nat.le_of_ble_eq_true rfl⟩, ⟨Nat.le_of_ble_eq_true rfl, Nat.le_of_ble_eq_true rfl⟩, Nat.le_of_ble_eq_true rfl⟩ (rest := []) rfl dL_undo_1 (fun E9 ce9 q9 S1 H locs hp C hc9 hv9 hcl9 => ?_) (fun r S1 H locs h C => ?_)
  · obtain ⟨rfl, h⟩ := hp
    refine vx_catch F.ow [] ⟨0, 4, 5, 75⟩ [] (by rw [ht]; rfl) (fun z hz => nomatch hz) rfl (by decide) (F.ts _ q3_133) (csG F.st cst_IllegalStateException) hc9 hv9 hcl9 ?_
    refine lv_astore_n (lv' := [(1, .ref q9), (0, .ref (ad 110))]) F.x F.b dL_undo_5 rfl hl (by decide) rfl (fun ls hl => ?_)
    refine lv_sipush (v := -1001) F.x F.b dL_undo_6 (by decide) ?_
    exact vx_ret (retI F hr C.c h dL_undo_9)
  · exact vx_ret (retI F hr C.c h dL_undo_4)
def mL_restore (post : Int32 → Mem → Prop) (S : Mem) : Prop := mX5_restore (fun (r : Int32) (S1 : Mem) => post r S1) (fun (E : String) (S1 : Mem) => (E = "java/lang/IllegalStateException" ∧ post (-1001 : Int32) S1)) S
def rmL_restore : Room := { frames := 7, cells := 1, slots := 6, locals := 102 }
set_option maxRecDepth 100000 in
theorem kL_restore {l : Launch} {D : va_G} {ky : Nat → ClassId} {ad : Nat → Nat} {ex : Nat → Nat → Nat} {post : Int32 → Mem → Prop} {S : Mem} (hf : l.stackTraces = false) (h : mL_restore post S) : CWi l D ky ad ex yL_restore cL_restore 2 (some .int) [(0, 4, 5, 75)] rmL_restore 1 6 [.ref (ad 110)] S post := by
  refine CWi.of (by decide) (Nat.le_of_ble_eq_true rfl) (fun p e s m args below meth c ls F hr ht C hl => ?_)
  have hl : lv_has ls 2 [(0, .ref (ad 110))] := hl
  unfold mL_restore at h
  refine lv_aload_n F.x F.b dL_restore_0 rfl (lv_at hl 0 rfl) ?_
  refine gkX F.g C.g hl (kX5_restore hf h) (by decide) (ce_X _) rfl wv_L_113 ⟨rfl, rfl, ⟨Nat.le_of_ble_eq_true rfl, Nat.le_of_ble_eq_true rfl⟩, ⟨Nat.le_of_ble_eq_true rfl, Nat.le_of_ble_eq_true rfl⟩, Nat.le_of_ble_eq_true rfl⟩ (rest := []) rfl dL_restore_1 (fun E9 ce9 q9 S1 H locs hp C hc9 hv9 hcl9 => ?_) (fun r S1 H locs h C => ?_)
  · obtain ⟨rfl, h⟩ := hp
    refine vx_catch F.ow [] ⟨0, 4, 5, 75⟩ [] (by rw [ht]; rfl) (fun z hz => nomatch hz) rfl (by decide) (F.ts _ q3_133) (csG F.st cst_IllegalStateException) hc9 hv9 hcl9 ?_
    refine lv_astore_n (lv' := [(1, .ref q9), (0, .ref (ad 110))]) F.x F.b dL_restore_5 rfl hl (by decide) rfl (fun ls hl => ?_)
    refine lv_sipush (v := -1001) F.x F.b dL_restore_6 (by decide) ?_
    exact vx_ret (retI F hr C.c h dL_restore_9)
  · exact vx_ret (retI F hr C.c h dL_restore_4)
theorem met_ofWF {l : Launch} {y : MethodName} {ws ws' : List Cond} {rm : Room} {Pc : Array Value → State → Prop} {Qc : Array Value → State → Outcome → State → Prop} {mc ms : Nat} {free : Addr → Prop} {cc : ByteArray} {maxL : Nat} {ret : Option FieldType}
    (hy : plainFor y = true) (hw : ws = Cond.code y cc maxL ret :: ws')
    (body : ∀ p e s m args below meth c s₁, BodyLoose p l y (headSpec ws rm) cc maxL ret e s m args below meth c s₁ → c.maxLocals = maxL → Pc args s →
      W p l e (headSpec ws rm).room s m args below meth c s.heap [] 0 0 (MQ below Qc args s mc ms free) (entryFrame m args maxL)) : Met l y ws rm Pc Qc mc ms free := by
  refine MetFree.of_bodySF (code := cc) (maxLocals := maxL) (ret := ret) hy ?_ ?_
  · intro args s m h hn
    obtain ⟨meth, c, h1, h2, h3, h4, h5, h6, -, -⟩ := Cond.code_spec hn (atoms_spec (ws := ws) h _ (by rw [hw]; exact List.mem_cons_self))
    exact ⟨meth, c, h1, h2, h3, h4, h5, h6⟩
  · intro p e s m args below meth c s₁ B hml hP _
    have hh0 : s₁.heap = s.heap := by rw [B.state]; rfl
    obtain ⟨t, a1, o, b1, b2, b3⟩ := body p e s m args below meth c s₁ B hml hP s₁ hh0 (Stand.of_body B)
    exact ⟨t, o, a1, b1, b2, ⟨b3.1, b3.2⟩⟩
theorem cmi_ofF {l : Launch} {D : va_G} {ky : Nat → ClassId} {ad : Nat → Nat} {ex : Nat → Nat → Nat} {y : MethodName} {b : ByteArray} {n : Nat} {r : Option FieldType} {rm : Room} {mc ms : Nat} {av : List Value} {S : Mem} {post : Int32 → Mem → Prop} (hy : plainFor y = true) (hn : (lg_sl av).length ≤ n)
    (body : ∀ (p : Program) (e : Env) (s : State) (m : MethodId) (args : Array Value) (below : List Frame) (meth : Method) (c : Code) (ls : Array Slot), Fx p s m args meth c D ky ad ex b n y.cls → meth.sig.returnType = r → Cx D ky ad s S s.heap [] → lv_has ls n (lv_args 0 av) →
      W p l e rm s m args below meth c s.heap [] 0 0 (MQ below (va_Qi post (AFT D ky ad) (AW ad s.heap.size)) args s mc ms (AW ad s.heap.size)) (F0 m 0 ls [])) : CMi l D ky ad ex y b n r rm mc ms av S post := by
  intro sz
  refine met_ofWF (cc := b) (maxL := n) (ret := r) hy rfl ?_
  intro p e s m args below meth c s₁ B hml hv
  obtain ⟨rfl, hsz, hP, hK, hJ, hST⟩ := hv
  subst hsz
  have hts := atoms_spec (ws := .code y b n r :: wA) B.pre
  have hl := lv_entry av (n := n) hn
  rw [lg_entry_eq]
  exact body p e s m _ below meth c _ ⟨B.exec, B.bytes, hml, findClass_of_methodNamed B.named, fun w hw => hts w (List.mem_cons_of_mem _ hw), B.notSynchronized, hK, hJ, hST⟩ B.returns ⟨hP, va_S.rf⟩ hl
theorem dnD_0 : decode prog_14_method_6_code 0 = .ok (.dload_n 0, 1) := by decide +kernel
theorem dnD_1 : decode prog_14_method_6_code 1 = .ok (.dload_n 0, 1) := by decide +kernel
theorem dnD_2 : decode prog_14_method_6_code 2 = .ok (.dcmp .l, 1) := by decide +kernel
theorem dnD_3 : decode prog_14_method_6_code 3 = .ok (.ifCond .eq 7, 3) := by decide +kernel
theorem dnD_10 : decode prog_14_method_6_code 10 = .ok (.iconst 0, 1) := by decide +kernel
theorem dnD_11 : decode prog_14_method_6_code 11 = .ok (.ireturn, 1) := by decide +kernel
theorem dbD_0 : decode prog_14_method_23_code 0 = .ok (.dload_n 0, 1) := by decide +kernel
theorem dbD_1 : decode prog_14_method_23_code 1 = .ok (.invokestatic 122, 3) := by decide +kernel
theorem dbD_4 : decode prog_14_method_23_code 4 = .ok (.ifCond .ne 8, 3) := by decide +kernel
theorem dbD_7 : decode prog_14_method_23_code 7 = .ok (.dload_n 0, 1) := by decide +kernel
theorem dbD_8 : decode prog_14_method_23_code 8 = .ok (.invokestatic 134, 3) := by decide +kernel
theorem dbD_11 : decode prog_14_method_23_code 11 = .ok (.lreturn, 1) := by decide +kernel
def rmND : Room := { frames := 0, cells := 0, slots := 0, locals := 0 }
theorem kND {l : Launch} {D : va_G} {ky : Nat → ClassId} {ad : Nat → Nat} {ex : Nat → Nat → Nat} {S : Mem} {b : UInt64} {post : Int32 → Mem → Prop} (hb : Op.cmpValue (FP.dcmp b b) .l = 0) (h : post 0 S) : CMi l D ky ad ex ⟨"java/lang/Double", "isNaN", "(D)Z"⟩ prog_14_method_6_code 2 (some .boolean) rmND 0 0 [.double b] S post := by
  refine CMi.of (by decide +kernel) (Nat.le_of_ble_eq_true rfl) (fun p e s m args below meth c ls F hr C hl => ?_)
  have hl : lv_has ls 2 [(0, .double b)] := hl
  refine lv_dload_n F.x F.b dnD_0 rfl (lv_at hl 0 rfl) ?_
  refine lv_dload_n F.x F.b dnD_1 rfl (lv_at hl 0 rfl) ?_
  refine lv_dcmp F.x F.b dnD_2 ?_
  rw [hb]
  refine lv_if_eq (tgt := 10) F.x F.b dnD_3 (by decide) (fun _ => ?_) (fun g => absurd rfl g)
  refine lv_iconst (v := 0) F.x F.b dnD_10 (by decide) ?_
  exact retZ F hr C rfl h dnD_11
theorem wnb_D : WT "java/lang/Double" 122 ⟨"java/lang/Double", "isNaN", "(D)Z"⟩ prog_14_method_6_code 2 (some .boolean) 1 := ⟨q4_170, q4_171, q1_22, q4_172, by decide, by decide, by decide +kernel⟩
def rmBD : Room := { frames := 1, cells := 0, slots := 0, locals := 21 }
theorem kBD {l : Launch} {D : va_G} {ky : Nat → ClassId} {ad : Nat → Nat} {ex : Nat → Nat → Nat} {S : Mem} {b : UInt64} {post : Int64 → Mem → Prop} (hb : Op.cmpValue (FP.dcmp b b) .l = 0) (h : post b.toInt64 S) : CMl l D ky ad ex ⟨"java/lang/Double", "doubleToLongBits", "(D)J"⟩ prog_14_method_23_code 2 (some .long) rmBD 0 0 [.double b] S post := by
  refine CMl.of (by decide +kernel) (Nat.le_of_ble_eq_true rfl) (fun p e s m args below meth c ls F hr C hl => ?_)
  have hl : lv_has ls 2 [(0, .double b)] := hl
  refine lv_dload_n F.x F.b dbD_0 rfl (lv_at hl 0 rfl) ?_
  refine gSI F.g C.g hl (kND (post := fun r S1 => r = 0 ∧ S1 = S) hb ⟨rfl, rfl⟩) wnb_D ⟨rfl, rfl, ⟨Nat.le_of_ble_eq_true rfl, Nat.le_of_ble_eq_true rfl⟩, ⟨Nat.le_of_ble_eq_true rfl, Nat.le_of_ble_eq_true rfl⟩, Nat.le_of_ble_eq_true rfl⟩ (rest := []) rfl dbD_1 (fun r S1 H locs h9 C => ?_)
  rw [h9.1]
  rw [h9.2] at C
  refine lv_if_ne (tgt := 12) F.x F.b dbD_4 (by decide) (fun g => absurd rfl g) (fun _ => ?_)
  refine lv_dload_n F.x F.b dbD_7 rfl (lv_at hl 0 rfl) ?_
  refine vn_d2l F.x F.b (F.ml.trans hl.1.symm) F.ow (F.ts _ q4_173) (F.ts _ q4_175) (F.ts _ q4_174) (F.ts _ q1_22) (Nat.le_of_ble_eq_true rfl) (Nat.le_of_ble_eq_true rfl) dbD_8 ?_
  exact retL F hr C.c h dbD_11
theorem wv_L_162 : WT "FordTollLaw" 162 ⟨"java/lang/Double", "doubleToLongBits", "(D)J"⟩ prog_14_method_23_code 2 (some .long) 1 := ⟨q4_167, q4_168, q1_22, q4_169, by decide, by decide, by decide +kernel⟩
theorem dnF_0 : decode prog_17_method_6_code 0 = .ok (.fload_n 0, 1) := by decide +kernel
theorem dnF_1 : decode prog_17_method_6_code 1 = .ok (.fload_n 0, 1) := by decide +kernel
theorem dnF_2 : decode prog_17_method_6_code 2 = .ok (.fcmp .l, 1) := by decide +kernel
theorem dnF_3 : decode prog_17_method_6_code 3 = .ok (.ifCond .eq 7, 3) := by decide +kernel
theorem dnF_10 : decode prog_17_method_6_code 10 = .ok (.iconst 0, 1) := by decide +kernel
theorem dnF_11 : decode prog_17_method_6_code 11 = .ok (.ireturn, 1) := by decide +kernel
theorem dbF_0 : decode prog_17_method_24_code 0 = .ok (.fload_n 0, 1) := by decide +kernel
theorem dbF_1 : decode prog_17_method_24_code 1 = .ok (.invokestatic 59, 3) := by decide +kernel
theorem dbF_4 : decode prog_17_method_24_code 4 = .ok (.ifCond .ne 8, 3) := by decide +kernel
theorem dbF_7 : decode prog_17_method_24_code 7 = .ok (.fload_n 0, 1) := by decide +kernel
theorem dbF_8 : decode prog_17_method_24_code 8 = .ok (.invokestatic 74, 3) := by decide +kernel
theorem dbF_11 : decode prog_17_method_24_code 11 = .ok (.ireturn, 1) := by decide +kernel
def rmNF : Room := { frames := 0, cells := 0, slots := 0, locals := 0 }
theorem kNF {l : Launch} {D : va_G} {ky : Nat → ClassId} {ad : Nat → Nat} {ex : Nat → Nat → Nat} {S : Mem} {b : UInt32} {post : Int32 → Mem → Prop} (hb : Op.cmpValue (FP.fcmp b b) .l = 0) (h : post 0 S) : CMi l D ky ad ex ⟨"java/lang/Float", "isNaN", "(F)Z"⟩ prog_17_method_6_code 1 (some .boolean) rmNF 0 0 [.float b] S post := by
  refine cmi_ofF (by decide +kernel) (Nat.le_of_ble_eq_true rfl) (fun p e s m args below meth c ls F hr C hl => ?_)
  have hl : lv_has ls 1 [(0, .float b)] := hl
  refine lv_fload_n F.x F.b dnF_0 rfl (lv_at hl 0 rfl) ?_
  refine lv_fload_n F.x F.b dnF_1 rfl (lv_at hl 0 rfl) ?_
  refine lv_fcmp F.x F.b dnF_2 ?_
  rw [hb]
  refine lv_if_eq (tgt := 10) F.x F.b dnF_3 (by decide) (fun _ => ?_) (fun g => absurd rfl g)
  refine lv_iconst (v := 0) F.x F.b dnF_10 (by decide) ?_
  exact retZ F hr C rfl h dnF_11
theorem wnb_F : WT "java/lang/Float" 59 ⟨"java/lang/Float", "isNaN", "(F)Z"⟩ prog_17_method_6_code 1 (some .boolean) 1 := ⟨q4_180, q4_181, q1_23, q4_182, by decide, by decide, by decide +kernel⟩
def rmBF : Room := { frames := 1, cells := 0, slots := 0, locals := 20 }
theorem kBF {l : Launch} {D : va_G} {ky : Nat → ClassId} {ad : Nat → Nat} {ex : Nat → Nat → Nat} {S : Mem} {b : UInt32} {post : Int32 → Mem → Prop} (hb : Op.cmpValue (FP.fcmp b b) .l = 0) (h : post b.toInt32 S) : CMi l D ky ad ex ⟨"java/lang/Float", "floatToIntBits", "(F)I"⟩ prog_17_method_24_code 1 (some .int) rmBF 0 0 [.float b] S post := by
  refine cmi_ofF (by decide +kernel) (Nat.le_of_ble_eq_true rfl) (fun p e s m args below meth c ls F hr C hl => ?_)
  have hl : lv_has ls 1 [(0, .float b)] := hl
  refine lv_fload_n F.x F.b dbF_0 rfl (lv_at hl 0 rfl) ?_
  refine gSI F.g C.g hl (kNF (post := fun r S1 => r = 0 ∧ S1 = S) hb ⟨rfl, rfl⟩) wnb_F ⟨rfl, rfl, ⟨Nat.le_of_ble_eq_true rfl, Nat.le_of_ble_eq_true rfl⟩, ⟨Nat.le_of_ble_eq_true rfl, Nat.le_of_ble_eq_true rfl⟩, Nat.le_of_ble_eq_true rfl⟩ (rest := []) rfl dbF_1 (fun r S1 H locs h9 C => ?_)
  rw [h9.1]
  rw [h9.2] at C
  refine lv_if_ne (tgt := 12) F.x F.b dbF_4 (by decide) (fun g => absurd rfl g) (fun _ => ?_)
  refine lv_fload_n F.x F.b dbF_7 rfl (lv_at hl 0 rfl) ?_
  refine vn_f2i F.x F.b (F.ml.trans hl.1.symm) F.ow (F.ts _ q4_183) (F.ts _ q4_185) (F.ts _ q4_184) (F.ts _ q1_23) (Nat.le_of_ble_eq_true rfl) (Nat.le_of_ble_eq_true rfl) dbF_8 ?_
  exact retI F hr C.c h dbF_11
theorem wv_L_171 : WT "FordTollLaw" 171 ⟨"java/lang/Float", "floatToIntBits", "(F)I"⟩ prog_17_method_24_code 1 (some .int) 1 := ⟨q4_177, q4_178, q1_23, q4_179, by decide, by decide, by decide +kernel⟩
