theorem wv_X0_53 : WV "FordToll$Ford" "FordToll$Traveller" 53 yX3_copyFrom cX3_copyFrom 2 none 1 := ⟨q2_6, q2_7, q2_8, q1_3, q2_9, rfl, by decide, by decide, by decide +kernel⟩
theorem wv_X0_69 : WV "FordToll$Ford" "FordToll$Traveller" 69 yX3_region cX3_region 1 (some .int) 0 := ⟨q4_71, q3_4, q3_5, q1_3, q3_6, rfl, by decide, by decide, by decide +kernel⟩
theorem wv_X0_73 : WV "FordToll$Ford" "FordToll$Traveller" 73 yX3_numberOf cX3_numberOf 2 (some .int) 1 := ⟨q4_76, q2_236, q2_237, q1_3, q2_238, rfl, by decide, by decide, by decide +kernel⟩
theorem wv_X0_77 : WV "FordToll$Ford" "FordToll$Traveller" 77 yX3_arrive cX3_arrive 2 none 1 := ⟨q2_219, q2_220, q2_221, q1_3, q2_222, rfl, by decide, by decide, by decide +kernel⟩
theorem wv_X0_85 : WV "FordToll$Ford" "FordToll$Traveller" 85 yX3_kind cX3_kind 1 (some .int) 0 := ⟨q3_29, q3_0, q3_1, q1_3, q3_2, rfl, by decide, by decide, by decide +kernel⟩
theorem wv_X0_94 : WV "FordToll$Ford" "FordToll$Traveller" 94 yX3_toll cX3_toll 2 (some .int) 0 := ⟨q3_30, q3_15, q3_16, q1_3, q3_17, rfl, by decide, by decide, by decide +kernel⟩
theorem wn_X0_97 : WTN "FordToll$Ford" 97 yX5_isStone "FordToll" cX5_isStone 1 (some .boolean) 1 := ⟨q1_234, q1_235, q1_1, q1_236, by decide, by decide, by decide +kernel⟩
theorem wv_X0_101 : WV "FordToll$Ford" "FordToll$Ford" 101 yX0_stateOf cX0_stateOf 4 (some .int) 2 := ⟨q1_237, q1_219, q1_220, q1_2, q1_221, rfl, by decide, by decide, by decide +kernel⟩
theorem wv_X0_104 : WV "FordToll$Ford" "FordToll$Ford" 104 yX0_canGo cX0_canGo 6 (some .boolean) 4 := ⟨q1_230, q1_231, q1_232, q1_2, q1_233, rfl, by decide, by decide, by decide +kernel⟩
theorem wv_X0_111 : WV "FordToll$Ford" "FordToll$Ford" 111 yX0_levelAfterHour cX0_levelAfterHour 3 (some .int) 1 := ⟨q3_71, q2_186, q2_187, q1_2, q2_188, rfl, by decide, by decide, by decide +kernel⟩
theorem wv_X0_117 : WV "FordToll$Ford" "FordToll$Ford" 117 yX0_placeAfterGoingBack cX0_placeAfterGoingBack 6 (some .int) 3 := ⟨q3_76, q3_77, q3_78, q1_2, q3_79, rfl, by decide, by decide, by decide +kernel⟩
theorem wv_X0_121 : WV "FordToll$Ford" "FordToll$Ford" 121 yX0_placeAfterStep cX0_placeAfterStep 6 (some .int) 4 := ⟨q3_93, q3_94, q3_95, q1_2, q3_96, rfl, by decide, by decide, by decide +kernel⟩
theorem wv_X0_125 : WV "FordToll$Ford" "FordToll$Ford" 125 yX0_sendBack cX0_sendBack 3 none 1 := ⟨q3_72, q3_74, wA_of (List.mem_append_left _ (List.mem_of_getElem? (i := 4) rfl)) rfl, q1_2, q3_75, rfl, by decide, by decide, by decide +kernel⟩
theorem wv_X0_128 : WV "FordToll$Ford" "FordToll$Ford" 128 yX0_sendOn cX0_sendOn 2 none 1 := ⟨q3_89, q3_91, wA_of (List.mem_append_left _ (List.mem_of_getElem? (i := 5) rfl)) rfl, q1_2, q3_92, rfl, by decide, by decide, by decide +kernel⟩
theorem wv_X0_131 : WV "FordToll$Ford" "FordToll$Ford" 131 yX0_wetOrDry cX0_wetOrDry 3 none 1 := ⟨q3_101, q3_103, wA_of (List.mem_append_left _ (List.mem_of_getElem? (i := 7) rfl)) rfl, q1_2, q3_104, rfl, by decide, by decide, by decide +kernel⟩
theorem wv_X0_134 : WV "FordToll$Ford" "FordToll$Ford" 134 yX0_heat cX0_heat 4 none 1 := ⟨q3_110, q3_112, wA_of (List.mem_append_left _ (List.mem_of_getElem? (i := 8) rfl)) rfl, q1_2, q3_113, rfl, by decide, by decide, by decide +kernel⟩
theorem wv_X0_137 : WV "FordToll$Ford" "FordToll$Traveller" 137 yX3_getWetter cX3_getWetter 2 none 1 := ⟨q3_80, q3_81, q3_82, q1_3, q3_83, rfl, by decide, by decide, by decide +kernel⟩
theorem wv_X0_140 : WV "FordToll$Ford" "FordToll$Traveller" 140 yX3_restOnBank cX3_restOnBank 1 none 0 := ⟨q3_85, q3_86, q3_87, q1_3, q3_88, rfl, by decide, by decide, by decide +kernel⟩
theorem wv_X0_143 : WV "FordToll$Ford" "FordToll$Ford" 143 yX0_comeOver cX0_comeOver 2 none 1 := ⟨q3_97, q3_99, wA_of (List.mem_append_left _ (List.mem_of_getElem? (i := 6) rfl)) rfl, q1_2, q3_100, rfl, by decide, by decide, by decide +kernel⟩
theorem wv_X0_149 : WV "FordToll$Ford" "FordToll$Traveller" 149 yX3_getDrier cX3_getDrier 2 none 1 := ⟨q3_105, q3_106, q3_107, q1_3, q3_108, rfl, by decide, by decide, by decide +kernel⟩
theorem wv_X0_152 : WV "FordToll$Ford" "FordToll$Ford" 152 yX0_wettestOn cX0_wettestOn 7 (some .int) 2 := ⟨q3_114, q3_116, wA_of (List.mem_append_left _ (List.mem_of_getElem? (i := 9) rfl)) rfl, q1_2, q3_117, rfl, by decide, by decide, by decide +kernel⟩
theorem wv_X1_25 : WV "FordToll$History" "FordToll$Ford" 25 yX0_copyFrom cX0_copyFrom 3 none 1 := ⟨q2_168, q2_3, q2_4, q1_2, q2_5, rfl, by decide, by decide, by decide +kernel⟩
theorem wv_X2_25 : WV "FordToll$Question" "FordToll$Question" 25 yX2_readQuestion cX2_readQuestion 5 (some .int) 2 := ⟨q3_173, q3_175, wA_of (List.mem_append_left _ (List.mem_of_getElem? (i := 10) rfl)) rfl, q1_5, q3_176, rfl, by decide, by decide, by decide +kernel⟩
theorem wv_X2_29 : WV "FordToll$Question" "FordToll$Question" 29 yX2_fail cX2_fail 2 none 1 := ⟨q3_189, q3_191, wA_of (List.mem_append_left _ (List.mem_of_getElem? (i := 14) rfl)) rfl, q1_5, q3_192, rfl, by decide, by decide, by decide +kernel⟩
theorem wv_X2_33 : WV "FordToll$Question" "FordToll$Question" 33 yX2_readPart cX2_readPart 5 (some .int) 2 := ⟨q3_177, q3_179, wA_of (List.mem_append_left _ (List.mem_of_getElem? (i := 11) rfl)) rfl, q1_5, q3_180, rfl, by decide, by decide, by decide +kernel⟩
theorem wv_X2_36 : WV "FordToll$Question" "FordToll$Question" 36 yX2_takes cX2_takes 3 (some .boolean) 1 := ⟨q3_193, q3_195, wA_of (List.mem_append_left _ (List.mem_of_getElem? (i := 15) rfl)) rfl, q1_5, q3_196, rfl, by decide, by decide, by decide +kernel⟩
theorem wv_X2_40 : WV "FordToll$Question" "FordToll$Question" 40 yX2_readOne cX2_readOne 6 (some .int) 2 := ⟨q3_181, q3_183, wA_of (List.mem_append_left _ (List.mem_of_getElem? (i := 12) rfl)) rfl, q1_5, q3_184, rfl, by decide, by decide, by decide +kernel⟩
theorem wv_X2_43 : WV "FordToll$Question" "FordToll$Question" 43 yX2_isNext cX2_isNext 2 (some .boolean) 1 := ⟨q3_185, q3_187, wA_of (List.mem_append_left _ (List.mem_of_getElem? (i := 13) rfl)) rfl, q1_5, q3_188, rfl, by decide, by decide, by decide +kernel⟩
theorem wv_X2_46 : WT "FordToll$Question" 46 yX2_everyone cX2_everyone 1 (some .int) 1 := ⟨q3_197, q3_198, q1_5, q3_199, by decide, by decide, by decide +kernel⟩
theorem wv_X2_50 : WV "FordToll$Question" "FordToll$Question" 50 yX2_readWord cX2_readWord 5 (some (.object "FordToll$Word")) 0 := ⟨q3_200, q3_202, wA_of (List.mem_append_left _ (List.mem_of_getElem? (i := 16) rfl)) rfl, q1_5, q3_203, rfl, by decide, by decide, by decide +kernel⟩
theorem wv_X2_62 : WT "FordToll$Question" 62 yX2_thoseWith cX2_thoseWith 6 (some .int) 4 := ⟨q4_20, q4_21, q1_5, q4_22, by decide, by decide, by decide +kernel⟩
theorem wv_X2_66 : WV "FordToll$Question" "FordToll$Question" 66 yX2_readSign cX2_readSign 1 (some .char) 0 := ⟨q4_27, q4_29, wA_of (List.mem_append_left _ (List.mem_of_getElem? (i := 18) rfl)) rfl, q1_5, q4_30, rfl, by decide, by decide, by decide +kernel⟩
theorem wv_X2_70 : WV "FordToll$Question" "FordToll$Question" 70 yX2_readNumber cX2_readNumber 2 (some .int) 0 := ⟨q4_31, q4_33, wA_of (List.mem_append_left _ (List.mem_of_getElem? (i := 19) rfl)) rfl, q1_5, q4_34, rfl, by decide, by decide, by decide +kernel⟩
theorem wv_X2_82 : WV "FordToll$Question" "FordToll$Question" 82 yX2_lettersAlike cX2_lettersAlike 4 (some .int) 1 := ⟨q3_206, q3_208, wA_of (List.mem_append_left _ (List.mem_of_getElem? (i := 17) rfl)) rfl, q1_5, q3_209, rfl, by decide, by decide, by decide +kernel⟩
theorem wv_X2_103 : WV "FordToll$Question" "FordToll$Question" 103 yX2_isDigitNext cX2_isDigitNext 1 (some .boolean) 0 := ⟨q4_35, q4_37, wA_of (List.mem_append_left _ (List.mem_of_getElem? (i := 20) rfl)) rfl, q1_5, q4_38, rfl, by decide, by decide, by decide +kernel⟩
theorem wv_X2_107 : WV "FordToll$Question" "FordToll$Question" 107 yX2_readDigit cX2_readDigit 2 (some .int) 0 := ⟨q4_39, q4_41, wA_of (List.mem_append_left _ (List.mem_of_getElem? (i := 21) rfl)) rfl, q1_5, q4_42, rfl, by decide, by decide, by decide +kernel⟩
theorem wv_X2_119 : WV "FordToll$Question" "FordToll$Traveller" 119 yX3_numberOf cX3_numberOf 2 (some .int) 1 := ⟨q4_23, q2_236, q2_237, q1_3, q2_238, rfl, by decide, by decide, by decide +kernel⟩
theorem wv_X2_125 : WT "FordToll$Question" 125 yX2_isSo cX2_isSo 3 (some .boolean) 3 := ⟨q4_24, q4_25, q1_5, q4_26, by decide, by decide, by decide +kernel⟩
theorem wv_X3_37 : WV "FordToll$Traveller" "FordToll$Traveller" 37 yX3_kind cX3_kind 1 (some .int) 0 := ⟨q2_239, q3_0, q3_1, q1_3, q3_2, rfl, by decide, by decide, by decide +kernel⟩
theorem wv_X3_50 : WV "FordToll$Traveller" "FordToll$Traveller" 50 yX3_region cX3_region 1 (some .int) 0 := ⟨q3_3, q3_4, q3_5, q1_3, q3_6, rfl, by decide, by decide, by decide +kernel⟩
theorem wv_X5_61 : WT "FordToll" 61 yX5_checkStone cX5_checkStone 1 none 1 := ⟨q2_105, q2_106, q1_1, q2_107, by decide, by decide, by decide +kernel⟩
theorem wv_X5_65 : WT "FordToll" 65 yX5_checkRange cX5_checkRange 3 none 3 := ⟨q2_121, q2_122, q1_1, q2_123, by decide, by decide, by decide +kernel⟩
theorem wv_X5_69 : WV "FordToll" "FordToll$Ford" 69 yX0_lowestOn cX0_lowestOn 3 (some .int) 1 := ⟨q2_140, q2_141, q2_142, q1_2, q2_143, rfl, by decide, by decide, by decide +kernel⟩
theorem wv_X5_73 : WV "FordToll" "FordToll" 73 yX5_refuse cX5_refuse 3 none 2 := ⟨q2_144, q2_146, wA_of (List.mem_append_left _ (List.mem_of_getElem? (i := 1) rfl)) rfl, q1_1, q2_147, rfl, by decide, by decide, by decide +kernel⟩
theorem wv_X5_77 : WV "FordToll" "FordToll$History" 77 yX1_keep cX1_keep 2 none 1 := ⟨q2_164, q2_165, q2_166, q1_4, q2_167, rfl, by decide, by decide, by decide +kernel⟩
theorem wv_X5_96 : WV "FordToll" "FordToll$Ford" 96 yX0_stateOf cX0_stateOf 4 (some .int) 2 := ⟨q1_218, q1_219, q1_220, q1_2, q1_221, rfl, by decide, by decide, by decide +kernel⟩
theorem wv_X5_100 : WV "FordToll" "FordToll$Ford" 100 yX0_countOn cX0_countOn 4 (some .int) 1 := ⟨q4_194, q4_195, q4_196, q1_2, q4_197, rfl, by decide, by decide, by decide +kernel⟩
theorem wv_X5_103 : WV "FordToll" "FordToll$Ford" 103 yX0_levelAfterHour cX0_levelAfterHour 3 (some .int) 1 := ⟨q2_185, q2_186, q2_187, q1_2, q2_188, rfl, by decide, by decide, by decide +kernel⟩
theorem wv_X5_106 : WV "FordToll" "FordToll$Ford" 106 yX0_levelOnTheWayToRest cX0_levelOnTheWayToRest 3 (some .int) 1 := ⟨q5_0, q5_1, q5_2, q1_2, q5_3, rfl, by decide, by decide, by decide +kernel⟩
theorem wv_X5_109 : WV "FordToll" "FordToll$Ford" 109 yX0_lowestHeight cX0_lowestHeight 3 (some .int) 0 := ⟨q2_180, q2_181, q2_182, q1_2, q2_183, rfl, by decide, by decide, by decide +kernel⟩
theorem wv_X5_123 : WV "FordToll" "FordToll$Ford" 123 yX0_welcome cX0_welcome 3 (some .int) 1 := ⟨q2_215, q2_216, q2_217, q1_2, q2_218, rfl, by decide, by decide, by decide +kernel⟩
theorem wv_X5_126 : WV "FordToll" "FordToll" 126 yX5_found cX5_found 2 (some (.object "FordToll$Traveller")) 1 := ⟨q2_230, q2_232, wA_of (List.mem_append_left _ (List.mem_of_getElem? (i := 2) rfl)) rfl, q1_1, q2_233, rfl, by decide, by decide, by decide +kernel⟩
theorem wv_X5_130 : WV "FordToll" "FordToll$Traveller" 130 yX3_numberOf cX3_numberOf 2 (some .int) 1 := ⟨q2_235, q2_236, q2_237, q1_3, q2_238, rfl, by decide, by decide, by decide +kernel⟩
theorem wv_X5_135 : WV "FordToll" "FordToll$Traveller" 135 yX3_toll cX3_toll 2 (some .int) 0 := ⟨q3_14, q3_15, q3_16, q1_3, q3_17, rfl, by decide, by decide, by decide +kernel⟩
theorem wv_X5_147 : WV "FordToll" "FordToll$Ford" 147 yX0_startCrossing cX0_startCrossing 3 (some .int) 1 := ⟨q3_25, q3_26, q3_27, q1_2, q3_28, rfl, by decide, by decide, by decide +kernel⟩
theorem wv_X5_151 : WV "FordToll" "FordToll" 151 yX5_setStopped cX5_setStopped 4 (some .int) 2 := ⟨q3_38, q3_40, wA_of (List.mem_append_left _ (List.mem_of_getElem? (i := 3) rfl)) rfl, q1_1, q3_41, rfl, by decide, by decide, by decide +kernel⟩
theorem wv_X5_158 : WV "FordToll" "FordToll$Ford" 158 yX0_takeAway cX0_takeAway 3 none 1 := ⟨q3_56, q3_57, q3_58, q1_2, q3_59, rfl, by decide, by decide, by decide +kernel⟩
theorem wv_X5_164 : WV "FordToll" "FordToll$Ford" 164 yX0_letHourGoBy cX0_letHourGoBy 2 none 0 := ⟨q3_67, q3_68, q3_69, q1_2, q3_70, rfl, by decide, by decide, by decide +kernel⟩
theorem wv_X5_167 : WV "FordToll" "FordToll$Ford" 167 yX0_hoursToCross cX0_hoursToCross 7 (some .int) 1 := ⟨q3_125, q3_126, q3_127, q1_2, q3_128, rfl, by decide, by decide, by decide +kernel⟩
theorem wv_X5_172 : WV "FordToll" "FordToll$Ford" 172 yX0_wetStepsOf cX0_wetStepsOf 4 (some .int) 1 := ⟨q1_226, q1_227, q1_228, q1_2, q1_229, rfl, by decide, by decide, by decide +kernel⟩
theorem wv_X5_177 : WV "FordToll" "FordToll$Question" 177 yX2_isFull cX2_isFull 1 (some .boolean) 0 := ⟨q3_138, q3_139, q3_140, q1_5, q3_141, rfl, by decide, by decide, by decide +kernel⟩
theorem wv_X5_186 : WV "FordToll" "FordToll$Question" 186 yX2_append cX2_append 2 (some .int) 1 := ⟨q3_158, q3_159, q3_160, q1_5, q3_161, rfl, by decide, by decide, by decide +kernel⟩
theorem wv_X5_190 : WV "FordToll" "FordToll$Question" 190 yX2_readFor cX2_readFor 3 (some .int) 1 := ⟨q3_169, q3_170, q3_171, q1_5, q3_172, rfl, by decide, by decide, by decide +kernel⟩
theorem wv_X5_194 : WV "FordToll" "FordToll$Question" 194 yX2_empty cX2_empty 1 none 0 := ⟨q4_43, q4_44, q4_45, q1_5, q4_46, rfl, by decide, by decide, by decide +kernel⟩
theorem wv_X5_205 : WV "FordToll" "FordToll" 205 yX5_keepAnswer cX5_keepAnswer 3 none 1 := ⟨q4_48, q4_50, wA_of (List.mem_append_left _ (List.mem_of_getElem? (i := 22) rfl)) rfl, q1_1, q4_51, rfl, by decide, by decide, by decide +kernel⟩
theorem wv_X5_214 : WV "FordToll" "FordToll" 214 yX5_signOf cX5_signOf 4 (some .char) 1 := ⟨q4_202, q4_204, wA_of (List.mem_append_left _ (List.mem_of_getElem? (i := 23) rfl)) rfl, q1_1, q4_205, rfl, by decide, by decide, by decide +kernel⟩
theorem wv_X5_218 : WV "FordToll" "FordToll" 218 yX5_writeDigit cX5_writeDigit 2 none 1 := ⟨q4_206, q4_208, wA_of (List.mem_append_left _ (List.mem_of_getElem? (i := 24) rfl)) rfl, q1_1, q4_209, rfl, by decide, by decide, by decide +kernel⟩
theorem wv_X5_226 : WV "FordToll" "FordToll$Ford" 226 yX0_countIn cX0_countIn 4 (some .int) 1 := ⟨q4_67, q4_68, q4_69, q1_2, q4_70, rfl, by decide, by decide, by decide +kernel⟩
theorem wv_X5_229 : WV "FordToll" "FordToll$Ford" 229 yX0_sumOf cX0_sumOf 4 (some .int) 1 := ⟨q4_72, q4_73, q4_74, q1_2, q4_75, rfl, by decide, by decide, by decide +kernel⟩
theorem wv_X5_254 : WV "FordToll" "FordToll$History" 254 yX1_takeBack cX1_takeBack 2 none 1 := ⟨q4_110, q4_111, q4_112, q1_4, q4_113, rfl, by decide, by decide, by decide +kernel⟩
theorem wv_X5_257 : WV "FordToll" "FordToll$Ford" 257 yX0_copyFrom cX0_copyFrom 3 none 1 := ⟨q2_2, q2_3, q2_4, q1_2, q2_5, rfl, by decide, by decide, by decide +kernel⟩
theorem wv_X5_262 : WV "FordToll" "FordToll$History" 262 yX1_forget cX1_forget 1 none 0 := ⟨q4_122, q4_123, q4_124, q1_4, q4_125, rfl, by decide, by decide, by decide +kernel⟩
theorem wv_L_7 : WV "FordTollLaw" "FordToll" 7 yX5_height cX5_height 5 (some .int) 2 := ⟨q2_101, q2_102, q2_103, q1_1, q2_104, rfl, by decide, by decide, by decide +kernel⟩
theorem wv_L_19 : WV "FordTollLaw" "FordToll" 19 yX5_rain cX5_rain 3 (some .int) 1 := ⟨q4_150, q4_151, q4_152, q1_1, q4_153, rfl, by decide, by decide, by decide +kernel⟩
theorem wv_L_23 : WV "FordTollLaw" "FordToll" 23 yX5_letters cX5_letters 2 (some .int) 1 := ⟨q4_143, q4_144, q4_145, q1_1, q4_146, rfl, by decide, by decide, by decide +kernel⟩
theorem wv_L_26 : WV "FordTollLaw" "FordToll" 26 yX5_stoneOf cX5_stoneOf 3 (some .int) 2 := ⟨q4_190, q4_191, q4_192, q1_1, q4_193, rfl, by decide, by decide, by decide +kernel⟩
theorem wv_L_29 : WV "FordTollLaw" "FordToll" 29 yX5_flood cX5_flood 4 (some .int) 1 := ⟨q4_229, q4_230, q4_231, q1_1, q4_232, rfl, by decide, by decide, by decide +kernel⟩
theorem wv_L_32 : WV "FordTollLaw" "FordToll" 32 yX5_floodAgain cX5_floodAgain 2 (some .int) 1 := ⟨q4_236, q4_237, q4_238, q1_1, q4_239, rfl, by decide, by decide, by decide +kernel⟩
theorem wv_L_35 : WV "FordTollLaw" "FordToll" 35 yX5_clearIn cX5_clearIn 4 (some .int) 0 := ⟨q2_176, q2_177, q2_178, q1_1, q2_179, rfl, by decide, by decide, by decide +kernel⟩
theorem wv_L_41 : WV "FordTollLaw" "FordToll" 41 yX5_traveller cX5_traveller 2 (some .int) 1 := ⟨q2_211, q2_212, q2_213, q1_1, q2_214, rfl, by decide, by decide, by decide +kernel⟩
theorem wv_L_44 : WV "FordTollLaw" "FordToll" 44 yX5_travellerOf cX5_travellerOf 4 (some .int) 2 := ⟨q2_226, q2_227, q2_228, q1_1, q2_229, rfl, by decide, by decide, by decide +kernel⟩
theorem wv_L_47 : WV "FordTollLaw" "FordToll" 47 yX5_fee cX5_fee 2 (some .int) 1 := ⟨q3_10, q3_11, q3_12, q1_1, q3_13, rfl, by decide, by decide, by decide +kernel⟩
theorem wv_L_50 : WV "FordTollLaw" "FordToll" 50 yX5_setOut cX5_setOut 3 (some .int) 1 := ⟨q3_21, q3_22, q3_23, q1_1, q3_24, rfl, by decide, by decide, by decide +kernel⟩
theorem wv_L_53 : WV "FordTollLaw" "FordToll" 53 yX5_stop cX5_stop 2 (some .int) 1 := ⟨q3_34, q3_35, q3_36, q1_1, q3_37, rfl, by decide, by decide, by decide +kernel⟩
theorem wv_L_56 : WV "FordTollLaw" "FordToll" 56 yX5_go cX5_go 2 (some .int) 1 := ⟨q3_45, q3_46, q3_47, q1_1, q3_48, rfl, by decide, by decide, by decide +kernel⟩
theorem wv_L_59 : WV "FordTollLaw" "FordToll" 59 yX5_leave cX5_leave 4 (some .int) 1 := ⟨q3_52, q3_53, q3_54, q1_1, q3_55, rfl, by decide, by decide, by decide +kernel⟩
theorem wv_L_62 : WV "FordTollLaw" "FordToll" 62 yX5_pass cX5_pass 4 (some .int) 1 := ⟨q3_63, q3_64, q3_65, q1_1, q3_66, rfl, by decide, by decide, by decide +kernel⟩
theorem wv_L_65 : WV "FordTollLaw" "FordToll" 65 yX5_crossedIn cX5_crossedIn 3 (some .int) 1 := ⟨q3_121, q3_122, q3_123, q1_1, q3_124, rfl, by decide, by decide, by decide +kernel⟩
theorem wv_L_68 : WV "FordTollLaw" "FordToll" 68 yX5_wetSteps cX5_wetSteps 3 (some .int) 1 := ⟨q4_221, q4_222, q4_223, q1_1, q4_224, rfl, by decide, by decide, by decide +kernel⟩
theorem wv_L_71 : WV "FordTollLaw" "FordToll" 71 yX5_type cX5_type 2 (some .int) 1 := ⟨q3_134, q3_135, q3_136, q1_1, q3_137, rfl, by decide, by decide, by decide +kernel⟩
theorem wv_L_77 : WV "FordTollLaw" "FordToll" 77 yX5_ask cX5_ask 2 (some .int) 0 := ⟨q3_165, q3_166, q3_167, q1_1, q3_168, rfl, by decide, by decide, by decide +kernel⟩
theorem wv_L_80 : WV "FordTollLaw" "FordToll" 80 yX5_answer cX5_answer 2 (some .int) 1 := ⟨q5_17, q5_18, q5_19, q1_1, q5_20, rfl, by decide, by decide, by decide +kernel⟩
theorem wv_L_83 : WV "FordTollLaw" "FordToll" 83 yX5_errorPosition cX5_errorPosition 1 (some .int) 0 := ⟨q4_55, q4_56, q4_57, q1_1, q4_58, rfl, by decide, by decide, by decide +kernel⟩
theorem wv_L_86 : WV "FordTollLaw" "FordToll" 86 yX5_refusal cX5_refusal 2 (some .int) 1 := ⟨q4_132, q4_133, q4_134, q1_1, q4_135, rfl, by decide, by decide, by decide +kernel⟩
theorem wv_L_90 : WV "FordTollLaw" "FordToll" 90 yX5_written cX5_written 2 (some .char) 1 := ⟨q4_213, q4_214, q4_215, q1_1, q4_216, rfl, by decide, by decide, by decide +kernel⟩
theorem wv_L_94 : WV "FordTollLaw" "FordToll" 94 yX5_account cX5_account 2 (some .int) 1 := ⟨q4_63, q4_64, q4_65, q1_1, q4_66, rfl, by decide, by decide, by decide +kernel⟩
theorem wv_L_97 : WV "FordTollLaw" "FordToll" 97 yX5_meanWet cX5_meanWet 1 (some .double) 0 := ⟨q4_161, q4_162, q4_163, q1_1, q4_164, rfl, by decide, by decide, by decide +kernel⟩
theorem wv_L_105 : WV "FordTollLaw" "FordToll" 105 yX5_crossingShare cX5_crossingShare 2 (some .float) 0 := ⟨q4_94, q4_95, q4_96, q1_1, q4_97, rfl, by decide, by decide, by decide +kernel⟩
theorem wv_L_110 : WV "FordTollLaw" "FordToll" 110 yX5_undo cX5_undo 1 (some .int) 0 := ⟨q4_105, q4_106, q4_107, q1_1, q4_108, rfl, by decide, by decide, by decide +kernel⟩
theorem wv_L_113 : WV "FordTollLaw" "FordToll" 113 yX5_restore cX5_restore 1 (some .int) 0 := ⟨q4_117, q4_118, q4_119, q1_1, q4_120, rfl, by decide, by decide, by decide +kernel⟩
theorem wv_L_135 : WV "FordTollLaw" "FordToll" 135 yX5_describe cX5_describe 2 (some .int) 0 := ⟨q4_198, q4_199, q4_200, q1_1, q4_201, rfl, by decide, by decide, by decide +kernel⟩
theorem wv_L_189 : WV "FordTollLaw" "FordToll" 189 yX5_under cX5_under 3 (some .int) 0 := ⟨q1_214, q1_215, q1_216, q1_1, q1_217, rfl, by decide, by decide, by decide +kernel⟩
theorem wv_L_192 : WV "FordTollLaw" "FordToll" 192 yX5_kinds cX5_kinds 3 (some .int) 0 := ⟨q1_222, q1_223, q1_224, q1_1, q1_225, rfl, by decide, by decide, by decide +kernel⟩
theorem wv_L_201 : WV "FordTollLaw" "FordToll" 201 yX5_lettersAgain cX5_lettersAgain 1 (some .int) 0 := ⟨q5_4, q5_5, q5_6, q1_1, q5_7, rfl, by decide, by decide, by decide +kernel⟩
theorem wv_L_235 : WV "FordTollLaw" "FordToll" 235 yX5_save cX5_save 1 (some .int) 0 := ⟨q1_238, q1_239, q2_0, q1_1, q2_1, rfl, by decide, by decide, by decide +kernel⟩
