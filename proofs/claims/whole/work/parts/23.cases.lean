theorem wh_117 : WH "FordTollLaw" 117 yL_height cL_height 5 [(0, 10, 13, 13), (0, 10, 17, 15), (0, 10, 21, 17)] 4 := ⟨q2_44, q2_45, q1_0, q2_46, by decide, by decide, by decide +kernel⟩
theorem wh_126 : WH "FordTollLaw" 126 yL_rain cL_rain 4 [(0, 9, 12, 15)] 3 := ⟨q2_196, q2_197, q1_0, q2_198, by decide, by decide, by decide +kernel⟩
theorem wh_130 : WH "FordTollLaw" 130 yL_letters cL_letters 4 [(0, 9, 12, 15), (0, 9, 15, 17)] 3 := ⟨q2_203, q2_204, q1_0, q2_205, by decide, by decide, by decide +kernel⟩
theorem wh_133 : WH "FordTollLaw" 133 yL_stoneOf cL_stoneOf 5 [(0, 10, 13, 13), (0, 10, 17, 15)] 4 := ⟨q2_210, q2_211, q1_0, q2_212, by decide, by decide, by decide +kernel⟩
theorem wh_140 : WH "FordTollLaw" 140 yL_flood cL_flood 4 [(0, 9, 12, 15)] 3 := ⟨q2_221, q2_222, q1_0, q2_223, by decide, by decide, by decide +kernel⟩
theorem wh_143 : WH "FordTollLaw" 143 yL_floodAgain cL_floodAgain 4 [(0, 9, 12, 15)] 3 := ⟨q2_236, q2_237, q1_0, q2_238, by decide, by decide, by decide +kernel⟩
theorem wh_146 : WH "FordTollLaw" 146 yL_clearIn cL_clearIn 3 [(0, 8, 11, 39)] 2 := ⟨q3_7, q3_8, q1_0, q3_9, by decide, by decide, by decide +kernel⟩
theorem wh_150 : WH "FordTollLaw" 150 yL_traveller cL_traveller 4 [(0, 9, 12, 15), (0, 9, 15, 17)] 3 := ⟨q3_35, q3_36, q1_0, q3_37, by decide, by decide, by decide +kernel⟩
theorem wh_153 : WH "FordTollLaw" 153 yL_travellerOf cL_travellerOf 5 [(0, 10, 13, 13), (0, 10, 17, 15)] 4 := ⟨q3_50, q3_51, q1_0, q3_52, by decide, by decide, by decide +kernel⟩
theorem wh_156 : WH "FordTollLaw" 156 yL_fee cL_fee 4 [(0, 9, 12, 13)] 3 := ⟨q3_63, q3_64, q1_0, q3_65, by decide, by decide, by decide +kernel⟩
theorem wh_159 : WH "FordTollLaw" 159 yL_setOut cL_setOut 4 [(0, 9, 12, 13), (0, 9, 15, 17)] 3 := ⟨q3_74, q3_75, q1_0, q3_76, by decide, by decide, by decide +kernel⟩
theorem wh_162 : WH "FordTollLaw" 162 yL_stop cL_stop 4 [(0, 9, 12, 13), (0, 9, 15, 17)] 3 := ⟨q3_87, q3_88, q1_0, q3_89, by decide, by decide, by decide +kernel⟩
theorem wh_165 : WH "FordTollLaw" 165 yL_go cL_go 4 [(0, 9, 12, 13), (0, 9, 15, 17)] 3 := ⟨q3_98, q3_99, q1_0, q3_100, by decide, by decide, by decide +kernel⟩
theorem wh_168 : WH "FordTollLaw" 168 yL_leave cL_leave 4 [(0, 9, 12, 13), (0, 9, 15, 17)] 3 := ⟨q3_105, q3_106, q1_0, q3_107, by decide, by decide, by decide +kernel⟩
theorem wh_171 : WH "FordTollLaw" 171 yL_pass cL_pass 4 [(0, 9, 12, 15)] 3 := ⟨q3_116, q3_117, q1_0, q3_118, by decide, by decide, by decide +kernel⟩
theorem wh_174 : WH "FordTollLaw" 174 yL_crossedIn cL_crossedIn 4 [(0, 9, 12, 13), (0, 9, 15, 39)] 3 := ⟨q3_174, q3_175, q1_0, q3_176, by decide, by decide, by decide +kernel⟩
theorem wh_177 : WH "FordTollLaw" 177 yL_wetSteps cL_wetSteps 4 [(0, 9, 12, 15), (0, 9, 15, 39)] 3 := ⟨q3_186, q3_187, q1_0, q3_188, by decide, by decide, by decide +kernel⟩
theorem wh_184 : WH "FordTollLaw" 184 yL_type cL_type 4 [(0, 9, 12, 75)] 3 := ⟨q3_194, q3_195, q1_0, q3_196, by decide, by decide, by decide +kernel⟩
theorem wh_188 : WH "FordTollLaw" 188 yL_ask cL_ask 3 [(0, 8, 11, 15)] 2 := ⟨q3_226, q3_227, q1_0, q3_228, by decide, by decide, by decide +kernel⟩
theorem wh_191 : WH "FordTollLaw" 191 yL_answer cL_answer 4 [(0, 9, 12, 39)] 3 := ⟨q4_116, q4_117, q1_0, q4_118, by decide, by decide, by decide +kernel⟩
theorem wh_194 : WH "FordTollLaw" 194 yL_errorPosition cL_errorPosition 3 [(0, 8, 11, 39)] 2 := ⟨q4_124, q4_125, q1_0, q4_126, by decide, by decide, by decide +kernel⟩
theorem wh_197 : WH "FordTollLaw" 197 yL_refusal cL_refusal 4 [(0, 9, 12, 39)] 3 := ⟨q4_132, q4_133, q1_0, q4_134, by decide, by decide, by decide +kernel⟩
theorem wh_205 : WH "FordTollLaw" 205 yL_written cL_written 4 [(0, 9, 12, 39)] 3 := ⟨q4_140, q4_141, q1_0, q4_142, by decide, by decide, by decide +kernel⟩
theorem wh_208 : WH "FordTollLaw" 208 yL_account cL_account 4 [(0, 9, 12, 15)] 3 := ⟨q4_148, q4_149, q1_0, q4_150, by decide, by decide, by decide +kernel⟩
theorem wh_215 : WH "FordTollLaw" 215 yL_meanWet cL_meanWet 3 [(0, 7, 10, 101)] 2 := ⟨q4_160, q4_161, q1_0, q4_162, by decide, by decide, by decide +kernel⟩
theorem wh_219 : WH "FordTollLaw" 219 yL_crossingShare cL_crossingShare 3 [(0, 8, 11, 101)] 2 := ⟨q4_184, q4_185, q1_0, q4_186, by decide, by decide, by decide +kernel⟩
theorem wh_222 : WH "FordTollLaw" 222 yL_undo cL_undo 3 [(0, 8, 11, 75)] 2 := ⟨q4_192, q4_193, q1_0, q4_194, by decide, by decide, by decide +kernel⟩
theorem wh_229 : WH "FordTollLaw" 229 yL_restore cL_restore 3 [(0, 8, 11, 75)] 2 := ⟨q4_204, q4_205, q1_0, q4_206, by decide, by decide, by decide +kernel⟩
def lawC0 (post : Mem → (Nat → Int64) → (Nat → UInt64) → Prop) (S : Mem) (f : Nat → Int64) (g : Nat → UInt64) (x1 x2 : Int32) : Prop := mL_height (fun (k1 : Int32) (S2 : Mem) (f3 : Nat → Int64) => mX6_height (fun (r4 : Int32) (S5 : Mem) => mX6_thrown (fun (r6 : Int32) (S7 : Mem) => r6 = k1 ∧ (k1 = 0 → f3 0 = r4.toInt64) ∧ post S7 f3 g) S5) S2 x1 x2) S f x1 x2
set_option maxRecDepth 100000 in
theorem lawT0 {p : Program} {l : Launch} {e : Env} {s : State} {m : MethodId} {args : Array Value} {below : List Frame} {meth : Method} {c : Code} {Q : State → Prop} {D : va_G} {ky : Nat → ClassId} {ad : Nat → Nat} {ex : Nat → Nat → Nat} {b L : Nat} {xs : Nat → Int32} {ao a2 : Nat} (X : Lx p s m args meth c D ky ad ex b L xs ao a2) (hf : l.stackTraces = false) {post : Mem → (Nat → Int64) → (Nat → UInt64) → Prop} {S : Mem} {f : Nat → Int64} {g : Nat → UInt64} {i x1 x2 : Int32} (hi1 : vp_in (i + 1) L) (hi2 : vp_in (i + 2) L) (hx1 : xs (i + 1).toNatClampNeg = x1) (hx2 : xs (i + 2).toNatClampNeg = x2) (h : lawC0 post S f g x1 x2) {H : Heap} {locs : List Loc} {ls : Array Slot} {cells slots : Nat} (hc : cells + 3 ≤ 603072) (hs : slots + 18 ≤ 7215210) (C : Cg D ky ad s (fun q => s.heap.size ≤ q) S [(ao, lce ky f), (a2, dce ky g)] H locs) (hl : lv_has ls 9 [(0, .ref b), (1, .ref (ad 110)), (2, .ref (ad 117)), (3, .ref ao), (4, .ref a2), (5, .int i)]) (kk : ∀ (S : Mem) (f : Nat → Int64) (g : Nat → UInt64) (H : Heap) (locs : List Loc) (ls : Array Slot), post S f g → Cg D ky ad s (fun q => s.heap.size ≤ q) S [(ao, lce ky f), (a2, dce ky g)] H locs → lv_has ls 9 [(0, .ref b), (1, .ref (ad 110)), (2, .ref (ad 117)), (3, .ref ao), (4, .ref a2), (5, .int i)] → W p l e room_1 s m args below meth c H locs (cells + 3) (slots + 18) Q (F0 m 1838 ls [])) : W p l e room_1 s m args below meth c H locs cells slots Q (F0 m 192 ls []) := by
  unfold lawC0 at h
  refine lv_aload_n X.F.x X.F.b dL_law_192 rfl (lv_at hl 1 rfl) ?_
  refine lv_aload_n X.F.x X.F.b dL_law_193 rfl (lv_at hl 0 rfl) ?_
  refine lv_iload X.F.x X.F.b dL_law_194 (lv_at hl 5 rfl) ?_
  refine lv_iconst (v := 1) X.F.x X.F.b dL_law_196 (by decide) ?_
  refine lv_iadd X.F.x X.F.b dL_law_197 ?_
  refine gSld X.F C X.X X.bl X.nb hi1 hx1 dL_law_198 ?_
  refine lv_aload_n X.F.x X.F.b dL_law_199 rfl (lv_at hl 0 rfl) ?_
  refine lv_iload X.F.x X.F.b dL_law_200 (lv_at hl 5 rfl) ?_
  refine lv_iconst (v := 2) X.F.x X.F.b dL_law_202 (by decide) ?_
  refine lv_iadd X.F.x X.F.b dL_law_203 ?_
  refine gSld X.F C X.X X.bl X.nb hi2 hx2 dL_law_204 ?_
  refine lv_aload_n X.F.x X.F.b dL_law_205 rfl (lv_at hl 3 rfl) ?_
  refine gkH X.F X.h1 X.ne C hl (kL_height hf h) wh_117 ⟨rfl, rfl, ⟨Nat.le_of_ble_eq_true rfl, Nat.le_of_ble_eq_true rfl⟩, ⟨by show cells + 3 ≤ 603072; omega, by show slots + 18 ≤ 7215210; omega⟩, Nat.le_of_ble_eq_true rfl⟩ (rest := []) rfl dL_law_206 (fun k1 S2 f3 H locs h C => ?_)
  refine lv_istore (lv' := [(6, .int k1), (0, .ref b), (1, .ref (ad 110)), (2, .ref (ad 117)), (3, .ref ao), (4, .ref a2), (5, .int i)]) X.F.x X.F.b dL_law_209 hl (by decide) rfl (fun ls hl => ?_)
  refine lv_aload_n X.F.x X.F.b dL_law_211 rfl (lv_at hl 3 rfl) ?_
  refine lv_aload_n X.F.x X.F.b dL_law_212 rfl (lv_at hl 1 rfl) ?_
  refine lv_iload X.F.x X.F.b dL_law_213 (lv_at hl 6 rfl) ?_
  refine lv_iconst (v := 1) X.F.x X.F.b dL_law_215 (by decide) ?_
  refine lv_iadd X.F.x X.F.b dL_law_216 ?_
  refine gSld X.F C X.X X.bl X.nb hi1 hx1 dL_law_217 ?_
  refine lv_aload_n X.F.x X.F.b dL_law_218 rfl (lv_at hl 1 rfl) ?_
  refine lv_iload X.F.x X.F.b dL_law_219 (lv_at hl 6 rfl) ?_
  refine lv_iconst (v := 2) X.F.x X.F.b dL_law_221 (by decide) ?_
  refine lv_iadd X.F.x X.F.b dL_law_222 ?_
  refine gSld X.F C X.X X.bl X.nb hi2 hx2 dL_law_223 ?_
  refine gkI X.F C hl (kX6_height h) (by decide) (ce_M _) rfl wv_L_122 ⟨rfl, rfl, ⟨Nat.le_of_ble_eq_true rfl, Nat.le_of_ble_eq_true rfl⟩, ⟨by show cells + 3 + 0 ≤ 603072; omega, by show slots + 18 + 0 ≤ 7215210; omega⟩, Nat.le_of_ble_eq_true rfl⟩ (rest := []) rfl dL_law_224 (fun r4 S5 H locs h C => ?_)
  refine lv_istore (lv' := [(7, .int r4), (6, .int k1), (0, .ref b), (1, .ref (ad 110)), (2, .ref (ad 117)), (3, .ref ao), (4, .ref a2), (5, .int i)]) X.F.x X.F.b dL_law_227 hl (by decide) rfl (fun ls hl => ?_)
  refine lv_aload_n X.F.x X.F.b dL_law_229 rfl (lv_at hl 4 rfl) ?_
  refine gkI X.F C hl (kX6_thrown h) (by decide) (ce_M _) rfl wv_L_123 ⟨rfl, rfl, ⟨Nat.le_of_ble_eq_true rfl, Nat.le_of_ble_eq_true rfl⟩, ⟨by show cells + 3 + 0 + 0 ≤ 603072; omega, by show slots + 18 + 0 + 0 ≤ 7215210; omega⟩, Nat.le_of_ble_eq_true rfl⟩ (rest := []) rfl dL_law_230 (fun r6 S7 H locs h C => ?_)
  refine lv_iload X.F.x X.F.b dL_law_233 (lv_at hl 1 rfl) ?_
  refine lv_icmp_eq (tgt := 240) X.F.x X.F.b dL_law_235 (by decide) (fun h8 => ?_) (fun h8 => absurd h.1 h8)
  refine lv_iload X.F.x X.F.b dL_law_240 (lv_at hl 1 rfl) ?_
  refine lv_if_ne (tgt := 257) X.F.x X.F.b dL_law_242 (by decide) (fun h9 => ?_) (fun h9 => ?_)
  · refine lv_goto (tgt := 1838) X.F.x X.F.b dL_law_257 (by decide) ?_
    refine W.widen (k := cells + 3) (n := slots + 18) (by omega) (by omega) ?_
    exact kk _ _ _ _ _ _ h.2.2 C (lv_sub hl [2, 3, 4, 5, 6, 7] rfl)
  · refine lv_aload_n X.F.x X.F.b dL_law_245 rfl (lv_at hl 5 rfl) ?_
    refine lv_iconst (v := 0) X.F.x X.F.b dL_law_246 (by decide) ?_
    refine gLald X.F C dL_law_247 ?_
    refine lv_iload X.F.x X.F.b dL_law_248 (lv_at hl 0 rfl) ?_
    refine lv_i2l X.F.x X.F.b dL_law_250 rfl ?_
    refine lv_lcmpE X.F.x X.F.b dL_law_251 (h.2.1 h9) ?_
    refine lv_if_eq (tgt := 257) X.F.x X.F.b dL_law_252 (by decide) (fun _ => ?_) (fun h7 => absurd rfl h7)
    refine lv_goto (tgt := 1838) X.F.x X.F.b dL_law_257 (by decide) ?_
    refine W.widen (k := cells + 3) (n := slots + 18) (by omega) (by omega) ?_
    exact kk _ _ _ _ _ _ h.2.2 C (lv_sub hl [2, 3, 4, 5, 6, 7] rfl)
def lawC1 (post : Mem → (Nat → Int64) → (Nat → UInt64) → Prop) (S : Mem) (f : Nat → Int64) (g : Nat → UInt64) (x1 x2 : Int32) : Prop := mL_rain (fun (k1 : Int32) (S2 : Mem) (f3 : Nat → Int64) => mX6_rain (fun (r4 : Int32) (S5 : Mem) => mX6_thrown (fun (r6 : Int32) (S7 : Mem) => r6 = k1 ∧ (k1 = 0 → f3 0 = r4.toInt64) ∧ post S7 f3 g) S5) S2 x1) S f x1
set_option maxRecDepth 100000 in
theorem lawT1 {p : Program} {l : Launch} {e : Env} {s : State} {m : MethodId} {args : Array Value} {below : List Frame} {meth : Method} {c : Code} {Q : State → Prop} {D : va_G} {ky : Nat → ClassId} {ad : Nat → Nat} {ex : Nat → Nat → Nat} {b L : Nat} {xs : Nat → Int32} {ao a2 : Nat} (X : Lx p s m args meth c D ky ad ex b L xs ao a2) (hf : l.stackTraces = false) {post : Mem → (Nat → Int64) → (Nat → UInt64) → Prop} {S : Mem} {f : Nat → Int64} {g : Nat → UInt64} {i x1 x2 : Int32} (hi1 : vp_in (i + 1) L) (hi2 : vp_in (i + 2) L) (hx1 : xs (i + 1).toNatClampNeg = x1) (hx2 : xs (i + 2).toNatClampNeg = x2) (h : lawC1 post S f g x1 x2) {H : Heap} {locs : List Loc} {ls : Array Slot} {cells slots : Nat} (hc : cells + 3 ≤ 603072) (hs : slots + 18 ≤ 7215210) (C : Cg D ky ad s (fun q => s.heap.size ≤ q) S [(ao, lce ky f), (a2, dce ky g)] H locs) (hl : lv_has ls 9 [(0, .ref b), (1, .ref (ad 110)), (2, .ref (ad 117)), (3, .ref ao), (4, .ref a2), (5, .int i)]) (kk : ∀ (S : Mem) (f : Nat → Int64) (g : Nat → UInt64) (H : Heap) (locs : List Loc) (ls : Array Slot), post S f g → Cg D ky ad s (fun q => s.heap.size ≤ q) S [(ao, lce ky f), (a2, dce ky g)] H locs → lv_has ls 9 [(0, .ref b), (1, .ref (ad 110)), (2, .ref (ad 117)), (3, .ref ao), (4, .ref a2), (5, .int i)] → W p l e room_1 s m args below meth c H locs (cells + 3) (slots + 18) Q (F0 m 1838 ls [])) : W p l e room_1 s m args below meth c H locs cells slots Q (F0 m 260 ls []) := by
  unfold lawC1 at h
  refine lv_aload_n X.F.x X.F.b dL_law_260 rfl (lv_at hl 1 rfl) ?_
  refine lv_aload_n X.F.x X.F.b dL_law_261 rfl (lv_at hl 0 rfl) ?_
  refine lv_iload X.F.x X.F.b dL_law_262 (lv_at hl 5 rfl) ?_
  refine lv_iconst (v := 1) X.F.x X.F.b dL_law_264 (by decide) ?_
  refine lv_iadd X.F.x X.F.b dL_law_265 ?_
  refine gSld X.F C X.X X.bl X.nb hi1 hx1 dL_law_266 ?_
  refine lv_aload_n X.F.x X.F.b dL_law_267 rfl (lv_at hl 3 rfl) ?_
  refine gkH X.F X.h1 X.ne C hl (kL_rain hf h) wh_126 ⟨rfl, rfl, ⟨Nat.le_of_ble_eq_true rfl, Nat.le_of_ble_eq_true rfl⟩, ⟨by show cells + 1 ≤ 603072; omega, by show slots + 6 ≤ 7215210; omega⟩, Nat.le_of_ble_eq_true rfl⟩ (rest := []) rfl dL_law_268 (fun k1 S2 f3 H locs h C => ?_)
  refine lv_istore (lv' := [(6, .int k1), (0, .ref b), (1, .ref (ad 110)), (2, .ref (ad 117)), (3, .ref ao), (4, .ref a2), (5, .int i)]) X.F.x X.F.b dL_law_271 hl (by decide) rfl (fun ls hl => ?_)
  refine lv_aload_n X.F.x X.F.b dL_law_273 rfl (lv_at hl 3 rfl) ?_
  refine lv_aload_n X.F.x X.F.b dL_law_274 rfl (lv_at hl 1 rfl) ?_
  refine lv_iload X.F.x X.F.b dL_law_275 (lv_at hl 6 rfl) ?_
  refine lv_iconst (v := 1) X.F.x X.F.b dL_law_277 (by decide) ?_
  refine lv_iadd X.F.x X.F.b dL_law_278 ?_
  refine gSld X.F C X.X X.bl X.nb hi1 hx1 dL_law_279 ?_
  refine gkI X.F C hl (kX6_rain h) (by decide) (ce_M _) rfl wv_L_129 ⟨rfl, rfl, ⟨Nat.le_of_ble_eq_true rfl, Nat.le_of_ble_eq_true rfl⟩, ⟨by show cells + 1 + 0 ≤ 603072; omega, by show slots + 6 + 0 ≤ 7215210; omega⟩, Nat.le_of_ble_eq_true rfl⟩ (rest := []) rfl dL_law_280 (fun r4 S5 H locs h C => ?_)
  refine lv_istore (lv' := [(7, .int r4), (6, .int k1), (0, .ref b), (1, .ref (ad 110)), (2, .ref (ad 117)), (3, .ref ao), (4, .ref a2), (5, .int i)]) X.F.x X.F.b dL_law_283 hl (by decide) rfl (fun ls hl => ?_)
  refine lv_aload_n X.F.x X.F.b dL_law_285 rfl (lv_at hl 4 rfl) ?_
  refine gkI X.F C hl (kX6_thrown h) (by decide) (ce_M _) rfl wv_L_123 ⟨rfl, rfl, ⟨Nat.le_of_ble_eq_true rfl, Nat.le_of_ble_eq_true rfl⟩, ⟨by show cells + 1 + 0 + 0 ≤ 603072; omega, by show slots + 6 + 0 + 0 ≤ 7215210; omega⟩, Nat.le_of_ble_eq_true rfl⟩ (rest := []) rfl dL_law_286 (fun r6 S7 H locs h C => ?_)
  refine lv_iload X.F.x X.F.b dL_law_289 (lv_at hl 1 rfl) ?_
  refine lv_icmp_eq (tgt := 296) X.F.x X.F.b dL_law_291 (by decide) (fun h8 => ?_) (fun h8 => absurd h.1 h8)
  refine lv_iload X.F.x X.F.b dL_law_296 (lv_at hl 1 rfl) ?_
  refine lv_if_ne (tgt := 313) X.F.x X.F.b dL_law_298 (by decide) (fun h9 => ?_) (fun h9 => ?_)
  · refine lv_goto (tgt := 1838) X.F.x X.F.b dL_law_313 (by decide) ?_
    refine W.widen (k := cells + 3) (n := slots + 18) (by omega) (by omega) ?_
    exact kk _ _ _ _ _ _ h.2.2 C (lv_sub hl [2, 3, 4, 5, 6, 7] rfl)
  · refine lv_aload_n X.F.x X.F.b dL_law_301 rfl (lv_at hl 5 rfl) ?_
    refine lv_iconst (v := 0) X.F.x X.F.b dL_law_302 (by decide) ?_
    refine gLald X.F C dL_law_303 ?_
    refine lv_iload X.F.x X.F.b dL_law_304 (lv_at hl 0 rfl) ?_
    refine lv_i2l X.F.x X.F.b dL_law_306 rfl ?_
    refine lv_lcmpE X.F.x X.F.b dL_law_307 (h.2.1 h9) ?_
    refine lv_if_eq (tgt := 313) X.F.x X.F.b dL_law_308 (by decide) (fun _ => ?_) (fun h7 => absurd rfl h7)
    refine lv_goto (tgt := 1838) X.F.x X.F.b dL_law_313 (by decide) ?_
    refine W.widen (k := cells + 3) (n := slots + 18) (by omega) (by omega) ?_
    exact kk _ _ _ _ _ _ h.2.2 C (lv_sub hl [2, 3, 4, 5, 6, 7] rfl)
def lawC2 (post : Mem → (Nat → Int64) → (Nat → UInt64) → Prop) (S : Mem) (f : Nat → Int64) (g : Nat → UInt64) (x1 x2 : Int32) : Prop := mL_letters (fun (k1 : Int32) (S2 : Mem) (f3 : Nat → Int64) => mX6_letters (fun (r4 : Int32) (S5 : Mem) => mX6_thrown (fun (r6 : Int32) (S7 : Mem) => r6 = k1 ∧ (k1 = 0 → f3 0 = r4.toInt64) ∧ post S7 f3 g) S5) S2 x1) S f x1
set_option maxRecDepth 100000 in
theorem lawT2 {p : Program} {l : Launch} {e : Env} {s : State} {m : MethodId} {args : Array Value} {below : List Frame} {meth : Method} {c : Code} {Q : State → Prop} {D : va_G} {ky : Nat → ClassId} {ad : Nat → Nat} {ex : Nat → Nat → Nat} {b L : Nat} {xs : Nat → Int32} {ao a2 : Nat} (X : Lx p s m args meth c D ky ad ex b L xs ao a2) (hf : l.stackTraces = false) {post : Mem → (Nat → Int64) → (Nat → UInt64) → Prop} {S : Mem} {f : Nat → Int64} {g : Nat → UInt64} {i x1 x2 : Int32} (hi1 : vp_in (i + 1) L) (hi2 : vp_in (i + 2) L) (hx1 : xs (i + 1).toNatClampNeg = x1) (hx2 : xs (i + 2).toNatClampNeg = x2) (h : lawC2 post S f g x1 x2) {H : Heap} {locs : List Loc} {ls : Array Slot} {cells slots : Nat} (hc : cells + 3 ≤ 603072) (hs : slots + 18 ≤ 7215210) (C : Cg D ky ad s (fun q => s.heap.size ≤ q) S [(ao, lce ky f), (a2, dce ky g)] H locs) (hl : lv_has ls 9 [(0, .ref b), (1, .ref (ad 110)), (2, .ref (ad 117)), (3, .ref ao), (4, .ref a2), (5, .int i)]) (kk : ∀ (S : Mem) (f : Nat → Int64) (g : Nat → UInt64) (H : Heap) (locs : List Loc) (ls : Array Slot), post S f g → Cg D ky ad s (fun q => s.heap.size ≤ q) S [(ao, lce ky f), (a2, dce ky g)] H locs → lv_has ls 9 [(0, .ref b), (1, .ref (ad 110)), (2, .ref (ad 117)), (3, .ref ao), (4, .ref a2), (5, .int i)] → W p l e room_1 s m args below meth c H locs (cells + 3) (slots + 18) Q (F0 m 1838 ls [])) : W p l e room_1 s m args below meth c H locs cells slots Q (F0 m 316 ls []) := by
  unfold lawC2 at h
  refine lv_aload_n X.F.x X.F.b dL_law_316 rfl (lv_at hl 1 rfl) ?_
  refine lv_aload_n X.F.x X.F.b dL_law_317 rfl (lv_at hl 0 rfl) ?_
  refine lv_iload X.F.x X.F.b dL_law_318 (lv_at hl 5 rfl) ?_
  refine lv_iconst (v := 1) X.F.x X.F.b dL_law_320 (by decide) ?_
  refine lv_iadd X.F.x X.F.b dL_law_321 ?_
  refine gSld X.F C X.X X.bl X.nb hi1 hx1 dL_law_322 ?_
  refine lv_aload_n X.F.x X.F.b dL_law_323 rfl (lv_at hl 3 rfl) ?_
  refine gkH X.F X.h1 X.ne C hl (kL_letters hf h) wh_130 ⟨rfl, rfl, ⟨Nat.le_of_ble_eq_true rfl, Nat.le_of_ble_eq_true rfl⟩, ⟨by show cells + 2 ≤ 603072; omega, by show slots + 12 ≤ 7215210; omega⟩, Nat.le_of_ble_eq_true rfl⟩ (rest := []) rfl dL_law_324 (fun k1 S2 f3 H locs h C => ?_)
  refine lv_istore (lv' := [(6, .int k1), (0, .ref b), (1, .ref (ad 110)), (2, .ref (ad 117)), (3, .ref ao), (4, .ref a2), (5, .int i)]) X.F.x X.F.b dL_law_327 hl (by decide) rfl (fun ls hl => ?_)
  refine lv_aload_n X.F.x X.F.b dL_law_329 rfl (lv_at hl 3 rfl) ?_
  refine lv_aload_n X.F.x X.F.b dL_law_330 rfl (lv_at hl 1 rfl) ?_
  refine lv_iload X.F.x X.F.b dL_law_331 (lv_at hl 6 rfl) ?_
  refine lv_iconst (v := 1) X.F.x X.F.b dL_law_333 (by decide) ?_
  refine lv_iadd X.F.x X.F.b dL_law_334 ?_
  refine gSld X.F C X.X X.bl X.nb hi1 hx1 dL_law_335 ?_
  refine gkI X.F C hl (kX6_letters h) (by decide) (ce_M _) rfl wv_L_132 ⟨rfl, rfl, ⟨Nat.le_of_ble_eq_true rfl, Nat.le_of_ble_eq_true rfl⟩, ⟨by show cells + 2 + 0 ≤ 603072; omega, by show slots + 12 + 0 ≤ 7215210; omega⟩, Nat.le_of_ble_eq_true rfl⟩ (rest := []) rfl dL_law_336 (fun r4 S5 H locs h C => ?_)
  refine lv_istore (lv' := [(7, .int r4), (6, .int k1), (0, .ref b), (1, .ref (ad 110)), (2, .ref (ad 117)), (3, .ref ao), (4, .ref a2), (5, .int i)]) X.F.x X.F.b dL_law_339 hl (by decide) rfl (fun ls hl => ?_)
  refine lv_aload_n X.F.x X.F.b dL_law_341 rfl (lv_at hl 4 rfl) ?_
  refine gkI X.F C hl (kX6_thrown h) (by decide) (ce_M _) rfl wv_L_123 ⟨rfl, rfl, ⟨Nat.le_of_ble_eq_true rfl, Nat.le_of_ble_eq_true rfl⟩, ⟨by show cells + 2 + 0 + 0 ≤ 603072; omega, by show slots + 12 + 0 + 0 ≤ 7215210; omega⟩, Nat.le_of_ble_eq_true rfl⟩ (rest := []) rfl dL_law_342 (fun r6 S7 H locs h C => ?_)
  refine lv_iload X.F.x X.F.b dL_law_345 (lv_at hl 1 rfl) ?_
  refine lv_icmp_eq (tgt := 352) X.F.x X.F.b dL_law_347 (by decide) (fun h8 => ?_) (fun h8 => absurd h.1 h8)
  refine lv_iload X.F.x X.F.b dL_law_352 (lv_at hl 1 rfl) ?_
  refine lv_if_ne (tgt := 369) X.F.x X.F.b dL_law_354 (by decide) (fun h9 => ?_) (fun h9 => ?_)
  · refine lv_goto (tgt := 1838) X.F.x X.F.b dL_law_369 (by decide) ?_
    refine W.widen (k := cells + 3) (n := slots + 18) (by omega) (by omega) ?_
    exact kk _ _ _ _ _ _ h.2.2 C (lv_sub hl [2, 3, 4, 5, 6, 7] rfl)
  · refine lv_aload_n X.F.x X.F.b dL_law_357 rfl (lv_at hl 5 rfl) ?_
    refine lv_iconst (v := 0) X.F.x X.F.b dL_law_358 (by decide) ?_
    refine gLald X.F C dL_law_359 ?_
    refine lv_iload X.F.x X.F.b dL_law_360 (lv_at hl 0 rfl) ?_
    refine lv_i2l X.F.x X.F.b dL_law_362 rfl ?_
    refine lv_lcmpE X.F.x X.F.b dL_law_363 (h.2.1 h9) ?_
    refine lv_if_eq (tgt := 369) X.F.x X.F.b dL_law_364 (by decide) (fun _ => ?_) (fun h7 => absurd rfl h7)
    refine lv_goto (tgt := 1838) X.F.x X.F.b dL_law_369 (by decide) ?_
    refine W.widen (k := cells + 3) (n := slots + 18) (by omega) (by omega) ?_
    exact kk _ _ _ _ _ _ h.2.2 C (lv_sub hl [2, 3, 4, 5, 6, 7] rfl)
def lawC3 (post : Mem → (Nat → Int64) → (Nat → UInt64) → Prop) (S : Mem) (f : Nat → Int64) (g : Nat → UInt64) (x1 x2 : Int32) : Prop := mL_stoneOf (fun (k1 : Int32) (S2 : Mem) (f3 : Nat → Int64) => mX6_stoneOf (fun (r4 : Int32) (S5 : Mem) => mX6_thrown (fun (r6 : Int32) (S7 : Mem) => r6 = k1 ∧ (k1 = 0 → f3 0 = r4.toInt64) ∧ post S7 f3 g) S5) S2 x1 x2) S f x1 x2
set_option maxRecDepth 100000 in
theorem lawT3 {p : Program} {l : Launch} {e : Env} {s : State} {m : MethodId} {args : Array Value} {below : List Frame} {meth : Method} {c : Code} {Q : State → Prop} {D : va_G} {ky : Nat → ClassId} {ad : Nat → Nat} {ex : Nat → Nat → Nat} {b L : Nat} {xs : Nat → Int32} {ao a2 : Nat} (X : Lx p s m args meth c D ky ad ex b L xs ao a2) (hf : l.stackTraces = false) {post : Mem → (Nat → Int64) → (Nat → UInt64) → Prop} {S : Mem} {f : Nat → Int64} {g : Nat → UInt64} {i x1 x2 : Int32} (hi1 : vp_in (i + 1) L) (hi2 : vp_in (i + 2) L) (hx1 : xs (i + 1).toNatClampNeg = x1) (hx2 : xs (i + 2).toNatClampNeg = x2) (h : lawC3 post S f g x1 x2) {H : Heap} {locs : List Loc} {ls : Array Slot} {cells slots : Nat} (hc : cells + 3 ≤ 603072) (hs : slots + 18 ≤ 7215210) (C : Cg D ky ad s (fun q => s.heap.size ≤ q) S [(ao, lce ky f), (a2, dce ky g)] H locs) (hl : lv_has ls 9 [(0, .ref b), (1, .ref (ad 110)), (2, .ref (ad 117)), (3, .ref ao), (4, .ref a2), (5, .int i)]) (kk : ∀ (S : Mem) (f : Nat → Int64) (g : Nat → UInt64) (H : Heap) (locs : List Loc) (ls : Array Slot), post S f g → Cg D ky ad s (fun q => s.heap.size ≤ q) S [(ao, lce ky f), (a2, dce ky g)] H locs → lv_has ls 9 [(0, .ref b), (1, .ref (ad 110)), (2, .ref (ad 117)), (3, .ref ao), (4, .ref a2), (5, .int i)] → W p l e room_1 s m args below meth c H locs (cells + 3) (slots + 18) Q (F0 m 1838 ls [])) : W p l e room_1 s m args below meth c H locs cells slots Q (F0 m 372 ls []) := by
  unfold lawC3 at h
  refine lv_aload_n X.F.x X.F.b dL_law_372 rfl (lv_at hl 1 rfl) ?_
  refine lv_aload_n X.F.x X.F.b dL_law_373 rfl (lv_at hl 0 rfl) ?_
  refine lv_iload X.F.x X.F.b dL_law_374 (lv_at hl 5 rfl) ?_
  refine lv_iconst (v := 1) X.F.x X.F.b dL_law_376 (by decide) ?_
  refine lv_iadd X.F.x X.F.b dL_law_377 ?_
  refine gSld X.F C X.X X.bl X.nb hi1 hx1 dL_law_378 ?_
  refine lv_aload_n X.F.x X.F.b dL_law_379 rfl (lv_at hl 0 rfl) ?_
  refine lv_iload X.F.x X.F.b dL_law_380 (lv_at hl 5 rfl) ?_
  refine lv_iconst (v := 2) X.F.x X.F.b dL_law_382 (by decide) ?_
  refine lv_iadd X.F.x X.F.b dL_law_383 ?_
  refine gSld X.F C X.X X.bl X.nb hi2 hx2 dL_law_384 ?_
  refine lv_aload_n X.F.x X.F.b dL_law_385 rfl (lv_at hl 3 rfl) ?_
  refine gkH X.F X.h1 X.ne C hl (kL_stoneOf hf h) wh_133 ⟨rfl, rfl, ⟨Nat.le_of_ble_eq_true rfl, Nat.le_of_ble_eq_true rfl⟩, ⟨by show cells + 2 ≤ 603072; omega, by show slots + 12 ≤ 7215210; omega⟩, Nat.le_of_ble_eq_true rfl⟩ (rest := []) rfl dL_law_386 (fun k1 S2 f3 H locs h C => ?_)
  refine lv_istore (lv' := [(6, .int k1), (0, .ref b), (1, .ref (ad 110)), (2, .ref (ad 117)), (3, .ref ao), (4, .ref a2), (5, .int i)]) X.F.x X.F.b dL_law_389 hl (by decide) rfl (fun ls hl => ?_)
  refine lv_aload_n X.F.x X.F.b dL_law_391 rfl (lv_at hl 3 rfl) ?_
  refine lv_aload_n X.F.x X.F.b dL_law_392 rfl (lv_at hl 1 rfl) ?_
  refine lv_iload X.F.x X.F.b dL_law_393 (lv_at hl 6 rfl) ?_
  refine lv_iconst (v := 1) X.F.x X.F.b dL_law_395 (by decide) ?_
  refine lv_iadd X.F.x X.F.b dL_law_396 ?_
  refine gSld X.F C X.X X.bl X.nb hi1 hx1 dL_law_397 ?_
  refine lv_aload_n X.F.x X.F.b dL_law_398 rfl (lv_at hl 1 rfl) ?_
  refine lv_iload X.F.x X.F.b dL_law_399 (lv_at hl 6 rfl) ?_
  refine lv_iconst (v := 2) X.F.x X.F.b dL_law_401 (by decide) ?_
  refine lv_iadd X.F.x X.F.b dL_law_402 ?_
  refine gSld X.F C X.X X.bl X.nb hi2 hx2 dL_law_403 ?_
  refine gkI X.F C hl (kX6_stoneOf h) (by decide) (ce_M _) rfl wv_L_135 ⟨rfl, rfl, ⟨Nat.le_of_ble_eq_true rfl, Nat.le_of_ble_eq_true rfl⟩, ⟨by show cells + 2 + 0 ≤ 603072; omega, by show slots + 12 + 0 ≤ 7215210; omega⟩, Nat.le_of_ble_eq_true rfl⟩ (rest := []) rfl dL_law_404 (fun r4 S5 H locs h C => ?_)
  refine lv_istore (lv' := [(7, .int r4), (6, .int k1), (0, .ref b), (1, .ref (ad 110)), (2, .ref (ad 117)), (3, .ref ao), (4, .ref a2), (5, .int i)]) X.F.x X.F.b dL_law_407 hl (by decide) rfl (fun ls hl => ?_)
  refine lv_aload_n X.F.x X.F.b dL_law_409 rfl (lv_at hl 4 rfl) ?_
  refine gkI X.F C hl (kX6_thrown h) (by decide) (ce_M _) rfl wv_L_123 ⟨rfl, rfl, ⟨Nat.le_of_ble_eq_true rfl, Nat.le_of_ble_eq_true rfl⟩, ⟨by show cells + 2 + 0 + 0 ≤ 603072; omega, by show slots + 12 + 0 + 0 ≤ 7215210; omega⟩, Nat.le_of_ble_eq_true rfl⟩ (rest := []) rfl dL_law_410 (fun r6 S7 H locs h C => ?_)
  refine lv_iload X.F.x X.F.b dL_law_413 (lv_at hl 1 rfl) ?_
  refine lv_icmp_eq (tgt := 420) X.F.x X.F.b dL_law_415 (by decide) (fun h8 => ?_) (fun h8 => absurd h.1 h8)
  refine lv_iload X.F.x X.F.b dL_law_420 (lv_at hl 1 rfl) ?_
  refine lv_if_ne (tgt := 437) X.F.x X.F.b dL_law_422 (by decide) (fun h9 => ?_) (fun h9 => ?_)
  · refine lv_goto (tgt := 1838) X.F.x X.F.b dL_law_437 (by decide) ?_
    refine W.widen (k := cells + 3) (n := slots + 18) (by omega) (by omega) ?_
    exact kk _ _ _ _ _ _ h.2.2 C (lv_sub hl [2, 3, 4, 5, 6, 7] rfl)
  · refine lv_aload_n X.F.x X.F.b dL_law_425 rfl (lv_at hl 5 rfl) ?_
    refine lv_iconst (v := 0) X.F.x X.F.b dL_law_426 (by decide) ?_
    refine gLald X.F C dL_law_427 ?_
    refine lv_iload X.F.x X.F.b dL_law_428 (lv_at hl 0 rfl) ?_
    refine lv_i2l X.F.x X.F.b dL_law_430 rfl ?_
    refine lv_lcmpE X.F.x X.F.b dL_law_431 (h.2.1 h9) ?_
    refine lv_if_eq (tgt := 437) X.F.x X.F.b dL_law_432 (by decide) (fun _ => ?_) (fun h7 => absurd rfl h7)
    refine lv_goto (tgt := 1838) X.F.x X.F.b dL_law_437 (by decide) ?_
    refine W.widen (k := cells + 3) (n := slots + 18) (by omega) (by omega) ?_
    exact kk _ _ _ _ _ _ h.2.2 C (lv_sub hl [2, 3, 4, 5, 6, 7] rfl)
def lawC4 (post : Mem → (Nat → Int64) → (Nat → UInt64) → Prop) (S : Mem) (f : Nat → Int64) (g : Nat → UInt64) (x1 x2 : Int32) : Prop := mX5_under (fun (r1 : Int32) (S2 : Mem) => mX6_under (fun (r3 : Int32) (S4 : Mem) => r1 = r3 ∧ post S4 f g) S2) S
set_option maxRecDepth 100000 in
theorem lawT4 {p : Program} {l : Launch} {e : Env} {s : State} {m : MethodId} {args : Array Value} {below : List Frame} {meth : Method} {c : Code} {Q : State → Prop} {D : va_G} {ky : Nat → ClassId} {ad : Nat → Nat} {ex : Nat → Nat → Nat} {b L : Nat} {xs : Nat → Int32} {ao a2 : Nat} (X : Lx p s m args meth c D ky ad ex b L xs ao a2) (hf : l.stackTraces = false) {post : Mem → (Nat → Int64) → (Nat → UInt64) → Prop} {S : Mem} {f : Nat → Int64} {g : Nat → UInt64} {i x1 x2 : Int32} (hi1 : vp_in (i + 1) L) (hi2 : vp_in (i + 2) L) (hx1 : xs (i + 1).toNatClampNeg = x1) (hx2 : xs (i + 2).toNatClampNeg = x2) (h : lawC4 post S f g x1 x2) {H : Heap} {locs : List Loc} {ls : Array Slot} {cells slots : Nat} (hc : cells + 3 ≤ 603072) (hs : slots + 18 ≤ 7215210) (C : Cg D ky ad s (fun q => s.heap.size ≤ q) S [(ao, lce ky f), (a2, dce ky g)] H locs) (hl : lv_has ls 9 [(0, .ref b), (1, .ref (ad 110)), (2, .ref (ad 117)), (3, .ref ao), (4, .ref a2), (5, .int i)]) (kk : ∀ (S : Mem) (f : Nat → Int64) (g : Nat → UInt64) (H : Heap) (locs : List Loc) (ls : Array Slot), post S f g → Cg D ky ad s (fun q => s.heap.size ≤ q) S [(ao, lce ky f), (a2, dce ky g)] H locs → lv_has ls 9 [(0, .ref b), (1, .ref (ad 110)), (2, .ref (ad 117)), (3, .ref ao), (4, .ref a2), (5, .int i)] → W p l e room_1 s m args below meth c H locs (cells + 3) (slots + 18) Q (F0 m 1838 ls [])) : W p l e room_1 s m args below meth c H locs cells slots Q (F0 m 440 ls []) := by
  unfold lawC4 at h
  refine lv_aload_n X.F.x X.F.b dL_law_440 rfl (lv_at hl 1 rfl) ?_
  refine gkI X.F C hl (kX5_under h) (by decide) (ce_X _) rfl wv_L_136 ⟨rfl, rfl, ⟨Nat.le_of_ble_eq_true rfl, Nat.le_of_ble_eq_true rfl⟩, ⟨by show cells + 0 ≤ 603072; omega, by show slots + 0 ≤ 7215210; omega⟩, Nat.le_of_ble_eq_true rfl⟩ (rest := []) rfl dL_law_441 (fun r1 S2 H locs h C => ?_)
  refine lv_aload_n X.F.x X.F.b dL_law_444 rfl (lv_at hl 2 rfl) ?_
  refine gkI X.F C hl (kX6_under h) (by decide) (ce_M _) rfl wv_L_139 ⟨rfl, rfl, ⟨Nat.le_of_ble_eq_true rfl, Nat.le_of_ble_eq_true rfl⟩, ⟨by show cells + 0 + 0 ≤ 603072; omega, by show slots + 0 + 0 ≤ 7215210; omega⟩, Nat.le_of_ble_eq_true rfl⟩ (rest := [.int r1]) rfl dL_law_445 (fun r3 S4 H locs h C => ?_)
  refine lv_icmp_eq (tgt := 1838) X.F.x X.F.b dL_law_448 (by decide) (fun h8 => ?_) (fun h8 => absurd h.1 h8)
  refine W.widen (k := cells + 3) (n := slots + 18) (by omega) (by omega) ?_
  exact kk _ _ _ _ _ _ h.2 C (lv_sub hl [0, 1, 2, 3, 4, 5] rfl)
def lawC5 (post : Mem → (Nat → Int64) → (Nat → UInt64) → Prop) (S : Mem) (f : Nat → Int64) (g : Nat → UInt64) (x1 x2 : Int32) : Prop := mL_flood (fun (k1 : Int32) (S2 : Mem) (f3 : Nat → Int64) => mX6_flood (fun (r4 : Int32) (S5 : Mem) => mX6_thrown (fun (r6 : Int32) (S7 : Mem) => r6 = k1 ∧ (k1 = 0 → f3 0 = r4.toInt64) ∧ post S7 f3 g) S5) S2 x1) S f x1
set_option maxRecDepth 100000 in
theorem lawT5 {p : Program} {l : Launch} {e : Env} {s : State} {m : MethodId} {args : Array Value} {below : List Frame} {meth : Method} {c : Code} {Q : State → Prop} {D : va_G} {ky : Nat → ClassId} {ad : Nat → Nat} {ex : Nat → Nat → Nat} {b L : Nat} {xs : Nat → Int32} {ao a2 : Nat} (X : Lx p s m args meth c D ky ad ex b L xs ao a2) (hf : l.stackTraces = false) {post : Mem → (Nat → Int64) → (Nat → UInt64) → Prop} {S : Mem} {f : Nat → Int64} {g : Nat → UInt64} {i x1 x2 : Int32} (hi1 : vp_in (i + 1) L) (hi2 : vp_in (i + 2) L) (hx1 : xs (i + 1).toNatClampNeg = x1) (hx2 : xs (i + 2).toNatClampNeg = x2) (h : lawC5 post S f g x1 x2) {H : Heap} {locs : List Loc} {ls : Array Slot} {cells slots : Nat} (hc : cells + 3 ≤ 603072) (hs : slots + 18 ≤ 7215210) (C : Cg D ky ad s (fun q => s.heap.size ≤ q) S [(ao, lce ky f), (a2, dce ky g)] H locs) (hl : lv_has ls 9 [(0, .ref b), (1, .ref (ad 110)), (2, .ref (ad 117)), (3, .ref ao), (4, .ref a2), (5, .int i)]) (kk : ∀ (S : Mem) (f : Nat → Int64) (g : Nat → UInt64) (H : Heap) (locs : List Loc) (ls : Array Slot), post S f g → Cg D ky ad s (fun q => s.heap.size ≤ q) S [(ao, lce ky f), (a2, dce ky g)] H locs → lv_has ls 9 [(0, .ref b), (1, .ref (ad 110)), (2, .ref (ad 117)), (3, .ref ao), (4, .ref a2), (5, .int i)] → W p l e room_1 s m args below meth c H locs (cells + 3) (slots + 18) Q (F0 m 1838 ls [])) : W p l e room_1 s m args below meth c H locs cells slots Q (F0 m 453 ls []) := by
  unfold lawC5 at h
  refine lv_aload_n X.F.x X.F.b dL_law_453 rfl (lv_at hl 1 rfl) ?_
  refine lv_aload_n X.F.x X.F.b dL_law_454 rfl (lv_at hl 0 rfl) ?_
  refine lv_iload X.F.x X.F.b dL_law_455 (lv_at hl 5 rfl) ?_
  refine lv_iconst (v := 1) X.F.x X.F.b dL_law_457 (by decide) ?_
  refine lv_iadd X.F.x X.F.b dL_law_458 ?_
  refine gSld X.F C X.X X.bl X.nb hi1 hx1 dL_law_459 ?_
  refine lv_aload_n X.F.x X.F.b dL_law_460 rfl (lv_at hl 3 rfl) ?_
  refine gkH X.F X.h1 X.ne C hl (kL_flood hf h) wh_140 ⟨rfl, rfl, ⟨Nat.le_of_ble_eq_true rfl, Nat.le_of_ble_eq_true rfl⟩, ⟨by show cells + 1 ≤ 603072; omega, by show slots + 6 ≤ 7215210; omega⟩, Nat.le_of_ble_eq_true rfl⟩ (rest := []) rfl dL_law_461 (fun k1 S2 f3 H locs h C => ?_)
  refine lv_istore (lv' := [(6, .int k1), (0, .ref b), (1, .ref (ad 110)), (2, .ref (ad 117)), (3, .ref ao), (4, .ref a2), (5, .int i)]) X.F.x X.F.b dL_law_464 hl (by decide) rfl (fun ls hl => ?_)
  refine lv_aload_n X.F.x X.F.b dL_law_466 rfl (lv_at hl 3 rfl) ?_
  refine lv_aload_n X.F.x X.F.b dL_law_467 rfl (lv_at hl 1 rfl) ?_
  refine lv_iload X.F.x X.F.b dL_law_468 (lv_at hl 6 rfl) ?_
  refine lv_iconst (v := 1) X.F.x X.F.b dL_law_470 (by decide) ?_
  refine lv_iadd X.F.x X.F.b dL_law_471 ?_
  refine gSld X.F C X.X X.bl X.nb hi1 hx1 dL_law_472 ?_
  refine gkI X.F C hl (kX6_flood h) (by decide) (ce_M _) rfl wv_L_142 ⟨rfl, rfl, ⟨Nat.le_of_ble_eq_true rfl, Nat.le_of_ble_eq_true rfl⟩, ⟨by show cells + 1 + 0 ≤ 603072; omega, by show slots + 6 + 0 ≤ 7215210; omega⟩, Nat.le_of_ble_eq_true rfl⟩ (rest := []) rfl dL_law_473 (fun r4 S5 H locs h C => ?_)
  refine lv_istore (lv' := [(7, .int r4), (6, .int k1), (0, .ref b), (1, .ref (ad 110)), (2, .ref (ad 117)), (3, .ref ao), (4, .ref a2), (5, .int i)]) X.F.x X.F.b dL_law_476 hl (by decide) rfl (fun ls hl => ?_)
  refine lv_aload_n X.F.x X.F.b dL_law_478 rfl (lv_at hl 4 rfl) ?_
  refine gkI X.F C hl (kX6_thrown h) (by decide) (ce_M _) rfl wv_L_123 ⟨rfl, rfl, ⟨Nat.le_of_ble_eq_true rfl, Nat.le_of_ble_eq_true rfl⟩, ⟨by show cells + 1 + 0 + 0 ≤ 603072; omega, by show slots + 6 + 0 + 0 ≤ 7215210; omega⟩, Nat.le_of_ble_eq_true rfl⟩ (rest := []) rfl dL_law_479 (fun r6 S7 H locs h C => ?_)
  refine lv_iload X.F.x X.F.b dL_law_482 (lv_at hl 1 rfl) ?_
  refine lv_icmp_eq (tgt := 489) X.F.x X.F.b dL_law_484 (by decide) (fun h8 => ?_) (fun h8 => absurd h.1 h8)
  refine lv_iload X.F.x X.F.b dL_law_489 (lv_at hl 1 rfl) ?_
  refine lv_if_ne (tgt := 506) X.F.x X.F.b dL_law_491 (by decide) (fun h9 => ?_) (fun h9 => ?_)
  · refine lv_goto (tgt := 1838) X.F.x X.F.b dL_law_506 (by decide) ?_
    refine W.widen (k := cells + 3) (n := slots + 18) (by omega) (by omega) ?_
    exact kk _ _ _ _ _ _ h.2.2 C (lv_sub hl [2, 3, 4, 5, 6, 7] rfl)
  · refine lv_aload_n X.F.x X.F.b dL_law_494 rfl (lv_at hl 5 rfl) ?_
    refine lv_iconst (v := 0) X.F.x X.F.b dL_law_495 (by decide) ?_
    refine gLald X.F C dL_law_496 ?_
    refine lv_iload X.F.x X.F.b dL_law_497 (lv_at hl 0 rfl) ?_
    refine lv_i2l X.F.x X.F.b dL_law_499 rfl ?_
    refine lv_lcmpE X.F.x X.F.b dL_law_500 (h.2.1 h9) ?_
    refine lv_if_eq (tgt := 506) X.F.x X.F.b dL_law_501 (by decide) (fun _ => ?_) (fun h7 => absurd rfl h7)
    refine lv_goto (tgt := 1838) X.F.x X.F.b dL_law_506 (by decide) ?_
    refine W.widen (k := cells + 3) (n := slots + 18) (by omega) (by omega) ?_
    exact kk _ _ _ _ _ _ h.2.2 C (lv_sub hl [2, 3, 4, 5, 6, 7] rfl)
def lawC6 (post : Mem → (Nat → Int64) → (Nat → UInt64) → Prop) (S : Mem) (f : Nat → Int64) (g : Nat → UInt64) (x1 x2 : Int32) : Prop := mL_floodAgain (fun (k1 : Int32) (S2 : Mem) (f3 : Nat → Int64) => mX6_floodAgain (fun (r4 : Int32) (S5 : Mem) => mX6_thrown (fun (r6 : Int32) (S7 : Mem) => r6 = k1 ∧ (k1 = 0 → f3 0 = r4.toInt64) ∧ post S7 f3 g) S5) S2 x1) S f x1
set_option maxRecDepth 100000 in
theorem lawT6 {p : Program} {l : Launch} {e : Env} {s : State} {m : MethodId} {args : Array Value} {below : List Frame} {meth : Method} {c : Code} {Q : State → Prop} {D : va_G} {ky : Nat → ClassId} {ad : Nat → Nat} {ex : Nat → Nat → Nat} {b L : Nat} {xs : Nat → Int32} {ao a2 : Nat} (X : Lx p s m args meth c D ky ad ex b L xs ao a2) (hf : l.stackTraces = false) {post : Mem → (Nat → Int64) → (Nat → UInt64) → Prop} {S : Mem} {f : Nat → Int64} {g : Nat → UInt64} {i x1 x2 : Int32} (hi1 : vp_in (i + 1) L) (hi2 : vp_in (i + 2) L) (hx1 : xs (i + 1).toNatClampNeg = x1) (hx2 : xs (i + 2).toNatClampNeg = x2) (h : lawC6 post S f g x1 x2) {H : Heap} {locs : List Loc} {ls : Array Slot} {cells slots : Nat} (hc : cells + 3 ≤ 603072) (hs : slots + 18 ≤ 7215210) (C : Cg D ky ad s (fun q => s.heap.size ≤ q) S [(ao, lce ky f), (a2, dce ky g)] H locs) (hl : lv_has ls 9 [(0, .ref b), (1, .ref (ad 110)), (2, .ref (ad 117)), (3, .ref ao), (4, .ref a2), (5, .int i)]) (kk : ∀ (S : Mem) (f : Nat → Int64) (g : Nat → UInt64) (H : Heap) (locs : List Loc) (ls : Array Slot), post S f g → Cg D ky ad s (fun q => s.heap.size ≤ q) S [(ao, lce ky f), (a2, dce ky g)] H locs → lv_has ls 9 [(0, .ref b), (1, .ref (ad 110)), (2, .ref (ad 117)), (3, .ref ao), (4, .ref a2), (5, .int i)] → W p l e room_1 s m args below meth c H locs (cells + 3) (slots + 18) Q (F0 m 1838 ls [])) : W p l e room_1 s m args below meth c H locs cells slots Q (F0 m 509 ls []) := by
  unfold lawC6 at h
  refine lv_aload_n X.F.x X.F.b dL_law_509 rfl (lv_at hl 1 rfl) ?_
  refine lv_aload_n X.F.x X.F.b dL_law_510 rfl (lv_at hl 0 rfl) ?_
  refine lv_iload X.F.x X.F.b dL_law_511 (lv_at hl 5 rfl) ?_
  refine lv_iconst (v := 1) X.F.x X.F.b dL_law_513 (by decide) ?_
  refine lv_iadd X.F.x X.F.b dL_law_514 ?_
  refine gSld X.F C X.X X.bl X.nb hi1 hx1 dL_law_515 ?_
  refine lv_aload_n X.F.x X.F.b dL_law_516 rfl (lv_at hl 3 rfl) ?_
  refine gkH X.F X.h1 X.ne C hl (kL_floodAgain hf h) wh_143 ⟨rfl, rfl, ⟨Nat.le_of_ble_eq_true rfl, Nat.le_of_ble_eq_true rfl⟩, ⟨by show cells + 1 ≤ 603072; omega, by show slots + 6 ≤ 7215210; omega⟩, Nat.le_of_ble_eq_true rfl⟩ (rest := []) rfl dL_law_517 (fun k1 S2 f3 H locs h C => ?_)
  refine lv_istore (lv' := [(6, .int k1), (0, .ref b), (1, .ref (ad 110)), (2, .ref (ad 117)), (3, .ref ao), (4, .ref a2), (5, .int i)]) X.F.x X.F.b dL_law_520 hl (by decide) rfl (fun ls hl => ?_)
  refine lv_aload_n X.F.x X.F.b dL_law_522 rfl (lv_at hl 3 rfl) ?_
  refine lv_aload_n X.F.x X.F.b dL_law_523 rfl (lv_at hl 1 rfl) ?_
  refine lv_iload X.F.x X.F.b dL_law_524 (lv_at hl 6 rfl) ?_
  refine lv_iconst (v := 1) X.F.x X.F.b dL_law_526 (by decide) ?_
  refine lv_iadd X.F.x X.F.b dL_law_527 ?_
  refine gSld X.F C X.X X.bl X.nb hi1 hx1 dL_law_528 ?_
  refine gkI X.F C hl (kX6_floodAgain h) (by decide) (ce_M _) rfl wv_L_145 ⟨rfl, rfl, ⟨Nat.le_of_ble_eq_true rfl, Nat.le_of_ble_eq_true rfl⟩, ⟨by show cells + 1 + 0 ≤ 603072; omega, by show slots + 6 + 0 ≤ 7215210; omega⟩, Nat.le_of_ble_eq_true rfl⟩ (rest := []) rfl dL_law_529 (fun r4 S5 H locs h C => ?_)
  refine lv_istore (lv' := [(7, .int r4), (6, .int k1), (0, .ref b), (1, .ref (ad 110)), (2, .ref (ad 117)), (3, .ref ao), (4, .ref a2), (5, .int i)]) X.F.x X.F.b dL_law_532 hl (by decide) rfl (fun ls hl => ?_)
  refine lv_aload_n X.F.x X.F.b dL_law_534 rfl (lv_at hl 4 rfl) ?_
  refine gkI X.F C hl (kX6_thrown h) (by decide) (ce_M _) rfl wv_L_123 ⟨rfl, rfl, ⟨Nat.le_of_ble_eq_true rfl, Nat.le_of_ble_eq_true rfl⟩, ⟨by show cells + 1 + 0 + 0 ≤ 603072; omega, by show slots + 6 + 0 + 0 ≤ 7215210; omega⟩, Nat.le_of_ble_eq_true rfl⟩ (rest := []) rfl dL_law_535 (fun r6 S7 H locs h C => ?_)
  refine lv_iload X.F.x X.F.b dL_law_538 (lv_at hl 1 rfl) ?_
  refine lv_icmp_eq (tgt := 545) X.F.x X.F.b dL_law_540 (by decide) (fun h8 => ?_) (fun h8 => absurd h.1 h8)
  refine lv_iload X.F.x X.F.b dL_law_545 (lv_at hl 1 rfl) ?_
  refine lv_if_ne (tgt := 562) X.F.x X.F.b dL_law_547 (by decide) (fun h9 => ?_) (fun h9 => ?_)
  · refine lv_goto (tgt := 1838) X.F.x X.F.b dL_law_562 (by decide) ?_
    refine W.widen (k := cells + 3) (n := slots + 18) (by omega) (by omega) ?_
    exact kk _ _ _ _ _ _ h.2.2 C (lv_sub hl [2, 3, 4, 5, 6, 7] rfl)
  · refine lv_aload_n X.F.x X.F.b dL_law_550 rfl (lv_at hl 5 rfl) ?_
    refine lv_iconst (v := 0) X.F.x X.F.b dL_law_551 (by decide) ?_
    refine gLald X.F C dL_law_552 ?_
    refine lv_iload X.F.x X.F.b dL_law_553 (lv_at hl 0 rfl) ?_
    refine lv_i2l X.F.x X.F.b dL_law_555 rfl ?_
    refine lv_lcmpE X.F.x X.F.b dL_law_556 (h.2.1 h9) ?_
    refine lv_if_eq (tgt := 562) X.F.x X.F.b dL_law_557 (by decide) (fun _ => ?_) (fun h7 => absurd rfl h7)
    refine lv_goto (tgt := 1838) X.F.x X.F.b dL_law_562 (by decide) ?_
    refine W.widen (k := cells + 3) (n := slots + 18) (by omega) (by omega) ?_
    exact kk _ _ _ _ _ _ h.2.2 C (lv_sub hl [2, 3, 4, 5, 6, 7] rfl)
def lawC7 (post : Mem → (Nat → Int64) → (Nat → UInt64) → Prop) (S : Mem) (f : Nat → Int64) (g : Nat → UInt64) (x1 x2 : Int32) : Prop := mL_clearIn (fun (k1 : Int32) (S2 : Mem) (f3 : Nat → Int64) => mX6_clearIn (fun (r4 : Int32) (S5 : Mem) => mX6_thrown (fun (r6 : Int32) (S7 : Mem) => r6 = k1 ∧ (k1 = 0 → f3 0 = r4.toInt64) ∧ post S7 f3 g) S5) S2) S f
set_option maxRecDepth 100000 in
theorem lawT7 {p : Program} {l : Launch} {e : Env} {s : State} {m : MethodId} {args : Array Value} {below : List Frame} {meth : Method} {c : Code} {Q : State → Prop} {D : va_G} {ky : Nat → ClassId} {ad : Nat → Nat} {ex : Nat → Nat → Nat} {b L : Nat} {xs : Nat → Int32} {ao a2 : Nat} (X : Lx p s m args meth c D ky ad ex b L xs ao a2) (hf : l.stackTraces = false) {post : Mem → (Nat → Int64) → (Nat → UInt64) → Prop} {S : Mem} {f : Nat → Int64} {g : Nat → UInt64} {i x1 x2 : Int32} (hi1 : vp_in (i + 1) L) (hi2 : vp_in (i + 2) L) (hx1 : xs (i + 1).toNatClampNeg = x1) (hx2 : xs (i + 2).toNatClampNeg = x2) (h : lawC7 post S f g x1 x2) {H : Heap} {locs : List Loc} {ls : Array Slot} {cells slots : Nat} (hc : cells + 3 ≤ 603072) (hs : slots + 18 ≤ 7215210) (C : Cg D ky ad s (fun q => s.heap.size ≤ q) S [(ao, lce ky f), (a2, dce ky g)] H locs) (hl : lv_has ls 9 [(0, .ref b), (1, .ref (ad 110)), (2, .ref (ad 117)), (3, .ref ao), (4, .ref a2), (5, .int i)]) (kk : ∀ (S : Mem) (f : Nat → Int64) (g : Nat → UInt64) (H : Heap) (locs : List Loc) (ls : Array Slot), post S f g → Cg D ky ad s (fun q => s.heap.size ≤ q) S [(ao, lce ky f), (a2, dce ky g)] H locs → lv_has ls 9 [(0, .ref b), (1, .ref (ad 110)), (2, .ref (ad 117)), (3, .ref ao), (4, .ref a2), (5, .int i)] → W p l e room_1 s m args below meth c H locs (cells + 3) (slots + 18) Q (F0 m 1838 ls [])) : W p l e room_1 s m args below meth c H locs cells slots Q (F0 m 565 ls []) := by
  unfold lawC7 at h
  refine lv_aload_n X.F.x X.F.b dL_law_565 rfl (lv_at hl 1 rfl) ?_
  refine lv_aload_n X.F.x X.F.b dL_law_566 rfl (lv_at hl 3 rfl) ?_
  refine gkH X.F X.h1 X.ne C hl (kL_clearIn hf h) wh_146 ⟨rfl, rfl, ⟨Nat.le_of_ble_eq_true rfl, Nat.le_of_ble_eq_true rfl⟩, ⟨by show cells + 1 ≤ 603072; omega, by show slots + 6 ≤ 7215210; omega⟩, Nat.le_of_ble_eq_true rfl⟩ (rest := []) rfl dL_law_567 (fun k1 S2 f3 H locs h C => ?_)
  refine lv_istore (lv' := [(6, .int k1), (0, .ref b), (1, .ref (ad 110)), (2, .ref (ad 117)), (3, .ref ao), (4, .ref a2), (5, .int i)]) X.F.x X.F.b dL_law_570 hl (by decide) rfl (fun ls hl => ?_)
  refine lv_aload_n X.F.x X.F.b dL_law_572 rfl (lv_at hl 3 rfl) ?_
  refine gkI X.F C hl (kX6_clearIn h) (by decide) (ce_M _) rfl wv_L_149 ⟨rfl, rfl, ⟨Nat.le_of_ble_eq_true rfl, Nat.le_of_ble_eq_true rfl⟩, ⟨by show cells + 1 + 0 ≤ 603072; omega, by show slots + 6 + 0 ≤ 7215210; omega⟩, Nat.le_of_ble_eq_true rfl⟩ (rest := []) rfl dL_law_573 (fun r4 S5 H locs h C => ?_)
  refine lv_istore (lv' := [(7, .int r4), (6, .int k1), (0, .ref b), (1, .ref (ad 110)), (2, .ref (ad 117)), (3, .ref ao), (4, .ref a2), (5, .int i)]) X.F.x X.F.b dL_law_576 hl (by decide) rfl (fun ls hl => ?_)
  refine lv_aload_n X.F.x X.F.b dL_law_578 rfl (lv_at hl 4 rfl) ?_
  refine gkI X.F C hl (kX6_thrown h) (by decide) (ce_M _) rfl wv_L_123 ⟨rfl, rfl, ⟨Nat.le_of_ble_eq_true rfl, Nat.le_of_ble_eq_true rfl⟩, ⟨by show cells + 1 + 0 + 0 ≤ 603072; omega, by show slots + 6 + 0 + 0 ≤ 7215210; omega⟩, Nat.le_of_ble_eq_true rfl⟩ (rest := []) rfl dL_law_579 (fun r6 S7 H locs h C => ?_)
  refine lv_iload X.F.x X.F.b dL_law_582 (lv_at hl 1 rfl) ?_
  refine lv_icmp_eq (tgt := 589) X.F.x X.F.b dL_law_584 (by decide) (fun h8 => ?_) (fun h8 => absurd h.1 h8)
  refine lv_iload X.F.x X.F.b dL_law_589 (lv_at hl 1 rfl) ?_
  refine lv_if_ne (tgt := 606) X.F.x X.F.b dL_law_591 (by decide) (fun h9 => ?_) (fun h9 => ?_)
  · refine lv_goto (tgt := 1838) X.F.x X.F.b dL_law_606 (by decide) ?_
    refine W.widen (k := cells + 3) (n := slots + 18) (by omega) (by omega) ?_
    exact kk _ _ _ _ _ _ h.2.2 C (lv_sub hl [2, 3, 4, 5, 6, 7] rfl)
  · refine lv_aload_n X.F.x X.F.b dL_law_594 rfl (lv_at hl 5 rfl) ?_
    refine lv_iconst (v := 0) X.F.x X.F.b dL_law_595 (by decide) ?_
    refine gLald X.F C dL_law_596 ?_
    refine lv_iload X.F.x X.F.b dL_law_597 (lv_at hl 0 rfl) ?_
    refine lv_i2l X.F.x X.F.b dL_law_599 rfl ?_
    refine lv_lcmpE X.F.x X.F.b dL_law_600 (h.2.1 h9) ?_
    refine lv_if_eq (tgt := 606) X.F.x X.F.b dL_law_601 (by decide) (fun _ => ?_) (fun h7 => absurd rfl h7)
    refine lv_goto (tgt := 1838) X.F.x X.F.b dL_law_606 (by decide) ?_
    refine W.widen (k := cells + 3) (n := slots + 18) (by omega) (by omega) ?_
    exact kk _ _ _ _ _ _ h.2.2 C (lv_sub hl [2, 3, 4, 5, 6, 7] rfl)
def lawC8 (post : Mem → (Nat → Int64) → (Nat → UInt64) → Prop) (S : Mem) (f : Nat → Int64) (g : Nat → UInt64) (x1 x2 : Int32) : Prop := mL_traveller (fun (k1 : Int32) (S2 : Mem) (f3 : Nat → Int64) => mX6_traveller (fun (r4 : Int32) (S5 : Mem) => mX6_thrown (fun (r6 : Int32) (S7 : Mem) => r6 = k1 ∧ (k1 = 0 → f3 0 = r4.toInt64) ∧ post S7 f3 g) S5) S2 x1) S f x1
set_option maxRecDepth 100000 in
theorem lawT8 {p : Program} {l : Launch} {e : Env} {s : State} {m : MethodId} {args : Array Value} {below : List Frame} {meth : Method} {c : Code} {Q : State → Prop} {D : va_G} {ky : Nat → ClassId} {ad : Nat → Nat} {ex : Nat → Nat → Nat} {b L : Nat} {xs : Nat → Int32} {ao a2 : Nat} (X : Lx p s m args meth c D ky ad ex b L xs ao a2) (hf : l.stackTraces = false) {post : Mem → (Nat → Int64) → (Nat → UInt64) → Prop} {S : Mem} {f : Nat → Int64} {g : Nat → UInt64} {i x1 x2 : Int32} (hi1 : vp_in (i + 1) L) (hi2 : vp_in (i + 2) L) (hx1 : xs (i + 1).toNatClampNeg = x1) (hx2 : xs (i + 2).toNatClampNeg = x2) (h : lawC8 post S f g x1 x2) {H : Heap} {locs : List Loc} {ls : Array Slot} {cells slots : Nat} (hc : cells + 3 ≤ 603072) (hs : slots + 18 ≤ 7215210) (C : Cg D ky ad s (fun q => s.heap.size ≤ q) S [(ao, lce ky f), (a2, dce ky g)] H locs) (hl : lv_has ls 9 [(0, .ref b), (1, .ref (ad 110)), (2, .ref (ad 117)), (3, .ref ao), (4, .ref a2), (5, .int i)]) (kk : ∀ (S : Mem) (f : Nat → Int64) (g : Nat → UInt64) (H : Heap) (locs : List Loc) (ls : Array Slot), post S f g → Cg D ky ad s (fun q => s.heap.size ≤ q) S [(ao, lce ky f), (a2, dce ky g)] H locs → lv_has ls 9 [(0, .ref b), (1, .ref (ad 110)), (2, .ref (ad 117)), (3, .ref ao), (4, .ref a2), (5, .int i)] → W p l e room_1 s m args below meth c H locs (cells + 3) (slots + 18) Q (F0 m 1838 ls [])) : W p l e room_1 s m args below meth c H locs cells slots Q (F0 m 609 ls []) := by
  unfold lawC8 at h
  refine lv_aload_n X.F.x X.F.b dL_law_609 rfl (lv_at hl 1 rfl) ?_
  refine lv_aload_n X.F.x X.F.b dL_law_610 rfl (lv_at hl 0 rfl) ?_
  refine lv_iload X.F.x X.F.b dL_law_611 (lv_at hl 5 rfl) ?_
  refine lv_iconst (v := 1) X.F.x X.F.b dL_law_613 (by decide) ?_
  refine lv_iadd X.F.x X.F.b dL_law_614 ?_
  refine gSld X.F C X.X X.bl X.nb hi1 hx1 dL_law_615 ?_
  refine lv_aload_n X.F.x X.F.b dL_law_616 rfl (lv_at hl 3 rfl) ?_
  refine gkH X.F X.h1 X.ne C hl (kL_traveller hf h) wh_150 ⟨rfl, rfl, ⟨Nat.le_of_ble_eq_true rfl, Nat.le_of_ble_eq_true rfl⟩, ⟨by show cells + 2 ≤ 603072; omega, by show slots + 12 ≤ 7215210; omega⟩, Nat.le_of_ble_eq_true rfl⟩ (rest := []) rfl dL_law_617 (fun k1 S2 f3 H locs h C => ?_)
  refine lv_istore (lv' := [(6, .int k1), (0, .ref b), (1, .ref (ad 110)), (2, .ref (ad 117)), (3, .ref ao), (4, .ref a2), (5, .int i)]) X.F.x X.F.b dL_law_620 hl (by decide) rfl (fun ls hl => ?_)
  refine lv_aload_n X.F.x X.F.b dL_law_622 rfl (lv_at hl 3 rfl) ?_
  refine lv_aload_n X.F.x X.F.b dL_law_623 rfl (lv_at hl 1 rfl) ?_
  refine lv_iload X.F.x X.F.b dL_law_624 (lv_at hl 6 rfl) ?_
  refine lv_iconst (v := 1) X.F.x X.F.b dL_law_626 (by decide) ?_
  refine lv_iadd X.F.x X.F.b dL_law_627 ?_
  refine gSld X.F C X.X X.bl X.nb hi1 hx1 dL_law_628 ?_
  refine gkI X.F C hl (kX6_traveller h) (by decide) (ce_M _) rfl wv_L_152 ⟨rfl, rfl, ⟨Nat.le_of_ble_eq_true rfl, Nat.le_of_ble_eq_true rfl⟩, ⟨by show cells + 2 + 0 ≤ 603072; omega, by show slots + 12 + 0 ≤ 7215210; omega⟩, Nat.le_of_ble_eq_true rfl⟩ (rest := []) rfl dL_law_629 (fun r4 S5 H locs h C => ?_)
  refine lv_istore (lv' := [(7, .int r4), (6, .int k1), (0, .ref b), (1, .ref (ad 110)), (2, .ref (ad 117)), (3, .ref ao), (4, .ref a2), (5, .int i)]) X.F.x X.F.b dL_law_632 hl (by decide) rfl (fun ls hl => ?_)
  refine lv_aload_n X.F.x X.F.b dL_law_634 rfl (lv_at hl 4 rfl) ?_
  refine gkI X.F C hl (kX6_thrown h) (by decide) (ce_M _) rfl wv_L_123 ⟨rfl, rfl, ⟨Nat.le_of_ble_eq_true rfl, Nat.le_of_ble_eq_true rfl⟩, ⟨by show cells + 2 + 0 + 0 ≤ 603072; omega, by show slots + 12 + 0 + 0 ≤ 7215210; omega⟩, Nat.le_of_ble_eq_true rfl⟩ (rest := []) rfl dL_law_635 (fun r6 S7 H locs h C => ?_)
  refine lv_iload X.F.x X.F.b dL_law_638 (lv_at hl 1 rfl) ?_
  refine lv_icmp_eq (tgt := 645) X.F.x X.F.b dL_law_640 (by decide) (fun h8 => ?_) (fun h8 => absurd h.1 h8)
  refine lv_iload X.F.x X.F.b dL_law_645 (lv_at hl 1 rfl) ?_
  refine lv_if_ne (tgt := 662) X.F.x X.F.b dL_law_647 (by decide) (fun h9 => ?_) (fun h9 => ?_)
  · refine lv_goto (tgt := 1838) X.F.x X.F.b dL_law_662 (by decide) ?_
    refine W.widen (k := cells + 3) (n := slots + 18) (by omega) (by omega) ?_
    exact kk _ _ _ _ _ _ h.2.2 C (lv_sub hl [2, 3, 4, 5, 6, 7] rfl)
  · refine lv_aload_n X.F.x X.F.b dL_law_650 rfl (lv_at hl 5 rfl) ?_
    refine lv_iconst (v := 0) X.F.x X.F.b dL_law_651 (by decide) ?_
    refine gLald X.F C dL_law_652 ?_
    refine lv_iload X.F.x X.F.b dL_law_653 (lv_at hl 0 rfl) ?_
    refine lv_i2l X.F.x X.F.b dL_law_655 rfl ?_
    refine lv_lcmpE X.F.x X.F.b dL_law_656 (h.2.1 h9) ?_
    refine lv_if_eq (tgt := 662) X.F.x X.F.b dL_law_657 (by decide) (fun _ => ?_) (fun h7 => absurd rfl h7)
    refine lv_goto (tgt := 1838) X.F.x X.F.b dL_law_662 (by decide) ?_
    refine W.widen (k := cells + 3) (n := slots + 18) (by omega) (by omega) ?_
    exact kk _ _ _ _ _ _ h.2.2 C (lv_sub hl [2, 3, 4, 5, 6, 7] rfl)
def lawC9 (post : Mem → (Nat → Int64) → (Nat → UInt64) → Prop) (S : Mem) (f : Nat → Int64) (g : Nat → UInt64) (x1 x2 : Int32) : Prop := mL_travellerOf (fun (k1 : Int32) (S2 : Mem) (f3 : Nat → Int64) => mX6_travellerOf (fun (r4 : Int32) (S5 : Mem) => mX6_thrown (fun (r6 : Int32) (S7 : Mem) => r6 = k1 ∧ (k1 = 0 → f3 0 = r4.toInt64) ∧ post S7 f3 g) S5) S2 x1 x2) S f x1 x2
set_option maxRecDepth 100000 in
theorem lawT9 {p : Program} {l : Launch} {e : Env} {s : State} {m : MethodId} {args : Array Value} {below : List Frame} {meth : Method} {c : Code} {Q : State → Prop} {D : va_G} {ky : Nat → ClassId} {ad : Nat → Nat} {ex : Nat → Nat → Nat} {b L : Nat} {xs : Nat → Int32} {ao a2 : Nat} (X : Lx p s m args meth c D ky ad ex b L xs ao a2) (hf : l.stackTraces = false) {post : Mem → (Nat → Int64) → (Nat → UInt64) → Prop} {S : Mem} {f : Nat → Int64} {g : Nat → UInt64} {i x1 x2 : Int32} (hi1 : vp_in (i + 1) L) (hi2 : vp_in (i + 2) L) (hx1 : xs (i + 1).toNatClampNeg = x1) (hx2 : xs (i + 2).toNatClampNeg = x2) (h : lawC9 post S f g x1 x2) {H : Heap} {locs : List Loc} {ls : Array Slot} {cells slots : Nat} (hc : cells + 3 ≤ 603072) (hs : slots + 18 ≤ 7215210) (C : Cg D ky ad s (fun q => s.heap.size ≤ q) S [(ao, lce ky f), (a2, dce ky g)] H locs) (hl : lv_has ls 9 [(0, .ref b), (1, .ref (ad 110)), (2, .ref (ad 117)), (3, .ref ao), (4, .ref a2), (5, .int i)]) (kk : ∀ (S : Mem) (f : Nat → Int64) (g : Nat → UInt64) (H : Heap) (locs : List Loc) (ls : Array Slot), post S f g → Cg D ky ad s (fun q => s.heap.size ≤ q) S [(ao, lce ky f), (a2, dce ky g)] H locs → lv_has ls 9 [(0, .ref b), (1, .ref (ad 110)), (2, .ref (ad 117)), (3, .ref ao), (4, .ref a2), (5, .int i)] → W p l e room_1 s m args below meth c H locs (cells + 3) (slots + 18) Q (F0 m 1838 ls [])) : W p l e room_1 s m args below meth c H locs cells slots Q (F0 m 665 ls []) := by
  unfold lawC9 at h
  refine lv_aload_n X.F.x X.F.b dL_law_665 rfl (lv_at hl 1 rfl) ?_
  refine lv_aload_n X.F.x X.F.b dL_law_666 rfl (lv_at hl 0 rfl) ?_
  refine lv_iload X.F.x X.F.b dL_law_667 (lv_at hl 5 rfl) ?_
  refine lv_iconst (v := 1) X.F.x X.F.b dL_law_669 (by decide) ?_
  refine lv_iadd X.F.x X.F.b dL_law_670 ?_
  refine gSld X.F C X.X X.bl X.nb hi1 hx1 dL_law_671 ?_
  refine lv_aload_n X.F.x X.F.b dL_law_672 rfl (lv_at hl 0 rfl) ?_
  refine lv_iload X.F.x X.F.b dL_law_673 (lv_at hl 5 rfl) ?_
  refine lv_iconst (v := 2) X.F.x X.F.b dL_law_675 (by decide) ?_
  refine lv_iadd X.F.x X.F.b dL_law_676 ?_
  refine gSld X.F C X.X X.bl X.nb hi2 hx2 dL_law_677 ?_
  refine lv_aload_n X.F.x X.F.b dL_law_678 rfl (lv_at hl 3 rfl) ?_
  refine gkH X.F X.h1 X.ne C hl (kL_travellerOf hf h) wh_153 ⟨rfl, rfl, ⟨Nat.le_of_ble_eq_true rfl, Nat.le_of_ble_eq_true rfl⟩, ⟨by show cells + 2 ≤ 603072; omega, by show slots + 12 ≤ 7215210; omega⟩, Nat.le_of_ble_eq_true rfl⟩ (rest := []) rfl dL_law_679 (fun k1 S2 f3 H locs h C => ?_)
  refine lv_istore (lv' := [(6, .int k1), (0, .ref b), (1, .ref (ad 110)), (2, .ref (ad 117)), (3, .ref ao), (4, .ref a2), (5, .int i)]) X.F.x X.F.b dL_law_682 hl (by decide) rfl (fun ls hl => ?_)
  refine lv_aload_n X.F.x X.F.b dL_law_684 rfl (lv_at hl 3 rfl) ?_
  refine lv_aload_n X.F.x X.F.b dL_law_685 rfl (lv_at hl 1 rfl) ?_
  refine lv_iload X.F.x X.F.b dL_law_686 (lv_at hl 6 rfl) ?_
  refine lv_iconst (v := 1) X.F.x X.F.b dL_law_688 (by decide) ?_
  refine lv_iadd X.F.x X.F.b dL_law_689 ?_
  refine gSld X.F C X.X X.bl X.nb hi1 hx1 dL_law_690 ?_
  refine lv_aload_n X.F.x X.F.b dL_law_691 rfl (lv_at hl 1 rfl) ?_
  refine lv_iload X.F.x X.F.b dL_law_692 (lv_at hl 6 rfl) ?_
  refine lv_iconst (v := 2) X.F.x X.F.b dL_law_694 (by decide) ?_
  refine lv_iadd X.F.x X.F.b dL_law_695 ?_
  refine gSld X.F C X.X X.bl X.nb hi2 hx2 dL_law_696 ?_
  refine gkI X.F C hl (kX6_travellerOf h) (by decide) (ce_M _) rfl wv_L_155 ⟨rfl, rfl, ⟨Nat.le_of_ble_eq_true rfl, Nat.le_of_ble_eq_true rfl⟩, ⟨by show cells + 2 + 0 ≤ 603072; omega, by show slots + 12 + 0 ≤ 7215210; omega⟩, Nat.le_of_ble_eq_true rfl⟩ (rest := []) rfl dL_law_697 (fun r4 S5 H locs h C => ?_)
  refine lv_istore (lv' := [(7, .int r4), (6, .int k1), (0, .ref b), (1, .ref (ad 110)), (2, .ref (ad 117)), (3, .ref ao), (4, .ref a2), (5, .int i)]) X.F.x X.F.b dL_law_700 hl (by decide) rfl (fun ls hl => ?_)
  refine lv_aload_n X.F.x X.F.b dL_law_702 rfl (lv_at hl 4 rfl) ?_
  refine gkI X.F C hl (kX6_thrown h) (by decide) (ce_M _) rfl wv_L_123 ⟨rfl, rfl, ⟨Nat.le_of_ble_eq_true rfl, Nat.le_of_ble_eq_true rfl⟩, ⟨by show cells + 2 + 0 + 0 ≤ 603072; omega, by show slots + 12 + 0 + 0 ≤ 7215210; omega⟩, Nat.le_of_ble_eq_true rfl⟩ (rest := []) rfl dL_law_703 (fun r6 S7 H locs h C => ?_)
  refine lv_iload X.F.x X.F.b dL_law_706 (lv_at hl 1 rfl) ?_
  refine lv_icmp_eq (tgt := 713) X.F.x X.F.b dL_law_708 (by decide) (fun h8 => ?_) (fun h8 => absurd h.1 h8)
  refine lv_iload X.F.x X.F.b dL_law_713 (lv_at hl 1 rfl) ?_
  refine lv_if_ne (tgt := 730) X.F.x X.F.b dL_law_715 (by decide) (fun h9 => ?_) (fun h9 => ?_)
  · refine lv_goto (tgt := 1838) X.F.x X.F.b dL_law_730 (by decide) ?_
    refine W.widen (k := cells + 3) (n := slots + 18) (by omega) (by omega) ?_
    exact kk _ _ _ _ _ _ h.2.2 C (lv_sub hl [2, 3, 4, 5, 6, 7] rfl)
  · refine lv_aload_n X.F.x X.F.b dL_law_718 rfl (lv_at hl 5 rfl) ?_
    refine lv_iconst (v := 0) X.F.x X.F.b dL_law_719 (by decide) ?_
    refine gLald X.F C dL_law_720 ?_
    refine lv_iload X.F.x X.F.b dL_law_721 (lv_at hl 0 rfl) ?_
    refine lv_i2l X.F.x X.F.b dL_law_723 rfl ?_
    refine lv_lcmpE X.F.x X.F.b dL_law_724 (h.2.1 h9) ?_
    refine lv_if_eq (tgt := 730) X.F.x X.F.b dL_law_725 (by decide) (fun _ => ?_) (fun h7 => absurd rfl h7)
    refine lv_goto (tgt := 1838) X.F.x X.F.b dL_law_730 (by decide) ?_
    refine W.widen (k := cells + 3) (n := slots + 18) (by omega) (by omega) ?_
    exact kk _ _ _ _ _ _ h.2.2 C (lv_sub hl [2, 3, 4, 5, 6, 7] rfl)
def lawC10 (post : Mem → (Nat → Int64) → (Nat → UInt64) → Prop) (S : Mem) (f : Nat → Int64) (g : Nat → UInt64) (x1 x2 : Int32) : Prop := mL_fee (fun (k1 : Int32) (S2 : Mem) (f3 : Nat → Int64) => mX6_fee (fun (r4 : Int32) (S5 : Mem) => mX6_thrown (fun (r6 : Int32) (S7 : Mem) => r6 = k1 ∧ (k1 = 0 → f3 0 = r4.toInt64) ∧ post S7 f3 g) S5) S2 x1) S f x1
set_option maxRecDepth 100000 in
theorem lawT10 {p : Program} {l : Launch} {e : Env} {s : State} {m : MethodId} {args : Array Value} {below : List Frame} {meth : Method} {c : Code} {Q : State → Prop} {D : va_G} {ky : Nat → ClassId} {ad : Nat → Nat} {ex : Nat → Nat → Nat} {b L : Nat} {xs : Nat → Int32} {ao a2 : Nat} (X : Lx p s m args meth c D ky ad ex b L xs ao a2) (hf : l.stackTraces = false) {post : Mem → (Nat → Int64) → (Nat → UInt64) → Prop} {S : Mem} {f : Nat → Int64} {g : Nat → UInt64} {i x1 x2 : Int32} (hi1 : vp_in (i + 1) L) (hi2 : vp_in (i + 2) L) (hx1 : xs (i + 1).toNatClampNeg = x1) (hx2 : xs (i + 2).toNatClampNeg = x2) (h : lawC10 post S f g x1 x2) {H : Heap} {locs : List Loc} {ls : Array Slot} {cells slots : Nat} (hc : cells + 3 ≤ 603072) (hs : slots + 18 ≤ 7215210) (C : Cg D ky ad s (fun q => s.heap.size ≤ q) S [(ao, lce ky f), (a2, dce ky g)] H locs) (hl : lv_has ls 9 [(0, .ref b), (1, .ref (ad 110)), (2, .ref (ad 117)), (3, .ref ao), (4, .ref a2), (5, .int i)]) (kk : ∀ (S : Mem) (f : Nat → Int64) (g : Nat → UInt64) (H : Heap) (locs : List Loc) (ls : Array Slot), post S f g → Cg D ky ad s (fun q => s.heap.size ≤ q) S [(ao, lce ky f), (a2, dce ky g)] H locs → lv_has ls 9 [(0, .ref b), (1, .ref (ad 110)), (2, .ref (ad 117)), (3, .ref ao), (4, .ref a2), (5, .int i)] → W p l e room_1 s m args below meth c H locs (cells + 3) (slots + 18) Q (F0 m 1838 ls [])) : W p l e room_1 s m args below meth c H locs cells slots Q (F0 m 733 ls []) := by
  unfold lawC10 at h
  refine lv_aload_n X.F.x X.F.b dL_law_733 rfl (lv_at hl 1 rfl) ?_
  refine lv_aload_n X.F.x X.F.b dL_law_734 rfl (lv_at hl 0 rfl) ?_
  refine lv_iload X.F.x X.F.b dL_law_735 (lv_at hl 5 rfl) ?_
  refine lv_iconst (v := 1) X.F.x X.F.b dL_law_737 (by decide) ?_
  refine lv_iadd X.F.x X.F.b dL_law_738 ?_
  refine gSld X.F C X.X X.bl X.nb hi1 hx1 dL_law_739 ?_
  refine lv_aload_n X.F.x X.F.b dL_law_740 rfl (lv_at hl 3 rfl) ?_
  refine gkH X.F X.h1 X.ne C hl (kL_fee hf h) wh_156 ⟨rfl, rfl, ⟨Nat.le_of_ble_eq_true rfl, Nat.le_of_ble_eq_true rfl⟩, ⟨by show cells + 1 ≤ 603072; omega, by show slots + 6 ≤ 7215210; omega⟩, Nat.le_of_ble_eq_true rfl⟩ (rest := []) rfl dL_law_741 (fun k1 S2 f3 H locs h C => ?_)
  refine lv_istore (lv' := [(6, .int k1), (0, .ref b), (1, .ref (ad 110)), (2, .ref (ad 117)), (3, .ref ao), (4, .ref a2), (5, .int i)]) X.F.x X.F.b dL_law_744 hl (by decide) rfl (fun ls hl => ?_)
  refine lv_aload_n X.F.x X.F.b dL_law_746 rfl (lv_at hl 3 rfl) ?_
  refine lv_aload_n X.F.x X.F.b dL_law_747 rfl (lv_at hl 1 rfl) ?_
  refine lv_iload X.F.x X.F.b dL_law_748 (lv_at hl 6 rfl) ?_
  refine lv_iconst (v := 1) X.F.x X.F.b dL_law_750 (by decide) ?_
  refine lv_iadd X.F.x X.F.b dL_law_751 ?_
  refine gSld X.F C X.X X.bl X.nb hi1 hx1 dL_law_752 ?_
  refine gkI X.F C hl (kX6_fee h) (by decide) (ce_M _) rfl wv_L_158 ⟨rfl, rfl, ⟨Nat.le_of_ble_eq_true rfl, Nat.le_of_ble_eq_true rfl⟩, ⟨by show cells + 1 + 0 ≤ 603072; omega, by show slots + 6 + 0 ≤ 7215210; omega⟩, Nat.le_of_ble_eq_true rfl⟩ (rest := []) rfl dL_law_753 (fun r4 S5 H locs h C => ?_)
  refine lv_istore (lv' := [(7, .int r4), (6, .int k1), (0, .ref b), (1, .ref (ad 110)), (2, .ref (ad 117)), (3, .ref ao), (4, .ref a2), (5, .int i)]) X.F.x X.F.b dL_law_756 hl (by decide) rfl (fun ls hl => ?_)
  refine lv_aload_n X.F.x X.F.b dL_law_758 rfl (lv_at hl 4 rfl) ?_
  refine gkI X.F C hl (kX6_thrown h) (by decide) (ce_M _) rfl wv_L_123 ⟨rfl, rfl, ⟨Nat.le_of_ble_eq_true rfl, Nat.le_of_ble_eq_true rfl⟩, ⟨by show cells + 1 + 0 + 0 ≤ 603072; omega, by show slots + 6 + 0 + 0 ≤ 7215210; omega⟩, Nat.le_of_ble_eq_true rfl⟩ (rest := []) rfl dL_law_759 (fun r6 S7 H locs h C => ?_)
  refine lv_iload X.F.x X.F.b dL_law_762 (lv_at hl 1 rfl) ?_
  refine lv_icmp_eq (tgt := 769) X.F.x X.F.b dL_law_764 (by decide) (fun h8 => ?_) (fun h8 => absurd h.1 h8)
  refine lv_iload X.F.x X.F.b dL_law_769 (lv_at hl 1 rfl) ?_
  refine lv_if_ne (tgt := 786) X.F.x X.F.b dL_law_771 (by decide) (fun h9 => ?_) (fun h9 => ?_)
  · refine lv_goto (tgt := 1838) X.F.x X.F.b dL_law_786 (by decide) ?_
    refine W.widen (k := cells + 3) (n := slots + 18) (by omega) (by omega) ?_
    exact kk _ _ _ _ _ _ h.2.2 C (lv_sub hl [2, 3, 4, 5, 6, 7] rfl)
  · refine lv_aload_n X.F.x X.F.b dL_law_774 rfl (lv_at hl 5 rfl) ?_
    refine lv_iconst (v := 0) X.F.x X.F.b dL_law_775 (by decide) ?_
    refine gLald X.F C dL_law_776 ?_
    refine lv_iload X.F.x X.F.b dL_law_777 (lv_at hl 0 rfl) ?_
    refine lv_i2l X.F.x X.F.b dL_law_779 rfl ?_
    refine lv_lcmpE X.F.x X.F.b dL_law_780 (h.2.1 h9) ?_
    refine lv_if_eq (tgt := 786) X.F.x X.F.b dL_law_781 (by decide) (fun _ => ?_) (fun h7 => absurd rfl h7)
    refine lv_goto (tgt := 1838) X.F.x X.F.b dL_law_786 (by decide) ?_
    refine W.widen (k := cells + 3) (n := slots + 18) (by omega) (by omega) ?_
    exact kk _ _ _ _ _ _ h.2.2 C (lv_sub hl [2, 3, 4, 5, 6, 7] rfl)
def lawC11 (post : Mem → (Nat → Int64) → (Nat → UInt64) → Prop) (S : Mem) (f : Nat → Int64) (g : Nat → UInt64) (x1 x2 : Int32) : Prop := mL_setOut (fun (k1 : Int32) (S2 : Mem) (f3 : Nat → Int64) => mX6_setOut (fun (r4 : Int32) (S5 : Mem) => mX6_thrown (fun (r6 : Int32) (S7 : Mem) => r6 = k1 ∧ (k1 = 0 → f3 0 = r4.toInt64) ∧ post S7 f3 g) S5) S2 x1) S f x1
set_option maxRecDepth 100000 in
theorem lawT11 {p : Program} {l : Launch} {e : Env} {s : State} {m : MethodId} {args : Array Value} {below : List Frame} {meth : Method} {c : Code} {Q : State → Prop} {D : va_G} {ky : Nat → ClassId} {ad : Nat → Nat} {ex : Nat → Nat → Nat} {b L : Nat} {xs : Nat → Int32} {ao a2 : Nat} (X : Lx p s m args meth c D ky ad ex b L xs ao a2) (hf : l.stackTraces = false) {post : Mem → (Nat → Int64) → (Nat → UInt64) → Prop} {S : Mem} {f : Nat → Int64} {g : Nat → UInt64} {i x1 x2 : Int32} (hi1 : vp_in (i + 1) L) (hi2 : vp_in (i + 2) L) (hx1 : xs (i + 1).toNatClampNeg = x1) (hx2 : xs (i + 2).toNatClampNeg = x2) (h : lawC11 post S f g x1 x2) {H : Heap} {locs : List Loc} {ls : Array Slot} {cells slots : Nat} (hc : cells + 3 ≤ 603072) (hs : slots + 18 ≤ 7215210) (C : Cg D ky ad s (fun q => s.heap.size ≤ q) S [(ao, lce ky f), (a2, dce ky g)] H locs) (hl : lv_has ls 9 [(0, .ref b), (1, .ref (ad 110)), (2, .ref (ad 117)), (3, .ref ao), (4, .ref a2), (5, .int i)]) (kk : ∀ (S : Mem) (f : Nat → Int64) (g : Nat → UInt64) (H : Heap) (locs : List Loc) (ls : Array Slot), post S f g → Cg D ky ad s (fun q => s.heap.size ≤ q) S [(ao, lce ky f), (a2, dce ky g)] H locs → lv_has ls 9 [(0, .ref b), (1, .ref (ad 110)), (2, .ref (ad 117)), (3, .ref ao), (4, .ref a2), (5, .int i)] → W p l e room_1 s m args below meth c H locs (cells + 3) (slots + 18) Q (F0 m 1838 ls [])) : W p l e room_1 s m args below meth c H locs cells slots Q (F0 m 789 ls []) := by
  unfold lawC11 at h
  refine lv_aload_n X.F.x X.F.b dL_law_789 rfl (lv_at hl 1 rfl) ?_
  refine lv_aload_n X.F.x X.F.b dL_law_790 rfl (lv_at hl 0 rfl) ?_
  refine lv_iload X.F.x X.F.b dL_law_791 (lv_at hl 5 rfl) ?_
  refine lv_iconst (v := 1) X.F.x X.F.b dL_law_793 (by decide) ?_
  refine lv_iadd X.F.x X.F.b dL_law_794 ?_
  refine gSld X.F C X.X X.bl X.nb hi1 hx1 dL_law_795 ?_
  refine lv_aload_n X.F.x X.F.b dL_law_796 rfl (lv_at hl 3 rfl) ?_
  refine gkH X.F X.h1 X.ne C hl (kL_setOut hf h) wh_159 ⟨rfl, rfl, ⟨Nat.le_of_ble_eq_true rfl, Nat.le_of_ble_eq_true rfl⟩, ⟨by show cells + 3 ≤ 603072; omega, by show slots + 18 ≤ 7215210; omega⟩, Nat.le_of_ble_eq_true rfl⟩ (rest := []) rfl dL_law_797 (fun k1 S2 f3 H locs h C => ?_)
  refine lv_istore (lv' := [(6, .int k1), (0, .ref b), (1, .ref (ad 110)), (2, .ref (ad 117)), (3, .ref ao), (4, .ref a2), (5, .int i)]) X.F.x X.F.b dL_law_800 hl (by decide) rfl (fun ls hl => ?_)
  refine lv_aload_n X.F.x X.F.b dL_law_802 rfl (lv_at hl 3 rfl) ?_
  refine lv_aload_n X.F.x X.F.b dL_law_803 rfl (lv_at hl 1 rfl) ?_
  refine lv_iload X.F.x X.F.b dL_law_804 (lv_at hl 6 rfl) ?_
  refine lv_iconst (v := 1) X.F.x X.F.b dL_law_806 (by decide) ?_
  refine lv_iadd X.F.x X.F.b dL_law_807 ?_
  refine gSld X.F C X.X X.bl X.nb hi1 hx1 dL_law_808 ?_
  refine gkI X.F C hl (kX6_setOut h) (by decide) (ce_M _) rfl wv_L_161 ⟨rfl, rfl, ⟨Nat.le_of_ble_eq_true rfl, Nat.le_of_ble_eq_true rfl⟩, ⟨by show cells + 3 + 0 ≤ 603072; omega, by show slots + 18 + 0 ≤ 7215210; omega⟩, Nat.le_of_ble_eq_true rfl⟩ (rest := []) rfl dL_law_809 (fun r4 S5 H locs h C => ?_)
  refine lv_istore (lv' := [(7, .int r4), (6, .int k1), (0, .ref b), (1, .ref (ad 110)), (2, .ref (ad 117)), (3, .ref ao), (4, .ref a2), (5, .int i)]) X.F.x X.F.b dL_law_812 hl (by decide) rfl (fun ls hl => ?_)
  refine lv_aload_n X.F.x X.F.b dL_law_814 rfl (lv_at hl 4 rfl) ?_
  refine gkI X.F C hl (kX6_thrown h) (by decide) (ce_M _) rfl wv_L_123 ⟨rfl, rfl, ⟨Nat.le_of_ble_eq_true rfl, Nat.le_of_ble_eq_true rfl⟩, ⟨by show cells + 3 + 0 + 0 ≤ 603072; omega, by show slots + 18 + 0 + 0 ≤ 7215210; omega⟩, Nat.le_of_ble_eq_true rfl⟩ (rest := []) rfl dL_law_815 (fun r6 S7 H locs h C => ?_)
  refine lv_iload X.F.x X.F.b dL_law_818 (lv_at hl 1 rfl) ?_
  refine lv_icmp_eq (tgt := 825) X.F.x X.F.b dL_law_820 (by decide) (fun h8 => ?_) (fun h8 => absurd h.1 h8)
  refine lv_iload X.F.x X.F.b dL_law_825 (lv_at hl 1 rfl) ?_
  refine lv_if_ne (tgt := 842) X.F.x X.F.b dL_law_827 (by decide) (fun h9 => ?_) (fun h9 => ?_)
  · refine lv_goto (tgt := 1838) X.F.x X.F.b dL_law_842 (by decide) ?_
    refine W.widen (k := cells + 3) (n := slots + 18) (by omega) (by omega) ?_
    exact kk _ _ _ _ _ _ h.2.2 C (lv_sub hl [2, 3, 4, 5, 6, 7] rfl)
  · refine lv_aload_n X.F.x X.F.b dL_law_830 rfl (lv_at hl 5 rfl) ?_
    refine lv_iconst (v := 0) X.F.x X.F.b dL_law_831 (by decide) ?_
    refine gLald X.F C dL_law_832 ?_
    refine lv_iload X.F.x X.F.b dL_law_833 (lv_at hl 0 rfl) ?_
    refine lv_i2l X.F.x X.F.b dL_law_835 rfl ?_
    refine lv_lcmpE X.F.x X.F.b dL_law_836 (h.2.1 h9) ?_
    refine lv_if_eq (tgt := 842) X.F.x X.F.b dL_law_837 (by decide) (fun _ => ?_) (fun h7 => absurd rfl h7)
    refine lv_goto (tgt := 1838) X.F.x X.F.b dL_law_842 (by decide) ?_
    refine W.widen (k := cells + 3) (n := slots + 18) (by omega) (by omega) ?_
    exact kk _ _ _ _ _ _ h.2.2 C (lv_sub hl [2, 3, 4, 5, 6, 7] rfl)
def lawC12 (post : Mem → (Nat → Int64) → (Nat → UInt64) → Prop) (S : Mem) (f : Nat → Int64) (g : Nat → UInt64) (x1 x2 : Int32) : Prop := mL_stop (fun (k1 : Int32) (S2 : Mem) (f3 : Nat → Int64) => mX6_stop (fun (r4 : Int32) (S5 : Mem) => mX6_thrown (fun (r6 : Int32) (S7 : Mem) => r6 = k1 ∧ (k1 = 0 → f3 0 = r4.toInt64) ∧ post S7 f3 g) S5) S2 x1) S f x1
set_option maxRecDepth 100000 in
theorem lawT12 {p : Program} {l : Launch} {e : Env} {s : State} {m : MethodId} {args : Array Value} {below : List Frame} {meth : Method} {c : Code} {Q : State → Prop} {D : va_G} {ky : Nat → ClassId} {ad : Nat → Nat} {ex : Nat → Nat → Nat} {b L : Nat} {xs : Nat → Int32} {ao a2 : Nat} (X : Lx p s m args meth c D ky ad ex b L xs ao a2) (hf : l.stackTraces = false) {post : Mem → (Nat → Int64) → (Nat → UInt64) → Prop} {S : Mem} {f : Nat → Int64} {g : Nat → UInt64} {i x1 x2 : Int32} (hi1 : vp_in (i + 1) L) (hi2 : vp_in (i + 2) L) (hx1 : xs (i + 1).toNatClampNeg = x1) (hx2 : xs (i + 2).toNatClampNeg = x2) (h : lawC12 post S f g x1 x2) {H : Heap} {locs : List Loc} {ls : Array Slot} {cells slots : Nat} (hc : cells + 3 ≤ 603072) (hs : slots + 18 ≤ 7215210) (C : Cg D ky ad s (fun q => s.heap.size ≤ q) S [(ao, lce ky f), (a2, dce ky g)] H locs) (hl : lv_has ls 9 [(0, .ref b), (1, .ref (ad 110)), (2, .ref (ad 117)), (3, .ref ao), (4, .ref a2), (5, .int i)]) (kk : ∀ (S : Mem) (f : Nat → Int64) (g : Nat → UInt64) (H : Heap) (locs : List Loc) (ls : Array Slot), post S f g → Cg D ky ad s (fun q => s.heap.size ≤ q) S [(ao, lce ky f), (a2, dce ky g)] H locs → lv_has ls 9 [(0, .ref b), (1, .ref (ad 110)), (2, .ref (ad 117)), (3, .ref ao), (4, .ref a2), (5, .int i)] → W p l e room_1 s m args below meth c H locs (cells + 3) (slots + 18) Q (F0 m 1838 ls [])) : W p l e room_1 s m args below meth c H locs cells slots Q (F0 m 845 ls []) := by
  unfold lawC12 at h
  refine lv_aload_n X.F.x X.F.b dL_law_845 rfl (lv_at hl 1 rfl) ?_
  refine lv_aload_n X.F.x X.F.b dL_law_846 rfl (lv_at hl 0 rfl) ?_
  refine lv_iload X.F.x X.F.b dL_law_847 (lv_at hl 5 rfl) ?_
  refine lv_iconst (v := 1) X.F.x X.F.b dL_law_849 (by decide) ?_
  refine lv_iadd X.F.x X.F.b dL_law_850 ?_
  refine gSld X.F C X.X X.bl X.nb hi1 hx1 dL_law_851 ?_
  refine lv_aload_n X.F.x X.F.b dL_law_852 rfl (lv_at hl 3 rfl) ?_
  refine gkH X.F X.h1 X.ne C hl (kL_stop hf h) wh_162 ⟨rfl, rfl, ⟨Nat.le_of_ble_eq_true rfl, Nat.le_of_ble_eq_true rfl⟩, ⟨by show cells + 3 ≤ 603072; omega, by show slots + 18 ≤ 7215210; omega⟩, Nat.le_of_ble_eq_true rfl⟩ (rest := []) rfl dL_law_853 (fun k1 S2 f3 H locs h C => ?_)
  refine lv_istore (lv' := [(6, .int k1), (0, .ref b), (1, .ref (ad 110)), (2, .ref (ad 117)), (3, .ref ao), (4, .ref a2), (5, .int i)]) X.F.x X.F.b dL_law_856 hl (by decide) rfl (fun ls hl => ?_)
  refine lv_aload_n X.F.x X.F.b dL_law_858 rfl (lv_at hl 3 rfl) ?_
  refine lv_aload_n X.F.x X.F.b dL_law_859 rfl (lv_at hl 1 rfl) ?_
  refine lv_iload X.F.x X.F.b dL_law_860 (lv_at hl 6 rfl) ?_
  refine lv_iconst (v := 1) X.F.x X.F.b dL_law_862 (by decide) ?_
  refine lv_iadd X.F.x X.F.b dL_law_863 ?_
  refine gSld X.F C X.X X.bl X.nb hi1 hx1 dL_law_864 ?_
  refine gkI X.F C hl (kX6_stop h) (by decide) (ce_M _) rfl wv_L_164 ⟨rfl, rfl, ⟨Nat.le_of_ble_eq_true rfl, Nat.le_of_ble_eq_true rfl⟩, ⟨by show cells + 3 + 0 ≤ 603072; omega, by show slots + 18 + 0 ≤ 7215210; omega⟩, Nat.le_of_ble_eq_true rfl⟩ (rest := []) rfl dL_law_865 (fun r4 S5 H locs h C => ?_)
  refine lv_istore (lv' := [(7, .int r4), (6, .int k1), (0, .ref b), (1, .ref (ad 110)), (2, .ref (ad 117)), (3, .ref ao), (4, .ref a2), (5, .int i)]) X.F.x X.F.b dL_law_868 hl (by decide) rfl (fun ls hl => ?_)
  refine lv_aload_n X.F.x X.F.b dL_law_870 rfl (lv_at hl 4 rfl) ?_
  refine gkI X.F C hl (kX6_thrown h) (by decide) (ce_M _) rfl wv_L_123 ⟨rfl, rfl, ⟨Nat.le_of_ble_eq_true rfl, Nat.le_of_ble_eq_true rfl⟩, ⟨by show cells + 3 + 0 + 0 ≤ 603072; omega, by show slots + 18 + 0 + 0 ≤ 7215210; omega⟩, Nat.le_of_ble_eq_true rfl⟩ (rest := []) rfl dL_law_871 (fun r6 S7 H locs h C => ?_)
  refine lv_iload X.F.x X.F.b dL_law_874 (lv_at hl 1 rfl) ?_
  refine lv_icmp_eq (tgt := 881) X.F.x X.F.b dL_law_876 (by decide) (fun h8 => ?_) (fun h8 => absurd h.1 h8)
  refine lv_iload X.F.x X.F.b dL_law_881 (lv_at hl 1 rfl) ?_
  refine lv_if_ne (tgt := 898) X.F.x X.F.b dL_law_883 (by decide) (fun h9 => ?_) (fun h9 => ?_)
  · refine lv_goto (tgt := 1838) X.F.x X.F.b dL_law_898 (by decide) ?_
    refine W.widen (k := cells + 3) (n := slots + 18) (by omega) (by omega) ?_
    exact kk _ _ _ _ _ _ h.2.2 C (lv_sub hl [2, 3, 4, 5, 6, 7] rfl)
  · refine lv_aload_n X.F.x X.F.b dL_law_886 rfl (lv_at hl 5 rfl) ?_
    refine lv_iconst (v := 0) X.F.x X.F.b dL_law_887 (by decide) ?_
    refine gLald X.F C dL_law_888 ?_
    refine lv_iload X.F.x X.F.b dL_law_889 (lv_at hl 0 rfl) ?_
    refine lv_i2l X.F.x X.F.b dL_law_891 rfl ?_
    refine lv_lcmpE X.F.x X.F.b dL_law_892 (h.2.1 h9) ?_
    refine lv_if_eq (tgt := 898) X.F.x X.F.b dL_law_893 (by decide) (fun _ => ?_) (fun h7 => absurd rfl h7)
    refine lv_goto (tgt := 1838) X.F.x X.F.b dL_law_898 (by decide) ?_
    refine W.widen (k := cells + 3) (n := slots + 18) (by omega) (by omega) ?_
    exact kk _ _ _ _ _ _ h.2.2 C (lv_sub hl [2, 3, 4, 5, 6, 7] rfl)
def lawC13 (post : Mem → (Nat → Int64) → (Nat → UInt64) → Prop) (S : Mem) (f : Nat → Int64) (g : Nat → UInt64) (x1 x2 : Int32) : Prop := mL_go (fun (k1 : Int32) (S2 : Mem) (f3 : Nat → Int64) => mX6_go (fun (r4 : Int32) (S5 : Mem) => mX6_thrown (fun (r6 : Int32) (S7 : Mem) => r6 = k1 ∧ (k1 = 0 → f3 0 = r4.toInt64) ∧ post S7 f3 g) S5) S2 x1) S f x1
set_option maxRecDepth 100000 in
theorem lawT13 {p : Program} {l : Launch} {e : Env} {s : State} {m : MethodId} {args : Array Value} {below : List Frame} {meth : Method} {c : Code} {Q : State → Prop} {D : va_G} {ky : Nat → ClassId} {ad : Nat → Nat} {ex : Nat → Nat → Nat} {b L : Nat} {xs : Nat → Int32} {ao a2 : Nat} (X : Lx p s m args meth c D ky ad ex b L xs ao a2) (hf : l.stackTraces = false) {post : Mem → (Nat → Int64) → (Nat → UInt64) → Prop} {S : Mem} {f : Nat → Int64} {g : Nat → UInt64} {i x1 x2 : Int32} (hi1 : vp_in (i + 1) L) (hi2 : vp_in (i + 2) L) (hx1 : xs (i + 1).toNatClampNeg = x1) (hx2 : xs (i + 2).toNatClampNeg = x2) (h : lawC13 post S f g x1 x2) {H : Heap} {locs : List Loc} {ls : Array Slot} {cells slots : Nat} (hc : cells + 3 ≤ 603072) (hs : slots + 18 ≤ 7215210) (C : Cg D ky ad s (fun q => s.heap.size ≤ q) S [(ao, lce ky f), (a2, dce ky g)] H locs) (hl : lv_has ls 9 [(0, .ref b), (1, .ref (ad 110)), (2, .ref (ad 117)), (3, .ref ao), (4, .ref a2), (5, .int i)]) (kk : ∀ (S : Mem) (f : Nat → Int64) (g : Nat → UInt64) (H : Heap) (locs : List Loc) (ls : Array Slot), post S f g → Cg D ky ad s (fun q => s.heap.size ≤ q) S [(ao, lce ky f), (a2, dce ky g)] H locs → lv_has ls 9 [(0, .ref b), (1, .ref (ad 110)), (2, .ref (ad 117)), (3, .ref ao), (4, .ref a2), (5, .int i)] → W p l e room_1 s m args below meth c H locs (cells + 3) (slots + 18) Q (F0 m 1838 ls [])) : W p l e room_1 s m args below meth c H locs cells slots Q (F0 m 901 ls []) := by
  unfold lawC13 at h
  refine lv_aload_n X.F.x X.F.b dL_law_901 rfl (lv_at hl 1 rfl) ?_
  refine lv_aload_n X.F.x X.F.b dL_law_902 rfl (lv_at hl 0 rfl) ?_
  refine lv_iload X.F.x X.F.b dL_law_903 (lv_at hl 5 rfl) ?_
  refine lv_iconst (v := 1) X.F.x X.F.b dL_law_905 (by decide) ?_
  refine lv_iadd X.F.x X.F.b dL_law_906 ?_
  refine gSld X.F C X.X X.bl X.nb hi1 hx1 dL_law_907 ?_
  refine lv_aload_n X.F.x X.F.b dL_law_908 rfl (lv_at hl 3 rfl) ?_
  refine gkH X.F X.h1 X.ne C hl (kL_go hf h) wh_165 ⟨rfl, rfl, ⟨Nat.le_of_ble_eq_true rfl, Nat.le_of_ble_eq_true rfl⟩, ⟨by show cells + 3 ≤ 603072; omega, by show slots + 18 ≤ 7215210; omega⟩, Nat.le_of_ble_eq_true rfl⟩ (rest := []) rfl dL_law_909 (fun k1 S2 f3 H locs h C => ?_)
  refine lv_istore (lv' := [(6, .int k1), (0, .ref b), (1, .ref (ad 110)), (2, .ref (ad 117)), (3, .ref ao), (4, .ref a2), (5, .int i)]) X.F.x X.F.b dL_law_912 hl (by decide) rfl (fun ls hl => ?_)
  refine lv_aload_n X.F.x X.F.b dL_law_914 rfl (lv_at hl 3 rfl) ?_
  refine lv_aload_n X.F.x X.F.b dL_law_915 rfl (lv_at hl 1 rfl) ?_
  refine lv_iload X.F.x X.F.b dL_law_916 (lv_at hl 6 rfl) ?_
  refine lv_iconst (v := 1) X.F.x X.F.b dL_law_918 (by decide) ?_
  refine lv_iadd X.F.x X.F.b dL_law_919 ?_
  refine gSld X.F C X.X X.bl X.nb hi1 hx1 dL_law_920 ?_
  refine gkI X.F C hl (kX6_go h) (by decide) (ce_M _) rfl wv_L_167 ⟨rfl, rfl, ⟨Nat.le_of_ble_eq_true rfl, Nat.le_of_ble_eq_true rfl⟩, ⟨by show cells + 3 + 0 ≤ 603072; omega, by show slots + 18 + 0 ≤ 7215210; omega⟩, Nat.le_of_ble_eq_true rfl⟩ (rest := []) rfl dL_law_921 (fun r4 S5 H locs h C => ?_)
  refine lv_istore (lv' := [(7, .int r4), (6, .int k1), (0, .ref b), (1, .ref (ad 110)), (2, .ref (ad 117)), (3, .ref ao), (4, .ref a2), (5, .int i)]) X.F.x X.F.b dL_law_924 hl (by decide) rfl (fun ls hl => ?_)
  refine lv_aload_n X.F.x X.F.b dL_law_926 rfl (lv_at hl 4 rfl) ?_
  refine gkI X.F C hl (kX6_thrown h) (by decide) (ce_M _) rfl wv_L_123 ⟨rfl, rfl, ⟨Nat.le_of_ble_eq_true rfl, Nat.le_of_ble_eq_true rfl⟩, ⟨by show cells + 3 + 0 + 0 ≤ 603072; omega, by show slots + 18 + 0 + 0 ≤ 7215210; omega⟩, Nat.le_of_ble_eq_true rfl⟩ (rest := []) rfl dL_law_927 (fun r6 S7 H locs h C => ?_)
  refine lv_iload X.F.x X.F.b dL_law_930 (lv_at hl 1 rfl) ?_
  refine lv_icmp_eq (tgt := 937) X.F.x X.F.b dL_law_932 (by decide) (fun h8 => ?_) (fun h8 => absurd h.1 h8)
  refine lv_iload X.F.x X.F.b dL_law_937 (lv_at hl 1 rfl) ?_
  refine lv_if_ne (tgt := 954) X.F.x X.F.b dL_law_939 (by decide) (fun h9 => ?_) (fun h9 => ?_)
  · refine lv_goto (tgt := 1838) X.F.x X.F.b dL_law_954 (by decide) ?_
    refine W.widen (k := cells + 3) (n := slots + 18) (by omega) (by omega) ?_
    exact kk _ _ _ _ _ _ h.2.2 C (lv_sub hl [2, 3, 4, 5, 6, 7] rfl)
  · refine lv_aload_n X.F.x X.F.b dL_law_942 rfl (lv_at hl 5 rfl) ?_
    refine lv_iconst (v := 0) X.F.x X.F.b dL_law_943 (by decide) ?_
    refine gLald X.F C dL_law_944 ?_
    refine lv_iload X.F.x X.F.b dL_law_945 (lv_at hl 0 rfl) ?_
    refine lv_i2l X.F.x X.F.b dL_law_947 rfl ?_
    refine lv_lcmpE X.F.x X.F.b dL_law_948 (h.2.1 h9) ?_
    refine lv_if_eq (tgt := 954) X.F.x X.F.b dL_law_949 (by decide) (fun _ => ?_) (fun h7 => absurd rfl h7)
    refine lv_goto (tgt := 1838) X.F.x X.F.b dL_law_954 (by decide) ?_
    refine W.widen (k := cells + 3) (n := slots + 18) (by omega) (by omega) ?_
    exact kk _ _ _ _ _ _ h.2.2 C (lv_sub hl [2, 3, 4, 5, 6, 7] rfl)
def lawC14 (post : Mem → (Nat → Int64) → (Nat → UInt64) → Prop) (S : Mem) (f : Nat → Int64) (g : Nat → UInt64) (x1 x2 : Int32) : Prop := mL_leave (fun (k1 : Int32) (S2 : Mem) (f3 : Nat → Int64) => mX6_leave (fun (r4 : Int32) (S5 : Mem) => mX6_thrown (fun (r6 : Int32) (S7 : Mem) => r6 = k1 ∧ (k1 = 0 → f3 0 = r4.toInt64) ∧ post S7 f3 g) S5) S2 x1) S f x1
set_option maxRecDepth 100000 in
theorem lawT14 {p : Program} {l : Launch} {e : Env} {s : State} {m : MethodId} {args : Array Value} {below : List Frame} {meth : Method} {c : Code} {Q : State → Prop} {D : va_G} {ky : Nat → ClassId} {ad : Nat → Nat} {ex : Nat → Nat → Nat} {b L : Nat} {xs : Nat → Int32} {ao a2 : Nat} (X : Lx p s m args meth c D ky ad ex b L xs ao a2) (hf : l.stackTraces = false) {post : Mem → (Nat → Int64) → (Nat → UInt64) → Prop} {S : Mem} {f : Nat → Int64} {g : Nat → UInt64} {i x1 x2 : Int32} (hi1 : vp_in (i + 1) L) (hi2 : vp_in (i + 2) L) (hx1 : xs (i + 1).toNatClampNeg = x1) (hx2 : xs (i + 2).toNatClampNeg = x2) (h : lawC14 post S f g x1 x2) {H : Heap} {locs : List Loc} {ls : Array Slot} {cells slots : Nat} (hc : cells + 3 ≤ 603072) (hs : slots + 18 ≤ 7215210) (C : Cg D ky ad s (fun q => s.heap.size ≤ q) S [(ao, lce ky f), (a2, dce ky g)] H locs) (hl : lv_has ls 9 [(0, .ref b), (1, .ref (ad 110)), (2, .ref (ad 117)), (3, .ref ao), (4, .ref a2), (5, .int i)]) (kk : ∀ (S : Mem) (f : Nat → Int64) (g : Nat → UInt64) (H : Heap) (locs : List Loc) (ls : Array Slot), post S f g → Cg D ky ad s (fun q => s.heap.size ≤ q) S [(ao, lce ky f), (a2, dce ky g)] H locs → lv_has ls 9 [(0, .ref b), (1, .ref (ad 110)), (2, .ref (ad 117)), (3, .ref ao), (4, .ref a2), (5, .int i)] → W p l e room_1 s m args below meth c H locs (cells + 3) (slots + 18) Q (F0 m 1838 ls [])) : W p l e room_1 s m args below meth c H locs cells slots Q (F0 m 957 ls []) := by
  unfold lawC14 at h
  refine lv_aload_n X.F.x X.F.b dL_law_957 rfl (lv_at hl 1 rfl) ?_
  refine lv_aload_n X.F.x X.F.b dL_law_958 rfl (lv_at hl 0 rfl) ?_
  refine lv_iload X.F.x X.F.b dL_law_959 (lv_at hl 5 rfl) ?_
  refine lv_iconst (v := 1) X.F.x X.F.b dL_law_961 (by decide) ?_
  refine lv_iadd X.F.x X.F.b dL_law_962 ?_
  refine gSld X.F C X.X X.bl X.nb hi1 hx1 dL_law_963 ?_
  refine lv_aload_n X.F.x X.F.b dL_law_964 rfl (lv_at hl 3 rfl) ?_
  refine gkH X.F X.h1 X.ne C hl (kL_leave hf h) wh_168 ⟨rfl, rfl, ⟨Nat.le_of_ble_eq_true rfl, Nat.le_of_ble_eq_true rfl⟩, ⟨by show cells + 2 ≤ 603072; omega, by show slots + 12 ≤ 7215210; omega⟩, Nat.le_of_ble_eq_true rfl⟩ (rest := []) rfl dL_law_965 (fun k1 S2 f3 H locs h C => ?_)
  refine lv_istore (lv' := [(6, .int k1), (0, .ref b), (1, .ref (ad 110)), (2, .ref (ad 117)), (3, .ref ao), (4, .ref a2), (5, .int i)]) X.F.x X.F.b dL_law_968 hl (by decide) rfl (fun ls hl => ?_)
  refine lv_aload_n X.F.x X.F.b dL_law_970 rfl (lv_at hl 3 rfl) ?_
  refine lv_aload_n X.F.x X.F.b dL_law_971 rfl (lv_at hl 1 rfl) ?_
  refine lv_iload X.F.x X.F.b dL_law_972 (lv_at hl 6 rfl) ?_
  refine lv_iconst (v := 1) X.F.x X.F.b dL_law_974 (by decide) ?_
  refine lv_iadd X.F.x X.F.b dL_law_975 ?_
  refine gSld X.F C X.X X.bl X.nb hi1 hx1 dL_law_976 ?_
  refine gkI X.F C hl (kX6_leave h) (by decide) (ce_M _) rfl wv_L_170 ⟨rfl, rfl, ⟨Nat.le_of_ble_eq_true rfl, Nat.le_of_ble_eq_true rfl⟩, ⟨by show cells + 2 + 0 ≤ 603072; omega, by show slots + 12 + 0 ≤ 7215210; omega⟩, Nat.le_of_ble_eq_true rfl⟩ (rest := []) rfl dL_law_977 (fun r4 S5 H locs h C => ?_)
  refine lv_istore (lv' := [(7, .int r4), (6, .int k1), (0, .ref b), (1, .ref (ad 110)), (2, .ref (ad 117)), (3, .ref ao), (4, .ref a2), (5, .int i)]) X.F.x X.F.b dL_law_980 hl (by decide) rfl (fun ls hl => ?_)
  refine lv_aload_n X.F.x X.F.b dL_law_982 rfl (lv_at hl 4 rfl) ?_
  refine gkI X.F C hl (kX6_thrown h) (by decide) (ce_M _) rfl wv_L_123 ⟨rfl, rfl, ⟨Nat.le_of_ble_eq_true rfl, Nat.le_of_ble_eq_true rfl⟩, ⟨by show cells + 2 + 0 + 0 ≤ 603072; omega, by show slots + 12 + 0 + 0 ≤ 7215210; omega⟩, Nat.le_of_ble_eq_true rfl⟩ (rest := []) rfl dL_law_983 (fun r6 S7 H locs h C => ?_)
  refine lv_iload X.F.x X.F.b dL_law_986 (lv_at hl 1 rfl) ?_
  refine lv_icmp_eq (tgt := 993) X.F.x X.F.b dL_law_988 (by decide) (fun h8 => ?_) (fun h8 => absurd h.1 h8)
  refine lv_iload X.F.x X.F.b dL_law_993 (lv_at hl 1 rfl) ?_
  refine lv_if_ne (tgt := 1010) X.F.x X.F.b dL_law_995 (by decide) (fun h9 => ?_) (fun h9 => ?_)
  · refine lv_goto (tgt := 1838) X.F.x X.F.b dL_law_1010 (by decide) ?_
    refine W.widen (k := cells + 3) (n := slots + 18) (by omega) (by omega) ?_
    exact kk _ _ _ _ _ _ h.2.2 C (lv_sub hl [2, 3, 4, 5, 6, 7] rfl)
  · refine lv_aload_n X.F.x X.F.b dL_law_998 rfl (lv_at hl 5 rfl) ?_
    refine lv_iconst (v := 0) X.F.x X.F.b dL_law_999 (by decide) ?_
    refine gLald X.F C dL_law_1000 ?_
    refine lv_iload X.F.x X.F.b dL_law_1001 (lv_at hl 0 rfl) ?_
    refine lv_i2l X.F.x X.F.b dL_law_1003 rfl ?_
    refine lv_lcmpE X.F.x X.F.b dL_law_1004 (h.2.1 h9) ?_
    refine lv_if_eq (tgt := 1010) X.F.x X.F.b dL_law_1005 (by decide) (fun _ => ?_) (fun h7 => absurd rfl h7)
    refine lv_goto (tgt := 1838) X.F.x X.F.b dL_law_1010 (by decide) ?_
    refine W.widen (k := cells + 3) (n := slots + 18) (by omega) (by omega) ?_
    exact kk _ _ _ _ _ _ h.2.2 C (lv_sub hl [2, 3, 4, 5, 6, 7] rfl)
def lawC15 (post : Mem → (Nat → Int64) → (Nat → UInt64) → Prop) (S : Mem) (f : Nat → Int64) (g : Nat → UInt64) (x1 x2 : Int32) : Prop := mL_pass (fun (k1 : Int32) (S2 : Mem) (f3 : Nat → Int64) => mX6_pass (fun (r4 : Int32) (S5 : Mem) => mX6_thrown (fun (r6 : Int32) (S7 : Mem) => r6 = k1 ∧ (k1 = 0 → f3 0 = r4.toInt64) ∧ post S7 f3 g) S5) S2 x1) S f x1
set_option maxRecDepth 100000 in
theorem lawT15 {p : Program} {l : Launch} {e : Env} {s : State} {m : MethodId} {args : Array Value} {below : List Frame} {meth : Method} {c : Code} {Q : State → Prop} {D : va_G} {ky : Nat → ClassId} {ad : Nat → Nat} {ex : Nat → Nat → Nat} {b L : Nat} {xs : Nat → Int32} {ao a2 : Nat} (X : Lx p s m args meth c D ky ad ex b L xs ao a2) (hf : l.stackTraces = false) {post : Mem → (Nat → Int64) → (Nat → UInt64) → Prop} {S : Mem} {f : Nat → Int64} {g : Nat → UInt64} {i x1 x2 : Int32} (hi1 : vp_in (i + 1) L) (hi2 : vp_in (i + 2) L) (hx1 : xs (i + 1).toNatClampNeg = x1) (hx2 : xs (i + 2).toNatClampNeg = x2) (h : lawC15 post S f g x1 x2) {H : Heap} {locs : List Loc} {ls : Array Slot} {cells slots : Nat} (hc : cells + 3 ≤ 603072) (hs : slots + 18 ≤ 7215210) (C : Cg D ky ad s (fun q => s.heap.size ≤ q) S [(ao, lce ky f), (a2, dce ky g)] H locs) (hl : lv_has ls 9 [(0, .ref b), (1, .ref (ad 110)), (2, .ref (ad 117)), (3, .ref ao), (4, .ref a2), (5, .int i)]) (kk : ∀ (S : Mem) (f : Nat → Int64) (g : Nat → UInt64) (H : Heap) (locs : List Loc) (ls : Array Slot), post S f g → Cg D ky ad s (fun q => s.heap.size ≤ q) S [(ao, lce ky f), (a2, dce ky g)] H locs → lv_has ls 9 [(0, .ref b), (1, .ref (ad 110)), (2, .ref (ad 117)), (3, .ref ao), (4, .ref a2), (5, .int i)] → W p l e room_1 s m args below meth c H locs (cells + 3) (slots + 18) Q (F0 m 1838 ls [])) : W p l e room_1 s m args below meth c H locs cells slots Q (F0 m 1013 ls []) := by
  unfold lawC15 at h
  refine lv_aload_n X.F.x X.F.b dL_law_1013 rfl (lv_at hl 1 rfl) ?_
  refine lv_aload_n X.F.x X.F.b dL_law_1014 rfl (lv_at hl 0 rfl) ?_
  refine lv_iload X.F.x X.F.b dL_law_1015 (lv_at hl 5 rfl) ?_
  refine lv_iconst (v := 1) X.F.x X.F.b dL_law_1017 (by decide) ?_
  refine lv_iadd X.F.x X.F.b dL_law_1018 ?_
  refine gSld X.F C X.X X.bl X.nb hi1 hx1 dL_law_1019 ?_
  refine lv_aload_n X.F.x X.F.b dL_law_1020 rfl (lv_at hl 3 rfl) ?_
  refine gkH X.F X.h1 X.ne C hl (kL_pass hf h) wh_171 ⟨rfl, rfl, ⟨Nat.le_of_ble_eq_true rfl, Nat.le_of_ble_eq_true rfl⟩, ⟨by show cells + 1 ≤ 603072; omega, by show slots + 6 ≤ 7215210; omega⟩, Nat.le_of_ble_eq_true rfl⟩ (rest := []) rfl dL_law_1021 (fun k1 S2 f3 H locs h C => ?_)
  refine lv_istore (lv' := [(6, .int k1), (0, .ref b), (1, .ref (ad 110)), (2, .ref (ad 117)), (3, .ref ao), (4, .ref a2), (5, .int i)]) X.F.x X.F.b dL_law_1024 hl (by decide) rfl (fun ls hl => ?_)
  refine lv_aload_n X.F.x X.F.b dL_law_1026 rfl (lv_at hl 3 rfl) ?_
  refine lv_aload_n X.F.x X.F.b dL_law_1027 rfl (lv_at hl 1 rfl) ?_
  refine lv_iload X.F.x X.F.b dL_law_1028 (lv_at hl 6 rfl) ?_
  refine lv_iconst (v := 1) X.F.x X.F.b dL_law_1030 (by decide) ?_
  refine lv_iadd X.F.x X.F.b dL_law_1031 ?_
  refine gSld X.F C X.X X.bl X.nb hi1 hx1 dL_law_1032 ?_
  refine gkI X.F C hl (kX6_pass h) (by decide) (ce_M _) rfl wv_L_173 ⟨rfl, rfl, ⟨Nat.le_of_ble_eq_true rfl, Nat.le_of_ble_eq_true rfl⟩, ⟨by show cells + 1 + 0 ≤ 603072; omega, by show slots + 6 + 0 ≤ 7215210; omega⟩, Nat.le_of_ble_eq_true rfl⟩ (rest := []) rfl dL_law_1033 (fun r4 S5 H locs h C => ?_)
  refine lv_istore (lv' := [(7, .int r4), (6, .int k1), (0, .ref b), (1, .ref (ad 110)), (2, .ref (ad 117)), (3, .ref ao), (4, .ref a2), (5, .int i)]) X.F.x X.F.b dL_law_1036 hl (by decide) rfl (fun ls hl => ?_)
  refine lv_aload_n X.F.x X.F.b dL_law_1038 rfl (lv_at hl 4 rfl) ?_
  refine gkI X.F C hl (kX6_thrown h) (by decide) (ce_M _) rfl wv_L_123 ⟨rfl, rfl, ⟨Nat.le_of_ble_eq_true rfl, Nat.le_of_ble_eq_true rfl⟩, ⟨by show cells + 1 + 0 + 0 ≤ 603072; omega, by show slots + 6 + 0 + 0 ≤ 7215210; omega⟩, Nat.le_of_ble_eq_true rfl⟩ (rest := []) rfl dL_law_1039 (fun r6 S7 H locs h C => ?_)
  refine lv_iload X.F.x X.F.b dL_law_1042 (lv_at hl 1 rfl) ?_
  refine lv_icmp_eq (tgt := 1049) X.F.x X.F.b dL_law_1044 (by decide) (fun h8 => ?_) (fun h8 => absurd h.1 h8)
  refine lv_iload X.F.x X.F.b dL_law_1049 (lv_at hl 1 rfl) ?_
  refine lv_if_ne (tgt := 1066) X.F.x X.F.b dL_law_1051 (by decide) (fun h9 => ?_) (fun h9 => ?_)
  · refine lv_goto (tgt := 1838) X.F.x X.F.b dL_law_1066 (by decide) ?_
    refine W.widen (k := cells + 3) (n := slots + 18) (by omega) (by omega) ?_
    exact kk _ _ _ _ _ _ h.2.2 C (lv_sub hl [2, 3, 4, 5, 6, 7] rfl)
  · refine lv_aload_n X.F.x X.F.b dL_law_1054 rfl (lv_at hl 5 rfl) ?_
    refine lv_iconst (v := 0) X.F.x X.F.b dL_law_1055 (by decide) ?_
    refine gLald X.F C dL_law_1056 ?_
    refine lv_iload X.F.x X.F.b dL_law_1057 (lv_at hl 0 rfl) ?_
    refine lv_i2l X.F.x X.F.b dL_law_1059 rfl ?_
    refine lv_lcmpE X.F.x X.F.b dL_law_1060 (h.2.1 h9) ?_
    refine lv_if_eq (tgt := 1066) X.F.x X.F.b dL_law_1061 (by decide) (fun _ => ?_) (fun h7 => absurd rfl h7)
    refine lv_goto (tgt := 1838) X.F.x X.F.b dL_law_1066 (by decide) ?_
    refine W.widen (k := cells + 3) (n := slots + 18) (by omega) (by omega) ?_
    exact kk _ _ _ _ _ _ h.2.2 C (lv_sub hl [2, 3, 4, 5, 6, 7] rfl)
def lawC16 (post : Mem → (Nat → Int64) → (Nat → UInt64) → Prop) (S : Mem) (f : Nat → Int64) (g : Nat → UInt64) (x1 x2 : Int32) : Prop := mL_crossedIn (fun (k1 : Int32) (S2 : Mem) (f3 : Nat → Int64) => mX6_crossedIn (fun (r4 : Int32) (S5 : Mem) => mX6_thrown (fun (r6 : Int32) (S7 : Mem) => r6 = k1 ∧ (k1 = 0 → f3 0 = r4.toInt64) ∧ post S7 f3 g) S5) S2 x1) S f x1
set_option maxRecDepth 100000 in
theorem lawT16 {p : Program} {l : Launch} {e : Env} {s : State} {m : MethodId} {args : Array Value} {below : List Frame} {meth : Method} {c : Code} {Q : State → Prop} {D : va_G} {ky : Nat → ClassId} {ad : Nat → Nat} {ex : Nat → Nat → Nat} {b L : Nat} {xs : Nat → Int32} {ao a2 : Nat} (X : Lx p s m args meth c D ky ad ex b L xs ao a2) (hf : l.stackTraces = false) {post : Mem → (Nat → Int64) → (Nat → UInt64) → Prop} {S : Mem} {f : Nat → Int64} {g : Nat → UInt64} {i x1 x2 : Int32} (hi1 : vp_in (i + 1) L) (hi2 : vp_in (i + 2) L) (hx1 : xs (i + 1).toNatClampNeg = x1) (hx2 : xs (i + 2).toNatClampNeg = x2) (h : lawC16 post S f g x1 x2) {H : Heap} {locs : List Loc} {ls : Array Slot} {cells slots : Nat} (hc : cells + 3 ≤ 603072) (hs : slots + 18 ≤ 7215210) (C : Cg D ky ad s (fun q => s.heap.size ≤ q) S [(ao, lce ky f), (a2, dce ky g)] H locs) (hl : lv_has ls 9 [(0, .ref b), (1, .ref (ad 110)), (2, .ref (ad 117)), (3, .ref ao), (4, .ref a2), (5, .int i)]) (kk : ∀ (S : Mem) (f : Nat → Int64) (g : Nat → UInt64) (H : Heap) (locs : List Loc) (ls : Array Slot), post S f g → Cg D ky ad s (fun q => s.heap.size ≤ q) S [(ao, lce ky f), (a2, dce ky g)] H locs → lv_has ls 9 [(0, .ref b), (1, .ref (ad 110)), (2, .ref (ad 117)), (3, .ref ao), (4, .ref a2), (5, .int i)] → W p l e room_1 s m args below meth c H locs (cells + 3) (slots + 18) Q (F0 m 1838 ls [])) : W p l e room_1 s m args below meth c H locs cells slots Q (F0 m 1069 ls []) := by
  unfold lawC16 at h
  refine lv_aload_n X.F.x X.F.b dL_law_1069 rfl (lv_at hl 1 rfl) ?_
  refine lv_aload_n X.F.x X.F.b dL_law_1070 rfl (lv_at hl 0 rfl) ?_
  refine lv_iload X.F.x X.F.b dL_law_1071 (lv_at hl 5 rfl) ?_
  refine lv_iconst (v := 1) X.F.x X.F.b dL_law_1073 (by decide) ?_
  refine lv_iadd X.F.x X.F.b dL_law_1074 ?_
  refine gSld X.F C X.X X.bl X.nb hi1 hx1 dL_law_1075 ?_
  refine lv_aload_n X.F.x X.F.b dL_law_1076 rfl (lv_at hl 3 rfl) ?_
  refine gkH X.F X.h1 X.ne C hl (kL_crossedIn hf h) wh_174 ⟨rfl, rfl, ⟨Nat.le_of_ble_eq_true rfl, Nat.le_of_ble_eq_true rfl⟩, ⟨by show cells + 2 ≤ 603072; omega, by show slots + 12 ≤ 7215210; omega⟩, Nat.le_of_ble_eq_true rfl⟩ (rest := []) rfl dL_law_1077 (fun k1 S2 f3 H locs h C => ?_)
  refine lv_istore (lv' := [(6, .int k1), (0, .ref b), (1, .ref (ad 110)), (2, .ref (ad 117)), (3, .ref ao), (4, .ref a2), (5, .int i)]) X.F.x X.F.b dL_law_1080 hl (by decide) rfl (fun ls hl => ?_)
  refine lv_aload_n X.F.x X.F.b dL_law_1082 rfl (lv_at hl 3 rfl) ?_
  refine lv_aload_n X.F.x X.F.b dL_law_1083 rfl (lv_at hl 1 rfl) ?_
  refine lv_iload X.F.x X.F.b dL_law_1084 (lv_at hl 6 rfl) ?_
  refine lv_iconst (v := 1) X.F.x X.F.b dL_law_1086 (by decide) ?_
  refine lv_iadd X.F.x X.F.b dL_law_1087 ?_
  refine gSld X.F C X.X X.bl X.nb hi1 hx1 dL_law_1088 ?_
  refine gkI X.F C hl (kX6_crossedIn h) (by decide) (ce_M _) rfl wv_L_176 ⟨rfl, rfl, ⟨Nat.le_of_ble_eq_true rfl, Nat.le_of_ble_eq_true rfl⟩, ⟨by show cells + 2 + 0 ≤ 603072; omega, by show slots + 12 + 0 ≤ 7215210; omega⟩, Nat.le_of_ble_eq_true rfl⟩ (rest := []) rfl dL_law_1089 (fun r4 S5 H locs h C => ?_)
  refine lv_istore (lv' := [(7, .int r4), (6, .int k1), (0, .ref b), (1, .ref (ad 110)), (2, .ref (ad 117)), (3, .ref ao), (4, .ref a2), (5, .int i)]) X.F.x X.F.b dL_law_1092 hl (by decide) rfl (fun ls hl => ?_)
  refine lv_aload_n X.F.x X.F.b dL_law_1094 rfl (lv_at hl 4 rfl) ?_
  refine gkI X.F C hl (kX6_thrown h) (by decide) (ce_M _) rfl wv_L_123 ⟨rfl, rfl, ⟨Nat.le_of_ble_eq_true rfl, Nat.le_of_ble_eq_true rfl⟩, ⟨by show cells + 2 + 0 + 0 ≤ 603072; omega, by show slots + 12 + 0 + 0 ≤ 7215210; omega⟩, Nat.le_of_ble_eq_true rfl⟩ (rest := []) rfl dL_law_1095 (fun r6 S7 H locs h C => ?_)
  refine lv_iload X.F.x X.F.b dL_law_1098 (lv_at hl 1 rfl) ?_
  refine lv_icmp_eq (tgt := 1105) X.F.x X.F.b dL_law_1100 (by decide) (fun h8 => ?_) (fun h8 => absurd h.1 h8)
  refine lv_iload X.F.x X.F.b dL_law_1105 (lv_at hl 1 rfl) ?_
  refine lv_if_ne (tgt := 1122) X.F.x X.F.b dL_law_1107 (by decide) (fun h9 => ?_) (fun h9 => ?_)
  · refine lv_goto (tgt := 1838) X.F.x X.F.b dL_law_1122 (by decide) ?_
    refine W.widen (k := cells + 3) (n := slots + 18) (by omega) (by omega) ?_
    exact kk _ _ _ _ _ _ h.2.2 C (lv_sub hl [2, 3, 4, 5, 6, 7] rfl)
  · refine lv_aload_n X.F.x X.F.b dL_law_1110 rfl (lv_at hl 5 rfl) ?_
    refine lv_iconst (v := 0) X.F.x X.F.b dL_law_1111 (by decide) ?_
    refine gLald X.F C dL_law_1112 ?_
    refine lv_iload X.F.x X.F.b dL_law_1113 (lv_at hl 0 rfl) ?_
    refine lv_i2l X.F.x X.F.b dL_law_1115 rfl ?_
    refine lv_lcmpE X.F.x X.F.b dL_law_1116 (h.2.1 h9) ?_
    refine lv_if_eq (tgt := 1122) X.F.x X.F.b dL_law_1117 (by decide) (fun _ => ?_) (fun h7 => absurd rfl h7)
    refine lv_goto (tgt := 1838) X.F.x X.F.b dL_law_1122 (by decide) ?_
    refine W.widen (k := cells + 3) (n := slots + 18) (by omega) (by omega) ?_
    exact kk _ _ _ _ _ _ h.2.2 C (lv_sub hl [2, 3, 4, 5, 6, 7] rfl)
def lawC17 (post : Mem → (Nat → Int64) → (Nat → UInt64) → Prop) (S : Mem) (f : Nat → Int64) (g : Nat → UInt64) (x1 x2 : Int32) : Prop := mL_wetSteps (fun (k1 : Int32) (S2 : Mem) (f3 : Nat → Int64) => mX6_wetSteps (fun (r4 : Int32) (S5 : Mem) => mX6_thrown (fun (r6 : Int32) (S7 : Mem) => r6 = k1 ∧ (k1 = 0 → f3 0 = r4.toInt64) ∧ post S7 f3 g) S5) S2 x1) S f x1
set_option maxRecDepth 100000 in
theorem lawT17 {p : Program} {l : Launch} {e : Env} {s : State} {m : MethodId} {args : Array Value} {below : List Frame} {meth : Method} {c : Code} {Q : State → Prop} {D : va_G} {ky : Nat → ClassId} {ad : Nat → Nat} {ex : Nat → Nat → Nat} {b L : Nat} {xs : Nat → Int32} {ao a2 : Nat} (X : Lx p s m args meth c D ky ad ex b L xs ao a2) (hf : l.stackTraces = false) {post : Mem → (Nat → Int64) → (Nat → UInt64) → Prop} {S : Mem} {f : Nat → Int64} {g : Nat → UInt64} {i x1 x2 : Int32} (hi1 : vp_in (i + 1) L) (hi2 : vp_in (i + 2) L) (hx1 : xs (i + 1).toNatClampNeg = x1) (hx2 : xs (i + 2).toNatClampNeg = x2) (h : lawC17 post S f g x1 x2) {H : Heap} {locs : List Loc} {ls : Array Slot} {cells slots : Nat} (hc : cells + 3 ≤ 603072) (hs : slots + 18 ≤ 7215210) (C : Cg D ky ad s (fun q => s.heap.size ≤ q) S [(ao, lce ky f), (a2, dce ky g)] H locs) (hl : lv_has ls 9 [(0, .ref b), (1, .ref (ad 110)), (2, .ref (ad 117)), (3, .ref ao), (4, .ref a2), (5, .int i)]) (kk : ∀ (S : Mem) (f : Nat → Int64) (g : Nat → UInt64) (H : Heap) (locs : List Loc) (ls : Array Slot), post S f g → Cg D ky ad s (fun q => s.heap.size ≤ q) S [(ao, lce ky f), (a2, dce ky g)] H locs → lv_has ls 9 [(0, .ref b), (1, .ref (ad 110)), (2, .ref (ad 117)), (3, .ref ao), (4, .ref a2), (5, .int i)] → W p l e room_1 s m args below meth c H locs (cells + 3) (slots + 18) Q (F0 m 1838 ls [])) : W p l e room_1 s m args below meth c H locs cells slots Q (F0 m 1125 ls []) := by
  unfold lawC17 at h
  refine lv_aload_n X.F.x X.F.b dL_law_1125 rfl (lv_at hl 1 rfl) ?_
  refine lv_aload_n X.F.x X.F.b dL_law_1126 rfl (lv_at hl 0 rfl) ?_
  refine lv_iload X.F.x X.F.b dL_law_1127 (lv_at hl 5 rfl) ?_
  refine lv_iconst (v := 1) X.F.x X.F.b dL_law_1129 (by decide) ?_
  refine lv_iadd X.F.x X.F.b dL_law_1130 ?_
  refine gSld X.F C X.X X.bl X.nb hi1 hx1 dL_law_1131 ?_
  refine lv_aload_n X.F.x X.F.b dL_law_1132 rfl (lv_at hl 3 rfl) ?_
  refine gkH X.F X.h1 X.ne C hl (kL_wetSteps hf h) wh_177 ⟨rfl, rfl, ⟨Nat.le_of_ble_eq_true rfl, Nat.le_of_ble_eq_true rfl⟩, ⟨by show cells + 2 ≤ 603072; omega, by show slots + 12 ≤ 7215210; omega⟩, Nat.le_of_ble_eq_true rfl⟩ (rest := []) rfl dL_law_1133 (fun k1 S2 f3 H locs h C => ?_)
  refine lv_istore (lv' := [(6, .int k1), (0, .ref b), (1, .ref (ad 110)), (2, .ref (ad 117)), (3, .ref ao), (4, .ref a2), (5, .int i)]) X.F.x X.F.b dL_law_1136 hl (by decide) rfl (fun ls hl => ?_)
  refine lv_aload_n X.F.x X.F.b dL_law_1138 rfl (lv_at hl 3 rfl) ?_
  refine lv_aload_n X.F.x X.F.b dL_law_1139 rfl (lv_at hl 1 rfl) ?_
  refine lv_iload X.F.x X.F.b dL_law_1140 (lv_at hl 6 rfl) ?_
  refine lv_iconst (v := 1) X.F.x X.F.b dL_law_1142 (by decide) ?_
  refine lv_iadd X.F.x X.F.b dL_law_1143 ?_
  refine gSld X.F C X.X X.bl X.nb hi1 hx1 dL_law_1144 ?_
  refine gkI X.F C hl (kX6_wetSteps h) (by decide) (ce_M _) rfl wv_L_179 ⟨rfl, rfl, ⟨Nat.le_of_ble_eq_true rfl, Nat.le_of_ble_eq_true rfl⟩, ⟨by show cells + 2 + 0 ≤ 603072; omega, by show slots + 12 + 0 ≤ 7215210; omega⟩, Nat.le_of_ble_eq_true rfl⟩ (rest := []) rfl dL_law_1145 (fun r4 S5 H locs h C => ?_)
  refine lv_istore (lv' := [(7, .int r4), (6, .int k1), (0, .ref b), (1, .ref (ad 110)), (2, .ref (ad 117)), (3, .ref ao), (4, .ref a2), (5, .int i)]) X.F.x X.F.b dL_law_1148 hl (by decide) rfl (fun ls hl => ?_)
  refine lv_aload_n X.F.x X.F.b dL_law_1150 rfl (lv_at hl 4 rfl) ?_
  refine gkI X.F C hl (kX6_thrown h) (by decide) (ce_M _) rfl wv_L_123 ⟨rfl, rfl, ⟨Nat.le_of_ble_eq_true rfl, Nat.le_of_ble_eq_true rfl⟩, ⟨by show cells + 2 + 0 + 0 ≤ 603072; omega, by show slots + 12 + 0 + 0 ≤ 7215210; omega⟩, Nat.le_of_ble_eq_true rfl⟩ (rest := []) rfl dL_law_1151 (fun r6 S7 H locs h C => ?_)
  refine lv_iload X.F.x X.F.b dL_law_1154 (lv_at hl 1 rfl) ?_
  refine lv_icmp_eq (tgt := 1161) X.F.x X.F.b dL_law_1156 (by decide) (fun h8 => ?_) (fun h8 => absurd h.1 h8)
  refine lv_iload X.F.x X.F.b dL_law_1161 (lv_at hl 1 rfl) ?_
  refine lv_if_ne (tgt := 1178) X.F.x X.F.b dL_law_1163 (by decide) (fun h9 => ?_) (fun h9 => ?_)
  · refine lv_goto (tgt := 1838) X.F.x X.F.b dL_law_1178 (by decide) ?_
    refine W.widen (k := cells + 3) (n := slots + 18) (by omega) (by omega) ?_
    exact kk _ _ _ _ _ _ h.2.2 C (lv_sub hl [2, 3, 4, 5, 6, 7] rfl)
  · refine lv_aload_n X.F.x X.F.b dL_law_1166 rfl (lv_at hl 5 rfl) ?_
    refine lv_iconst (v := 0) X.F.x X.F.b dL_law_1167 (by decide) ?_
    refine gLald X.F C dL_law_1168 ?_
    refine lv_iload X.F.x X.F.b dL_law_1169 (lv_at hl 0 rfl) ?_
    refine lv_i2l X.F.x X.F.b dL_law_1171 rfl ?_
    refine lv_lcmpE X.F.x X.F.b dL_law_1172 (h.2.1 h9) ?_
    refine lv_if_eq (tgt := 1178) X.F.x X.F.b dL_law_1173 (by decide) (fun _ => ?_) (fun h7 => absurd rfl h7)
    refine lv_goto (tgt := 1838) X.F.x X.F.b dL_law_1178 (by decide) ?_
    refine W.widen (k := cells + 3) (n := slots + 18) (by omega) (by omega) ?_
    exact kk _ _ _ _ _ _ h.2.2 C (lv_sub hl [2, 3, 4, 5, 6, 7] rfl)
def lawC18 (post : Mem → (Nat → Int64) → (Nat → UInt64) → Prop) (S : Mem) (f : Nat → Int64) (g : Nat → UInt64) (x1 x2 : Int32) : Prop := mX5_kinds (fun (r1 : Int32) (S2 : Mem) => mX6_kinds (fun (r3 : Int32) (S4 : Mem) => r1 = r3 ∧ post S4 f g) S2) S
set_option maxRecDepth 100000 in
theorem lawT18 {p : Program} {l : Launch} {e : Env} {s : State} {m : MethodId} {args : Array Value} {below : List Frame} {meth : Method} {c : Code} {Q : State → Prop} {D : va_G} {ky : Nat → ClassId} {ad : Nat → Nat} {ex : Nat → Nat → Nat} {b L : Nat} {xs : Nat → Int32} {ao a2 : Nat} (X : Lx p s m args meth c D ky ad ex b L xs ao a2) (hf : l.stackTraces = false) {post : Mem → (Nat → Int64) → (Nat → UInt64) → Prop} {S : Mem} {f : Nat → Int64} {g : Nat → UInt64} {i x1 x2 : Int32} (hi1 : vp_in (i + 1) L) (hi2 : vp_in (i + 2) L) (hx1 : xs (i + 1).toNatClampNeg = x1) (hx2 : xs (i + 2).toNatClampNeg = x2) (h : lawC18 post S f g x1 x2) {H : Heap} {locs : List Loc} {ls : Array Slot} {cells slots : Nat} (hc : cells + 3 ≤ 603072) (hs : slots + 18 ≤ 7215210) (C : Cg D ky ad s (fun q => s.heap.size ≤ q) S [(ao, lce ky f), (a2, dce ky g)] H locs) (hl : lv_has ls 9 [(0, .ref b), (1, .ref (ad 110)), (2, .ref (ad 117)), (3, .ref ao), (4, .ref a2), (5, .int i)]) (kk : ∀ (S : Mem) (f : Nat → Int64) (g : Nat → UInt64) (H : Heap) (locs : List Loc) (ls : Array Slot), post S f g → Cg D ky ad s (fun q => s.heap.size ≤ q) S [(ao, lce ky f), (a2, dce ky g)] H locs → lv_has ls 9 [(0, .ref b), (1, .ref (ad 110)), (2, .ref (ad 117)), (3, .ref ao), (4, .ref a2), (5, .int i)] → W p l e room_1 s m args below meth c H locs (cells + 3) (slots + 18) Q (F0 m 1838 ls [])) : W p l e room_1 s m args below meth c H locs cells slots Q (F0 m 1181 ls []) := by
  unfold lawC18 at h
  refine lv_aload_n X.F.x X.F.b dL_law_1181 rfl (lv_at hl 1 rfl) ?_
  refine gkI X.F C hl (kX5_kinds h) (by decide) (ce_X _) rfl wv_L_180 ⟨rfl, rfl, ⟨Nat.le_of_ble_eq_true rfl, Nat.le_of_ble_eq_true rfl⟩, ⟨by show cells + 0 ≤ 603072; omega, by show slots + 0 ≤ 7215210; omega⟩, Nat.le_of_ble_eq_true rfl⟩ (rest := []) rfl dL_law_1182 (fun r1 S2 H locs h C => ?_)
  refine lv_aload_n X.F.x X.F.b dL_law_1185 rfl (lv_at hl 2 rfl) ?_
  refine gkI X.F C hl (kX6_kinds h) (by decide) (ce_M _) rfl wv_L_183 ⟨rfl, rfl, ⟨Nat.le_of_ble_eq_true rfl, Nat.le_of_ble_eq_true rfl⟩, ⟨by show cells + 0 + 0 ≤ 603072; omega, by show slots + 0 + 0 ≤ 7215210; omega⟩, Nat.le_of_ble_eq_true rfl⟩ (rest := [.int r1]) rfl dL_law_1186 (fun r3 S4 H locs h C => ?_)
  refine lv_icmp_eq (tgt := 1838) X.F.x X.F.b dL_law_1189 (by decide) (fun h8 => ?_) (fun h8 => absurd h.1 h8)
  refine W.widen (k := cells + 3) (n := slots + 18) (by omega) (by omega) ?_
  exact kk _ _ _ _ _ _ h.2 C (lv_sub hl [0, 1, 2, 3, 4, 5] rfl)
def lawC19 (post : Mem → (Nat → Int64) → (Nat → UInt64) → Prop) (S : Mem) (f : Nat → Int64) (g : Nat → UInt64) (x1 x2 : Int32) : Prop := mL_type (fun (k1 : Int32) (S2 : Mem) (f3 : Nat → Int64) => mX6_type (fun (r4 : Int32) (S5 : Mem) => mX6_thrown (fun (r6 : Int32) (S7 : Mem) => r6 = k1 ∧ (k1 = 0 → f3 0 = r4.toInt64) ∧ post S7 f3 g) S5) S2 ((x1.toUInt32 % 65536).toInt32)) S f ((x1.toUInt32 % 65536).toInt32)
set_option maxRecDepth 100000 in
theorem lawT19 {p : Program} {l : Launch} {e : Env} {s : State} {m : MethodId} {args : Array Value} {below : List Frame} {meth : Method} {c : Code} {Q : State → Prop} {D : va_G} {ky : Nat → ClassId} {ad : Nat → Nat} {ex : Nat → Nat → Nat} {b L : Nat} {xs : Nat → Int32} {ao a2 : Nat} (X : Lx p s m args meth c D ky ad ex b L xs ao a2) (hf : l.stackTraces = false) {post : Mem → (Nat → Int64) → (Nat → UInt64) → Prop} {S : Mem} {f : Nat → Int64} {g : Nat → UInt64} {i x1 x2 : Int32} (hi1 : vp_in (i + 1) L) (hi2 : vp_in (i + 2) L) (hx1 : xs (i + 1).toNatClampNeg = x1) (hx2 : xs (i + 2).toNatClampNeg = x2) (h : lawC19 post S f g x1 x2) {H : Heap} {locs : List Loc} {ls : Array Slot} {cells slots : Nat} (hc : cells + 3 ≤ 603072) (hs : slots + 18 ≤ 7215210) (C : Cg D ky ad s (fun q => s.heap.size ≤ q) S [(ao, lce ky f), (a2, dce ky g)] H locs) (hl : lv_has ls 9 [(0, .ref b), (1, .ref (ad 110)), (2, .ref (ad 117)), (3, .ref ao), (4, .ref a2), (5, .int i)]) (kk : ∀ (S : Mem) (f : Nat → Int64) (g : Nat → UInt64) (H : Heap) (locs : List Loc) (ls : Array Slot), post S f g → Cg D ky ad s (fun q => s.heap.size ≤ q) S [(ao, lce ky f), (a2, dce ky g)] H locs → lv_has ls 9 [(0, .ref b), (1, .ref (ad 110)), (2, .ref (ad 117)), (3, .ref ao), (4, .ref a2), (5, .int i)] → W p l e room_1 s m args below meth c H locs (cells + 3) (slots + 18) Q (F0 m 1838 ls [])) : W p l e room_1 s m args below meth c H locs cells slots Q (F0 m 1194 ls []) := by
  unfold lawC19 at h
  refine lv_aload_n X.F.x X.F.b dL_law_1194 rfl (lv_at hl 1 rfl) ?_
  refine lv_aload_n X.F.x X.F.b dL_law_1195 rfl (lv_at hl 0 rfl) ?_
  refine lv_iload X.F.x X.F.b dL_law_1196 (lv_at hl 5 rfl) ?_
  refine lv_iconst (v := 1) X.F.x X.F.b dL_law_1198 (by decide) ?_
  refine lv_iadd X.F.x X.F.b dL_law_1199 ?_
  refine gSld X.F C X.X X.bl X.nb hi1 hx1 dL_law_1200 ?_
  refine lv_i2c X.F.x X.F.b dL_law_1201 rfl ?_
  refine lv_aload_n X.F.x X.F.b dL_law_1202 rfl (lv_at hl 3 rfl) ?_
  refine gkH X.F X.h1 X.ne C hl (kL_type hf h) wh_184 ⟨rfl, rfl, ⟨Nat.le_of_ble_eq_true rfl, Nat.le_of_ble_eq_true rfl⟩, ⟨by show cells + 1 ≤ 603072; omega, by show slots + 6 ≤ 7215210; omega⟩, Nat.le_of_ble_eq_true rfl⟩ (rest := []) rfl dL_law_1203 (fun k1 S2 f3 H locs h C => ?_)
  refine lv_istore (lv' := [(6, .int k1), (0, .ref b), (1, .ref (ad 110)), (2, .ref (ad 117)), (3, .ref ao), (4, .ref a2), (5, .int i)]) X.F.x X.F.b dL_law_1206 hl (by decide) rfl (fun ls hl => ?_)
  refine lv_aload_n X.F.x X.F.b dL_law_1208 rfl (lv_at hl 3 rfl) ?_
  refine lv_aload_n X.F.x X.F.b dL_law_1209 rfl (lv_at hl 1 rfl) ?_
  refine lv_iload X.F.x X.F.b dL_law_1210 (lv_at hl 6 rfl) ?_
  refine lv_iconst (v := 1) X.F.x X.F.b dL_law_1212 (by decide) ?_
  refine lv_iadd X.F.x X.F.b dL_law_1213 ?_
  refine gSld X.F C X.X X.bl X.nb hi1 hx1 dL_law_1214 ?_
  refine lv_i2c X.F.x X.F.b dL_law_1215 rfl ?_
  refine gkI X.F C hl (kX6_type h) (by decide) (ce_M _) rfl wv_L_187 ⟨rfl, rfl, ⟨Nat.le_of_ble_eq_true rfl, Nat.le_of_ble_eq_true rfl⟩, ⟨by show cells + 1 + 0 ≤ 603072; omega, by show slots + 6 + 0 ≤ 7215210; omega⟩, Nat.le_of_ble_eq_true rfl⟩ (rest := []) rfl dL_law_1216 (fun r4 S5 H locs h C => ?_)
  refine lv_istore (lv' := [(7, .int r4), (6, .int k1), (0, .ref b), (1, .ref (ad 110)), (2, .ref (ad 117)), (3, .ref ao), (4, .ref a2), (5, .int i)]) X.F.x X.F.b dL_law_1219 hl (by decide) rfl (fun ls hl => ?_)
  refine lv_aload_n X.F.x X.F.b dL_law_1221 rfl (lv_at hl 4 rfl) ?_
  refine gkI X.F C hl (kX6_thrown h) (by decide) (ce_M _) rfl wv_L_123 ⟨rfl, rfl, ⟨Nat.le_of_ble_eq_true rfl, Nat.le_of_ble_eq_true rfl⟩, ⟨by show cells + 1 + 0 + 0 ≤ 603072; omega, by show slots + 6 + 0 + 0 ≤ 7215210; omega⟩, Nat.le_of_ble_eq_true rfl⟩ (rest := []) rfl dL_law_1222 (fun r6 S7 H locs h C => ?_)
  refine lv_iload X.F.x X.F.b dL_law_1225 (lv_at hl 1 rfl) ?_
  refine lv_icmp_eq (tgt := 1232) X.F.x X.F.b dL_law_1227 (by decide) (fun h8 => ?_) (fun h8 => absurd h.1 h8)
  refine lv_iload X.F.x X.F.b dL_law_1232 (lv_at hl 1 rfl) ?_
  refine lv_if_ne (tgt := 1249) X.F.x X.F.b dL_law_1234 (by decide) (fun h9 => ?_) (fun h9 => ?_)
  · refine lv_goto (tgt := 1838) X.F.x X.F.b dL_law_1249 (by decide) ?_
    refine W.widen (k := cells + 3) (n := slots + 18) (by omega) (by omega) ?_
    exact kk _ _ _ _ _ _ h.2.2 C (lv_sub hl [2, 3, 4, 5, 6, 7] rfl)
  · refine lv_aload_n X.F.x X.F.b dL_law_1237 rfl (lv_at hl 5 rfl) ?_
    refine lv_iconst (v := 0) X.F.x X.F.b dL_law_1238 (by decide) ?_
    refine gLald X.F C dL_law_1239 ?_
    refine lv_iload X.F.x X.F.b dL_law_1240 (lv_at hl 0 rfl) ?_
    refine lv_i2l X.F.x X.F.b dL_law_1242 rfl ?_
    refine lv_lcmpE X.F.x X.F.b dL_law_1243 (h.2.1 h9) ?_
    refine lv_if_eq (tgt := 1249) X.F.x X.F.b dL_law_1244 (by decide) (fun _ => ?_) (fun h7 => absurd rfl h7)
    refine lv_goto (tgt := 1838) X.F.x X.F.b dL_law_1249 (by decide) ?_
    refine W.widen (k := cells + 3) (n := slots + 18) (by omega) (by omega) ?_
    exact kk _ _ _ _ _ _ h.2.2 C (lv_sub hl [2, 3, 4, 5, 6, 7] rfl)
def lawC20 (post : Mem → (Nat → Int64) → (Nat → UInt64) → Prop) (S : Mem) (f : Nat → Int64) (g : Nat → UInt64) (x1 x2 : Int32) : Prop := mL_ask (fun (k1 : Int32) (S2 : Mem) (f3 : Nat → Int64) => mX6_ask (fun (r4 : Int32) (S5 : Mem) => mX6_thrown (fun (r6 : Int32) (S7 : Mem) => r6 = k1 ∧ (k1 = 0 → f3 0 = r4.toInt64) ∧ post S7 f3 g) S5) S2) S f
set_option maxRecDepth 100000 in
theorem lawT20 {p : Program} {l : Launch} {e : Env} {s : State} {m : MethodId} {args : Array Value} {below : List Frame} {meth : Method} {c : Code} {Q : State → Prop} {D : va_G} {ky : Nat → ClassId} {ad : Nat → Nat} {ex : Nat → Nat → Nat} {b L : Nat} {xs : Nat → Int32} {ao a2 : Nat} (X : Lx p s m args meth c D ky ad ex b L xs ao a2) (hf : l.stackTraces = false) {post : Mem → (Nat → Int64) → (Nat → UInt64) → Prop} {S : Mem} {f : Nat → Int64} {g : Nat → UInt64} {i x1 x2 : Int32} (hi1 : vp_in (i + 1) L) (hi2 : vp_in (i + 2) L) (hx1 : xs (i + 1).toNatClampNeg = x1) (hx2 : xs (i + 2).toNatClampNeg = x2) (h : lawC20 post S f g x1 x2) {H : Heap} {locs : List Loc} {ls : Array Slot} {cells slots : Nat} (hc : cells + 3 ≤ 603072) (hs : slots + 18 ≤ 7215210) (C : Cg D ky ad s (fun q => s.heap.size ≤ q) S [(ao, lce ky f), (a2, dce ky g)] H locs) (hl : lv_has ls 9 [(0, .ref b), (1, .ref (ad 110)), (2, .ref (ad 117)), (3, .ref ao), (4, .ref a2), (5, .int i)]) (kk : ∀ (S : Mem) (f : Nat → Int64) (g : Nat → UInt64) (H : Heap) (locs : List Loc) (ls : Array Slot), post S f g → Cg D ky ad s (fun q => s.heap.size ≤ q) S [(ao, lce ky f), (a2, dce ky g)] H locs → lv_has ls 9 [(0, .ref b), (1, .ref (ad 110)), (2, .ref (ad 117)), (3, .ref ao), (4, .ref a2), (5, .int i)] → W p l e room_1 s m args below meth c H locs (cells + 3) (slots + 18) Q (F0 m 1838 ls [])) : W p l e room_1 s m args below meth c H locs cells slots Q (F0 m 1252 ls []) := by
  unfold lawC20 at h
  refine lv_aload_n X.F.x X.F.b dL_law_1252 rfl (lv_at hl 1 rfl) ?_
  refine lv_aload_n X.F.x X.F.b dL_law_1253 rfl (lv_at hl 3 rfl) ?_
  refine gkH X.F X.h1 X.ne C hl (kL_ask hf h) wh_188 ⟨rfl, rfl, ⟨Nat.le_of_ble_eq_true rfl, Nat.le_of_ble_eq_true rfl⟩, ⟨by show cells + 1 ≤ 603072; omega, by show slots + 6 ≤ 7215210; omega⟩, Nat.le_of_ble_eq_true rfl⟩ (rest := []) rfl dL_law_1254 (fun k1 S2 f3 H locs h C => ?_)
  refine lv_istore (lv' := [(6, .int k1), (0, .ref b), (1, .ref (ad 110)), (2, .ref (ad 117)), (3, .ref ao), (4, .ref a2), (5, .int i)]) X.F.x X.F.b dL_law_1257 hl (by decide) rfl (fun ls hl => ?_)
  refine lv_aload_n X.F.x X.F.b dL_law_1259 rfl (lv_at hl 3 rfl) ?_
  refine gkI X.F C hl (kX6_ask h) (by decide) (ce_M _) rfl wv_L_190 ⟨rfl, rfl, ⟨Nat.le_of_ble_eq_true rfl, Nat.le_of_ble_eq_true rfl⟩, ⟨by show cells + 1 + 0 ≤ 603072; omega, by show slots + 6 + 0 ≤ 7215210; omega⟩, Nat.le_of_ble_eq_true rfl⟩ (rest := []) rfl dL_law_1260 (fun r4 S5 H locs h C => ?_)
  refine lv_istore (lv' := [(7, .int r4), (6, .int k1), (0, .ref b), (1, .ref (ad 110)), (2, .ref (ad 117)), (3, .ref ao), (4, .ref a2), (5, .int i)]) X.F.x X.F.b dL_law_1263 hl (by decide) rfl (fun ls hl => ?_)
  refine lv_aload_n X.F.x X.F.b dL_law_1265 rfl (lv_at hl 4 rfl) ?_
  refine gkI X.F C hl (kX6_thrown h) (by decide) (ce_M _) rfl wv_L_123 ⟨rfl, rfl, ⟨Nat.le_of_ble_eq_true rfl, Nat.le_of_ble_eq_true rfl⟩, ⟨by show cells + 1 + 0 + 0 ≤ 603072; omega, by show slots + 6 + 0 + 0 ≤ 7215210; omega⟩, Nat.le_of_ble_eq_true rfl⟩ (rest := []) rfl dL_law_1266 (fun r6 S7 H locs h C => ?_)
  refine lv_iload X.F.x X.F.b dL_law_1269 (lv_at hl 1 rfl) ?_
  refine lv_icmp_eq (tgt := 1276) X.F.x X.F.b dL_law_1271 (by decide) (fun h8 => ?_) (fun h8 => absurd h.1 h8)
  refine lv_iload X.F.x X.F.b dL_law_1276 (lv_at hl 1 rfl) ?_
  refine lv_if_ne (tgt := 1293) X.F.x X.F.b dL_law_1278 (by decide) (fun h9 => ?_) (fun h9 => ?_)
  · refine lv_goto (tgt := 1838) X.F.x X.F.b dL_law_1293 (by decide) ?_
    refine W.widen (k := cells + 3) (n := slots + 18) (by omega) (by omega) ?_
    exact kk _ _ _ _ _ _ h.2.2 C (lv_sub hl [2, 3, 4, 5, 6, 7] rfl)
  · refine lv_aload_n X.F.x X.F.b dL_law_1281 rfl (lv_at hl 5 rfl) ?_
    refine lv_iconst (v := 0) X.F.x X.F.b dL_law_1282 (by decide) ?_
    refine gLald X.F C dL_law_1283 ?_
    refine lv_iload X.F.x X.F.b dL_law_1284 (lv_at hl 0 rfl) ?_
    refine lv_i2l X.F.x X.F.b dL_law_1286 rfl ?_
    refine lv_lcmpE X.F.x X.F.b dL_law_1287 (h.2.1 h9) ?_
    refine lv_if_eq (tgt := 1293) X.F.x X.F.b dL_law_1288 (by decide) (fun _ => ?_) (fun h7 => absurd rfl h7)
    refine lv_goto (tgt := 1838) X.F.x X.F.b dL_law_1293 (by decide) ?_
    refine W.widen (k := cells + 3) (n := slots + 18) (by omega) (by omega) ?_
    exact kk _ _ _ _ _ _ h.2.2 C (lv_sub hl [2, 3, 4, 5, 6, 7] rfl)
def lawC21 (post : Mem → (Nat → Int64) → (Nat → UInt64) → Prop) (S : Mem) (f : Nat → Int64) (g : Nat → UInt64) (x1 x2 : Int32) : Prop := mL_answer (fun (k1 : Int32) (S2 : Mem) (f3 : Nat → Int64) => mX6_answer (fun (r4 : Int32) (S5 : Mem) => mX6_thrown (fun (r6 : Int32) (S7 : Mem) => r6 = k1 ∧ (k1 = 0 → f3 0 = r4.toInt64) ∧ post S7 f3 g) S5) S2 x1) S f x1
set_option maxRecDepth 100000 in
theorem lawT21 {p : Program} {l : Launch} {e : Env} {s : State} {m : MethodId} {args : Array Value} {below : List Frame} {meth : Method} {c : Code} {Q : State → Prop} {D : va_G} {ky : Nat → ClassId} {ad : Nat → Nat} {ex : Nat → Nat → Nat} {b L : Nat} {xs : Nat → Int32} {ao a2 : Nat} (X : Lx p s m args meth c D ky ad ex b L xs ao a2) (hf : l.stackTraces = false) {post : Mem → (Nat → Int64) → (Nat → UInt64) → Prop} {S : Mem} {f : Nat → Int64} {g : Nat → UInt64} {i x1 x2 : Int32} (hi1 : vp_in (i + 1) L) (hi2 : vp_in (i + 2) L) (hx1 : xs (i + 1).toNatClampNeg = x1) (hx2 : xs (i + 2).toNatClampNeg = x2) (h : lawC21 post S f g x1 x2) {H : Heap} {locs : List Loc} {ls : Array Slot} {cells slots : Nat} (hc : cells + 3 ≤ 603072) (hs : slots + 18 ≤ 7215210) (C : Cg D ky ad s (fun q => s.heap.size ≤ q) S [(ao, lce ky f), (a2, dce ky g)] H locs) (hl : lv_has ls 9 [(0, .ref b), (1, .ref (ad 110)), (2, .ref (ad 117)), (3, .ref ao), (4, .ref a2), (5, .int i)]) (kk : ∀ (S : Mem) (f : Nat → Int64) (g : Nat → UInt64) (H : Heap) (locs : List Loc) (ls : Array Slot), post S f g → Cg D ky ad s (fun q => s.heap.size ≤ q) S [(ao, lce ky f), (a2, dce ky g)] H locs → lv_has ls 9 [(0, .ref b), (1, .ref (ad 110)), (2, .ref (ad 117)), (3, .ref ao), (4, .ref a2), (5, .int i)] → W p l e room_1 s m args below meth c H locs (cells + 3) (slots + 18) Q (F0 m 1838 ls [])) : W p l e room_1 s m args below meth c H locs cells slots Q (F0 m 1296 ls []) := by
  unfold lawC21 at h
  refine lv_aload_n X.F.x X.F.b dL_law_1296 rfl (lv_at hl 1 rfl) ?_
  refine lv_aload_n X.F.x X.F.b dL_law_1297 rfl (lv_at hl 0 rfl) ?_
  refine lv_iload X.F.x X.F.b dL_law_1298 (lv_at hl 5 rfl) ?_
  refine lv_iconst (v := 1) X.F.x X.F.b dL_law_1300 (by decide) ?_
  refine lv_iadd X.F.x X.F.b dL_law_1301 ?_
  refine gSld X.F C X.X X.bl X.nb hi1 hx1 dL_law_1302 ?_
  refine lv_aload_n X.F.x X.F.b dL_law_1303 rfl (lv_at hl 3 rfl) ?_
  refine gkH X.F X.h1 X.ne C hl (kL_answer hf h) wh_191 ⟨rfl, rfl, ⟨Nat.le_of_ble_eq_true rfl, Nat.le_of_ble_eq_true rfl⟩, ⟨by show cells + 1 ≤ 603072; omega, by show slots + 6 ≤ 7215210; omega⟩, Nat.le_of_ble_eq_true rfl⟩ (rest := []) rfl dL_law_1304 (fun k1 S2 f3 H locs h C => ?_)
  refine lv_istore (lv' := [(6, .int k1), (0, .ref b), (1, .ref (ad 110)), (2, .ref (ad 117)), (3, .ref ao), (4, .ref a2), (5, .int i)]) X.F.x X.F.b dL_law_1307 hl (by decide) rfl (fun ls hl => ?_)
  refine lv_aload_n X.F.x X.F.b dL_law_1309 rfl (lv_at hl 3 rfl) ?_
  refine lv_aload_n X.F.x X.F.b dL_law_1310 rfl (lv_at hl 1 rfl) ?_
  refine lv_iload X.F.x X.F.b dL_law_1311 (lv_at hl 6 rfl) ?_
  refine lv_iconst (v := 1) X.F.x X.F.b dL_law_1313 (by decide) ?_
  refine lv_iadd X.F.x X.F.b dL_law_1314 ?_
  refine gSld X.F C X.X X.bl X.nb hi1 hx1 dL_law_1315 ?_
  refine gkI X.F C hl (kX6_answer h) (by decide) (ce_M _) rfl wv_L_193 ⟨rfl, rfl, ⟨Nat.le_of_ble_eq_true rfl, Nat.le_of_ble_eq_true rfl⟩, ⟨by show cells + 1 + 0 ≤ 603072; omega, by show slots + 6 + 0 ≤ 7215210; omega⟩, Nat.le_of_ble_eq_true rfl⟩ (rest := []) rfl dL_law_1316 (fun r4 S5 H locs h C => ?_)
  refine lv_istore (lv' := [(7, .int r4), (6, .int k1), (0, .ref b), (1, .ref (ad 110)), (2, .ref (ad 117)), (3, .ref ao), (4, .ref a2), (5, .int i)]) X.F.x X.F.b dL_law_1319 hl (by decide) rfl (fun ls hl => ?_)
  refine lv_aload_n X.F.x X.F.b dL_law_1321 rfl (lv_at hl 4 rfl) ?_
  refine gkI X.F C hl (kX6_thrown h) (by decide) (ce_M _) rfl wv_L_123 ⟨rfl, rfl, ⟨Nat.le_of_ble_eq_true rfl, Nat.le_of_ble_eq_true rfl⟩, ⟨by show cells + 1 + 0 + 0 ≤ 603072; omega, by show slots + 6 + 0 + 0 ≤ 7215210; omega⟩, Nat.le_of_ble_eq_true rfl⟩ (rest := []) rfl dL_law_1322 (fun r6 S7 H locs h C => ?_)
  refine lv_iload X.F.x X.F.b dL_law_1325 (lv_at hl 1 rfl) ?_
  refine lv_icmp_eq (tgt := 1332) X.F.x X.F.b dL_law_1327 (by decide) (fun h8 => ?_) (fun h8 => absurd h.1 h8)
  refine lv_iload X.F.x X.F.b dL_law_1332 (lv_at hl 1 rfl) ?_
  refine lv_if_ne (tgt := 1349) X.F.x X.F.b dL_law_1334 (by decide) (fun h9 => ?_) (fun h9 => ?_)
  · refine lv_goto (tgt := 1838) X.F.x X.F.b dL_law_1349 (by decide) ?_
    refine W.widen (k := cells + 3) (n := slots + 18) (by omega) (by omega) ?_
    exact kk _ _ _ _ _ _ h.2.2 C (lv_sub hl [2, 3, 4, 5, 6, 7] rfl)
  · refine lv_aload_n X.F.x X.F.b dL_law_1337 rfl (lv_at hl 5 rfl) ?_
    refine lv_iconst (v := 0) X.F.x X.F.b dL_law_1338 (by decide) ?_
    refine gLald X.F C dL_law_1339 ?_
    refine lv_iload X.F.x X.F.b dL_law_1340 (lv_at hl 0 rfl) ?_
    refine lv_i2l X.F.x X.F.b dL_law_1342 rfl ?_
    refine lv_lcmpE X.F.x X.F.b dL_law_1343 (h.2.1 h9) ?_
    refine lv_if_eq (tgt := 1349) X.F.x X.F.b dL_law_1344 (by decide) (fun _ => ?_) (fun h7 => absurd rfl h7)
    refine lv_goto (tgt := 1838) X.F.x X.F.b dL_law_1349 (by decide) ?_
    refine W.widen (k := cells + 3) (n := slots + 18) (by omega) (by omega) ?_
    exact kk _ _ _ _ _ _ h.2.2 C (lv_sub hl [2, 3, 4, 5, 6, 7] rfl)
def lawC22 (post : Mem → (Nat → Int64) → (Nat → UInt64) → Prop) (S : Mem) (f : Nat → Int64) (g : Nat → UInt64) (x1 x2 : Int32) : Prop := mL_errorPosition (fun (k1 : Int32) (S2 : Mem) (f3 : Nat → Int64) => mX6_errorPosition (fun (r4 : Int32) (S5 : Mem) => mX6_thrown (fun (r6 : Int32) (S7 : Mem) => r6 = k1 ∧ (k1 = 0 → f3 0 = r4.toInt64) ∧ post S7 f3 g) S5) S2) S f
set_option maxRecDepth 100000 in
theorem lawT22 {p : Program} {l : Launch} {e : Env} {s : State} {m : MethodId} {args : Array Value} {below : List Frame} {meth : Method} {c : Code} {Q : State → Prop} {D : va_G} {ky : Nat → ClassId} {ad : Nat → Nat} {ex : Nat → Nat → Nat} {b L : Nat} {xs : Nat → Int32} {ao a2 : Nat} (X : Lx p s m args meth c D ky ad ex b L xs ao a2) (hf : l.stackTraces = false) {post : Mem → (Nat → Int64) → (Nat → UInt64) → Prop} {S : Mem} {f : Nat → Int64} {g : Nat → UInt64} {i x1 x2 : Int32} (hi1 : vp_in (i + 1) L) (hi2 : vp_in (i + 2) L) (hx1 : xs (i + 1).toNatClampNeg = x1) (hx2 : xs (i + 2).toNatClampNeg = x2) (h : lawC22 post S f g x1 x2) {H : Heap} {locs : List Loc} {ls : Array Slot} {cells slots : Nat} (hc : cells + 3 ≤ 603072) (hs : slots + 18 ≤ 7215210) (C : Cg D ky ad s (fun q => s.heap.size ≤ q) S [(ao, lce ky f), (a2, dce ky g)] H locs) (hl : lv_has ls 9 [(0, .ref b), (1, .ref (ad 110)), (2, .ref (ad 117)), (3, .ref ao), (4, .ref a2), (5, .int i)]) (kk : ∀ (S : Mem) (f : Nat → Int64) (g : Nat → UInt64) (H : Heap) (locs : List Loc) (ls : Array Slot), post S f g → Cg D ky ad s (fun q => s.heap.size ≤ q) S [(ao, lce ky f), (a2, dce ky g)] H locs → lv_has ls 9 [(0, .ref b), (1, .ref (ad 110)), (2, .ref (ad 117)), (3, .ref ao), (4, .ref a2), (5, .int i)] → W p l e room_1 s m args below meth c H locs (cells + 3) (slots + 18) Q (F0 m 1838 ls [])) : W p l e room_1 s m args below meth c H locs cells slots Q (F0 m 1352 ls []) := by
  unfold lawC22 at h
  refine lv_aload_n X.F.x X.F.b dL_law_1352 rfl (lv_at hl 1 rfl) ?_
  refine lv_aload_n X.F.x X.F.b dL_law_1353 rfl (lv_at hl 3 rfl) ?_
  refine gkH X.F X.h1 X.ne C hl (kL_errorPosition hf h) wh_194 ⟨rfl, rfl, ⟨Nat.le_of_ble_eq_true rfl, Nat.le_of_ble_eq_true rfl⟩, ⟨by show cells + 1 ≤ 603072; omega, by show slots + 6 ≤ 7215210; omega⟩, Nat.le_of_ble_eq_true rfl⟩ (rest := []) rfl dL_law_1354 (fun k1 S2 f3 H locs h C => ?_)
  refine lv_istore (lv' := [(6, .int k1), (0, .ref b), (1, .ref (ad 110)), (2, .ref (ad 117)), (3, .ref ao), (4, .ref a2), (5, .int i)]) X.F.x X.F.b dL_law_1357 hl (by decide) rfl (fun ls hl => ?_)
  refine lv_aload_n X.F.x X.F.b dL_law_1359 rfl (lv_at hl 3 rfl) ?_
  refine gkI X.F C hl (kX6_errorPosition h) (by decide) (ce_M _) rfl wv_L_196 ⟨rfl, rfl, ⟨Nat.le_of_ble_eq_true rfl, Nat.le_of_ble_eq_true rfl⟩, ⟨by show cells + 1 + 0 ≤ 603072; omega, by show slots + 6 + 0 ≤ 7215210; omega⟩, Nat.le_of_ble_eq_true rfl⟩ (rest := []) rfl dL_law_1360 (fun r4 S5 H locs h C => ?_)
  refine lv_istore (lv' := [(7, .int r4), (6, .int k1), (0, .ref b), (1, .ref (ad 110)), (2, .ref (ad 117)), (3, .ref ao), (4, .ref a2), (5, .int i)]) X.F.x X.F.b dL_law_1363 hl (by decide) rfl (fun ls hl => ?_)
  refine lv_aload_n X.F.x X.F.b dL_law_1365 rfl (lv_at hl 4 rfl) ?_
  refine gkI X.F C hl (kX6_thrown h) (by decide) (ce_M _) rfl wv_L_123 ⟨rfl, rfl, ⟨Nat.le_of_ble_eq_true rfl, Nat.le_of_ble_eq_true rfl⟩, ⟨by show cells + 1 + 0 + 0 ≤ 603072; omega, by show slots + 6 + 0 + 0 ≤ 7215210; omega⟩, Nat.le_of_ble_eq_true rfl⟩ (rest := []) rfl dL_law_1366 (fun r6 S7 H locs h C => ?_)
  refine lv_iload X.F.x X.F.b dL_law_1369 (lv_at hl 1 rfl) ?_
  refine lv_icmp_eq (tgt := 1376) X.F.x X.F.b dL_law_1371 (by decide) (fun h8 => ?_) (fun h8 => absurd h.1 h8)
  refine lv_iload X.F.x X.F.b dL_law_1376 (lv_at hl 1 rfl) ?_
  refine lv_if_ne (tgt := 1393) X.F.x X.F.b dL_law_1378 (by decide) (fun h9 => ?_) (fun h9 => ?_)
  · refine lv_goto (tgt := 1838) X.F.x X.F.b dL_law_1393 (by decide) ?_
    refine W.widen (k := cells + 3) (n := slots + 18) (by omega) (by omega) ?_
    exact kk _ _ _ _ _ _ h.2.2 C (lv_sub hl [2, 3, 4, 5, 6, 7] rfl)
  · refine lv_aload_n X.F.x X.F.b dL_law_1381 rfl (lv_at hl 5 rfl) ?_
    refine lv_iconst (v := 0) X.F.x X.F.b dL_law_1382 (by decide) ?_
    refine gLald X.F C dL_law_1383 ?_
    refine lv_iload X.F.x X.F.b dL_law_1384 (lv_at hl 0 rfl) ?_
    refine lv_i2l X.F.x X.F.b dL_law_1386 rfl ?_
    refine lv_lcmpE X.F.x X.F.b dL_law_1387 (h.2.1 h9) ?_
    refine lv_if_eq (tgt := 1393) X.F.x X.F.b dL_law_1388 (by decide) (fun _ => ?_) (fun h7 => absurd rfl h7)
    refine lv_goto (tgt := 1838) X.F.x X.F.b dL_law_1393 (by decide) ?_
    refine W.widen (k := cells + 3) (n := slots + 18) (by omega) (by omega) ?_
    exact kk _ _ _ _ _ _ h.2.2 C (lv_sub hl [2, 3, 4, 5, 6, 7] rfl)
def lawC23 (post : Mem → (Nat → Int64) → (Nat → UInt64) → Prop) (S : Mem) (f : Nat → Int64) (g : Nat → UInt64) (x1 x2 : Int32) : Prop := (x1 = 0 → (mL_refusal (fun (k1 : Int32) (S2 : Mem) (f3 : Nat → Int64) => mX6_refusal (fun (r4 : Int32) (S5 : Mem) => mX6_thrown (fun (r6 : Int32) (S7 : Mem) => r6 = k1 ∧ (k1 = 0 → f3 0 = r4.toInt64) ∧ post S7 f3 g) S5) S2 0) S f 0)) ∧ (¬ x1 = 0 → (mL_refusal (fun (k1 : Int32) (S2 : Mem) (f3 : Nat → Int64) => mX6_refusal (fun (r4 : Int32) (S5 : Mem) => mX6_thrown (fun (r6 : Int32) (S7 : Mem) => r6 = k1 ∧ (k1 = 0 → f3 0 = r4.toInt64) ∧ post S7 f3 g) S5) S2 1) S f 1))
set_option maxRecDepth 100000 in
theorem lawT23 {p : Program} {l : Launch} {e : Env} {s : State} {m : MethodId} {args : Array Value} {below : List Frame} {meth : Method} {c : Code} {Q : State → Prop} {D : va_G} {ky : Nat → ClassId} {ad : Nat → Nat} {ex : Nat → Nat → Nat} {b L : Nat} {xs : Nat → Int32} {ao a2 : Nat} (X : Lx p s m args meth c D ky ad ex b L xs ao a2) (hf : l.stackTraces = false) {post : Mem → (Nat → Int64) → (Nat → UInt64) → Prop} {S : Mem} {f : Nat → Int64} {g : Nat → UInt64} {i x1 x2 : Int32} (hi1 : vp_in (i + 1) L) (hi2 : vp_in (i + 2) L) (hx1 : xs (i + 1).toNatClampNeg = x1) (hx2 : xs (i + 2).toNatClampNeg = x2) (h : lawC23 post S f g x1 x2) {H : Heap} {locs : List Loc} {ls : Array Slot} {cells slots : Nat} (hc : cells + 3 ≤ 603072) (hs : slots + 18 ≤ 7215210) (C : Cg D ky ad s (fun q => s.heap.size ≤ q) S [(ao, lce ky f), (a2, dce ky g)] H locs) (hl : lv_has ls 9 [(0, .ref b), (1, .ref (ad 110)), (2, .ref (ad 117)), (3, .ref ao), (4, .ref a2), (5, .int i)]) (kk : ∀ (S : Mem) (f : Nat → Int64) (g : Nat → UInt64) (H : Heap) (locs : List Loc) (ls : Array Slot), post S f g → Cg D ky ad s (fun q => s.heap.size ≤ q) S [(ao, lce ky f), (a2, dce ky g)] H locs → lv_has ls 9 [(0, .ref b), (1, .ref (ad 110)), (2, .ref (ad 117)), (3, .ref ao), (4, .ref a2), (5, .int i)] → W p l e room_1 s m args below meth c H locs (cells + 3) (slots + 18) Q (F0 m 1838 ls [])) : W p l e room_1 s m args below meth c H locs cells slots Q (F0 m 1396 ls []) := by
  unfold lawC23 at h
  refine lv_aload_n X.F.x X.F.b dL_law_1396 rfl (lv_at hl 1 rfl) ?_
  refine lv_aload_n X.F.x X.F.b dL_law_1397 rfl (lv_at hl 0 rfl) ?_
  refine lv_iload X.F.x X.F.b dL_law_1398 (lv_at hl 5 rfl) ?_
  refine lv_iconst (v := 1) X.F.x X.F.b dL_law_1400 (by decide) ?_
  refine lv_iadd X.F.x X.F.b dL_law_1401 ?_
  refine gSld X.F C X.X X.bl X.nb hi1 hx1 dL_law_1402 ?_
  refine lv_if_eq (tgt := 1410) X.F.x X.F.b dL_law_1403 (by decide) (fun h6 => ?_) (fun h6 => ?_)
  · have h := h.1 h6
    refine lv_iconst (v := 0) X.F.x X.F.b dL_law_1410 (by decide) ?_
    refine lv_aload_n X.F.x X.F.b dL_law_1411 rfl (lv_at hl 3 rfl) ?_
    refine gkH X.F X.h1 X.ne C hl (kL_refusal hf h) wh_197 ⟨rfl, rfl, ⟨Nat.le_of_ble_eq_true rfl, Nat.le_of_ble_eq_true rfl⟩, ⟨by show cells + 1 ≤ 603072; omega, by show slots + 6 ≤ 7215210; omega⟩, Nat.le_of_ble_eq_true rfl⟩ (rest := []) rfl dL_law_1412 (fun k1 S2 f3 H locs h C => ?_)
    refine lv_istore (lv' := [(6, .int k1), (0, .ref b), (1, .ref (ad 110)), (2, .ref (ad 117)), (3, .ref ao), (4, .ref a2), (5, .int i)]) X.F.x X.F.b dL_law_1415 hl (by decide) rfl (fun ls hl => ?_)
    refine lv_aload_n X.F.x X.F.b dL_law_1417 rfl (lv_at hl 3 rfl) ?_
    refine lv_aload_n X.F.x X.F.b dL_law_1418 rfl (lv_at hl 1 rfl) ?_
    refine lv_iload X.F.x X.F.b dL_law_1419 (lv_at hl 6 rfl) ?_
    refine lv_iconst (v := 1) X.F.x X.F.b dL_law_1421 (by decide) ?_
    refine lv_iadd X.F.x X.F.b dL_law_1422 ?_
    refine gSld X.F C X.X X.bl X.nb hi1 hx1 dL_law_1423 ?_
    refine lv_if_eq (tgt := 1431) X.F.x X.F.b dL_law_1424 (by decide) (fun _ => ?_) (fun h7 => absurd h6 h7)
    refine lv_iconst (v := 0) X.F.x X.F.b dL_law_1431 (by decide) ?_
    refine gkI X.F C hl (kX6_refusal h) (by decide) (ce_M _) rfl wv_L_200 ⟨rfl, rfl, ⟨Nat.le_of_ble_eq_true rfl, Nat.le_of_ble_eq_true rfl⟩, ⟨by show cells + 1 + 0 ≤ 603072; omega, by show slots + 6 + 0 ≤ 7215210; omega⟩, Nat.le_of_ble_eq_true rfl⟩ (rest := []) rfl dL_law_1432 (fun r4 S5 H locs h C => ?_)
    refine lv_istore (lv' := [(7, .int r4), (6, .int k1), (0, .ref b), (1, .ref (ad 110)), (2, .ref (ad 117)), (3, .ref ao), (4, .ref a2), (5, .int i)]) X.F.x X.F.b dL_law_1435 hl (by decide) rfl (fun ls hl => ?_)
    refine lv_aload_n X.F.x X.F.b dL_law_1437 rfl (lv_at hl 4 rfl) ?_
    refine gkI X.F C hl (kX6_thrown h) (by decide) (ce_M _) rfl wv_L_123 ⟨rfl, rfl, ⟨Nat.le_of_ble_eq_true rfl, Nat.le_of_ble_eq_true rfl⟩, ⟨by show cells + 1 + 0 + 0 ≤ 603072; omega, by show slots + 6 + 0 + 0 ≤ 7215210; omega⟩, Nat.le_of_ble_eq_true rfl⟩ (rest := []) rfl dL_law_1438 (fun r6 S7 H locs h C => ?_)
    refine lv_iload X.F.x X.F.b dL_law_1441 (lv_at hl 1 rfl) ?_
    refine lv_icmp_eq (tgt := 1448) X.F.x X.F.b dL_law_1443 (by decide) (fun h8 => ?_) (fun h8 => absurd h.1 h8)
    refine lv_iload X.F.x X.F.b dL_law_1448 (lv_at hl 1 rfl) ?_
    refine lv_if_ne (tgt := 1465) X.F.x X.F.b dL_law_1450 (by decide) (fun h9 => ?_) (fun h9 => ?_)
    · refine lv_goto (tgt := 1838) X.F.x X.F.b dL_law_1465 (by decide) ?_
      refine W.widen (k := cells + 3) (n := slots + 18) (by omega) (by omega) ?_
      exact kk _ _ _ _ _ _ h.2.2 C (lv_sub hl [2, 3, 4, 5, 6, 7] rfl)
    · refine lv_aload_n X.F.x X.F.b dL_law_1453 rfl (lv_at hl 5 rfl) ?_
      refine lv_iconst (v := 0) X.F.x X.F.b dL_law_1454 (by decide) ?_
      refine gLald X.F C dL_law_1455 ?_
      refine lv_iload X.F.x X.F.b dL_law_1456 (lv_at hl 0 rfl) ?_
      refine lv_i2l X.F.x X.F.b dL_law_1458 rfl ?_
      refine lv_lcmpE X.F.x X.F.b dL_law_1459 (h.2.1 h9) ?_
      refine lv_if_eq (tgt := 1465) X.F.x X.F.b dL_law_1460 (by decide) (fun _ => ?_) (fun h7 => absurd rfl h7)
      refine lv_goto (tgt := 1838) X.F.x X.F.b dL_law_1465 (by decide) ?_
      refine W.widen (k := cells + 3) (n := slots + 18) (by omega) (by omega) ?_
      exact kk _ _ _ _ _ _ h.2.2 C (lv_sub hl [2, 3, 4, 5, 6, 7] rfl)
  · have h := h.2 h6
    refine lv_iconst (v := 1) X.F.x X.F.b dL_law_1406 (by decide) ?_
    refine lv_goto (tgt := 1411) X.F.x X.F.b dL_law_1407 (by decide) ?_
    refine lv_aload_n X.F.x X.F.b dL_law_1411 rfl (lv_at hl 3 rfl) ?_
    refine gkH X.F X.h1 X.ne C hl (kL_refusal hf h) wh_197 ⟨rfl, rfl, ⟨Nat.le_of_ble_eq_true rfl, Nat.le_of_ble_eq_true rfl⟩, ⟨by show cells + 1 ≤ 603072; omega, by show slots + 6 ≤ 7215210; omega⟩, Nat.le_of_ble_eq_true rfl⟩ (rest := []) rfl dL_law_1412 (fun k1 S2 f3 H locs h C => ?_)
    refine lv_istore (lv' := [(6, .int k1), (0, .ref b), (1, .ref (ad 110)), (2, .ref (ad 117)), (3, .ref ao), (4, .ref a2), (5, .int i)]) X.F.x X.F.b dL_law_1415 hl (by decide) rfl (fun ls hl => ?_)
    refine lv_aload_n X.F.x X.F.b dL_law_1417 rfl (lv_at hl 3 rfl) ?_
    refine lv_aload_n X.F.x X.F.b dL_law_1418 rfl (lv_at hl 1 rfl) ?_
    refine lv_iload X.F.x X.F.b dL_law_1419 (lv_at hl 6 rfl) ?_
    refine lv_iconst (v := 1) X.F.x X.F.b dL_law_1421 (by decide) ?_
    refine lv_iadd X.F.x X.F.b dL_law_1422 ?_
    refine gSld X.F C X.X X.bl X.nb hi1 hx1 dL_law_1423 ?_
    refine lv_if_eq (tgt := 1431) X.F.x X.F.b dL_law_1424 (by decide) (fun h7 => absurd h7 h6) (fun _ => ?_)
    refine lv_iconst (v := 1) X.F.x X.F.b dL_law_1427 (by decide) ?_
    refine lv_goto (tgt := 1432) X.F.x X.F.b dL_law_1428 (by decide) ?_
    refine gkI X.F C hl (kX6_refusal h) (by decide) (ce_M _) rfl wv_L_200 ⟨rfl, rfl, ⟨Nat.le_of_ble_eq_true rfl, Nat.le_of_ble_eq_true rfl⟩, ⟨by show cells + 1 + 0 ≤ 603072; omega, by show slots + 6 + 0 ≤ 7215210; omega⟩, Nat.le_of_ble_eq_true rfl⟩ (rest := []) rfl dL_law_1432 (fun r4 S5 H locs h C => ?_)
    refine lv_istore (lv' := [(7, .int r4), (6, .int k1), (0, .ref b), (1, .ref (ad 110)), (2, .ref (ad 117)), (3, .ref ao), (4, .ref a2), (5, .int i)]) X.F.x X.F.b dL_law_1435 hl (by decide) rfl (fun ls hl => ?_)
    refine lv_aload_n X.F.x X.F.b dL_law_1437 rfl (lv_at hl 4 rfl) ?_
    refine gkI X.F C hl (kX6_thrown h) (by decide) (ce_M _) rfl wv_L_123 ⟨rfl, rfl, ⟨Nat.le_of_ble_eq_true rfl, Nat.le_of_ble_eq_true rfl⟩, ⟨by show cells + 1 + 0 + 0 ≤ 603072; omega, by show slots + 6 + 0 + 0 ≤ 7215210; omega⟩, Nat.le_of_ble_eq_true rfl⟩ (rest := []) rfl dL_law_1438 (fun r6 S7 H locs h C => ?_)
    refine lv_iload X.F.x X.F.b dL_law_1441 (lv_at hl 1 rfl) ?_
    refine lv_icmp_eq (tgt := 1448) X.F.x X.F.b dL_law_1443 (by decide) (fun h8 => ?_) (fun h8 => absurd h.1 h8)
    refine lv_iload X.F.x X.F.b dL_law_1448 (lv_at hl 1 rfl) ?_
    refine lv_if_ne (tgt := 1465) X.F.x X.F.b dL_law_1450 (by decide) (fun h9 => ?_) (fun h9 => ?_)
    · refine lv_goto (tgt := 1838) X.F.x X.F.b dL_law_1465 (by decide) ?_
      refine W.widen (k := cells + 3) (n := slots + 18) (by omega) (by omega) ?_
      exact kk _ _ _ _ _ _ h.2.2 C (lv_sub hl [2, 3, 4, 5, 6, 7] rfl)
    · refine lv_aload_n X.F.x X.F.b dL_law_1453 rfl (lv_at hl 5 rfl) ?_
      refine lv_iconst (v := 0) X.F.x X.F.b dL_law_1454 (by decide) ?_
      refine gLald X.F C dL_law_1455 ?_
      refine lv_iload X.F.x X.F.b dL_law_1456 (lv_at hl 0 rfl) ?_
      refine lv_i2l X.F.x X.F.b dL_law_1458 rfl ?_
      refine lv_lcmpE X.F.x X.F.b dL_law_1459 (h.2.1 h9) ?_
      refine lv_if_eq (tgt := 1465) X.F.x X.F.b dL_law_1460 (by decide) (fun _ => ?_) (fun h7 => absurd rfl h7)
      refine lv_goto (tgt := 1838) X.F.x X.F.b dL_law_1465 (by decide) ?_
      refine W.widen (k := cells + 3) (n := slots + 18) (by omega) (by omega) ?_
      exact kk _ _ _ _ _ _ h.2.2 C (lv_sub hl [2, 3, 4, 5, 6, 7] rfl)
def lawC24 (post : Mem → (Nat → Int64) → (Nat → UInt64) → Prop) (S : Mem) (f : Nat → Int64) (g : Nat → UInt64) (x1 x2 : Int32) : Prop := mX5_describe (fun (r1 : Int32) (S2 : Mem) => mX6_describe (fun (r3 : Int32) (S4 : Mem) => r1 = r3 ∧ post S4 f g) S2) S
set_option maxRecDepth 100000 in
theorem lawT24 {p : Program} {l : Launch} {e : Env} {s : State} {m : MethodId} {args : Array Value} {below : List Frame} {meth : Method} {c : Code} {Q : State → Prop} {D : va_G} {ky : Nat → ClassId} {ad : Nat → Nat} {ex : Nat → Nat → Nat} {b L : Nat} {xs : Nat → Int32} {ao a2 : Nat} (X : Lx p s m args meth c D ky ad ex b L xs ao a2) (hf : l.stackTraces = false) {post : Mem → (Nat → Int64) → (Nat → UInt64) → Prop} {S : Mem} {f : Nat → Int64} {g : Nat → UInt64} {i x1 x2 : Int32} (hi1 : vp_in (i + 1) L) (hi2 : vp_in (i + 2) L) (hx1 : xs (i + 1).toNatClampNeg = x1) (hx2 : xs (i + 2).toNatClampNeg = x2) (h : lawC24 post S f g x1 x2) {H : Heap} {locs : List Loc} {ls : Array Slot} {cells slots : Nat} (hc : cells + 3 ≤ 603072) (hs : slots + 18 ≤ 7215210) (C : Cg D ky ad s (fun q => s.heap.size ≤ q) S [(ao, lce ky f), (a2, dce ky g)] H locs) (hl : lv_has ls 9 [(0, .ref b), (1, .ref (ad 110)), (2, .ref (ad 117)), (3, .ref ao), (4, .ref a2), (5, .int i)]) (kk : ∀ (S : Mem) (f : Nat → Int64) (g : Nat → UInt64) (H : Heap) (locs : List Loc) (ls : Array Slot), post S f g → Cg D ky ad s (fun q => s.heap.size ≤ q) S [(ao, lce ky f), (a2, dce ky g)] H locs → lv_has ls 9 [(0, .ref b), (1, .ref (ad 110)), (2, .ref (ad 117)), (3, .ref ao), (4, .ref a2), (5, .int i)] → W p l e room_1 s m args below meth c H locs (cells + 3) (slots + 18) Q (F0 m 1838 ls [])) : W p l e room_1 s m args below meth c H locs cells slots Q (F0 m 1468 ls []) := by
  unfold lawC24 at h
  refine lv_aload_n X.F.x X.F.b dL_law_1468 rfl (lv_at hl 1 rfl) ?_
  refine gkI X.F C hl (kX5_describe h) (by decide) (ce_X _) rfl wv_L_201 ⟨rfl, rfl, ⟨Nat.le_of_ble_eq_true rfl, Nat.le_of_ble_eq_true rfl⟩, ⟨by show cells + 0 ≤ 603072; omega, by show slots + 0 ≤ 7215210; omega⟩, Nat.le_of_ble_eq_true rfl⟩ (rest := []) rfl dL_law_1469 (fun r1 S2 H locs h C => ?_)
  refine lv_aload_n X.F.x X.F.b dL_law_1472 rfl (lv_at hl 2 rfl) ?_
  refine gkI X.F C hl (kX6_describe h) (by decide) (ce_M _) rfl wv_L_204 ⟨rfl, rfl, ⟨Nat.le_of_ble_eq_true rfl, Nat.le_of_ble_eq_true rfl⟩, ⟨by show cells + 0 + 0 ≤ 603072; omega, by show slots + 0 + 0 ≤ 7215210; omega⟩, Nat.le_of_ble_eq_true rfl⟩ (rest := [.int r1]) rfl dL_law_1473 (fun r3 S4 H locs h C => ?_)
  refine lv_icmp_eq (tgt := 1838) X.F.x X.F.b dL_law_1476 (by decide) (fun h8 => ?_) (fun h8 => absurd h.1 h8)
  refine W.widen (k := cells + 3) (n := slots + 18) (by omega) (by omega) ?_
  exact kk _ _ _ _ _ _ h.2 C (lv_sub hl [0, 1, 2, 3, 4, 5] rfl)
def lawC25 (post : Mem → (Nat → Int64) → (Nat → UInt64) → Prop) (S : Mem) (f : Nat → Int64) (g : Nat → UInt64) (x1 x2 : Int32) : Prop := mL_written (fun (k1 : Int32) (S2 : Mem) (f3 : Nat → Int64) => mX6_written (fun (r4 : Int32) (S5 : Mem) => mX6_thrown (fun (r6 : Int32) (S7 : Mem) => r6 = k1 ∧ (k1 = 0 → f3 0 = r4.toInt64) ∧ post S7 f3 g) S5) S2 x1) S f x1
set_option maxRecDepth 100000 in
theorem lawT25 {p : Program} {l : Launch} {e : Env} {s : State} {m : MethodId} {args : Array Value} {below : List Frame} {meth : Method} {c : Code} {Q : State → Prop} {D : va_G} {ky : Nat → ClassId} {ad : Nat → Nat} {ex : Nat → Nat → Nat} {b L : Nat} {xs : Nat → Int32} {ao a2 : Nat} (X : Lx p s m args meth c D ky ad ex b L xs ao a2) (hf : l.stackTraces = false) {post : Mem → (Nat → Int64) → (Nat → UInt64) → Prop} {S : Mem} {f : Nat → Int64} {g : Nat → UInt64} {i x1 x2 : Int32} (hi1 : vp_in (i + 1) L) (hi2 : vp_in (i + 2) L) (hx1 : xs (i + 1).toNatClampNeg = x1) (hx2 : xs (i + 2).toNatClampNeg = x2) (h : lawC25 post S f g x1 x2) {H : Heap} {locs : List Loc} {ls : Array Slot} {cells slots : Nat} (hc : cells + 3 ≤ 603072) (hs : slots + 18 ≤ 7215210) (C : Cg D ky ad s (fun q => s.heap.size ≤ q) S [(ao, lce ky f), (a2, dce ky g)] H locs) (hl : lv_has ls 9 [(0, .ref b), (1, .ref (ad 110)), (2, .ref (ad 117)), (3, .ref ao), (4, .ref a2), (5, .int i)]) (kk : ∀ (S : Mem) (f : Nat → Int64) (g : Nat → UInt64) (H : Heap) (locs : List Loc) (ls : Array Slot), post S f g → Cg D ky ad s (fun q => s.heap.size ≤ q) S [(ao, lce ky f), (a2, dce ky g)] H locs → lv_has ls 9 [(0, .ref b), (1, .ref (ad 110)), (2, .ref (ad 117)), (3, .ref ao), (4, .ref a2), (5, .int i)] → W p l e room_1 s m args below meth c H locs (cells + 3) (slots + 18) Q (F0 m 1838 ls [])) : W p l e room_1 s m args below meth c H locs cells slots Q (F0 m 1481 ls []) := by
  unfold lawC25 at h
  refine lv_aload_n X.F.x X.F.b dL_law_1481 rfl (lv_at hl 1 rfl) ?_
  refine lv_aload_n X.F.x X.F.b dL_law_1482 rfl (lv_at hl 0 rfl) ?_
  refine lv_iload X.F.x X.F.b dL_law_1483 (lv_at hl 5 rfl) ?_
  refine lv_iconst (v := 1) X.F.x X.F.b dL_law_1485 (by decide) ?_
  refine lv_iadd X.F.x X.F.b dL_law_1486 ?_
  refine gSld X.F C X.X X.bl X.nb hi1 hx1 dL_law_1487 ?_
  refine lv_aload_n X.F.x X.F.b dL_law_1488 rfl (lv_at hl 3 rfl) ?_
  refine gkH X.F X.h1 X.ne C hl (kL_written hf h) wh_205 ⟨rfl, rfl, ⟨Nat.le_of_ble_eq_true rfl, Nat.le_of_ble_eq_true rfl⟩, ⟨by show cells + 1 ≤ 603072; omega, by show slots + 6 ≤ 7215210; omega⟩, Nat.le_of_ble_eq_true rfl⟩ (rest := []) rfl dL_law_1489 (fun k1 S2 f3 H locs h C => ?_)
  refine lv_istore (lv' := [(6, .int k1), (0, .ref b), (1, .ref (ad 110)), (2, .ref (ad 117)), (3, .ref ao), (4, .ref a2), (5, .int i)]) X.F.x X.F.b dL_law_1492 hl (by decide) rfl (fun ls hl => ?_)
  refine lv_aload_n X.F.x X.F.b dL_law_1494 rfl (lv_at hl 3 rfl) ?_
  refine lv_aload_n X.F.x X.F.b dL_law_1495 rfl (lv_at hl 1 rfl) ?_
  refine lv_iload X.F.x X.F.b dL_law_1496 (lv_at hl 6 rfl) ?_
  refine lv_iconst (v := 1) X.F.x X.F.b dL_law_1498 (by decide) ?_
  refine lv_iadd X.F.x X.F.b dL_law_1499 ?_
  refine gSld X.F C X.X X.bl X.nb hi1 hx1 dL_law_1500 ?_
  refine gkI X.F C hl (kX6_written h) (by decide) (ce_M _) rfl wv_L_207 ⟨rfl, rfl, ⟨Nat.le_of_ble_eq_true rfl, Nat.le_of_ble_eq_true rfl⟩, ⟨by show cells + 1 + 0 ≤ 603072; omega, by show slots + 6 + 0 ≤ 7215210; omega⟩, Nat.le_of_ble_eq_true rfl⟩ (rest := []) rfl dL_law_1501 (fun r4 S5 H locs h C => ?_)
  refine lv_istore (lv' := [(7, .int r4), (6, .int k1), (0, .ref b), (1, .ref (ad 110)), (2, .ref (ad 117)), (3, .ref ao), (4, .ref a2), (5, .int i)]) X.F.x X.F.b dL_law_1504 hl (by decide) rfl (fun ls hl => ?_)
  refine lv_aload_n X.F.x X.F.b dL_law_1506 rfl (lv_at hl 4 rfl) ?_
  refine gkI X.F C hl (kX6_thrown h) (by decide) (ce_M _) rfl wv_L_123 ⟨rfl, rfl, ⟨Nat.le_of_ble_eq_true rfl, Nat.le_of_ble_eq_true rfl⟩, ⟨by show cells + 1 + 0 + 0 ≤ 603072; omega, by show slots + 6 + 0 + 0 ≤ 7215210; omega⟩, Nat.le_of_ble_eq_true rfl⟩ (rest := []) rfl dL_law_1507 (fun r6 S7 H locs h C => ?_)
  refine lv_iload X.F.x X.F.b dL_law_1510 (lv_at hl 1 rfl) ?_
  refine lv_icmp_eq (tgt := 1517) X.F.x X.F.b dL_law_1512 (by decide) (fun h8 => ?_) (fun h8 => absurd h.1 h8)
  refine lv_iload X.F.x X.F.b dL_law_1517 (lv_at hl 1 rfl) ?_
  refine lv_if_ne (tgt := 1534) X.F.x X.F.b dL_law_1519 (by decide) (fun h9 => ?_) (fun h9 => ?_)
  · refine lv_goto (tgt := 1838) X.F.x X.F.b dL_law_1534 (by decide) ?_
    refine W.widen (k := cells + 3) (n := slots + 18) (by omega) (by omega) ?_
    exact kk _ _ _ _ _ _ h.2.2 C (lv_sub hl [2, 3, 4, 5, 6, 7] rfl)
  · refine lv_aload_n X.F.x X.F.b dL_law_1522 rfl (lv_at hl 5 rfl) ?_
    refine lv_iconst (v := 0) X.F.x X.F.b dL_law_1523 (by decide) ?_
    refine gLald X.F C dL_law_1524 ?_
    refine lv_iload X.F.x X.F.b dL_law_1525 (lv_at hl 0 rfl) ?_
    refine lv_i2l X.F.x X.F.b dL_law_1527 rfl ?_
    refine lv_lcmpE X.F.x X.F.b dL_law_1528 (h.2.1 h9) ?_
    refine lv_if_eq (tgt := 1534) X.F.x X.F.b dL_law_1529 (by decide) (fun _ => ?_) (fun h7 => absurd rfl h7)
    refine lv_goto (tgt := 1838) X.F.x X.F.b dL_law_1534 (by decide) ?_
    refine W.widen (k := cells + 3) (n := slots + 18) (by omega) (by omega) ?_
    exact kk _ _ _ _ _ _ h.2.2 C (lv_sub hl [2, 3, 4, 5, 6, 7] rfl)
def lawC26 (post : Mem → (Nat → Int64) → (Nat → UInt64) → Prop) (S : Mem) (f : Nat → Int64) (g : Nat → UInt64) (x1 x2 : Int32) : Prop := mL_account (fun (k1 : Int32) (S2 : Mem) (f3 : Nat → Int64) => mX6_account (fun (r4 : Int32) (S5 : Mem) => mX6_thrown (fun (r6 : Int32) (S7 : Mem) => r6 = k1 ∧ (k1 = 0 → f3 0 = r4.toInt64) ∧ post S7 f3 g) S5) S2 x1) S f x1
set_option maxRecDepth 100000 in
theorem lawT26 {p : Program} {l : Launch} {e : Env} {s : State} {m : MethodId} {args : Array Value} {below : List Frame} {meth : Method} {c : Code} {Q : State → Prop} {D : va_G} {ky : Nat → ClassId} {ad : Nat → Nat} {ex : Nat → Nat → Nat} {b L : Nat} {xs : Nat → Int32} {ao a2 : Nat} (X : Lx p s m args meth c D ky ad ex b L xs ao a2) (hf : l.stackTraces = false) {post : Mem → (Nat → Int64) → (Nat → UInt64) → Prop} {S : Mem} {f : Nat → Int64} {g : Nat → UInt64} {i x1 x2 : Int32} (hi1 : vp_in (i + 1) L) (hi2 : vp_in (i + 2) L) (hx1 : xs (i + 1).toNatClampNeg = x1) (hx2 : xs (i + 2).toNatClampNeg = x2) (h : lawC26 post S f g x1 x2) {H : Heap} {locs : List Loc} {ls : Array Slot} {cells slots : Nat} (hc : cells + 3 ≤ 603072) (hs : slots + 18 ≤ 7215210) (C : Cg D ky ad s (fun q => s.heap.size ≤ q) S [(ao, lce ky f), (a2, dce ky g)] H locs) (hl : lv_has ls 9 [(0, .ref b), (1, .ref (ad 110)), (2, .ref (ad 117)), (3, .ref ao), (4, .ref a2), (5, .int i)]) (kk : ∀ (S : Mem) (f : Nat → Int64) (g : Nat → UInt64) (H : Heap) (locs : List Loc) (ls : Array Slot), post S f g → Cg D ky ad s (fun q => s.heap.size ≤ q) S [(ao, lce ky f), (a2, dce ky g)] H locs → lv_has ls 9 [(0, .ref b), (1, .ref (ad 110)), (2, .ref (ad 117)), (3, .ref ao), (4, .ref a2), (5, .int i)] → W p l e room_1 s m args below meth c H locs (cells + 3) (slots + 18) Q (F0 m 1838 ls [])) : W p l e room_1 s m args below meth c H locs cells slots Q (F0 m 1537 ls []) := by
  unfold lawC26 at h
  refine lv_aload_n X.F.x X.F.b dL_law_1537 rfl (lv_at hl 1 rfl) ?_
  refine lv_aload_n X.F.x X.F.b dL_law_1538 rfl (lv_at hl 0 rfl) ?_
  refine lv_iload X.F.x X.F.b dL_law_1539 (lv_at hl 5 rfl) ?_
  refine lv_iconst (v := 1) X.F.x X.F.b dL_law_1541 (by decide) ?_
  refine lv_iadd X.F.x X.F.b dL_law_1542 ?_
  refine gSld X.F C X.X X.bl X.nb hi1 hx1 dL_law_1543 ?_
  refine lv_aload_n X.F.x X.F.b dL_law_1544 rfl (lv_at hl 3 rfl) ?_
  refine gkH X.F X.h1 X.ne C hl (kL_account hf h) wh_208 ⟨rfl, rfl, ⟨Nat.le_of_ble_eq_true rfl, Nat.le_of_ble_eq_true rfl⟩, ⟨by show cells + 1 ≤ 603072; omega, by show slots + 6 ≤ 7215210; omega⟩, Nat.le_of_ble_eq_true rfl⟩ (rest := []) rfl dL_law_1545 (fun k1 S2 f3 H locs h C => ?_)
  refine lv_istore (lv' := [(6, .int k1), (0, .ref b), (1, .ref (ad 110)), (2, .ref (ad 117)), (3, .ref ao), (4, .ref a2), (5, .int i)]) X.F.x X.F.b dL_law_1548 hl (by decide) rfl (fun ls hl => ?_)
  refine lv_aload_n X.F.x X.F.b dL_law_1550 rfl (lv_at hl 3 rfl) ?_
  refine lv_aload_n X.F.x X.F.b dL_law_1551 rfl (lv_at hl 1 rfl) ?_
  refine lv_iload X.F.x X.F.b dL_law_1552 (lv_at hl 6 rfl) ?_
  refine lv_iconst (v := 1) X.F.x X.F.b dL_law_1554 (by decide) ?_
  refine lv_iadd X.F.x X.F.b dL_law_1555 ?_
  refine gSld X.F C X.X X.bl X.nb hi1 hx1 dL_law_1556 ?_
  refine gkI X.F C hl (kX6_account h) (by decide) (ce_M _) rfl wv_L_210 ⟨rfl, rfl, ⟨Nat.le_of_ble_eq_true rfl, Nat.le_of_ble_eq_true rfl⟩, ⟨by show cells + 1 + 0 ≤ 603072; omega, by show slots + 6 + 0 ≤ 7215210; omega⟩, Nat.le_of_ble_eq_true rfl⟩ (rest := []) rfl dL_law_1557 (fun r4 S5 H locs h C => ?_)
  refine lv_istore (lv' := [(7, .int r4), (6, .int k1), (0, .ref b), (1, .ref (ad 110)), (2, .ref (ad 117)), (3, .ref ao), (4, .ref a2), (5, .int i)]) X.F.x X.F.b dL_law_1560 hl (by decide) rfl (fun ls hl => ?_)
  refine lv_aload_n X.F.x X.F.b dL_law_1562 rfl (lv_at hl 4 rfl) ?_
  refine gkI X.F C hl (kX6_thrown h) (by decide) (ce_M _) rfl wv_L_123 ⟨rfl, rfl, ⟨Nat.le_of_ble_eq_true rfl, Nat.le_of_ble_eq_true rfl⟩, ⟨by show cells + 1 + 0 + 0 ≤ 603072; omega, by show slots + 6 + 0 + 0 ≤ 7215210; omega⟩, Nat.le_of_ble_eq_true rfl⟩ (rest := []) rfl dL_law_1563 (fun r6 S7 H locs h C => ?_)
  refine lv_iload X.F.x X.F.b dL_law_1566 (lv_at hl 1 rfl) ?_
  refine lv_icmp_eq (tgt := 1573) X.F.x X.F.b dL_law_1568 (by decide) (fun h8 => ?_) (fun h8 => absurd h.1 h8)
  refine lv_iload X.F.x X.F.b dL_law_1573 (lv_at hl 1 rfl) ?_
  refine lv_if_ne (tgt := 1590) X.F.x X.F.b dL_law_1575 (by decide) (fun h9 => ?_) (fun h9 => ?_)
  · refine lv_goto (tgt := 1838) X.F.x X.F.b dL_law_1590 (by decide) ?_
    refine W.widen (k := cells + 3) (n := slots + 18) (by omega) (by omega) ?_
    exact kk _ _ _ _ _ _ h.2.2 C (lv_sub hl [2, 3, 4, 5, 6, 7] rfl)
  · refine lv_aload_n X.F.x X.F.b dL_law_1578 rfl (lv_at hl 5 rfl) ?_
    refine lv_iconst (v := 0) X.F.x X.F.b dL_law_1579 (by decide) ?_
    refine gLald X.F C dL_law_1580 ?_
    refine lv_iload X.F.x X.F.b dL_law_1581 (lv_at hl 0 rfl) ?_
    refine lv_i2l X.F.x X.F.b dL_law_1583 rfl ?_
    refine lv_lcmpE X.F.x X.F.b dL_law_1584 (h.2.1 h9) ?_
    refine lv_if_eq (tgt := 1590) X.F.x X.F.b dL_law_1585 (by decide) (fun _ => ?_) (fun h7 => absurd rfl h7)
    refine lv_goto (tgt := 1838) X.F.x X.F.b dL_law_1590 (by decide) ?_
    refine W.widen (k := cells + 3) (n := slots + 18) (by omega) (by omega) ?_
    exact kk _ _ _ _ _ _ h.2.2 C (lv_sub hl [2, 3, 4, 5, 6, 7] rfl)
def lawC27 (post : Mem → (Nat → Int64) → (Nat → UInt64) → Prop) (S : Mem) (f : Nat → Int64) (g : Nat → UInt64) (x1 x2 : Int32) : Prop := mX5_lettersAgain (fun (r1 : Int32) (S2 : Mem) => mX6_lettersAgain (fun (r3 : Int32) (S4 : Mem) => r1 = r3 ∧ post S4 f g) S2) S
set_option maxRecDepth 100000 in
theorem lawT27 {p : Program} {l : Launch} {e : Env} {s : State} {m : MethodId} {args : Array Value} {below : List Frame} {meth : Method} {c : Code} {Q : State → Prop} {D : va_G} {ky : Nat → ClassId} {ad : Nat → Nat} {ex : Nat → Nat → Nat} {b L : Nat} {xs : Nat → Int32} {ao a2 : Nat} (X : Lx p s m args meth c D ky ad ex b L xs ao a2) (hf : l.stackTraces = false) {post : Mem → (Nat → Int64) → (Nat → UInt64) → Prop} {S : Mem} {f : Nat → Int64} {g : Nat → UInt64} {i x1 x2 : Int32} (hi1 : vp_in (i + 1) L) (hi2 : vp_in (i + 2) L) (hx1 : xs (i + 1).toNatClampNeg = x1) (hx2 : xs (i + 2).toNatClampNeg = x2) (h : lawC27 post S f g x1 x2) {H : Heap} {locs : List Loc} {ls : Array Slot} {cells slots : Nat} (hc : cells + 3 ≤ 603072) (hs : slots + 18 ≤ 7215210) (C : Cg D ky ad s (fun q => s.heap.size ≤ q) S [(ao, lce ky f), (a2, dce ky g)] H locs) (hl : lv_has ls 9 [(0, .ref b), (1, .ref (ad 110)), (2, .ref (ad 117)), (3, .ref ao), (4, .ref a2), (5, .int i)]) (kk : ∀ (S : Mem) (f : Nat → Int64) (g : Nat → UInt64) (H : Heap) (locs : List Loc) (ls : Array Slot), post S f g → Cg D ky ad s (fun q => s.heap.size ≤ q) S [(ao, lce ky f), (a2, dce ky g)] H locs → lv_has ls 9 [(0, .ref b), (1, .ref (ad 110)), (2, .ref (ad 117)), (3, .ref ao), (4, .ref a2), (5, .int i)] → W p l e room_1 s m args below meth c H locs (cells + 3) (slots + 18) Q (F0 m 1838 ls [])) : W p l e room_1 s m args below meth c H locs cells slots Q (F0 m 1593 ls []) := by
  unfold lawC27 at h
  refine lv_aload_n X.F.x X.F.b dL_law_1593 rfl (lv_at hl 1 rfl) ?_
  refine gkI X.F C hl (kX5_lettersAgain h) (by decide) (ce_X _) rfl wv_L_211 ⟨rfl, rfl, ⟨Nat.le_of_ble_eq_true rfl, Nat.le_of_ble_eq_true rfl⟩, ⟨by show cells + 0 ≤ 603072; omega, by show slots + 0 ≤ 7215210; omega⟩, Nat.le_of_ble_eq_true rfl⟩ (rest := []) rfl dL_law_1594 (fun r1 S2 H locs h C => ?_)
  refine lv_aload_n X.F.x X.F.b dL_law_1597 rfl (lv_at hl 2 rfl) ?_
  refine gkI X.F C hl (kX6_lettersAgain h) (by decide) (ce_M _) rfl wv_L_214 ⟨rfl, rfl, ⟨Nat.le_of_ble_eq_true rfl, Nat.le_of_ble_eq_true rfl⟩, ⟨by show cells + 0 + 0 ≤ 603072; omega, by show slots + 0 + 0 ≤ 7215210; omega⟩, Nat.le_of_ble_eq_true rfl⟩ (rest := [.int r1]) rfl dL_law_1598 (fun r3 S4 H locs h C => ?_)
  refine lv_icmp_eq (tgt := 1838) X.F.x X.F.b dL_law_1601 (by decide) (fun h8 => ?_) (fun h8 => absurd h.1 h8)
  refine W.widen (k := cells + 3) (n := slots + 18) (by omega) (by omega) ?_
  exact kk _ _ _ _ _ _ h.2 C (lv_sub hl [0, 1, 2, 3, 4, 5] rfl)
def lawC28 (post : Mem → (Nat → Int64) → (Nat → UInt64) → Prop) (S : Mem) (f : Nat → Int64) (g : Nat → UInt64) (x1 x2 : Int32) : Prop := mL_meanWet (fun (k1 : Int32) (S2 : Mem) (f3 : Nat → UInt64) => mX6_meanWet (fun (r4 : UInt64) (S5 : Mem) => mX6_thrown (fun (r6 : Int32) (S7 : Mem) => r6 = k1 ∧ (k1 = 0 → Op.cmpValue (FP.dcmp (f3 0) r4) .l = 0) ∧ post S7 f f3) S5) S2) S g
set_option maxRecDepth 100000 in
theorem lawT28 {p : Program} {l : Launch} {e : Env} {s : State} {m : MethodId} {args : Array Value} {below : List Frame} {meth : Method} {c : Code} {Q : State → Prop} {D : va_G} {ky : Nat → ClassId} {ad : Nat → Nat} {ex : Nat → Nat → Nat} {b L : Nat} {xs : Nat → Int32} {ao a2 : Nat} (X : Lx p s m args meth c D ky ad ex b L xs ao a2) (hf : l.stackTraces = false) {post : Mem → (Nat → Int64) → (Nat → UInt64) → Prop} {S : Mem} {f : Nat → Int64} {g : Nat → UInt64} {i x1 x2 : Int32} (hi1 : vp_in (i + 1) L) (hi2 : vp_in (i + 2) L) (hx1 : xs (i + 1).toNatClampNeg = x1) (hx2 : xs (i + 2).toNatClampNeg = x2) (h : lawC28 post S f g x1 x2) {H : Heap} {locs : List Loc} {ls : Array Slot} {cells slots : Nat} (hc : cells + 3 ≤ 603072) (hs : slots + 18 ≤ 7215210) (C : Cg D ky ad s (fun q => s.heap.size ≤ q) S [(ao, lce ky f), (a2, dce ky g)] H locs) (hl : lv_has ls 9 [(0, .ref b), (1, .ref (ad 110)), (2, .ref (ad 117)), (3, .ref ao), (4, .ref a2), (5, .int i)]) (kk : ∀ (S : Mem) (f : Nat → Int64) (g : Nat → UInt64) (H : Heap) (locs : List Loc) (ls : Array Slot), post S f g → Cg D ky ad s (fun q => s.heap.size ≤ q) S [(ao, lce ky f), (a2, dce ky g)] H locs → lv_has ls 9 [(0, .ref b), (1, .ref (ad 110)), (2, .ref (ad 117)), (3, .ref ao), (4, .ref a2), (5, .int i)] → W p l e room_1 s m args below meth c H locs (cells + 3) (slots + 18) Q (F0 m 1838 ls [])) : W p l e room_1 s m args below meth c H locs cells slots Q (F0 m 1606 ls []) := by
  unfold lawC28 at h
  refine lv_aload_n X.F.x X.F.b dL_law_1606 rfl (lv_at hl 1 rfl) ?_
  refine lv_aload X.F.x X.F.b dL_law_1607 (lv_at hl 4 rfl) ?_
  have C := C.swap
  refine gkH X.F X.h2 X.ne.symm C hl (kL_meanWet hf h) wh_215 ⟨rfl, rfl, ⟨Nat.le_of_ble_eq_true rfl, Nat.le_of_ble_eq_true rfl⟩, ⟨by show cells + 1 ≤ 603072; omega, by show slots + 6 ≤ 7215210; omega⟩, Nat.le_of_ble_eq_true rfl⟩ (rest := []) rfl dL_law_1609 (fun k1 S2 f3 H locs h C => ?_)
  have C := C.swap
  refine lv_istore (lv' := [(6, .int k1), (0, .ref b), (1, .ref (ad 110)), (2, .ref (ad 117)), (3, .ref ao), (4, .ref a2), (5, .int i)]) X.F.x X.F.b dL_law_1612 hl (by decide) rfl (fun ls hl => ?_)
  refine lv_aload_n X.F.x X.F.b dL_law_1614 rfl (lv_at hl 3 rfl) ?_
  refine gkD X.F C hl (kX6_meanWet h) (by decide) (ce_M _) rfl wv_L_218 ⟨rfl, rfl, ⟨Nat.le_of_ble_eq_true rfl, Nat.le_of_ble_eq_true rfl⟩, ⟨by show cells + 1 + 0 ≤ 603072; omega, by show slots + 6 + 0 ≤ 7215210; omega⟩, Nat.le_of_ble_eq_true rfl⟩ (rest := []) rfl dL_law_1615 (fun r4 S5 H locs h C => ?_)
  refine lv_dstore (lv' := [(7, .double r4), (6, .int k1), (0, .ref b), (1, .ref (ad 110)), (2, .ref (ad 117)), (3, .ref ao), (4, .ref a2), (5, .int i)]) X.F.x X.F.b dL_law_1618 hl (by decide) rfl (fun ls hl => ?_)
  refine lv_aload_n X.F.x X.F.b dL_law_1620 rfl (lv_at hl 4 rfl) ?_
  refine gkI X.F C hl (kX6_thrown h) (by decide) (ce_M _) rfl wv_L_123 ⟨rfl, rfl, ⟨Nat.le_of_ble_eq_true rfl, Nat.le_of_ble_eq_true rfl⟩, ⟨by show cells + 1 + 0 + 0 ≤ 603072; omega, by show slots + 6 + 0 + 0 ≤ 7215210; omega⟩, Nat.le_of_ble_eq_true rfl⟩ (rest := []) rfl dL_law_1621 (fun r6 S7 H locs h C => ?_)
  refine lv_iload X.F.x X.F.b dL_law_1624 (lv_at hl 1 rfl) ?_
  refine lv_icmp_eq (tgt := 1631) X.F.x X.F.b dL_law_1626 (by decide) (fun h8 => ?_) (fun h8 => absurd h.1 h8)
  refine lv_iload X.F.x X.F.b dL_law_1631 (lv_at hl 1 rfl) ?_
  refine lv_if_ne (tgt := 1668) X.F.x X.F.b dL_law_1633 (by decide) (fun h9 => ?_) (fun h9 => ?_)
  · refine lv_goto (tgt := 1838) X.F.x X.F.b dL_law_1668 (by decide) ?_
    refine W.widen (k := cells + 3) (n := slots + 18) (by omega) (by omega) ?_
    exact kk _ _ _ _ _ _ h.2.2 C (lv_sub hl [2, 3, 4, 5, 6, 7] rfl)
  · refine lv_aload X.F.x X.F.b dL_law_1636 (lv_at hl 6 rfl) ?_
    refine lv_iconst (v := 0) X.F.x X.F.b dL_law_1638 (by decide) ?_
    refine gDald X.F C dL_law_1639 ?_
    refine lv_dload X.F.x X.F.b dL_law_1640 (lv_at hl 0 rfl) ?_
    refine lv_dcmp X.F.x X.F.b dL_law_1642 ?_
    refine lv_if_eq (tgt := 1668) X.F.x X.F.b dL_law_1643 (by decide) (fun _ => ?_) (fun h7 => absurd (h.2.1 h9) h7)
    refine lv_goto (tgt := 1838) X.F.x X.F.b dL_law_1668 (by decide) ?_
    refine W.widen (k := cells + 3) (n := slots + 18) (by omega) (by omega) ?_
    exact kk _ _ _ _ _ _ h.2.2 C (lv_sub hl [2, 3, 4, 5, 6, 7] rfl)
def lawC29 (post : Mem → (Nat → Int64) → (Nat → UInt64) → Prop) (S : Mem) (f : Nat → Int64) (g : Nat → UInt64) (x1 x2 : Int32) : Prop := mL_crossingShare (fun (k1 : Int32) (S2 : Mem) (f3 : Nat → UInt64) => mX6_crossingShare (fun (r4 : UInt32) (S5 : Mem) => mX6_thrown (fun (r6 : Int32) (S7 : Mem) => r6 = k1 ∧ (k1 = 0 → vf_n64 (FP.f2d r4) ∧ Op.cmpValue (FP.dcmp (f3 0) (FP.f2d r4)) .l = 0) ∧ post S7 f f3) S5) S2) S g
set_option maxRecDepth 100000 in
theorem lawT29 {p : Program} {l : Launch} {e : Env} {s : State} {m : MethodId} {args : Array Value} {below : List Frame} {meth : Method} {c : Code} {Q : State → Prop} {D : va_G} {ky : Nat → ClassId} {ad : Nat → Nat} {ex : Nat → Nat → Nat} {b L : Nat} {xs : Nat → Int32} {ao a2 : Nat} (X : Lx p s m args meth c D ky ad ex b L xs ao a2) (hf : l.stackTraces = false) {post : Mem → (Nat → Int64) → (Nat → UInt64) → Prop} {S : Mem} {f : Nat → Int64} {g : Nat → UInt64} {i x1 x2 : Int32} (hi1 : vp_in (i + 1) L) (hi2 : vp_in (i + 2) L) (hx1 : xs (i + 1).toNatClampNeg = x1) (hx2 : xs (i + 2).toNatClampNeg = x2) (h : lawC29 post S f g x1 x2) {H : Heap} {locs : List Loc} {ls : Array Slot} {cells slots : Nat} (hc : cells + 3 ≤ 603072) (hs : slots + 18 ≤ 7215210) (C : Cg D ky ad s (fun q => s.heap.size ≤ q) S [(ao, lce ky f), (a2, dce ky g)] H locs) (hl : lv_has ls 9 [(0, .ref b), (1, .ref (ad 110)), (2, .ref (ad 117)), (3, .ref ao), (4, .ref a2), (5, .int i)]) (kk : ∀ (S : Mem) (f : Nat → Int64) (g : Nat → UInt64) (H : Heap) (locs : List Loc) (ls : Array Slot), post S f g → Cg D ky ad s (fun q => s.heap.size ≤ q) S [(ao, lce ky f), (a2, dce ky g)] H locs → lv_has ls 9 [(0, .ref b), (1, .ref (ad 110)), (2, .ref (ad 117)), (3, .ref ao), (4, .ref a2), (5, .int i)] → W p l e room_1 s m args below meth c H locs (cells + 3) (slots + 18) Q (F0 m 1838 ls [])) : W p l e room_1 s m args below meth c H locs cells slots Q (F0 m 1671 ls []) := by
  unfold lawC29 at h
  refine lv_aload_n X.F.x X.F.b dL_law_1671 rfl (lv_at hl 1 rfl) ?_
  refine lv_aload X.F.x X.F.b dL_law_1672 (lv_at hl 4 rfl) ?_
  have C := C.swap
  refine gkH X.F X.h2 X.ne.symm C hl (kL_crossingShare hf h) wh_219 ⟨rfl, rfl, ⟨Nat.le_of_ble_eq_true rfl, Nat.le_of_ble_eq_true rfl⟩, ⟨by show cells + 1 ≤ 603072; omega, by show slots + 6 ≤ 7215210; omega⟩, Nat.le_of_ble_eq_true rfl⟩ (rest := []) rfl dL_law_1674 (fun k1 S2 f3 H locs h C => ?_)
  have C := C.swap
  refine lv_istore (lv' := [(6, .int k1), (0, .ref b), (1, .ref (ad 110)), (2, .ref (ad 117)), (3, .ref ao), (4, .ref a2), (5, .int i)]) X.F.x X.F.b dL_law_1677 hl (by decide) rfl (fun ls hl => ?_)
  refine lv_aload_n X.F.x X.F.b dL_law_1679 rfl (lv_at hl 3 rfl) ?_
  refine gkF X.F C hl (kX6_crossingShare h) (by decide) (ce_M _) rfl wv_L_221 ⟨rfl, rfl, ⟨Nat.le_of_ble_eq_true rfl, Nat.le_of_ble_eq_true rfl⟩, ⟨by show cells + 1 + 0 ≤ 603072; omega, by show slots + 6 + 0 ≤ 7215210; omega⟩, Nat.le_of_ble_eq_true rfl⟩ (rest := []) rfl dL_law_1680 (fun r4 S5 H locs h C => ?_)
  refine lv_fstore (lv' := [(7, .float r4), (6, .int k1), (0, .ref b), (1, .ref (ad 110)), (2, .ref (ad 117)), (3, .ref ao), (4, .ref a2), (5, .int i)]) X.F.x X.F.b dL_law_1683 hl (by decide) rfl (fun ls hl => ?_)
  refine lv_aload_n X.F.x X.F.b dL_law_1685 rfl (lv_at hl 4 rfl) ?_
  refine gkI X.F C hl (kX6_thrown h) (by decide) (ce_M _) rfl wv_L_123 ⟨rfl, rfl, ⟨Nat.le_of_ble_eq_true rfl, Nat.le_of_ble_eq_true rfl⟩, ⟨by show cells + 1 + 0 + 0 ≤ 603072; omega, by show slots + 6 + 0 + 0 ≤ 7215210; omega⟩, Nat.le_of_ble_eq_true rfl⟩ (rest := []) rfl dL_law_1686 (fun r6 S7 H locs h C => ?_)
  refine lv_iload X.F.x X.F.b dL_law_1689 (lv_at hl 1 rfl) ?_
  refine lv_icmp_eq (tgt := 1696) X.F.x X.F.b dL_law_1691 (by decide) (fun h8 => ?_) (fun h8 => absurd h.1 h8)
  refine lv_iload X.F.x X.F.b dL_law_1696 (lv_at hl 1 rfl) ?_
  refine lv_if_ne (tgt := 1734) X.F.x X.F.b dL_law_1698 (by decide) (fun h9 => ?_) (fun h9 => ?_)
  · refine lv_goto (tgt := 1838) X.F.x X.F.b dL_law_1734 (by decide) ?_
    refine W.widen (k := cells + 3) (n := slots + 18) (by omega) (by omega) ?_
    exact kk _ _ _ _ _ _ h.2.2 C (lv_sub hl [2, 3, 4, 5, 6, 7] rfl)
  · refine lv_aload X.F.x X.F.b dL_law_1701 (lv_at hl 6 rfl) ?_
    refine lv_iconst (v := 0) X.F.x X.F.b dL_law_1703 (by decide) ?_
    refine gDald X.F C dL_law_1704 ?_
    refine lv_fload X.F.x X.F.b dL_law_1705 (lv_at hl 0 rfl) ?_
    refine lv_f2d X.F.x X.F.b dL_law_1707 (h.2.1 h9).1 ?_
    refine lv_dcmp X.F.x X.F.b dL_law_1708 ?_
    refine lv_if_eq (tgt := 1734) X.F.x X.F.b dL_law_1709 (by decide) (fun _ => ?_) (fun h7 => absurd (h.2.1 h9).2 h7)
    refine lv_goto (tgt := 1838) X.F.x X.F.b dL_law_1734 (by decide) ?_
    refine W.widen (k := cells + 3) (n := slots + 18) (by omega) (by omega) ?_
    exact kk _ _ _ _ _ _ h.2.2 C (lv_sub hl [2, 3, 4, 5, 6, 7] rfl)
def lawC30 (post : Mem → (Nat → Int64) → (Nat → UInt64) → Prop) (S : Mem) (f : Nat → Int64) (g : Nat → UInt64) (x1 x2 : Int32) : Prop := mL_undo (fun (k1 : Int32) (S2 : Mem) (f3 : Nat → Int64) => mX6_undo (fun (r4 : Int32) (S5 : Mem) => mX6_thrown (fun (r6 : Int32) (S7 : Mem) => r6 = k1 ∧ (k1 = 0 → f3 0 = r4.toInt64) ∧ post S7 f3 g) S5) S2) S f
set_option maxRecDepth 100000 in
theorem lawT30 {p : Program} {l : Launch} {e : Env} {s : State} {m : MethodId} {args : Array Value} {below : List Frame} {meth : Method} {c : Code} {Q : State → Prop} {D : va_G} {ky : Nat → ClassId} {ad : Nat → Nat} {ex : Nat → Nat → Nat} {b L : Nat} {xs : Nat → Int32} {ao a2 : Nat} (X : Lx p s m args meth c D ky ad ex b L xs ao a2) (hf : l.stackTraces = false) {post : Mem → (Nat → Int64) → (Nat → UInt64) → Prop} {S : Mem} {f : Nat → Int64} {g : Nat → UInt64} {i x1 x2 : Int32} (hi1 : vp_in (i + 1) L) (hi2 : vp_in (i + 2) L) (hx1 : xs (i + 1).toNatClampNeg = x1) (hx2 : xs (i + 2).toNatClampNeg = x2) (h : lawC30 post S f g x1 x2) {H : Heap} {locs : List Loc} {ls : Array Slot} {cells slots : Nat} (hc : cells + 3 ≤ 603072) (hs : slots + 18 ≤ 7215210) (C : Cg D ky ad s (fun q => s.heap.size ≤ q) S [(ao, lce ky f), (a2, dce ky g)] H locs) (hl : lv_has ls 9 [(0, .ref b), (1, .ref (ad 110)), (2, .ref (ad 117)), (3, .ref ao), (4, .ref a2), (5, .int i)]) (kk : ∀ (S : Mem) (f : Nat → Int64) (g : Nat → UInt64) (H : Heap) (locs : List Loc) (ls : Array Slot), post S f g → Cg D ky ad s (fun q => s.heap.size ≤ q) S [(ao, lce ky f), (a2, dce ky g)] H locs → lv_has ls 9 [(0, .ref b), (1, .ref (ad 110)), (2, .ref (ad 117)), (3, .ref ao), (4, .ref a2), (5, .int i)] → W p l e room_1 s m args below meth c H locs (cells + 3) (slots + 18) Q (F0 m 1838 ls [])) : W p l e room_1 s m args below meth c H locs cells slots Q (F0 m 1737 ls []) := by
  unfold lawC30 at h
  refine lv_aload_n X.F.x X.F.b dL_law_1737 rfl (lv_at hl 1 rfl) ?_
  refine lv_aload_n X.F.x X.F.b dL_law_1738 rfl (lv_at hl 3 rfl) ?_
  refine gkH X.F X.h1 X.ne C hl (kL_undo hf h) wh_222 ⟨rfl, rfl, ⟨Nat.le_of_ble_eq_true rfl, Nat.le_of_ble_eq_true rfl⟩, ⟨by show cells + 1 ≤ 603072; omega, by show slots + 6 ≤ 7215210; omega⟩, Nat.le_of_ble_eq_true rfl⟩ (rest := []) rfl dL_law_1739 (fun k1 S2 f3 H locs h C => ?_)
  refine lv_istore (lv' := [(6, .int k1), (0, .ref b), (1, .ref (ad 110)), (2, .ref (ad 117)), (3, .ref ao), (4, .ref a2), (5, .int i)]) X.F.x X.F.b dL_law_1742 hl (by decide) rfl (fun ls hl => ?_)
  refine lv_aload_n X.F.x X.F.b dL_law_1744 rfl (lv_at hl 3 rfl) ?_
  refine gkI X.F C hl (kX6_undo h) (by decide) (ce_M _) rfl wv_L_224 ⟨rfl, rfl, ⟨Nat.le_of_ble_eq_true rfl, Nat.le_of_ble_eq_true rfl⟩, ⟨by show cells + 1 + 0 ≤ 603072; omega, by show slots + 6 + 0 ≤ 7215210; omega⟩, Nat.le_of_ble_eq_true rfl⟩ (rest := []) rfl dL_law_1745 (fun r4 S5 H locs h C => ?_)
  refine lv_istore (lv' := [(7, .int r4), (6, .int k1), (0, .ref b), (1, .ref (ad 110)), (2, .ref (ad 117)), (3, .ref ao), (4, .ref a2), (5, .int i)]) X.F.x X.F.b dL_law_1748 hl (by decide) rfl (fun ls hl => ?_)
  refine lv_aload_n X.F.x X.F.b dL_law_1750 rfl (lv_at hl 4 rfl) ?_
  refine gkI X.F C hl (kX6_thrown h) (by decide) (ce_M _) rfl wv_L_123 ⟨rfl, rfl, ⟨Nat.le_of_ble_eq_true rfl, Nat.le_of_ble_eq_true rfl⟩, ⟨by show cells + 1 + 0 + 0 ≤ 603072; omega, by show slots + 6 + 0 + 0 ≤ 7215210; omega⟩, Nat.le_of_ble_eq_true rfl⟩ (rest := []) rfl dL_law_1751 (fun r6 S7 H locs h C => ?_)
  refine lv_iload X.F.x X.F.b dL_law_1754 (lv_at hl 1 rfl) ?_
  refine lv_icmp_eq (tgt := 1761) X.F.x X.F.b dL_law_1756 (by decide) (fun h8 => ?_) (fun h8 => absurd h.1 h8)
  refine lv_iload X.F.x X.F.b dL_law_1761 (lv_at hl 1 rfl) ?_
  refine lv_if_ne (tgt := 1778) X.F.x X.F.b dL_law_1763 (by decide) (fun h9 => ?_) (fun h9 => ?_)
  · refine lv_goto (tgt := 1838) X.F.x X.F.b dL_law_1778 (by decide) ?_
    refine W.widen (k := cells + 3) (n := slots + 18) (by omega) (by omega) ?_
    exact kk _ _ _ _ _ _ h.2.2 C (lv_sub hl [2, 3, 4, 5, 6, 7] rfl)
  · refine lv_aload_n X.F.x X.F.b dL_law_1766 rfl (lv_at hl 5 rfl) ?_
    refine lv_iconst (v := 0) X.F.x X.F.b dL_law_1767 (by decide) ?_
    refine gLald X.F C dL_law_1768 ?_
    refine lv_iload X.F.x X.F.b dL_law_1769 (lv_at hl 0 rfl) ?_
    refine lv_i2l X.F.x X.F.b dL_law_1771 rfl ?_
    refine lv_lcmpE X.F.x X.F.b dL_law_1772 (h.2.1 h9) ?_
    refine lv_if_eq (tgt := 1778) X.F.x X.F.b dL_law_1773 (by decide) (fun _ => ?_) (fun h7 => absurd rfl h7)
    refine lv_goto (tgt := 1838) X.F.x X.F.b dL_law_1778 (by decide) ?_
    refine W.widen (k := cells + 3) (n := slots + 18) (by omega) (by omega) ?_
    exact kk _ _ _ _ _ _ h.2.2 C (lv_sub hl [2, 3, 4, 5, 6, 7] rfl)
def lawC31 (post : Mem → (Nat → Int64) → (Nat → UInt64) → Prop) (S : Mem) (f : Nat → Int64) (g : Nat → UInt64) (x1 x2 : Int32) : Prop := mX5_save (fun (r1 : Int32) (S2 : Mem) => mX6_save (fun (r3 : Int32) (S4 : Mem) => r1 = r3 ∧ post S4 f g) S2) S
set_option maxRecDepth 100000 in
theorem lawT31 {p : Program} {l : Launch} {e : Env} {s : State} {m : MethodId} {args : Array Value} {below : List Frame} {meth : Method} {c : Code} {Q : State → Prop} {D : va_G} {ky : Nat → ClassId} {ad : Nat → Nat} {ex : Nat → Nat → Nat} {b L : Nat} {xs : Nat → Int32} {ao a2 : Nat} (X : Lx p s m args meth c D ky ad ex b L xs ao a2) (hf : l.stackTraces = false) {post : Mem → (Nat → Int64) → (Nat → UInt64) → Prop} {S : Mem} {f : Nat → Int64} {g : Nat → UInt64} {i x1 x2 : Int32} (hi1 : vp_in (i + 1) L) (hi2 : vp_in (i + 2) L) (hx1 : xs (i + 1).toNatClampNeg = x1) (hx2 : xs (i + 2).toNatClampNeg = x2) (h : lawC31 post S f g x1 x2) {H : Heap} {locs : List Loc} {ls : Array Slot} {cells slots : Nat} (hc : cells + 3 ≤ 603072) (hs : slots + 18 ≤ 7215210) (C : Cg D ky ad s (fun q => s.heap.size ≤ q) S [(ao, lce ky f), (a2, dce ky g)] H locs) (hl : lv_has ls 9 [(0, .ref b), (1, .ref (ad 110)), (2, .ref (ad 117)), (3, .ref ao), (4, .ref a2), (5, .int i)]) (kk : ∀ (S : Mem) (f : Nat → Int64) (g : Nat → UInt64) (H : Heap) (locs : List Loc) (ls : Array Slot), post S f g → Cg D ky ad s (fun q => s.heap.size ≤ q) S [(ao, lce ky f), (a2, dce ky g)] H locs → lv_has ls 9 [(0, .ref b), (1, .ref (ad 110)), (2, .ref (ad 117)), (3, .ref ao), (4, .ref a2), (5, .int i)] → W p l e room_1 s m args below meth c H locs (cells + 3) (slots + 18) Q (F0 m 1838 ls [])) : W p l e room_1 s m args below meth c H locs cells slots Q (F0 m 1781 ls []) := by
  unfold lawC31 at h
  refine lv_aload_n X.F.x X.F.b dL_law_1781 rfl (lv_at hl 1 rfl) ?_
  refine gkI X.F C hl (kX5_save h) (by decide) (ce_X _) rfl wv_L_225 ⟨rfl, rfl, ⟨Nat.le_of_ble_eq_true rfl, Nat.le_of_ble_eq_true rfl⟩, ⟨by show cells + 0 ≤ 603072; omega, by show slots + 0 ≤ 7215210; omega⟩, Nat.le_of_ble_eq_true rfl⟩ (rest := []) rfl dL_law_1782 (fun r1 S2 H locs h C => ?_)
  refine lv_aload_n X.F.x X.F.b dL_law_1785 rfl (lv_at hl 2 rfl) ?_
  refine gkI X.F C hl (kX6_save h) (by decide) (ce_M _) rfl wv_L_228 ⟨rfl, rfl, ⟨Nat.le_of_ble_eq_true rfl, Nat.le_of_ble_eq_true rfl⟩, ⟨by show cells + 0 + 0 ≤ 603072; omega, by show slots + 0 + 0 ≤ 7215210; omega⟩, Nat.le_of_ble_eq_true rfl⟩ (rest := [.int r1]) rfl dL_law_1786 (fun r3 S4 H locs h C => ?_)
  refine lv_icmp_eq (tgt := 1838) X.F.x X.F.b dL_law_1789 (by decide) (fun h8 => ?_) (fun h8 => absurd h.1 h8)
  refine W.widen (k := cells + 3) (n := slots + 18) (by omega) (by omega) ?_
  exact kk _ _ _ _ _ _ h.2 C (lv_sub hl [0, 1, 2, 3, 4, 5] rfl)
def lawC32 (post : Mem → (Nat → Int64) → (Nat → UInt64) → Prop) (S : Mem) (f : Nat → Int64) (g : Nat → UInt64) (x1 x2 : Int32) : Prop := mL_restore (fun (k1 : Int32) (S2 : Mem) (f3 : Nat → Int64) => mX6_restore (fun (r4 : Int32) (S5 : Mem) => mX6_thrown (fun (r6 : Int32) (S7 : Mem) => r6 = k1 ∧ (k1 = 0 → f3 0 = r4.toInt64) ∧ post S7 f3 g) S5) S2) S f
set_option maxRecDepth 100000 in
theorem lawT32 {p : Program} {l : Launch} {e : Env} {s : State} {m : MethodId} {args : Array Value} {below : List Frame} {meth : Method} {c : Code} {Q : State → Prop} {D : va_G} {ky : Nat → ClassId} {ad : Nat → Nat} {ex : Nat → Nat → Nat} {b L : Nat} {xs : Nat → Int32} {ao a2 : Nat} (X : Lx p s m args meth c D ky ad ex b L xs ao a2) (hf : l.stackTraces = false) {post : Mem → (Nat → Int64) → (Nat → UInt64) → Prop} {S : Mem} {f : Nat → Int64} {g : Nat → UInt64} {i x1 x2 : Int32} (hi1 : vp_in (i + 1) L) (hi2 : vp_in (i + 2) L) (hx1 : xs (i + 1).toNatClampNeg = x1) (hx2 : xs (i + 2).toNatClampNeg = x2) (h : lawC32 post S f g x1 x2) {H : Heap} {locs : List Loc} {ls : Array Slot} {cells slots : Nat} (hc : cells + 3 ≤ 603072) (hs : slots + 18 ≤ 7215210) (C : Cg D ky ad s (fun q => s.heap.size ≤ q) S [(ao, lce ky f), (a2, dce ky g)] H locs) (hl : lv_has ls 9 [(0, .ref b), (1, .ref (ad 110)), (2, .ref (ad 117)), (3, .ref ao), (4, .ref a2), (5, .int i)]) (kk : ∀ (S : Mem) (f : Nat → Int64) (g : Nat → UInt64) (H : Heap) (locs : List Loc) (ls : Array Slot), post S f g → Cg D ky ad s (fun q => s.heap.size ≤ q) S [(ao, lce ky f), (a2, dce ky g)] H locs → lv_has ls 9 [(0, .ref b), (1, .ref (ad 110)), (2, .ref (ad 117)), (3, .ref ao), (4, .ref a2), (5, .int i)] → W p l e room_1 s m args below meth c H locs (cells + 3) (slots + 18) Q (F0 m 1838 ls [])) : W p l e room_1 s m args below meth c H locs cells slots Q (F0 m 1794 ls []) := by
  unfold lawC32 at h
  refine lv_aload_n X.F.x X.F.b dL_law_1794 rfl (lv_at hl 1 rfl) ?_
  refine lv_aload_n X.F.x X.F.b dL_law_1795 rfl (lv_at hl 3 rfl) ?_
  refine gkH X.F X.h1 X.ne C hl (kL_restore hf h) wh_229 ⟨rfl, rfl, ⟨Nat.le_of_ble_eq_true rfl, Nat.le_of_ble_eq_true rfl⟩, ⟨by show cells + 1 ≤ 603072; omega, by show slots + 6 ≤ 7215210; omega⟩, Nat.le_of_ble_eq_true rfl⟩ (rest := []) rfl dL_law_1796 (fun k1 S2 f3 H locs h C => ?_)
  refine lv_istore (lv' := [(6, .int k1), (0, .ref b), (1, .ref (ad 110)), (2, .ref (ad 117)), (3, .ref ao), (4, .ref a2), (5, .int i)]) X.F.x X.F.b dL_law_1799 hl (by decide) rfl (fun ls hl => ?_)
  refine lv_aload_n X.F.x X.F.b dL_law_1801 rfl (lv_at hl 3 rfl) ?_
  refine gkI X.F C hl (kX6_restore h) (by decide) (ce_M _) rfl wv_L_231 ⟨rfl, rfl, ⟨Nat.le_of_ble_eq_true rfl, Nat.le_of_ble_eq_true rfl⟩, ⟨by show cells + 1 + 0 ≤ 603072; omega, by show slots + 6 + 0 ≤ 7215210; omega⟩, Nat.le_of_ble_eq_true rfl⟩ (rest := []) rfl dL_law_1802 (fun r4 S5 H locs h C => ?_)
  refine lv_istore (lv' := [(7, .int r4), (6, .int k1), (0, .ref b), (1, .ref (ad 110)), (2, .ref (ad 117)), (3, .ref ao), (4, .ref a2), (5, .int i)]) X.F.x X.F.b dL_law_1805 hl (by decide) rfl (fun ls hl => ?_)
  refine lv_aload_n X.F.x X.F.b dL_law_1807 rfl (lv_at hl 4 rfl) ?_
  refine gkI X.F C hl (kX6_thrown h) (by decide) (ce_M _) rfl wv_L_123 ⟨rfl, rfl, ⟨Nat.le_of_ble_eq_true rfl, Nat.le_of_ble_eq_true rfl⟩, ⟨by show cells + 1 + 0 + 0 ≤ 603072; omega, by show slots + 6 + 0 + 0 ≤ 7215210; omega⟩, Nat.le_of_ble_eq_true rfl⟩ (rest := []) rfl dL_law_1808 (fun r6 S7 H locs h C => ?_)
  refine lv_iload X.F.x X.F.b dL_law_1811 (lv_at hl 1 rfl) ?_
  refine lv_icmp_eq (tgt := 1818) X.F.x X.F.b dL_law_1813 (by decide) (fun h8 => ?_) (fun h8 => absurd h.1 h8)
  refine lv_iload X.F.x X.F.b dL_law_1818 (lv_at hl 1 rfl) ?_
  refine lv_if_ne (tgt := 1835) X.F.x X.F.b dL_law_1820 (by decide) (fun h9 => ?_) (fun h9 => ?_)
  · refine lv_goto (tgt := 1838) X.F.x X.F.b dL_law_1835 (by decide) ?_
    refine W.widen (k := cells + 3) (n := slots + 18) (by omega) (by omega) ?_
    exact kk _ _ _ _ _ _ h.2.2 C (lv_sub hl [2, 3, 4, 5, 6, 7] rfl)
  · refine lv_aload_n X.F.x X.F.b dL_law_1823 rfl (lv_at hl 5 rfl) ?_
    refine lv_iconst (v := 0) X.F.x X.F.b dL_law_1824 (by decide) ?_
    refine gLald X.F C dL_law_1825 ?_
    refine lv_iload X.F.x X.F.b dL_law_1826 (lv_at hl 0 rfl) ?_
    refine lv_i2l X.F.x X.F.b dL_law_1828 rfl ?_
    refine lv_lcmpE X.F.x X.F.b dL_law_1829 (h.2.1 h9) ?_
    refine lv_if_eq (tgt := 1835) X.F.x X.F.b dL_law_1830 (by decide) (fun _ => ?_) (fun h7 => absurd rfl h7)
    refine lv_goto (tgt := 1838) X.F.x X.F.b dL_law_1835 (by decide) ?_
    refine W.widen (k := cells + 3) (n := slots + 18) (by omega) (by omega) ?_
    exact kk _ _ _ _ _ _ h.2.2 C (lv_sub hl [2, 3, 4, 5, 6, 7] rfl)
