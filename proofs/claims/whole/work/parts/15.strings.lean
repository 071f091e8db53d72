/-! TEXTS: the JDK's own length() and charAt() over the claim's literals -/
def lnN (i : Nat) : Nat := lenS.getD i 0
def lnS (i : Nat) : Int32 := nI (lenS.getD i 0)
def chS (i : Nat) (k : Int32) : Int32 := (bytS.getD i []).getD k.toNatClampNeg 0 &&& 255
theorem lnN_lt : ∀ i, i < 21 → lnN i < 2 ^ 31 := by decide +kernel
theorem wv_J_335 : WV "java/lang/String" "java/lang/String" 335 yJ0_coder_7d493 cJ0_coder_7d493 1 (some .byte) 0 := ⟨q4_38, q4_39, q4_40, q1_12, q4_41, rfl, by decide, by decide, by decide +kernel⟩
theorem wv_J_492 : WV "java/lang/String" "java/lang/String" 492 yJ0_isLatin1_aae02 cJ0_isLatin1_aae02 1 (some .boolean) 0 := ⟨q4_49, q4_50, q4_51, q1_12, q4_52, rfl, by decide, by decide, by decide +kernel⟩
theorem wv_J_495 : WT "java/lang/String" 495 yJ1_charAt_3b067 cJ1_charAt_3b067 2 (some .char) 2 := ⟨q4_53, q4_54, q1_18, q4_55, by decide, by decide, by decide +kernel⟩
theorem wv_J1_9 : WT "java/lang/StringLatin1" 9 yJ0_checkIndex_df160 cJ0_checkIndex_df160 2 none 2 := ⟨q4_56, q4_57, q1_12, q4_58, by decide, by decide, by decide +kernel⟩
theorem wv_J_1059 : WT "java/lang/String" 1059 yJ3_checkIndex_8e157 cJ3_checkIndex_8e157 3 (some .int) 3 := ⟨q4_61, q4_62, q1_19, q4_63, by decide, by decide, by decide +kernel⟩
theorem wv_X2_86 : WV "FordToll$Question" "java/lang/String" 86 yJ0_length_8abf5 cJ0_length_8abf5 1 (some .int) 0 := ⟨q4_34, q4_35, q4_36, q1_12, q4_37, rfl, by decide, by decide, by decide +kernel⟩
theorem wv_X2_99 : WV "FordToll$Question" "java/lang/String" 99 yJ0_charAt_5068e cJ0_charAt_5068e 2 (some .char) 1 := ⟨q4_45, q4_46, q4_47, q1_12, q4_48, rfl, by decide, by decide, by decide +kernel⟩
theorem wv_X6_172 : WV "FordTollModel" "java/lang/String" 172 yJ0_length_8abf5 cJ0_length_8abf5 1 (some .int) 0 := ⟨q6_44, q4_35, q4_36, q1_12, q4_37, rfl, by decide, by decide, by decide +kernel⟩
theorem wv_X6_176 : WV "FordTollModel" "java/lang/String" 176 yJ0_charAt_5068e cJ0_charAt_5068e 2 (some .char) 1 := ⟨q6_45, q4_46, q4_47, q1_12, q4_48, rfl, by decide, by decide, by decide +kernel⟩
section STR
variable {p : Program} {l : Launch} {e : Env} {R : Room} {s : State} {m : MethodId} {args : Array Value} {below : List Frame} {meth : Method} {c : Code} {H : Heap} {locs : List Loc} {cells slots : Nat} {Q : State → Prop} {cc : ByteArray} {pc nL : Nat} {ls : Array Slot} {rest : List Value} {own : String} {D : va_G} {ky : Nat → ClassId} {ad : Nat → Nat} {ex : Nat → Nat → Nat} {S : Mem}
theorem kIg (F : Fx p s m args meth c D ky ad ex cc nL own) (C : Cx D ky ad s S H locs) {lv : List (Nat × Value)} (hl : lv_has ls nL lv) {a idx n mc ms : Nat} {y : MethodName} {b : ByteArray} {r : Option FieldType} {rm : Room} {As : List Value} {post : Int32 → Mem → Prop} (hM : CMi l D ky ad ex y b n r rm mc ms (.ref a :: As) S post) {Cn : String} (hrv : ∃ cell : Cell, H[a]? = some cell ∧ cell.vm.isStatics = false ∧ s.vm.findClass Cn = some cell.cls) (w : WV own Cn idx y b n r As.length) (hR : rm.cells = mc ∧ rm.slots = ms ∧ (rm.frames + 1 ≤ R.frames ∧ 8 + (n + 11) + rm.locals ≤ R.locals) ∧ (cells + mc ≤ R.cells ∧ slots + ms ≤ R.slots) ∧ (rest.map fun v => v.category).sum ≤ 8) {st0 : List Value} (hst : st0 = As.reverse ++ .ref a :: rest) (d : decode cc pc = .ok (.invokevirtual idx, 3))
    (kk : ∀ (r : Int32) (S1 : Mem) (H1 : Heap) (locs1 : List Loc), post r S1 → Cx D ky ad s S1 H1 locs1 → W p l e R s m args below meth c H1 locs1 (cells + mc) (slots + ms) Q (F0 m (pc + 3) ls (.int r :: rest))) : W p l e R s m args below meth c H locs cells slots Q (F0 m pc ls st0) :=
  va_calli (va_runV (As := As) (rest := rest) ⟨F.x, F.b, F.ml, F.ow, F.ts⟩ (hM H.size) (cwV As.length F.ts w.good rfl hR.1 hR.2.1 w.2.2.2.2.2 hR.2.2.1) ⟨PRE.blind, hrv, preV F C⟩ rfl rfl hl.1 hst (lv_room hR.2.2.2.2) d hR.2.2.2.1) C.2 (fun q _ h => AW.sub C.2.1 q h) (AW.sub C.2.1) (fun r u t H1 locs1 ht hvm hw hB hz1 hk1 hS => kk r u H1 locs1 hw ⟨by rw [← ht]; exact hB, hS⟩)
theorem kSV (F : Fx p s m args meth c D ky ad ex cc nL own) (C : Cx D ky ad s S H locs) {lv : List (Nat × Value)} (hl : lv_has ls nL lv) {idx n mc ms : Nat} {y : MethodName} {b : ByteArray} {r : Option FieldType} {rm : Room} {As : List Value} {post : Mem → Prop} (hM : CMv l D ky ad ex y b n r rm mc ms As S post) (w : WT own idx y b n r As.length) (hR : rm.cells = mc ∧ rm.slots = ms ∧ (rm.frames + 1 ≤ R.frames ∧ 8 + (n + 11) + rm.locals ≤ R.locals) ∧ (cells + mc ≤ R.cells ∧ slots + ms ≤ R.slots) ∧ (rest.map fun v => v.category).sum ≤ 8) {st0 : List Value} (hst : st0 = As.reverse ++ rest) (d : decode cc pc = .ok (.invokestatic idx, 3))
    (kk : ∀ (S1 : Mem) (H1 : Heap) (locs1 : List Loc), post S1 → Cx D ky ad s S1 H1 locs1 → W p l e R s m args below meth c H1 locs1 (cells + mc) (slots + ms) Q (F0 m (pc + 3) ls rest)) : W p l e R s m args below meth c H locs cells slots Q (F0 m pc ls st0) :=
  va_callv (va_runS (As := As) (rest := rest) ⟨F.x, F.b, F.ml, F.ow, F.ts⟩ (hM H.size) (va_cwS As.length F.ts w.good rfl hR.1 hR.2.1 w.2.2.2.2 hR.2.2.1) ⟨PRE.blind, preV F C⟩ rfl rfl hl.1 hst (lv_room hR.2.2.2.2) d hR.2.2.2.1) C.2 (fun q _ h => AW.sub C.2.1 q h) (AW.sub C.2.1) (fun u t H1 locs1 ht hvm hw hB hz1 hk1 hS => kk u H1 locs1 hw ⟨by rw [← ht]; exact hB, hS⟩)
theorem Fx.str (F : Fx p s m args meth c D ky ad ex cc nL own) {i : Nat} (hi : i < 21) : va_O "java/lang/String" (ex 0 i) (AW ad s.heap.size) s s.heap ∧ va_OF "java/lang/String" "coder" "B" (.int 0) (ex 0 i) (AW ad s.heap.size) s s.heap ∧ va_OF "java/lang/String" "value" "[B" (.ref (ex 1 i)) (ex 0 i) (AW ad s.heap.size) s s.heap ∧ va_T .byte (ex 1 i) (lnN i) (fun j => .int ((bytS.getD i []).getD j 0)) (AW ad s.heap.size) s s.heap :=
  (F.st.2.2.2.2.1 i hi).1 0 (by decide)
theorem Fx.srec (F : Fx p s m args meth c D ky ad ex cc nL own) (C : Cx D ky ad s S H locs) {i : Nat} (hi : i < 21) : ∃ cell : Cell, H[ex 0 i]? = some cell ∧ cell.vm.isStatics = false ∧ s.vm.findClass "java/lang/String" = some cell.cls :=
  vk_recv (adK := fun _ => ex 0 i) (i := 0) (F.st.2.2.2.2.1 i hi) (by decide) C.2
end STR
section STM
variable {l : Launch} {D : va_G} {ky : Nat → ClassId} {ad : Nat → Nat} {ex : Nat → Nat → Nat} {S : Mem}
def rmJ0 : Room := { frames := 0, cells := 0, slots := 0, locals := 0 }
def rmJ1 : Room := { frames := 1, cells := 0, slots := 0, locals := 20 }
def rmJ2 : Room := { frames := 1, cells := 0, slots := 0, locals := 22 }
def rmJ3 : Room := { frames := 2, cells := 0, slots := 0, locals := 43 }
def rmJ4 : Room := { frames := 3, cells := 0, slots := 0, locals := 64 }
set_option maxRecDepth 100000 in
set_option maxHeartbeats 4000000 in
theorem kJ0_coder {post : Int32 → Mem → Prop} {i : Nat} (hi : i < 21) (h : post 0 S) : CMi l D ky ad ex yJ0_coder_7d493 cJ0_coder_7d493 1 (some .byte) rmJ0 0 0 [.ref (ex 0 i)] S post := by
  refine CMi.of (by decide) (Nat.le_of_ble_eq_true rfl) (fun p e s m args below meth c ls F hr C hl => ?_)
  have hl : lv_has ls 1 [(0, .ref (ex 0 i))] := hl
  refine va_gets F.x F.b F.st.2.2.2.2.2.2.2.2.2.2.1 C.2 F.ow (F.ts _ q4_42) (fun _ h => h) dJ0_coder_7d493_0 ?_
  refine lv_if_eq (tgt := 13) F.x F.b dJ0_coder_7d493_3 (by decide) (fun g => absurd g (by decide)) (fun g => ?_)
  refine lv_aload_n F.x F.b dJ0_coder_7d493_6 rfl (lv_at hl 0 rfl) ?_
  refine vk_getf F.x F.b (F.str hi).2.1 C.2 F.ow (F.ts _ q6_138) (fun _ h => h) dJ0_coder_7d493_7 ?_
  refine lv_goto (tgt := 14) F.x F.b dJ0_coder_7d493_10 (by decide) ?_
  exact retZ F hr C rfl h dJ0_coder_7d493_14
set_option maxRecDepth 100000 in
set_option maxHeartbeats 4000000 in
theorem kJ0_isLatin1 {post : Int32 → Mem → Prop} {i : Nat} (hi : i < 21) (h : post 1 S) : CMi l D ky ad ex yJ0_isLatin1_aae02 cJ0_isLatin1_aae02 1 (some .boolean) rmJ0 0 0 [.ref (ex 0 i)] S post := by
  refine CMi.of (by decide) (Nat.le_of_ble_eq_true rfl) (fun p e s m args below meth c ls F hr C hl => ?_)
  have hl : lv_has ls 1 [(0, .ref (ex 0 i))] := hl
  refine va_gets F.x F.b F.st.2.2.2.2.2.2.2.2.2.2.1 C.2 F.ow (F.ts _ q4_42) (fun _ h => h) dJ0_isLatin1_aae02_0 ?_
  refine lv_if_eq (tgt := 17) F.x F.b dJ0_isLatin1_aae02_3 (by decide) (fun g => absurd g (by decide)) (fun g => ?_)
  refine lv_aload_n F.x F.b dJ0_isLatin1_aae02_6 rfl (lv_at hl 0 rfl) ?_
  refine vk_getf F.x F.b (F.str hi).2.1 C.2 F.ow (F.ts _ q6_138) (fun _ h => h) dJ0_isLatin1_aae02_7 ?_
  refine lv_if_ne (tgt := 17) F.x F.b dJ0_isLatin1_aae02_10 (by decide) (fun g => absurd rfl g) (fun g => ?_)
  refine lv_iconst (v := 1) F.x F.b dJ0_isLatin1_aae02_13 (by decide) ?_
  refine lv_goto (tgt := 18) F.x F.b dJ0_isLatin1_aae02_14 (by decide) ?_
  exact retZ F hr C rfl h dJ0_isLatin1_aae02_18
set_option maxRecDepth 100000 in
set_option maxHeartbeats 4000000 in
theorem kJ0_length {post : Int32 → Mem → Prop} {i : Nat} (hi : i < 21) (h : post (lnS i) S) : CMi l D ky ad ex yJ0_length_8abf5 cJ0_length_8abf5 1 (some .int) rmJ1 0 0 [.ref (ex 0 i)] S post := by
  refine CMi.of (by decide) (Nat.le_of_ble_eq_true rfl) (fun p e s m args below meth c ls F hr C hl => ?_)
  have hl : lv_has ls 1 [(0, .ref (ex 0 i))] := hl
  refine lv_aload_n F.x F.b dJ0_length_8abf5_0 rfl (lv_at hl 0 rfl) ?_
  refine vk_getf F.x F.b (F.str hi).2.2.1 C.2 F.ow (F.ts _ q6_137) (fun _ h => h) dJ0_length_8abf5_1 ?_
  refine va_tlen F.x F.b (F.str hi).2.2.2 C.2 (v := lnS i) rfl dJ0_length_8abf5_4 ?_
  refine lv_aload_n F.x F.b dJ0_length_8abf5_5 rfl (lv_at hl 0 rfl) ?_
  refine kIg F C hl (kJ0_coder (post := fun r S1 => r = 0 ∧ S1 = S) hi ⟨rfl, rfl⟩) (F.srec C hi) wv_J_335 ⟨rfl, rfl, ⟨Nat.le_of_ble_eq_true rfl, Nat.le_of_ble_eq_true rfl⟩, ⟨Nat.le_of_ble_eq_true rfl, Nat.le_of_ble_eq_true rfl⟩, Nat.le_of_ble_eq_true rfl⟩ (rest := [.int (lnS i)]) rfl dJ0_length_8abf5_6 (fun r S1 H locs h1 C => ?_)
  obtain ⟨e1, e2⟩ := h1
  rw [e1]
  rw [e2] at C
  refine lv_ishr F.x F.b dJ0_length_8abf5_9 ?_
  exact retI F hr C (by rw [sb_shr0]; exact h) dJ0_length_8abf5_10
set_option maxRecDepth 100000 in
set_option maxHeartbeats 4000000 in
theorem kJ3_check {post : Int32 → Mem → Prop} {k n : Int32} {f2 : Value} (hf : f2 = .null ∨ ∃ t, f2 = .ref t) (h0 : ¬ k < 0) (h1 : k < n) (h : post k S) : CMi l D ky ad ex yJ3_checkIndex_8e157 cJ3_checkIndex_8e157 3 (some .int) rmJ0 0 0 [.int k, .int n, f2] S post := by
  have hc : (lg_sl [.int k, .int n, f2]).length ≤ 3 := by rcases hf with rfl | ⟨t, rfl⟩ <;> exact Nat.le_of_ble_eq_true rfl
  refine CMi.of (by decide) hc (fun p e s m args below meth c ls F hr C hl => ?_)
  have hl : lv_has ls 3 [(0, .int k), (1, .int n)] := by
    have h9 : lv_has ls 3 [(0, .int k), (1, .int n), (2, f2)] := by rcases hf with rfl | ⟨t, rfl⟩ <;> exact hl
    exact lv_sub h9 [0, 1] rfl
  refine lv_iload_n F.x F.b dJ3_checkIndex_8e157_0 rfl (lv_at hl 0 rfl) ?_
  refine lv_if_lt (tgt := 9) F.x F.b dJ3_checkIndex_8e157_1 (by decide) (fun g => absurd g h0) (fun g => ?_)
  refine lv_iload_n F.x F.b dJ3_checkIndex_8e157_4 rfl (lv_at hl 0 rfl) ?_
  refine lv_iload_n F.x F.b dJ3_checkIndex_8e157_5 rfl (lv_at hl 1 rfl) ?_
  refine lv_icmp_lt (tgt := 16) F.x F.b dJ3_checkIndex_8e157_6 (by decide) (fun g => ?_) (fun g => absurd h1 g)
  refine lv_iload_n F.x F.b dJ3_checkIndex_8e157_16 rfl (lv_at hl 0 rfl) ?_
  exact retI F hr C h dJ3_checkIndex_8e157_17
set_option maxRecDepth 100000 in
set_option maxHeartbeats 4000000 in
theorem kJ0_check {post : Mem → Prop} {k n : Int32} (h0 : ¬ k < 0) (h1 : k < n) (h : post S) : CMv l D ky ad ex yJ0_checkIndex_df160 cJ0_checkIndex_df160 2 none rmJ2 0 0 [.int k, .int n] S post := by
  refine CMv.of (by decide) (Nat.le_of_ble_eq_true rfl) (fun p e s m args below meth c ls F hr C hl => ?_)
  have hl : lv_has ls 2 [(0, .int k), (1, .int n)] := hl
  refine lv_iload_n F.x F.b dJ0_checkIndex_df160_0 rfl (lv_at hl 0 rfl) ?_
  refine lv_iload_n F.x F.b dJ0_checkIndex_df160_1 rfl (lv_at hl 1 rfl) ?_
  obtain ⟨f2, hf, hz⟩ : ∃ f2 : Value, (f2 = .null ∨ ∃ t, f2 = .ref t) ∧ va_Z "jdk/internal/util/Preconditions" "SIOOBE_FORMATTER" "Ljava/util/function/BiFunction;" f2 (AW ad s.heap.size) s s.heap := by
    rcases F.st.2.2.2.2.2.2.2.2.2.2.2.1 with h | ⟨t, h⟩
    · exact ⟨_, Or.inl rfl, h⟩
    · exact ⟨_, Or.inr ⟨t, rfl⟩, h⟩
  refine va_gets F.x F.b hz C.2 F.ow (F.ts _ q4_59) (fun _ h => h) dJ0_checkIndex_df160_2 ?_
  refine kSI F C hl (kJ3_check (post := fun r S1 => S1 = S) hf h0 h1 rfl) wv_J_1059 ⟨rfl, rfl, ⟨Nat.le_of_ble_eq_true rfl, Nat.le_of_ble_eq_true rfl⟩, ⟨Nat.le_of_ble_eq_true rfl, Nat.le_of_ble_eq_true rfl⟩, Nat.le_of_ble_eq_true rfl⟩ (rest := []) rfl dJ0_checkIndex_df160_5 (fun r S1 H locs h1 C => ?_)
  rw [h1] at C
  refine lv_pop F.x F.b dJ0_checkIndex_df160_8 rfl ?_
  exact retV F hr C h dJ0_checkIndex_df160_9
theorem vp_nn {k : Int32} {n : Nat} (h : vp_in k n) : ¬ k < 0 := fun q => h (Or.inl q)
theorem vp_ltI {k : Int32} {n : Nat} (h : vp_in k n) (hn : n < 2 ^ 31) : k < nI n := by
  obtain ⟨j, hj, rfl⟩ := vp_in_of h hn
  exact nI_lt hj hn
set_option maxRecDepth 100000 in
set_option maxHeartbeats 4000000 in
theorem kJ1_charAt {post : Int32 → Mem → Prop} {i : Nat} {k : Int32} (hi : i < 21) (hk : vp_in k (lnN i)) (h : post (chS i k) S) : CMi l D ky ad ex yJ1_charAt_3b067 cJ1_charAt_3b067 2 (some .char) rmJ3 0 0 [.ref (ex 1 i), .int k] S post := by
  refine CMi.of (by decide) (Nat.le_of_ble_eq_true rfl) (fun p e s m args below meth c ls F hr C hl => ?_)
  have hl : lv_has ls 2 [(0, .ref (ex 1 i)), (1, .int k)] := hl
  refine lv_iload_n F.x F.b dJ1_charAt_3b067_0 rfl (lv_at hl 1 rfl) ?_
  refine lv_aload_n F.x F.b dJ1_charAt_3b067_1 rfl (lv_at hl 0 rfl) ?_
  refine va_tlen F.x F.b (F.str hi).2.2.2 C.2 (v := lnS i) rfl dJ1_charAt_3b067_2 ?_
  refine kSV F C hl (kJ0_check (post := fun S1 => S1 = S) (vp_nn hk) (vp_ltI hk (lnN_lt i hi)) rfl) wv_J1_9 ⟨rfl, rfl, ⟨Nat.le_of_ble_eq_true rfl, Nat.le_of_ble_eq_true rfl⟩, ⟨Nat.le_of_ble_eq_true rfl, Nat.le_of_ble_eq_true rfl⟩, Nat.le_of_ble_eq_true rfl⟩ (rest := []) rfl dJ1_charAt_3b067_3 (fun S1 H locs h1 C => ?_)
  rw [h1] at C
  refine lv_aload_n F.x F.b dJ1_charAt_3b067_6 rfl (lv_at hl 0 rfl) ?_
  refine lv_iload_n F.x F.b dJ1_charAt_3b067_7 rfl (lv_at hl 1 rfl) ?_
  refine va_tb F.x F.b (F.str hi).2.2.2 C.2 hk rfl dJ1_charAt_3b067_8 ?_
  refine lv_sipush (v := 255) F.x F.b dJ1_charAt_3b067_9 (by decide) ?_
  refine lv_iand F.x F.b dJ1_charAt_3b067_12 ?_
  refine lv_i2c F.x F.b dJ1_charAt_3b067_13 (sc_c2 _) ?_
  exact retZ F hr C (sc_nar _) h dJ1_charAt_3b067_14
set_option maxRecDepth 100000 in
set_option maxHeartbeats 4000000 in
theorem kJ0_charAt {post : Int32 → Mem → Prop} {i : Nat} {k : Int32} (hi : i < 21) (hk : vp_in k (lnN i)) (h : post (chS i k) S) : CMi l D ky ad ex yJ0_charAt_5068e cJ0_charAt_5068e 2 (some .char) rmJ4 0 0 [.ref (ex 0 i), .int k] S post := by
  refine CMi.of (by decide) (Nat.le_of_ble_eq_true rfl) (fun p e s m args below meth c ls F hr C hl => ?_)
  have hl : lv_has ls 2 [(0, .ref (ex 0 i)), (1, .int k)] := hl
  refine lv_aload_n F.x F.b dJ0_charAt_5068e_0 rfl (lv_at hl 0 rfl) ?_
  refine kIg F C hl (kJ0_isLatin1 (post := fun r S1 => r = 1 ∧ S1 = S) hi ⟨rfl, rfl⟩) (F.srec C hi) wv_J_492 ⟨rfl, rfl, ⟨Nat.le_of_ble_eq_true rfl, Nat.le_of_ble_eq_true rfl⟩, ⟨Nat.le_of_ble_eq_true rfl, Nat.le_of_ble_eq_true rfl⟩, Nat.le_of_ble_eq_true rfl⟩ (rest := []) rfl dJ0_charAt_5068e_1 (fun r S1 H locs h1 C => ?_)
  obtain ⟨e1, e2⟩ := h1
  rw [e1]
  rw [e2] at C
  refine lv_if_eq (tgt := 16) F.x F.b dJ0_charAt_5068e_4 (by decide) (fun g => absurd g (by decide)) (fun g => ?_)
  refine lv_aload_n F.x F.b dJ0_charAt_5068e_7 rfl (lv_at hl 0 rfl) ?_
  refine vk_getf F.x F.b (F.str hi).2.2.1 C.2 F.ow (F.ts _ q6_137) (fun _ h => h) dJ0_charAt_5068e_8 ?_
  refine lv_iload_n F.x F.b dJ0_charAt_5068e_11 rfl (lv_at hl 1 rfl) ?_
  refine kSI F C hl (kJ1_charAt (post := fun r S1 => r = chS i k ∧ S1 = S) hi hk ⟨rfl, rfl⟩) wv_J_495 ⟨rfl, rfl, ⟨Nat.le_of_ble_eq_true rfl, Nat.le_of_ble_eq_true rfl⟩, ⟨Nat.le_of_ble_eq_true rfl, Nat.le_of_ble_eq_true rfl⟩, Nat.le_of_ble_eq_true rfl⟩ (rest := []) rfl dJ0_charAt_5068e_12 (fun r S1 H locs h1 C => ?_)
  obtain ⟨e1, e2⟩ := h1
  rw [e1]
  rw [e2] at C
  exact retZ F hr C (sc_nar _) h dJ0_charAt_5068e_15
end STM
