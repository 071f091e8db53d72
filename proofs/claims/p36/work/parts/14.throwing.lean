def rmX5_checkStone : Room := { frames := 6, cells := 1, slots := 6, locals := 82 }
def mX5_checkStone (post : Mem → Prop) (px : String → Mem → Prop) (S : Mem) (v0 : Int32) : Prop := ((v0 < 0 → (px "java/lang/IndexOutOfBoundsException" S)) ∧ (¬ v0 < 0 → (((v0 < (10 : Int32) → (post S)) ∧ (¬ v0 < (10 : Int32) → (px "java/lang/IndexOutOfBoundsException" S))))))
set_option maxRecDepth 100000 in
set_option maxHeartbeats 4000000 in
theorem kX5_checkStone {l : Launch} {D : va_G} {ky : Nat → ClassId} {ad : Nat → Nat} {ex : Nat → Nat → Nat} {post : Mem → Prop} {px : String → Mem → Prop} {S : Mem} {v0 : Int32} (hf : l.stackTraces = false) (h : mX5_checkStone post px S v0) : CXv l D ky ad ex yX5_checkStone cX5_checkStone 1 none rmX5_checkStone 1 6 [.int v0] S post px := by
  refine CXv.of (by decide) (Nat.le_of_ble_eq_true rfl) (fun p e s m args below meth c ls F hr hout C hl => ?_)
  have hl : lv_has ls 1 [(0, .int v0)] := hl
  unfold mX5_checkStone at h
  refine lv_iload_n F.x F.b dX5_checkStone_0 rfl (lv_at hl 0 rfl) ?_
  refine lv_if_lt (tgt := 10) F.x F.b dX5_checkStone_1 (by decide) (fun g1 => ?_) (fun g1 => ?_)
  · have h := h.1 g1
    exact xThrowW F hout hf C hl wx_265_269 0 (by decide) rfl ⟨Nat.le_of_ble_eq_true rfl, Nat.le_of_ble_eq_true rfl, Nat.le_of_ble_eq_true rfl, Nat.le_of_ble_eq_true rfl⟩ ⟨Nat.le_of_ble_eq_true rfl, Nat.le_of_ble_eq_true rfl⟩ h dX5_checkStone_10 dX5_checkStone_13 dX5_checkStone_14 dX5_checkStone_17 dX5_checkStone_20
  · have h := h.2 g1
    refine lv_iload_n F.x F.b dX5_checkStone_4 rfl (lv_at hl 0 rfl) ?_
    refine lv_bipush (v := 10) F.x F.b dX5_checkStone_5 (by decide) ?_
    refine lv_icmp_lt (tgt := 21) F.x F.b dX5_checkStone_7 (by decide) (fun g2 => ?_) (fun g2 => ?_)
    · have h := h.1 g2
      refine W.widen (k := 1) (n := 6) (Nat.le_of_ble_eq_true rfl) (Nat.le_of_ble_eq_true rfl) ?_
      exact vx_ret (retV F hr C h dX5_checkStone_21)
    · have h := h.2 g2
      exact xThrowW F hout hf C hl wx_265_269 0 (by decide) rfl ⟨Nat.le_of_ble_eq_true rfl, Nat.le_of_ble_eq_true rfl, Nat.le_of_ble_eq_true rfl, Nat.le_of_ble_eq_true rfl⟩ ⟨Nat.le_of_ble_eq_true rfl, Nat.le_of_ble_eq_true rfl⟩ h dX5_checkStone_10 dX5_checkStone_13 dX5_checkStone_14 dX5_checkStone_17 dX5_checkStone_20

def rmX5_checkRange : Room := { frames := 6, cells := 1, slots := 6, locals := 82 }
def mX5_checkRange (post : Mem → Prop) (px : String → Mem → Prop) (S : Mem) (v0 : Int32) (v1 : Int32) (v2 : Int32) : Prop := ((v0 < v1 → (px "java/lang/IllegalArgumentException" S)) ∧ (¬ v0 < v1 → (((v0 ≤ v2 → (post S)) ∧ (¬ v0 ≤ v2 → (px "java/lang/IllegalArgumentException" S))))))
set_option maxRecDepth 100000 in
set_option maxHeartbeats 4000000 in
theorem kX5_checkRange {l : Launch} {D : va_G} {ky : Nat → ClassId} {ad : Nat → Nat} {ex : Nat → Nat → Nat} {post : Mem → Prop} {px : String → Mem → Prop} {S : Mem} {v0 : Int32} {v1 : Int32} {v2 : Int32} (hf : l.stackTraces = false) (h : mX5_checkRange post px S v0 v1 v2) : CXv l D ky ad ex yX5_checkRange cX5_checkRange 3 none rmX5_checkRange 1 6 [.int v0, .int v1, .int v2] S post px := by
  refine CXv.of (by decide) (Nat.le_of_ble_eq_true rfl) (fun p e s m args below meth c ls F hr hout C hl => ?_)
  have hl : lv_has ls 3 [(0, .int v0), (1, .int v1), (2, .int v2)] := hl
  unfold mX5_checkRange at h
  refine lv_iload_n F.x F.b dX5_checkRange_0 rfl (lv_at hl 0 rfl) ?_
  refine lv_iload_n F.x F.b dX5_checkRange_1 rfl (lv_at hl 1 rfl) ?_
  refine lv_icmp_lt (tgt := 10) F.x F.b dX5_checkRange_2 (by decide) (fun g1 => ?_) (fun g1 => ?_)
  · have h := h.1 g1
    exact xThrowW F hout hf C hl wx_200_204 1 (by decide) rfl ⟨Nat.le_of_ble_eq_true rfl, Nat.le_of_ble_eq_true rfl, Nat.le_of_ble_eq_true rfl, Nat.le_of_ble_eq_true rfl⟩ ⟨Nat.le_of_ble_eq_true rfl, Nat.le_of_ble_eq_true rfl⟩ h dX5_checkRange_10 dX5_checkRange_13 dX5_checkRange_14 dX5_checkRange_17 dX5_checkRange_20
  · have h := h.2 g1
    refine lv_iload_n F.x F.b dX5_checkRange_5 rfl (lv_at hl 0 rfl) ?_
    refine lv_iload_n F.x F.b dX5_checkRange_6 rfl (lv_at hl 2 rfl) ?_
    refine lv_icmp_le (tgt := 21) F.x F.b dX5_checkRange_7 (by decide) (fun g2 => ?_) (fun g2 => ?_)
    · have h := h.1 g2
      refine W.widen (k := 1) (n := 6) (Nat.le_of_ble_eq_true rfl) (Nat.le_of_ble_eq_true rfl) ?_
      exact vx_ret (retV F hr C h dX5_checkRange_21)
    · have h := h.2 g2
      exact xThrowW F hout hf C hl wx_200_204 1 (by decide) rfl ⟨Nat.le_of_ble_eq_true rfl, Nat.le_of_ble_eq_true rfl, Nat.le_of_ble_eq_true rfl, Nat.le_of_ble_eq_true rfl⟩ ⟨Nat.le_of_ble_eq_true rfl, Nat.le_of_ble_eq_true rfl⟩ h dX5_checkRange_10 dX5_checkRange_13 dX5_checkRange_14 dX5_checkRange_17 dX5_checkRange_20

def rmX5_refuse : Room := { frames := 6, cells := 1, slots := 6, locals := 82 }
def mX5_refuse (post : Mem → Prop) (px : String → Mem → Prop) (S : Mem) (v1 : Int32) (v2 : Int32) : Prop := ∀ S1 : Mem, S1 = wr S 3 0 8 v1 → ∀ S2 : Mem, S2 = wr S1 3 0 9 v2 → px "java/lang/UnsupportedOperationException" S2
set_option maxRecDepth 100000 in
set_option maxHeartbeats 4000000 in
theorem kX5_refuse {l : Launch} {D : va_G} {ky : Nat → ClassId} {ad : Nat → Nat} {ex : Nat → Nat → Nat} {post : Mem → Prop} {px : String → Mem → Prop} {S : Mem} {v1 : Int32} {v2 : Int32} (hf : l.stackTraces = false) (h : mX5_refuse post px S v1 v2) : CXv l D ky ad ex yX5_refuse cX5_refuse 3 none rmX5_refuse 1 6 [.ref (ad 110), .int v1, .int v2] S post px := by
  refine CXv.of (by decide) (Nat.le_of_ble_eq_true rfl) (fun p e s m args below meth c ls F hr hout C hl => ?_)
  have hl : lv_has ls 3 [(0, .ref (ad 110)), (1, .int v1), (2, .int v2)] := hl
  unfold mX5_refuse at h
  refine lv_aload_n F.x F.b dX5_refuse_0 rfl (lv_at hl 0 rfl) ?_
  refine lv_iload_n F.x F.b dX5_refuse_1 rfl (lv_at hl 1 rfl) ?_
  refine putX F C 8 (by decide) q1_185 rfl (tyX5_ok 8 (by decide)) rfl rfl rfl dX5_refuse_2 (fun H locs C => ?_)
  obtain ⟨S1, eS1⟩ : ∃ z : Mem, z = wr S 3 0 8 v1 := ⟨_, rfl⟩
  rw [← eS1] at C
  have h := h S1 eS1
  refine lv_aload_n F.x F.b dX5_refuse_5 rfl (lv_at hl 0 rfl) ?_
  refine lv_iload_n F.x F.b dX5_refuse_6 rfl (lv_at hl 2 rfl) ?_
  refine putX F C 9 (by decide) q1_186 rfl (tyX5_ok 9 (by decide)) rfl rfl rfl dX5_refuse_7 (fun H locs C => ?_)
  obtain ⟨S2, eS2⟩ : ∃ z : Mem, z = wr S1 3 0 9 v2 := ⟨_, rfl⟩
  rw [← eS2] at C
  have h := h S2 eS2
  exact xThrowW F hout hf C hl wx_278_282 2 (by decide) rfl ⟨Nat.le_of_ble_eq_true rfl, Nat.le_of_ble_eq_true rfl, Nat.le_of_ble_eq_true rfl, Nat.le_of_ble_eq_true rfl⟩ ⟨Nat.le_of_ble_eq_true rfl, Nat.le_of_ble_eq_true rfl⟩ h dX5_refuse_10 dX5_refuse_13 dX5_refuse_14 dX5_refuse_17 dX5_refuse_20

def rmX5_height : Room := { frames := 7, cells := 3, slots := 18, locals := 104 }
def mX5_height_b32 (post : Int32 → Mem → Prop) (px : String → Mem → Prop) (S : Mem) (v1 : Int32) (v2 : Int32) : Prop := mX1_keep (fun (S1 : Mem) => vp_in v1 10 ∧ ∀ x4 : Int32, x4 = (S1 1 0 v1.toNatClampNeg) → vp_in v1 10 ∧ ∀ S6 : Mem, S6 = wr S1 1 0 v1.toNatClampNeg v2 → post x4 S6) S 0
def mX5_height (post : Int32 → Mem → Prop) (px : String → Mem → Prop) (S : Mem) (v1 : Int32) (v2 : Int32) : Prop := mX5_checkStone (fun (S1 : Mem) => mX5_checkRange (fun (S3 : Mem) => mX0_lowestOn (fun (r6 : Int32) (S5 : Mem) => ((r6 = (-1 : Int32) → (mX5_height_b32 post px S5 v1 v2)) ∧ (¬ r6 = (-1 : Int32) → (mX5_refuse (fun (S8 : Mem) => mX5_height_b32 post px S8 v1 v2) px S5 (6 : Int32) r6)))) S3 0 v1) px S1 v2 (1 : Int32) (30 : Int32)) px S v1
set_option maxRecDepth 100000 in
set_option maxHeartbeats 4000000 in
theorem bX5_height_32 {p : Program} {l : Launch} {e : Env} {s : State} {m : MethodId} {args : Array Value} {below : List Frame} {meth : Method} {c : Code} {D : va_G} {ky : Nat → ClassId} {ad : Nat → Nat} {ex : Nat → Nat → Nat} (F : Fx p s m args meth c D ky ad ex cX5_height 5 yX5_height.cls) (hr : meth.sig.returnType = (some .int)) (hout : ∀ x ∈ c.exceptionTable.toList, False) (hf : l.stackTraces = false) {post : Int32 → Mem → Prop} {px : String → Mem → Prop} : ∀ (S : Mem) (v1 : Int32) (v2 : Int32) (H : Heap) (locs : List Loc) (ls : Array Slot), mX5_height_b32 post px S v1 v2 → Cx D ky ad s S H locs → lv_has ls 5 [(0, .ref (ad 110)), (1, .int v1), (2, .int v2)] → W p l e rmX5_height s m args below meth c H locs 3 18 (vx_MQ below (va_Qi post (AFT D ky ad) (AW ad s.heap.size)) (XPX D ky ad px (AW ad s.heap.size)) args s 3 18 (AW ad s.heap.size)) (F0 m 32 ls []) := by
  intro S v1 v2 H locs ls  h C hl
  unfold mX5_height_b32 at h
  refine lv_aload_n F.x F.b dX5_height_32 rfl (lv_at hl 0 rfl) ?_
  refine getX F C 1 (by decide) q1_178 (v := .ref (ad 111)) rfl dX5_height_33 ?_
  refine lv_aload_n F.x F.b dX5_height_36 rfl (lv_at hl 0 rfl) ?_
  refine getX F C 0 (by decide) q1_177 (v := .ref (ad 0)) rfl dX5_height_37 ?_
  refine kV F C hl (kX1_keep  (by decide) h) (by decide) (ce_I _) rfl wv_X5_77 ⟨rfl, rfl, ⟨Nat.le_of_ble_eq_true rfl, Nat.le_of_ble_eq_true rfl⟩, ⟨Nat.le_of_ble_eq_true rfl, Nat.le_of_ble_eq_true rfl⟩, Nat.le_of_ble_eq_true rfl⟩ (rest := []) rfl dX5_height_40 (fun S1 H locs h C => ?_)
  refine lv_aload_n F.x F.b dX5_height_43 rfl (lv_at hl 0 rfl) ?_
  refine getX F C 0 (by decide) q1_177 (v := .ref (ad 0)) rfl dX5_height_44 ?_
  refine getFN F C (by decide) 0 (by decide) q1_85 (v := .ref (ad (10 + 0))) rfl dX5_height_47 ?_
  refine lv_iload_n F.x F.b dX5_height_50 rfl (lv_at hl 1 rfl) ?_
  obtain ⟨g3, h⟩ := h
  refine aldI F C (o := 10 + 0) (cq := 1) (iq := 0) (by decide) rfl rfl (ce_H (by decide) _) g3 dX5_height_51 ?_
  refine lv_topi (fun x4 ex4 => ?_)
  have h := h x4 ex4
  refine lv_istore (lv' := [(4, .int x4), (0, .ref (ad 110)), (1, .int v1), (2, .int v2)]) F.x F.b dX5_height_52 hl (by decide) rfl (fun ls hl => ?_)
  refine lv_aload_n F.x F.b dX5_height_54 rfl (lv_at hl 1 rfl) ?_
  refine getX F C 0 (by decide) q1_177 (v := .ref (ad 0)) rfl dX5_height_55 ?_
  refine getFN F C (by decide) 0 (by decide) q1_85 (v := .ref (ad (10 + 0))) rfl dX5_height_58 ?_
  refine lv_iload_n F.x F.b dX5_height_61 rfl (lv_at hl 2 rfl) ?_
  refine lv_iload_n F.x F.b dX5_height_62 rfl (lv_at hl 3 rfl) ?_
  obtain ⟨g5, h⟩ := h
  refine astI F C (o := 10 + 0) (cq := 1) (iq := 0) (by decide) rfl rfl (fun r => ce_H (by decide) r) g5 dX5_height_63 (fun H locs C => ?_)
  obtain ⟨S6, eS6⟩ : ∃ z : Mem, z = wr S1 1 0 v1.toNatClampNeg v2 := ⟨_, rfl⟩
  rw [← eS6] at C
  have h := h S6 eS6
  refine lv_iload F.x F.b dX5_height_64 (lv_at hl 0 rfl) ?_
  exact vx_ret (retI F hr C h dX5_height_66)
set_option maxRecDepth 100000 in
set_option maxHeartbeats 4000000 in
theorem kX5_height {l : Launch} {D : va_G} {ky : Nat → ClassId} {ad : Nat → Nat} {ex : Nat → Nat → Nat} {post : Int32 → Mem → Prop} {px : String → Mem → Prop} {S : Mem} {v1 : Int32} {v2 : Int32} (hf : l.stackTraces = false) (h : mX5_height post px S v1 v2) : CXi l D ky ad ex yX5_height cX5_height 5 (some .int) rmX5_height 3 18 [.ref (ad 110), .int v1, .int v2] S post px := by
  refine CXi.of (by decide) (Nat.le_of_ble_eq_true rfl) (fun p e s m args below meth c ls F hr hout C hl => ?_)
  have hl : lv_has ls 5 [(0, .ref (ad 110)), (1, .int v1), (2, .int v2)] := hl
  unfold mX5_height at h
  refine lv_iload_n F.x F.b dX5_height_0 rfl (lv_at hl 1 rfl) ?_
  refine kxSV F hout C hl (kX5_checkStone hf h) wv_X5_61 ⟨rfl, rfl, ⟨Nat.le_of_ble_eq_true rfl, Nat.le_of_ble_eq_true rfl⟩, ⟨Nat.le_of_ble_eq_true rfl, Nat.le_of_ble_eq_true rfl⟩, Nat.le_of_ble_eq_true rfl⟩ (rest := []) rfl dX5_height_1 ⟨Nat.le_of_ble_eq_true rfl, Nat.le_of_ble_eq_true rfl⟩ (fun S1 H locs h C => ?_)
  refine lv_iload_n F.x F.b dX5_height_4 rfl (lv_at hl 2 rfl) ?_
  refine lv_iconst (v := 1) F.x F.b dX5_height_5 (by decide) ?_
  refine lv_bipush (v := 30) F.x F.b dX5_height_6 (by decide) ?_
  refine kxSV F hout C hl (kX5_checkRange hf h) wv_X5_65 ⟨rfl, rfl, ⟨Nat.le_of_ble_eq_true rfl, Nat.le_of_ble_eq_true rfl⟩, ⟨Nat.le_of_ble_eq_true rfl, Nat.le_of_ble_eq_true rfl⟩, Nat.le_of_ble_eq_true rfl⟩ (rest := []) rfl dX5_height_8 ⟨Nat.le_of_ble_eq_true rfl, Nat.le_of_ble_eq_true rfl⟩ (fun S3 H locs h C => ?_)
  refine lv_aload_n F.x F.b dX5_height_11 rfl (lv_at hl 0 rfl) ?_
  refine getX F C 0 (by decide) q1_177 (v := .ref (ad 0)) rfl dX5_height_12 ?_
  refine lv_iload_n F.x F.b dX5_height_15 rfl (lv_at hl 1 rfl) ?_
  refine kI F C hl (kX0_lowestOn  (by decide) h) (by decide) (ce_F (by decide) _) rfl wv_X5_69 ⟨rfl, rfl, ⟨Nat.le_of_ble_eq_true rfl, Nat.le_of_ble_eq_true rfl⟩, ⟨Nat.le_of_ble_eq_true rfl, Nat.le_of_ble_eq_true rfl⟩, Nat.le_of_ble_eq_true rfl⟩ (rest := []) rfl dX5_height_16 (fun r6 S5 H locs h C => ?_)
  refine lv_istore_n (lv' := [(3, .int r6), (0, .ref (ad 110)), (1, .int v1), (2, .int v2)]) F.x F.b dX5_height_19 rfl hl (by decide) rfl (fun ls hl => ?_)
  refine lv_iload_n F.x F.b dX5_height_20 rfl (lv_at hl 0 rfl) ?_
  refine lv_iconst (v := -1) F.x F.b dX5_height_21 (by decide) ?_
  refine lv_icmp_eq (tgt := 32) F.x F.b dX5_height_22 (by decide) (fun g7 => ?_) (fun g7 => ?_)
  · have h := h.1 g7
    refine W.widen (k := 3) (n := 18) (Nat.le_of_ble_eq_true rfl) (Nat.le_of_ble_eq_true rfl) ?_
    exact bX5_height_32 F hr hout hf S5 v1 v2 _ _ _ h C (lv_sub hl [1, 2, 3] rfl)
  · have h := h.2 g7
    refine lv_aload_n F.x F.b dX5_height_25 rfl (lv_at hl 1 rfl) ?_
    refine lv_bipush (v := 6) F.x F.b dX5_height_26 (by decide) ?_
    refine lv_iload_n F.x F.b dX5_height_28 rfl (lv_at hl 0 rfl) ?_
    refine kxV F hout C hl (kX5_refuse hf h) (by decide) (ce_X _) rfl wv_X5_73 ⟨rfl, rfl, ⟨Nat.le_of_ble_eq_true rfl, Nat.le_of_ble_eq_true rfl⟩, ⟨Nat.le_of_ble_eq_true rfl, Nat.le_of_ble_eq_true rfl⟩, Nat.le_of_ble_eq_true rfl⟩ (rest := []) rfl dX5_height_29 ⟨Nat.le_of_ble_eq_true rfl, Nat.le_of_ble_eq_true rfl⟩ (fun S8 H locs h C => ?_)
    exact bX5_height_32 F hr hout hf S8 v1 v2 _ _ _ h C (lv_sub hl [1, 2, 3] rfl)

def rmX5_rain : Room := { frames := 7, cells := 1, slots := 6, locals := 104 }
def mX5_rain (post : Int32 → Mem → Prop) (px : String → Mem → Prop) (S : Mem) (v1 : Int32) : Prop := mX5_checkRange (fun (S1 : Mem) => mX1_keep (fun (S3 : Mem) => ∀ x5 : Int32, x5 = (S3 0 0 5) → ∀ S6 : Mem, S6 = wr S3 0 0 5 v1 → post x5 S6) S1 0) px S v1 (0 : Int32) (9 : Int32)
set_option maxRecDepth 100000 in
set_option maxHeartbeats 4000000 in
theorem kX5_rain {l : Launch} {D : va_G} {ky : Nat → ClassId} {ad : Nat → Nat} {ex : Nat → Nat → Nat} {post : Int32 → Mem → Prop} {px : String → Mem → Prop} {S : Mem} {v1 : Int32} (hf : l.stackTraces = false) (h : mX5_rain post px S v1) : CXi l D ky ad ex yX5_rain cX5_rain 3 (some .int) rmX5_rain 1 6 [.ref (ad 110), .int v1] S post px := by
  refine CXi.of (by decide) (Nat.le_of_ble_eq_true rfl) (fun p e s m args below meth c ls F hr hout C hl => ?_)
  have hl : lv_has ls 3 [(0, .ref (ad 110)), (1, .int v1)] := hl
  unfold mX5_rain at h
  refine lv_iload_n F.x F.b dX5_rain_0 rfl (lv_at hl 1 rfl) ?_
  refine lv_iconst (v := 0) F.x F.b dX5_rain_1 (by decide) ?_
  refine lv_bipush (v := 9) F.x F.b dX5_rain_2 (by decide) ?_
  refine kxSV F hout C hl (kX5_checkRange hf h) wv_X5_65 ⟨rfl, rfl, ⟨Nat.le_of_ble_eq_true rfl, Nat.le_of_ble_eq_true rfl⟩, ⟨Nat.le_of_ble_eq_true rfl, Nat.le_of_ble_eq_true rfl⟩, Nat.le_of_ble_eq_true rfl⟩ (rest := []) rfl dX5_rain_4 ⟨Nat.le_of_ble_eq_true rfl, Nat.le_of_ble_eq_true rfl⟩ (fun S1 H locs h C => ?_)
  refine lv_aload_n F.x F.b dX5_rain_7 rfl (lv_at hl 0 rfl) ?_
  refine getX F C 1 (by decide) q1_178 (v := .ref (ad 111)) rfl dX5_rain_8 ?_
  refine lv_aload_n F.x F.b dX5_rain_11 rfl (lv_at hl 0 rfl) ?_
  refine getX F C 0 (by decide) q1_177 (v := .ref (ad 0)) rfl dX5_rain_12 ?_
  refine kV F C hl (kX1_keep  (by decide) h) (by decide) (ce_I _) rfl wv_X5_77 ⟨rfl, rfl, ⟨Nat.le_of_ble_eq_true rfl, Nat.le_of_ble_eq_true rfl⟩, ⟨Nat.le_of_ble_eq_true rfl, Nat.le_of_ble_eq_true rfl⟩, Nat.le_of_ble_eq_true rfl⟩ (rest := []) rfl dX5_rain_15 (fun S3 H locs h C => ?_)
  refine lv_aload_n F.x F.b dX5_rain_18 rfl (lv_at hl 0 rfl) ?_
  refine getX F C 0 (by decide) q1_177 (v := .ref (ad 0)) rfl dX5_rain_19 ?_
  refine getFN F C (by decide) 5 (by decide) q1_97 (v := .int (S3 0 0 5)) rfl dX5_rain_22 ?_
  refine lv_topi (fun x5 ex5 => ?_)
  have h := h x5 ex5
  refine lv_istore_n (lv' := [(2, .int x5), (0, .ref (ad 110)), (1, .int v1)]) F.x F.b dX5_rain_25 rfl hl (by decide) rfl (fun ls hl => ?_)
  refine lv_aload_n F.x F.b dX5_rain_26 rfl (lv_at hl 1 rfl) ?_
  refine getX F C 0 (by decide) q1_177 (v := .ref (ad 0)) rfl dX5_rain_27 ?_
  refine lv_iload_n F.x F.b dX5_rain_30 rfl (lv_at hl 2 rfl) ?_
  refine putFN F C (by decide) 5 (by decide) q1_97 rfl (tyX0_ok 5 (by decide)) rfl rfl rfl dX5_rain_31 (fun H locs C => ?_)
  obtain ⟨S6, eS6⟩ : ∃ z : Mem, z = wr S3 0 0 5 v1 := ⟨_, rfl⟩
  rw [← eS6] at C
  have h := h S6 eS6
  refine lv_iload_n F.x F.b dX5_rain_34 rfl (lv_at hl 0 rfl) ?_
  exact vx_ret (retI F hr C h dX5_rain_35)

def rmX5_letters : Room := { frames := 7, cells := 2, slots := 12, locals := 104 }
def mX5_letters_b33 (post : Int32 → Mem → Prop) (px : String → Mem → Prop) (S : Mem) (v1 : Int32) : Prop := mX1_keep (fun (S1 : Mem) => ∀ S3 : Mem, S3 = wr S1 0 0 6 ((S1 0 0 6) + v1) → ∀ S4 : Mem, S4 = wr S3 0 0 8 ((S3 0 0 8) + v1) → post (S4 0 0 6) S4) S 0
def mX5_letters (post : Int32 → Mem → Prop) (px : String → Mem → Prop) (S : Mem) (v1 : Int32) : Prop := mX5_checkRange (fun (S1 : Mem) => ((((S1 0 0 6) + v1) ≤ (99 : Int32) → (mX5_letters_b33 post px S1 v1)) ∧ (¬ ((S1 0 0 6) + v1) ≤ (99 : Int32) → (mX5_refuse (fun (S4 : Mem) => mX5_letters_b33 post px S4 v1) px S1 (5 : Int32) (S1 0 0 6))))) px S v1 (1 : Int32) (50 : Int32)
set_option maxRecDepth 100000 in
set_option maxHeartbeats 4000000 in
theorem bX5_letters_33 {p : Program} {l : Launch} {e : Env} {s : State} {m : MethodId} {args : Array Value} {below : List Frame} {meth : Method} {c : Code} {D : va_G} {ky : Nat → ClassId} {ad : Nat → Nat} {ex : Nat → Nat → Nat} (F : Fx p s m args meth c D ky ad ex cX5_letters 2 yX5_letters.cls) (hr : meth.sig.returnType = (some .int)) (hout : ∀ x ∈ c.exceptionTable.toList, False) (hf : l.stackTraces = false) {post : Int32 → Mem → Prop} {px : String → Mem → Prop} : ∀ (S : Mem) (v1 : Int32) (H : Heap) (locs : List Loc) (ls : Array Slot), mX5_letters_b33 post px S v1 → Cx D ky ad s S H locs → lv_has ls 2 [(0, .ref (ad 110)), (1, .int v1)] → W p l e rmX5_letters s m args below meth c H locs 2 12 (vx_MQ below (va_Qi post (AFT D ky ad) (AW ad s.heap.size)) (XPX D ky ad px (AW ad s.heap.size)) args s 2 12 (AW ad s.heap.size)) (F0 m 33 ls []) := by
  intro S v1 H locs ls  h C hl
  unfold mX5_letters_b33 at h
  refine lv_aload_n F.x F.b dX5_letters_33 rfl (lv_at hl 0 rfl) ?_
  refine getX F C 1 (by decide) q1_178 (v := .ref (ad 111)) rfl dX5_letters_34 ?_
  refine lv_aload_n F.x F.b dX5_letters_37 rfl (lv_at hl 0 rfl) ?_
  refine getX F C 0 (by decide) q1_177 (v := .ref (ad 0)) rfl dX5_letters_38 ?_
  refine kV F C hl (kX1_keep  (by decide) h) (by decide) (ce_I _) rfl wv_X5_77 ⟨rfl, rfl, ⟨Nat.le_of_ble_eq_true rfl, Nat.le_of_ble_eq_true rfl⟩, ⟨Nat.le_of_ble_eq_true rfl, Nat.le_of_ble_eq_true rfl⟩, Nat.le_of_ble_eq_true rfl⟩ (rest := []) rfl dX5_letters_41 (fun S1 H locs h C => ?_)
  refine lv_aload_n F.x F.b dX5_letters_44 rfl (lv_at hl 0 rfl) ?_
  refine getX F C 0 (by decide) q1_177 (v := .ref (ad 0)) rfl dX5_letters_45 ?_
  refine lv_dup F.x F.b dX5_letters_48 rfl ?_
  refine getFN F C (by decide) 6 (by decide) q1_99 (v := .int (S1 0 0 6)) rfl dX5_letters_49 ?_
  refine lv_iload_n F.x F.b dX5_letters_52 rfl (lv_at hl 1 rfl) ?_
  refine lv_iadd F.x F.b dX5_letters_53 ?_
  refine putFN F C (by decide) 6 (by decide) q1_99 rfl (tyX0_ok 6 (by decide)) rfl rfl rfl dX5_letters_54 (fun H locs C => ?_)
  obtain ⟨S3, eS3⟩ : ∃ z : Mem, z = wr S1 0 0 6 ((S1 0 0 6) + v1) := ⟨_, rfl⟩
  rw [← eS3] at C
  have h := h S3 eS3
  refine lv_aload_n F.x F.b dX5_letters_57 rfl (lv_at hl 0 rfl) ?_
  refine getX F C 0 (by decide) q1_177 (v := .ref (ad 0)) rfl dX5_letters_58 ?_
  refine lv_dup F.x F.b dX5_letters_61 rfl ?_
  refine getFN F C (by decide) 8 (by decide) q1_103 (v := .int (S3 0 0 8)) rfl dX5_letters_62 ?_
  refine lv_iload_n F.x F.b dX5_letters_65 rfl (lv_at hl 1 rfl) ?_
  refine lv_iadd F.x F.b dX5_letters_66 ?_
  refine putFN F C (by decide) 8 (by decide) q1_103 rfl (tyX0_ok 8 (by decide)) rfl rfl rfl dX5_letters_67 (fun H locs C => ?_)
  obtain ⟨S4, eS4⟩ : ∃ z : Mem, z = wr S3 0 0 8 ((S3 0 0 8) + v1) := ⟨_, rfl⟩
  rw [← eS4] at C
  have h := h S4 eS4
  refine lv_aload_n F.x F.b dX5_letters_70 rfl (lv_at hl 0 rfl) ?_
  refine getX F C 0 (by decide) q1_177 (v := .ref (ad 0)) rfl dX5_letters_71 ?_
  refine getFN F C (by decide) 6 (by decide) q1_99 (v := .int (S4 0 0 6)) rfl dX5_letters_74 ?_
  exact vx_ret (retI F hr C h dX5_letters_77)
set_option maxRecDepth 100000 in
set_option maxHeartbeats 4000000 in
theorem kX5_letters {l : Launch} {D : va_G} {ky : Nat → ClassId} {ad : Nat → Nat} {ex : Nat → Nat → Nat} {post : Int32 → Mem → Prop} {px : String → Mem → Prop} {S : Mem} {v1 : Int32} (hf : l.stackTraces = false) (h : mX5_letters post px S v1) : CXi l D ky ad ex yX5_letters cX5_letters 2 (some .int) rmX5_letters 2 12 [.ref (ad 110), .int v1] S post px := by
  refine CXi.of (by decide) (Nat.le_of_ble_eq_true rfl) (fun p e s m args below meth c ls F hr hout C hl => ?_)
  have hl : lv_has ls 2 [(0, .ref (ad 110)), (1, .int v1)] := hl
  unfold mX5_letters at h
  refine lv_iload_n F.x F.b dX5_letters_0 rfl (lv_at hl 1 rfl) ?_
  refine lv_iconst (v := 1) F.x F.b dX5_letters_1 (by decide) ?_
  refine lv_bipush (v := 50) F.x F.b dX5_letters_2 (by decide) ?_
  refine kxSV F hout C hl (kX5_checkRange hf h) wv_X5_65 ⟨rfl, rfl, ⟨Nat.le_of_ble_eq_true rfl, Nat.le_of_ble_eq_true rfl⟩, ⟨Nat.le_of_ble_eq_true rfl, Nat.le_of_ble_eq_true rfl⟩, Nat.le_of_ble_eq_true rfl⟩ (rest := []) rfl dX5_letters_4 ⟨Nat.le_of_ble_eq_true rfl, Nat.le_of_ble_eq_true rfl⟩ (fun S1 H locs h C => ?_)
  refine lv_aload_n F.x F.b dX5_letters_7 rfl (lv_at hl 0 rfl) ?_
  refine getX F C 0 (by decide) q1_177 (v := .ref (ad 0)) rfl dX5_letters_8 ?_
  refine getFN F C (by decide) 6 (by decide) q1_99 (v := .int (S1 0 0 6)) rfl dX5_letters_11 ?_
  refine lv_iload_n F.x F.b dX5_letters_14 rfl (lv_at hl 1 rfl) ?_
  refine lv_iadd F.x F.b dX5_letters_15 ?_
  refine lv_bipush (v := 99) F.x F.b dX5_letters_16 (by decide) ?_
  refine lv_icmp_le (tgt := 33) F.x F.b dX5_letters_18 (by decide) (fun g3 => ?_) (fun g3 => ?_)
  · have h := h.1 g3
    refine W.widen (k := 2) (n := 12) (Nat.le_of_ble_eq_true rfl) (Nat.le_of_ble_eq_true rfl) ?_
    exact bX5_letters_33 F hr hout hf S1 v1 _ _ _ h C (lv_sub hl [0, 1] rfl)
  · have h := h.2 g3
    refine lv_aload_n F.x F.b dX5_letters_21 rfl (lv_at hl 0 rfl) ?_
    refine lv_iconst (v := 5) F.x F.b dX5_letters_22 (by decide) ?_
    refine lv_aload_n F.x F.b dX5_letters_23 rfl (lv_at hl 0 rfl) ?_
    refine getX F C 0 (by decide) q1_177 (v := .ref (ad 0)) rfl dX5_letters_24 ?_
    refine getFN F C (by decide) 6 (by decide) q1_99 (v := .int (S1 0 0 6)) rfl dX5_letters_27 ?_
    refine kxV F hout C hl (kX5_refuse hf h) (by decide) (ce_X _) rfl wv_X5_73 ⟨rfl, rfl, ⟨Nat.le_of_ble_eq_true rfl, Nat.le_of_ble_eq_true rfl⟩, ⟨Nat.le_of_ble_eq_true rfl, Nat.le_of_ble_eq_true rfl⟩, Nat.le_of_ble_eq_true rfl⟩ (rest := []) rfl dX5_letters_30 ⟨Nat.le_of_ble_eq_true rfl, Nat.le_of_ble_eq_true rfl⟩ (fun S4 H locs h C => ?_)
    exact bX5_letters_33 F hr hout hf S4 v1 _ _ _ h C (lv_sub hl [0, 1] rfl)

def rmX5_stoneOf : Room := { frames := 7, cells := 2, slots := 12, locals := 104 }
def mX5_stoneOf (post : Int32 → Mem → Prop) (px : String → Mem → Prop) (S : Mem) (v1 : Int32) (v2 : Int32) : Prop := mX5_checkStone (fun (S1 : Mem) => mX5_checkRange (fun (S3 : Mem) => ((¬ v2 = 0 → (((¬ v2 = (1 : Int32) → (mX0_countOn (fun (r8 : Int32) (S7 : Mem) => post r8 S7) S3 0 v1)) ∧ (v2 = (1 : Int32) → (mX0_stateOf (fun (r10 : Int32) (S9 : Mem) => post r10 S9) S3 0 v1 (S3 0 0 4)))))) ∧ (v2 = 0 → (vp_in v1 10 ∧ post (S3 1 0 v1.toNatClampNeg) S3)))) px S1 v2 (0 : Int32) (2 : Int32)) px S v1
set_option maxRecDepth 100000 in
set_option maxHeartbeats 4000000 in
theorem kX5_stoneOf {l : Launch} {D : va_G} {ky : Nat → ClassId} {ad : Nat → Nat} {ex : Nat → Nat → Nat} {post : Int32 → Mem → Prop} {px : String → Mem → Prop} {S : Mem} {v1 : Int32} {v2 : Int32} (hf : l.stackTraces = false) (h : mX5_stoneOf post px S v1 v2) : CXi l D ky ad ex yX5_stoneOf cX5_stoneOf 3 (some .int) rmX5_stoneOf 2 12 [.ref (ad 110), .int v1, .int v2] S post px := by
  refine CXi.of (by decide) (Nat.le_of_ble_eq_true rfl) (fun p e s m args below meth c ls F hr hout C hl => ?_)
  have hl : lv_has ls 3 [(0, .ref (ad 110)), (1, .int v1), (2, .int v2)] := hl
  unfold mX5_stoneOf at h
  refine lv_iload_n F.x F.b dX5_stoneOf_0 rfl (lv_at hl 1 rfl) ?_
  refine kxSV F hout C hl (kX5_checkStone hf h) wv_X5_61 ⟨rfl, rfl, ⟨Nat.le_of_ble_eq_true rfl, Nat.le_of_ble_eq_true rfl⟩, ⟨Nat.le_of_ble_eq_true rfl, Nat.le_of_ble_eq_true rfl⟩, Nat.le_of_ble_eq_true rfl⟩ (rest := []) rfl dX5_stoneOf_1 ⟨Nat.le_of_ble_eq_true rfl, Nat.le_of_ble_eq_true rfl⟩ (fun S1 H locs h C => ?_)
  refine lv_iload_n F.x F.b dX5_stoneOf_4 rfl (lv_at hl 2 rfl) ?_
  refine lv_iconst (v := 0) F.x F.b dX5_stoneOf_5 (by decide) ?_
  refine lv_iconst (v := 2) F.x F.b dX5_stoneOf_6 (by decide) ?_
  refine kxSV F hout C hl (kX5_checkRange hf h) wv_X5_65 ⟨rfl, rfl, ⟨Nat.le_of_ble_eq_true rfl, Nat.le_of_ble_eq_true rfl⟩, ⟨Nat.le_of_ble_eq_true rfl, Nat.le_of_ble_eq_true rfl⟩, Nat.le_of_ble_eq_true rfl⟩ (rest := []) rfl dX5_stoneOf_7 ⟨Nat.le_of_ble_eq_true rfl, Nat.le_of_ble_eq_true rfl⟩ (fun S3 H locs h C => ?_)
  refine lv_iload_n F.x F.b dX5_stoneOf_10 rfl (lv_at hl 2 rfl) ?_
  refine lv_if_ne (tgt := 24) F.x F.b dX5_stoneOf_11 (by decide) (fun g5 => ?_) (fun g5 => ?_)
  · have h := h.1 g5
    refine lv_iload_n F.x F.b dX5_stoneOf_24 rfl (lv_at hl 2 rfl) ?_
    refine lv_iconst (v := 1) F.x F.b dX5_stoneOf_25 (by decide) ?_
    refine lv_icmp_ne (tgt := 47) F.x F.b dX5_stoneOf_26 (by decide) (fun g6 => ?_) (fun g6 => ?_)
    · have h := h.1 g6
      refine lv_aload_n F.x F.b dX5_stoneOf_47 rfl (lv_at hl 0 rfl) ?_
      refine getX F C 0 (by decide) q1_177 (v := .ref (ad 0)) rfl dX5_stoneOf_48 ?_
      refine lv_iload_n F.x F.b dX5_stoneOf_51 rfl (lv_at hl 1 rfl) ?_
      refine kI F C hl (kX0_countOn  (by decide) h) (by decide) (ce_F (by decide) _) rfl wv_X5_100 ⟨rfl, rfl, ⟨Nat.le_of_ble_eq_true rfl, Nat.le_of_ble_eq_true rfl⟩, ⟨Nat.le_of_ble_eq_true rfl, Nat.le_of_ble_eq_true rfl⟩, Nat.le_of_ble_eq_true rfl⟩ (rest := []) rfl dX5_stoneOf_52 (fun r8 S7 H locs h C => ?_)
      exact vx_ret (retI F hr C h dX5_stoneOf_55)
    · have h := h.2 g6
      refine lv_aload_n F.x F.b dX5_stoneOf_29 rfl (lv_at hl 0 rfl) ?_
      refine getX F C 0 (by decide) q1_177 (v := .ref (ad 0)) rfl dX5_stoneOf_30 ?_
      refine lv_iload_n F.x F.b dX5_stoneOf_33 rfl (lv_at hl 1 rfl) ?_
      refine lv_aload_n F.x F.b dX5_stoneOf_34 rfl (lv_at hl 0 rfl) ?_
      refine getX F C 0 (by decide) q1_177 (v := .ref (ad 0)) rfl dX5_stoneOf_35 ?_
      refine getFN F C (by decide) 4 (by decide) q1_95 (v := .int (S3 0 0 4)) rfl dX5_stoneOf_38 ?_
      refine kI F C hl (kX0_stateOf  (by decide) h) (by decide) (ce_F (by decide) _) rfl wv_X5_96 ⟨rfl, rfl, ⟨Nat.le_of_ble_eq_true rfl, Nat.le_of_ble_eq_true rfl⟩, ⟨Nat.le_of_ble_eq_true rfl, Nat.le_of_ble_eq_true rfl⟩, Nat.le_of_ble_eq_true rfl⟩ (rest := []) rfl dX5_stoneOf_41 (fun r10 S9 H locs h C => ?_)
      refine lv_goto (tgt := 55) F.x F.b dX5_stoneOf_44 (by decide) ?_
      exact vx_ret (retI F hr C h dX5_stoneOf_55)
  · have h := h.2 g5
    refine lv_aload_n F.x F.b dX5_stoneOf_14 rfl (lv_at hl 0 rfl) ?_
    refine getX F C 0 (by decide) q1_177 (v := .ref (ad 0)) rfl dX5_stoneOf_15 ?_
    refine getFN F C (by decide) 0 (by decide) q1_85 (v := .ref (ad (10 + 0))) rfl dX5_stoneOf_18 ?_
    refine lv_iload_n F.x F.b dX5_stoneOf_21 rfl (lv_at hl 1 rfl) ?_
    obtain ⟨g11, h⟩ := h
    refine aldI F C (o := 10 + 0) (cq := 1) (iq := 0) (by decide) rfl rfl (ce_H (by decide) _) g11 dX5_stoneOf_22 ?_
    exact vx_ret (retI F hr C h dX5_stoneOf_23)

def rmX5_flood : Room := { frames := 7, cells := 1, slots := 6, locals := 104 }
def mX5_flood_b17 (post : Int32 → Mem → Prop) (px : String → Mem → Prop) : Nat → Mem → Int32 → Int32 → Int32 → Prop
  | 0, _, _, _, _ => False
  | n + 1, S, v1, v2, v3 => ((v1 ≤ v3 → (post v2 S)) ∧ (¬ v1 ≤ v3 → (mX0_levelAfterHour (fun (r3 : Int32) (S2 : Mem) => ∀ x4 : Int32, x4 = v3 + (1 : Int32) → mX5_flood_b17 post px n S2 v1 r3 x4) S 0 v2)))
def mX5_flood (post : Int32 → Mem → Prop) (px : String → Mem → Prop) (S : Mem) (v1 : Int32) : Prop := mX5_checkRange (fun (S1 : Mem) => ∀ x3 : Int32, x3 = (S1 0 0 4) → ∃ fu : Nat, mX5_flood_b17 post px fu S1 v1 x3 (0 : Int32)) px S v1 (0 : Int32) (60 : Int32)
set_option maxRecDepth 100000 in
set_option maxHeartbeats 4000000 in
theorem bX5_flood_17 {p : Program} {l : Launch} {e : Env} {s : State} {m : MethodId} {args : Array Value} {below : List Frame} {meth : Method} {c : Code} {D : va_G} {ky : Nat → ClassId} {ad : Nat → Nat} {ex : Nat → Nat → Nat} (F : Fx p s m args meth c D ky ad ex cX5_flood 4 yX5_flood.cls) (hr : meth.sig.returnType = (some .int)) (hout : ∀ x ∈ c.exceptionTable.toList, False) (hf : l.stackTraces = false) {post : Int32 → Mem → Prop} {px : String → Mem → Prop} : ∀ (n : Nat) (S : Mem) (v1 : Int32) (v2 : Int32) (v3 : Int32) (H : Heap) (locs : List Loc) (ls : Array Slot), mX5_flood_b17 post px n S v1 v2 v3 → Cx D ky ad s S H locs → lv_has ls 4 [(0, .ref (ad 110)), (1, .int v1), (2, .int v2), (3, .int v3)] → W p l e rmX5_flood s m args below meth c H locs 1 6 (vx_MQ below (va_Qi post (AFT D ky ad) (AW ad s.heap.size)) (XPX D ky ad px (AW ad s.heap.size)) args s 1 6 (AW ad s.heap.size)) (F0 m 17 ls []) := by
  intro n
  induction n with
  | zero =>
    intro S v1 v2 v3 H locs ls  h
    exact False.elim h
  | succ n ih =>
    intro S v1 v2 v3 H locs ls  h C hl
    refine lv_iload_n F.x F.b dX5_flood_17 rfl (lv_at hl 3 rfl) ?_
    refine lv_iload_n F.x F.b dX5_flood_18 rfl (lv_at hl 1 rfl) ?_
    refine lv_icmp_ge (tgt := 37) F.x F.b dX5_flood_19 (by decide) (fun g1 => ?_) (fun g1 => ?_)
    · have h := h.1 g1
      refine lv_iload_n F.x F.b dX5_flood_37 rfl (lv_at hl 2 rfl) ?_
      exact vx_ret (retI F hr C h dX5_flood_38)
    · have h := h.2 g1
      refine lv_aload_n F.x F.b dX5_flood_22 rfl (lv_at hl 0 rfl) ?_
      refine getX F C 0 (by decide) q1_177 (v := .ref (ad 0)) rfl dX5_flood_23 ?_
      refine lv_iload_n F.x F.b dX5_flood_26 rfl (lv_at hl 2 rfl) ?_
      refine kI F C hl (kX0_levelAfterHour  (by decide) h) (by decide) (ce_F (by decide) _) rfl wv_X5_103 ⟨rfl, rfl, ⟨Nat.le_of_ble_eq_true rfl, Nat.le_of_ble_eq_true rfl⟩, ⟨Nat.le_of_ble_eq_true rfl, Nat.le_of_ble_eq_true rfl⟩, Nat.le_of_ble_eq_true rfl⟩ (rest := []) rfl dX5_flood_27 (fun r3 S2 H locs h C => ?_)
      refine lv_istore_n (lv' := [(2, .int r3), (0, .ref (ad 110)), (1, .int v1), (3, .int v3)]) F.x F.b dX5_flood_30 rfl hl (by decide) rfl (fun ls hl => ?_)
      obtain ⟨x4, ex4⟩ : ∃ z : Int32, z = v3 + (1 : Int32) := ⟨_, rfl⟩
      have h := h x4 ex4
      refine lv_iinc (v := x4) (lv' := [(3, .int x4), (2, .int r3), (0, .ref (ad 110)), (1, .int v1)]) F.x F.b dX5_flood_31 hl (k := 3) rfl (by rw [ex4]; rfl) (by decide) rfl (fun ls hl => ?_)
      refine lv_goto (tgt := 17) F.x F.b dX5_flood_34 (by decide) ?_
      exact ih S2 v1 r3 x4 _ _ _ h C (lv_sub hl [2, 3, 1, 0] rfl)
set_option maxRecDepth 100000 in
set_option maxHeartbeats 4000000 in
theorem kX5_flood {l : Launch} {D : va_G} {ky : Nat → ClassId} {ad : Nat → Nat} {ex : Nat → Nat → Nat} {post : Int32 → Mem → Prop} {px : String → Mem → Prop} {S : Mem} {v1 : Int32} (hf : l.stackTraces = false) (h : mX5_flood post px S v1) : CXi l D ky ad ex yX5_flood cX5_flood 4 (some .int) rmX5_flood 1 6 [.ref (ad 110), .int v1] S post px := by
  refine CXi.of (by decide) (Nat.le_of_ble_eq_true rfl) (fun p e s m args below meth c ls F hr hout C hl => ?_)
  have hl : lv_has ls 4 [(0, .ref (ad 110)), (1, .int v1)] := hl
  unfold mX5_flood at h
  refine lv_iload_n F.x F.b dX5_flood_0 rfl (lv_at hl 1 rfl) ?_
  refine lv_iconst (v := 0) F.x F.b dX5_flood_1 (by decide) ?_
  refine lv_bipush (v := 60) F.x F.b dX5_flood_2 (by decide) ?_
  refine kxSV F hout C hl (kX5_checkRange hf h) wv_X5_65 ⟨rfl, rfl, ⟨Nat.le_of_ble_eq_true rfl, Nat.le_of_ble_eq_true rfl⟩, ⟨Nat.le_of_ble_eq_true rfl, Nat.le_of_ble_eq_true rfl⟩, Nat.le_of_ble_eq_true rfl⟩ (rest := []) rfl dX5_flood_4 ⟨Nat.le_of_ble_eq_true rfl, Nat.le_of_ble_eq_true rfl⟩ (fun S1 H locs h C => ?_)
  refine lv_aload_n F.x F.b dX5_flood_7 rfl (lv_at hl 0 rfl) ?_
  refine getX F C 0 (by decide) q1_177 (v := .ref (ad 0)) rfl dX5_flood_8 ?_
  refine getFN F C (by decide) 4 (by decide) q1_95 (v := .int (S1 0 0 4)) rfl dX5_flood_11 ?_
  refine lv_topi (fun x3 ex3 => ?_)
  have h := h x3 ex3
  refine lv_istore_n (lv' := [(2, .int x3), (0, .ref (ad 110)), (1, .int v1)]) F.x F.b dX5_flood_14 rfl hl (by decide) rfl (fun ls hl => ?_)
  refine lv_iconst (v := 0) F.x F.b dX5_flood_15 (by decide) ?_
  refine lv_istore_n (lv' := [(3, .int (0 : Int32)), (2, .int x3), (0, .ref (ad 110)), (1, .int v1)]) F.x F.b dX5_flood_16 rfl hl (by decide) rfl (fun ls hl => ?_)
  obtain ⟨n4, h⟩ := h
  exact bX5_flood_17 F hr hout hf n4 S1 v1 x3 (0 : Int32) _ _ _ h C (lv_sub hl [2, 3, 1, 0] rfl)

def rmX5_floodAgain : Room := { frames := 7, cells := 1, slots := 6, locals := 104 }
def mX5_floodAgain (post : Int32 → Mem → Prop) (px : String → Mem → Prop) (S : Mem) (v1 : Int32) : Prop := mX5_checkRange (fun (S1 : Mem) => mX0_levelOnTheWayToRest (fun (r4 : Int32) (S3 : Mem) => post r4 S3) S1 0 v1) px S v1 (0 : Int32) (60 : Int32)
set_option maxRecDepth 100000 in
set_option maxHeartbeats 4000000 in
theorem kX5_floodAgain {l : Launch} {D : va_G} {ky : Nat → ClassId} {ad : Nat → Nat} {ex : Nat → Nat → Nat} {post : Int32 → Mem → Prop} {px : String → Mem → Prop} {S : Mem} {v1 : Int32} (hf : l.stackTraces = false) (h : mX5_floodAgain post px S v1) : CXi l D ky ad ex yX5_floodAgain cX5_floodAgain 2 (some .int) rmX5_floodAgain 1 6 [.ref (ad 110), .int v1] S post px := by
  refine CXi.of (by decide) (Nat.le_of_ble_eq_true rfl) (fun p e s m args below meth c ls F hr hout C hl => ?_)
  have hl : lv_has ls 2 [(0, .ref (ad 110)), (1, .int v1)] := hl
  unfold mX5_floodAgain at h
  refine lv_iload_n F.x F.b dX5_floodAgain_0 rfl (lv_at hl 1 rfl) ?_
  refine lv_iconst (v := 0) F.x F.b dX5_floodAgain_1 (by decide) ?_
  refine lv_bipush (v := 60) F.x F.b dX5_floodAgain_2 (by decide) ?_
  refine kxSV F hout C hl (kX5_checkRange hf h) wv_X5_65 ⟨rfl, rfl, ⟨Nat.le_of_ble_eq_true rfl, Nat.le_of_ble_eq_true rfl⟩, ⟨Nat.le_of_ble_eq_true rfl, Nat.le_of_ble_eq_true rfl⟩, Nat.le_of_ble_eq_true rfl⟩ (rest := []) rfl dX5_floodAgain_4 ⟨Nat.le_of_ble_eq_true rfl, Nat.le_of_ble_eq_true rfl⟩ (fun S1 H locs h C => ?_)
  refine lv_aload_n F.x F.b dX5_floodAgain_7 rfl (lv_at hl 0 rfl) ?_
  refine getX F C 0 (by decide) q1_177 (v := .ref (ad 0)) rfl dX5_floodAgain_8 ?_
  refine lv_iload_n F.x F.b dX5_floodAgain_11 rfl (lv_at hl 1 rfl) ?_
  refine kI F C hl (kX0_levelOnTheWayToRest  (by decide) h) (by decide) (ce_F (by decide) _) rfl wv_X5_106 ⟨rfl, rfl, ⟨Nat.le_of_ble_eq_true rfl, Nat.le_of_ble_eq_true rfl⟩, ⟨Nat.le_of_ble_eq_true rfl, Nat.le_of_ble_eq_true rfl⟩, Nat.le_of_ble_eq_true rfl⟩ (rest := []) rfl dX5_floodAgain_12 (fun r4 S3 H locs h C => ?_)
  exact vx_ret (retI F hr C h dX5_floodAgain_15)

def rmX5_clearIn : Room := { frames := 6, cells := 1, slots := 6, locals := 82 }
def mX5_clearIn_b18 (post : Int32 → Mem → Prop) (px : String → Mem → Prop) : Nat → Mem → Int32 → Int32 → Int32 → Prop
  | 0, _, _, _, _ => False
  | n + 1, S, v1, v2, v3 => (((60 : Int32) < v3 → (px "java/util/NoSuchElementException" S)) ∧ (¬ (60 : Int32) < v3 → (((v1 < v2 → (mX0_levelAfterHour (fun (r4 : Int32) (S3 : Mem) => ∀ x5 : Int32, x5 = v3 + (1 : Int32) → mX5_clearIn_b18 post px n S3 v1 r4 x5) S 0 v2)) ∧ (¬ v1 < v2 → (post v3 S))))))
def mX5_clearIn (post : Int32 → Mem → Prop) (px : String → Mem → Prop) (S : Mem) : Prop := mX0_lowestHeight (fun (r2 : Int32) (S1 : Mem) => ∀ x3 : Int32, x3 = (S1 0 0 4) → ∃ fu : Nat, mX5_clearIn_b18 post px fu S1 r2 x3 (0 : Int32)) S 0
set_option maxRecDepth 100000 in
set_option maxHeartbeats 4000000 in
theorem bX5_clearIn_18 {p : Program} {l : Launch} {e : Env} {s : State} {m : MethodId} {args : Array Value} {below : List Frame} {meth : Method} {c : Code} {D : va_G} {ky : Nat → ClassId} {ad : Nat → Nat} {ex : Nat → Nat → Nat} (F : Fx p s m args meth c D ky ad ex cX5_clearIn 4 yX5_clearIn.cls) (hr : meth.sig.returnType = (some .int)) (hout : ∀ x ∈ c.exceptionTable.toList, False) (hf : l.stackTraces = false) {post : Int32 → Mem → Prop} {px : String → Mem → Prop} : ∀ (n : Nat) (S : Mem) (v1 : Int32) (v2 : Int32) (v3 : Int32) (H : Heap) (locs : List Loc) (ls : Array Slot), mX5_clearIn_b18 post px n S v1 v2 v3 → Cx D ky ad s S H locs → lv_has ls 4 [(0, .ref (ad 110)), (1, .int v1), (2, .int v2), (3, .int v3)] → W p l e rmX5_clearIn s m args below meth c H locs 0 0 (vx_MQ below (va_Qi post (AFT D ky ad) (AW ad s.heap.size)) (XPX D ky ad px (AW ad s.heap.size)) args s 1 6 (AW ad s.heap.size)) (F0 m 18 ls []) := by
  intro n
  induction n with
  | zero =>
    intro S v1 v2 v3 H locs ls  h
    exact False.elim h
  | succ n ih =>
    intro S v1 v2 v3 H locs ls  h C hl
    refine lv_iload_n F.x F.b dX5_clearIn_18 rfl (lv_at hl 3 rfl) ?_
    refine lv_bipush (v := 60) F.x F.b dX5_clearIn_19 (by decide) ?_
    refine lv_icmp_gt (tgt := 46) F.x F.b dX5_clearIn_21 (by decide) (fun g1 => ?_) (fun g1 => ?_)
    · have h := h.1 g1
      exact xThrowN F hout hf C hl wx_113_117 3 (by decide) rfl ⟨Nat.le_of_ble_eq_true rfl, Nat.le_of_ble_eq_true rfl, Nat.le_of_ble_eq_true rfl, Nat.le_of_ble_eq_true rfl⟩ ⟨Nat.le_of_ble_eq_true rfl, Nat.le_of_ble_eq_true rfl⟩ h dX5_clearIn_46 dX5_clearIn_49 dX5_clearIn_50 dX5_clearIn_52 dX5_clearIn_55
    · have h := h.2 g1
      refine lv_iload_n F.x F.b dX5_clearIn_24 rfl (lv_at hl 2 rfl) ?_
      refine lv_iload_n F.x F.b dX5_clearIn_25 rfl (lv_at hl 1 rfl) ?_
      refine lv_icmp_gt (tgt := 31) F.x F.b dX5_clearIn_26 (by decide) (fun g2 => ?_) (fun g2 => ?_)
      · have h := h.1 g2
        refine lv_aload_n F.x F.b dX5_clearIn_31 rfl (lv_at hl 0 rfl) ?_
        refine getX F C 0 (by decide) q1_177 (v := .ref (ad 0)) rfl dX5_clearIn_32 ?_
        refine lv_iload_n F.x F.b dX5_clearIn_35 rfl (lv_at hl 2 rfl) ?_
        refine kI F C hl (kX0_levelAfterHour  (by decide) h) (by decide) (ce_F (by decide) _) rfl wv_X5_103 ⟨rfl, rfl, ⟨Nat.le_of_ble_eq_true rfl, Nat.le_of_ble_eq_true rfl⟩, ⟨Nat.le_of_ble_eq_true rfl, Nat.le_of_ble_eq_true rfl⟩, Nat.le_of_ble_eq_true rfl⟩ (rest := []) rfl dX5_clearIn_36 (fun r4 S3 H locs h C => ?_)
        refine lv_istore_n (lv' := [(2, .int r4), (0, .ref (ad 110)), (1, .int v1), (3, .int v3)]) F.x F.b dX5_clearIn_39 rfl hl (by decide) rfl (fun ls hl => ?_)
        obtain ⟨x5, ex5⟩ : ∃ z : Int32, z = v3 + (1 : Int32) := ⟨_, rfl⟩
        have h := h x5 ex5
        refine lv_iinc (v := x5) (lv' := [(3, .int x5), (2, .int r4), (0, .ref (ad 110)), (1, .int v1)]) F.x F.b dX5_clearIn_40 hl (k := 3) rfl (by rw [ex5]; rfl) (by decide) rfl (fun ls hl => ?_)
        refine lv_goto (tgt := 18) F.x F.b dX5_clearIn_43 (by decide) ?_
        exact ih S3 v1 r4 x5 _ _ _ h C (lv_sub hl [2, 3, 1, 0] rfl)
      · have h := h.2 g2
        refine lv_iload_n F.x F.b dX5_clearIn_29 rfl (lv_at hl 3 rfl) ?_
        refine W.widen (k := 1) (n := 6) (Nat.le_of_ble_eq_true rfl) (Nat.le_of_ble_eq_true rfl) ?_
        exact vx_ret (retI F hr C h dX5_clearIn_30)
set_option maxRecDepth 100000 in
set_option maxHeartbeats 4000000 in
theorem kX5_clearIn {l : Launch} {D : va_G} {ky : Nat → ClassId} {ad : Nat → Nat} {ex : Nat → Nat → Nat} {post : Int32 → Mem → Prop} {px : String → Mem → Prop} {S : Mem} (hf : l.stackTraces = false) (h : mX5_clearIn post px S ) : CXi l D ky ad ex yX5_clearIn cX5_clearIn 4 (some .int) rmX5_clearIn 1 6 [.ref (ad 110)] S post px := by
  refine CXi.of (by decide) (Nat.le_of_ble_eq_true rfl) (fun p e s m args below meth c ls F hr hout C hl => ?_)
  have hl : lv_has ls 4 [(0, .ref (ad 110))] := hl
  unfold mX5_clearIn at h
  refine lv_aload_n F.x F.b dX5_clearIn_0 rfl (lv_at hl 0 rfl) ?_
  refine getX F C 0 (by decide) q1_177 (v := .ref (ad 0)) rfl dX5_clearIn_1 ?_
  refine kI F C hl (kX0_lowestHeight  (by decide) h) (by decide) (ce_F (by decide) _) rfl wv_X5_109 ⟨rfl, rfl, ⟨Nat.le_of_ble_eq_true rfl, Nat.le_of_ble_eq_true rfl⟩, ⟨Nat.le_of_ble_eq_true rfl, Nat.le_of_ble_eq_true rfl⟩, Nat.le_of_ble_eq_true rfl⟩ (rest := []) rfl dX5_clearIn_4 (fun r2 S1 H locs h C => ?_)
  refine lv_istore_n (lv' := [(1, .int r2), (0, .ref (ad 110))]) F.x F.b dX5_clearIn_7 rfl hl (by decide) rfl (fun ls hl => ?_)
  refine lv_aload_n F.x F.b dX5_clearIn_8 rfl (lv_at hl 1 rfl) ?_
  refine getX F C 0 (by decide) q1_177 (v := .ref (ad 0)) rfl dX5_clearIn_9 ?_
  refine getFN F C (by decide) 4 (by decide) q1_95 (v := .int (S1 0 0 4)) rfl dX5_clearIn_12 ?_
  refine lv_topi (fun x3 ex3 => ?_)
  have h := h x3 ex3
  refine lv_istore_n (lv' := [(2, .int x3), (1, .int r2), (0, .ref (ad 110))]) F.x F.b dX5_clearIn_15 rfl hl (by decide) rfl (fun ls hl => ?_)
  refine lv_iconst (v := 0) F.x F.b dX5_clearIn_16 (by decide) ?_
  refine lv_istore_n (lv' := [(3, .int (0 : Int32)), (2, .int x3), (1, .int r2), (0, .ref (ad 110))]) F.x F.b dX5_clearIn_17 rfl hl (by decide) rfl (fun ls hl => ?_)
  obtain ⟨n4, h⟩ := h
  exact bX5_clearIn_18 F hr hout hf n4 S1 r2 x3 (0 : Int32) _ _ _ h C (lv_sub hl [3, 2, 1, 0] rfl)

def rmX5_traveller : Room := { frames := 7, cells := 2, slots := 12, locals := 104 }
def mX5_traveller_b31 (post : Int32 → Mem → Prop) (px : String → Mem → Prop) (S : Mem) (v1 : Int32) : Prop := mX1_keep (fun (S1 : Mem) => mX0_welcome (fun (r4 : Int32) (S3 : Mem) => post r4 S3) S1 0 v1) S 0
def mX5_traveller (post : Int32 → Mem → Prop) (px : String → Mem → Prop) (S : Mem) (v1 : Int32) : Prop := mX5_checkRange (fun (S1 : Mem) => (((S1 0 0 2) < (8 : Int32) → (mX5_traveller_b31 post px S1 v1)) ∧ (¬ (S1 0 0 2) < (8 : Int32) → (mX5_refuse (fun (S4 : Mem) => mX5_traveller_b31 post px S4 v1) px S1 (1 : Int32) (S1 0 0 2))))) px S v1 (0 : Int32) (20 : Int32)
set_option maxRecDepth 100000 in
set_option maxHeartbeats 4000000 in
theorem bX5_traveller_31 {p : Program} {l : Launch} {e : Env} {s : State} {m : MethodId} {args : Array Value} {below : List Frame} {meth : Method} {c : Code} {D : va_G} {ky : Nat → ClassId} {ad : Nat → Nat} {ex : Nat → Nat → Nat} (F : Fx p s m args meth c D ky ad ex cX5_traveller 2 yX5_traveller.cls) (hr : meth.sig.returnType = (some .int)) (hout : ∀ x ∈ c.exceptionTable.toList, False) (hf : l.stackTraces = false) {post : Int32 → Mem → Prop} {px : String → Mem → Prop} : ∀ (S : Mem) (v1 : Int32) (H : Heap) (locs : List Loc) (ls : Array Slot), mX5_traveller_b31 post px S v1 → Cx D ky ad s S H locs → lv_has ls 2 [(0, .ref (ad 110)), (1, .int v1)] → W p l e rmX5_traveller s m args below meth c H locs 2 12 (vx_MQ below (va_Qi post (AFT D ky ad) (AW ad s.heap.size)) (XPX D ky ad px (AW ad s.heap.size)) args s 2 12 (AW ad s.heap.size)) (F0 m 31 ls []) := by
  intro S v1 H locs ls  h C hl
  unfold mX5_traveller_b31 at h
  refine lv_aload_n F.x F.b dX5_traveller_31 rfl (lv_at hl 0 rfl) ?_
  refine getX F C 1 (by decide) q1_178 (v := .ref (ad 111)) rfl dX5_traveller_32 ?_
  refine lv_aload_n F.x F.b dX5_traveller_35 rfl (lv_at hl 0 rfl) ?_
  refine getX F C 0 (by decide) q1_177 (v := .ref (ad 0)) rfl dX5_traveller_36 ?_
  refine kV F C hl (kX1_keep  (by decide) h) (by decide) (ce_I _) rfl wv_X5_77 ⟨rfl, rfl, ⟨Nat.le_of_ble_eq_true rfl, Nat.le_of_ble_eq_true rfl⟩, ⟨Nat.le_of_ble_eq_true rfl, Nat.le_of_ble_eq_true rfl⟩, Nat.le_of_ble_eq_true rfl⟩ (rest := []) rfl dX5_traveller_39 (fun S1 H locs h C => ?_)
  refine lv_aload_n F.x F.b dX5_traveller_42 rfl (lv_at hl 0 rfl) ?_
  refine getX F C 0 (by decide) q1_177 (v := .ref (ad 0)) rfl dX5_traveller_43 ?_
  refine lv_iload_n F.x F.b dX5_traveller_46 rfl (lv_at hl 1 rfl) ?_
  refine kI F C hl (kX0_welcome  (by decide) h) (by decide) (ce_F (by decide) _) rfl wv_X5_123 ⟨rfl, rfl, ⟨Nat.le_of_ble_eq_true rfl, Nat.le_of_ble_eq_true rfl⟩, ⟨Nat.le_of_ble_eq_true rfl, Nat.le_of_ble_eq_true rfl⟩, Nat.le_of_ble_eq_true rfl⟩ (rest := []) rfl dX5_traveller_47 (fun r4 S3 H locs h C => ?_)
  exact vx_ret (retI F hr C h dX5_traveller_50)
set_option maxRecDepth 100000 in
set_option maxHeartbeats 4000000 in
theorem kX5_traveller {l : Launch} {D : va_G} {ky : Nat → ClassId} {ad : Nat → Nat} {ex : Nat → Nat → Nat} {post : Int32 → Mem → Prop} {px : String → Mem → Prop} {S : Mem} {v1 : Int32} (hf : l.stackTraces = false) (h : mX5_traveller post px S v1) : CXi l D ky ad ex yX5_traveller cX5_traveller 2 (some .int) rmX5_traveller 2 12 [.ref (ad 110), .int v1] S post px := by
  refine CXi.of (by decide) (Nat.le_of_ble_eq_true rfl) (fun p e s m args below meth c ls F hr hout C hl => ?_)
  have hl : lv_has ls 2 [(0, .ref (ad 110)), (1, .int v1)] := hl
  unfold mX5_traveller at h
  refine lv_iload_n F.x F.b dX5_traveller_0 rfl (lv_at hl 1 rfl) ?_
  refine lv_iconst (v := 0) F.x F.b dX5_traveller_1 (by decide) ?_
  refine lv_bipush (v := 20) F.x F.b dX5_traveller_2 (by decide) ?_
  refine kxSV F hout C hl (kX5_checkRange hf h) wv_X5_65 ⟨rfl, rfl, ⟨Nat.le_of_ble_eq_true rfl, Nat.le_of_ble_eq_true rfl⟩, ⟨Nat.le_of_ble_eq_true rfl, Nat.le_of_ble_eq_true rfl⟩, Nat.le_of_ble_eq_true rfl⟩ (rest := []) rfl dX5_traveller_4 ⟨Nat.le_of_ble_eq_true rfl, Nat.le_of_ble_eq_true rfl⟩ (fun S1 H locs h C => ?_)
  refine lv_aload_n F.x F.b dX5_traveller_7 rfl (lv_at hl 0 rfl) ?_
  refine getX F C 0 (by decide) q1_177 (v := .ref (ad 0)) rfl dX5_traveller_8 ?_
  refine getFN F C (by decide) 2 (by decide) q1_90 (v := .int (S1 0 0 2)) rfl dX5_traveller_11 ?_
  refine lv_bipush (v := 8) F.x F.b dX5_traveller_14 (by decide) ?_
  refine lv_icmp_lt (tgt := 31) F.x F.b dX5_traveller_16 (by decide) (fun g3 => ?_) (fun g3 => ?_)
  · have h := h.1 g3
    refine W.widen (k := 2) (n := 12) (Nat.le_of_ble_eq_true rfl) (Nat.le_of_ble_eq_true rfl) ?_
    exact bX5_traveller_31 F hr hout hf S1 v1 _ _ _ h C (lv_sub hl [0, 1] rfl)
  · have h := h.2 g3
    refine lv_aload_n F.x F.b dX5_traveller_19 rfl (lv_at hl 0 rfl) ?_
    refine lv_iconst (v := 1) F.x F.b dX5_traveller_20 (by decide) ?_
    refine lv_aload_n F.x F.b dX5_traveller_21 rfl (lv_at hl 0 rfl) ?_
    refine getX F C 0 (by decide) q1_177 (v := .ref (ad 0)) rfl dX5_traveller_22 ?_
    refine getFN F C (by decide) 2 (by decide) q1_90 (v := .int (S1 0 0 2)) rfl dX5_traveller_25 ?_
    refine kxV F hout C hl (kX5_refuse hf h) (by decide) (ce_X _) rfl wv_X5_73 ⟨rfl, rfl, ⟨Nat.le_of_ble_eq_true rfl, Nat.le_of_ble_eq_true rfl⟩, ⟨Nat.le_of_ble_eq_true rfl, Nat.le_of_ble_eq_true rfl⟩, Nat.le_of_ble_eq_true rfl⟩ (rest := []) rfl dX5_traveller_28 ⟨Nat.le_of_ble_eq_true rfl, Nat.le_of_ble_eq_true rfl⟩ (fun S4 H locs h C => ?_)
    exact bX5_traveller_31 F hr hout hf S4 v1 _ _ _ h C (lv_sub hl [0, 1] rfl)

def rmX5_found : Room := { frames := 6, cells := 1, slots := 6, locals := 82 }
def mX5_found (post : Nat → Mem → Prop) (px : String → Mem → Prop) (S : Mem) (v1 : Int32) : Prop := ((v1 < 0 → (px "java/lang/IndexOutOfBoundsException" S)) ∧ (¬ v1 < 0 → (((v1 < (S 0 0 2) → (vp_in v1 8 ∧ ∀ k4 : Nat, k4 = 8 * 0 + v1.toNatClampNeg → post k4 S)) ∧ (¬ v1 < (S 0 0 2) → (px "java/lang/IndexOutOfBoundsException" S))))))
set_option maxRecDepth 100000 in
set_option maxHeartbeats 4000000 in
theorem kX5_found {l : Launch} {D : va_G} {ky : Nat → ClassId} {ad : Nat → Nat} {ex : Nat → Nat → Nat} {post : Nat → Mem → Prop} {px : String → Mem → Prop} {S : Mem} {v1 : Int32} (hf : l.stackTraces = false) (h : mX5_found post px S v1) : CXr l D ky ad ex yX5_found cX5_found 2 (some (.object "FordToll$Traveller")) rmX5_found 1 6 [.ref (ad 110), .int v1] S post px := by
  refine CXr.of (by decide) (Nat.le_of_ble_eq_true rfl) (fun p e s m args below meth c ls F hr hout C hl => ?_)
  have hl : lv_has ls 2 [(0, .ref (ad 110)), (1, .int v1)] := hl
  unfold mX5_found at h
  refine lv_iload_n F.x F.b dX5_found_0 rfl (lv_at hl 1 rfl) ?_
  refine lv_if_lt (tgt := 15) F.x F.b dX5_found_1 (by decide) (fun g1 => ?_) (fun g1 => ?_)
  · have h := h.1 g1
    exact xThrowW F hout hf C hl wx_265_269 4 (by decide) rfl ⟨Nat.le_of_ble_eq_true rfl, Nat.le_of_ble_eq_true rfl, Nat.le_of_ble_eq_true rfl, Nat.le_of_ble_eq_true rfl⟩ ⟨Nat.le_of_ble_eq_true rfl, Nat.le_of_ble_eq_true rfl⟩ h dX5_found_15 dX5_found_18 dX5_found_19 dX5_found_22 dX5_found_25
  · have h := h.2 g1
    refine lv_iload_n F.x F.b dX5_found_4 rfl (lv_at hl 1 rfl) ?_
    refine lv_aload_n F.x F.b dX5_found_5 rfl (lv_at hl 0 rfl) ?_
    refine getX F C 0 (by decide) q1_177 (v := .ref (ad 0)) rfl dX5_found_6 ?_
    refine getFN F C (by decide) 2 (by decide) q1_90 (v := .int (S 0 0 2)) rfl dX5_found_9 ?_
    refine lv_icmp_lt (tgt := 26) F.x F.b dX5_found_12 (by decide) (fun g2 => ?_) (fun g2 => ?_)
    · have h := h.1 g2
      refine lv_aload_n F.x F.b dX5_found_26 rfl (lv_at hl 0 rfl) ?_
      refine getX F C 0 (by decide) q1_177 (v := .ref (ad 0)) rfl dX5_found_27 ?_
      refine getFN F C (by decide) 1 (by decide) q1_88 (v := .ref (ad (100 + 0))) rfl dX5_found_30 ?_
      refine lv_iload_n F.x F.b dX5_found_33 rfl (lv_at hl 1 rfl) ?_
      obtain ⟨g3, h⟩ := h
      refine aldT F C (by decide) g3 dX5_found_34 ?_
      obtain ⟨k4, ek4⟩ : ∃ z : Nat, z = 8 * 0 + v1.toNatClampNeg := ⟨_, rfl⟩
      have hk4 : k4 < 80 := by rw [ek4]; exact tv_lt g3 (by decide)
      rw [← ek4]
      have h := h k4 ek4
      refine W.widen (k := 1) (n := 6) (Nat.le_of_ble_eq_true rfl) (Nat.le_of_ble_eq_true rfl) ?_
      exact vx_ret (retR F hr C hk4 h dX5_found_35)
    · have h := h.2 g2
      exact xThrowW F hout hf C hl wx_265_269 4 (by decide) rfl ⟨Nat.le_of_ble_eq_true rfl, Nat.le_of_ble_eq_true rfl, Nat.le_of_ble_eq_true rfl, Nat.le_of_ble_eq_true rfl⟩ ⟨Nat.le_of_ble_eq_true rfl, Nat.le_of_ble_eq_true rfl⟩ h dX5_found_15 dX5_found_18 dX5_found_19 dX5_found_22 dX5_found_25

def rmX5_travellerOf : Room := { frames := 7, cells := 2, slots := 12, locals := 104 }
def mX5_travellerOf (post : Int32 → Mem → Prop) (px : String → Mem → Prop) (S : Mem) (v1 : Int32) (v2 : Int32) : Prop := mX5_found (fun (r2 : Nat) (S1 : Mem) => mX5_checkRange (fun (S3 : Mem) => mX3_numberOf (fun (r6 : Int32) (S5 : Mem) => post r6 S5) S3 r2 v2) px S1 v2 (0 : Int32) (8 : Int32)) px S v1
set_option maxRecDepth 100000 in
set_option maxHeartbeats 4000000 in
theorem kX5_travellerOf {l : Launch} {D : va_G} {ky : Nat → ClassId} {ad : Nat → Nat} {ex : Nat → Nat → Nat} {post : Int32 → Mem → Prop} {px : String → Mem → Prop} {S : Mem} {v1 : Int32} {v2 : Int32} (hf : l.stackTraces = false) (h : mX5_travellerOf post px S v1 v2) : CXi l D ky ad ex yX5_travellerOf cX5_travellerOf 4 (some .int) rmX5_travellerOf 2 12 [.ref (ad 110), .int v1, .int v2] S post px := by
  refine CXi.of (by decide) (Nat.le_of_ble_eq_true rfl) (fun p e s m args below meth c ls F hr hout C hl => ?_)
  have hl : lv_has ls 4 [(0, .ref (ad 110)), (1, .int v1), (2, .int v2)] := hl
  unfold mX5_travellerOf at h
  refine lv_aload_n F.x F.b dX5_travellerOf_0 rfl (lv_at hl 0 rfl) ?_
  refine lv_iload_n F.x F.b dX5_travellerOf_1 rfl (lv_at hl 1 rfl) ?_
  refine kxR F hout C hl (kX5_found hf h) (by decide) (ce_X _) rfl wv_X5_126 ⟨rfl, rfl, ⟨Nat.le_of_ble_eq_true rfl, Nat.le_of_ble_eq_true rfl⟩, ⟨Nat.le_of_ble_eq_true rfl, Nat.le_of_ble_eq_true rfl⟩, Nat.le_of_ble_eq_true rfl⟩ (rest := []) rfl dX5_travellerOf_2 ⟨Nat.le_of_ble_eq_true rfl, Nat.le_of_ble_eq_true rfl⟩ (fun r2 S1 H locs hr2 h C => ?_)
  refine lv_astore_n (lv' := [(3, .ref (ad (20 + r2))), (0, .ref (ad 110)), (1, .int v1), (2, .int v2)]) F.x F.b dX5_travellerOf_5 rfl hl (by decide) rfl (fun ls hl => ?_)
  refine lv_iload_n F.x F.b dX5_travellerOf_6 rfl (lv_at hl 3 rfl) ?_
  refine lv_iconst (v := 0) F.x F.b dX5_travellerOf_7 (by decide) ?_
  refine lv_bipush (v := 8) F.x F.b dX5_travellerOf_8 (by decide) ?_
  refine kxSV F hout C hl (kX5_checkRange hf h) wv_X5_65 ⟨rfl, rfl, ⟨Nat.le_of_ble_eq_true rfl, Nat.le_of_ble_eq_true rfl⟩, ⟨Nat.le_of_ble_eq_true rfl, Nat.le_of_ble_eq_true rfl⟩, Nat.le_of_ble_eq_true rfl⟩ (rest := []) rfl dX5_travellerOf_10 ⟨Nat.le_of_ble_eq_true rfl, Nat.le_of_ble_eq_true rfl⟩ (fun S3 H locs h C => ?_)
  refine lv_aload_n F.x F.b dX5_travellerOf_13 rfl (lv_at hl 0 rfl) ?_
  refine lv_iload_n F.x F.b dX5_travellerOf_14 rfl (lv_at hl 3 rfl) ?_
  refine kI F C hl (kX3_numberOf  hr2 h) (by omega) (ce_T hr2 _) rfl wv_X5_130 ⟨rfl, rfl, ⟨Nat.le_of_ble_eq_true rfl, Nat.le_of_ble_eq_true rfl⟩, ⟨Nat.le_of_ble_eq_true rfl, Nat.le_of_ble_eq_true rfl⟩, Nat.le_of_ble_eq_true rfl⟩ (rest := []) rfl dX5_travellerOf_15 (fun r6 S5 H locs h C => ?_)
  exact vx_ret (retI F hr C h dX5_travellerOf_18)

def rmX5_fee : Room := { frames := 7, cells := 1, slots := 6, locals := 103 }
def mX5_fee (post : Int32 → Mem → Prop) (px : String → Mem → Prop) (S : Mem) (v1 : Int32) : Prop := mX5_found (fun (r2 : Nat) (S1 : Mem) => mX3_toll (fun (r4 : Int32) (S3 : Mem) => post r4 S3) S1 r2) px S v1
set_option maxRecDepth 100000 in
set_option maxHeartbeats 4000000 in
theorem kX5_fee {l : Launch} {D : va_G} {ky : Nat → ClassId} {ad : Nat → Nat} {ex : Nat → Nat → Nat} {post : Int32 → Mem → Prop} {px : String → Mem → Prop} {S : Mem} {v1 : Int32} (hf : l.stackTraces = false) (h : mX5_fee post px S v1) : CXi l D ky ad ex yX5_fee cX5_fee 2 (some .int) rmX5_fee 1 6 [.ref (ad 110), .int v1] S post px := by
  refine CXi.of (by decide) (Nat.le_of_ble_eq_true rfl) (fun p e s m args below meth c ls F hr hout C hl => ?_)
  have hl : lv_has ls 2 [(0, .ref (ad 110)), (1, .int v1)] := hl
  unfold mX5_fee at h
  refine lv_aload_n F.x F.b dX5_fee_0 rfl (lv_at hl 0 rfl) ?_
  refine lv_iload_n F.x F.b dX5_fee_1 rfl (lv_at hl 1 rfl) ?_
  refine kxR F hout C hl (kX5_found hf h) (by decide) (ce_X _) rfl wv_X5_126 ⟨rfl, rfl, ⟨Nat.le_of_ble_eq_true rfl, Nat.le_of_ble_eq_true rfl⟩, ⟨Nat.le_of_ble_eq_true rfl, Nat.le_of_ble_eq_true rfl⟩, Nat.le_of_ble_eq_true rfl⟩ (rest := []) rfl dX5_fee_2 ⟨Nat.le_of_ble_eq_true rfl, Nat.le_of_ble_eq_true rfl⟩ (fun r2 S1 H locs hr2 h C => ?_)
  refine kI F C hl (kX3_toll  hr2 h) (by omega) (ce_T hr2 _) rfl wv_X5_135 ⟨rfl, rfl, ⟨Nat.le_of_ble_eq_true rfl, Nat.le_of_ble_eq_true rfl⟩, ⟨Nat.le_of_ble_eq_true rfl, Nat.le_of_ble_eq_true rfl⟩, Nat.le_of_ble_eq_true rfl⟩ (rest := []) rfl dX5_fee_5 (fun r4 S3 H locs h C => ?_)
  exact vx_ret (retI F hr C h dX5_fee_8)

def rmX5_setOut : Room := { frames := 7, cells := 3, slots := 18, locals := 104 }
def mX5_setOut_b40 (post : Int32 → Mem → Prop) (px : String → Mem → Prop) (S : Mem) (i2 : Nat) : Prop := mX1_keep (fun (S1 : Mem) => mX0_startCrossing (fun (r4 : Int32) (S3 : Mem) => post r4 S3) S1 0 i2) S 0
def mX5_setOut_b22 (post : Int32 → Mem → Prop) (px : String → Mem → Prop) (S : Mem) (i2 : Nat) : Prop := (((S 2 i2 1) < (12 : Int32) → (mX5_setOut_b40 post px S i2)) ∧ (¬ (S 2 i2 1) < (12 : Int32) → (mX5_refuse (fun (S2 : Mem) => mX5_setOut_b40 post px S2 i2) px S (4 : Int32) (S 2 i2 1))))
def mX5_setOut (post : Int32 → Mem → Prop) (px : String → Mem → Prop) (S : Mem) (v1 : Int32) : Prop := mX5_found (fun (r2 : Nat) (S1 : Mem) => (((S1 2 r2 3) = 0 → (mX5_setOut_b22 post px S1 r2)) ∧ (¬ (S1 2 r2 3) = 0 → (mX5_refuse (fun (S4 : Mem) => mX5_setOut_b22 post px S4 r2) px S1 (2 : Int32) (S1 2 r2 2))))) px S v1
set_option maxRecDepth 100000 in
set_option maxHeartbeats 4000000 in
theorem bX5_setOut_40 {p : Program} {l : Launch} {e : Env} {s : State} {m : MethodId} {args : Array Value} {below : List Frame} {meth : Method} {c : Code} {D : va_G} {ky : Nat → ClassId} {ad : Nat → Nat} {ex : Nat → Nat → Nat} (F : Fx p s m args meth c D ky ad ex cX5_setOut 3 yX5_setOut.cls) (hr : meth.sig.returnType = (some .int)) (hout : ∀ x ∈ c.exceptionTable.toList, False) (hf : l.stackTraces = false) {post : Int32 → Mem → Prop} {px : String → Mem → Prop} : ∀ (S : Mem) (i2 : Nat) (H : Heap) (locs : List Loc) (ls : Array Slot), i2 < 80 → mX5_setOut_b40 post px S i2 → Cx D ky ad s S H locs → lv_has ls 3 [(0, .ref (ad 110)), (2, .ref (ad (20 + i2)))] → W p l e rmX5_setOut s m args below meth c H locs 3 18 (vx_MQ below (va_Qi post (AFT D ky ad) (AW ad s.heap.size)) (XPX D ky ad px (AW ad s.heap.size)) args s 3 18 (AW ad s.heap.size)) (F0 m 40 ls []) := by
  intro S i2 H locs ls hi2 h C hl
  unfold mX5_setOut_b40 at h
  refine lv_aload_n F.x F.b dX5_setOut_40 rfl (lv_at hl 0 rfl) ?_
  refine getX F C 1 (by decide) q1_178 (v := .ref (ad 111)) rfl dX5_setOut_41 ?_
  refine lv_aload_n F.x F.b dX5_setOut_44 rfl (lv_at hl 0 rfl) ?_
  refine getX F C 0 (by decide) q1_177 (v := .ref (ad 0)) rfl dX5_setOut_45 ?_
  refine kV F C hl (kX1_keep  (by decide) h) (by decide) (ce_I _) rfl wv_X5_77 ⟨rfl, rfl, ⟨Nat.le_of_ble_eq_true rfl, Nat.le_of_ble_eq_true rfl⟩, ⟨Nat.le_of_ble_eq_true rfl, Nat.le_of_ble_eq_true rfl⟩, Nat.le_of_ble_eq_true rfl⟩ (rest := []) rfl dX5_setOut_48 (fun S1 H locs h C => ?_)
  refine lv_aload_n F.x F.b dX5_setOut_51 rfl (lv_at hl 0 rfl) ?_
  refine getX F C 0 (by decide) q1_177 (v := .ref (ad 0)) rfl dX5_setOut_52 ?_
  refine lv_aload_n F.x F.b dX5_setOut_55 rfl (lv_at hl 1 rfl) ?_
  refine kI F C hl (kX0_startCrossing  (by decide) hi2 h) (by decide) (ce_F (by decide) _) rfl wv_X5_147 ⟨rfl, rfl, ⟨Nat.le_of_ble_eq_true rfl, Nat.le_of_ble_eq_true rfl⟩, ⟨Nat.le_of_ble_eq_true rfl, Nat.le_of_ble_eq_true rfl⟩, Nat.le_of_ble_eq_true rfl⟩ (rest := []) rfl dX5_setOut_56 (fun r4 S3 H locs h C => ?_)
  exact vx_ret (retI F hr C h dX5_setOut_59)
set_option maxRecDepth 100000 in
set_option maxHeartbeats 4000000 in
theorem bX5_setOut_22 {p : Program} {l : Launch} {e : Env} {s : State} {m : MethodId} {args : Array Value} {below : List Frame} {meth : Method} {c : Code} {D : va_G} {ky : Nat → ClassId} {ad : Nat → Nat} {ex : Nat → Nat → Nat} (F : Fx p s m args meth c D ky ad ex cX5_setOut 3 yX5_setOut.cls) (hr : meth.sig.returnType = (some .int)) (hout : ∀ x ∈ c.exceptionTable.toList, False) (hf : l.stackTraces = false) {post : Int32 → Mem → Prop} {px : String → Mem → Prop} : ∀ (S : Mem) (i2 : Nat) (H : Heap) (locs : List Loc) (ls : Array Slot), i2 < 80 → mX5_setOut_b22 post px S i2 → Cx D ky ad s S H locs → lv_has ls 3 [(0, .ref (ad 110)), (2, .ref (ad (20 + i2)))] → W p l e rmX5_setOut s m args below meth c H locs 2 12 (vx_MQ below (va_Qi post (AFT D ky ad) (AW ad s.heap.size)) (XPX D ky ad px (AW ad s.heap.size)) args s 3 18 (AW ad s.heap.size)) (F0 m 22 ls []) := by
  intro S i2 H locs ls hi2 h C hl
  unfold mX5_setOut_b22 at h
  refine lv_aload_n F.x F.b dX5_setOut_22 rfl (lv_at hl 1 rfl) ?_
  refine getTN F C hi2 1 (by decide) q1_48 (v := .int (S 2 i2 1)) rfl dX5_setOut_23 ?_
  refine lv_bipush (v := 12) F.x F.b dX5_setOut_26 (by decide) ?_
  refine lv_icmp_lt (tgt := 40) F.x F.b dX5_setOut_28 (by decide) (fun g1 => ?_) (fun g1 => ?_)
  · have h := h.1 g1
    refine W.widen (k := 3) (n := 18) (Nat.le_of_ble_eq_true rfl) (Nat.le_of_ble_eq_true rfl) ?_
    exact bX5_setOut_40 F hr hout hf S i2 _ _ _ hi2 h C (lv_sub hl [0, 1] rfl)
  · have h := h.2 g1
    refine lv_aload_n F.x F.b dX5_setOut_31 rfl (lv_at hl 0 rfl) ?_
    refine lv_iconst (v := 4) F.x F.b dX5_setOut_32 (by decide) ?_
    refine lv_aload_n F.x F.b dX5_setOut_33 rfl (lv_at hl 1 rfl) ?_
    refine getTN F C hi2 1 (by decide) q1_48 (v := .int (S 2 i2 1)) rfl dX5_setOut_34 ?_
    refine kxV F hout C hl (kX5_refuse hf h) (by decide) (ce_X _) rfl wv_X5_73 ⟨rfl, rfl, ⟨Nat.le_of_ble_eq_true rfl, Nat.le_of_ble_eq_true rfl⟩, ⟨Nat.le_of_ble_eq_true rfl, Nat.le_of_ble_eq_true rfl⟩, Nat.le_of_ble_eq_true rfl⟩ (rest := []) rfl dX5_setOut_37 ⟨Nat.le_of_ble_eq_true rfl, Nat.le_of_ble_eq_true rfl⟩ (fun S2 H locs h C => ?_)
    exact bX5_setOut_40 F hr hout hf S2 i2 _ _ _ hi2 h C (lv_sub hl [0, 1] rfl)
set_option maxRecDepth 100000 in
set_option maxHeartbeats 4000000 in
theorem kX5_setOut {l : Launch} {D : va_G} {ky : Nat → ClassId} {ad : Nat → Nat} {ex : Nat → Nat → Nat} {post : Int32 → Mem → Prop} {px : String → Mem → Prop} {S : Mem} {v1 : Int32} (hf : l.stackTraces = false) (h : mX5_setOut post px S v1) : CXi l D ky ad ex yX5_setOut cX5_setOut 3 (some .int) rmX5_setOut 3 18 [.ref (ad 110), .int v1] S post px := by
  refine CXi.of (by decide) (Nat.le_of_ble_eq_true rfl) (fun p e s m args below meth c ls F hr hout C hl => ?_)
  have hl : lv_has ls 3 [(0, .ref (ad 110)), (1, .int v1)] := hl
  unfold mX5_setOut at h
  refine lv_aload_n F.x F.b dX5_setOut_0 rfl (lv_at hl 0 rfl) ?_
  refine lv_iload_n F.x F.b dX5_setOut_1 rfl (lv_at hl 1 rfl) ?_
  refine kxR F hout C hl (kX5_found hf h) (by decide) (ce_X _) rfl wv_X5_126 ⟨rfl, rfl, ⟨Nat.le_of_ble_eq_true rfl, Nat.le_of_ble_eq_true rfl⟩, ⟨Nat.le_of_ble_eq_true rfl, Nat.le_of_ble_eq_true rfl⟩, Nat.le_of_ble_eq_true rfl⟩ (rest := []) rfl dX5_setOut_2 ⟨Nat.le_of_ble_eq_true rfl, Nat.le_of_ble_eq_true rfl⟩ (fun r2 S1 H locs hr2 h C => ?_)
  refine lv_astore_n (lv' := [(2, .ref (ad (20 + r2))), (0, .ref (ad 110)), (1, .int v1)]) F.x F.b dX5_setOut_5 rfl hl (by decide) rfl (fun ls hl => ?_)
  refine lv_aload_n F.x F.b dX5_setOut_6 rfl (lv_at hl 0 rfl) ?_
  refine getTN F C hr2 3 (by decide) q1_55 (v := .int (S1 2 r2 3)) rfl dX5_setOut_7 ?_
  refine lv_if_eq (tgt := 22) F.x F.b dX5_setOut_10 (by decide) (fun g3 => ?_) (fun g3 => ?_)
  · have h := h.1 g3
    refine W.widen (k := 2) (n := 12) (Nat.le_of_ble_eq_true rfl) (Nat.le_of_ble_eq_true rfl) ?_
    exact bX5_setOut_22 F hr hout hf S1 r2 _ _ _ hr2 h C (lv_sub hl [1, 0] rfl)
  · have h := h.2 g3
    refine lv_aload_n F.x F.b dX5_setOut_13 rfl (lv_at hl 1 rfl) ?_
    refine lv_iconst (v := 2) F.x F.b dX5_setOut_14 (by decide) ?_
    refine lv_aload_n F.x F.b dX5_setOut_15 rfl (lv_at hl 0 rfl) ?_
    refine getTN F C hr2 2 (by decide) q1_52 (v := .int (S1 2 r2 2)) rfl dX5_setOut_16 ?_
    refine kxV F hout C hl (kX5_refuse hf h) (by decide) (ce_X _) rfl wv_X5_73 ⟨rfl, rfl, ⟨Nat.le_of_ble_eq_true rfl, Nat.le_of_ble_eq_true rfl⟩, ⟨Nat.le_of_ble_eq_true rfl, Nat.le_of_ble_eq_true rfl⟩, Nat.le_of_ble_eq_true rfl⟩ (rest := []) rfl dX5_setOut_19 ⟨Nat.le_of_ble_eq_true rfl, Nat.le_of_ble_eq_true rfl⟩ (fun S4 H locs h C => ?_)
    exact bX5_setOut_22 F hr hout hf S4 r2 _ _ _ hr2 h C (lv_sub hl [1, 0] rfl)

def rmX5_setStopped : Room := { frames := 7, cells := 3, slots := 18, locals := 104 }
def mX5_setStopped_b37 (post : Int32 → Mem → Prop) (px : String → Mem → Prop) (S : Mem) (v2 : Int32) (i3 : Nat) : Prop := mX1_keep (fun (S1 : Mem) => isB v2 ∧ ∀ S4 : Mem, S4 = wr S1 2 i3 5 v2 → post (S4 2 i3 2) S4) S 0
def mX5_setStopped_b22 (post : Int32 → Mem → Prop) (px : String → Mem → Prop) (S : Mem) (v1 : Int32) (v2 : Int32) (i3 : Nat) : Prop := ((¬ (S 2 i3 5) = v2 → (mX5_setStopped_b37 post px S v2 i3)) ∧ ((S 2 i3 5) = v2 → (mX5_refuse (fun (S2 : Mem) => mX5_setStopped_b37 post px S2 v2 i3) px S (7 : Int32) v1)))
def mX5_setStopped (post : Int32 → Mem → Prop) (px : String → Mem → Prop) (S : Mem) (v1 : Int32) (v2 : Int32) : Prop := mX5_found (fun (r2 : Nat) (S1 : Mem) => ((¬ (S1 2 r2 3) = 0 → (mX5_setStopped_b22 post px S1 v1 v2 r2)) ∧ ((S1 2 r2 3) = 0 → (mX5_refuse (fun (S4 : Mem) => mX5_setStopped_b22 post px S4 v1 v2 r2) px S1 (3 : Int32) (S1 2 r2 2))))) px S v1
set_option maxRecDepth 100000 in
set_option maxHeartbeats 4000000 in
theorem bX5_setStopped_37 {p : Program} {l : Launch} {e : Env} {s : State} {m : MethodId} {args : Array Value} {below : List Frame} {meth : Method} {c : Code} {D : va_G} {ky : Nat → ClassId} {ad : Nat → Nat} {ex : Nat → Nat → Nat} (F : Fx p s m args meth c D ky ad ex cX5_setStopped 4 yX5_setStopped.cls) (hr : meth.sig.returnType = (some .int)) (hout : ∀ x ∈ c.exceptionTable.toList, False) (hf : l.stackTraces = false) {post : Int32 → Mem → Prop} {px : String → Mem → Prop} : ∀ (S : Mem) (v2 : Int32) (i3 : Nat) (H : Heap) (locs : List Loc) (ls : Array Slot), i3 < 80 → mX5_setStopped_b37 post px S v2 i3 → Cx D ky ad s S H locs → lv_has ls 4 [(0, .ref (ad 110)), (2, .int v2), (3, .ref (ad (20 + i3)))] → W p l e rmX5_setStopped s m args below meth c H locs 3 18 (vx_MQ below (va_Qi post (AFT D ky ad) (AW ad s.heap.size)) (XPX D ky ad px (AW ad s.heap.size)) args s 3 18 (AW ad s.heap.size)) (F0 m 37 ls []) := by
  intro S v2 i3 H locs ls hi3 h C hl
  unfold mX5_setStopped_b37 at h
  refine lv_aload_n F.x F.b dX5_setStopped_37 rfl (lv_at hl 0 rfl) ?_
  refine getX F C 1 (by decide) q1_178 (v := .ref (ad 111)) rfl dX5_setStopped_38 ?_
  refine lv_aload_n F.x F.b dX5_setStopped_41 rfl (lv_at hl 0 rfl) ?_
  refine getX F C 0 (by decide) q1_177 (v := .ref (ad 0)) rfl dX5_setStopped_42 ?_
  refine kV F C hl (kX1_keep  (by decide) h) (by decide) (ce_I _) rfl wv_X5_77 ⟨rfl, rfl, ⟨Nat.le_of_ble_eq_true rfl, Nat.le_of_ble_eq_true rfl⟩, ⟨Nat.le_of_ble_eq_true rfl, Nat.le_of_ble_eq_true rfl⟩, Nat.le_of_ble_eq_true rfl⟩ (rest := []) rfl dX5_setStopped_45 (fun S1 H locs h C => ?_)
  refine lv_aload_n F.x F.b dX5_setStopped_48 rfl (lv_at hl 2 rfl) ?_
  refine lv_iload_n F.x F.b dX5_setStopped_49 rfl (lv_at hl 1 rfl) ?_
  obtain ⟨g3, h⟩ := h
  refine putTN F C hi3 5 (by decide) q1_60 rfl (tyX3_ok 5 (by decide)) g3.n g3.f rfl dX5_setStopped_50 (fun H locs C => ?_)
  obtain ⟨S4, eS4⟩ : ∃ z : Mem, z = wr S1 2 i3 5 v2 := ⟨_, rfl⟩
  rw [← eS4] at C
  have h := h S4 eS4
  refine lv_aload_n F.x F.b dX5_setStopped_53 rfl (lv_at hl 2 rfl) ?_
  refine getTN F C hi3 2 (by decide) q1_52 (v := .int (S4 2 i3 2)) rfl dX5_setStopped_54 ?_
  exact vx_ret (retI F hr C h dX5_setStopped_57)
set_option maxRecDepth 100000 in
set_option maxHeartbeats 4000000 in
theorem bX5_setStopped_22 {p : Program} {l : Launch} {e : Env} {s : State} {m : MethodId} {args : Array Value} {below : List Frame} {meth : Method} {c : Code} {D : va_G} {ky : Nat → ClassId} {ad : Nat → Nat} {ex : Nat → Nat → Nat} (F : Fx p s m args meth c D ky ad ex cX5_setStopped 4 yX5_setStopped.cls) (hr : meth.sig.returnType = (some .int)) (hout : ∀ x ∈ c.exceptionTable.toList, False) (hf : l.stackTraces = false) {post : Int32 → Mem → Prop} {px : String → Mem → Prop} : ∀ (S : Mem) (v1 : Int32) (v2 : Int32) (i3 : Nat) (H : Heap) (locs : List Loc) (ls : Array Slot), i3 < 80 → mX5_setStopped_b22 post px S v1 v2 i3 → Cx D ky ad s S H locs → lv_has ls 4 [(0, .ref (ad 110)), (1, .int v1), (2, .int v2), (3, .ref (ad (20 + i3)))] → W p l e rmX5_setStopped s m args below meth c H locs 2 12 (vx_MQ below (va_Qi post (AFT D ky ad) (AW ad s.heap.size)) (XPX D ky ad px (AW ad s.heap.size)) args s 3 18 (AW ad s.heap.size)) (F0 m 22 ls []) := by
  intro S v1 v2 i3 H locs ls hi3 h C hl
  unfold mX5_setStopped_b22 at h
  refine lv_aload_n F.x F.b dX5_setStopped_22 rfl (lv_at hl 3 rfl) ?_
  refine getTN F C hi3 5 (by decide) q1_60 (v := .int (S 2 i3 5)) rfl dX5_setStopped_23 ?_
  refine lv_iload_n F.x F.b dX5_setStopped_26 rfl (lv_at hl 2 rfl) ?_
  refine lv_icmp_ne (tgt := 37) F.x F.b dX5_setStopped_27 (by decide) (fun g1 => ?_) (fun g1 => ?_)
  · have h := h.1 g1
    refine W.widen (k := 3) (n := 18) (Nat.le_of_ble_eq_true rfl) (Nat.le_of_ble_eq_true rfl) ?_
    exact bX5_setStopped_37 F hr hout hf S v2 i3 _ _ _ hi3 h C (lv_sub hl [0, 2, 3] rfl)
  · have h := h.2 g1
    refine lv_aload_n F.x F.b dX5_setStopped_30 rfl (lv_at hl 0 rfl) ?_
    refine lv_bipush (v := 7) F.x F.b dX5_setStopped_31 (by decide) ?_
    refine lv_iload_n F.x F.b dX5_setStopped_33 rfl (lv_at hl 1 rfl) ?_
    refine kxV F hout C hl (kX5_refuse hf h) (by decide) (ce_X _) rfl wv_X5_73 ⟨rfl, rfl, ⟨Nat.le_of_ble_eq_true rfl, Nat.le_of_ble_eq_true rfl⟩, ⟨Nat.le_of_ble_eq_true rfl, Nat.le_of_ble_eq_true rfl⟩, Nat.le_of_ble_eq_true rfl⟩ (rest := []) rfl dX5_setStopped_34 ⟨Nat.le_of_ble_eq_true rfl, Nat.le_of_ble_eq_true rfl⟩ (fun S2 H locs h C => ?_)
    exact bX5_setStopped_37 F hr hout hf S2 v2 i3 _ _ _ hi3 h C (lv_sub hl [0, 2, 3] rfl)
set_option maxRecDepth 100000 in
set_option maxHeartbeats 4000000 in
theorem kX5_setStopped {l : Launch} {D : va_G} {ky : Nat → ClassId} {ad : Nat → Nat} {ex : Nat → Nat → Nat} {post : Int32 → Mem → Prop} {px : String → Mem → Prop} {S : Mem} {v1 : Int32} {v2 : Int32} (hf : l.stackTraces = false) (h : mX5_setStopped post px S v1 v2) : CXi l D ky ad ex yX5_setStopped cX5_setStopped 4 (some .int) rmX5_setStopped 3 18 [.ref (ad 110), .int v1, .int v2] S post px := by
  refine CXi.of (by decide) (Nat.le_of_ble_eq_true rfl) (fun p e s m args below meth c ls F hr hout C hl => ?_)
  have hl : lv_has ls 4 [(0, .ref (ad 110)), (1, .int v1), (2, .int v2)] := hl
  unfold mX5_setStopped at h
  refine lv_aload_n F.x F.b dX5_setStopped_0 rfl (lv_at hl 0 rfl) ?_
  refine lv_iload_n F.x F.b dX5_setStopped_1 rfl (lv_at hl 1 rfl) ?_
  refine kxR F hout C hl (kX5_found hf h) (by decide) (ce_X _) rfl wv_X5_126 ⟨rfl, rfl, ⟨Nat.le_of_ble_eq_true rfl, Nat.le_of_ble_eq_true rfl⟩, ⟨Nat.le_of_ble_eq_true rfl, Nat.le_of_ble_eq_true rfl⟩, Nat.le_of_ble_eq_true rfl⟩ (rest := []) rfl dX5_setStopped_2 ⟨Nat.le_of_ble_eq_true rfl, Nat.le_of_ble_eq_true rfl⟩ (fun r2 S1 H locs hr2 h C => ?_)
  refine lv_astore_n (lv' := [(3, .ref (ad (20 + r2))), (0, .ref (ad 110)), (1, .int v1), (2, .int v2)]) F.x F.b dX5_setStopped_5 rfl hl (by decide) rfl (fun ls hl => ?_)
  refine lv_aload_n F.x F.b dX5_setStopped_6 rfl (lv_at hl 0 rfl) ?_
  refine getTN F C hr2 3 (by decide) q1_55 (v := .int (S1 2 r2 3)) rfl dX5_setStopped_7 ?_
  refine lv_if_ne (tgt := 22) F.x F.b dX5_setStopped_10 (by decide) (fun g3 => ?_) (fun g3 => ?_)
  · have h := h.1 g3
    refine W.widen (k := 2) (n := 12) (Nat.le_of_ble_eq_true rfl) (Nat.le_of_ble_eq_true rfl) ?_
    exact bX5_setStopped_22 F hr hout hf S1 v1 v2 r2 _ _ _ hr2 h C (lv_sub hl [1, 2, 3, 0] rfl)
  · have h := h.2 g3
    refine lv_aload_n F.x F.b dX5_setStopped_13 rfl (lv_at hl 1 rfl) ?_
    refine lv_iconst (v := 3) F.x F.b dX5_setStopped_14 (by decide) ?_
    refine lv_aload_n F.x F.b dX5_setStopped_15 rfl (lv_at hl 0 rfl) ?_
    refine getTN F C hr2 2 (by decide) q1_52 (v := .int (S1 2 r2 2)) rfl dX5_setStopped_16 ?_
    refine kxV F hout C hl (kX5_refuse hf h) (by decide) (ce_X _) rfl wv_X5_73 ⟨rfl, rfl, ⟨Nat.le_of_ble_eq_true rfl, Nat.le_of_ble_eq_true rfl⟩, ⟨Nat.le_of_ble_eq_true rfl, Nat.le_of_ble_eq_true rfl⟩, Nat.le_of_ble_eq_true rfl⟩ (rest := []) rfl dX5_setStopped_19 ⟨Nat.le_of_ble_eq_true rfl, Nat.le_of_ble_eq_true rfl⟩ (fun S4 H locs h C => ?_)
    exact bX5_setStopped_22 F hr hout hf S4 v1 v2 r2 _ _ _ hr2 h C (lv_sub hl [1, 2, 3, 0] rfl)

def rmX5_stop : Room := { frames := 8, cells := 3, slots := 18, locals := 127 }
def mX5_stop (post : Int32 → Mem → Prop) (px : String → Mem → Prop) (S : Mem) (v1 : Int32) : Prop := mX5_setStopped (fun (r2 : Int32) (S1 : Mem) => post r2 S1) px S v1 (1 : Int32)
set_option maxRecDepth 100000 in
set_option maxHeartbeats 4000000 in
theorem kX5_stop {l : Launch} {D : va_G} {ky : Nat → ClassId} {ad : Nat → Nat} {ex : Nat → Nat → Nat} {post : Int32 → Mem → Prop} {px : String → Mem → Prop} {S : Mem} {v1 : Int32} (hf : l.stackTraces = false) (h : mX5_stop post px S v1) : CXi l D ky ad ex yX5_stop cX5_stop 2 (some .int) rmX5_stop 3 18 [.ref (ad 110), .int v1] S post px := by
  refine CXi.of (by decide) (Nat.le_of_ble_eq_true rfl) (fun p e s m args below meth c ls F hr hout C hl => ?_)
  have hl : lv_has ls 2 [(0, .ref (ad 110)), (1, .int v1)] := hl
  unfold mX5_stop at h
  refine lv_aload_n F.x F.b dX5_stop_0 rfl (lv_at hl 0 rfl) ?_
  refine lv_iload_n F.x F.b dX5_stop_1 rfl (lv_at hl 1 rfl) ?_
  refine lv_iconst (v := 1) F.x F.b dX5_stop_2 (by decide) ?_
  refine kxI F hout C hl (kX5_setStopped hf h) (by decide) (ce_X _) rfl wv_X5_151 ⟨rfl, rfl, ⟨Nat.le_of_ble_eq_true rfl, Nat.le_of_ble_eq_true rfl⟩, ⟨Nat.le_of_ble_eq_true rfl, Nat.le_of_ble_eq_true rfl⟩, Nat.le_of_ble_eq_true rfl⟩ (rest := []) rfl dX5_stop_3 ⟨Nat.le_of_ble_eq_true rfl, Nat.le_of_ble_eq_true rfl⟩ (fun r2 S1 H locs h C => ?_)
  exact vx_ret (retI F hr C h dX5_stop_6)

def rmX5_go : Room := { frames := 8, cells := 3, slots := 18, locals := 127 }
def mX5_go (post : Int32 → Mem → Prop) (px : String → Mem → Prop) (S : Mem) (v1 : Int32) : Prop := mX5_setStopped (fun (r2 : Int32) (S1 : Mem) => post r2 S1) px S v1 (0 : Int32)
set_option maxRecDepth 100000 in
set_option maxHeartbeats 4000000 in
theorem kX5_go {l : Launch} {D : va_G} {ky : Nat → ClassId} {ad : Nat → Nat} {ex : Nat → Nat → Nat} {post : Int32 → Mem → Prop} {px : String → Mem → Prop} {S : Mem} {v1 : Int32} (hf : l.stackTraces = false) (h : mX5_go post px S v1) : CXi l D ky ad ex yX5_go cX5_go 2 (some .int) rmX5_go 3 18 [.ref (ad 110), .int v1] S post px := by
  refine CXi.of (by decide) (Nat.le_of_ble_eq_true rfl) (fun p e s m args below meth c ls F hr hout C hl => ?_)
  have hl : lv_has ls 2 [(0, .ref (ad 110)), (1, .int v1)] := hl
  unfold mX5_go at h
  refine lv_aload_n F.x F.b dX5_go_0 rfl (lv_at hl 0 rfl) ?_
  refine lv_iload_n F.x F.b dX5_go_1 rfl (lv_at hl 1 rfl) ?_
  refine lv_iconst (v := 0) F.x F.b dX5_go_2 (by decide) ?_
  refine kxI F hout C hl (kX5_setStopped hf h) (by decide) (ce_X _) rfl wv_X5_151 ⟨rfl, rfl, ⟨Nat.le_of_ble_eq_true rfl, Nat.le_of_ble_eq_true rfl⟩, ⟨Nat.le_of_ble_eq_true rfl, Nat.le_of_ble_eq_true rfl⟩, Nat.le_of_ble_eq_true rfl⟩ (rest := []) rfl dX5_go_3 ⟨Nat.le_of_ble_eq_true rfl, Nat.le_of_ble_eq_true rfl⟩ (fun r2 S1 H locs h C => ?_)
  exact vx_ret (retI F hr C h dX5_go_6)

def rmX5_leave : Room := { frames := 7, cells := 2, slots := 12, locals := 104 }
def mX5_leave_b22 (post : Int32 → Mem → Prop) (px : String → Mem → Prop) (S : Mem) (v1 : Int32) (i2 : Nat) : Prop := mX1_keep (fun (S1 : Mem) => ∀ x3 : Int32, x3 = (S1 2 i2 6) → mX0_takeAway (fun (S4 : Mem) => post x3 S4) S1 0 v1) S 0
def mX5_leave (post : Int32 → Mem → Prop) (px : String → Mem → Prop) (S : Mem) (v1 : Int32) : Prop := mX5_found (fun (r2 : Nat) (S1 : Mem) => (((S1 2 r2 3) = 0 → (mX5_leave_b22 post px S1 v1 r2)) ∧ (¬ (S1 2 r2 3) = 0 → (mX5_refuse (fun (S4 : Mem) => mX5_leave_b22 post px S4 v1 r2) px S1 (2 : Int32) (S1 2 r2 2))))) px S v1
set_option maxRecDepth 100000 in
set_option maxHeartbeats 4000000 in
theorem bX5_leave_22 {p : Program} {l : Launch} {e : Env} {s : State} {m : MethodId} {args : Array Value} {below : List Frame} {meth : Method} {c : Code} {D : va_G} {ky : Nat → ClassId} {ad : Nat → Nat} {ex : Nat → Nat → Nat} (F : Fx p s m args meth c D ky ad ex cX5_leave 4 yX5_leave.cls) (hr : meth.sig.returnType = (some .int)) (hout : ∀ x ∈ c.exceptionTable.toList, False) (hf : l.stackTraces = false) {post : Int32 → Mem → Prop} {px : String → Mem → Prop} : ∀ (S : Mem) (v1 : Int32) (i2 : Nat) (H : Heap) (locs : List Loc) (ls : Array Slot), i2 < 80 → mX5_leave_b22 post px S v1 i2 → Cx D ky ad s S H locs → lv_has ls 4 [(0, .ref (ad 110)), (1, .int v1), (2, .ref (ad (20 + i2)))] → W p l e rmX5_leave s m args below meth c H locs 2 12 (vx_MQ below (va_Qi post (AFT D ky ad) (AW ad s.heap.size)) (XPX D ky ad px (AW ad s.heap.size)) args s 2 12 (AW ad s.heap.size)) (F0 m 22 ls []) := by
  intro S v1 i2 H locs ls hi2 h C hl
  unfold mX5_leave_b22 at h
  refine lv_aload_n F.x F.b dX5_leave_22 rfl (lv_at hl 0 rfl) ?_
  refine getX F C 1 (by decide) q1_178 (v := .ref (ad 111)) rfl dX5_leave_23 ?_
  refine lv_aload_n F.x F.b dX5_leave_26 rfl (lv_at hl 0 rfl) ?_
  refine getX F C 0 (by decide) q1_177 (v := .ref (ad 0)) rfl dX5_leave_27 ?_
  refine kV F C hl (kX1_keep  (by decide) h) (by decide) (ce_I _) rfl wv_X5_77 ⟨rfl, rfl, ⟨Nat.le_of_ble_eq_true rfl, Nat.le_of_ble_eq_true rfl⟩, ⟨Nat.le_of_ble_eq_true rfl, Nat.le_of_ble_eq_true rfl⟩, Nat.le_of_ble_eq_true rfl⟩ (rest := []) rfl dX5_leave_30 (fun S1 H locs h C => ?_)
  refine lv_aload_n F.x F.b dX5_leave_33 rfl (lv_at hl 2 rfl) ?_
  refine getTN F C hi2 6 (by decide) q1_62 (v := .int (S1 2 i2 6)) rfl dX5_leave_34 ?_
  refine lv_topi (fun x3 ex3 => ?_)
  have h := h x3 ex3
  refine lv_istore_n (lv' := [(3, .int x3), (0, .ref (ad 110)), (1, .int v1), (2, .ref (ad (20 + i2)))]) F.x F.b dX5_leave_37 rfl hl (by decide) rfl (fun ls hl => ?_)
  refine lv_aload_n F.x F.b dX5_leave_38 rfl (lv_at hl 1 rfl) ?_
  refine getX F C 0 (by decide) q1_177 (v := .ref (ad 0)) rfl dX5_leave_39 ?_
  refine lv_iload_n F.x F.b dX5_leave_42 rfl (lv_at hl 2 rfl) ?_
  refine kV F C hl (kX0_takeAway  (by decide) h) (by decide) (ce_F (by decide) _) rfl wv_X5_158 ⟨rfl, rfl, ⟨Nat.le_of_ble_eq_true rfl, Nat.le_of_ble_eq_true rfl⟩, ⟨Nat.le_of_ble_eq_true rfl, Nat.le_of_ble_eq_true rfl⟩, Nat.le_of_ble_eq_true rfl⟩ (rest := []) rfl dX5_leave_43 (fun S4 H locs h C => ?_)
  refine lv_iload_n F.x F.b dX5_leave_46 rfl (lv_at hl 0 rfl) ?_
  exact vx_ret (retI F hr C h dX5_leave_47)
set_option maxRecDepth 100000 in
set_option maxHeartbeats 4000000 in
theorem kX5_leave {l : Launch} {D : va_G} {ky : Nat → ClassId} {ad : Nat → Nat} {ex : Nat → Nat → Nat} {post : Int32 → Mem → Prop} {px : String → Mem → Prop} {S : Mem} {v1 : Int32} (hf : l.stackTraces = false) (h : mX5_leave post px S v1) : CXi l D ky ad ex yX5_leave cX5_leave 4 (some .int) rmX5_leave 2 12 [.ref (ad 110), .int v1] S post px := by
  refine CXi.of (by decide) (Nat.le_of_ble_eq_true rfl) (fun p e s m args below meth c ls F hr hout C hl => ?_)
  have hl : lv_has ls 4 [(0, .ref (ad 110)), (1, .int v1)] := hl
  unfold mX5_leave at h
  refine lv_aload_n F.x F.b dX5_leave_0 rfl (lv_at hl 0 rfl) ?_
  refine lv_iload_n F.x F.b dX5_leave_1 rfl (lv_at hl 1 rfl) ?_
  refine kxR F hout C hl (kX5_found hf h) (by decide) (ce_X _) rfl wv_X5_126 ⟨rfl, rfl, ⟨Nat.le_of_ble_eq_true rfl, Nat.le_of_ble_eq_true rfl⟩, ⟨Nat.le_of_ble_eq_true rfl, Nat.le_of_ble_eq_true rfl⟩, Nat.le_of_ble_eq_true rfl⟩ (rest := []) rfl dX5_leave_2 ⟨Nat.le_of_ble_eq_true rfl, Nat.le_of_ble_eq_true rfl⟩ (fun r2 S1 H locs hr2 h C => ?_)
  refine lv_astore_n (lv' := [(2, .ref (ad (20 + r2))), (0, .ref (ad 110)), (1, .int v1)]) F.x F.b dX5_leave_5 rfl hl (by decide) rfl (fun ls hl => ?_)
  refine lv_aload_n F.x F.b dX5_leave_6 rfl (lv_at hl 0 rfl) ?_
  refine getTN F C hr2 3 (by decide) q1_55 (v := .int (S1 2 r2 3)) rfl dX5_leave_7 ?_
  refine lv_if_eq (tgt := 22) F.x F.b dX5_leave_10 (by decide) (fun g3 => ?_) (fun g3 => ?_)
  · have h := h.1 g3
    refine W.widen (k := 2) (n := 12) (Nat.le_of_ble_eq_true rfl) (Nat.le_of_ble_eq_true rfl) ?_
    exact bX5_leave_22 F hr hout hf S1 v1 r2 _ _ _ hr2 h C (lv_sub hl [1, 2, 0] rfl)
  · have h := h.2 g3
    refine lv_aload_n F.x F.b dX5_leave_13 rfl (lv_at hl 1 rfl) ?_
    refine lv_iconst (v := 2) F.x F.b dX5_leave_14 (by decide) ?_
    refine lv_aload_n F.x F.b dX5_leave_15 rfl (lv_at hl 0 rfl) ?_
    refine getTN F C hr2 2 (by decide) q1_52 (v := .int (S1 2 r2 2)) rfl dX5_leave_16 ?_
    refine kxV F hout C hl (kX5_refuse hf h) (by decide) (ce_X _) rfl wv_X5_73 ⟨rfl, rfl, ⟨Nat.le_of_ble_eq_true rfl, Nat.le_of_ble_eq_true rfl⟩, ⟨Nat.le_of_ble_eq_true rfl, Nat.le_of_ble_eq_true rfl⟩, Nat.le_of_ble_eq_true rfl⟩ (rest := []) rfl dX5_leave_19 ⟨Nat.le_of_ble_eq_true rfl, Nat.le_of_ble_eq_true rfl⟩ (fun S4 H locs h C => ?_)
    exact bX5_leave_22 F hr hout hf S4 v1 r2 _ _ _ hr2 h C (lv_sub hl [1, 2, 0] rfl)

def rmX5_pass : Room := { frames := 7, cells := 1, slots := 6, locals := 115 }
def mX5_pass_b28 (post : Int32 → Mem → Prop) (px : String → Mem → Prop) : Nat → Mem → Int32 → Int32 → Int32 → Prop
  | 0, _, _, _, _ => False
  | n + 1, S, v1, v2, v3 => ((v1 ≤ v3 → (post (((S 0 0 10) - v2)) S)) ∧ (¬ v1 ≤ v3 → (mX0_letHourGoBy (fun (S2 : Mem) => ∀ x4 : Int32, x4 = v3 + (1 : Int32) → mX5_pass_b28 post px n S2 v1 v2 x4) S 0)))
def mX5_pass (post : Int32 → Mem → Prop) (px : String → Mem → Prop) (S : Mem) (v1 : Int32) : Prop := mX5_checkRange (fun (S1 : Mem) => mX1_keep (fun (S3 : Mem) => ∀ x5 : Int32, x5 = (S3 0 0 10) → ∃ fu : Nat, mX5_pass_b28 post px fu S3 v1 x5 (0 : Int32)) S1 0) px S v1 (1 : Int32) (24 : Int32)
set_option maxRecDepth 100000 in
set_option maxHeartbeats 4000000 in
theorem bX5_pass_28 {p : Program} {l : Launch} {e : Env} {s : State} {m : MethodId} {args : Array Value} {below : List Frame} {meth : Method} {c : Code} {D : va_G} {ky : Nat → ClassId} {ad : Nat → Nat} {ex : Nat → Nat → Nat} (F : Fx p s m args meth c D ky ad ex cX5_pass 4 yX5_pass.cls) (hr : meth.sig.returnType = (some .int)) (hout : ∀ x ∈ c.exceptionTable.toList, False) (hf : l.stackTraces = false) {post : Int32 → Mem → Prop} {px : String → Mem → Prop} : ∀ (n : Nat) (S : Mem) (v1 : Int32) (v2 : Int32) (v3 : Int32) (H : Heap) (locs : List Loc) (ls : Array Slot), mX5_pass_b28 post px n S v1 v2 v3 → Cx D ky ad s S H locs → lv_has ls 4 [(0, .ref (ad 110)), (1, .int v1), (2, .int v2), (3, .int v3)] → W p l e rmX5_pass s m args below meth c H locs 1 6 (vx_MQ below (va_Qi post (AFT D ky ad) (AW ad s.heap.size)) (XPX D ky ad px (AW ad s.heap.size)) args s 1 6 (AW ad s.heap.size)) (F0 m 28 ls []) := by
  intro n
  induction n with
  | zero =>
    intro S v1 v2 v3 H locs ls  h
    exact False.elim h
  | succ n ih =>
    intro S v1 v2 v3 H locs ls  h C hl
    refine lv_iload_n F.x F.b dX5_pass_28 rfl (lv_at hl 3 rfl) ?_
    refine lv_iload_n F.x F.b dX5_pass_29 rfl (lv_at hl 1 rfl) ?_
    refine lv_icmp_ge (tgt := 46) F.x F.b dX5_pass_30 (by decide) (fun g1 => ?_) (fun g1 => ?_)
    · have h := h.1 g1
      refine lv_aload_n F.x F.b dX5_pass_46 rfl (lv_at hl 0 rfl) ?_
      refine getX F C 0 (by decide) q1_177 (v := .ref (ad 0)) rfl dX5_pass_47 ?_
      refine getFN F C (by decide) 10 (by decide) q1_107 (v := .int (S 0 0 10)) rfl dX5_pass_50 ?_
      refine lv_iload_n F.x F.b dX5_pass_53 rfl (lv_at hl 2 rfl) ?_
      refine lv_isub F.x F.b dX5_pass_54 ?_
      exact vx_ret (retI F hr C h dX5_pass_55)
    · have h := h.2 g1
      refine lv_aload_n F.x F.b dX5_pass_33 rfl (lv_at hl 0 rfl) ?_
      refine getX F C 0 (by decide) q1_177 (v := .ref (ad 0)) rfl dX5_pass_34 ?_
      refine kV F C hl (kX0_letHourGoBy  (by decide) h) (by decide) (ce_F (by decide) _) rfl wv_X5_164 ⟨rfl, rfl, ⟨Nat.le_of_ble_eq_true rfl, Nat.le_of_ble_eq_true rfl⟩, ⟨Nat.le_of_ble_eq_true rfl, Nat.le_of_ble_eq_true rfl⟩, Nat.le_of_ble_eq_true rfl⟩ (rest := []) rfl dX5_pass_37 (fun S2 H locs h C => ?_)
      obtain ⟨x4, ex4⟩ : ∃ z : Int32, z = v3 + (1 : Int32) := ⟨_, rfl⟩
      have h := h x4 ex4
      refine lv_iinc (v := x4) (lv' := [(3, .int x4), (0, .ref (ad 110)), (1, .int v1), (2, .int v2)]) F.x F.b dX5_pass_40 hl (k := 3) rfl (by rw [ex4]; rfl) (by decide) rfl (fun ls hl => ?_)
      refine lv_goto (tgt := 28) F.x F.b dX5_pass_43 (by decide) ?_
      exact ih S2 v1 v2 x4 _ _ _ h C (lv_sub hl [1, 2, 3, 0] rfl)
set_option maxRecDepth 100000 in
set_option maxHeartbeats 4000000 in
theorem kX5_pass {l : Launch} {D : va_G} {ky : Nat → ClassId} {ad : Nat → Nat} {ex : Nat → Nat → Nat} {post : Int32 → Mem → Prop} {px : String → Mem → Prop} {S : Mem} {v1 : Int32} (hf : l.stackTraces = false) (h : mX5_pass post px S v1) : CXi l D ky ad ex yX5_pass cX5_pass 4 (some .int) rmX5_pass 1 6 [.ref (ad 110), .int v1] S post px := by
  refine CXi.of (by decide) (Nat.le_of_ble_eq_true rfl) (fun p e s m args below meth c ls F hr hout C hl => ?_)
  have hl : lv_has ls 4 [(0, .ref (ad 110)), (1, .int v1)] := hl
  unfold mX5_pass at h
  refine lv_iload_n F.x F.b dX5_pass_0 rfl (lv_at hl 1 rfl) ?_
  refine lv_iconst (v := 1) F.x F.b dX5_pass_1 (by decide) ?_
  refine lv_bipush (v := 24) F.x F.b dX5_pass_2 (by decide) ?_
  refine kxSV F hout C hl (kX5_checkRange hf h) wv_X5_65 ⟨rfl, rfl, ⟨Nat.le_of_ble_eq_true rfl, Nat.le_of_ble_eq_true rfl⟩, ⟨Nat.le_of_ble_eq_true rfl, Nat.le_of_ble_eq_true rfl⟩, Nat.le_of_ble_eq_true rfl⟩ (rest := []) rfl dX5_pass_4 ⟨Nat.le_of_ble_eq_true rfl, Nat.le_of_ble_eq_true rfl⟩ (fun S1 H locs h C => ?_)
  refine lv_aload_n F.x F.b dX5_pass_7 rfl (lv_at hl 0 rfl) ?_
  refine getX F C 1 (by decide) q1_178 (v := .ref (ad 111)) rfl dX5_pass_8 ?_
  refine lv_aload_n F.x F.b dX5_pass_11 rfl (lv_at hl 0 rfl) ?_
  refine getX F C 0 (by decide) q1_177 (v := .ref (ad 0)) rfl dX5_pass_12 ?_
  refine kV F C hl (kX1_keep  (by decide) h) (by decide) (ce_I _) rfl wv_X5_77 ⟨rfl, rfl, ⟨Nat.le_of_ble_eq_true rfl, Nat.le_of_ble_eq_true rfl⟩, ⟨Nat.le_of_ble_eq_true rfl, Nat.le_of_ble_eq_true rfl⟩, Nat.le_of_ble_eq_true rfl⟩ (rest := []) rfl dX5_pass_15 (fun S3 H locs h C => ?_)
  refine lv_aload_n F.x F.b dX5_pass_18 rfl (lv_at hl 0 rfl) ?_
  refine getX F C 0 (by decide) q1_177 (v := .ref (ad 0)) rfl dX5_pass_19 ?_
  refine getFN F C (by decide) 10 (by decide) q1_107 (v := .int (S3 0 0 10)) rfl dX5_pass_22 ?_
  refine lv_topi (fun x5 ex5 => ?_)
  have h := h x5 ex5
  refine lv_istore_n (lv' := [(2, .int x5), (0, .ref (ad 110)), (1, .int v1)]) F.x F.b dX5_pass_25 rfl hl (by decide) rfl (fun ls hl => ?_)
  refine lv_iconst (v := 0) F.x F.b dX5_pass_26 (by decide) ?_
  refine lv_istore_n (lv' := [(3, .int (0 : Int32)), (2, .int x5), (0, .ref (ad 110)), (1, .int v1)]) F.x F.b dX5_pass_27 rfl hl (by decide) rfl (fun ls hl => ?_)
  obtain ⟨n6, h⟩ := h
  exact bX5_pass_28 F hr hout hf n6 S3 v1 x5 (0 : Int32) _ _ _ h C (lv_sub hl [2, 3, 1, 0] rfl)

def rmX5_crossedIn : Room := { frames := 7, cells := 2, slots := 12, locals := 103 }
def mX5_crossedIn (post : Int32 → Mem → Prop) (px : String → Mem → Prop) (S : Mem) (v1 : Int32) : Prop := mX5_found (fun (r2 : Nat) (S1 : Mem) => mX0_hoursToCross (fun (r4 : Int32) (S3 : Mem) => ((¬ r4 = (-1 : Int32) → (post r4 S3)) ∧ (r4 = (-1 : Int32) → (px "java/util/NoSuchElementException" S3)))) S1 0 r2) px S v1
set_option maxRecDepth 100000 in
set_option maxHeartbeats 4000000 in
theorem kX5_crossedIn {l : Launch} {D : va_G} {ky : Nat → ClassId} {ad : Nat → Nat} {ex : Nat → Nat → Nat} {post : Int32 → Mem → Prop} {px : String → Mem → Prop} {S : Mem} {v1 : Int32} (hf : l.stackTraces = false) (h : mX5_crossedIn post px S v1) : CXi l D ky ad ex yX5_crossedIn cX5_crossedIn 3 (some .int) rmX5_crossedIn 2 12 [.ref (ad 110), .int v1] S post px := by
  refine CXi.of (by decide) (Nat.le_of_ble_eq_true rfl) (fun p e s m args below meth c ls F hr hout C hl => ?_)
  have hl : lv_has ls 3 [(0, .ref (ad 110)), (1, .int v1)] := hl
  unfold mX5_crossedIn at h
  refine lv_aload_n F.x F.b dX5_crossedIn_0 rfl (lv_at hl 0 rfl) ?_
  refine getX F C 0 (by decide) q1_177 (v := .ref (ad 0)) rfl dX5_crossedIn_1 ?_
  refine lv_aload_n F.x F.b dX5_crossedIn_4 rfl (lv_at hl 0 rfl) ?_
  refine lv_iload_n F.x F.b dX5_crossedIn_5 rfl (lv_at hl 1 rfl) ?_
  refine kxR F hout C hl (kX5_found hf h) (by decide) (ce_X _) rfl wv_X5_126 ⟨rfl, rfl, ⟨Nat.le_of_ble_eq_true rfl, Nat.le_of_ble_eq_true rfl⟩, ⟨Nat.le_of_ble_eq_true rfl, Nat.le_of_ble_eq_true rfl⟩, Nat.le_of_ble_eq_true rfl⟩ (rest := [.ref (ad 0)]) rfl dX5_crossedIn_6 ⟨Nat.le_of_ble_eq_true rfl, Nat.le_of_ble_eq_true rfl⟩ (fun r2 S1 H locs hr2 h C => ?_)
  refine kI F C hl (kX0_hoursToCross  (by decide) hr2 h) (by decide) (ce_F (by decide) _) rfl wv_X5_167 ⟨rfl, rfl, ⟨Nat.le_of_ble_eq_true rfl, Nat.le_of_ble_eq_true rfl⟩, ⟨Nat.le_of_ble_eq_true rfl, Nat.le_of_ble_eq_true rfl⟩, Nat.le_of_ble_eq_true rfl⟩ (rest := []) rfl dX5_crossedIn_9 (fun r4 S3 H locs h C => ?_)
  refine lv_istore_n (lv' := [(2, .int r4), (0, .ref (ad 110)), (1, .int v1)]) F.x F.b dX5_crossedIn_12 rfl hl (by decide) rfl (fun ls hl => ?_)
  refine lv_iload_n F.x F.b dX5_crossedIn_13 rfl (lv_at hl 0 rfl) ?_
  refine lv_iconst (v := -1) F.x F.b dX5_crossedIn_14 (by decide) ?_
  refine lv_icmp_ne (tgt := 28) F.x F.b dX5_crossedIn_15 (by decide) (fun g5 => ?_) (fun g5 => ?_)
  · have h := h.1 g5
    refine lv_iload_n F.x F.b dX5_crossedIn_28 rfl (lv_at hl 0 rfl) ?_
    refine W.widen (k := 2) (n := 12) (Nat.le_of_ble_eq_true rfl) (Nat.le_of_ble_eq_true rfl) ?_
    exact vx_ret (retI F hr C h dX5_crossedIn_29)
  · have h := h.2 g5
    exact xThrowN F hout hf C hl wx_113_117 5 (by decide) rfl ⟨Nat.le_of_ble_eq_true rfl, Nat.le_of_ble_eq_true rfl, Nat.le_of_ble_eq_true rfl, Nat.le_of_ble_eq_true rfl⟩ ⟨Nat.le_of_ble_eq_true rfl, Nat.le_of_ble_eq_true rfl⟩ h dX5_crossedIn_18 dX5_crossedIn_21 dX5_crossedIn_22 dX5_crossedIn_24 dX5_crossedIn_27

def rmX5_wetSteps : Room := { frames := 7, cells := 2, slots := 12, locals := 104 }
def mX5_wetSteps (post : Int32 → Mem → Prop) (px : String → Mem → Prop) (S : Mem) (v1 : Int32) : Prop := mX5_checkRange (fun (S1 : Mem) => mX0_wetStepsOf (fun (r4 : Int32) (S3 : Mem) => ((¬ r4 = (-1 : Int32) → (post r4 S3)) ∧ (r4 = (-1 : Int32) → (px "java/util/NoSuchElementException" S3)))) S1 0 v1) px S v1 (0 : Int32) (2 : Int32)
set_option maxRecDepth 100000 in
set_option maxHeartbeats 4000000 in
theorem kX5_wetSteps {l : Launch} {D : va_G} {ky : Nat → ClassId} {ad : Nat → Nat} {ex : Nat → Nat → Nat} {post : Int32 → Mem → Prop} {px : String → Mem → Prop} {S : Mem} {v1 : Int32} (hf : l.stackTraces = false) (h : mX5_wetSteps post px S v1) : CXi l D ky ad ex yX5_wetSteps cX5_wetSteps 3 (some .int) rmX5_wetSteps 2 12 [.ref (ad 110), .int v1] S post px := by
  refine CXi.of (by decide) (Nat.le_of_ble_eq_true rfl) (fun p e s m args below meth c ls F hr hout C hl => ?_)
  have hl : lv_has ls 3 [(0, .ref (ad 110)), (1, .int v1)] := hl
  unfold mX5_wetSteps at h
  refine lv_iload_n F.x F.b dX5_wetSteps_0 rfl (lv_at hl 1 rfl) ?_
  refine lv_iconst (v := 0) F.x F.b dX5_wetSteps_1 (by decide) ?_
  refine lv_iconst (v := 2) F.x F.b dX5_wetSteps_2 (by decide) ?_
  refine kxSV F hout C hl (kX5_checkRange hf h) wv_X5_65 ⟨rfl, rfl, ⟨Nat.le_of_ble_eq_true rfl, Nat.le_of_ble_eq_true rfl⟩, ⟨Nat.le_of_ble_eq_true rfl, Nat.le_of_ble_eq_true rfl⟩, Nat.le_of_ble_eq_true rfl⟩ (rest := []) rfl dX5_wetSteps_3 ⟨Nat.le_of_ble_eq_true rfl, Nat.le_of_ble_eq_true rfl⟩ (fun S1 H locs h C => ?_)
  refine lv_aload_n F.x F.b dX5_wetSteps_6 rfl (lv_at hl 0 rfl) ?_
  refine getX F C 0 (by decide) q1_177 (v := .ref (ad 0)) rfl dX5_wetSteps_7 ?_
  refine lv_iload_n F.x F.b dX5_wetSteps_10 rfl (lv_at hl 1 rfl) ?_
  refine kI F C hl (kX0_wetStepsOf  (by decide) h) (by decide) (ce_F (by decide) _) rfl wv_X5_172 ⟨rfl, rfl, ⟨Nat.le_of_ble_eq_true rfl, Nat.le_of_ble_eq_true rfl⟩, ⟨Nat.le_of_ble_eq_true rfl, Nat.le_of_ble_eq_true rfl⟩, Nat.le_of_ble_eq_true rfl⟩ (rest := []) rfl dX5_wetSteps_11 (fun r4 S3 H locs h C => ?_)
  refine lv_istore_n (lv' := [(2, .int r4), (0, .ref (ad 110)), (1, .int v1)]) F.x F.b dX5_wetSteps_14 rfl hl (by decide) rfl (fun ls hl => ?_)
  refine lv_iload_n F.x F.b dX5_wetSteps_15 rfl (lv_at hl 0 rfl) ?_
  refine lv_iconst (v := -1) F.x F.b dX5_wetSteps_16 (by decide) ?_
  refine lv_icmp_ne (tgt := 30) F.x F.b dX5_wetSteps_17 (by decide) (fun g5 => ?_) (fun g5 => ?_)
  · have h := h.1 g5
    refine lv_iload_n F.x F.b dX5_wetSteps_30 rfl (lv_at hl 0 rfl) ?_
    refine W.widen (k := 2) (n := 12) (Nat.le_of_ble_eq_true rfl) (Nat.le_of_ble_eq_true rfl) ?_
    exact vx_ret (retI F hr C h dX5_wetSteps_31)
  · have h := h.2 g5
    exact xThrowN F hout hf C hl wx_113_117 6 (by decide) rfl ⟨Nat.le_of_ble_eq_true rfl, Nat.le_of_ble_eq_true rfl, Nat.le_of_ble_eq_true rfl, Nat.le_of_ble_eq_true rfl⟩ ⟨Nat.le_of_ble_eq_true rfl, Nat.le_of_ble_eq_true rfl⟩ h dX5_wetSteps_20 dX5_wetSteps_23 dX5_wetSteps_24 dX5_wetSteps_26 dX5_wetSteps_29

def rmX5_type : Room := { frames := 6, cells := 1, slots := 6, locals := 82 }
def mX5_type (post : Int32 → Mem → Prop) (px : String → Mem → Prop) (S : Mem) (v1 : Int32) : Prop := mX2_isFull (fun (r2 : Int32) (S1 : Mem) => ((r2 = 0 → (mX2_append (fun (r5 : Int32) (S4 : Mem) => post r5 S4) S1 v1)) ∧ (¬ r2 = 0 → (px "java/lang/IllegalStateException" S1)))) S 
set_option maxRecDepth 100000 in
set_option maxHeartbeats 4000000 in
theorem kX5_type {l : Launch} {D : va_G} {ky : Nat → ClassId} {ad : Nat → Nat} {ex : Nat → Nat → Nat} {post : Int32 → Mem → Prop} {px : String → Mem → Prop} {S : Mem} {v1 : Int32} (hf : l.stackTraces = false) (h : mX5_type post px S v1) : CXi l D ky ad ex yX5_type cX5_type 2 (some .int) rmX5_type 1 6 [.ref (ad 110), .int v1] S post px := by
  refine CXi.of (by decide) (Nat.le_of_ble_eq_true rfl) (fun p e s m args below meth c ls F hr hout C hl => ?_)
  have hl : lv_has ls 2 [(0, .ref (ad 110)), (1, .int v1)] := hl
  unfold mX5_type at h
  refine lv_aload_n F.x F.b dX5_type_0 rfl (lv_at hl 0 rfl) ?_
  refine getX F C 4 (by decide) q1_181 (v := .ref (ad 113)) rfl dX5_type_1 ?_
  refine kI F C hl (kX2_isFull  h) (by decide) (ce_Q _) rfl wv_X5_177 ⟨rfl, rfl, ⟨Nat.le_of_ble_eq_true rfl, Nat.le_of_ble_eq_true rfl⟩, ⟨Nat.le_of_ble_eq_true rfl, Nat.le_of_ble_eq_true rfl⟩, Nat.le_of_ble_eq_true rfl⟩ (rest := []) rfl dX5_type_4 (fun r2 S1 H locs h C => ?_)
  refine lv_if_eq (tgt := 20) F.x F.b dX5_type_7 (by decide) (fun g3 => ?_) (fun g3 => ?_)
  · have h := h.1 g3
    refine lv_aload_n F.x F.b dX5_type_20 rfl (lv_at hl 0 rfl) ?_
    refine getX F C 4 (by decide) q1_181 (v := .ref (ad 113)) rfl dX5_type_21 ?_
    refine lv_iload_n F.x F.b dX5_type_24 rfl (lv_at hl 1 rfl) ?_
    refine kI F C hl (kX2_append  h) (by decide) (ce_Q _) rfl wv_X5_186 ⟨rfl, rfl, ⟨Nat.le_of_ble_eq_true rfl, Nat.le_of_ble_eq_true rfl⟩, ⟨Nat.le_of_ble_eq_true rfl, Nat.le_of_ble_eq_true rfl⟩, Nat.le_of_ble_eq_true rfl⟩ (rest := []) rfl dX5_type_25 (fun r5 S4 H locs h C => ?_)
    refine W.widen (k := 1) (n := 6) (Nat.le_of_ble_eq_true rfl) (Nat.le_of_ble_eq_true rfl) ?_
    exact vx_ret (retI F hr C h dX5_type_28)
  · have h := h.2 g3
    exact xThrow F hout hf C hl wx_181_185 7 (by decide) rfl ⟨Nat.le_of_ble_eq_true rfl, Nat.le_of_ble_eq_true rfl, Nat.le_of_ble_eq_true rfl, Nat.le_of_ble_eq_true rfl⟩ ⟨Nat.le_of_ble_eq_true rfl, Nat.le_of_ble_eq_true rfl⟩ h dX5_type_10 dX5_type_13 dX5_type_14 dX5_type_16 dX5_type_19

def rmX5_answer : Room := { frames := 6, cells := 1, slots := 6, locals := 82 }
def mX5_answer (post : Int32 → Mem → Prop) (px : String → Mem → Prop) (S : Mem) (v1 : Int32) : Prop := ((v1 < 0 → (px "java/util/NoSuchElementException" S)) ∧ (¬ v1 < 0 → (((v1 < (S 3 0 7) → (vp_in v1 8 ∧ post (S 8 0 v1.toNatClampNeg) S)) ∧ (¬ v1 < (S 3 0 7) → (px "java/util/NoSuchElementException" S))))))
set_option maxRecDepth 100000 in
set_option maxHeartbeats 4000000 in
theorem kX5_answer {l : Launch} {D : va_G} {ky : Nat → ClassId} {ad : Nat → Nat} {ex : Nat → Nat → Nat} {post : Int32 → Mem → Prop} {px : String → Mem → Prop} {S : Mem} {v1 : Int32} (hf : l.stackTraces = false) (h : mX5_answer post px S v1) : CXi l D ky ad ex yX5_answer cX5_answer 2 (some .int) rmX5_answer 1 6 [.ref (ad 110), .int v1] S post px := by
  refine CXi.of (by decide) (Nat.le_of_ble_eq_true rfl) (fun p e s m args below meth c ls F hr hout C hl => ?_)
  have hl : lv_has ls 2 [(0, .ref (ad 110)), (1, .int v1)] := hl
  unfold mX5_answer at h
  refine lv_iload_n F.x F.b dX5_answer_0 rfl (lv_at hl 1 rfl) ?_
  refine lv_if_lt (tgt := 12) F.x F.b dX5_answer_1 (by decide) (fun g1 => ?_) (fun g1 => ?_)
  · have h := h.1 g1
    exact xThrowN F hout hf C hl wx_113_117 9 (by decide) rfl ⟨Nat.le_of_ble_eq_true rfl, Nat.le_of_ble_eq_true rfl, Nat.le_of_ble_eq_true rfl, Nat.le_of_ble_eq_true rfl⟩ ⟨Nat.le_of_ble_eq_true rfl, Nat.le_of_ble_eq_true rfl⟩ h dX5_answer_12 dX5_answer_15 dX5_answer_16 dX5_answer_18 dX5_answer_21
  · have h := h.2 g1
    refine lv_iload_n F.x F.b dX5_answer_4 rfl (lv_at hl 1 rfl) ?_
    refine lv_aload_n F.x F.b dX5_answer_5 rfl (lv_at hl 0 rfl) ?_
    refine getX F C 7 (by decide) q1_184 (v := .int (S 3 0 7)) rfl dX5_answer_6 ?_
    refine lv_icmp_lt (tgt := 22) F.x F.b dX5_answer_9 (by decide) (fun g2 => ?_) (fun g2 => ?_)
    · have h := h.1 g2
      refine lv_aload_n F.x F.b dX5_answer_22 rfl (lv_at hl 0 rfl) ?_
      refine getX F C 6 (by decide) q1_183 (v := .ref (ad 115)) rfl dX5_answer_23 ?_
      refine lv_iload_n F.x F.b dX5_answer_26 rfl (lv_at hl 1 rfl) ?_
      obtain ⟨g3, h⟩ := h
      refine aldI F C (o := 115) (cq := 8) (iq := 0) (by decide) rfl rfl rfl g3 dX5_answer_27 ?_
      refine W.widen (k := 1) (n := 6) (Nat.le_of_ble_eq_true rfl) (Nat.le_of_ble_eq_true rfl) ?_
      exact vx_ret (retI F hr C h dX5_answer_28)
    · have h := h.2 g2
      exact xThrowN F hout hf C hl wx_113_117 9 (by decide) rfl ⟨Nat.le_of_ble_eq_true rfl, Nat.le_of_ble_eq_true rfl, Nat.le_of_ble_eq_true rfl, Nat.le_of_ble_eq_true rfl⟩ ⟨Nat.le_of_ble_eq_true rfl, Nat.le_of_ble_eq_true rfl⟩ h dX5_answer_12 dX5_answer_15 dX5_answer_16 dX5_answer_18 dX5_answer_21

def rmX5_errorPosition : Room := { frames := 6, cells := 1, slots := 6, locals := 82 }
def mX5_errorPosition (post : Int32 → Mem → Prop) (px : String → Mem → Prop) (S : Mem) : Prop := ((¬ (S 3 0 5) = (-1 : Int32) → (post (S 3 0 5) S)) ∧ ((S 3 0 5) = (-1 : Int32) → (px "java/util/NoSuchElementException" S)))
set_option maxRecDepth 100000 in
set_option maxHeartbeats 4000000 in
theorem kX5_errorPosition {l : Launch} {D : va_G} {ky : Nat → ClassId} {ad : Nat → Nat} {ex : Nat → Nat → Nat} {post : Int32 → Mem → Prop} {px : String → Mem → Prop} {S : Mem} (hf : l.stackTraces = false) (h : mX5_errorPosition post px S ) : CXi l D ky ad ex yX5_errorPosition cX5_errorPosition 1 (some .int) rmX5_errorPosition 1 6 [.ref (ad 110)] S post px := by
  refine CXi.of (by decide) (Nat.le_of_ble_eq_true rfl) (fun p e s m args below meth c ls F hr hout C hl => ?_)
  have hl : lv_has ls 1 [(0, .ref (ad 110))] := hl
  unfold mX5_errorPosition at h
  refine lv_aload_n F.x F.b dX5_errorPosition_0 rfl (lv_at hl 0 rfl) ?_
  refine getX F C 5 (by decide) q1_182 (v := .int (S 3 0 5)) rfl dX5_errorPosition_1 ?_
  refine lv_iconst (v := -1) F.x F.b dX5_errorPosition_4 (by decide) ?_
  refine lv_icmp_ne (tgt := 18) F.x F.b dX5_errorPosition_5 (by decide) (fun g1 => ?_) (fun g1 => ?_)
  · have h := h.1 g1
    refine lv_aload_n F.x F.b dX5_errorPosition_18 rfl (lv_at hl 0 rfl) ?_
    refine getX F C 5 (by decide) q1_182 (v := .int (S 3 0 5)) rfl dX5_errorPosition_19 ?_
    refine W.widen (k := 1) (n := 6) (Nat.le_of_ble_eq_true rfl) (Nat.le_of_ble_eq_true rfl) ?_
    exact vx_ret (retI F hr C h dX5_errorPosition_22)
  · have h := h.2 g1
    exact xThrowN F hout hf C hl wx_113_117 10 (by decide) rfl ⟨Nat.le_of_ble_eq_true rfl, Nat.le_of_ble_eq_true rfl, Nat.le_of_ble_eq_true rfl, Nat.le_of_ble_eq_true rfl⟩ ⟨Nat.le_of_ble_eq_true rfl, Nat.le_of_ble_eq_true rfl⟩ h dX5_errorPosition_8 dX5_errorPosition_11 dX5_errorPosition_12 dX5_errorPosition_14 dX5_errorPosition_17

def rmX5_refusal : Room := { frames := 6, cells := 1, slots := 6, locals := 82 }
def mX5_refusal (post : Int32 → Mem → Prop) (px : String → Mem → Prop) (S : Mem) (v1 : Int32) : Prop := ((¬ (S 3 0 8) = 0 → (((v1 = 0 → (post (S 3 0 8) S)) ∧ (¬ v1 = 0 → (post (S 3 0 9) S))))) ∧ ((S 3 0 8) = 0 → (px "java/util/NoSuchElementException" S)))
set_option maxRecDepth 100000 in
set_option maxHeartbeats 4000000 in
theorem kX5_refusal {l : Launch} {D : va_G} {ky : Nat → ClassId} {ad : Nat → Nat} {ex : Nat → Nat → Nat} {post : Int32 → Mem → Prop} {px : String → Mem → Prop} {S : Mem} {v1 : Int32} (hf : l.stackTraces = false) (h : mX5_refusal post px S v1) : CXi l D ky ad ex yX5_refusal cX5_refusal 2 (some .int) rmX5_refusal 1 6 [.ref (ad 110), .int v1] S post px := by
  refine CXi.of (by decide) (Nat.le_of_ble_eq_true rfl) (fun p e s m args below meth c ls F hr hout C hl => ?_)
  have hl : lv_has ls 2 [(0, .ref (ad 110)), (1, .int v1)] := hl
  unfold mX5_refusal at h
  refine lv_aload_n F.x F.b dX5_refusal_0 rfl (lv_at hl 0 rfl) ?_
  refine getX F C 8 (by decide) q1_185 (v := .int (S 3 0 8)) rfl dX5_refusal_1 ?_
  refine lv_if_ne (tgt := 17) F.x F.b dX5_refusal_4 (by decide) (fun g1 => ?_) (fun g1 => ?_)
  · have h := h.1 g1
    refine lv_iload_n F.x F.b dX5_refusal_17 rfl (lv_at hl 1 rfl) ?_
    refine lv_if_eq (tgt := 28) F.x F.b dX5_refusal_18 (by decide) (fun g2 => ?_) (fun g2 => ?_)
    · have h := h.1 g2
      refine lv_aload_n F.x F.b dX5_refusal_28 rfl (lv_at hl 0 rfl) ?_
      refine getX F C 8 (by decide) q1_185 (v := .int (S 3 0 8)) rfl dX5_refusal_29 ?_
      refine W.widen (k := 1) (n := 6) (Nat.le_of_ble_eq_true rfl) (Nat.le_of_ble_eq_true rfl) ?_
      exact vx_ret (retI F hr C h dX5_refusal_32)
    · have h := h.2 g2
      refine lv_aload_n F.x F.b dX5_refusal_21 rfl (lv_at hl 0 rfl) ?_
      refine getX F C 9 (by decide) q1_186 (v := .int (S 3 0 9)) rfl dX5_refusal_22 ?_
      refine lv_goto (tgt := 32) F.x F.b dX5_refusal_25 (by decide) ?_
      refine W.widen (k := 1) (n := 6) (Nat.le_of_ble_eq_true rfl) (Nat.le_of_ble_eq_true rfl) ?_
      exact vx_ret (retI F hr C h dX5_refusal_32)
  · have h := h.2 g1
    exact xThrowN F hout hf C hl wx_113_117 11 (by decide) rfl ⟨Nat.le_of_ble_eq_true rfl, Nat.le_of_ble_eq_true rfl, Nat.le_of_ble_eq_true rfl, Nat.le_of_ble_eq_true rfl⟩ ⟨Nat.le_of_ble_eq_true rfl, Nat.le_of_ble_eq_true rfl⟩ h dX5_refusal_7 dX5_refusal_10 dX5_refusal_11 dX5_refusal_13 dX5_refusal_16

def rmX5_written : Room := { frames := 6, cells := 1, slots := 6, locals := 82 }
def mX5_written (post : Int32 → Mem → Prop) (px : String → Mem → Prop) (S : Mem) (v1 : Int32) : Prop := ((v1 < 0 → (px "java/util/NoSuchElementException" S)) ∧ (¬ v1 < 0 → (((v1 < (S 3 0 11) → (vp_in v1 13 ∧ isC (S 9 0 v1.toNatClampNeg) ∧ post (S 9 0 v1.toNatClampNeg) S)) ∧ (¬ v1 < (S 3 0 11) → (px "java/util/NoSuchElementException" S))))))
set_option maxRecDepth 100000 in
set_option maxHeartbeats 4000000 in
theorem kX5_written {l : Launch} {D : va_G} {ky : Nat → ClassId} {ad : Nat → Nat} {ex : Nat → Nat → Nat} {post : Int32 → Mem → Prop} {px : String → Mem → Prop} {S : Mem} {v1 : Int32} (hf : l.stackTraces = false) (h : mX5_written post px S v1) : CXi l D ky ad ex yX5_written cX5_written 2 (some .char) rmX5_written 1 6 [.ref (ad 110), .int v1] S post px := by
  refine CXi.of (by decide) (Nat.le_of_ble_eq_true rfl) (fun p e s m args below meth c ls F hr hout C hl => ?_)
  have hl : lv_has ls 2 [(0, .ref (ad 110)), (1, .int v1)] := hl
  unfold mX5_written at h
  refine lv_iload_n F.x F.b dX5_written_0 rfl (lv_at hl 1 rfl) ?_
  refine lv_if_lt (tgt := 12) F.x F.b dX5_written_1 (by decide) (fun g1 => ?_) (fun g1 => ?_)
  · have h := h.1 g1
    exact xThrowN F hout hf C hl wx_113_117 12 (by decide) rfl ⟨Nat.le_of_ble_eq_true rfl, Nat.le_of_ble_eq_true rfl, Nat.le_of_ble_eq_true rfl, Nat.le_of_ble_eq_true rfl⟩ ⟨Nat.le_of_ble_eq_true rfl, Nat.le_of_ble_eq_true rfl⟩ h dX5_written_12 dX5_written_15 dX5_written_16 dX5_written_18 dX5_written_21
  · have h := h.2 g1
    refine lv_iload_n F.x F.b dX5_written_4 rfl (lv_at hl 1 rfl) ?_
    refine lv_aload_n F.x F.b dX5_written_5 rfl (lv_at hl 0 rfl) ?_
    refine getX F C 11 (by decide) q1_188 (v := .int (S 3 0 11)) rfl dX5_written_6 ?_
    refine lv_icmp_lt (tgt := 22) F.x F.b dX5_written_9 (by decide) (fun g2 => ?_) (fun g2 => ?_)
    · have h := h.1 g2
      refine lv_aload_n F.x F.b dX5_written_22 rfl (lv_at hl 0 rfl) ?_
      refine getX F C 10 (by decide) q1_187 (v := .ref (ad 116)) rfl dX5_written_23 ?_
      refine lv_iload_n F.x F.b dX5_written_26 rfl (lv_at hl 1 rfl) ?_
      obtain ⟨g3, h⟩ := h
      refine aldC F C (o := 116) (cq := 9) (iq := 0) (by decide) rfl rfl rfl g3 dX5_written_27 ?_
      refine W.widen (k := 1) (n := 6) (Nat.le_of_ble_eq_true rfl) (Nat.le_of_ble_eq_true rfl) ?_
      exact vx_ret (retZ F hr C h.1 h.2 dX5_written_28)
    · have h := h.2 g2
      exact xThrowN F hout hf C hl wx_113_117 12 (by decide) rfl ⟨Nat.le_of_ble_eq_true rfl, Nat.le_of_ble_eq_true rfl, Nat.le_of_ble_eq_true rfl, Nat.le_of_ble_eq_true rfl⟩ ⟨Nat.le_of_ble_eq_true rfl, Nat.le_of_ble_eq_true rfl⟩ h dX5_written_12 dX5_written_15 dX5_written_16 dX5_written_18 dX5_written_21

def rmX5_account : Room := { frames := 7, cells := 1, slots := 6, locals := 104 }
def mX5_account (post : Int32 → Mem → Prop) (px : String → Mem → Prop) (S : Mem) (v1 : Int32) : Prop := mX5_checkRange (fun (S1 : Mem) => ((v1 = (0 : Int32) → (post (S1 0 0 3) S1)) ∧ (v1 = (1 : Int32) → (post (S1 0 0 4) S1)) ∧ (v1 = (2 : Int32) → (post (S1 0 0 5) S1)) ∧ (v1 = (3 : Int32) → (post (S1 0 0 2) S1)) ∧ (v1 = (4 : Int32) → (mX0_countIn (fun (r5 : Int32) (S4 : Mem) => post r5 S4) S1 0 (0 : Int32))) ∧ (v1 = (5 : Int32) → (mX0_countIn (fun (r7 : Int32) (S6 : Mem) => post r7 S6) S1 0 (1 : Int32))) ∧ (v1 = (6 : Int32) → (mX0_countIn (fun (r9 : Int32) (S8 : Mem) => post r9 S8) S1 0 (2 : Int32))) ∧ (v1 = (7 : Int32) → (mX0_sumOf (fun (r11 : Int32) (S10 : Mem) => post r11 S10) S1 0 (4 : Int32))) ∧ (v1 = (8 : Int32) → (post (S1 0 0 6) S1)) ∧ (v1 = (9 : Int32) → (mX0_sumOf (fun (r13 : Int32) (S12 : Mem) => post r13 S12) S1 0 (8 : Int32))) ∧ (v1 = (10 : Int32) → (post (S1 0 0 7) S1)) ∧ (v1 = (11 : Int32) → (post (S1 0 0 8) S1)) ∧ (v1 = (12 : Int32) → (post (S1 0 0 9) S1)) ∧ (v1 = (13 : Int32) → (post (S1 0 0 10) S1)) ∧ (v1 = (14 : Int32) → (post (S1 0 0 11) S1)) ∧ (v1 = (15 : Int32) → (mX0_sumOf (fun (r15 : Int32) (S14 : Mem) => post r15 S14) S1 0 (2 : Int32))) ∧ (v1 = (16 : Int32) → (post (S1 3 0 7) S1)) ∧ (v1 = (17 : Int32) → (post (S1 6 0 1) S1)) ∧ (¬ v1 = (0 : Int32) ∧ ¬ v1 = (1 : Int32) ∧ ¬ v1 = (2 : Int32) ∧ ¬ v1 = (3 : Int32) ∧ ¬ v1 = (4 : Int32) ∧ ¬ v1 = (5 : Int32) ∧ ¬ v1 = (6 : Int32) ∧ ¬ v1 = (7 : Int32) ∧ ¬ v1 = (8 : Int32) ∧ ¬ v1 = (9 : Int32) ∧ ¬ v1 = (10 : Int32) ∧ ¬ v1 = (11 : Int32) ∧ ¬ v1 = (12 : Int32) ∧ ¬ v1 = (13 : Int32) ∧ ¬ v1 = (14 : Int32) ∧ ¬ v1 = (15 : Int32) ∧ ¬ v1 = (16 : Int32) ∧ ¬ v1 = (17 : Int32) → (post (S1 4 0 2) S1)))) px S v1 (0 : Int32) (18 : Int32)
set_option maxRecDepth 100000 in
set_option maxHeartbeats 4000000 in
theorem kX5_account {l : Launch} {D : va_G} {ky : Nat → ClassId} {ad : Nat → Nat} {ex : Nat → Nat → Nat} {post : Int32 → Mem → Prop} {px : String → Mem → Prop} {S : Mem} {v1 : Int32} (hf : l.stackTraces = false) (h : mX5_account post px S v1) : CXi l D ky ad ex yX5_account cX5_account 2 (some .int) rmX5_account 1 6 [.ref (ad 110), .int v1] S post px := by
  refine CXi.of (by decide) (Nat.le_of_ble_eq_true rfl) (fun p e s m args below meth c ls F hr hout C hl => ?_)
  have hl : lv_has ls 2 [(0, .ref (ad 110)), (1, .int v1)] := hl
  unfold mX5_account at h
  refine lv_iload_n F.x F.b dX5_account_0 rfl (lv_at hl 1 rfl) ?_
  refine lv_iconst (v := 0) F.x F.b dX5_account_1 (by decide) ?_
  refine lv_bipush (v := 18) F.x F.b dX5_account_2 (by decide) ?_
  refine kxSV F hout C hl (kX5_checkRange hf h) wv_X5_65 ⟨rfl, rfl, ⟨Nat.le_of_ble_eq_true rfl, Nat.le_of_ble_eq_true rfl⟩, ⟨Nat.le_of_ble_eq_true rfl, Nat.le_of_ble_eq_true rfl⟩, Nat.le_of_ble_eq_true rfl⟩ (rest := []) rfl dX5_account_4 ⟨Nat.le_of_ble_eq_true rfl, Nat.le_of_ble_eq_true rfl⟩ (fun S1 H locs h C => ?_)
  refine lv_iload_n F.x F.b dX5_account_7 rfl (lv_at hl 1 rfl) ?_
  by_cases g3 : v1 = (0 : Int32)
  · have h := h.1 g3
    refine lv_tableIn (tgt := 96) F.x F.b dX5_account_8 (by rw [g3]; decide) (by rw [g3]; decide) (by rw [g3]; rfl) (by decide) ?_
    refine lv_aload_n F.x F.b dX5_account_96 rfl (lv_at hl 0 rfl) ?_
    refine getX F C 0 (by decide) q1_177 (v := .ref (ad 0)) rfl dX5_account_97 ?_
    refine getFN F C (by decide) 3 (by decide) q1_93 (v := .int (S1 0 0 3)) rfl dX5_account_100 ?_
    exact vx_ret (retI F hr C h dX5_account_103)
  · have ng3_0 := g3
    by_cases g3 : v1 = (1 : Int32)
    · have h := h.2.1 g3
      refine lv_tableIn (tgt := 104) F.x F.b dX5_account_8 (by rw [g3]; decide) (by rw [g3]; decide) (by rw [g3]; rfl) (by decide) ?_
      refine lv_aload_n F.x F.b dX5_account_104 rfl (lv_at hl 0 rfl) ?_
      refine getX F C 0 (by decide) q1_177 (v := .ref (ad 0)) rfl dX5_account_105 ?_
      refine getFN F C (by decide) 4 (by decide) q1_95 (v := .int (S1 0 0 4)) rfl dX5_account_108 ?_
      exact vx_ret (retI F hr C h dX5_account_111)
    · have ng3_1 := g3
      by_cases g3 : v1 = (2 : Int32)
      · have h := h.2.2.1 g3
        refine lv_tableIn (tgt := 112) F.x F.b dX5_account_8 (by rw [g3]; decide) (by rw [g3]; decide) (by rw [g3]; rfl) (by decide) ?_
        refine lv_aload_n F.x F.b dX5_account_112 rfl (lv_at hl 0 rfl) ?_
        refine getX F C 0 (by decide) q1_177 (v := .ref (ad 0)) rfl dX5_account_113 ?_
        refine getFN F C (by decide) 5 (by decide) q1_97 (v := .int (S1 0 0 5)) rfl dX5_account_116 ?_
        exact vx_ret (retI F hr C h dX5_account_119)
      · have ng3_2 := g3
        by_cases g3 : v1 = (3 : Int32)
        · have h := h.2.2.2.1 g3
          refine lv_tableIn (tgt := 120) F.x F.b dX5_account_8 (by rw [g3]; decide) (by rw [g3]; decide) (by rw [g3]; rfl) (by decide) ?_
          refine lv_aload_n F.x F.b dX5_account_120 rfl (lv_at hl 0 rfl) ?_
          refine getX F C 0 (by decide) q1_177 (v := .ref (ad 0)) rfl dX5_account_121 ?_
          refine getFN F C (by decide) 2 (by decide) q1_90 (v := .int (S1 0 0 2)) rfl dX5_account_124 ?_
          exact vx_ret (retI F hr C h dX5_account_127)
        · have ng3_3 := g3
          by_cases g3 : v1 = (4 : Int32)
          · have h := h.2.2.2.2.1 g3
            refine lv_tableIn (tgt := 128) F.x F.b dX5_account_8 (by rw [g3]; decide) (by rw [g3]; decide) (by rw [g3]; rfl) (by decide) ?_
            refine lv_aload_n F.x F.b dX5_account_128 rfl (lv_at hl 0 rfl) ?_
            refine getX F C 0 (by decide) q1_177 (v := .ref (ad 0)) rfl dX5_account_129 ?_
            refine lv_iconst (v := 0) F.x F.b dX5_account_132 (by decide) ?_
            refine kI F C hl (kX0_countIn  (by decide) h) (by decide) (ce_F (by decide) _) rfl wv_X5_226 ⟨rfl, rfl, ⟨Nat.le_of_ble_eq_true rfl, Nat.le_of_ble_eq_true rfl⟩, ⟨Nat.le_of_ble_eq_true rfl, Nat.le_of_ble_eq_true rfl⟩, Nat.le_of_ble_eq_true rfl⟩ (rest := []) rfl dX5_account_133 (fun r5 S4 H locs h C => ?_)
            exact vx_ret (retI F hr C h dX5_account_136)
          · have ng3_4 := g3
            by_cases g3 : v1 = (5 : Int32)
            · have h := h.2.2.2.2.2.1 g3
              refine lv_tableIn (tgt := 137) F.x F.b dX5_account_8 (by rw [g3]; decide) (by rw [g3]; decide) (by rw [g3]; rfl) (by decide) ?_
              refine lv_aload_n F.x F.b dX5_account_137 rfl (lv_at hl 0 rfl) ?_
              refine getX F C 0 (by decide) q1_177 (v := .ref (ad 0)) rfl dX5_account_138 ?_
              refine lv_iconst (v := 1) F.x F.b dX5_account_141 (by decide) ?_
              refine kI F C hl (kX0_countIn  (by decide) h) (by decide) (ce_F (by decide) _) rfl wv_X5_226 ⟨rfl, rfl, ⟨Nat.le_of_ble_eq_true rfl, Nat.le_of_ble_eq_true rfl⟩, ⟨Nat.le_of_ble_eq_true rfl, Nat.le_of_ble_eq_true rfl⟩, Nat.le_of_ble_eq_true rfl⟩ (rest := []) rfl dX5_account_142 (fun r7 S6 H locs h C => ?_)
              exact vx_ret (retI F hr C h dX5_account_145)
            · have ng3_5 := g3
              by_cases g3 : v1 = (6 : Int32)
              · have h := h.2.2.2.2.2.2.1 g3
                refine lv_tableIn (tgt := 146) F.x F.b dX5_account_8 (by rw [g3]; decide) (by rw [g3]; decide) (by rw [g3]; rfl) (by decide) ?_
                refine lv_aload_n F.x F.b dX5_account_146 rfl (lv_at hl 0 rfl) ?_
                refine getX F C 0 (by decide) q1_177 (v := .ref (ad 0)) rfl dX5_account_147 ?_
                refine lv_iconst (v := 2) F.x F.b dX5_account_150 (by decide) ?_
                refine kI F C hl (kX0_countIn  (by decide) h) (by decide) (ce_F (by decide) _) rfl wv_X5_226 ⟨rfl, rfl, ⟨Nat.le_of_ble_eq_true rfl, Nat.le_of_ble_eq_true rfl⟩, ⟨Nat.le_of_ble_eq_true rfl, Nat.le_of_ble_eq_true rfl⟩, Nat.le_of_ble_eq_true rfl⟩ (rest := []) rfl dX5_account_151 (fun r9 S8 H locs h C => ?_)
                exact vx_ret (retI F hr C h dX5_account_154)
              · have ng3_6 := g3
                by_cases g3 : v1 = (7 : Int32)
                · have h := h.2.2.2.2.2.2.2.1 g3
                  refine lv_tableIn (tgt := 155) F.x F.b dX5_account_8 (by rw [g3]; decide) (by rw [g3]; decide) (by rw [g3]; rfl) (by decide) ?_
                  refine lv_aload_n F.x F.b dX5_account_155 rfl (lv_at hl 0 rfl) ?_
                  refine getX F C 0 (by decide) q1_177 (v := .ref (ad 0)) rfl dX5_account_156 ?_
                  refine lv_iconst (v := 4) F.x F.b dX5_account_159 (by decide) ?_
                  refine kI F C hl (kX0_sumOf  (by decide) h) (by decide) (ce_F (by decide) _) rfl wv_X5_229 ⟨rfl, rfl, ⟨Nat.le_of_ble_eq_true rfl, Nat.le_of_ble_eq_true rfl⟩, ⟨Nat.le_of_ble_eq_true rfl, Nat.le_of_ble_eq_true rfl⟩, Nat.le_of_ble_eq_true rfl⟩ (rest := []) rfl dX5_account_160 (fun r11 S10 H locs h C => ?_)
                  exact vx_ret (retI F hr C h dX5_account_163)
                · have ng3_7 := g3
                  by_cases g3 : v1 = (8 : Int32)
                  · have h := h.2.2.2.2.2.2.2.2.1 g3
                    refine lv_tableIn (tgt := 164) F.x F.b dX5_account_8 (by rw [g3]; decide) (by rw [g3]; decide) (by rw [g3]; rfl) (by decide) ?_
                    refine lv_aload_n F.x F.b dX5_account_164 rfl (lv_at hl 0 rfl) ?_
                    refine getX F C 0 (by decide) q1_177 (v := .ref (ad 0)) rfl dX5_account_165 ?_
                    refine getFN F C (by decide) 6 (by decide) q1_99 (v := .int (S1 0 0 6)) rfl dX5_account_168 ?_
                    exact vx_ret (retI F hr C h dX5_account_171)
                  · have ng3_8 := g3
                    by_cases g3 : v1 = (9 : Int32)
                    · have h := h.2.2.2.2.2.2.2.2.2.1 g3
                      refine lv_tableIn (tgt := 172) F.x F.b dX5_account_8 (by rw [g3]; decide) (by rw [g3]; decide) (by rw [g3]; rfl) (by decide) ?_
                      refine lv_aload_n F.x F.b dX5_account_172 rfl (lv_at hl 0 rfl) ?_
                      refine getX F C 0 (by decide) q1_177 (v := .ref (ad 0)) rfl dX5_account_173 ?_
                      refine lv_bipush (v := 8) F.x F.b dX5_account_176 (by decide) ?_
                      refine kI F C hl (kX0_sumOf  (by decide) h) (by decide) (ce_F (by decide) _) rfl wv_X5_229 ⟨rfl, rfl, ⟨Nat.le_of_ble_eq_true rfl, Nat.le_of_ble_eq_true rfl⟩, ⟨Nat.le_of_ble_eq_true rfl, Nat.le_of_ble_eq_true rfl⟩, Nat.le_of_ble_eq_true rfl⟩ (rest := []) rfl dX5_account_178 (fun r13 S12 H locs h C => ?_)
                      exact vx_ret (retI F hr C h dX5_account_181)
                    · have ng3_9 := g3
                      by_cases g3 : v1 = (10 : Int32)
                      · have h := h.2.2.2.2.2.2.2.2.2.2.1 g3
                        refine lv_tableIn (tgt := 182) F.x F.b dX5_account_8 (by rw [g3]; decide) (by rw [g3]; decide) (by rw [g3]; rfl) (by decide) ?_
                        refine lv_aload_n F.x F.b dX5_account_182 rfl (lv_at hl 0 rfl) ?_
                        refine getX F C 0 (by decide) q1_177 (v := .ref (ad 0)) rfl dX5_account_183 ?_
                        refine getFN F C (by decide) 7 (by decide) q1_101 (v := .int (S1 0 0 7)) rfl dX5_account_186 ?_
                        exact vx_ret (retI F hr C h dX5_account_189)
                      · have ng3_10 := g3
                        by_cases g3 : v1 = (11 : Int32)
                        · have h := h.2.2.2.2.2.2.2.2.2.2.2.1 g3
                          refine lv_tableIn (tgt := 190) F.x F.b dX5_account_8 (by rw [g3]; decide) (by rw [g3]; decide) (by rw [g3]; rfl) (by decide) ?_
                          refine lv_aload_n F.x F.b dX5_account_190 rfl (lv_at hl 0 rfl) ?_
                          refine getX F C 0 (by decide) q1_177 (v := .ref (ad 0)) rfl dX5_account_191 ?_
                          refine getFN F C (by decide) 8 (by decide) q1_103 (v := .int (S1 0 0 8)) rfl dX5_account_194 ?_
                          exact vx_ret (retI F hr C h dX5_account_197)
                        · have ng3_11 := g3
                          by_cases g3 : v1 = (12 : Int32)
                          · have h := h.2.2.2.2.2.2.2.2.2.2.2.2.1 g3
                            refine lv_tableIn (tgt := 198) F.x F.b dX5_account_8 (by rw [g3]; decide) (by rw [g3]; decide) (by rw [g3]; rfl) (by decide) ?_
                            refine lv_aload_n F.x F.b dX5_account_198 rfl (lv_at hl 0 rfl) ?_
                            refine getX F C 0 (by decide) q1_177 (v := .ref (ad 0)) rfl dX5_account_199 ?_
                            refine getFN F C (by decide) 9 (by decide) q1_105 (v := .int (S1 0 0 9)) rfl dX5_account_202 ?_
                            exact vx_ret (retI F hr C h dX5_account_205)
                          · have ng3_12 := g3
                            by_cases g3 : v1 = (13 : Int32)
                            · have h := h.2.2.2.2.2.2.2.2.2.2.2.2.2.1 g3
                              refine lv_tableIn (tgt := 206) F.x F.b dX5_account_8 (by rw [g3]; decide) (by rw [g3]; decide) (by rw [g3]; rfl) (by decide) ?_
                              refine lv_aload_n F.x F.b dX5_account_206 rfl (lv_at hl 0 rfl) ?_
                              refine getX F C 0 (by decide) q1_177 (v := .ref (ad 0)) rfl dX5_account_207 ?_
                              refine getFN F C (by decide) 10 (by decide) q1_107 (v := .int (S1 0 0 10)) rfl dX5_account_210 ?_
                              exact vx_ret (retI F hr C h dX5_account_213)
                            · have ng3_13 := g3
                              by_cases g3 : v1 = (14 : Int32)
                              · have h := h.2.2.2.2.2.2.2.2.2.2.2.2.2.2.1 g3
                                refine lv_tableIn (tgt := 214) F.x F.b dX5_account_8 (by rw [g3]; decide) (by rw [g3]; decide) (by rw [g3]; rfl) (by decide) ?_
                                refine lv_aload_n F.x F.b dX5_account_214 rfl (lv_at hl 0 rfl) ?_
                                refine getX F C 0 (by decide) q1_177 (v := .ref (ad 0)) rfl dX5_account_215 ?_
                                refine getFN F C (by decide) 11 (by decide) q1_109 (v := .int (S1 0 0 11)) rfl dX5_account_218 ?_
                                exact vx_ret (retI F hr C h dX5_account_221)
                              · have ng3_14 := g3
                                by_cases g3 : v1 = (15 : Int32)
                                · have h := h.2.2.2.2.2.2.2.2.2.2.2.2.2.2.2.1 g3
                                  refine lv_tableIn (tgt := 222) F.x F.b dX5_account_8 (by rw [g3]; decide) (by rw [g3]; decide) (by rw [g3]; rfl) (by decide) ?_
                                  refine lv_aload_n F.x F.b dX5_account_222 rfl (lv_at hl 0 rfl) ?_
                                  refine getX F C 0 (by decide) q1_177 (v := .ref (ad 0)) rfl dX5_account_223 ?_
                                  refine lv_iconst (v := 2) F.x F.b dX5_account_226 (by decide) ?_
                                  refine kI F C hl (kX0_sumOf  (by decide) h) (by decide) (ce_F (by decide) _) rfl wv_X5_229 ⟨rfl, rfl, ⟨Nat.le_of_ble_eq_true rfl, Nat.le_of_ble_eq_true rfl⟩, ⟨Nat.le_of_ble_eq_true rfl, Nat.le_of_ble_eq_true rfl⟩, Nat.le_of_ble_eq_true rfl⟩ (rest := []) rfl dX5_account_227 (fun r15 S14 H locs h C => ?_)
                                  exact vx_ret (retI F hr C h dX5_account_230)
                                · have ng3_15 := g3
                                  by_cases g3 : v1 = (16 : Int32)
                                  · have h := h.2.2.2.2.2.2.2.2.2.2.2.2.2.2.2.2.1 g3
                                    refine lv_tableIn (tgt := 231) F.x F.b dX5_account_8 (by rw [g3]; decide) (by rw [g3]; decide) (by rw [g3]; rfl) (by decide) ?_
                                    refine lv_aload_n F.x F.b dX5_account_231 rfl (lv_at hl 0 rfl) ?_
                                    refine getX F C 7 (by decide) q1_184 (v := .int (S1 3 0 7)) rfl dX5_account_232 ?_
                                    exact vx_ret (retI F hr C h dX5_account_235)
                                  · have ng3_16 := g3
                                    by_cases g3 : v1 = (17 : Int32)
                                    · have h := h.2.2.2.2.2.2.2.2.2.2.2.2.2.2.2.2.2.1 g3
                                      refine lv_tableIn (tgt := 236) F.x F.b dX5_account_8 (by rw [g3]; decide) (by rw [g3]; decide) (by rw [g3]; rfl) (by decide) ?_
                                      refine lv_aload_n F.x F.b dX5_account_236 rfl (lv_at hl 0 rfl) ?_
                                      refine getX F C 4 (by decide) q1_181 (v := .ref (ad 113)) rfl dX5_account_237 ?_
                                      refine getQN F C 1 (by decide) q1_163 (v := .int (S1 6 0 1)) rfl dX5_account_240 ?_
                                      exact vx_ret (retI F hr C h dX5_account_243)
                                    · have ng3_17 := g3
                                      have h := h.2.2.2.2.2.2.2.2.2.2.2.2.2.2.2.2.2.2 ⟨ng3_0, ng3_1, ng3_2, ng3_3, ng3_4, ng3_5, ng3_6, ng3_7, ng3_8, ng3_9, ng3_10, ng3_11, ng3_12, ng3_13, ng3_14, ng3_15, ng3_16, ng3_17⟩
                                      refine lv_tableOut (tgt := 244) F.x F.b dX5_account_8 (sw_out v1 0 17 (by decide) (by decide) (fun z h1 h2 => ?_)) (by decide) ?_
                                      · rcases (show z = 0 ∨ z = 1 ∨ z = 2 ∨ z = 3 ∨ z = 4 ∨ z = 5 ∨ z = 6 ∨ z = 7 ∨ z = 8 ∨ z = 9 ∨ z = 10 ∨ z = 11 ∨ z = 12 ∨ z = 13 ∨ z = 14 ∨ z = 15 ∨ z = 16 ∨ z = 17 by omega) with rfl | rfl | rfl | rfl | rfl | rfl | rfl | rfl | rfl | rfl | rfl | rfl | rfl | rfl | rfl | rfl | rfl | rfl
                                        · exact ng3_0
                                        · exact ng3_1
                                        · exact ng3_2
                                        · exact ng3_3
                                        · exact ng3_4
                                        · exact ng3_5
                                        · exact ng3_6
                                        · exact ng3_7
                                        · exact ng3_8
                                        · exact ng3_9
                                        · exact ng3_10
                                        · exact ng3_11
                                        · exact ng3_12
                                        · exact ng3_13
                                        · exact ng3_14
                                        · exact ng3_15
                                        · exact ng3_16
                                        · exact ng3_17
                                      · refine lv_aload_n F.x F.b dX5_account_244 rfl (lv_at hl 0 rfl) ?_
                                        refine getX F C 1 (by decide) q1_178 (v := .ref (ad 111)) rfl dX5_account_245 ?_
                                        refine getIN F C 2 (by decide) q1_147 (v := .int (S1 4 0 2)) rfl dX5_account_248 ?_
                                        exact vx_ret (retI F hr C h dX5_account_251)

def rmX5_undo : Room := { frames := 6, cells := 1, slots := 6, locals := 82 }
def mX5_undo (post : Int32 → Mem → Prop) (px : String → Mem → Prop) (S : Mem) : Prop := ((¬ (S 4 0 2) = 0 → (mX1_takeBack (fun (S2 : Mem) => post (S2 4 0 2) S2) S 0)) ∧ ((S 4 0 2) = 0 → (px "java/lang/IllegalStateException" S)))
set_option maxRecDepth 100000 in
set_option maxHeartbeats 4000000 in
theorem kX5_undo {l : Launch} {D : va_G} {ky : Nat → ClassId} {ad : Nat → Nat} {ex : Nat → Nat → Nat} {post : Int32 → Mem → Prop} {px : String → Mem → Prop} {S : Mem} (hf : l.stackTraces = false) (h : mX5_undo post px S ) : CXi l D ky ad ex yX5_undo cX5_undo 1 (some .int) rmX5_undo 1 6 [.ref (ad 110)] S post px := by
  refine CXi.of (by decide) (Nat.le_of_ble_eq_true rfl) (fun p e s m args below meth c ls F hr hout C hl => ?_)
  have hl : lv_has ls 1 [(0, .ref (ad 110))] := hl
  unfold mX5_undo at h
  refine lv_aload_n F.x F.b dX5_undo_0 rfl (lv_at hl 0 rfl) ?_
  refine getX F C 1 (by decide) q1_178 (v := .ref (ad 111)) rfl dX5_undo_1 ?_
  refine getIN F C 2 (by decide) q1_147 (v := .int (S 4 0 2)) rfl dX5_undo_4 ?_
  refine lv_if_ne (tgt := 20) F.x F.b dX5_undo_7 (by decide) (fun g1 => ?_) (fun g1 => ?_)
  · have h := h.1 g1
    refine lv_aload_n F.x F.b dX5_undo_20 rfl (lv_at hl 0 rfl) ?_
    refine getX F C 1 (by decide) q1_178 (v := .ref (ad 111)) rfl dX5_undo_21 ?_
    refine lv_aload_n F.x F.b dX5_undo_24 rfl (lv_at hl 0 rfl) ?_
    refine getX F C 0 (by decide) q1_177 (v := .ref (ad 0)) rfl dX5_undo_25 ?_
    refine kV F C hl (kX1_takeBack  (by decide) h) (by decide) (ce_I _) rfl wv_X5_254 ⟨rfl, rfl, ⟨Nat.le_of_ble_eq_true rfl, Nat.le_of_ble_eq_true rfl⟩, ⟨Nat.le_of_ble_eq_true rfl, Nat.le_of_ble_eq_true rfl⟩, Nat.le_of_ble_eq_true rfl⟩ (rest := []) rfl dX5_undo_28 (fun S2 H locs h C => ?_)
    refine lv_aload_n F.x F.b dX5_undo_31 rfl (lv_at hl 0 rfl) ?_
    refine getX F C 1 (by decide) q1_178 (v := .ref (ad 111)) rfl dX5_undo_32 ?_
    refine getIN F C 2 (by decide) q1_147 (v := .int (S2 4 0 2)) rfl dX5_undo_35 ?_
    refine W.widen (k := 1) (n := 6) (Nat.le_of_ble_eq_true rfl) (Nat.le_of_ble_eq_true rfl) ?_
    exact vx_ret (retI F hr C h dX5_undo_38)
  · have h := h.2 g1
    exact xThrow F hout hf C hl wx_181_185 15 (by decide) rfl ⟨Nat.le_of_ble_eq_true rfl, Nat.le_of_ble_eq_true rfl, Nat.le_of_ble_eq_true rfl, Nat.le_of_ble_eq_true rfl⟩ ⟨Nat.le_of_ble_eq_true rfl, Nat.le_of_ble_eq_true rfl⟩ h dX5_undo_10 dX5_undo_13 dX5_undo_14 dX5_undo_16 dX5_undo_19

def rmX5_restore : Room := { frames := 6, cells := 1, slots := 6, locals := 82 }
def mX5_restore (post : Int32 → Mem → Prop) (px : String → Mem → Prop) (S : Mem) : Prop := ((¬ (S 3 0 3) = 0 → (mX0_copyFrom (fun (S2 : Mem) => mX1_forget (fun (S4 : Mem) => post (S4 0 0 3) S4) S2 ) S 0 9)) ∧ ((S 3 0 3) = 0 → (px "java/lang/IllegalStateException" S)))
set_option maxRecDepth 100000 in
set_option maxHeartbeats 4000000 in
theorem kX5_restore {l : Launch} {D : va_G} {ky : Nat → ClassId} {ad : Nat → Nat} {ex : Nat → Nat → Nat} {post : Int32 → Mem → Prop} {px : String → Mem → Prop} {S : Mem} (hf : l.stackTraces = false) (h : mX5_restore post px S ) : CXi l D ky ad ex yX5_restore cX5_restore 1 (some .int) rmX5_restore 1 6 [.ref (ad 110)] S post px := by
  refine CXi.of (by decide) (Nat.le_of_ble_eq_true rfl) (fun p e s m args below meth c ls F hr hout C hl => ?_)
  have hl : lv_has ls 1 [(0, .ref (ad 110))] := hl
  unfold mX5_restore at h
  refine lv_aload_n F.x F.b dX5_restore_0 rfl (lv_at hl 0 rfl) ?_
  refine getX F C 3 (by decide) q1_180 (v := .int (S 3 0 3)) rfl dX5_restore_1 ?_
  refine lv_if_ne (tgt := 18) F.x F.b dX5_restore_4 (by decide) (fun g1 => ?_) (fun g1 => ?_)
  · have h := h.1 g1
    refine lv_aload_n F.x F.b dX5_restore_18 rfl (lv_at hl 0 rfl) ?_
    refine getX F C 0 (by decide) q1_177 (v := .ref (ad 0)) rfl dX5_restore_19 ?_
    refine lv_aload_n F.x F.b dX5_restore_22 rfl (lv_at hl 0 rfl) ?_
    refine getX F C 2 (by decide) q1_179 (v := .ref (ad 9)) rfl dX5_restore_23 ?_
    refine kV F C hl (kX0_copyFrom  (by decide) (by decide) h) (by decide) (ce_F (by decide) _) rfl wv_X5_257 ⟨rfl, rfl, ⟨Nat.le_of_ble_eq_true rfl, Nat.le_of_ble_eq_true rfl⟩, ⟨Nat.le_of_ble_eq_true rfl, Nat.le_of_ble_eq_true rfl⟩, Nat.le_of_ble_eq_true rfl⟩ (rest := []) rfl dX5_restore_26 (fun S2 H locs h C => ?_)
    refine lv_aload_n F.x F.b dX5_restore_29 rfl (lv_at hl 0 rfl) ?_
    refine getX F C 1 (by decide) q1_178 (v := .ref (ad 111)) rfl dX5_restore_30 ?_
    refine kV F C hl (kX1_forget  h) (by decide) (ce_I _) rfl wv_X5_262 ⟨rfl, rfl, ⟨Nat.le_of_ble_eq_true rfl, Nat.le_of_ble_eq_true rfl⟩, ⟨Nat.le_of_ble_eq_true rfl, Nat.le_of_ble_eq_true rfl⟩, Nat.le_of_ble_eq_true rfl⟩ (rest := []) rfl dX5_restore_33 (fun S4 H locs h C => ?_)
    refine lv_aload_n F.x F.b dX5_restore_36 rfl (lv_at hl 0 rfl) ?_
    refine getX F C 0 (by decide) q1_177 (v := .ref (ad 0)) rfl dX5_restore_37 ?_
    refine getFN F C (by decide) 3 (by decide) q1_93 (v := .int (S4 0 0 3)) rfl dX5_restore_40 ?_
    refine W.widen (k := 1) (n := 6) (Nat.le_of_ble_eq_true rfl) (Nat.le_of_ble_eq_true rfl) ?_
    exact vx_ret (retI F hr C h dX5_restore_43)
  · have h := h.2 g1
    exact xThrowW F hout hf C hl wx_181_185 16 (by decide) rfl ⟨Nat.le_of_ble_eq_true rfl, Nat.le_of_ble_eq_true rfl, Nat.le_of_ble_eq_true rfl, Nat.le_of_ble_eq_true rfl⟩ ⟨Nat.le_of_ble_eq_true rfl, Nat.le_of_ble_eq_true rfl⟩ h dX5_restore_7 dX5_restore_10 dX5_restore_11 dX5_restore_14 dX5_restore_17
