def rmX5_meanWet : Room := { frames := 6, cells := 1, slots := 6, locals := 82 }
def mX5_meanWet (post : UInt64 → Mem → Prop) (px : String → Mem → Prop) (S : Mem) : Prop := ((¬ (S 0 0 2) = 0 → (mX0_sumOf (fun (r3 : Int32) (S2 : Mem) => vf_n64 (FP.ddiv (FP.i2d r3) (FP.i2d (S2 0 0 2))) ∧ post (FP.ddiv (FP.i2d r3) (FP.i2d (S2 0 0 2))) S2) S 0 (2 : Int32))) ∧ ((S 0 0 2) = 0 → (px "java/lang/ArithmeticException" S)))
set_option maxRecDepth 100000 in
set_option maxHeartbeats 4000000 in
theorem kX5_meanWet {l : Launch} {D : va_G} {ky : Nat → ClassId} {ad : Nat → Nat} {ex : Nat → Nat → Nat} {post : UInt64 → Mem → Prop} {px : String → Mem → Prop} {S : Mem} (hf : l.stackTraces = false) (h : mX5_meanWet post px S ) : CXd l D ky ad ex yX5_meanWet cX5_meanWet 1 (some .double) rmX5_meanWet 1 6 [.ref (ad 110)] S post px := by
  refine CXd.of (by decide) (Nat.le_of_ble_eq_true rfl) (fun p e s m args below meth c ls F hr hout C hl => ?_)
  have hl : lv_has ls 1 [(0, .ref (ad 110))] := hl
  unfold mX5_meanWet at h
  refine lv_aload_n F.x F.b dX5_meanWet_0 rfl (lv_at hl 0 rfl) ?_
  refine getX F C 0 (by decide) q1_177 (v := .ref (ad 0)) rfl dX5_meanWet_1 ?_
  refine getFN F C (by decide) 2 (by decide) q1_90 (v := .int (S 0 0 2)) rfl dX5_meanWet_4 ?_
  refine lv_if_ne (tgt := 20) F.x F.b dX5_meanWet_7 (by decide) (fun g1 => ?_) (fun g1 => ?_)
  · have h := h.1 g1
    refine lv_aload_n F.x F.b dX5_meanWet_20 rfl (lv_at hl 0 rfl) ?_
    refine getX F C 0 (by decide) q1_177 (v := .ref (ad 0)) rfl dX5_meanWet_21 ?_
    refine lv_iconst (v := 2) F.x F.b dX5_meanWet_24 (by decide) ?_
    refine kI F C hl (kX0_sumOf  (by decide) h) (by decide) (ce_F (by decide) _) rfl wv_X5_229 ⟨rfl, rfl, ⟨Nat.le_of_ble_eq_true rfl, Nat.le_of_ble_eq_true rfl⟩, ⟨Nat.le_of_ble_eq_true rfl, Nat.le_of_ble_eq_true rfl⟩, Nat.le_of_ble_eq_true rfl⟩ (rest := []) rfl dX5_meanWet_25 (fun r3 S2 H locs h C => ?_)
    refine lv_i2d F.x F.b dX5_meanWet_28 ?_
    refine lv_aload_n F.x F.b dX5_meanWet_29 rfl (lv_at hl 0 rfl) ?_
    refine getX F C 0 (by decide) q1_177 (v := .ref (ad 0)) rfl dX5_meanWet_30 ?_
    refine getFN F C (by decide) 2 (by decide) q1_90 (v := .int (S2 0 0 2)) rfl dX5_meanWet_33 ?_
    refine lv_i2d F.x F.b dX5_meanWet_36 ?_
    obtain ⟨g4, h⟩ := h
    refine lv_ddiv F.x F.b dX5_meanWet_37 g4 ?_
    refine W.widen (k := 1) (n := 6) (Nat.le_of_ble_eq_true rfl) (Nat.le_of_ble_eq_true rfl) ?_
    exact vx_ret (retD F hr C h dX5_meanWet_38)
  · have h := h.2 g1
    exact xThrow F hout hf C hl wx_245_249 13 (by decide) rfl ⟨Nat.le_of_ble_eq_true rfl, Nat.le_of_ble_eq_true rfl, Nat.le_of_ble_eq_true rfl, Nat.le_of_ble_eq_true rfl⟩ ⟨Nat.le_of_ble_eq_true rfl, Nat.le_of_ble_eq_true rfl⟩ h dX5_meanWet_10 dX5_meanWet_13 dX5_meanWet_14 dX5_meanWet_16 dX5_meanWet_19

def rmX5_crossingShare : Room := { frames := 6, cells := 1, slots := 6, locals := 82 }
def mX5_crossingShare (post : UInt32 → Mem → Prop) (px : String → Mem → Prop) (S : Mem) : Prop := ∀ x1 : Int32, x1 = ((S 0 0 10) + (S 0 0 11)) → ((¬ x1 = 0 → (vf_n32 (FP.fdiv (FP.i2f (S 0 0 10)) (FP.i2f x1)) ∧ post (FP.fdiv (FP.i2f (S 0 0 10)) (FP.i2f x1)) S)) ∧ (x1 = 0 → (px "java/lang/ArithmeticException" S)))
set_option maxRecDepth 100000 in
set_option maxHeartbeats 4000000 in
theorem kX5_crossingShare {l : Launch} {D : va_G} {ky : Nat → ClassId} {ad : Nat → Nat} {ex : Nat → Nat → Nat} {post : UInt32 → Mem → Prop} {px : String → Mem → Prop} {S : Mem} (hf : l.stackTraces = false) (h : mX5_crossingShare post px S ) : CXf l D ky ad ex yX5_crossingShare cX5_crossingShare 2 (some .float) rmX5_crossingShare 1 6 [.ref (ad 110)] S post px := by
  refine CXf.of (by decide) (Nat.le_of_ble_eq_true rfl) (fun p e s m args below meth c ls F hr hout C hl => ?_)
  have hl : lv_has ls 2 [(0, .ref (ad 110))] := hl
  unfold mX5_crossingShare at h
  refine lv_aload_n F.x F.b dX5_crossingShare_0 rfl (lv_at hl 0 rfl) ?_
  refine getX F C 0 (by decide) q1_177 (v := .ref (ad 0)) rfl dX5_crossingShare_1 ?_
  refine getFN F C (by decide) 10 (by decide) q1_107 (v := .int (S 0 0 10)) rfl dX5_crossingShare_4 ?_
  refine lv_aload_n F.x F.b dX5_crossingShare_7 rfl (lv_at hl 0 rfl) ?_
  refine getX F C 0 (by decide) q1_177 (v := .ref (ad 0)) rfl dX5_crossingShare_8 ?_
  refine getFN F C (by decide) 11 (by decide) q1_109 (v := .int (S 0 0 11)) rfl dX5_crossingShare_11 ?_
  refine lv_iadd F.x F.b dX5_crossingShare_14 ?_
  refine lv_topi (fun x1 ex1 => ?_)
  have h := h x1 ex1
  refine lv_istore_n (lv' := [(1, .int x1), (0, .ref (ad 110))]) F.x F.b dX5_crossingShare_15 rfl hl (by decide) rfl (fun ls hl => ?_)
  refine lv_iload_n F.x F.b dX5_crossingShare_16 rfl (lv_at hl 0 rfl) ?_
  refine lv_if_ne (tgt := 30) F.x F.b dX5_crossingShare_17 (by decide) (fun g2 => ?_) (fun g2 => ?_)
  · have h := h.1 g2
    refine lv_aload_n F.x F.b dX5_crossingShare_30 rfl (lv_at hl 1 rfl) ?_
    refine getX F C 0 (by decide) q1_177 (v := .ref (ad 0)) rfl dX5_crossingShare_31 ?_
    refine getFN F C (by decide) 10 (by decide) q1_107 (v := .int (S 0 0 10)) rfl dX5_crossingShare_34 ?_
    refine lv_i2f F.x F.b dX5_crossingShare_37 ?_
    refine lv_iload_n F.x F.b dX5_crossingShare_38 rfl (lv_at hl 0 rfl) ?_
    refine lv_i2f F.x F.b dX5_crossingShare_39 ?_
    obtain ⟨g3, h⟩ := h
    refine lv_fdiv F.x F.b dX5_crossingShare_40 g3 ?_
    refine W.widen (k := 1) (n := 6) (Nat.le_of_ble_eq_true rfl) (Nat.le_of_ble_eq_true rfl) ?_
    exact vx_ret (retFl F hr C h dX5_crossingShare_41)
  · have h := h.2 g2
    exact xThrow F hout hf C hl wx_245_249 14 (by decide) rfl ⟨Nat.le_of_ble_eq_true rfl, Nat.le_of_ble_eq_true rfl, Nat.le_of_ble_eq_true rfl, Nat.le_of_ble_eq_true rfl⟩ ⟨Nat.le_of_ble_eq_true rfl, Nat.le_of_ble_eq_true rfl⟩ h dX5_crossingShare_20 dX5_crossingShare_23 dX5_crossingShare_24 dX5_crossingShare_26 dX5_crossingShare_29
