def rmX5_meanWet : Room := { frames := 6, cells := 1, slots := 6, locals := 82 }
def mX5_meanWet (post : UInt64 → Mem → Prop) (px : String → Mem → Prop) (S : Mem) : Prop := ((¬ (S 0 0 2) = 0 → (mX0_sumOf (fun (r3 : Int32) (S2 : Mem) => vf_n64 (FP.ddiv (FP.i2d r3) (FP.i2d (S2 0 0 2))) ∧ post (FP.ddiv (FP.i2d r3) (FP.i2d (S2 0 0 2))) S2) S 0 (2 : Int32))) ∧ ((S 0 0 2) = 0 → (px "java/lang/ArithmeticException" S)))
set_option maxRecDepth 100000 in
set_option maxHeartbeats 4000000 in
theorem kX5_meanWet {l : Launch} {D : va_G} {ky : Nat → ClassId} {ad : Nat → Nat} {ex : Nat → Nat → Nat} {post : UInt64 → Mem → Prop} {px : String → Mem → Prop} {S : Mem} (hf : l.stackTraces = false) (h : mX5_meanWet post px S ) : CXd l D ky ad ex yX5_meanWet cX5_meanWet 1 (some .double) rmX5_meanWet 1 6 [.ref (ad 110)] S post px := by
  refine CXd.of (by decide) (Nat.le_of_ble_eq_true rfl) (fun p e s m args below meth c ls F hr hout C hl => ?_)
  have hl : lv_has ls 1 [(0, .ref (ad 110))] := hl
  unfold mX5_meanWet at h
  refine lv_aload_n F.x F.b dX5_meanWet_0 rfl (lv_at hl 0 rfl) ?_
  refine getX F C 0 (by decide) q1_175 (v := .ref (ad 0)) rfl dX5_meanWet_1 ?_
  refine getFN F C (by decide) 2 (by decide) q1_88 (v := .int (S 0 0 2)) rfl dX5_meanWet_4 ?_
  refine lv_if_ne (tgt := 20) F.x F.b dX5_meanWet_7 (by decide) (fun g1 => ?_) (fun g1 => ?_)
  · have h := h.1 g1
    refine lv_aload_n F.x F.b dX5_meanWet_20 rfl (lv_at hl 0 rfl) ?_
    refine getX F C 0 (by decide) q1_175 (v := .ref (ad 0)) rfl dX5_meanWet_21 ?_
    refine lv_iconst (v := 2) F.x F.b dX5_meanWet_24 (by decide) ?_
    refine kI F C hl (kX0_sumOf  (by decide) h) (by decide) (ce_F (by decide) _) rfl wv_X5_229 ⟨rfl, rfl, ⟨Nat.le_of_ble_eq_true rfl, Nat.le_of_ble_eq_true rfl⟩, ⟨Nat.le_of_ble_eq_true rfl, Nat.le_of_ble_eq_true rfl⟩, Nat.le_of_ble_eq_true rfl⟩ (rest := []) rfl dX5_meanWet_25 (fun r3 S2 H locs h C => ?_)
    refine lv_i2d F.x F.b dX5_meanWet_28 ?_
    refine lv_aload_n F.x F.b dX5_meanWet_29 rfl (lv_at hl 0 rfl) ?_
    refine getX F C 0 (by decide) q1_175 (v := .ref (ad 0)) rfl dX5_meanWet_30 ?_
    refine getFN F C (by decide) 2 (by decide) q1_88 (v := .int (S2 0 0 2)) rfl dX5_meanWet_33 ?_
    refine lv_i2d F.x F.b dX5_meanWet_36 ?_
    obtain ⟨g4, h⟩ := h
    refine lv_ddiv F.x F.b dX5_meanWet_37 g4 ?_
    refine W.widen (k := 1) (n := 6) (Nat.le_of_ble_eq_true rfl) (Nat.le_of_ble_eq_true rfl) ?_
    exact vx_ret (retD F hr C h dX5_meanWet_38)
  · have h := h.2 g1
    exact xThrow F hout hf C hl wx_245_249 13 (by decide) rfl ⟨Nat.le_of_ble_eq_true rfl, Nat.le_of_ble_eq_true rfl, Nat.le_of_ble_eq_true rfl, Nat.le_of_ble_eq_true rfl⟩ ⟨Nat.le_of_ble_eq_true rfl, Nat.le_of_ble_eq_true rfl⟩ h dX5_meanWet_10 dX5_meanWet_13 dX5_meanWet_14 dX5_meanWet_16 dX5_meanWet_19

def rmX5_crossingShare : Room := { frames := 6, cells := 1, slots := 6, locals := 82 }
def mX5_crossingShare (post : UInt32 → Mem → Prop) (px : String → Mem → Prop) (S : Mem) : Prop := ∀ x1 : Int32, x1 = ((S 0 0 10) + (S 0 0 11)) → ((¬ x1 = 0 → (vf_n32 (FP.fdiv (FP.i2f (S 0 0 10)) (FP.i2f x1)) ∧ post (FP.fdiv (FP.i2f (S 0 0 10)) (FP.i2f x1)) S)) ∧ (x1 = 0 → (px "java/lang/ArithmeticException" S)))
set_option maxRecDepth 100000 in
set_option maxHeartbeats 4000000 in
theorem kX5_crossingShare {l : Launch} {D : va_G} {ky : Nat → ClassId} {ad : Nat → Nat} {ex : Nat → Nat → Nat} {post : UInt32 → Mem → Prop} {px : String → Mem → Prop} {S : Mem} (hf : l.stackTraces = false) (h : mX5_crossingShare post px S ) : CXf l D ky ad ex yX5_crossingShare cX5_crossingShare 2 (some .float) rmX5_crossingShare 1 6 [.ref (ad 110)] S post px := by
  refine CXf.of (by decide) (Nat.le_of_ble_eq_true rfl) (fun p e s m args below meth c ls F hr hout C hl => ?_)
  have hl : lv_has ls 2 [(0, .ref (ad 110))] := hl
  unfold mX5_crossingShare at h
  refine lv_aload_n F.x F.b dX5_crossingShare_0 rfl (lv_at hl 0 rfl) ?_
  refine getX F C 0 (by decide) q1_175 (v := .ref (ad 0)) rfl dX5_crossingShare_1 ?_
  refine getFN F C (by decide) 10 (by decide) q1_105 (v := .int (S 0 0 10)) rfl dX5_crossingShare_4 ?_
  refine lv_aload_n F.x F.b dX5_crossingShare_7 rfl (lv_at hl 0 rfl) ?_
  refine getX F C 0 (by decide) q1_175 (v := .ref (ad 0)) rfl dX5_crossingShare_8 ?_
  refine getFN F C (by decide) 11 (by decide) q1_107 (v := .int (S 0 0 11)) rfl dX5_crossingShare_11 ?_
  refine lv_iadd F.x F.b dX5_crossingShare_14 ?_
  refine lv_topi (fun x1 ex1 => ?_)
  have h := h x1 ex1
  refine lv_istore_n (lv' := [(1, .int x1), (0, .ref (ad 110))]) F.x F.b dX5_crossingShare_15 rfl hl (by decide) rfl (fun ls hl => ?_)
  refine lv_iload_n F.x F.b dX5_crossingShare_16 rfl (lv_at hl 0 rfl) ?_
  refine lv_if_ne (tgt := 30) F.x F.b dX5_crossingShare_17 (by decide) (fun g2 => ?_) (fun g2 => ?_)
  · have h := h.1 g2
    refine lv_aload_n F.x F.b dX5_crossingShare_30 rfl (lv_at hl 1 rfl) ?_
    refine getX F C 0 (by decide) q1_175 (v := .ref (ad 0)) rfl dX5_crossingShare_31 ?_
    refine getFN F C (by decide) 10 (by decide) q1_105 (v := .int (S 0 0 10)) rfl dX5_crossingShare_34 ?_
    refine lv_i2f F.x F.b dX5_crossingShare_37 ?_
    refine lv_iload_n F.x F.b dX5_crossingShare_38 rfl (lv_at hl 0 rfl) ?_
    refine lv_i2f F.x F.b dX5_crossingShare_39 ?_
    obtain ⟨g3, h⟩ := h
    refine lv_fdiv F.x F.b dX5_crossingShare_40 g3 ?_
    refine W.widen (k := 1) (n := 6) (Nat.le_of_ble_eq_true rfl) (Nat.le_of_ble_eq_true rfl) ?_
    exact vx_ret (retFl F hr C h dX5_crossingShare_41)
  · have h := h.2 g2
    exact xThrow F hout hf C hl wx_245_249 14 (by decide) rfl ⟨Nat.le_of_ble_eq_true rfl, Nat.le_of_ble_eq_true rfl, Nat.le_of_ble_eq_true rfl, Nat.le_of_ble_eq_true rfl⟩ ⟨Nat.le_of_ble_eq_true rfl, Nat.le_of_ble_eq_true rfl⟩ h dX5_crossingShare_20 dX5_crossingShare_23 dX5_crossingShare_24 dX5_crossingShare_26 dX5_crossingShare_29

def rmX6_meanWet : Room := { frames := 2, cells := 0, slots := 0, locals := 45 }
def mX6_meanWet (post : UInt64 → Mem → Prop) (S : Mem) : Prop := ∀ S1 : Mem, S1 = wr S 10 0 21 (0 : Int32) → vp_in (3 : Int32) 84 ∧ ((¬ (S1 11 0 (3 : Int32).toNatClampNeg) = 0 → (mX6_sum (fun (r5 : Int32) (S4 : Mem) => vp_in (3 : Int32) 84 ∧ vf_n64 (FP.ddiv (FP.i2d r5) (FP.i2d (S4 11 0 (3 : Int32).toNatClampNeg))) ∧ post (FP.ddiv (FP.i2d r5) (FP.i2d (S4 11 0 (3 : Int32).toNatClampNeg))) S4) S1 (1 : Int32))) ∧ ((S1 11 0 (3 : Int32).toNatClampNeg) = 0 → (mX6_raises (fun (r9 : Int32) (S8 : Mem) => post (FP.i2d r9) S8) S1 (1 : Int32))))
set_option maxRecDepth 100000 in
set_option maxHeartbeats 4000000 in
theorem kX6_meanWet {l : Launch} {D : va_G} {ky : Nat → ClassId} {ad : Nat → Nat} {ex : Nat → Nat → Nat} {post : UInt64 → Mem → Prop} {S : Mem} (h : mX6_meanWet post S ) : CMd l D ky ad ex yX6_meanWet cX6_meanWet 1 (some .double) rmX6_meanWet 0 0 [.ref (ad 117)] S post := by
  refine CMd.of (by decide) (Nat.le_of_ble_eq_true rfl) (fun p e s m args below meth c ls F hr C hl => ?_)
  have hl : lv_has ls 1 [(0, .ref (ad 117))] := hl
  unfold mX6_meanWet at h
  refine lv_aload_n F.x F.b dX6_meanWet_0 rfl (lv_at hl 0 rfl) ?_
  refine lv_iconst (v := 0) F.x F.b dX6_meanWet_1 (by decide) ?_
  refine putM F C 21 (by decide) q5_3 rfl (tyX6_ok 21 (by decide)) rfl rfl rfl dX6_meanWet_2 (fun H locs C => ?_)
  obtain ⟨S1, eS1⟩ : ∃ z : Mem, z = wr S 10 0 21 (0 : Int32) := ⟨_, rfl⟩
  rw [← eS1] at C
  have h := h S1 eS1
  refine lv_aload_n F.x F.b dX6_meanWet_5 rfl (lv_at hl 0 rfl) ?_
  refine getM F C 0 (by decide) q4_222 (v := .ref (ad 118)) rfl dX6_meanWet_6 ?_
  refine lv_iconst (v := 3) F.x F.b dX6_meanWet_9 (by decide) ?_
  obtain ⟨g2, h⟩ := h
  refine aldI F C (o := 118) (cq := 11) (iq := 0) (by decide) rfl rfl rfl g2 dX6_meanWet_10 ?_
  refine lv_if_ne (tgt := 23) F.x F.b dX6_meanWet_11 (by decide) (fun g3 => ?_) (fun g3 => ?_)
  · have h := h.1 g3
    refine lv_aload_n F.x F.b dX6_meanWet_23 rfl (lv_at hl 0 rfl) ?_
    refine lv_iconst (v := 1) F.x F.b dX6_meanWet_24 (by decide) ?_
    refine kI F C hl (kX6_sum  h) (by decide) (ce_M _) rfl wv_X6_244 ⟨rfl, rfl, ⟨Nat.le_of_ble_eq_true rfl, Nat.le_of_ble_eq_true rfl⟩, ⟨Nat.le_of_ble_eq_true rfl, Nat.le_of_ble_eq_true rfl⟩, Nat.le_of_ble_eq_true rfl⟩ (rest := []) rfl dX6_meanWet_25 (fun r5 S4 H locs h C => ?_)
    refine lv_i2d F.x F.b dX6_meanWet_28 ?_
    refine lv_aload_n F.x F.b dX6_meanWet_29 rfl (lv_at hl 0 rfl) ?_
    refine getM F C 0 (by decide) q4_222 (v := .ref (ad 118)) rfl dX6_meanWet_30 ?_
    refine lv_iconst (v := 3) F.x F.b dX6_meanWet_33 (by decide) ?_
    obtain ⟨g6, h⟩ := h
    refine aldI F C (o := 118) (cq := 11) (iq := 0) (by decide) rfl rfl rfl g6 dX6_meanWet_34 ?_
    refine lv_i2d F.x F.b dX6_meanWet_35 ?_
    obtain ⟨g7, h⟩ := h
    refine lv_ddiv F.x F.b dX6_meanWet_36 g7 ?_
    exact retD F hr C h dX6_meanWet_37
  · have h := h.2 g3
    refine lv_aload_n F.x F.b dX6_meanWet_14 rfl (lv_at hl 0 rfl) ?_
    refine lv_iconst (v := 1) F.x F.b dX6_meanWet_15 (by decide) ?_
    refine kI F C hl (kX6_raises  h) (by decide) (ce_M _) rfl wv_X6_58 ⟨rfl, rfl, ⟨Nat.le_of_ble_eq_true rfl, Nat.le_of_ble_eq_true rfl⟩, ⟨Nat.le_of_ble_eq_true rfl, Nat.le_of_ble_eq_true rfl⟩, Nat.le_of_ble_eq_true rfl⟩ (rest := []) rfl dX6_meanWet_16 (fun r9 S8 H locs h C => ?_)
    refine lv_i2d F.x F.b dX6_meanWet_19 ?_
    refine lv_goto (tgt := 37) F.x F.b dX6_meanWet_20 (by decide) ?_
    exact retD F hr C h dX6_meanWet_37

def rmX6_crossingShare : Room := { frames := 1, cells := 0, slots := 0, locals := 21 }
def mX6_crossingShare (post : UInt32 → Mem → Prop) (S : Mem) : Prop := ∀ S1 : Mem, S1 = wr S 10 0 21 (0 : Int32) → vp_in (8 : Int32) 84 ∧ vp_in (9 : Int32) 84 ∧ ∀ x4 : Int32, x4 = ((S1 11 0 (8 : Int32).toNatClampNeg) + (S1 11 0 (9 : Int32).toNatClampNeg)) → ((¬ x4 = 0 → (vp_in (8 : Int32) 84 ∧ vf_n32 (FP.fdiv (FP.i2f (S1 11 0 (8 : Int32).toNatClampNeg)) (FP.i2f x4)) ∧ post (FP.fdiv (FP.i2f (S1 11 0 (8 : Int32).toNatClampNeg)) (FP.i2f x4)) S1)) ∧ (x4 = 0 → (mX6_raises (fun (r9 : Int32) (S8 : Mem) => post (FP.i2f r9) S8) S1 (1 : Int32))))
set_option maxRecDepth 100000 in
set_option maxHeartbeats 4000000 in
theorem kX6_crossingShare {l : Launch} {D : va_G} {ky : Nat → ClassId} {ad : Nat → Nat} {ex : Nat → Nat → Nat} {post : UInt32 → Mem → Prop} {S : Mem} (h : mX6_crossingShare post S ) : CMf l D ky ad ex yX6_crossingShare cX6_crossingShare 2 (some .float) rmX6_crossingShare 0 0 [.ref (ad 117)] S post := by
  refine CMf.of (by decide) (Nat.le_of_ble_eq_true rfl) (fun p e s m args below meth c ls F hr C hl => ?_)
  have hl : lv_has ls 2 [(0, .ref (ad 117))] := hl
  unfold mX6_crossingShare at h
  refine lv_aload_n F.x F.b dX6_crossingShare_0 rfl (lv_at hl 0 rfl) ?_
  refine lv_iconst (v := 0) F.x F.b dX6_crossingShare_1 (by decide) ?_
  refine putM F C 21 (by decide) q5_3 rfl (tyX6_ok 21 (by decide)) rfl rfl rfl dX6_crossingShare_2 (fun H locs C => ?_)
  obtain ⟨S1, eS1⟩ : ∃ z : Mem, z = wr S 10 0 21 (0 : Int32) := ⟨_, rfl⟩
  rw [← eS1] at C
  have h := h S1 eS1
  refine lv_aload_n F.x F.b dX6_crossingShare_5 rfl (lv_at hl 0 rfl) ?_
  refine getM F C 0 (by decide) q4_222 (v := .ref (ad 118)) rfl dX6_crossingShare_6 ?_
  refine lv_bipush (v := 8) F.x F.b dX6_crossingShare_9 (by decide) ?_
  obtain ⟨g2, h⟩ := h
  refine aldI F C (o := 118) (cq := 11) (iq := 0) (by decide) rfl rfl rfl g2 dX6_crossingShare_11 ?_
  refine lv_aload_n F.x F.b dX6_crossingShare_12 rfl (lv_at hl 0 rfl) ?_
  refine getM F C 0 (by decide) q4_222 (v := .ref (ad 118)) rfl dX6_crossingShare_13 ?_
  refine lv_bipush (v := 9) F.x F.b dX6_crossingShare_16 (by decide) ?_
  obtain ⟨g3, h⟩ := h
  refine aldI F C (o := 118) (cq := 11) (iq := 0) (by decide) rfl rfl rfl g3 dX6_crossingShare_18 ?_
  refine lv_iadd F.x F.b dX6_crossingShare_19 ?_
  refine lv_topi (fun x4 ex4 => ?_)
  have h := h x4 ex4
  refine lv_istore_n (lv' := [(1, .int x4), (0, .ref (ad 117))]) F.x F.b dX6_crossingShare_20 rfl hl (by decide) rfl (fun ls hl => ?_)
  refine lv_iload_n F.x F.b dX6_crossingShare_21 rfl (lv_at hl 0 rfl) ?_
  refine lv_if_ne (tgt := 34) F.x F.b dX6_crossingShare_22 (by decide) (fun g5 => ?_) (fun g5 => ?_)
  · have h := h.1 g5
    refine lv_aload_n F.x F.b dX6_crossingShare_34 rfl (lv_at hl 1 rfl) ?_
    refine getM F C 0 (by decide) q4_222 (v := .ref (ad 118)) rfl dX6_crossingShare_35 ?_
    refine lv_bipush (v := 8) F.x F.b dX6_crossingShare_38 (by decide) ?_
    obtain ⟨g6, h⟩ := h
    refine aldI F C (o := 118) (cq := 11) (iq := 0) (by decide) rfl rfl rfl g6 dX6_crossingShare_40 ?_
    refine lv_i2f F.x F.b dX6_crossingShare_41 ?_
    refine lv_iload_n F.x F.b dX6_crossingShare_42 rfl (lv_at hl 0 rfl) ?_
    refine lv_i2f F.x F.b dX6_crossingShare_43 ?_
    obtain ⟨g7, h⟩ := h
    refine lv_fdiv F.x F.b dX6_crossingShare_44 g7 ?_
    exact retFl F hr C h dX6_crossingShare_45
  · have h := h.2 g5
    refine lv_aload_n F.x F.b dX6_crossingShare_25 rfl (lv_at hl 1 rfl) ?_
    refine lv_iconst (v := 1) F.x F.b dX6_crossingShare_26 (by decide) ?_
    refine kI F C hl (kX6_raises  h) (by decide) (ce_M _) rfl wv_X6_58 ⟨rfl, rfl, ⟨Nat.le_of_ble_eq_true rfl, Nat.le_of_ble_eq_true rfl⟩, ⟨Nat.le_of_ble_eq_true rfl, Nat.le_of_ble_eq_true rfl⟩, Nat.le_of_ble_eq_true rfl⟩ (rest := []) rfl dX6_crossingShare_27 (fun r9 S8 H locs h C => ?_)
    refine lv_i2f F.x F.b dX6_crossingShare_30 ?_
    refine lv_goto (tgt := 45) F.x F.b dX6_crossingShare_31 (by decide) ?_
    exact retFl F hr C h dX6_crossingShare_45
