def rmX1_keep : Room := { frames := 2, cells := 0, slots := 0, locals := 43 }
def mX1_keep_b33 (post : Mem → Prop) (S : Mem) (vt0 : Int32) : Prop := ∀ S1 : Mem, S1 = wr S 4 0 1 vt0 → ∀ S2 : Mem, S2 = wr S1 4 0 2 (if ((S1 4 0 2) + (1 : Int32)) < (8 : Int32) then ((S1 4 0 2) + (1 : Int32)) else (8 : Int32)) → post S2
def mX1_keep (post : Mem → Prop) (S : Mem) (j1 : Nat) : Prop := vp_in (S 4 0 1) 8 ∧ ∀ k2 : Nat, k2 = (S 4 0 1).toNatClampNeg + 1 → mX0_copyFrom (fun (S3 : Mem) => (((7 : Int32) ≤ (S3 4 0 1) → (mX1_keep_b33 post S3 (0 : Int32))) ∧ (¬ (7 : Int32) ≤ (S3 4 0 1) → (mX1_keep_b33 post S3 ((S3 4 0 1) + (1 : Int32)))))) S k2 j1
set_option maxRecDepth 100000 in
set_option maxHeartbeats 4000000 in
theorem bX1_keep_33 {p : Program} {l : Launch} {e : Env} {s : State} {m : MethodId} {args : Array Value} {below : List Frame} {meth : Method} {c : Code} {D : va_G} {ky : Nat → ClassId} {ad : Nat → Nat} {ex : Nat → Nat → Nat} (F : Fx p s m args meth c D ky ad ex cX1_keep 2 yX1_keep.cls) (hr : meth.sig.returnType = none) {post : Mem → Prop} : ∀ (S : Mem) (vt0 : Int32) (H : Heap) (locs : List Loc) (ls : Array Slot), mX1_keep_b33 post S vt0 → Cx D ky ad s S H locs → lv_has ls 2 [(0, .ref (ad 111))] → W p l e rmX1_keep s m args below meth c H locs 0 0 (MQ below (va_Qv post (AFT D ky ad) (AW ad s.heap.size)) args s 0 0 (AW ad s.heap.size)) (F0 m 33 ls [.int vt0, .ref (ad 111)]) := by
  intro S vt0 H locs ls  h C hl
  unfold mX1_keep_b33 at h
  refine putI F C 1 (by decide) q1_145 rfl (tyX1_ok 1 (by decide)) rfl rfl rfl dX1_keep_33 (fun H locs C => ?_)
  obtain ⟨S1, eS1⟩ : ∃ z : Mem, z = wr S 4 0 1 vt0 := ⟨_, rfl⟩
  rw [← eS1] at C
  have h := h S1 eS1
  refine lv_aload_n F.x F.b dX1_keep_36 rfl (lv_at hl 0 rfl) ?_
  refine lv_bipush (v := 8) F.x F.b dX1_keep_37 (by decide) ?_
  refine lv_aload_n F.x F.b dX1_keep_39 rfl (lv_at hl 0 rfl) ?_
  refine getI F C 2 (by decide) q1_146 (v := .int (S1 4 0 2)) rfl dX1_keep_40 ?_
  refine lv_iconst (v := 1) F.x F.b dX1_keep_43 (by decide) ?_
  refine lv_iadd F.x F.b dX1_keep_44 ?_
  refine mMin F hl q2_169 ⟨Nat.le_of_ble_eq_true rfl, Nat.le_of_ble_eq_true rfl, Nat.le_of_ble_eq_true rfl, Nat.le_of_ble_eq_true rfl⟩ dX1_keep_45 ?_
  refine putI F C 2 (by decide) q1_146 rfl (tyX1_ok 2 (by decide)) rfl rfl rfl dX1_keep_48 (fun H locs C => ?_)
  obtain ⟨S2, eS2⟩ : ∃ z : Mem, z = wr S1 4 0 2 (if ((S1 4 0 2) + (1 : Int32)) < (8 : Int32) then ((S1 4 0 2) + (1 : Int32)) else (8 : Int32)) := ⟨_, rfl⟩
  rw [← eS2] at C
  have h := h S2 eS2
  exact retV F hr C h dX1_keep_51
set_option maxRecDepth 100000 in
set_option maxHeartbeats 4000000 in
theorem kX1_keep {l : Launch} {D : va_G} {ky : Nat → ClassId} {ad : Nat → Nat} {ex : Nat → Nat → Nat} {post : Mem → Prop} {S : Mem} {j1 : Nat} (hj1 : j1 < 10) (h : mX1_keep post S j1) : CMv l D ky ad ex yX1_keep cX1_keep 2 none rmX1_keep 0 0 [.ref (ad 111), .ref (ad j1)] S post := by
  refine CMv.of (by decide) (Nat.le_of_ble_eq_true rfl) (fun p e s m args below meth c ls F hr C hl => ?_)
  have hl : lv_has ls 2 [(0, .ref (ad 111)), (1, .ref (ad j1))] := hl
  unfold mX1_keep at h
  refine lv_aload_n F.x F.b dX1_keep_0 rfl (lv_at hl 0 rfl) ?_
  refine getI F C 0 (by decide) q1_144 (v := .ref (ad 112)) rfl dX1_keep_1 ?_
  refine lv_aload_n F.x F.b dX1_keep_4 rfl (lv_at hl 0 rfl) ?_
  refine getI F C 1 (by decide) q1_145 (v := .int (S 4 0 1)) rfl dX1_keep_5 ?_
  obtain ⟨g1, h⟩ := h
  refine aldF F C g1 dX1_keep_8 ?_
  obtain ⟨k2, ek2⟩ : ∃ z : Nat, z = (S 4 0 1).toNatClampNeg + 1 := ⟨_, rfl⟩
  have hk2 : k2 < 10 := by rw [ek2]; exact bf_lt g1
  rw [← ek2]
  have h := h k2 ek2
  refine lv_aload_n F.x F.b dX1_keep_9 rfl (lv_at hl 1 rfl) ?_
  refine kV F C hl (kX0_copyFrom  hk2 hj1 h) (by omega) (ce_F hk2 _) rfl wv_X1_25 ⟨rfl, rfl, ⟨Nat.le_of_ble_eq_true rfl, Nat.le_of_ble_eq_true rfl⟩, ⟨Nat.le_of_ble_eq_true rfl, Nat.le_of_ble_eq_true rfl⟩, Nat.le_of_ble_eq_true rfl⟩ (rest := []) rfl dX1_keep_10 (fun S3 H locs h C => ?_)
  refine lv_aload_n F.x F.b dX1_keep_13 rfl (lv_at hl 0 rfl) ?_
  refine lv_aload_n F.x F.b dX1_keep_14 rfl (lv_at hl 0 rfl) ?_
  refine getI F C 1 (by decide) q1_145 (v := .int (S3 4 0 1)) rfl dX1_keep_15 ?_
  refine lv_bipush (v := 7) F.x F.b dX1_keep_18 (by decide) ?_
  refine lv_icmp_ge (tgt := 32) F.x F.b dX1_keep_20 (by decide) (fun g5 => ?_) (fun g5 => ?_)
  · have h := h.1 g5
    refine lv_iconst (v := 0) F.x F.b dX1_keep_32 (by decide) ?_
    exact bX1_keep_33 F hr S3 (0 : Int32) _ _ _ h C (lv_sub hl [0] rfl)
  · have h := h.2 g5
    refine lv_aload_n F.x F.b dX1_keep_23 rfl (lv_at hl 0 rfl) ?_
    refine getI F C 1 (by decide) q1_145 (v := .int (S3 4 0 1)) rfl dX1_keep_24 ?_
    refine lv_iconst (v := 1) F.x F.b dX1_keep_27 (by decide) ?_
    refine lv_iadd F.x F.b dX1_keep_28 ?_
    refine lv_goto (tgt := 33) F.x F.b dX1_keep_29 (by decide) ?_
    exact bX1_keep_33 F hr S3 ((S3 4 0 1) + (1 : Int32)) _ _ _ h C (lv_sub hl [0] rfl)

def rmX1_takeBack : Room := { frames := 2, cells := 0, slots := 0, locals := 43 }
def mX1_takeBack_b19 (post : Mem → Prop) (S : Mem) (j1 : Nat) (vt0 : Int32) : Prop := ∀ S1 : Mem, S1 = wr S 4 0 1 vt0 → vp_in (S1 4 0 1) 8 ∧ ∀ k3 : Nat, k3 = (S1 4 0 1).toNatClampNeg + 1 → mX0_copyFrom (fun (S4 : Mem) => ∀ S6 : Mem, S6 = wr S4 4 0 2 ((S4 4 0 2) - (1 : Int32)) → post S6) S1 j1 k3
def mX1_takeBack (post : Mem → Prop) (S : Mem) (j1 : Nat) : Prop := (((S 4 0 1) ≤ 0 → (mX1_takeBack_b19 post S j1 (7 : Int32))) ∧ (¬ (S 4 0 1) ≤ 0 → (mX1_takeBack_b19 post S j1 ((S 4 0 1) - (1 : Int32)))))
set_option maxRecDepth 100000 in
set_option maxHeartbeats 4000000 in
theorem bX1_takeBack_19 {p : Program} {l : Launch} {e : Env} {s : State} {m : MethodId} {args : Array Value} {below : List Frame} {meth : Method} {c : Code} {D : va_G} {ky : Nat → ClassId} {ad : Nat → Nat} {ex : Nat → Nat → Nat} (F : Fx p s m args meth c D ky ad ex cX1_takeBack 2 yX1_takeBack.cls) (hr : meth.sig.returnType = none) {post : Mem → Prop} : ∀ (S : Mem) (j1 : Nat) (vt0 : Int32) (H : Heap) (locs : List Loc) (ls : Array Slot), j1 < 10 → mX1_takeBack_b19 post S j1 vt0 → Cx D ky ad s S H locs → lv_has ls 2 [(0, .ref (ad 111)), (1, .ref (ad j1))] → W p l e rmX1_takeBack s m args below meth c H locs 0 0 (MQ below (va_Qv post (AFT D ky ad) (AW ad s.heap.size)) args s 0 0 (AW ad s.heap.size)) (F0 m 19 ls [.int vt0, .ref (ad 111)]) := by
  intro S j1 vt0 H locs ls hj1 h C hl
  unfold mX1_takeBack_b19 at h
  refine putI F C 1 (by decide) q1_145 rfl (tyX1_ok 1 (by decide)) rfl rfl rfl dX1_takeBack_19 (fun H locs C => ?_)
  obtain ⟨S1, eS1⟩ : ∃ z : Mem, z = wr S 4 0 1 vt0 := ⟨_, rfl⟩
  rw [← eS1] at C
  have h := h S1 eS1
  refine lv_aload_n F.x F.b dX1_takeBack_22 rfl (lv_at hl 1 rfl) ?_
  refine lv_aload_n F.x F.b dX1_takeBack_23 rfl (lv_at hl 0 rfl) ?_
  refine getI F C 0 (by decide) q1_144 (v := .ref (ad 112)) rfl dX1_takeBack_24 ?_
  refine lv_aload_n F.x F.b dX1_takeBack_27 rfl (lv_at hl 0 rfl) ?_
  refine getI F C 1 (by decide) q1_145 (v := .int (S1 4 0 1)) rfl dX1_takeBack_28 ?_
  obtain ⟨g2, h⟩ := h
  refine aldF F C g2 dX1_takeBack_31 ?_
  obtain ⟨k3, ek3⟩ : ∃ z : Nat, z = (S1 4 0 1).toNatClampNeg + 1 := ⟨_, rfl⟩
  have hk3 : k3 < 10 := by rw [ek3]; exact bf_lt g2
  rw [← ek3]
  have h := h k3 ek3
  refine kV F C hl (kX0_copyFrom  hj1 hk3 h) (by omega) (ce_F hj1 _) rfl wv_X1_25 ⟨rfl, rfl, ⟨Nat.le_of_ble_eq_true rfl, Nat.le_of_ble_eq_true rfl⟩, ⟨Nat.le_of_ble_eq_true rfl, Nat.le_of_ble_eq_true rfl⟩, Nat.le_of_ble_eq_true rfl⟩ (rest := []) rfl dX1_takeBack_32 (fun S4 H locs h C => ?_)
  refine lv_aload_n F.x F.b dX1_takeBack_35 rfl (lv_at hl 0 rfl) ?_
  refine lv_dup F.x F.b dX1_takeBack_36 rfl ?_
  refine getI F C 2 (by decide) q1_146 (v := .int (S4 4 0 2)) rfl dX1_takeBack_37 ?_
  refine lv_iconst (v := 1) F.x F.b dX1_takeBack_40 (by decide) ?_
  refine lv_isub F.x F.b dX1_takeBack_41 ?_
  refine putI F C 2 (by decide) q1_146 rfl (tyX1_ok 2 (by decide)) rfl rfl rfl dX1_takeBack_42 (fun H locs C => ?_)
  obtain ⟨S6, eS6⟩ : ∃ z : Mem, z = wr S4 4 0 2 ((S4 4 0 2) - (1 : Int32)) := ⟨_, rfl⟩
  rw [← eS6] at C
  have h := h S6 eS6
  exact retV F hr C h dX1_takeBack_45
set_option maxRecDepth 100000 in
set_option maxHeartbeats 4000000 in
theorem kX1_takeBack {l : Launch} {D : va_G} {ky : Nat → ClassId} {ad : Nat → Nat} {ex : Nat → Nat → Nat} {post : Mem → Prop} {S : Mem} {j1 : Nat} (hj1 : j1 < 10) (h : mX1_takeBack post S j1) : CMv l D ky ad ex yX1_takeBack cX1_takeBack 2 none rmX1_takeBack 0 0 [.ref (ad 111), .ref (ad j1)] S post := by
  refine CMv.of (by decide) (Nat.le_of_ble_eq_true rfl) (fun p e s m args below meth c ls F hr C hl => ?_)
  have hl : lv_has ls 2 [(0, .ref (ad 111)), (1, .ref (ad j1))] := hl
  unfold mX1_takeBack at h
  refine lv_aload_n F.x F.b dX1_takeBack_0 rfl (lv_at hl 0 rfl) ?_
  refine lv_aload_n F.x F.b dX1_takeBack_1 rfl (lv_at hl 0 rfl) ?_
  refine getI F C 1 (by decide) q1_145 (v := .int (S 4 0 1)) rfl dX1_takeBack_2 ?_
  refine lv_if_le (tgt := 17) F.x F.b dX1_takeBack_5 (by decide) (fun g1 => ?_) (fun g1 => ?_)
  · have h := h.1 g1
    refine lv_bipush (v := 7) F.x F.b dX1_takeBack_17 (by decide) ?_
    exact bX1_takeBack_19 F hr S j1 (7 : Int32) _ _ _ hj1 h C (lv_sub hl [0, 1] rfl)
  · have h := h.2 g1
    refine lv_aload_n F.x F.b dX1_takeBack_8 rfl (lv_at hl 0 rfl) ?_
    refine getI F C 1 (by decide) q1_145 (v := .int (S 4 0 1)) rfl dX1_takeBack_9 ?_
    refine lv_iconst (v := 1) F.x F.b dX1_takeBack_12 (by decide) ?_
    refine lv_isub F.x F.b dX1_takeBack_13 ?_
    refine lv_goto (tgt := 19) F.x F.b dX1_takeBack_14 (by decide) ?_
    exact bX1_takeBack_19 F hr S j1 ((S 4 0 1) - (1 : Int32)) _ _ _ hj1 h C (lv_sub hl [0, 1] rfl)

def rmX1_forget : Room := { frames := 0, cells := 0, slots := 0, locals := 0 }
def mX1_forget (post : Mem → Prop) (S : Mem) : Prop := ∀ S1 : Mem, S1 = wr S 4 0 2 (0 : Int32) → post S1
set_option maxRecDepth 100000 in
set_option maxHeartbeats 4000000 in
theorem kX1_forget {l : Launch} {D : va_G} {ky : Nat → ClassId} {ad : Nat → Nat} {ex : Nat → Nat → Nat} {post : Mem → Prop} {S : Mem} (h : mX1_forget post S ) : CMv l D ky ad ex yX1_forget cX1_forget 1 none rmX1_forget 0 0 [.ref (ad 111)] S post := by
  refine CMv.of (by decide) (Nat.le_of_ble_eq_true rfl) (fun p e s m args below meth c ls F hr C hl => ?_)
  have hl : lv_has ls 1 [(0, .ref (ad 111))] := hl
  unfold mX1_forget at h
  refine lv_aload_n F.x F.b dX1_forget_0 rfl (lv_at hl 0 rfl) ?_
  refine lv_iconst (v := 0) F.x F.b dX1_forget_1 (by decide) ?_
  refine putI F C 2 (by decide) q1_146 rfl (tyX1_ok 2 (by decide)) rfl rfl rfl dX1_forget_2 (fun H locs C => ?_)
  obtain ⟨S1, eS1⟩ : ∃ z : Mem, z = wr S 4 0 2 (0 : Int32) := ⟨_, rfl⟩
  rw [← eS1] at C
  have h := h S1 eS1
  exact retV F hr C h dX1_forget_5

def rmX2_isFull : Room := { frames := 0, cells := 0, slots := 0, locals := 0 }
def mX2_isFull (post : Int32 → Mem → Prop) (S : Mem) : Prop := (((S 6 0 1) < (60 : Int32) → (post (0 : Int32) S)) ∧ (¬ (S 6 0 1) < (60 : Int32) → (post (1 : Int32) S)))
set_option maxRecDepth 100000 in
set_option maxHeartbeats 4000000 in
theorem kX2_isFull {l : Launch} {D : va_G} {ky : Nat → ClassId} {ad : Nat → Nat} {ex : Nat → Nat → Nat} {post : Int32 → Mem → Prop} {S : Mem} (h : mX2_isFull post S ) : CMi l D ky ad ex yX2_isFull cX2_isFull 1 (some .boolean) rmX2_isFull 0 0 [.ref (ad 113)] S post := by
  refine CMi.of (by decide) (Nat.le_of_ble_eq_true rfl) (fun p e s m args below meth c ls F hr C hl => ?_)
  have hl : lv_has ls 1 [(0, .ref (ad 113))] := hl
  unfold mX2_isFull at h
  refine lv_aload_n F.x F.b dX2_isFull_0 rfl (lv_at hl 0 rfl) ?_
  refine getQ F C 1 (by decide) q1_162 (v := .int (S 6 0 1)) rfl dX2_isFull_1 ?_
  refine lv_bipush (v := 60) F.x F.b dX2_isFull_4 (by decide) ?_
  refine lv_icmp_lt (tgt := 13) F.x F.b dX2_isFull_6 (by decide) (fun g1 => ?_) (fun g1 => ?_)
  · have h := h.1 g1
    refine lv_iconst (v := 0) F.x F.b dX2_isFull_13 (by decide) ?_
    exact retZ F hr C rfl h dX2_isFull_14
  · have h := h.2 g1
    refine lv_iconst (v := 1) F.x F.b dX2_isFull_9 (by decide) ?_
    refine lv_goto (tgt := 14) F.x F.b dX2_isFull_10 (by decide) ?_
    exact retZ F hr C rfl h dX2_isFull_14

def rmX2_append : Room := { frames := 0, cells := 0, slots := 0, locals := 0 }
def mX2_append (post : Int32 → Mem → Prop) (S : Mem) (v1 : Int32) : Prop := (((60 : Int32) ≤ (S 6 0 1) → (post (S 6 0 1) S)) ∧ (¬ (60 : Int32) ≤ (S 6 0 1) → (vp_in (S 6 0 1) 60 ∧ isC v1 ∧ ∀ S4 : Mem, S4 = wr S 7 0 (S 6 0 1).toNatClampNeg v1 → ∀ S5 : Mem, S5 = wr S4 6 0 1 ((S4 6 0 1) + (1 : Int32)) → post (S5 6 0 1) S5)))
set_option maxRecDepth 100000 in
set_option maxHeartbeats 4000000 in
theorem kX2_append {l : Launch} {D : va_G} {ky : Nat → ClassId} {ad : Nat → Nat} {ex : Nat → Nat → Nat} {post : Int32 → Mem → Prop} {S : Mem} {v1 : Int32} (h : mX2_append post S v1) : CMi l D ky ad ex yX2_append cX2_append 2 (some .int) rmX2_append 0 0 [.ref (ad 113), .int v1] S post := by
  refine CMi.of (by decide) (Nat.le_of_ble_eq_true rfl) (fun p e s m args below meth c ls F hr C hl => ?_)
  have hl : lv_has ls 2 [(0, .ref (ad 113)), (1, .int v1)] := hl
  unfold mX2_append at h
  refine lv_aload_n F.x F.b dX2_append_0 rfl (lv_at hl 0 rfl) ?_
  refine getQ F C 1 (by decide) q1_162 (v := .int (S 6 0 1)) rfl dX2_append_1 ?_
  refine lv_bipush (v := 60) F.x F.b dX2_append_4 (by decide) ?_
  refine lv_icmp_ge (tgt := 29) F.x F.b dX2_append_6 (by decide) (fun g1 => ?_) (fun g1 => ?_)
  · have h := h.1 g1
    refine lv_aload_n F.x F.b dX2_append_29 rfl (lv_at hl 0 rfl) ?_
    refine getQ F C 1 (by decide) q1_162 (v := .int (S 6 0 1)) rfl dX2_append_30 ?_
    exact retI F hr C h dX2_append_33
  · have h := h.2 g1
    refine lv_aload_n F.x F.b dX2_append_9 rfl (lv_at hl 0 rfl) ?_
    refine getQ F C 0 (by decide) q1_161 (v := .ref (ad 114)) rfl dX2_append_10 ?_
    refine lv_aload_n F.x F.b dX2_append_13 rfl (lv_at hl 0 rfl) ?_
    refine getQ F C 1 (by decide) q1_162 (v := .int (S 6 0 1)) rfl dX2_append_14 ?_
    refine lv_iload_n F.x F.b dX2_append_17 rfl (lv_at hl 1 rfl) ?_
    obtain ⟨g2, h⟩ := h
    obtain ⟨g3, h⟩ := h
    refine astC F C (o := 114) (cq := 7) (iq := 0) (by decide) rfl rfl (fun _ => rfl) g2 g3 dX2_append_18 (fun H locs C => ?_)
    obtain ⟨S4, eS4⟩ : ∃ z : Mem, z = wr S 7 0 (S 6 0 1).toNatClampNeg v1 := ⟨_, rfl⟩
    rw [← eS4] at C
    have h := h S4 eS4
    refine lv_aload_n F.x F.b dX2_append_19 rfl (lv_at hl 0 rfl) ?_
    refine lv_dup F.x F.b dX2_append_20 rfl ?_
    refine getQ F C 1 (by decide) q1_162 (v := .int (S4 6 0 1)) rfl dX2_append_21 ?_
    refine lv_iconst (v := 1) F.x F.b dX2_append_24 (by decide) ?_
    refine lv_iadd F.x F.b dX2_append_25 ?_
    refine putQ F C 1 (by decide) q1_162 rfl (tyX2_ok 1 (by decide)) rfl rfl rfl dX2_append_26 (fun H locs C => ?_)
    obtain ⟨S5, eS5⟩ : ∃ z : Mem, z = wr S4 6 0 1 ((S4 6 0 1) + (1 : Int32)) := ⟨_, rfl⟩
    rw [← eS5] at C
    have h := h S5 eS5
    refine lv_aload_n F.x F.b dX2_append_29 rfl (lv_at hl 0 rfl) ?_
    refine getQ F C 1 (by decide) q1_162 (v := .int (S5 6 0 1)) rfl dX2_append_30 ?_
    exact retI F hr C h dX2_append_33

def rmX2_empty : Room := { frames := 0, cells := 0, slots := 0, locals := 0 }
def mX2_empty (post : Mem → Prop) (S : Mem) : Prop := ∀ S1 : Mem, S1 = wr S 6 0 1 (0 : Int32) → post S1
set_option maxRecDepth 100000 in
set_option maxHeartbeats 4000000 in
theorem kX2_empty {l : Launch} {D : va_G} {ky : Nat → ClassId} {ad : Nat → Nat} {ex : Nat → Nat → Nat} {post : Mem → Prop} {S : Mem} (h : mX2_empty post S ) : CMv l D ky ad ex yX2_empty cX2_empty 1 none rmX2_empty 0 0 [.ref (ad 113)] S post := by
  refine CMv.of (by decide) (Nat.le_of_ble_eq_true rfl) (fun p e s m args below meth c ls F hr C hl => ?_)
  have hl : lv_has ls 1 [(0, .ref (ad 113))] := hl
  unfold mX2_empty at h
  refine lv_aload_n F.x F.b dX2_empty_0 rfl (lv_at hl 0 rfl) ?_
  refine lv_iconst (v := 0) F.x F.b dX2_empty_1 (by decide) ?_
  refine putQ F C 1 (by decide) q1_162 rfl (tyX2_ok 1 (by decide)) rfl rfl rfl dX2_empty_2 (fun H locs C => ?_)
  obtain ⟨S1, eS1⟩ : ∃ z : Mem, z = wr S 6 0 1 (0 : Int32) := ⟨_, rfl⟩
  rw [← eS1] at C
  have h := h S1 eS1
  exact retV F hr C h dX2_empty_5

def rmX2_isNext : Room := { frames := 0, cells := 0, slots := 0, locals := 0 }
def mX2_isNext (post : Int32 → Mem → Prop) (S : Mem) (v1 : Int32) : Prop := ((¬ (S 6 0 3) = (-1 : Int32) → (post (0 : Int32) S)) ∧ ((S 6 0 3) = (-1 : Int32) → ((((S 6 0 1) ≤ (S 6 0 2) → (post (0 : Int32) S)) ∧ (¬ (S 6 0 1) ≤ (S 6 0 2) → (vp_in (S 6 0 2) 60 ∧ ((¬ (S 7 0 (S 6 0 2).toNatClampNeg) = v1 → (post (0 : Int32) S)) ∧ ((S 7 0 (S 6 0 2).toNatClampNeg) = v1 → (post (1 : Int32) S)))))))))
set_option maxRecDepth 100000 in
set_option maxHeartbeats 4000000 in
theorem kX2_isNext {l : Launch} {D : va_G} {ky : Nat → ClassId} {ad : Nat → Nat} {ex : Nat → Nat → Nat} {post : Int32 → Mem → Prop} {S : Mem} {v1 : Int32} (h : mX2_isNext post S v1) : CMi l D ky ad ex yX2_isNext cX2_isNext 2 (some .boolean) rmX2_isNext 0 0 [.ref (ad 113), .int v1] S post := by
  refine CMi.of (by decide) (Nat.le_of_ble_eq_true rfl) (fun p e s m args below meth c ls F hr C hl => ?_)
  have hl : lv_has ls 2 [(0, .ref (ad 113)), (1, .int v1)] := hl
  unfold mX2_isNext at h
  refine lv_aload_n F.x F.b dX2_isNext_0 rfl (lv_at hl 0 rfl) ?_
  refine getQ F C 3 (by decide) q1_165 (v := .int (S 6 0 3)) rfl dX2_isNext_1 ?_
  refine lv_iconst (v := -1) F.x F.b dX2_isNext_4 (by decide) ?_
  refine lv_icmp_ne (tgt := 36) F.x F.b dX2_isNext_5 (by decide) (fun g1 => ?_) (fun g1 => ?_)
  · have h := h.1 g1
    refine lv_iconst (v := 0) F.x F.b dX2_isNext_36 (by decide) ?_
    exact retZ F hr C rfl h dX2_isNext_37
  · have h := h.2 g1
    refine lv_aload_n F.x F.b dX2_isNext_8 rfl (lv_at hl 0 rfl) ?_
    refine getQ F C 2 (by decide) q1_164 (v := .int (S 6 0 2)) rfl dX2_isNext_9 ?_
    refine lv_aload_n F.x F.b dX2_isNext_12 rfl (lv_at hl 0 rfl) ?_
    refine getQ F C 1 (by decide) q1_162 (v := .int (S 6 0 1)) rfl dX2_isNext_13 ?_
    refine lv_icmp_ge (tgt := 36) F.x F.b dX2_isNext_16 (by decide) (fun g2 => ?_) (fun g2 => ?_)
    · have h := h.1 g2
      refine lv_iconst (v := 0) F.x F.b dX2_isNext_36 (by decide) ?_
      exact retZ F hr C rfl h dX2_isNext_37
    · have h := h.2 g2
      refine lv_aload_n F.x F.b dX2_isNext_19 rfl (lv_at hl 0 rfl) ?_
      refine getQ F C 0 (by decide) q1_161 (v := .ref (ad 114)) rfl dX2_isNext_20 ?_
      refine lv_aload_n F.x F.b dX2_isNext_23 rfl (lv_at hl 0 rfl) ?_
      refine getQ F C 2 (by decide) q1_164 (v := .int (S 6 0 2)) rfl dX2_isNext_24 ?_
      obtain ⟨g3, h⟩ := h
      refine aldC F C (o := 114) (cq := 7) (iq := 0) (by decide) rfl rfl rfl g3 dX2_isNext_27 ?_
      refine lv_iload_n F.x F.b dX2_isNext_28 rfl (lv_at hl 1 rfl) ?_
      refine lv_icmp_ne (tgt := 36) F.x F.b dX2_isNext_29 (by decide) (fun g4 => ?_) (fun g4 => ?_)
      · have h := h.1 g4
        refine lv_iconst (v := 0) F.x F.b dX2_isNext_36 (by decide) ?_
        exact retZ F hr C rfl h dX2_isNext_37
      · have h := h.2 g4
        refine lv_iconst (v := 1) F.x F.b dX2_isNext_32 (by decide) ?_
        refine lv_goto (tgt := 37) F.x F.b dX2_isNext_33 (by decide) ?_
        exact retZ F hr C rfl h dX2_isNext_37

def rmX2_fail : Room := { frames := 0, cells := 0, slots := 0, locals := 0 }
def mX2_fail (post : Mem → Prop) (S : Mem) (v1 : Int32) : Prop := ((¬ (S 6 0 3) = (-1 : Int32) → (post S)) ∧ ((S 6 0 3) = (-1 : Int32) → (∀ S2 : Mem, S2 = wr S 6 0 3 v1 → post S2)))
set_option maxRecDepth 100000 in
set_option maxHeartbeats 4000000 in
theorem kX2_fail {l : Launch} {D : va_G} {ky : Nat → ClassId} {ad : Nat → Nat} {ex : Nat → Nat → Nat} {post : Mem → Prop} {S : Mem} {v1 : Int32} (h : mX2_fail post S v1) : CMv l D ky ad ex yX2_fail cX2_fail 2 none rmX2_fail 0 0 [.ref (ad 113), .int v1] S post := by
  refine CMv.of (by decide) (Nat.le_of_ble_eq_true rfl) (fun p e s m args below meth c ls F hr C hl => ?_)
  have hl : lv_has ls 2 [(0, .ref (ad 113)), (1, .int v1)] := hl
  unfold mX2_fail at h
  refine lv_aload_n F.x F.b dX2_fail_0 rfl (lv_at hl 0 rfl) ?_
  refine getQ F C 3 (by decide) q1_165 (v := .int (S 6 0 3)) rfl dX2_fail_1 ?_
  refine lv_iconst (v := -1) F.x F.b dX2_fail_4 (by decide) ?_
  refine lv_icmp_ne (tgt := 13) F.x F.b dX2_fail_5 (by decide) (fun g1 => ?_) (fun g1 => ?_)
  · have h := h.1 g1
    exact retV F hr C h dX2_fail_13
  · have h := h.2 g1
    refine lv_aload_n F.x F.b dX2_fail_8 rfl (lv_at hl 0 rfl) ?_
    refine lv_iload_n F.x F.b dX2_fail_9 rfl (lv_at hl 1 rfl) ?_
    refine putQ F C 3 (by decide) q1_165 rfl (tyX2_ok 3 (by decide)) rfl rfl rfl dX2_fail_10 (fun H locs C => ?_)
    obtain ⟨S2, eS2⟩ : ∃ z : Mem, z = wr S 6 0 3 v1 := ⟨_, rfl⟩
    rw [← eS2] at C
    have h := h S2 eS2
    exact retV F hr C h dX2_fail_13

def rmX2_takes : Room := { frames := 1, cells := 0, slots := 0, locals := 21 }
def mX2_takes (post : Int32 → Mem → Prop) (S : Mem) (v1 : Int32) : Prop := mX2_isNext (fun (r2 : Int32) (S1 : Mem) => ((r2 = 0 → (isB r2 ∧ post r2 S1)) ∧ (¬ r2 = 0 → (∀ S4 : Mem, S4 = wr S1 6 0 2 ((S1 6 0 2) + (1 : Int32)) → isB r2 ∧ post r2 S4)))) S v1
set_option maxRecDepth 100000 in
set_option maxHeartbeats 4000000 in
theorem kX2_takes {l : Launch} {D : va_G} {ky : Nat → ClassId} {ad : Nat → Nat} {ex : Nat → Nat → Nat} {post : Int32 → Mem → Prop} {S : Mem} {v1 : Int32} (h : mX2_takes post S v1) : CMi l D ky ad ex yX2_takes cX2_takes 3 (some .boolean) rmX2_takes 0 0 [.ref (ad 113), .int v1] S post := by
  refine CMi.of (by decide) (Nat.le_of_ble_eq_true rfl) (fun p e s m args below meth c ls F hr C hl => ?_)
  have hl : lv_has ls 3 [(0, .ref (ad 113)), (1, .int v1)] := hl
  unfold mX2_takes at h
  refine lv_aload_n F.x F.b dX2_takes_0 rfl (lv_at hl 0 rfl) ?_
  refine lv_iload_n F.x F.b dX2_takes_1 rfl (lv_at hl 1 rfl) ?_
  refine kI F C hl (kX2_isNext  h) (by decide) (ce_Q _) rfl wv_X2_43 ⟨rfl, rfl, ⟨Nat.le_of_ble_eq_true rfl, Nat.le_of_ble_eq_true rfl⟩, ⟨Nat.le_of_ble_eq_true rfl, Nat.le_of_ble_eq_true rfl⟩, Nat.le_of_ble_eq_true rfl⟩ (rest := []) rfl dX2_takes_2 (fun r2 S1 H locs h C => ?_)
  refine lv_istore_n (lv' := [(2, .int r2), (0, .ref (ad 113)), (1, .int v1)]) F.x F.b dX2_takes_5 rfl hl (by decide) rfl (fun ls hl => ?_)
  refine lv_iload_n F.x F.b dX2_takes_6 rfl (lv_at hl 0 rfl) ?_
  refine lv_if_eq (tgt := 20) F.x F.b dX2_takes_7 (by decide) (fun g3 => ?_) (fun g3 => ?_)
  · have h := h.1 g3
    refine lv_iload_n F.x F.b dX2_takes_20 rfl (lv_at hl 0 rfl) ?_
    exact retZ F hr C h.1.n h.2 dX2_takes_21
  · have h := h.2 g3
    refine lv_aload_n F.x F.b dX2_takes_10 rfl (lv_at hl 1 rfl) ?_
    refine lv_dup F.x F.b dX2_takes_11 rfl ?_
    refine getQ F C 2 (by decide) q1_164 (v := .int (S1 6 0 2)) rfl dX2_takes_12 ?_
    refine lv_iconst (v := 1) F.x F.b dX2_takes_15 (by decide) ?_
    refine lv_iadd F.x F.b dX2_takes_16 ?_
    refine putQ F C 2 (by decide) q1_164 rfl (tyX2_ok 2 (by decide)) rfl rfl rfl dX2_takes_17 (fun H locs C => ?_)
    obtain ⟨S4, eS4⟩ : ∃ z : Mem, z = wr S1 6 0 2 ((S1 6 0 2) + (1 : Int32)) := ⟨_, rfl⟩
    rw [← eS4] at C
    have h := h S4 eS4
    refine lv_iload_n F.x F.b dX2_takes_20 rfl (lv_at hl 0 rfl) ?_
    exact retZ F hr C h.1.n h.2 dX2_takes_21

def rmX2_everyone : Room := { frames := 0, cells := 0, slots := 0, locals := 0 }
def mX2_everyone (post : Int32 → Mem → Prop) (S : Mem) (j0 : Nat) : Prop := post ((((1 : Int32) <<< ((S 0 j0 2) &&& 31)) - (1 : Int32))) S
set_option maxRecDepth 100000 in
set_option maxHeartbeats 4000000 in
theorem kX2_everyone {l : Launch} {D : va_G} {ky : Nat → ClassId} {ad : Nat → Nat} {ex : Nat → Nat → Nat} {post : Int32 → Mem → Prop} {S : Mem} {j0 : Nat} (hj0 : j0 < 10) (h : mX2_everyone post S j0) : CMi l D ky ad ex yX2_everyone cX2_everyone 1 (some .int) rmX2_everyone 0 0 [.ref (ad j0)] S post := by
  refine CMi.of (by decide) (Nat.le_of_ble_eq_true rfl) (fun p e s m args below meth c ls F hr C hl => ?_)
  have hl : lv_has ls 1 [(0, .ref (ad j0))] := hl
  unfold mX2_everyone at h
  refine lv_iconst (v := 1) F.x F.b dX2_everyone_0 (by decide) ?_
  refine lv_aload_n F.x F.b dX2_everyone_1 rfl (lv_at hl 0 rfl) ?_
  refine getFN F C hj0 2 (by decide) q1_91 (v := .int (S 0 j0 2)) rfl dX2_everyone_2 ?_
  refine lv_ishl F.x F.b dX2_everyone_5 ?_
  refine lv_iconst (v := 1) F.x F.b dX2_everyone_6 (by decide) ?_
  refine lv_isub F.x F.b dX2_everyone_7 ?_
  exact retI F hr C h dX2_everyone_8

def rmX2_isSo : Room := { frames := 0, cells := 0, slots := 0, locals := 0 }
def mX2_isSo (post : Int32 → Mem → Prop) (S : Mem) (v0 : Int32) (v1 : Int32) (v2 : Int32) : Prop := ((¬ v1 = (60 : Int32) → (((¬ v1 = (62 : Int32) → (((¬ v0 = v2 → (post (0 : Int32) S)) ∧ (v0 = v2 → (post (1 : Int32) S))))) ∧ (v1 = (62 : Int32) → (((v0 ≤ v2 → (post (0 : Int32) S)) ∧ (¬ v0 ≤ v2 → (post (1 : Int32) S)))))))) ∧ (v1 = (60 : Int32) → (((v2 ≤ v0 → (post (0 : Int32) S)) ∧ (¬ v2 ≤ v0 → (post (1 : Int32) S))))))
set_option maxRecDepth 100000 in
set_option maxHeartbeats 4000000 in
theorem kX2_isSo {l : Launch} {D : va_G} {ky : Nat → ClassId} {ad : Nat → Nat} {ex : Nat → Nat → Nat} {post : Int32 → Mem → Prop} {S : Mem} {v0 : Int32} {v1 : Int32} {v2 : Int32} (h : mX2_isSo post S v0 v1 v2) : CMi l D ky ad ex yX2_isSo cX2_isSo 3 (some .boolean) rmX2_isSo 0 0 [.int v0, .int v1, .int v2] S post := by
  refine CMi.of (by decide) (Nat.le_of_ble_eq_true rfl) (fun p e s m args below meth c ls F hr C hl => ?_)
  have hl : lv_has ls 3 [(0, .int v0), (1, .int v1), (2, .int v2)] := hl
  unfold mX2_isSo at h
  refine lv_iload_n F.x F.b dX2_isSo_0 rfl (lv_at hl 1 rfl) ?_
  refine lv_bipush (v := 60) F.x F.b dX2_isSo_1 (by decide) ?_
  refine lv_icmp_ne (tgt := 17) F.x F.b dX2_isSo_3 (by decide) (fun g1 => ?_) (fun g1 => ?_)
  · have h := h.1 g1
    refine lv_iload_n F.x F.b dX2_isSo_17 rfl (lv_at hl 1 rfl) ?_
    refine lv_bipush (v := 62) F.x F.b dX2_isSo_18 (by decide) ?_
    refine lv_icmp_ne (tgt := 36) F.x F.b dX2_isSo_20 (by decide) (fun g2 => ?_) (fun g2 => ?_)
    · have h := h.1 g2
      refine lv_iload_n F.x F.b dX2_isSo_36 rfl (lv_at hl 0 rfl) ?_
      refine lv_iload_n F.x F.b dX2_isSo_37 rfl (lv_at hl 2 rfl) ?_
      refine lv_icmp_ne (tgt := 45) F.x F.b dX2_isSo_38 (by decide) (fun g3 => ?_) (fun g3 => ?_)
      · have h := h.1 g3
        refine lv_iconst (v := 0) F.x F.b dX2_isSo_45 (by decide) ?_
        exact retZ F hr C rfl h dX2_isSo_46
      · have h := h.2 g3
        refine lv_iconst (v := 1) F.x F.b dX2_isSo_41 (by decide) ?_
        refine lv_goto (tgt := 46) F.x F.b dX2_isSo_42 (by decide) ?_
        exact retZ F hr C rfl h dX2_isSo_46
    · have h := h.2 g2
      refine lv_iload_n F.x F.b dX2_isSo_23 rfl (lv_at hl 0 rfl) ?_
      refine lv_iload_n F.x F.b dX2_isSo_24 rfl (lv_at hl 2 rfl) ?_
      refine lv_icmp_le (tgt := 32) F.x F.b dX2_isSo_25 (by decide) (fun g4 => ?_) (fun g4 => ?_)
      · have h := h.1 g4
        refine lv_iconst (v := 0) F.x F.b dX2_isSo_32 (by decide) ?_
        refine lv_goto (tgt := 46) F.x F.b dX2_isSo_33 (by decide) ?_
        exact retZ F hr C rfl h dX2_isSo_46
      · have h := h.2 g4
        refine lv_iconst (v := 1) F.x F.b dX2_isSo_28 (by decide) ?_
        refine lv_goto (tgt := 46) F.x F.b dX2_isSo_29 (by decide) ?_
        exact retZ F hr C rfl h dX2_isSo_46
  · have h := h.2 g1
    refine lv_iload_n F.x F.b dX2_isSo_6 rfl (lv_at hl 0 rfl) ?_
    refine lv_iload_n F.x F.b dX2_isSo_7 rfl (lv_at hl 2 rfl) ?_
    refine lv_icmp_ge (tgt := 15) F.x F.b dX2_isSo_8 (by decide) (fun g5 => ?_) (fun g5 => ?_)
    · have h := h.1 g5
      refine lv_iconst (v := 0) F.x F.b dX2_isSo_15 (by decide) ?_
      exact retZ F hr C rfl h dX2_isSo_16
    · have h := h.2 g5
      refine lv_iconst (v := 1) F.x F.b dX2_isSo_11 (by decide) ?_
      refine lv_goto (tgt := 16) F.x F.b dX2_isSo_12 (by decide) ?_
      exact retZ F hr C rfl h dX2_isSo_16

def rmX2_thoseWith : Room := { frames := 2, cells := 0, slots := 0, locals := 41 }
def mX2_thoseWith_b6 (post : Int32 → Mem → Prop) : Nat → Mem → Nat → Int32 → Int32 → Int32 → Int32 → Int32 → Prop
  | 0, _, _, _, _, _, _, _ => False
  | n + 1, S, j0, v1, v2, v3, v4, v5 => (((S 0 j0 2) ≤ v5 → (post v4 S)) ∧ (¬ (S 0 j0 2) ≤ v5 → (vp_in v5 8 ∧ ∀ k3 : Nat, k3 = 8 * j0 + v5.toNatClampNeg → mX3_numberOf (fun (r5 : Int32) (S4 : Mem) => mX2_isSo (fun (r7 : Int32) (S6 : Mem) => ((r7 = 0 → (∀ x9 : Int32, x9 = v5 + (1 : Int32) → mX2_thoseWith_b6 post n S6 j0 v1 v2 v3 v4 x9)) ∧ (¬ r7 = 0 → (∀ x10 : Int32, x10 = (v4 ||| ((1 : Int32) <<< (v5 &&& 31))) → ∀ x11 : Int32, x11 = v5 + (1 : Int32) → mX2_thoseWith_b6 post n S6 j0 v1 v2 v3 x10 x11)))) S4 r5 v2 v3) S k3 v1)))
def mX2_thoseWith (post : Int32 → Mem → Prop) (S : Mem) (j0 : Nat) (v1 : Int32) (v2 : Int32) (v3 : Int32) : Prop := ∃ fu : Nat, mX2_thoseWith_b6 post fu S j0 v1 v2 v3 (0 : Int32) (0 : Int32)
set_option maxRecDepth 100000 in
set_option maxHeartbeats 4000000 in
theorem bX2_thoseWith_6 {p : Program} {l : Launch} {e : Env} {s : State} {m : MethodId} {args : Array Value} {below : List Frame} {meth : Method} {c : Code} {D : va_G} {ky : Nat → ClassId} {ad : Nat → Nat} {ex : Nat → Nat → Nat} (F : Fx p s m args meth c D ky ad ex cX2_thoseWith 6 yX2_thoseWith.cls) (hr : meth.sig.returnType = (some .int)) {post : Int32 → Mem → Prop} : ∀ (n : Nat) (S : Mem) (j0 : Nat) (v1 : Int32) (v2 : Int32) (v3 : Int32) (v4 : Int32) (v5 : Int32) (H : Heap) (locs : List Loc) (ls : Array Slot), j0 < 10 → mX2_thoseWith_b6 post n S j0 v1 v2 v3 v4 v5 → Cx D ky ad s S H locs → lv_has ls 6 [(0, .ref (ad j0)), (1, .int v1), (2, .int v2), (3, .int v3), (4, .int v4), (5, .int v5)] → W p l e rmX2_thoseWith s m args below meth c H locs 0 0 (MQ below (va_Qi post (AFT D ky ad) (AW ad s.heap.size)) args s 0 0 (AW ad s.heap.size)) (F0 m 6 ls []) := by
  intro n
  induction n with
  | zero =>
    intro S j0 v1 v2 v3 v4 v5 H locs ls hj0 h
    exact False.elim h
  | succ n ih =>
    intro S j0 v1 v2 v3 v4 v5 H locs ls hj0 h C hl
    refine lv_iload F.x F.b dX2_thoseWith_6 (lv_at hl 5 rfl) ?_
    refine lv_aload_n F.x F.b dX2_thoseWith_8 rfl (lv_at hl 0 rfl) ?_
    refine getFN F C hj0 2 (by decide) q1_91 (v := .int (S 0 j0 2)) rfl dX2_thoseWith_9 ?_
    refine lv_icmp_ge (tgt := 49) F.x F.b dX2_thoseWith_12 (by decide) (fun g1 => ?_) (fun g1 => ?_)
    · have h := h.1 g1
      refine lv_iload F.x F.b dX2_thoseWith_49 (lv_at hl 4 rfl) ?_
      exact retI F hr C h dX2_thoseWith_51
    · have h := h.2 g1
      refine lv_aload_n F.x F.b dX2_thoseWith_15 rfl (lv_at hl 0 rfl) ?_
      refine getFN F C hj0 1 (by decide) q1_87 (v := .ref (ad (100 + j0))) rfl dX2_thoseWith_16 ?_
      refine lv_iload F.x F.b dX2_thoseWith_19 (lv_at hl 5 rfl) ?_
      obtain ⟨g2, h⟩ := h
      refine aldT F C hj0 g2 dX2_thoseWith_21 ?_
      obtain ⟨k3, ek3⟩ : ∃ z : Nat, z = 8 * j0 + v5.toNatClampNeg := ⟨_, rfl⟩
      have hk3 : k3 < 80 := by rw [ek3]; exact tv_lt g2 hj0
      rw [← ek3]
      have h := h k3 ek3
      refine lv_iload_n F.x F.b dX2_thoseWith_22 rfl (lv_at hl 1 rfl) ?_
      refine kI F C hl (kX3_numberOf  hk3 h) (by omega) (ce_T hk3 _) rfl wv_X2_119 ⟨rfl, rfl, ⟨Nat.le_of_ble_eq_true rfl, Nat.le_of_ble_eq_true rfl⟩, ⟨Nat.le_of_ble_eq_true rfl, Nat.le_of_ble_eq_true rfl⟩, Nat.le_of_ble_eq_true rfl⟩ (rest := []) rfl dX2_thoseWith_23 (fun r5 S4 H locs h C => ?_)
      refine lv_iload_n F.x F.b dX2_thoseWith_26 rfl (lv_at hl 2 rfl) ?_
      refine lv_iload_n F.x F.b dX2_thoseWith_27 rfl (lv_at hl 3 rfl) ?_
      refine kSI F C hl (kX2_isSo  h) wv_X2_125 ⟨rfl, rfl, ⟨Nat.le_of_ble_eq_true rfl, Nat.le_of_ble_eq_true rfl⟩, ⟨Nat.le_of_ble_eq_true rfl, Nat.le_of_ble_eq_true rfl⟩, Nat.le_of_ble_eq_true rfl⟩ (rest := []) rfl dX2_thoseWith_28 (fun r7 S6 H locs h C => ?_)
      refine lv_if_eq (tgt := 43) F.x F.b dX2_thoseWith_31 (by decide) (fun g8 => ?_) (fun g8 => ?_)
      · have h := h.1 g8
        obtain ⟨x9, ex9⟩ : ∃ z : Int32, z = v5 + (1 : Int32) := ⟨_, rfl⟩
        have h := h x9 ex9
        refine lv_iinc (v := x9) (lv' := [(5, .int x9), (0, .ref (ad j0)), (1, .int v1), (2, .int v2), (3, .int v3), (4, .int v4)]) F.x F.b dX2_thoseWith_43 hl (k := 5) rfl (by rw [ex9]; rfl) (by decide) rfl (fun ls hl => ?_)
        refine lv_goto (tgt := 6) F.x F.b dX2_thoseWith_46 (by decide) ?_
        exact ih S6 j0 v1 v2 v3 v4 x9 _ _ _ hj0 h C (lv_sub hl [1, 2, 3, 4, 5, 0] rfl)
      · have h := h.2 g8
        refine lv_iload F.x F.b dX2_thoseWith_34 (lv_at hl 4 rfl) ?_
        refine lv_iconst (v := 1) F.x F.b dX2_thoseWith_36 (by decide) ?_
        refine lv_iload F.x F.b dX2_thoseWith_37 (lv_at hl 5 rfl) ?_
        refine lv_ishl F.x F.b dX2_thoseWith_39 ?_
        refine lv_ior F.x F.b dX2_thoseWith_40 ?_
        refine lv_topi (fun x10 ex10 => ?_)
        have h := h x10 ex10
        refine lv_istore (lv' := [(4, .int x10), (0, .ref (ad j0)), (1, .int v1), (2, .int v2), (3, .int v3), (5, .int v5)]) F.x F.b dX2_thoseWith_41 hl (by decide) rfl (fun ls hl => ?_)
        obtain ⟨x11, ex11⟩ : ∃ z : Int32, z = v5 + (1 : Int32) := ⟨_, rfl⟩
        have h := h x11 ex11
        refine lv_iinc (v := x11) (lv' := [(5, .int x11), (4, .int x10), (0, .ref (ad j0)), (1, .int v1), (2, .int v2), (3, .int v3)]) F.x F.b dX2_thoseWith_43 hl (k := 5) rfl (by rw [ex11]; rfl) (by decide) rfl (fun ls hl => ?_)
        refine lv_goto (tgt := 6) F.x F.b dX2_thoseWith_46 (by decide) ?_
        exact ih S6 j0 v1 v2 v3 x10 x11 _ _ _ hj0 h C (lv_sub hl [2, 3, 4, 5, 1, 0] rfl)
set_option maxRecDepth 100000 in
set_option maxHeartbeats 4000000 in
theorem kX2_thoseWith {l : Launch} {D : va_G} {ky : Nat → ClassId} {ad : Nat → Nat} {ex : Nat → Nat → Nat} {post : Int32 → Mem → Prop} {S : Mem} {j0 : Nat} {v1 : Int32} {v2 : Int32} {v3 : Int32} (hj0 : j0 < 10) (h : mX2_thoseWith post S j0 v1 v2 v3) : CMi l D ky ad ex yX2_thoseWith cX2_thoseWith 6 (some .int) rmX2_thoseWith 0 0 [.ref (ad j0), .int v1, .int v2, .int v3] S post := by
  refine CMi.of (by decide) (Nat.le_of_ble_eq_true rfl) (fun p e s m args below meth c ls F hr C hl => ?_)
  have hl : lv_has ls 6 [(0, .ref (ad j0)), (1, .int v1), (2, .int v2), (3, .int v3)] := hl
  unfold mX2_thoseWith at h
  refine lv_iconst (v := 0) F.x F.b dX2_thoseWith_0 (by decide) ?_
  refine lv_istore (lv' := [(4, .int (0 : Int32)), (0, .ref (ad j0)), (1, .int v1), (2, .int v2), (3, .int v3)]) F.x F.b dX2_thoseWith_1 hl (by decide) rfl (fun ls hl => ?_)
  refine lv_iconst (v := 0) F.x F.b dX2_thoseWith_3 (by decide) ?_
  refine lv_istore (lv' := [(5, .int (0 : Int32)), (4, .int (0 : Int32)), (0, .ref (ad j0)), (1, .int v1), (2, .int v2), (3, .int v3)]) F.x F.b dX2_thoseWith_4 hl (by decide) rfl (fun ls hl => ?_)
  obtain ⟨n1, h⟩ := h
  exact bX2_thoseWith_6 F hr n1 S j0 v1 v2 v3 (0 : Int32) (0 : Int32) _ _ _ hj0 h C (lv_sub hl [2, 3, 4, 5, 1, 0] rfl)

def rmX2_readSign : Room := { frames := 2, cells := 0, slots := 0, locals := 43 }
def mX2_readSign (post : Int32 → Mem → Prop) (S : Mem) : Prop := mX2_takes (fun (r2 : Int32) (S1 : Mem) => ((r2 = 0 → (mX2_takes (fun (r5 : Int32) (S4 : Mem) => ((r5 = 0 → (mX2_takes (fun (r8 : Int32) (S7 : Mem) => ((¬ r8 = 0 → (isC (61 : Int32) ∧ post (61 : Int32) S7)) ∧ (r8 = 0 → (mX2_fail (fun (S10 : Mem) => isC (61 : Int32) ∧ post (61 : Int32) S10) S7 (S7 6 0 2))))) S4 (61 : Int32))) ∧ (¬ r5 = 0 → (isC (62 : Int32) ∧ post (62 : Int32) S4)))) S1 (62 : Int32))) ∧ (¬ r2 = 0 → (isC (60 : Int32) ∧ post (60 : Int32) S1)))) S (60 : Int32)
set_option maxRecDepth 100000 in
set_option maxHeartbeats 4000000 in
theorem kX2_readSign {l : Launch} {D : va_G} {ky : Nat → ClassId} {ad : Nat → Nat} {ex : Nat → Nat → Nat} {post : Int32 → Mem → Prop} {S : Mem} (h : mX2_readSign post S ) : CMi l D ky ad ex yX2_readSign cX2_readSign 1 (some .char) rmX2_readSign 0 0 [.ref (ad 113)] S post := by
  refine CMi.of (by decide) (Nat.le_of_ble_eq_true rfl) (fun p e s m args below meth c ls F hr C hl => ?_)
  have hl : lv_has ls 1 [(0, .ref (ad 113))] := hl
  unfold mX2_readSign at h
  refine lv_aload_n F.x F.b dX2_readSign_0 rfl (lv_at hl 0 rfl) ?_
  refine lv_bipush (v := 60) F.x F.b dX2_readSign_1 (by decide) ?_
  refine kI F C hl (kX2_takes  h) (by decide) (ce_Q _) rfl wv_X2_36 ⟨rfl, rfl, ⟨Nat.le_of_ble_eq_true rfl, Nat.le_of_ble_eq_true rfl⟩, ⟨Nat.le_of_ble_eq_true rfl, Nat.le_of_ble_eq_true rfl⟩, Nat.le_of_ble_eq_true rfl⟩ (rest := []) rfl dX2_readSign_3 (fun r2 S1 H locs h C => ?_)
  refine lv_if_eq (tgt := 12) F.x F.b dX2_readSign_6 (by decide) (fun g3 => ?_) (fun g3 => ?_)
  · have h := h.1 g3
    refine lv_aload_n F.x F.b dX2_readSign_12 rfl (lv_at hl 0 rfl) ?_
    refine lv_bipush (v := 62) F.x F.b dX2_readSign_13 (by decide) ?_
    refine kI F C hl (kX2_takes  h) (by decide) (ce_Q _) rfl wv_X2_36 ⟨rfl, rfl, ⟨Nat.le_of_ble_eq_true rfl, Nat.le_of_ble_eq_true rfl⟩, ⟨Nat.le_of_ble_eq_true rfl, Nat.le_of_ble_eq_true rfl⟩, Nat.le_of_ble_eq_true rfl⟩ (rest := []) rfl dX2_readSign_15 (fun r5 S4 H locs h C => ?_)
    refine lv_if_eq (tgt := 24) F.x F.b dX2_readSign_18 (by decide) (fun g6 => ?_) (fun g6 => ?_)
    · have h := h.1 g6
      refine lv_aload_n F.x F.b dX2_readSign_24 rfl (lv_at hl 0 rfl) ?_
      refine lv_bipush (v := 61) F.x F.b dX2_readSign_25 (by decide) ?_
      refine kI F C hl (kX2_takes  h) (by decide) (ce_Q _) rfl wv_X2_36 ⟨rfl, rfl, ⟨Nat.le_of_ble_eq_true rfl, Nat.le_of_ble_eq_true rfl⟩, ⟨Nat.le_of_ble_eq_true rfl, Nat.le_of_ble_eq_true rfl⟩, Nat.le_of_ble_eq_true rfl⟩ (rest := []) rfl dX2_readSign_27 (fun r8 S7 H locs h C => ?_)
      refine lv_if_ne (tgt := 41) F.x F.b dX2_readSign_30 (by decide) (fun g9 => ?_) (fun g9 => ?_)
      · have h := h.1 g9
        refine lv_bipush (v := 61) F.x F.b dX2_readSign_41 (by decide) ?_
        exact retZ F hr C h.1 h.2 dX2_readSign_43
      · have h := h.2 g9
        refine lv_aload_n F.x F.b dX2_readSign_33 rfl (lv_at hl 0 rfl) ?_
        refine lv_aload_n F.x F.b dX2_readSign_34 rfl (lv_at hl 0 rfl) ?_
        refine getQ F C 2 (by decide) q1_164 (v := .int (S7 6 0 2)) rfl dX2_readSign_35 ?_
        refine kV F C hl (kX2_fail  h) (by decide) (ce_Q _) rfl wv_X2_29 ⟨rfl, rfl, ⟨Nat.le_of_ble_eq_true rfl, Nat.le_of_ble_eq_true rfl⟩, ⟨Nat.le_of_ble_eq_true rfl, Nat.le_of_ble_eq_true rfl⟩, Nat.le_of_ble_eq_true rfl⟩ (rest := []) rfl dX2_readSign_38 (fun S10 H locs h C => ?_)
        refine lv_bipush (v := 61) F.x F.b dX2_readSign_41 (by decide) ?_
        exact retZ F hr C h.1 h.2 dX2_readSign_43
    · have h := h.2 g6
      refine lv_bipush (v := 62) F.x F.b dX2_readSign_21 (by decide) ?_
      exact retZ F hr C h.1 h.2 dX2_readSign_23
  · have h := h.2 g3
    refine lv_bipush (v := 60) F.x F.b dX2_readSign_9 (by decide) ?_
    exact retZ F hr C h.1 h.2 dX2_readSign_11

def rmX2_isDigitNext : Room := { frames := 0, cells := 0, slots := 0, locals := 0 }
def mX2_isDigitNext (post : Int32 → Mem → Prop) (S : Mem) : Prop := ((¬ (S 6 0 3) = (-1 : Int32) → (post (0 : Int32) S)) ∧ ((S 6 0 3) = (-1 : Int32) → ((((S 6 0 1) ≤ (S 6 0 2) → (post (0 : Int32) S)) ∧ (¬ (S 6 0 1) ≤ (S 6 0 2) → (vp_in (S 6 0 2) 60 ∧ (((S 7 0 (S 6 0 2).toNatClampNeg) < (48 : Int32) → (post (0 : Int32) S)) ∧ (¬ (S 7 0 (S 6 0 2).toNatClampNeg) < (48 : Int32) → (vp_in (S 6 0 2) 60 ∧ (((57 : Int32) < (S 7 0 (S 6 0 2).toNatClampNeg) → (post (0 : Int32) S)) ∧ (¬ (57 : Int32) < (S 7 0 (S 6 0 2).toNatClampNeg) → (post (1 : Int32) S))))))))))))
set_option maxRecDepth 100000 in
set_option maxHeartbeats 4000000 in
theorem kX2_isDigitNext {l : Launch} {D : va_G} {ky : Nat → ClassId} {ad : Nat → Nat} {ex : Nat → Nat → Nat} {post : Int32 → Mem → Prop} {S : Mem} (h : mX2_isDigitNext post S ) : CMi l D ky ad ex yX2_isDigitNext cX2_isDigitNext 1 (some .boolean) rmX2_isDigitNext 0 0 [.ref (ad 113)] S post := by
  refine CMi.of (by decide) (Nat.le_of_ble_eq_true rfl) (fun p e s m args below meth c ls F hr C hl => ?_)
  have hl : lv_has ls 1 [(0, .ref (ad 113))] := hl
  unfold mX2_isDigitNext at h
  refine lv_aload_n F.x F.b dX2_isDigitNext_0 rfl (lv_at hl 0 rfl) ?_
  refine getQ F C 3 (by decide) q1_165 (v := .int (S 6 0 3)) rfl dX2_isDigitNext_1 ?_
  refine lv_iconst (v := -1) F.x F.b dX2_isDigitNext_4 (by decide) ?_
  refine lv_icmp_ne (tgt := 51) F.x F.b dX2_isDigitNext_5 (by decide) (fun g1 => ?_) (fun g1 => ?_)
  · have h := h.1 g1
    refine lv_iconst (v := 0) F.x F.b dX2_isDigitNext_51 (by decide) ?_
    exact retZ F hr C rfl h dX2_isDigitNext_52
  · have h := h.2 g1
    refine lv_aload_n F.x F.b dX2_isDigitNext_8 rfl (lv_at hl 0 rfl) ?_
    refine getQ F C 2 (by decide) q1_164 (v := .int (S 6 0 2)) rfl dX2_isDigitNext_9 ?_
    refine lv_aload_n F.x F.b dX2_isDigitNext_12 rfl (lv_at hl 0 rfl) ?_
    refine getQ F C 1 (by decide) q1_162 (v := .int (S 6 0 1)) rfl dX2_isDigitNext_13 ?_
    refine lv_icmp_ge (tgt := 51) F.x F.b dX2_isDigitNext_16 (by decide) (fun g2 => ?_) (fun g2 => ?_)
    · have h := h.1 g2
      refine lv_iconst (v := 0) F.x F.b dX2_isDigitNext_51 (by decide) ?_
      exact retZ F hr C rfl h dX2_isDigitNext_52
    · have h := h.2 g2
      refine lv_aload_n F.x F.b dX2_isDigitNext_19 rfl (lv_at hl 0 rfl) ?_
      refine getQ F C 0 (by decide) q1_161 (v := .ref (ad 114)) rfl dX2_isDigitNext_20 ?_
      refine lv_aload_n F.x F.b dX2_isDigitNext_23 rfl (lv_at hl 0 rfl) ?_
      refine getQ F C 2 (by decide) q1_164 (v := .int (S 6 0 2)) rfl dX2_isDigitNext_24 ?_
      obtain ⟨g3, h⟩ := h
      refine aldC F C (o := 114) (cq := 7) (iq := 0) (by decide) rfl rfl rfl g3 dX2_isDigitNext_27 ?_
      refine lv_bipush (v := 48) F.x F.b dX2_isDigitNext_28 (by decide) ?_
      refine lv_icmp_lt (tgt := 51) F.x F.b dX2_isDigitNext_30 (by decide) (fun g4 => ?_) (fun g4 => ?_)
      · have h := h.1 g4
        refine lv_iconst (v := 0) F.x F.b dX2_isDigitNext_51 (by decide) ?_
        exact retZ F hr C rfl h dX2_isDigitNext_52
      · have h := h.2 g4
        refine lv_aload_n F.x F.b dX2_isDigitNext_33 rfl (lv_at hl 0 rfl) ?_
        refine getQ F C 0 (by decide) q1_161 (v := .ref (ad 114)) rfl dX2_isDigitNext_34 ?_
        refine lv_aload_n F.x F.b dX2_isDigitNext_37 rfl (lv_at hl 0 rfl) ?_
        refine getQ F C 2 (by decide) q1_164 (v := .int (S 6 0 2)) rfl dX2_isDigitNext_38 ?_
        obtain ⟨g5, h⟩ := h
        refine aldC F C (o := 114) (cq := 7) (iq := 0) (by decide) rfl rfl rfl g5 dX2_isDigitNext_41 ?_
        refine lv_bipush (v := 57) F.x F.b dX2_isDigitNext_42 (by decide) ?_
        refine lv_icmp_gt (tgt := 51) F.x F.b dX2_isDigitNext_44 (by decide) (fun g6 => ?_) (fun g6 => ?_)
        · have h := h.1 g6
          refine lv_iconst (v := 0) F.x F.b dX2_isDigitNext_51 (by decide) ?_
          exact retZ F hr C rfl h dX2_isDigitNext_52
        · have h := h.2 g6
          refine lv_iconst (v := 1) F.x F.b dX2_isDigitNext_47 (by decide) ?_
          refine lv_goto (tgt := 52) F.x F.b dX2_isDigitNext_48 (by decide) ?_
          exact retZ F hr C rfl h dX2_isDigitNext_52

def rmX2_readDigit : Room := { frames := 0, cells := 0, slots := 0, locals := 0 }
def mX2_readDigit (post : Int32 → Mem → Prop) (S : Mem) : Prop := vp_in (S 6 0 2) 60 ∧ ∀ x2 : Int32, x2 = ((S 7 0 (S 6 0 2).toNatClampNeg) - (48 : Int32)) → ∀ S3 : Mem, S3 = wr S 6 0 2 ((S 6 0 2) + (1 : Int32)) → post x2 S3
set_option maxRecDepth 100000 in
set_option maxHeartbeats 4000000 in
theorem kX2_readDigit {l : Launch} {D : va_G} {ky : Nat → ClassId} {ad : Nat → Nat} {ex : Nat → Nat → Nat} {post : Int32 → Mem → Prop} {S : Mem} (h : mX2_readDigit post S ) : CMi l D ky ad ex yX2_readDigit cX2_readDigit 2 (some .int) rmX2_readDigit 0 0 [.ref (ad 113)] S post := by
  refine CMi.of (by decide) (Nat.le_of_ble_eq_true rfl) (fun p e s m args below meth c ls F hr C hl => ?_)
  have hl : lv_has ls 2 [(0, .ref (ad 113))] := hl
  unfold mX2_readDigit at h
  refine lv_aload_n F.x F.b dX2_readDigit_0 rfl (lv_at hl 0 rfl) ?_
  refine getQ F C 0 (by decide) q1_161 (v := .ref (ad 114)) rfl dX2_readDigit_1 ?_
  refine lv_aload_n F.x F.b dX2_readDigit_4 rfl (lv_at hl 0 rfl) ?_
  refine getQ F C 2 (by decide) q1_164 (v := .int (S 6 0 2)) rfl dX2_readDigit_5 ?_
  obtain ⟨g1, h⟩ := h
  refine aldC F C (o := 114) (cq := 7) (iq := 0) (by decide) rfl rfl rfl g1 dX2_readDigit_8 ?_
  refine lv_bipush (v := 48) F.x F.b dX2_readDigit_9 (by decide) ?_
  refine lv_isub F.x F.b dX2_readDigit_11 ?_
  refine lv_topi (fun x2 ex2 => ?_)
  have h := h x2 ex2
  refine lv_istore_n (lv' := [(1, .int x2), (0, .ref (ad 113))]) F.x F.b dX2_readDigit_12 rfl hl (by decide) rfl (fun ls hl => ?_)
  refine lv_aload_n F.x F.b dX2_readDigit_13 rfl (lv_at hl 1 rfl) ?_
  refine lv_dup F.x F.b dX2_readDigit_14 rfl ?_
  refine getQ F C 2 (by decide) q1_164 (v := .int (S 6 0 2)) rfl dX2_readDigit_15 ?_
  refine lv_iconst (v := 1) F.x F.b dX2_readDigit_18 (by decide) ?_
  refine lv_iadd F.x F.b dX2_readDigit_19 ?_
  refine putQ F C 2 (by decide) q1_164 rfl (tyX2_ok 2 (by decide)) rfl rfl rfl dX2_readDigit_20 (fun H locs C => ?_)
  obtain ⟨S3, eS3⟩ : ∃ z : Mem, z = wr S 6 0 2 ((S 6 0 2) + (1 : Int32)) := ⟨_, rfl⟩
  rw [← eS3] at C
  have h := h S3 eS3
  refine lv_iload_n F.x F.b dX2_readDigit_23 rfl (lv_at hl 0 rfl) ?_
  exact retI F hr C h dX2_readDigit_24

def rmX2_readNumber : Room := { frames := 1, cells := 0, slots := 0, locals := 21 }
def mX2_readNumber (post : Int32 → Mem → Prop) (S : Mem) : Prop := mX2_isDigitNext (fun (r2 : Int32) (S1 : Mem) => ((¬ r2 = 0 → (mX2_readDigit (fun (r5 : Int32) (S4 : Mem) => mX2_isDigitNext (fun (r7 : Int32) (S6 : Mem) => ((r7 = 0 → (post r5 S6)) ∧ (¬ r7 = 0 → (mX2_readDigit (fun (r10 : Int32) (S9 : Mem) => post (((r5 * (10 : Int32)) + r10)) S9) S6 )))) S4 ) S1 )) ∧ (r2 = 0 → (mX2_fail (fun (S11 : Mem) => post (0 : Int32) S11) S1 (S1 6 0 2))))) S 
set_option maxRecDepth 100000 in
set_option maxHeartbeats 4000000 in
theorem kX2_readNumber {l : Launch} {D : va_G} {ky : Nat → ClassId} {ad : Nat → Nat} {ex : Nat → Nat → Nat} {post : Int32 → Mem → Prop} {S : Mem} (h : mX2_readNumber post S ) : CMi l D ky ad ex yX2_readNumber cX2_readNumber 2 (some .int) rmX2_readNumber 0 0 [.ref (ad 113)] S post := by
  refine CMi.of (by decide) (Nat.le_of_ble_eq_true rfl) (fun p e s m args below meth c ls F hr C hl => ?_)
  have hl : lv_has ls 2 [(0, .ref (ad 113))] := hl
  unfold mX2_readNumber at h
  refine lv_aload_n F.x F.b dX2_readNumber_0 rfl (lv_at hl 0 rfl) ?_
  refine kI F C hl (kX2_isDigitNext  h) (by decide) (ce_Q _) rfl wv_X2_103 ⟨rfl, rfl, ⟨Nat.le_of_ble_eq_true rfl, Nat.le_of_ble_eq_true rfl⟩, ⟨Nat.le_of_ble_eq_true rfl, Nat.le_of_ble_eq_true rfl⟩, Nat.le_of_ble_eq_true rfl⟩ (rest := []) rfl dX2_readNumber_1 (fun r2 S1 H locs h C => ?_)
  refine lv_if_ne (tgt := 17) F.x F.b dX2_readNumber_4 (by decide) (fun g3 => ?_) (fun g3 => ?_)
  · have h := h.1 g3
    refine lv_aload_n F.x F.b dX2_readNumber_17 rfl (lv_at hl 0 rfl) ?_
    refine kI F C hl (kX2_readDigit  h) (by decide) (ce_Q _) rfl wv_X2_107 ⟨rfl, rfl, ⟨Nat.le_of_ble_eq_true rfl, Nat.le_of_ble_eq_true rfl⟩, ⟨Nat.le_of_ble_eq_true rfl, Nat.le_of_ble_eq_true rfl⟩, Nat.le_of_ble_eq_true rfl⟩ (rest := []) rfl dX2_readNumber_18 (fun r5 S4 H locs h C => ?_)
    refine lv_istore_n (lv' := [(1, .int r5), (0, .ref (ad 113))]) F.x F.b dX2_readNumber_21 rfl hl (by decide) rfl (fun ls hl => ?_)
    refine lv_aload_n F.x F.b dX2_readNumber_22 rfl (lv_at hl 1 rfl) ?_
    refine kI F C hl (kX2_isDigitNext  h) (by decide) (ce_Q _) rfl wv_X2_103 ⟨rfl, rfl, ⟨Nat.le_of_ble_eq_true rfl, Nat.le_of_ble_eq_true rfl⟩, ⟨Nat.le_of_ble_eq_true rfl, Nat.le_of_ble_eq_true rfl⟩, Nat.le_of_ble_eq_true rfl⟩ (rest := []) rfl dX2_readNumber_23 (fun r7 S6 H locs h C => ?_)
    refine lv_if_eq (tgt := 41) F.x F.b dX2_readNumber_26 (by decide) (fun g8 => ?_) (fun g8 => ?_)
    · have h := h.1 g8
      refine lv_iload_n F.x F.b dX2_readNumber_41 rfl (lv_at hl 0 rfl) ?_
      exact retI F hr C h dX2_readNumber_42
    · have h := h.2 g8
      refine lv_iload_n F.x F.b dX2_readNumber_29 rfl (lv_at hl 0 rfl) ?_
      refine lv_bipush (v := 10) F.x F.b dX2_readNumber_30 (by decide) ?_
      refine lv_imul F.x F.b dX2_readNumber_32 ?_
      refine lv_aload_n F.x F.b dX2_readNumber_33 rfl (lv_at hl 1 rfl) ?_
      refine kI F C hl (kX2_readDigit  h) (by decide) (ce_Q _) rfl wv_X2_107 ⟨rfl, rfl, ⟨Nat.le_of_ble_eq_true rfl, Nat.le_of_ble_eq_true rfl⟩, ⟨Nat.le_of_ble_eq_true rfl, Nat.le_of_ble_eq_true rfl⟩, Nat.le_of_ble_eq_true rfl⟩ (rest := [.int (r5 * (10 : Int32))]) rfl dX2_readNumber_34 (fun r10 S9 H locs h C => ?_)
      refine lv_iadd F.x F.b dX2_readNumber_37 ?_
      refine lv_goto (tgt := 42) F.x F.b dX2_readNumber_38 (by decide) ?_
      exact retI F hr C h dX2_readNumber_42
  · have h := h.2 g3
    refine lv_aload_n F.x F.b dX2_readNumber_7 rfl (lv_at hl 0 rfl) ?_
    refine lv_aload_n F.x F.b dX2_readNumber_8 rfl (lv_at hl 0 rfl) ?_
    refine getQ F C 2 (by decide) q1_164 (v := .int (S1 6 0 2)) rfl dX2_readNumber_9 ?_
    refine kV F C hl (kX2_fail  h) (by decide) (ce_Q _) rfl wv_X2_29 ⟨rfl, rfl, ⟨Nat.le_of_ble_eq_true rfl, Nat.le_of_ble_eq_true rfl⟩, ⟨Nat.le_of_ble_eq_true rfl, Nat.le_of_ble_eq_true rfl⟩, Nat.le_of_ble_eq_true rfl⟩ (rest := []) rfl dX2_readNumber_12 (fun S11 H locs h C => ?_)
    refine lv_iconst (v := 0) F.x F.b dX2_readNumber_15 (by decide) ?_
    exact retI F hr C h dX2_readNumber_16

def rmX5_under : Room := { frames := 1, cells := 0, slots := 0, locals := 23 }
def mX5_under_b4 (post : Int32 → Mem → Prop) : Nat → Mem → Int32 → Int32 → Prop
  | 0, _, _, _ => False
  | n + 1, S, v1, v2 => (((10 : Int32) ≤ v2 → (post v1 S)) ∧ (¬ (10 : Int32) ≤ v2 → (mX0_stateOf (fun (r3 : Int32) (S2 : Mem) => ((¬ r3 = (2 : Int32) → (∀ x5 : Int32, x5 = v2 + (1 : Int32) → mX5_under_b4 post n S2 v1 x5)) ∧ (r3 = (2 : Int32) → (∀ x6 : Int32, x6 = (v1 ||| ((1 : Int32) <<< (v2 &&& 31))) → ∀ x7 : Int32, x7 = v2 + (1 : Int32) → mX5_under_b4 post n S2 x6 x7)))) S 0 v2 (S 0 0 4))))
def mX5_under (post : Int32 → Mem → Prop) (S : Mem) : Prop := ∃ fu : Nat, mX5_under_b4 post fu S (0 : Int32) (0 : Int32)
set_option maxRecDepth 100000 in
set_option maxHeartbeats 4000000 in
theorem bX5_under_4 {p : Program} {l : Launch} {e : Env} {s : State} {m : MethodId} {args : Array Value} {below : List Frame} {meth : Method} {c : Code} {D : va_G} {ky : Nat → ClassId} {ad : Nat → Nat} {ex : Nat → Nat → Nat} (F : Fx p s m args meth c D ky ad ex cX5_under 3 yX5_under.cls) (hr : meth.sig.returnType = (some .int)) {post : Int32 → Mem → Prop} : ∀ (n : Nat) (S : Mem) (v1 : Int32) (v2 : Int32) (H : Heap) (locs : List Loc) (ls : Array Slot), mX5_under_b4 post n S v1 v2 → Cx D ky ad s S H locs → lv_has ls 3 [(0, .ref (ad 110)), (1, .int v1), (2, .int v2)] → W p l e rmX5_under s m args below meth c H locs 0 0 (MQ below (va_Qi post (AFT D ky ad) (AW ad s.heap.size)) args s 0 0 (AW ad s.heap.size)) (F0 m 4 ls []) := by
  intro n
  induction n with
  | zero =>
    intro S v1 v2 H locs ls  h
    exact False.elim h
  | succ n ih =>
    intro S v1 v2 H locs ls  h C hl
    refine lv_iload_n F.x F.b dX5_under_4 rfl (lv_at hl 2 rfl) ?_
    refine lv_bipush (v := 10) F.x F.b dX5_under_5 (by decide) ?_
    refine lv_icmp_ge (tgt := 41) F.x F.b dX5_under_7 (by decide) (fun g1 => ?_) (fun g1 => ?_)
    · have h := h.1 g1
      refine lv_iload_n F.x F.b dX5_under_41 rfl (lv_at hl 1 rfl) ?_
      exact retI F hr C h dX5_under_42
    · have h := h.2 g1
      refine lv_aload_n F.x F.b dX5_under_10 rfl (lv_at hl 0 rfl) ?_
      refine getX F C 0 (by decide) q1_177 (v := .ref (ad 0)) rfl dX5_under_11 ?_
      refine lv_iload_n F.x F.b dX5_under_14 rfl (lv_at hl 2 rfl) ?_
      refine lv_aload_n F.x F.b dX5_under_15 rfl (lv_at hl 0 rfl) ?_
      refine getX F C 0 (by decide) q1_177 (v := .ref (ad 0)) rfl dX5_under_16 ?_
      refine getFN F C (by decide) 4 (by decide) q1_95 (v := .int (S 0 0 4)) rfl dX5_under_19 ?_
      refine kI F C hl (kX0_stateOf  (by decide) h) (by decide) (ce_F (by decide) _) rfl wv_X5_96 ⟨rfl, rfl, ⟨Nat.le_of_ble_eq_true rfl, Nat.le_of_ble_eq_true rfl⟩, ⟨Nat.le_of_ble_eq_true rfl, Nat.le_of_ble_eq_true rfl⟩, Nat.le_of_ble_eq_true rfl⟩ (rest := []) rfl dX5_under_22 (fun r3 S2 H locs h C => ?_)
      refine lv_iconst (v := 2) F.x F.b dX5_under_25 (by decide) ?_
      refine lv_icmp_ne (tgt := 35) F.x F.b dX5_under_26 (by decide) (fun g4 => ?_) (fun g4 => ?_)
      · have h := h.1 g4
        obtain ⟨x5, ex5⟩ : ∃ z : Int32, z = v2 + (1 : Int32) := ⟨_, rfl⟩
        have h := h x5 ex5
        refine lv_iinc (v := x5) (lv' := [(2, .int x5), (0, .ref (ad 110)), (1, .int v1)]) F.x F.b dX5_under_35 hl (k := 2) rfl (by rw [ex5]; rfl) (by decide) rfl (fun ls hl => ?_)
        refine lv_goto (tgt := 4) F.x F.b dX5_under_38 (by decide) ?_
        exact ih S2 v1 x5 _ _ _ h C (lv_sub hl [1, 2, 0] rfl)
      · have h := h.2 g4
        refine lv_iload_n F.x F.b dX5_under_29 rfl (lv_at hl 1 rfl) ?_
        refine lv_iconst (v := 1) F.x F.b dX5_under_30 (by decide) ?_
        refine lv_iload_n F.x F.b dX5_under_31 rfl (lv_at hl 2 rfl) ?_
        refine lv_ishl F.x F.b dX5_under_32 ?_
        refine lv_ior F.x F.b dX5_under_33 ?_
        refine lv_topi (fun x6 ex6 => ?_)
        have h := h x6 ex6
        refine lv_istore_n (lv' := [(1, .int x6), (0, .ref (ad 110)), (2, .int v2)]) F.x F.b dX5_under_34 rfl hl (by decide) rfl (fun ls hl => ?_)
        obtain ⟨x7, ex7⟩ : ∃ z : Int32, z = v2 + (1 : Int32) := ⟨_, rfl⟩
        have h := h x7 ex7
        refine lv_iinc (v := x7) (lv' := [(2, .int x7), (1, .int x6), (0, .ref (ad 110))]) F.x F.b dX5_under_35 hl (k := 2) rfl (by rw [ex7]; rfl) (by decide) rfl (fun ls hl => ?_)
        refine lv_goto (tgt := 4) F.x F.b dX5_under_38 (by decide) ?_
        exact ih S2 x6 x7 _ _ _ h C (lv_sub hl [2, 1, 0] rfl)
set_option maxRecDepth 100000 in
set_option maxHeartbeats 4000000 in
theorem kX5_under {l : Launch} {D : va_G} {ky : Nat → ClassId} {ad : Nat → Nat} {ex : Nat → Nat → Nat} {post : Int32 → Mem → Prop} {S : Mem} (h : mX5_under post S ) : CMi l D ky ad ex yX5_under cX5_under 3 (some .int) rmX5_under 0 0 [.ref (ad 110)] S post := by
  refine CMi.of (by decide) (Nat.le_of_ble_eq_true rfl) (fun p e s m args below meth c ls F hr C hl => ?_)
  have hl : lv_has ls 3 [(0, .ref (ad 110))] := hl
  unfold mX5_under at h
  refine lv_iconst (v := 0) F.x F.b dX5_under_0 (by decide) ?_
  refine lv_istore_n (lv' := [(1, .int (0 : Int32)), (0, .ref (ad 110))]) F.x F.b dX5_under_1 rfl hl (by decide) rfl (fun ls hl => ?_)
  refine lv_iconst (v := 0) F.x F.b dX5_under_2 (by decide) ?_
  refine lv_istore_n (lv' := [(2, .int (0 : Int32)), (1, .int (0 : Int32)), (0, .ref (ad 110))]) F.x F.b dX5_under_3 rfl hl (by decide) rfl (fun ls hl => ?_)
  obtain ⟨n1, h⟩ := h
  exact bX5_under_4 F hr n1 S (0 : Int32) (0 : Int32) _ _ _ h C (lv_sub hl [2, 1, 0] rfl)

def rmX5_kinds : Room := { frames := 3, cells := 0, slots := 0, locals := 71 }
def mX5_kinds_b4 (post : Int32 → Mem → Prop) : Nat → Mem → Int32 → Int32 → Prop
  | 0, _, _, _ => False
  | n + 1, S, v1, v2 => (((2 : Int32) < v2 → (post v1 S)) ∧ (¬ (2 : Int32) < v2 → (mX0_wetStepsOf (fun (r3 : Int32) (S2 : Mem) => ((r3 = (-1 : Int32) → (∀ x5 : Int32, x5 = v2 + (1 : Int32) → mX5_kinds_b4 post n S2 v1 x5)) ∧ (¬ r3 = (-1 : Int32) → (∀ x6 : Int32, x6 = (v1 ||| ((1 : Int32) <<< (v2 &&& 31))) → ∀ x7 : Int32, x7 = v2 + (1 : Int32) → mX5_kinds_b4 post n S2 x6 x7)))) S 0 v2)))
def mX5_kinds (post : Int32 → Mem → Prop) (S : Mem) : Prop := ∃ fu : Nat, mX5_kinds_b4 post fu S (0 : Int32) (0 : Int32)
set_option maxRecDepth 100000 in
set_option maxHeartbeats 4000000 in
theorem bX5_kinds_4 {p : Program} {l : Launch} {e : Env} {s : State} {m : MethodId} {args : Array Value} {below : List Frame} {meth : Method} {c : Code} {D : va_G} {ky : Nat → ClassId} {ad : Nat → Nat} {ex : Nat → Nat → Nat} (F : Fx p s m args meth c D ky ad ex cX5_kinds 3 yX5_kinds.cls) (hr : meth.sig.returnType = (some .int)) {post : Int32 → Mem → Prop} : ∀ (n : Nat) (S : Mem) (v1 : Int32) (v2 : Int32) (H : Heap) (locs : List Loc) (ls : Array Slot), mX5_kinds_b4 post n S v1 v2 → Cx D ky ad s S H locs → lv_has ls 3 [(0, .ref (ad 110)), (1, .int v1), (2, .int v2)] → W p l e rmX5_kinds s m args below meth c H locs 0 0 (MQ below (va_Qi post (AFT D ky ad) (AW ad s.heap.size)) args s 0 0 (AW ad s.heap.size)) (F0 m 4 ls []) := by
  intro n
  induction n with
  | zero =>
    intro S v1 v2 H locs ls  h
    exact False.elim h
  | succ n ih =>
    intro S v1 v2 H locs ls  h C hl
    refine lv_iload_n F.x F.b dX5_kinds_4 rfl (lv_at hl 2 rfl) ?_
    refine lv_iconst (v := 2) F.x F.b dX5_kinds_5 (by decide) ?_
    refine lv_icmp_gt (tgt := 33) F.x F.b dX5_kinds_6 (by decide) (fun g1 => ?_) (fun g1 => ?_)
    · have h := h.1 g1
      refine lv_iload_n F.x F.b dX5_kinds_33 rfl (lv_at hl 1 rfl) ?_
      exact retI F hr C h dX5_kinds_34
    · have h := h.2 g1
      refine lv_aload_n F.x F.b dX5_kinds_9 rfl (lv_at hl 0 rfl) ?_
      refine getX F C 0 (by decide) q1_177 (v := .ref (ad 0)) rfl dX5_kinds_10 ?_
      refine lv_iload_n F.x F.b dX5_kinds_13 rfl (lv_at hl 2 rfl) ?_
      refine kI F C hl (kX0_wetStepsOf  (by decide) h) (by decide) (ce_F (by decide) _) rfl wv_X5_172 ⟨rfl, rfl, ⟨Nat.le_of_ble_eq_true rfl, Nat.le_of_ble_eq_true rfl⟩, ⟨Nat.le_of_ble_eq_true rfl, Nat.le_of_ble_eq_true rfl⟩, Nat.le_of_ble_eq_true rfl⟩ (rest := []) rfl dX5_kinds_14 (fun r3 S2 H locs h C => ?_)
      refine lv_iconst (v := -1) F.x F.b dX5_kinds_17 (by decide) ?_
      refine lv_icmp_eq (tgt := 27) F.x F.b dX5_kinds_18 (by decide) (fun g4 => ?_) (fun g4 => ?_)
      · have h := h.1 g4
        obtain ⟨x5, ex5⟩ : ∃ z : Int32, z = v2 + (1 : Int32) := ⟨_, rfl⟩
        have h := h x5 ex5
        refine lv_iinc (v := x5) (lv' := [(2, .int x5), (0, .ref (ad 110)), (1, .int v1)]) F.x F.b dX5_kinds_27 hl (k := 2) rfl (by rw [ex5]; rfl) (by decide) rfl (fun ls hl => ?_)
        refine lv_goto (tgt := 4) F.x F.b dX5_kinds_30 (by decide) ?_
        exact ih S2 v1 x5 _ _ _ h C (lv_sub hl [1, 2, 0] rfl)
      · have h := h.2 g4
        refine lv_iload_n F.x F.b dX5_kinds_21 rfl (lv_at hl 1 rfl) ?_
        refine lv_iconst (v := 1) F.x F.b dX5_kinds_22 (by decide) ?_
        refine lv_iload_n F.x F.b dX5_kinds_23 rfl (lv_at hl 2 rfl) ?_
        refine lv_ishl F.x F.b dX5_kinds_24 ?_
        refine lv_ior F.x F.b dX5_kinds_25 ?_
        refine lv_topi (fun x6 ex6 => ?_)
        have h := h x6 ex6
        refine lv_istore_n (lv' := [(1, .int x6), (0, .ref (ad 110)), (2, .int v2)]) F.x F.b dX5_kinds_26 rfl hl (by decide) rfl (fun ls hl => ?_)
        obtain ⟨x7, ex7⟩ : ∃ z : Int32, z = v2 + (1 : Int32) := ⟨_, rfl⟩
        have h := h x7 ex7
        refine lv_iinc (v := x7) (lv' := [(2, .int x7), (1, .int x6), (0, .ref (ad 110))]) F.x F.b dX5_kinds_27 hl (k := 2) rfl (by rw [ex7]; rfl) (by decide) rfl (fun ls hl => ?_)
        refine lv_goto (tgt := 4) F.x F.b dX5_kinds_30 (by decide) ?_
        exact ih S2 x6 x7 _ _ _ h C (lv_sub hl [2, 1, 0] rfl)
set_option maxRecDepth 100000 in
set_option maxHeartbeats 4000000 in
theorem kX5_kinds {l : Launch} {D : va_G} {ky : Nat → ClassId} {ad : Nat → Nat} {ex : Nat → Nat → Nat} {post : Int32 → Mem → Prop} {S : Mem} (h : mX5_kinds post S ) : CMi l D ky ad ex yX5_kinds cX5_kinds 3 (some .int) rmX5_kinds 0 0 [.ref (ad 110)] S post := by
  refine CMi.of (by decide) (Nat.le_of_ble_eq_true rfl) (fun p e s m args below meth c ls F hr C hl => ?_)
  have hl : lv_has ls 3 [(0, .ref (ad 110))] := hl
  unfold mX5_kinds at h
  refine lv_iconst (v := 0) F.x F.b dX5_kinds_0 (by decide) ?_
  refine lv_istore_n (lv' := [(1, .int (0 : Int32)), (0, .ref (ad 110))]) F.x F.b dX5_kinds_1 rfl hl (by decide) rfl (fun ls hl => ?_)
  refine lv_iconst (v := 0) F.x F.b dX5_kinds_2 (by decide) ?_
  refine lv_istore_n (lv' := [(2, .int (0 : Int32)), (1, .int (0 : Int32)), (0, .ref (ad 110))]) F.x F.b dX5_kinds_3 rfl hl (by decide) rfl (fun ls hl => ?_)
  obtain ⟨n1, h⟩ := h
  exact bX5_kinds_4 F hr n1 S (0 : Int32) (0 : Int32) _ _ _ h C (lv_sub hl [2, 1, 0] rfl)

def rmX5_keepAnswer : Room := { frames := 0, cells := 0, slots := 0, locals := 0 }
def mX5_keepAnswer_b7 (post : Mem → Prop) : Nat → Mem → Int32 → Int32 → Prop
  | 0, _, _, _ => False
  | n + 1, S, v1, v2 => (((8 : Int32) ≤ v2 → (post S)) ∧ (¬ (8 : Int32) ≤ v2 → (((((v1 >>> (v2 &&& 31)) &&& (1 : Int32)) = 0 → (∀ x3 : Int32, x3 = v2 + (1 : Int32) → mX5_keepAnswer_b7 post n S v1 x3)) ∧ (¬ ((v1 >>> (v2 &&& 31)) &&& (1 : Int32)) = 0 → (vp_in (S 3 0 7) 8 ∧ ∀ S5 : Mem, S5 = wr S 8 0 (S 3 0 7).toNatClampNeg v2 → ∀ S6 : Mem, S6 = wr S5 3 0 7 ((S5 3 0 7) + (1 : Int32)) → ∀ x7 : Int32, x7 = v2 + (1 : Int32) → mX5_keepAnswer_b7 post n S6 v1 x7))))))
def mX5_keepAnswer (post : Mem → Prop) (S : Mem) (v1 : Int32) : Prop := ∀ S1 : Mem, S1 = wr S 3 0 7 (0 : Int32) → ∃ fu : Nat, mX5_keepAnswer_b7 post fu S1 v1 (0 : Int32)
set_option maxRecDepth 100000 in
set_option maxHeartbeats 4000000 in
theorem bX5_keepAnswer_7 {p : Program} {l : Launch} {e : Env} {s : State} {m : MethodId} {args : Array Value} {below : List Frame} {meth : Method} {c : Code} {D : va_G} {ky : Nat → ClassId} {ad : Nat → Nat} {ex : Nat → Nat → Nat} (F : Fx p s m args meth c D ky ad ex cX5_keepAnswer 3 yX5_keepAnswer.cls) (hr : meth.sig.returnType = none) {post : Mem → Prop} : ∀ (n : Nat) (S : Mem) (v1 : Int32) (v2 : Int32) (H : Heap) (locs : List Loc) (ls : Array Slot), mX5_keepAnswer_b7 post n S v1 v2 → Cx D ky ad s S H locs → lv_has ls 3 [(0, .ref (ad 110)), (1, .int v1), (2, .int v2)] → W p l e rmX5_keepAnswer s m args below meth c H locs 0 0 (MQ below (va_Qv post (AFT D ky ad) (AW ad s.heap.size)) args s 0 0 (AW ad s.heap.size)) (F0 m 7 ls []) := by
  intro n
  induction n with
  | zero =>
    intro S v1 v2 H locs ls  h
    exact False.elim h
  | succ n ih =>
    intro S v1 v2 H locs ls  h C hl
    refine lv_iload_n F.x F.b dX5_keepAnswer_7 rfl (lv_at hl 2 rfl) ?_
    refine lv_bipush (v := 8) F.x F.b dX5_keepAnswer_8 (by decide) ?_
    refine lv_icmp_ge (tgt := 47) F.x F.b dX5_keepAnswer_10 (by decide) (fun g1 => ?_) (fun g1 => ?_)
    · have h := h.1 g1
      exact retV F hr C h dX5_keepAnswer_47
    · have h := h.2 g1
      refine lv_iload_n F.x F.b dX5_keepAnswer_13 rfl (lv_at hl 1 rfl) ?_
      refine lv_iload_n F.x F.b dX5_keepAnswer_14 rfl (lv_at hl 2 rfl) ?_
      refine lv_ishr F.x F.b dX5_keepAnswer_15 ?_
      refine lv_iconst (v := 1) F.x F.b dX5_keepAnswer_16 (by decide) ?_
      refine lv_iand F.x F.b dX5_keepAnswer_17 ?_
      refine lv_if_eq (tgt := 41) F.x F.b dX5_keepAnswer_18 (by decide) (fun g2 => ?_) (fun g2 => ?_)
      · have h := h.1 g2
        obtain ⟨x3, ex3⟩ : ∃ z : Int32, z = v2 + (1 : Int32) := ⟨_, rfl⟩
        have h := h x3 ex3
        refine lv_iinc (v := x3) (lv' := [(2, .int x3), (0, .ref (ad 110)), (1, .int v1)]) F.x F.b dX5_keepAnswer_41 hl (k := 2) rfl (by rw [ex3]; rfl) (by decide) rfl (fun ls hl => ?_)
        refine lv_goto (tgt := 7) F.x F.b dX5_keepAnswer_44 (by decide) ?_
        exact ih S v1 x3 _ _ _ h C (lv_sub hl [1, 2, 0] rfl)
      · have h := h.2 g2
        refine lv_aload_n F.x F.b dX5_keepAnswer_21 rfl (lv_at hl 0 rfl) ?_
        refine getX F C 6 (by decide) q1_183 (v := .ref (ad 115)) rfl dX5_keepAnswer_22 ?_
        refine lv_aload_n F.x F.b dX5_keepAnswer_25 rfl (lv_at hl 0 rfl) ?_
        refine getX F C 7 (by decide) q1_184 (v := .int (S 3 0 7)) rfl dX5_keepAnswer_26 ?_
        refine lv_iload_n F.x F.b dX5_keepAnswer_29 rfl (lv_at hl 2 rfl) ?_
        obtain ⟨g4, h⟩ := h
        refine astI F C (o := 115) (cq := 8) (iq := 0) (by decide) rfl rfl (fun _ => rfl) g4 dX5_keepAnswer_30 (fun H locs C => ?_)
        obtain ⟨S5, eS5⟩ : ∃ z : Mem, z = wr S 8 0 (S 3 0 7).toNatClampNeg v2 := ⟨_, rfl⟩
        rw [← eS5] at C
        have h := h S5 eS5
        refine lv_aload_n F.x F.b dX5_keepAnswer_31 rfl (lv_at hl 0 rfl) ?_
        refine lv_dup F.x F.b dX5_keepAnswer_32 rfl ?_
        refine getX F C 7 (by decide) q1_184 (v := .int (S5 3 0 7)) rfl dX5_keepAnswer_33 ?_
        refine lv_iconst (v := 1) F.x F.b dX5_keepAnswer_36 (by decide) ?_
        refine lv_iadd F.x F.b dX5_keepAnswer_37 ?_
        refine putX F C 7 (by decide) q1_184 rfl (tyX5_ok 7 (by decide)) rfl rfl rfl dX5_keepAnswer_38 (fun H locs C => ?_)
        obtain ⟨S6, eS6⟩ : ∃ z : Mem, z = wr S5 3 0 7 ((S5 3 0 7) + (1 : Int32)) := ⟨_, rfl⟩
        rw [← eS6] at C
        have h := h S6 eS6
        obtain ⟨x7, ex7⟩ : ∃ z : Int32, z = v2 + (1 : Int32) := ⟨_, rfl⟩
        have h := h x7 ex7
        refine lv_iinc (v := x7) (lv' := [(2, .int x7), (0, .ref (ad 110)), (1, .int v1)]) F.x F.b dX5_keepAnswer_41 hl (k := 2) rfl (by rw [ex7]; rfl) (by decide) rfl (fun ls hl => ?_)
        refine lv_goto (tgt := 7) F.x F.b dX5_keepAnswer_44 (by decide) ?_
        exact ih S6 v1 x7 _ _ _ h C (lv_sub hl [1, 2, 0] rfl)
set_option maxRecDepth 100000 in
set_option maxHeartbeats 4000000 in
theorem kX5_keepAnswer {l : Launch} {D : va_G} {ky : Nat → ClassId} {ad : Nat → Nat} {ex : Nat → Nat → Nat} {post : Mem → Prop} {S : Mem} {v1 : Int32} (h : mX5_keepAnswer post S v1) : CMv l D ky ad ex yX5_keepAnswer cX5_keepAnswer 3 none rmX5_keepAnswer 0 0 [.ref (ad 110), .int v1] S post := by
  refine CMv.of (by decide) (Nat.le_of_ble_eq_true rfl) (fun p e s m args below meth c ls F hr C hl => ?_)
  have hl : lv_has ls 3 [(0, .ref (ad 110)), (1, .int v1)] := hl
  unfold mX5_keepAnswer at h
  refine lv_aload_n F.x F.b dX5_keepAnswer_0 rfl (lv_at hl 0 rfl) ?_
  refine lv_iconst (v := 0) F.x F.b dX5_keepAnswer_1 (by decide) ?_
  refine putX F C 7 (by decide) q1_184 rfl (tyX5_ok 7 (by decide)) rfl rfl rfl dX5_keepAnswer_2 (fun H locs C => ?_)
  obtain ⟨S1, eS1⟩ : ∃ z : Mem, z = wr S 3 0 7 (0 : Int32) := ⟨_, rfl⟩
  rw [← eS1] at C
  have h := h S1 eS1
  refine lv_iconst (v := 0) F.x F.b dX5_keepAnswer_5 (by decide) ?_
  refine lv_istore_n (lv' := [(2, .int (0 : Int32)), (0, .ref (ad 110)), (1, .int v1)]) F.x F.b dX5_keepAnswer_6 rfl hl (by decide) rfl (fun ls hl => ?_)
  obtain ⟨n2, h⟩ := h
  exact bX5_keepAnswer_7 F hr n2 S1 v1 (0 : Int32) _ _ _ h C (lv_sub hl [1, 2, 0] rfl)

def rmX5_signOf : Room := { frames := 1, cells := 0, slots := 0, locals := 23 }
def mX5_signOf (post : Int32 → Mem → Prop) (S : Mem) (v1 : Int32) : Prop := mX0_lowestOn (fun (r2 : Int32) (S1 : Mem) => ((r2 = (-1 : Int32) → (mX0_stateOf (fun (r5 : Int32) (S4 : Mem) => ((¬ r5 = (2 : Int32) → (((¬ r5 = (1 : Int32) → (isC (46 : Int32) ∧ post (46 : Int32) S4)) ∧ (r5 = (1 : Int32) → (isC (126 : Int32) ∧ post (126 : Int32) S4))))) ∧ (r5 = (2 : Int32) → (isC (95 : Int32) ∧ post (95 : Int32) S4)))) S1 0 v1 (S1 0 0 4))) ∧ (¬ r2 = (-1 : Int32) → (isC ((((48 : Int32) + r2)).toUInt32 % 65536).toInt32 ∧ post (((((48 : Int32) + r2)).toUInt32 % 65536).toInt32) S1)))) S 0 v1
set_option maxRecDepth 100000 in
set_option maxHeartbeats 4000000 in
theorem kX5_signOf {l : Launch} {D : va_G} {ky : Nat → ClassId} {ad : Nat → Nat} {ex : Nat → Nat → Nat} {post : Int32 → Mem → Prop} {S : Mem} {v1 : Int32} (h : mX5_signOf post S v1) : CMi l D ky ad ex yX5_signOf cX5_signOf 4 (some .char) rmX5_signOf 0 0 [.ref (ad 110), .int v1] S post := by
  refine CMi.of (by decide) (Nat.le_of_ble_eq_true rfl) (fun p e s m args below meth c ls F hr C hl => ?_)
  have hl : lv_has ls 4 [(0, .ref (ad 110)), (1, .int v1)] := hl
  unfold mX5_signOf at h
  refine lv_aload_n F.x F.b dX5_signOf_0 rfl (lv_at hl 0 rfl) ?_
  refine getX F C 0 (by decide) q1_177 (v := .ref (ad 0)) rfl dX5_signOf_1 ?_
  refine lv_iload_n F.x F.b dX5_signOf_4 rfl (lv_at hl 1 rfl) ?_
  refine kI F C hl (kX0_lowestOn  (by decide) h) (by decide) (ce_F (by decide) _) rfl wv_X5_69 ⟨rfl, rfl, ⟨Nat.le_of_ble_eq_true rfl, Nat.le_of_ble_eq_true rfl⟩, ⟨Nat.le_of_ble_eq_true rfl, Nat.le_of_ble_eq_true rfl⟩, Nat.le_of_ble_eq_true rfl⟩ (rest := []) rfl dX5_signOf_5 (fun r2 S1 H locs h C => ?_)
  refine lv_istore_n (lv' := [(2, .int r2), (0, .ref (ad 110)), (1, .int v1)]) F.x F.b dX5_signOf_8 rfl hl (by decide) rfl (fun ls hl => ?_)
  refine lv_iload_n F.x F.b dX5_signOf_9 rfl (lv_at hl 0 rfl) ?_
  refine lv_iconst (v := -1) F.x F.b dX5_signOf_10 (by decide) ?_
  refine lv_icmp_eq (tgt := 20) F.x F.b dX5_signOf_11 (by decide) (fun g3 => ?_) (fun g3 => ?_)
  · have h := h.1 g3
    refine lv_aload_n F.x F.b dX5_signOf_20 rfl (lv_at hl 1 rfl) ?_
    refine getX F C 0 (by decide) q1_177 (v := .ref (ad 0)) rfl dX5_signOf_21 ?_
    refine lv_iload_n F.x F.b dX5_signOf_24 rfl (lv_at hl 2 rfl) ?_
    refine lv_aload_n F.x F.b dX5_signOf_25 rfl (lv_at hl 1 rfl) ?_
    refine getX F C 0 (by decide) q1_177 (v := .ref (ad 0)) rfl dX5_signOf_26 ?_
    refine getFN F C (by decide) 4 (by decide) q1_95 (v := .int (S1 0 0 4)) rfl dX5_signOf_29 ?_
    refine kI F C hl (kX0_stateOf  (by decide) h) (by decide) (ce_F (by decide) _) rfl wv_X5_96 ⟨rfl, rfl, ⟨Nat.le_of_ble_eq_true rfl, Nat.le_of_ble_eq_true rfl⟩, ⟨Nat.le_of_ble_eq_true rfl, Nat.le_of_ble_eq_true rfl⟩, Nat.le_of_ble_eq_true rfl⟩ (rest := []) rfl dX5_signOf_32 (fun r5 S4 H locs h C => ?_)
    refine lv_istore_n (lv' := [(3, .int r5), (2, .int r2), (0, .ref (ad 110)), (1, .int v1)]) F.x F.b dX5_signOf_35 rfl hl (by decide) rfl (fun ls hl => ?_)
    refine lv_iload_n F.x F.b dX5_signOf_36 rfl (lv_at hl 0 rfl) ?_
    refine lv_iconst (v := 2) F.x F.b dX5_signOf_37 (by decide) ?_
    refine lv_icmp_ne (tgt := 44) F.x F.b dX5_signOf_38 (by decide) (fun g6 => ?_) (fun g6 => ?_)
    · have h := h.1 g6
      refine lv_iload_n F.x F.b dX5_signOf_44 rfl (lv_at hl 0 rfl) ?_
      refine lv_iconst (v := 1) F.x F.b dX5_signOf_45 (by decide) ?_
      refine lv_icmp_ne (tgt := 54) F.x F.b dX5_signOf_46 (by decide) (fun g7 => ?_) (fun g7 => ?_)
      · have h := h.1 g7
        refine lv_bipush (v := 46) F.x F.b dX5_signOf_54 (by decide) ?_
        exact retZ F hr C h.1 h.2 dX5_signOf_56
      · have h := h.2 g7
        refine lv_bipush (v := 126) F.x F.b dX5_signOf_49 (by decide) ?_
        refine lv_goto (tgt := 56) F.x F.b dX5_signOf_51 (by decide) ?_
        exact retZ F hr C h.1 h.2 dX5_signOf_56
    · have h := h.2 g6
      refine lv_bipush (v := 95) F.x F.b dX5_signOf_41 (by decide) ?_
      exact retZ F hr C h.1 h.2 dX5_signOf_43
  · have h := h.2 g3
    refine lv_bipush (v := 48) F.x F.b dX5_signOf_14 (by decide) ?_
    refine lv_iload_n F.x F.b dX5_signOf_16 rfl (lv_at hl 0 rfl) ?_
    refine lv_iadd F.x F.b dX5_signOf_17 ?_
    refine lv_i2c F.x F.b dX5_signOf_18 rfl ?_
    exact retZ F hr C h.1 h.2 dX5_signOf_19

def rmX5_writeDigit : Room := { frames := 0, cells := 0, slots := 0, locals := 0 }
def mX5_writeDigit (post : Mem → Prop) (S : Mem) (v1 : Int32) : Prop := (((13 : Int32) ≤ (S 3 0 11) → (post S)) ∧ (¬ (13 : Int32) ≤ (S 3 0 11) → (vp_in (S 3 0 11) 13 ∧ isC ((((48 : Int32) + v1)).toUInt32 % 65536).toInt32 ∧ ∀ S4 : Mem, S4 = wr S 9 0 (S 3 0 11).toNatClampNeg ((((48 : Int32) + v1)).toUInt32 % 65536).toInt32 → ∀ S5 : Mem, S5 = wr S4 3 0 11 ((S4 3 0 11) + (1 : Int32)) → post S5)))
set_option maxRecDepth 100000 in
set_option maxHeartbeats 4000000 in
theorem kX5_writeDigit {l : Launch} {D : va_G} {ky : Nat → ClassId} {ad : Nat → Nat} {ex : Nat → Nat → Nat} {post : Mem → Prop} {S : Mem} {v1 : Int32} (h : mX5_writeDigit post S v1) : CMv l D ky ad ex yX5_writeDigit cX5_writeDigit 2 none rmX5_writeDigit 0 0 [.ref (ad 110), .int v1] S post := by
  refine CMv.of (by decide) (Nat.le_of_ble_eq_true rfl) (fun p e s m args below meth c ls F hr C hl => ?_)
  have hl : lv_has ls 2 [(0, .ref (ad 110)), (1, .int v1)] := hl
  unfold mX5_writeDigit at h
  refine lv_aload_n F.x F.b dX5_writeDigit_0 rfl (lv_at hl 0 rfl) ?_
  refine getX F C 11 (by decide) q1_188 (v := .int (S 3 0 11)) rfl dX5_writeDigit_1 ?_
  refine lv_bipush (v := 13) F.x F.b dX5_writeDigit_4 (by decide) ?_
  refine lv_icmp_ge (tgt := 33) F.x F.b dX5_writeDigit_6 (by decide) (fun g1 => ?_) (fun g1 => ?_)
  · have h := h.1 g1
    exact retV F hr C h dX5_writeDigit_33
  · have h := h.2 g1
    refine lv_aload_n F.x F.b dX5_writeDigit_9 rfl (lv_at hl 0 rfl) ?_
    refine getX F C 10 (by decide) q1_187 (v := .ref (ad 116)) rfl dX5_writeDigit_10 ?_
    refine lv_aload_n F.x F.b dX5_writeDigit_13 rfl (lv_at hl 0 rfl) ?_
    refine getX F C 11 (by decide) q1_188 (v := .int (S 3 0 11)) rfl dX5_writeDigit_14 ?_
    refine lv_bipush (v := 48) F.x F.b dX5_writeDigit_17 (by decide) ?_
    refine lv_iload_n F.x F.b dX5_writeDigit_19 rfl (lv_at hl 1 rfl) ?_
    refine lv_iadd F.x F.b dX5_writeDigit_20 ?_
    refine lv_i2c F.x F.b dX5_writeDigit_21 rfl ?_
    obtain ⟨g2, h⟩ := h
    obtain ⟨g3, h⟩ := h
    refine astC F C (o := 116) (cq := 9) (iq := 0) (by decide) rfl rfl (fun _ => rfl) g2 g3 dX5_writeDigit_22 (fun H locs C => ?_)
    obtain ⟨S4, eS4⟩ : ∃ z : Mem, z = wr S 9 0 (S 3 0 11).toNatClampNeg ((((48 : Int32) + v1)).toUInt32 % 65536).toInt32 := ⟨_, rfl⟩
    rw [← eS4] at C
    have h := h S4 eS4
    refine lv_aload_n F.x F.b dX5_writeDigit_23 rfl (lv_at hl 0 rfl) ?_
    refine lv_dup F.x F.b dX5_writeDigit_24 rfl ?_
    refine getX F C 11 (by decide) q1_188 (v := .int (S4 3 0 11)) rfl dX5_writeDigit_25 ?_
    refine lv_iconst (v := 1) F.x F.b dX5_writeDigit_28 (by decide) ?_
    refine lv_iadd F.x F.b dX5_writeDigit_29 ?_
    refine putX F C 11 (by decide) q1_188 rfl (tyX5_ok 11 (by decide)) rfl rfl rfl dX5_writeDigit_30 (fun H locs C => ?_)
    obtain ⟨S5, eS5⟩ : ∃ z : Mem, z = wr S4 3 0 11 ((S4 3 0 11) + (1 : Int32)) := ⟨_, rfl⟩
    rw [← eS5] at C
    have h := h S5 eS5
    exact retV F hr C h dX5_writeDigit_33

def rmX5_describe : Room := { frames := 2, cells := 0, slots := 0, locals := 46 }
def mX5_describe_b66 (post : Int32 → Mem → Prop) (S : Mem) : Prop := mX5_writeDigit (fun (S1 : Mem) => post (S1 3 0 11) S1) S (((S 0 0 4) - (S 0 0 4) / (10 : Int32) * (10 : Int32)))
def mX5_describe_b2 (post : Int32 → Mem → Prop) : Nat → Mem → Int32 → Prop
  | 0, _, _ => False
  | n + 1, S, v1 => (((10 : Int32) ≤ v1 → (vp_in (10 : Int32) 13 ∧ isC (32 : Int32) ∧ ∀ S4 : Mem, S4 = wr S 9 0 (10 : Int32).toNatClampNeg (32 : Int32) → ∀ S5 : Mem, S5 = wr S4 3 0 11 (11 : Int32) → (((S5 0 0 4) < (10 : Int32) → (mX5_describe_b66 post S5 )) ∧ (¬ (S5 0 0 4) < (10 : Int32) → (mX5_writeDigit (fun (S7 : Mem) => mX5_describe_b66 post S7 ) S5 (((S5 0 0 4) / (10 : Int32)))))))) ∧ (¬ (10 : Int32) ≤ v1 → (mX5_signOf (fun (r10 : Int32) (S9 : Mem) => vp_in v1 13 ∧ isC r10 ∧ ∀ S13 : Mem, S13 = wr S9 9 0 v1.toNatClampNeg r10 → ∀ x14 : Int32, x14 = v1 + (1 : Int32) → mX5_describe_b2 post n S13 x14) S v1)))
def mX5_describe (post : Int32 → Mem → Prop) (S : Mem) : Prop := ∃ fu : Nat, mX5_describe_b2 post fu S (0 : Int32)
set_option maxRecDepth 100000 in
set_option maxHeartbeats 4000000 in
theorem bX5_describe_66 {p : Program} {l : Launch} {e : Env} {s : State} {m : MethodId} {args : Array Value} {below : List Frame} {meth : Method} {c : Code} {D : va_G} {ky : Nat → ClassId} {ad : Nat → Nat} {ex : Nat → Nat → Nat} (F : Fx p s m args meth c D ky ad ex cX5_describe 2 yX5_describe.cls) (hr : meth.sig.returnType = (some .int)) {post : Int32 → Mem → Prop} : ∀ (S : Mem) (H : Heap) (locs : List Loc) (ls : Array Slot), mX5_describe_b66 post S  → Cx D ky ad s S H locs → lv_has ls 2 [(0, .ref (ad 110))] → W p l e rmX5_describe s m args below meth c H locs 0 0 (MQ below (va_Qi post (AFT D ky ad) (AW ad s.heap.size)) args s 0 0 (AW ad s.heap.size)) (F0 m 66 ls []) := by
  intro S  H locs ls  h C hl
  unfold mX5_describe_b66 at h
  refine lv_aload_n F.x F.b dX5_describe_66 rfl (lv_at hl 0 rfl) ?_
  refine lv_aload_n F.x F.b dX5_describe_67 rfl (lv_at hl 0 rfl) ?_
  refine getX F C 0 (by decide) q1_177 (v := .ref (ad 0)) rfl dX5_describe_68 ?_
  refine getFN F C (by decide) 4 (by decide) q1_95 (v := .int (S 0 0 4)) rfl dX5_describe_71 ?_
  refine lv_bipush (v := 10) F.x F.b dX5_describe_74 (by decide) ?_
  refine lv_irem F.x F.b dX5_describe_76 (by decide) ?_
  refine kV F C hl (kX5_writeDigit  h) (by decide) (ce_X _) rfl wv_X5_218 ⟨rfl, rfl, ⟨Nat.le_of_ble_eq_true rfl, Nat.le_of_ble_eq_true rfl⟩, ⟨Nat.le_of_ble_eq_true rfl, Nat.le_of_ble_eq_true rfl⟩, Nat.le_of_ble_eq_true rfl⟩ (rest := []) rfl dX5_describe_77 (fun S1 H locs h C => ?_)
  refine lv_aload_n F.x F.b dX5_describe_80 rfl (lv_at hl 0 rfl) ?_
  refine getX F C 11 (by decide) q1_188 (v := .int (S1 3 0 11)) rfl dX5_describe_81 ?_
  exact retI F hr C h dX5_describe_84
set_option maxRecDepth 100000 in
set_option maxHeartbeats 4000000 in
theorem bX5_describe_2 {p : Program} {l : Launch} {e : Env} {s : State} {m : MethodId} {args : Array Value} {below : List Frame} {meth : Method} {c : Code} {D : va_G} {ky : Nat → ClassId} {ad : Nat → Nat} {ex : Nat → Nat → Nat} (F : Fx p s m args meth c D ky ad ex cX5_describe 2 yX5_describe.cls) (hr : meth.sig.returnType = (some .int)) {post : Int32 → Mem → Prop} : ∀ (n : Nat) (S : Mem) (v1 : Int32) (H : Heap) (locs : List Loc) (ls : Array Slot), mX5_describe_b2 post n S v1 → Cx D ky ad s S H locs → lv_has ls 2 [(0, .ref (ad 110)), (1, .int v1)] → W p l e rmX5_describe s m args below meth c H locs 0 0 (MQ below (va_Qi post (AFT D ky ad) (AW ad s.heap.size)) args s 0 0 (AW ad s.heap.size)) (F0 m 2 ls []) := by
  intro n
  induction n with
  | zero =>
    intro S v1 H locs ls  h
    exact False.elim h
  | succ n ih =>
    intro S v1 H locs ls  h C hl
    refine lv_iload_n F.x F.b dX5_describe_2 rfl (lv_at hl 1 rfl) ?_
    refine lv_bipush (v := 10) F.x F.b dX5_describe_3 (by decide) ?_
    refine lv_icmp_ge (tgt := 25) F.x F.b dX5_describe_5 (by decide) (fun g1 => ?_) (fun g1 => ?_)
    · have h := h.1 g1
      refine lv_aload_n F.x F.b dX5_describe_25 rfl (lv_at hl 0 rfl) ?_
      refine getX F C 10 (by decide) q1_187 (v := .ref (ad 116)) rfl dX5_describe_26 ?_
      refine lv_bipush (v := 10) F.x F.b dX5_describe_29 (by decide) ?_
      refine lv_bipush (v := 32) F.x F.b dX5_describe_31 (by decide) ?_
      obtain ⟨g2, h⟩ := h
      obtain ⟨g3, h⟩ := h
      refine astC F C (o := 116) (cq := 9) (iq := 0) (by decide) rfl rfl (fun _ => rfl) g2 g3 dX5_describe_33 (fun H locs C => ?_)
      obtain ⟨S4, eS4⟩ : ∃ z : Mem, z = wr S 9 0 (10 : Int32).toNatClampNeg (32 : Int32) := ⟨_, rfl⟩
      rw [← eS4] at C
      have h := h S4 eS4
      refine lv_aload_n F.x F.b dX5_describe_34 rfl (lv_at hl 0 rfl) ?_
      refine lv_bipush (v := 11) F.x F.b dX5_describe_35 (by decide) ?_
      refine putX F C 11 (by decide) q1_188 rfl (tyX5_ok 11 (by decide)) rfl rfl rfl dX5_describe_37 (fun H locs C => ?_)
      obtain ⟨S5, eS5⟩ : ∃ z : Mem, z = wr S4 3 0 11 (11 : Int32) := ⟨_, rfl⟩
      rw [← eS5] at C
      have h := h S5 eS5
      refine lv_aload_n F.x F.b dX5_describe_40 rfl (lv_at hl 0 rfl) ?_
      refine getX F C 0 (by decide) q1_177 (v := .ref (ad 0)) rfl dX5_describe_41 ?_
      refine getFN F C (by decide) 4 (by decide) q1_95 (v := .int (S5 0 0 4)) rfl dX5_describe_44 ?_
      refine lv_bipush (v := 10) F.x F.b dX5_describe_47 (by decide) ?_
      refine lv_icmp_lt (tgt := 66) F.x F.b dX5_describe_49 (by decide) (fun g6 => ?_) (fun g6 => ?_)
      · have h := h.1 g6
        exact bX5_describe_66 F hr S5  _ _ _ h C (lv_sub hl [0] rfl)
      · have h := h.2 g6
        refine lv_aload_n F.x F.b dX5_describe_52 rfl (lv_at hl 0 rfl) ?_
        refine lv_aload_n F.x F.b dX5_describe_53 rfl (lv_at hl 0 rfl) ?_
        refine getX F C 0 (by decide) q1_177 (v := .ref (ad 0)) rfl dX5_describe_54 ?_
        refine getFN F C (by decide) 4 (by decide) q1_95 (v := .int (S5 0 0 4)) rfl dX5_describe_57 ?_
        refine lv_bipush (v := 10) F.x F.b dX5_describe_60 (by decide) ?_
        refine lv_idiv F.x F.b dX5_describe_62 (by decide) ?_
        refine kV F C hl (kX5_writeDigit  h) (by decide) (ce_X _) rfl wv_X5_218 ⟨rfl, rfl, ⟨Nat.le_of_ble_eq_true rfl, Nat.le_of_ble_eq_true rfl⟩, ⟨Nat.le_of_ble_eq_true rfl, Nat.le_of_ble_eq_true rfl⟩, Nat.le_of_ble_eq_true rfl⟩ (rest := []) rfl dX5_describe_63 (fun S7 H locs h C => ?_)
        exact bX5_describe_66 F hr S7  _ _ _ h C (lv_sub hl [0] rfl)
    · have h := h.2 g1
      refine lv_aload_n F.x F.b dX5_describe_8 rfl (lv_at hl 0 rfl) ?_
      refine getX F C 10 (by decide) q1_187 (v := .ref (ad 116)) rfl dX5_describe_9 ?_
      refine lv_iload_n F.x F.b dX5_describe_12 rfl (lv_at hl 1 rfl) ?_
      refine lv_aload_n F.x F.b dX5_describe_13 rfl (lv_at hl 0 rfl) ?_
      refine lv_iload_n F.x F.b dX5_describe_14 rfl (lv_at hl 1 rfl) ?_
      refine kI F C hl (kX5_signOf  h) (by decide) (ce_X _) rfl wv_X5_214 ⟨rfl, rfl, ⟨Nat.le_of_ble_eq_true rfl, Nat.le_of_ble_eq_true rfl⟩, ⟨Nat.le_of_ble_eq_true rfl, Nat.le_of_ble_eq_true rfl⟩, Nat.le_of_ble_eq_true rfl⟩ (rest := [.int v1, .ref (ad 116)]) rfl dX5_describe_15 (fun r10 S9 H locs h C => ?_)
      obtain ⟨g11, h⟩ := h
      obtain ⟨g12, h⟩ := h
      refine astC F C (o := 116) (cq := 9) (iq := 0) (by decide) rfl rfl (fun _ => rfl) g11 g12 dX5_describe_18 (fun H locs C => ?_)
      obtain ⟨S13, eS13⟩ : ∃ z : Mem, z = wr S9 9 0 v1.toNatClampNeg r10 := ⟨_, rfl⟩
      rw [← eS13] at C
      have h := h S13 eS13
      obtain ⟨x14, ex14⟩ : ∃ z : Int32, z = v1 + (1 : Int32) := ⟨_, rfl⟩
      have h := h x14 ex14
      refine lv_iinc (v := x14) (lv' := [(1, .int x14), (0, .ref (ad 110))]) F.x F.b dX5_describe_19 hl (k := 1) rfl (by rw [ex14]; rfl) (by decide) rfl (fun ls hl => ?_)
      refine lv_goto (tgt := 2) F.x F.b dX5_describe_22 (by decide) ?_
      exact ih S13 x14 _ _ _ h C (lv_sub hl [1, 0] rfl)
set_option maxRecDepth 100000 in
set_option maxHeartbeats 4000000 in
theorem kX5_describe {l : Launch} {D : va_G} {ky : Nat → ClassId} {ad : Nat → Nat} {ex : Nat → Nat → Nat} {post : Int32 → Mem → Prop} {S : Mem} (h : mX5_describe post S ) : CMi l D ky ad ex yX5_describe cX5_describe 2 (some .int) rmX5_describe 0 0 [.ref (ad 110)] S post := by
  refine CMi.of (by decide) (Nat.le_of_ble_eq_true rfl) (fun p e s m args below meth c ls F hr C hl => ?_)
  have hl : lv_has ls 2 [(0, .ref (ad 110))] := hl
  unfold mX5_describe at h
  refine lv_iconst (v := 0) F.x F.b dX5_describe_0 (by decide) ?_
  refine lv_istore_n (lv' := [(1, .int (0 : Int32)), (0, .ref (ad 110))]) F.x F.b dX5_describe_1 rfl hl (by decide) rfl (fun ls hl => ?_)
  obtain ⟨n1, h⟩ := h
  exact bX5_describe_2 F hr n1 S (0 : Int32) _ _ _ h C (lv_sub hl [1, 0] rfl)

def rmX5_lettersAgain : Room := { frames := 3, cells := 0, slots := 0, locals := 64 }
def mX5_lettersAgain (post : Int32 → Mem → Prop) (S : Mem) : Prop := mX0_sumOf (fun (r2 : Int32) (S1 : Mem) => post ((((S 0 0 8) - (S 0 0 7)) - r2)) S1) S 0 (8 : Int32)
set_option maxRecDepth 100000 in
set_option maxHeartbeats 4000000 in
theorem kX5_lettersAgain {l : Launch} {D : va_G} {ky : Nat → ClassId} {ad : Nat → Nat} {ex : Nat → Nat → Nat} {post : Int32 → Mem → Prop} {S : Mem} (h : mX5_lettersAgain post S ) : CMi l D ky ad ex yX5_lettersAgain cX5_lettersAgain 1 (some .int) rmX5_lettersAgain 0 0 [.ref (ad 110)] S post := by
  refine CMi.of (by decide) (Nat.le_of_ble_eq_true rfl) (fun p e s m args below meth c ls F hr C hl => ?_)
  have hl : lv_has ls 1 [(0, .ref (ad 110))] := hl
  unfold mX5_lettersAgain at h
  refine lv_aload_n F.x F.b dX5_lettersAgain_0 rfl (lv_at hl 0 rfl) ?_
  refine getX F C 0 (by decide) q1_177 (v := .ref (ad 0)) rfl dX5_lettersAgain_1 ?_
  refine getFN F C (by decide) 8 (by decide) q1_103 (v := .int (S 0 0 8)) rfl dX5_lettersAgain_4 ?_
  refine lv_aload_n F.x F.b dX5_lettersAgain_7 rfl (lv_at hl 0 rfl) ?_
  refine getX F C 0 (by decide) q1_177 (v := .ref (ad 0)) rfl dX5_lettersAgain_8 ?_
  refine getFN F C (by decide) 7 (by decide) q1_101 (v := .int (S 0 0 7)) rfl dX5_lettersAgain_11 ?_
  refine lv_isub F.x F.b dX5_lettersAgain_14 ?_
  refine lv_aload_n F.x F.b dX5_lettersAgain_15 rfl (lv_at hl 0 rfl) ?_
  refine getX F C 0 (by decide) q1_177 (v := .ref (ad 0)) rfl dX5_lettersAgain_16 ?_
  refine lv_bipush (v := 8) F.x F.b dX5_lettersAgain_19 (by decide) ?_
  refine kI F C hl (kX0_sumOf  (by decide) h) (by decide) (ce_F (by decide) _) rfl wv_X5_229 ⟨rfl, rfl, ⟨Nat.le_of_ble_eq_true rfl, Nat.le_of_ble_eq_true rfl⟩, ⟨Nat.le_of_ble_eq_true rfl, Nat.le_of_ble_eq_true rfl⟩, Nat.le_of_ble_eq_true rfl⟩ (rest := [.int ((S 0 0 8) - (S 0 0 7))]) rfl dX5_lettersAgain_21 (fun r2 S1 H locs h C => ?_)
  refine lv_isub F.x F.b dX5_lettersAgain_24 ?_
  exact retI F hr C h dX5_lettersAgain_25

def rmX5_save : Room := { frames := 2, cells := 0, slots := 0, locals := 43 }
def mX5_save (post : Int32 → Mem → Prop) (S : Mem) : Prop := mX0_copyFrom (fun (S1 : Mem) => ∀ S3 : Mem, S3 = wr S1 3 0 3 (1 : Int32) → post (S3 0 0 3) S3) S 9 0
set_option maxRecDepth 100000 in
set_option maxHeartbeats 4000000 in
theorem kX5_save {l : Launch} {D : va_G} {ky : Nat → ClassId} {ad : Nat → Nat} {ex : Nat → Nat → Nat} {post : Int32 → Mem → Prop} {S : Mem} (h : mX5_save post S ) : CMi l D ky ad ex yX5_save cX5_save 1 (some .int) rmX5_save 0 0 [.ref (ad 110)] S post := by
  refine CMi.of (by decide) (Nat.le_of_ble_eq_true rfl) (fun p e s m args below meth c ls F hr C hl => ?_)
  have hl : lv_has ls 1 [(0, .ref (ad 110))] := hl
  unfold mX5_save at h
  refine lv_aload_n F.x F.b dX5_save_0 rfl (lv_at hl 0 rfl) ?_
  refine getX F C 2 (by decide) q1_179 (v := .ref (ad 9)) rfl dX5_save_1 ?_
  refine lv_aload_n F.x F.b dX5_save_4 rfl (lv_at hl 0 rfl) ?_
  refine getX F C 0 (by decide) q1_177 (v := .ref (ad 0)) rfl dX5_save_5 ?_
  refine kV F C hl (kX0_copyFrom  (by decide) (by decide) h) (by decide) (ce_F (by decide) _) rfl wv_X5_257 ⟨rfl, rfl, ⟨Nat.le_of_ble_eq_true rfl, Nat.le_of_ble_eq_true rfl⟩, ⟨Nat.le_of_ble_eq_true rfl, Nat.le_of_ble_eq_true rfl⟩, Nat.le_of_ble_eq_true rfl⟩ (rest := []) rfl dX5_save_8 (fun S1 H locs h C => ?_)
  refine lv_aload_n F.x F.b dX5_save_11 rfl (lv_at hl 0 rfl) ?_
  refine lv_iconst (v := 1) F.x F.b dX5_save_12 (by decide) ?_
  refine putX F C 3 (by decide) q1_180 rfl (tyX5_ok 3 (by decide)) rfl rfl rfl dX5_save_13 (fun H locs C => ?_)
  obtain ⟨S3, eS3⟩ : ∃ z : Mem, z = wr S1 3 0 3 (1 : Int32) := ⟨_, rfl⟩
  rw [← eS3] at C
  have h := h S3 eS3
  refine lv_aload_n F.x F.b dX5_save_16 rfl (lv_at hl 0 rfl) ?_
  refine getX F C 0 (by decide) q1_177 (v := .ref (ad 0)) rfl dX5_save_17 ?_
  refine getFN F C (by decide) 3 (by decide) q1_93 (v := .int (S3 0 0 3)) rfl dX5_save_20 ?_
  exact retI F hr C h dX5_save_23
