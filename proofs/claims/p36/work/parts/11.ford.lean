def rmX0_copyFrom : Room := { frames := 1, cells := 0, slots := 0, locals := 21 }
def mX0_copyFrom_b28 (post : Mem → Prop) : Nat → Mem → Nat → Nat → Int32 → Prop
  | 0, _, _, _, _ => False
  | n + 1, S, j0, j1, v2 => (((S 0 j1 2) ≤ v2 → (∀ S2 : Mem, S2 = wr S 0 j0 2 (S 0 j1 2) → ∀ S3 : Mem, S3 = wr S2 0 j0 3 (S2 0 j1 3) → ∀ S4 : Mem, S4 = wr S3 0 j0 4 (S3 0 j1 4) → ∀ S5 : Mem, S5 = wr S4 0 j0 5 (S4 0 j1 5) → ∀ S6 : Mem, S6 = wr S5 0 j0 6 (S5 0 j1 6) → ∀ S7 : Mem, S7 = wr S6 0 j0 7 (S6 0 j1 7) → ∀ S8 : Mem, S8 = wr S7 0 j0 8 (S7 0 j1 8) → ∀ S9 : Mem, S9 = wr S8 0 j0 9 (S8 0 j1 9) → ∀ S10 : Mem, S10 = wr S9 0 j0 10 (S9 0 j1 10) → ∀ S11 : Mem, S11 = wr S10 0 j0 11 (S10 0 j1 11) → post S11)) ∧ (¬ (S 0 j1 2) ≤ v2 → (vp_in v2 8 ∧ ∀ k13 : Nat, k13 = 8 * j0 + v2.toNatClampNeg → vp_in v2 8 ∧ ∀ k15 : Nat, k15 = 8 * j1 + v2.toNatClampNeg → mX3_copyFrom (fun (S16 : Mem) => ∀ x18 : Int32, x18 = v2 + (1 : Int32) → mX0_copyFrom_b28 post n S16 j0 j1 x18) S k13 k15)))
def mX0_copyFrom_b2 (post : Mem → Prop) : Nat → Mem → Nat → Nat → Int32 → Prop
  | 0, _, _, _, _ => False
  | n + 1, S, j0, j1, v2 => (((10 : Int32) ≤ v2 → (∃ fu : Nat, mX0_copyFrom_b28 post fu S j0 j1 (0 : Int32))) ∧ (¬ (10 : Int32) ≤ v2 → (vp_in v2 10 ∧ vp_in v2 10 ∧ ∀ S5 : Mem, S5 = wr S 1 j0 v2.toNatClampNeg (S 1 j1 v2.toNatClampNeg) → ∀ x6 : Int32, x6 = v2 + (1 : Int32) → mX0_copyFrom_b2 post n S5 j0 j1 x6)))
def mX0_copyFrom (post : Mem → Prop) (S : Mem) (j0 : Nat) (j1 : Nat) : Prop := ∃ fu : Nat, mX0_copyFrom_b2 post fu S j0 j1 (0 : Int32)
set_option maxRecDepth 100000 in
set_option maxHeartbeats 4000000 in
theorem bX0_copyFrom_28 {p : Program} {l : Launch} {e : Env} {s : State} {m : MethodId} {args : Array Value} {below : List Frame} {meth : Method} {c : Code} {D : va_G} {ky : Nat → ClassId} {ad : Nat → Nat} {ex : Nat → Nat → Nat} (F : Fx p s m args meth c D ky ad ex cX0_copyFrom 3 yX0_copyFrom.cls) (hr : meth.sig.returnType = none) {post : Mem → Prop} : ∀ (n : Nat) (S : Mem) (j0 : Nat) (j1 : Nat) (v2 : Int32) (H : Heap) (locs : List Loc) (ls : Array Slot), j0 < 10 → j1 < 10 → mX0_copyFrom_b28 post n S j0 j1 v2 → Cx D ky ad s S H locs → lv_has ls 3 [(0, .ref (ad j0)), (1, .ref (ad j1)), (2, .int v2)] → W p l e rmX0_copyFrom s m args below meth c H locs 0 0 (MQ below (va_Qv post (AFT D ky ad) (AW ad s.heap.size)) args s 0 0 (AW ad s.heap.size)) (F0 m 28 ls []) := by
  intro n
  induction n with
  | zero =>
    intro S j0 j1 v2 H locs ls hj0 hj1 h
    exact False.elim h
  | succ n ih =>
    intro S j0 j1 v2 H locs ls hj0 hj1 h C hl
    refine lv_iload_n F.x F.b dX0_copyFrom_28 rfl (lv_at hl 2 rfl) ?_
    refine lv_aload_n F.x F.b dX0_copyFrom_29 rfl (lv_at hl 1 rfl) ?_
    refine getF F C hj1 2 (by decide) q1_89 (v := .int (S 0 j1 2)) rfl dX0_copyFrom_30 ?_
    refine lv_icmp_ge (tgt := 57) F.x F.b dX0_copyFrom_33 (by decide) (fun g1 => ?_) (fun g1 => ?_)
    · have h := h.1 g1
      refine lv_aload_n F.x F.b dX0_copyFrom_57 rfl (lv_at hl 0 rfl) ?_
      refine lv_aload_n F.x F.b dX0_copyFrom_58 rfl (lv_at hl 1 rfl) ?_
      refine getF F C hj1 2 (by decide) q1_89 (v := .int (S 0 j1 2)) rfl dX0_copyFrom_59 ?_
      refine putF F C hj0 2 (by decide) q1_89 rfl (tyX0_ok 2 (by decide)) rfl rfl rfl dX0_copyFrom_62 (fun H locs C => ?_)
      obtain ⟨S2, eS2⟩ : ∃ z : Mem, z = wr S 0 j0 2 (S 0 j1 2) := ⟨_, rfl⟩
      rw [← eS2] at C
      have h := h S2 eS2
      refine lv_aload_n F.x F.b dX0_copyFrom_65 rfl (lv_at hl 0 rfl) ?_
      refine lv_aload_n F.x F.b dX0_copyFrom_66 rfl (lv_at hl 1 rfl) ?_
      refine getF F C hj1 3 (by decide) q1_92 (v := .int (S2 0 j1 3)) rfl dX0_copyFrom_67 ?_
      refine putF F C hj0 3 (by decide) q1_92 rfl (tyX0_ok 3 (by decide)) rfl rfl rfl dX0_copyFrom_70 (fun H locs C => ?_)
      obtain ⟨S3, eS3⟩ : ∃ z : Mem, z = wr S2 0 j0 3 (S2 0 j1 3) := ⟨_, rfl⟩
      rw [← eS3] at C
      have h := h S3 eS3
      refine lv_aload_n F.x F.b dX0_copyFrom_73 rfl (lv_at hl 0 rfl) ?_
      refine lv_aload_n F.x F.b dX0_copyFrom_74 rfl (lv_at hl 1 rfl) ?_
      refine getF F C hj1 4 (by decide) q1_94 (v := .int (S3 0 j1 4)) rfl dX0_copyFrom_75 ?_
      refine putF F C hj0 4 (by decide) q1_94 rfl (tyX0_ok 4 (by decide)) rfl rfl rfl dX0_copyFrom_78 (fun H locs C => ?_)
      obtain ⟨S4, eS4⟩ : ∃ z : Mem, z = wr S3 0 j0 4 (S3 0 j1 4) := ⟨_, rfl⟩
      rw [← eS4] at C
      have h := h S4 eS4
      refine lv_aload_n F.x F.b dX0_copyFrom_81 rfl (lv_at hl 0 rfl) ?_
      refine lv_aload_n F.x F.b dX0_copyFrom_82 rfl (lv_at hl 1 rfl) ?_
      refine getF F C hj1 5 (by decide) q1_96 (v := .int (S4 0 j1 5)) rfl dX0_copyFrom_83 ?_
      refine putF F C hj0 5 (by decide) q1_96 rfl (tyX0_ok 5 (by decide)) rfl rfl rfl dX0_copyFrom_86 (fun H locs C => ?_)
      obtain ⟨S5, eS5⟩ : ∃ z : Mem, z = wr S4 0 j0 5 (S4 0 j1 5) := ⟨_, rfl⟩
      rw [← eS5] at C
      have h := h S5 eS5
      refine lv_aload_n F.x F.b dX0_copyFrom_89 rfl (lv_at hl 0 rfl) ?_
      refine lv_aload_n F.x F.b dX0_copyFrom_90 rfl (lv_at hl 1 rfl) ?_
      refine getF F C hj1 6 (by decide) q1_98 (v := .int (S5 0 j1 6)) rfl dX0_copyFrom_91 ?_
      refine putF F C hj0 6 (by decide) q1_98 rfl (tyX0_ok 6 (by decide)) rfl rfl rfl dX0_copyFrom_94 (fun H locs C => ?_)
      obtain ⟨S6, eS6⟩ : ∃ z : Mem, z = wr S5 0 j0 6 (S5 0 j1 6) := ⟨_, rfl⟩
      rw [← eS6] at C
      have h := h S6 eS6
      refine lv_aload_n F.x F.b dX0_copyFrom_97 rfl (lv_at hl 0 rfl) ?_
      refine lv_aload_n F.x F.b dX0_copyFrom_98 rfl (lv_at hl 1 rfl) ?_
      refine getF F C hj1 7 (by decide) q1_100 (v := .int (S6 0 j1 7)) rfl dX0_copyFrom_99 ?_
      refine putF F C hj0 7 (by decide) q1_100 rfl (tyX0_ok 7 (by decide)) rfl rfl rfl dX0_copyFrom_102 (fun H locs C => ?_)
      obtain ⟨S7, eS7⟩ : ∃ z : Mem, z = wr S6 0 j0 7 (S6 0 j1 7) := ⟨_, rfl⟩
      rw [← eS7] at C
      have h := h S7 eS7
      refine lv_aload_n F.x F.b dX0_copyFrom_105 rfl (lv_at hl 0 rfl) ?_
      refine lv_aload_n F.x F.b dX0_copyFrom_106 rfl (lv_at hl 1 rfl) ?_
      refine getF F C hj1 8 (by decide) q1_102 (v := .int (S7 0 j1 8)) rfl dX0_copyFrom_107 ?_
      refine putF F C hj0 8 (by decide) q1_102 rfl (tyX0_ok 8 (by decide)) rfl rfl rfl dX0_copyFrom_110 (fun H locs C => ?_)
      obtain ⟨S8, eS8⟩ : ∃ z : Mem, z = wr S7 0 j0 8 (S7 0 j1 8) := ⟨_, rfl⟩
      rw [← eS8] at C
      have h := h S8 eS8
      refine lv_aload_n F.x F.b dX0_copyFrom_113 rfl (lv_at hl 0 rfl) ?_
      refine lv_aload_n F.x F.b dX0_copyFrom_114 rfl (lv_at hl 1 rfl) ?_
      refine getF F C hj1 9 (by decide) q1_104 (v := .int (S8 0 j1 9)) rfl dX0_copyFrom_115 ?_
      refine putF F C hj0 9 (by decide) q1_104 rfl (tyX0_ok 9 (by decide)) rfl rfl rfl dX0_copyFrom_118 (fun H locs C => ?_)
      obtain ⟨S9, eS9⟩ : ∃ z : Mem, z = wr S8 0 j0 9 (S8 0 j1 9) := ⟨_, rfl⟩
      rw [← eS9] at C
      have h := h S9 eS9
      refine lv_aload_n F.x F.b dX0_copyFrom_121 rfl (lv_at hl 0 rfl) ?_
      refine lv_aload_n F.x F.b dX0_copyFrom_122 rfl (lv_at hl 1 rfl) ?_
      refine getF F C hj1 10 (by decide) q1_106 (v := .int (S9 0 j1 10)) rfl dX0_copyFrom_123 ?_
      refine putF F C hj0 10 (by decide) q1_106 rfl (tyX0_ok 10 (by decide)) rfl rfl rfl dX0_copyFrom_126 (fun H locs C => ?_)
      obtain ⟨S10, eS10⟩ : ∃ z : Mem, z = wr S9 0 j0 10 (S9 0 j1 10) := ⟨_, rfl⟩
      rw [← eS10] at C
      have h := h S10 eS10
      refine lv_aload_n F.x F.b dX0_copyFrom_129 rfl (lv_at hl 0 rfl) ?_
      refine lv_aload_n F.x F.b dX0_copyFrom_130 rfl (lv_at hl 1 rfl) ?_
      refine getF F C hj1 11 (by decide) q1_108 (v := .int (S10 0 j1 11)) rfl dX0_copyFrom_131 ?_
      refine putF F C hj0 11 (by decide) q1_108 rfl (tyX0_ok 11 (by decide)) rfl rfl rfl dX0_copyFrom_134 (fun H locs C => ?_)
      obtain ⟨S11, eS11⟩ : ∃ z : Mem, z = wr S10 0 j0 11 (S10 0 j1 11) := ⟨_, rfl⟩
      rw [← eS11] at C
      have h := h S11 eS11
      exact retV F hr C h dX0_copyFrom_137
    · have h := h.2 g1
      refine lv_aload_n F.x F.b dX0_copyFrom_36 rfl (lv_at hl 0 rfl) ?_
      refine getF F C hj0 1 (by decide) q1_86 (v := .ref (ad (100 + j0))) rfl dX0_copyFrom_37 ?_
      refine lv_iload_n F.x F.b dX0_copyFrom_40 rfl (lv_at hl 2 rfl) ?_
      obtain ⟨g12, h⟩ := h
      refine aldT F C hj0 g12 dX0_copyFrom_41 ?_
      obtain ⟨k13, ek13⟩ : ∃ z : Nat, z = 8 * j0 + v2.toNatClampNeg := ⟨_, rfl⟩
      have hk13 : k13 < 80 := by rw [ek13]; exact tv_lt g12 hj0
      rw [← ek13]
      have h := h k13 ek13
      refine lv_aload_n F.x F.b dX0_copyFrom_42 rfl (lv_at hl 1 rfl) ?_
      refine getF F C hj1 1 (by decide) q1_86 (v := .ref (ad (100 + j1))) rfl dX0_copyFrom_43 ?_
      refine lv_iload_n F.x F.b dX0_copyFrom_46 rfl (lv_at hl 2 rfl) ?_
      obtain ⟨g14, h⟩ := h
      refine aldT F C hj1 g14 dX0_copyFrom_47 ?_
      obtain ⟨k15, ek15⟩ : ∃ z : Nat, z = 8 * j1 + v2.toNatClampNeg := ⟨_, rfl⟩
      have hk15 : k15 < 80 := by rw [ek15]; exact tv_lt g14 hj1
      rw [← ek15]
      have h := h k15 ek15
      refine kV F C hl (kX3_copyFrom  hk13 hk15 h) (by omega) (ce_T hk13 _) rfl wv_X0_53 ⟨rfl, rfl, ⟨Nat.le_of_ble_eq_true rfl, Nat.le_of_ble_eq_true rfl⟩, ⟨Nat.le_of_ble_eq_true rfl, Nat.le_of_ble_eq_true rfl⟩, Nat.le_of_ble_eq_true rfl⟩ (rest := []) rfl dX0_copyFrom_48 (fun S16 H locs h C => ?_)
      obtain ⟨x18, ex18⟩ : ∃ z : Int32, z = v2 + (1 : Int32) := ⟨_, rfl⟩
      have h := h x18 ex18
      refine lv_iinc (v := x18) (lv' := [(2, .int x18), (0, .ref (ad j0)), (1, .ref (ad j1))]) F.x F.b dX0_copyFrom_51 hl (k := 2) rfl (by rw [ex18]; rfl) (by decide) rfl (fun ls hl => ?_)
      refine lv_goto (tgt := 28) F.x F.b dX0_copyFrom_54 (by decide) ?_
      exact ih S16 j0 j1 x18 _ _ _ hj0 hj1 h C (lv_sub hl [1, 2, 0] rfl)
set_option maxRecDepth 100000 in
set_option maxHeartbeats 4000000 in
theorem bX0_copyFrom_2 {p : Program} {l : Launch} {e : Env} {s : State} {m : MethodId} {args : Array Value} {below : List Frame} {meth : Method} {c : Code} {D : va_G} {ky : Nat → ClassId} {ad : Nat → Nat} {ex : Nat → Nat → Nat} (F : Fx p s m args meth c D ky ad ex cX0_copyFrom 3 yX0_copyFrom.cls) (hr : meth.sig.returnType = none) {post : Mem → Prop} : ∀ (n : Nat) (S : Mem) (j0 : Nat) (j1 : Nat) (v2 : Int32) (H : Heap) (locs : List Loc) (ls : Array Slot), j0 < 10 → j1 < 10 → mX0_copyFrom_b2 post n S j0 j1 v2 → Cx D ky ad s S H locs → lv_has ls 3 [(0, .ref (ad j0)), (1, .ref (ad j1)), (2, .int v2)] → W p l e rmX0_copyFrom s m args below meth c H locs 0 0 (MQ below (va_Qv post (AFT D ky ad) (AW ad s.heap.size)) args s 0 0 (AW ad s.heap.size)) (F0 m 2 ls []) := by
  intro n
  induction n with
  | zero =>
    intro S j0 j1 v2 H locs ls hj0 hj1 h
    exact False.elim h
  | succ n ih =>
    intro S j0 j1 v2 H locs ls hj0 hj1 h C hl
    refine lv_iload_n F.x F.b dX0_copyFrom_2 rfl (lv_at hl 2 rfl) ?_
    refine lv_bipush (v := 10) F.x F.b dX0_copyFrom_3 (by decide) ?_
    refine lv_icmp_ge (tgt := 26) F.x F.b dX0_copyFrom_5 (by decide) (fun g1 => ?_) (fun g1 => ?_)
    · have h := h.1 g1
      refine lv_iconst (v := 0) F.x F.b dX0_copyFrom_26 (by decide) ?_
      refine lv_istore_n (lv' := [(2, .int (0 : Int32)), (0, .ref (ad j0)), (1, .ref (ad j1))]) F.x F.b dX0_copyFrom_27 rfl hl (by decide) rfl (fun ls hl => ?_)
      obtain ⟨n2, h⟩ := h
      exact bX0_copyFrom_28 F hr n2 S j0 j1 (0 : Int32) _ _ _ hj0 hj1 h C (lv_sub hl [1, 2, 0] rfl)
    · have h := h.2 g1
      refine lv_aload_n F.x F.b dX0_copyFrom_8 rfl (lv_at hl 0 rfl) ?_
      refine getF F C hj0 0 (by decide) q1_84 (v := .ref (ad (10 + j0))) rfl dX0_copyFrom_9 ?_
      refine lv_iload_n F.x F.b dX0_copyFrom_12 rfl (lv_at hl 2 rfl) ?_
      refine lv_aload_n F.x F.b dX0_copyFrom_13 rfl (lv_at hl 1 rfl) ?_
      refine getF F C hj1 0 (by decide) q1_84 (v := .ref (ad (10 + j1))) rfl dX0_copyFrom_14 ?_
      refine lv_iload_n F.x F.b dX0_copyFrom_17 rfl (lv_at hl 2 rfl) ?_
      obtain ⟨g3, h⟩ := h
      refine aldI F C (o := 10 + j1) (cq := 1) (iq := j1) (by omega) (tg_H hj1) (ix_H hj1) (ce_H hj1 _) g3 dX0_copyFrom_18 ?_
      obtain ⟨g4, h⟩ := h
      refine astI F C (o := 10 + j0) (cq := 1) (iq := j0) (by omega) (tg_H hj0) (ix_H hj0) (fun r => ce_H hj0 r) g4 dX0_copyFrom_19 (fun H locs C => ?_)
      obtain ⟨S5, eS5⟩ : ∃ z : Mem, z = wr S 1 j0 v2.toNatClampNeg (S 1 j1 v2.toNatClampNeg) := ⟨_, rfl⟩
      rw [← eS5] at C
      have h := h S5 eS5
      obtain ⟨x6, ex6⟩ : ∃ z : Int32, z = v2 + (1 : Int32) := ⟨_, rfl⟩
      have h := h x6 ex6
      refine lv_iinc (v := x6) (lv' := [(2, .int x6), (0, .ref (ad j0)), (1, .ref (ad j1))]) F.x F.b dX0_copyFrom_20 hl (k := 2) rfl (by rw [ex6]; rfl) (by decide) rfl (fun ls hl => ?_)
      refine lv_goto (tgt := 2) F.x F.b dX0_copyFrom_23 (by decide) ?_
      exact ih S5 j0 j1 x6 _ _ _ hj0 hj1 h C (lv_sub hl [1, 2, 0] rfl)
set_option maxRecDepth 100000 in
set_option maxHeartbeats 4000000 in
theorem kX0_copyFrom {l : Launch} {D : va_G} {ky : Nat → ClassId} {ad : Nat → Nat} {ex : Nat → Nat → Nat} {post : Mem → Prop} {S : Mem} {j0 : Nat} {j1 : Nat} (hj0 : j0 < 10) (hj1 : j1 < 10) (h : mX0_copyFrom post S j0 j1) : CMv l D ky ad ex yX0_copyFrom cX0_copyFrom 3 none rmX0_copyFrom 0 0 [.ref (ad j0), .ref (ad j1)] S post := by
  refine CMv.of (by decide) (Nat.le_of_ble_eq_true rfl) (fun p e s m args below meth c ls F hr C hl => ?_)
  have hl : lv_has ls 3 [(0, .ref (ad j0)), (1, .ref (ad j1))] := hl
  unfold mX0_copyFrom at h
  refine lv_iconst (v := 0) F.x F.b dX0_copyFrom_0 (by decide) ?_
  refine lv_istore_n (lv' := [(2, .int (0 : Int32)), (0, .ref (ad j0)), (1, .ref (ad j1))]) F.x F.b dX0_copyFrom_1 rfl hl (by decide) rfl (fun ls hl => ?_)
  obtain ⟨n1, h⟩ := h
  exact bX0_copyFrom_2 F hr n1 S j0 j1 (0 : Int32) _ _ _ hj0 hj1 h C (lv_sub hl [1, 2, 0] rfl)

def rmX0_stateOf : Room := { frames := 0, cells := 0, slots := 0, locals := 0 }
def mX0_stateOf (post : Int32 → Mem → Prop) (S : Mem) (j0 : Nat) (v1 : Int32) (v2 : Int32) : Prop := vp_in v1 10 ∧ ∀ x2 : Int32, x2 = ((S 1 j0 v1.toNatClampNeg) - v2) → ((0 ≤ x2 → ((((2 : Int32) < x2 → (post (0 : Int32) S)) ∧ (¬ (2 : Int32) < x2 → (post (1 : Int32) S))))) ∧ (¬ 0 ≤ x2 → (post (2 : Int32) S)))
set_option maxRecDepth 100000 in
set_option maxHeartbeats 4000000 in
theorem kX0_stateOf {l : Launch} {D : va_G} {ky : Nat → ClassId} {ad : Nat → Nat} {ex : Nat → Nat → Nat} {post : Int32 → Mem → Prop} {S : Mem} {j0 : Nat} {v1 : Int32} {v2 : Int32} (hj0 : j0 < 10) (h : mX0_stateOf post S j0 v1 v2) : CMi l D ky ad ex yX0_stateOf cX0_stateOf 4 (some .int) rmX0_stateOf 0 0 [.ref (ad j0), .int v1, .int v2] S post := by
  refine CMi.of (by decide) (Nat.le_of_ble_eq_true rfl) (fun p e s m args below meth c ls F hr C hl => ?_)
  have hl : lv_has ls 4 [(0, .ref (ad j0)), (1, .int v1), (2, .int v2)] := hl
  unfold mX0_stateOf at h
  refine lv_aload_n F.x F.b dX0_stateOf_0 rfl (lv_at hl 0 rfl) ?_
  refine getF F C hj0 0 (by decide) q1_84 (v := .ref (ad (10 + j0))) rfl dX0_stateOf_1 ?_
  refine lv_iload_n F.x F.b dX0_stateOf_4 rfl (lv_at hl 1 rfl) ?_
  obtain ⟨g1, h⟩ := h
  refine aldI F C (o := 10 + j0) (cq := 1) (iq := j0) (by omega) (tg_H hj0) (ix_H hj0) (ce_H hj0 _) g1 dX0_stateOf_5 ?_
  refine lv_iload_n F.x F.b dX0_stateOf_6 rfl (lv_at hl 2 rfl) ?_
  refine lv_isub F.x F.b dX0_stateOf_7 ?_
  refine lv_topi (fun x2 ex2 => ?_)
  have h := h x2 ex2
  refine lv_istore_n (lv' := [(3, .int x2), (0, .ref (ad j0)), (1, .int v1), (2, .int v2)]) F.x F.b dX0_stateOf_8 rfl hl (by decide) rfl (fun ls hl => ?_)
  refine lv_iload_n F.x F.b dX0_stateOf_9 rfl (lv_at hl 0 rfl) ?_
  refine lv_if_ge (tgt := 15) F.x F.b dX0_stateOf_10 (by decide) (fun g3 => ?_) (fun g3 => ?_)
  · have h := h.1 g3
    refine lv_iload_n F.x F.b dX0_stateOf_15 rfl (lv_at hl 0 rfl) ?_
    refine lv_iconst (v := 2) F.x F.b dX0_stateOf_16 (by decide) ?_
    refine lv_icmp_gt (tgt := 24) F.x F.b dX0_stateOf_17 (by decide) (fun g4 => ?_) (fun g4 => ?_)
    · have h := h.1 g4
      refine lv_iconst (v := 0) F.x F.b dX0_stateOf_24 (by decide) ?_
      exact retI F hr C h dX0_stateOf_25
    · have h := h.2 g4
      refine lv_iconst (v := 1) F.x F.b dX0_stateOf_20 (by decide) ?_
      refine lv_goto (tgt := 25) F.x F.b dX0_stateOf_21 (by decide) ?_
      exact retI F hr C h dX0_stateOf_25
  · have h := h.2 g3
    refine lv_iconst (v := 2) F.x F.b dX0_stateOf_13 (by decide) ?_
    exact retI F hr C h dX0_stateOf_14

def rmX0_lowestHeight : Room := { frames := 1, cells := 0, slots := 0, locals := 14 }
def mX0_lowestHeight_b5 (post : Int32 → Mem → Prop) : Nat → Mem → Nat → Int32 → Int32 → Prop
  | 0, _, _, _, _ => False
  | n + 1, S, j0, v1, v2 => (((10 : Int32) ≤ v2 → (post v1 S)) ∧ (¬ (10 : Int32) ≤ v2 → (vp_in v2 10 ∧ ∀ x3 : Int32, x3 = (if (S 1 j0 v2.toNatClampNeg) < v1 then (S 1 j0 v2.toNatClampNeg) else v1) → ∀ x4 : Int32, x4 = v2 + (1 : Int32) → mX0_lowestHeight_b5 post n S j0 x3 x4)))
def mX0_lowestHeight (post : Int32 → Mem → Prop) (S : Mem) (j0 : Nat) : Prop := ∃ fu : Nat, mX0_lowestHeight_b5 post fu S j0 (30 : Int32) (0 : Int32)
set_option maxRecDepth 100000 in
set_option maxHeartbeats 4000000 in
theorem bX0_lowestHeight_5 {p : Program} {l : Launch} {e : Env} {s : State} {m : MethodId} {args : Array Value} {below : List Frame} {meth : Method} {c : Code} {D : va_G} {ky : Nat → ClassId} {ad : Nat → Nat} {ex : Nat → Nat → Nat} (F : Fx p s m args meth c D ky ad ex cX0_lowestHeight 3 yX0_lowestHeight.cls) (hr : meth.sig.returnType = (some .int)) {post : Int32 → Mem → Prop} : ∀ (n : Nat) (S : Mem) (j0 : Nat) (v1 : Int32) (v2 : Int32) (H : Heap) (locs : List Loc) (ls : Array Slot), j0 < 10 → mX0_lowestHeight_b5 post n S j0 v1 v2 → Cx D ky ad s S H locs → lv_has ls 3 [(0, .ref (ad j0)), (1, .int v1), (2, .int v2)] → W p l e rmX0_lowestHeight s m args below meth c H locs 0 0 (MQ below (va_Qi post (AFT D ky ad) (AW ad s.heap.size)) args s 0 0 (AW ad s.heap.size)) (F0 m 5 ls []) := by
  intro n
  induction n with
  | zero =>
    intro S j0 v1 v2 H locs ls hj0 h
    exact False.elim h
  | succ n ih =>
    intro S j0 v1 v2 H locs ls hj0 h C hl
    refine lv_iload_n F.x F.b dX0_lowestHeight_5 rfl (lv_at hl 2 rfl) ?_
    refine lv_bipush (v := 10) F.x F.b dX0_lowestHeight_6 (by decide) ?_
    refine lv_icmp_ge (tgt := 28) F.x F.b dX0_lowestHeight_8 (by decide) (fun g1 => ?_) (fun g1 => ?_)
    · have h := h.1 g1
      refine lv_iload_n F.x F.b dX0_lowestHeight_28 rfl (lv_at hl 1 rfl) ?_
      exact retI F hr C h dX0_lowestHeight_29
    · have h := h.2 g1
      refine lv_iload_n F.x F.b dX0_lowestHeight_11 rfl (lv_at hl 1 rfl) ?_
      refine lv_aload_n F.x F.b dX0_lowestHeight_12 rfl (lv_at hl 0 rfl) ?_
      refine getF F C hj0 0 (by decide) q1_84 (v := .ref (ad (10 + j0))) rfl dX0_lowestHeight_13 ?_
      refine lv_iload_n F.x F.b dX0_lowestHeight_16 rfl (lv_at hl 2 rfl) ?_
      obtain ⟨g2, h⟩ := h
      refine aldI F C (o := 10 + j0) (cq := 1) (iq := j0) (by omega) (tg_H hj0) (ix_H hj0) (ce_H hj0 _) g2 dX0_lowestHeight_17 ?_
      refine mMin F hl q2_184 ⟨Nat.le_of_ble_eq_true rfl, Nat.le_of_ble_eq_true rfl, Nat.le_of_ble_eq_true rfl, Nat.le_of_ble_eq_true rfl⟩ dX0_lowestHeight_18 ?_
      refine lv_topi (fun x3 ex3 => ?_)
      have h := h x3 ex3
      refine lv_istore_n (lv' := [(1, .int x3), (0, .ref (ad j0)), (2, .int v2)]) F.x F.b dX0_lowestHeight_21 rfl hl (by decide) rfl (fun ls hl => ?_)
      obtain ⟨x4, ex4⟩ : ∃ z : Int32, z = v2 + (1 : Int32) := ⟨_, rfl⟩
      have h := h x4 ex4
      refine lv_iinc (v := x4) (lv' := [(2, .int x4), (1, .int x3), (0, .ref (ad j0))]) F.x F.b dX0_lowestHeight_22 hl (k := 2) rfl (by rw [ex4]; rfl) (by decide) rfl (fun ls hl => ?_)
      refine lv_goto (tgt := 5) F.x F.b dX0_lowestHeight_25 (by decide) ?_
      exact ih S j0 x3 x4 _ _ _ hj0 h C (lv_sub hl [2, 1, 0] rfl)
set_option maxRecDepth 100000 in
set_option maxHeartbeats 4000000 in
theorem kX0_lowestHeight {l : Launch} {D : va_G} {ky : Nat → ClassId} {ad : Nat → Nat} {ex : Nat → Nat → Nat} {post : Int32 → Mem → Prop} {S : Mem} {j0 : Nat} (hj0 : j0 < 10) (h : mX0_lowestHeight post S j0) : CMi l D ky ad ex yX0_lowestHeight cX0_lowestHeight 3 (some .int) rmX0_lowestHeight 0 0 [.ref (ad j0)] S post := by
  refine CMi.of (by decide) (Nat.le_of_ble_eq_true rfl) (fun p e s m args below meth c ls F hr C hl => ?_)
  have hl : lv_has ls 3 [(0, .ref (ad j0))] := hl
  unfold mX0_lowestHeight at h
  refine lv_bipush (v := 30) F.x F.b dX0_lowestHeight_0 (by decide) ?_
  refine lv_istore_n (lv' := [(1, .int (30 : Int32)), (0, .ref (ad j0))]) F.x F.b dX0_lowestHeight_2 rfl hl (by decide) rfl (fun ls hl => ?_)
  refine lv_iconst (v := 0) F.x F.b dX0_lowestHeight_3 (by decide) ?_
  refine lv_istore_n (lv' := [(2, .int (0 : Int32)), (1, .int (30 : Int32)), (0, .ref (ad j0))]) F.x F.b dX0_lowestHeight_4 rfl hl (by decide) rfl (fun ls hl => ?_)
  obtain ⟨n1, h⟩ := h
  exact bX0_lowestHeight_5 F hr n1 S j0 (30 : Int32) (0 : Int32) _ _ _ hj0 h C (lv_sub hl [2, 1, 0] rfl)

def rmX0_levelAfterHour : Room := { frames := 1, cells := 0, slots := 0, locals := 14 }
def mX0_levelAfterHour (post : Int32 → Mem → Prop) (S : Mem) (j0 : Nat) (v1 : Int32) : Prop := ∀ x1 : Int32, x1 = (if (v1 + (S 0 j0 5)) < (40 : Int32) then (v1 + (S 0 j0 5)) else (40 : Int32)) → post ((if (4 : Int32) < (x1 - (2 : Int32)) then (x1 - (2 : Int32)) else (4 : Int32))) S
set_option maxRecDepth 100000 in
set_option maxHeartbeats 4000000 in
theorem kX0_levelAfterHour {l : Launch} {D : va_G} {ky : Nat → ClassId} {ad : Nat → Nat} {ex : Nat → Nat → Nat} {post : Int32 → Mem → Prop} {S : Mem} {j0 : Nat} {v1 : Int32} (hj0 : j0 < 10) (h : mX0_levelAfterHour post S j0 v1) : CMi l D ky ad ex yX0_levelAfterHour cX0_levelAfterHour 3 (some .int) rmX0_levelAfterHour 0 0 [.ref (ad j0), .int v1] S post := by
  refine CMi.of (by decide) (Nat.le_of_ble_eq_true rfl) (fun p e s m args below meth c ls F hr C hl => ?_)
  have hl : lv_has ls 3 [(0, .ref (ad j0)), (1, .int v1)] := hl
  unfold mX0_levelAfterHour at h
  refine lv_bipush (v := 40) F.x F.b dX0_levelAfterHour_0 (by decide) ?_
  refine lv_iload_n F.x F.b dX0_levelAfterHour_2 rfl (lv_at hl 1 rfl) ?_
  refine lv_aload_n F.x F.b dX0_levelAfterHour_3 rfl (lv_at hl 0 rfl) ?_
  refine getF F C hj0 5 (by decide) q1_96 (v := .int (S 0 j0 5)) rfl dX0_levelAfterHour_4 ?_
  refine lv_iadd F.x F.b dX0_levelAfterHour_7 ?_
  refine mMin F hl q2_184 ⟨Nat.le_of_ble_eq_true rfl, Nat.le_of_ble_eq_true rfl, Nat.le_of_ble_eq_true rfl, Nat.le_of_ble_eq_true rfl⟩ dX0_levelAfterHour_8 ?_
  refine lv_topi (fun x1 ex1 => ?_)
  have h := h x1 ex1
  refine lv_istore_n (lv' := [(2, .int x1), (0, .ref (ad j0)), (1, .int v1)]) F.x F.b dX0_levelAfterHour_11 rfl hl (by decide) rfl (fun ls hl => ?_)
  refine lv_iconst (v := 4) F.x F.b dX0_levelAfterHour_12 (by decide) ?_
  refine lv_iload_n F.x F.b dX0_levelAfterHour_13 rfl (lv_at hl 0 rfl) ?_
  refine lv_iconst (v := 2) F.x F.b dX0_levelAfterHour_14 (by decide) ?_
  refine lv_isub F.x F.b dX0_levelAfterHour_15 ?_
  refine mMax F hl q2_189 ⟨Nat.le_of_ble_eq_true rfl, Nat.le_of_ble_eq_true rfl, Nat.le_of_ble_eq_true rfl, Nat.le_of_ble_eq_true rfl⟩ dX0_levelAfterHour_16 ?_
  exact retI F hr C h dX0_levelAfterHour_19

def rmX0_levelOnTheWayToRest : Room := { frames := 1, cells := 0, slots := 0, locals := 14 }
def mX0_levelOnTheWayToRest (post : Int32 → Mem → Prop) (S : Mem) (j0 : Nat) (v1 : Int32) : Prop := ∀ x1 : Int32, x1 = ((S 0 j0 4) + (((S 0 j0 5) - (2 : Int32)) * v1)) → (((2 : Int32) ≤ (S 0 j0 5) → (post ((if x1 < (38 : Int32) then x1 else (38 : Int32))) S)) ∧ (¬ (2 : Int32) ≤ (S 0 j0 5) → (post ((if (4 : Int32) < x1 then x1 else (4 : Int32))) S)))
set_option maxRecDepth 100000 in
set_option maxHeartbeats 4000000 in
theorem kX0_levelOnTheWayToRest {l : Launch} {D : va_G} {ky : Nat → ClassId} {ad : Nat → Nat} {ex : Nat → Nat → Nat} {post : Int32 → Mem → Prop} {S : Mem} {j0 : Nat} {v1 : Int32} (hj0 : j0 < 10) (h : mX0_levelOnTheWayToRest post S j0 v1) : CMi l D ky ad ex yX0_levelOnTheWayToRest cX0_levelOnTheWayToRest 3 (some .int) rmX0_levelOnTheWayToRest 0 0 [.ref (ad j0), .int v1] S post := by
  refine CMi.of (by decide) (Nat.le_of_ble_eq_true rfl) (fun p e s m args below meth c ls F hr C hl => ?_)
  have hl : lv_has ls 3 [(0, .ref (ad j0)), (1, .int v1)] := hl
  unfold mX0_levelOnTheWayToRest at h
  refine lv_aload_n F.x F.b dX0_levelOnTheWayToRest_0 rfl (lv_at hl 0 rfl) ?_
  refine getF F C hj0 4 (by decide) q1_94 (v := .int (S 0 j0 4)) rfl dX0_levelOnTheWayToRest_1 ?_
  refine lv_aload_n F.x F.b dX0_levelOnTheWayToRest_4 rfl (lv_at hl 0 rfl) ?_
  refine getF F C hj0 5 (by decide) q1_96 (v := .int (S 0 j0 5)) rfl dX0_levelOnTheWayToRest_5 ?_
  refine lv_iconst (v := 2) F.x F.b dX0_levelOnTheWayToRest_8 (by decide) ?_
  refine lv_isub F.x F.b dX0_levelOnTheWayToRest_9 ?_
  refine lv_iload_n F.x F.b dX0_levelOnTheWayToRest_10 rfl (lv_at hl 1 rfl) ?_
  refine lv_imul F.x F.b dX0_levelOnTheWayToRest_11 ?_
  refine lv_iadd F.x F.b dX0_levelOnTheWayToRest_12 ?_
  refine lv_topi (fun x1 ex1 => ?_)
  have h := h x1 ex1
  refine lv_istore_n (lv' := [(2, .int x1), (0, .ref (ad j0)), (1, .int v1)]) F.x F.b dX0_levelOnTheWayToRest_13 rfl hl (by decide) rfl (fun ls hl => ?_)
  refine lv_aload_n F.x F.b dX0_levelOnTheWayToRest_14 rfl (lv_at hl 1 rfl) ?_
  refine getF F C hj0 5 (by decide) q1_96 (v := .int (S 0 j0 5)) rfl dX0_levelOnTheWayToRest_15 ?_
  refine lv_iconst (v := 2) F.x F.b dX0_levelOnTheWayToRest_18 (by decide) ?_
  refine lv_icmp_ge (tgt := 28) F.x F.b dX0_levelOnTheWayToRest_19 (by decide) (fun g2 => ?_) (fun g2 => ?_)
  · have h := h.1 g2
    refine lv_bipush (v := 38) F.x F.b dX0_levelOnTheWayToRest_28 (by decide) ?_
    refine lv_iload_n F.x F.b dX0_levelOnTheWayToRest_30 rfl (lv_at hl 0 rfl) ?_
    refine mMin F hl q2_184 ⟨Nat.le_of_ble_eq_true rfl, Nat.le_of_ble_eq_true rfl, Nat.le_of_ble_eq_true rfl, Nat.le_of_ble_eq_true rfl⟩ dX0_levelOnTheWayToRest_31 ?_
    exact retI F hr C h dX0_levelOnTheWayToRest_34
  · have h := h.2 g2
    refine lv_iconst (v := 4) F.x F.b dX0_levelOnTheWayToRest_22 (by decide) ?_
    refine lv_iload_n F.x F.b dX0_levelOnTheWayToRest_23 rfl (lv_at hl 0 rfl) ?_
    refine mMax F hl q2_189 ⟨Nat.le_of_ble_eq_true rfl, Nat.le_of_ble_eq_true rfl, Nat.le_of_ble_eq_true rfl, Nat.le_of_ble_eq_true rfl⟩ dX0_levelOnTheWayToRest_24 ?_
    exact retI F hr C h dX0_levelOnTheWayToRest_27

def rmX0_lowestOn : Room := { frames := 0, cells := 0, slots := 0, locals := 0 }
def mX0_lowestOn_b2 (post : Int32 → Mem → Prop) : Nat → Mem → Nat → Int32 → Int32 → Prop
  | 0, _, _, _, _ => False
  | n + 1, S, j0, v1, v2 => (((S 0 j0 2) ≤ v2 → (post (-1 : Int32) S)) ∧ (¬ (S 0 j0 2) ≤ v2 → (vp_in v2 8 ∧ ∀ k3 : Nat, k3 = 8 * j0 + v2.toNatClampNeg → ((¬ (S 2 k3 2) = v1 → (∀ x5 : Int32, x5 = v2 + (1 : Int32) → mX0_lowestOn_b2 post n S j0 v1 x5)) ∧ ((S 2 k3 2) = v1 → (post v2 S))))))
def mX0_lowestOn (post : Int32 → Mem → Prop) (S : Mem) (j0 : Nat) (v1 : Int32) : Prop := ∃ fu : Nat, mX0_lowestOn_b2 post fu S j0 v1 (0 : Int32)
set_option maxRecDepth 100000 in
set_option maxHeartbeats 4000000 in
theorem bX0_lowestOn_2 {p : Program} {l : Launch} {e : Env} {s : State} {m : MethodId} {args : Array Value} {below : List Frame} {meth : Method} {c : Code} {D : va_G} {ky : Nat → ClassId} {ad : Nat → Nat} {ex : Nat → Nat → Nat} (F : Fx p s m args meth c D ky ad ex cX0_lowestOn 3 yX0_lowestOn.cls) (hr : meth.sig.returnType = (some .int)) {post : Int32 → Mem → Prop} : ∀ (n : Nat) (S : Mem) (j0 : Nat) (v1 : Int32) (v2 : Int32) (H : Heap) (locs : List Loc) (ls : Array Slot), j0 < 10 → mX0_lowestOn_b2 post n S j0 v1 v2 → Cx D ky ad s S H locs → lv_has ls 3 [(0, .ref (ad j0)), (1, .int v1), (2, .int v2)] → W p l e rmX0_lowestOn s m args below meth c H locs 0 0 (MQ below (va_Qi post (AFT D ky ad) (AW ad s.heap.size)) args s 0 0 (AW ad s.heap.size)) (F0 m 2 ls []) := by
  intro n
  induction n with
  | zero =>
    intro S j0 v1 v2 H locs ls hj0 h
    exact False.elim h
  | succ n ih =>
    intro S j0 v1 v2 H locs ls hj0 h C hl
    refine lv_iload_n F.x F.b dX0_lowestOn_2 rfl (lv_at hl 2 rfl) ?_
    refine lv_aload_n F.x F.b dX0_lowestOn_3 rfl (lv_at hl 0 rfl) ?_
    refine getF F C hj0 2 (by decide) q1_89 (v := .int (S 0 j0 2)) rfl dX0_lowestOn_4 ?_
    refine lv_icmp_ge (tgt := 31) F.x F.b dX0_lowestOn_7 (by decide) (fun g1 => ?_) (fun g1 => ?_)
    · have h := h.1 g1
      refine lv_iconst (v := -1) F.x F.b dX0_lowestOn_31 (by decide) ?_
      exact retI F hr C h dX0_lowestOn_32
    · have h := h.2 g1
      refine lv_aload_n F.x F.b dX0_lowestOn_10 rfl (lv_at hl 0 rfl) ?_
      refine getF F C hj0 1 (by decide) q1_86 (v := .ref (ad (100 + j0))) rfl dX0_lowestOn_11 ?_
      refine lv_iload_n F.x F.b dX0_lowestOn_14 rfl (lv_at hl 2 rfl) ?_
      obtain ⟨g2, h⟩ := h
      refine aldT F C hj0 g2 dX0_lowestOn_15 ?_
      obtain ⟨k3, ek3⟩ : ∃ z : Nat, z = 8 * j0 + v2.toNatClampNeg := ⟨_, rfl⟩
      have hk3 : k3 < 80 := by rw [ek3]; exact tv_lt g2 hj0
      rw [← ek3]
      have h := h k3 ek3
      refine getTN F C hk3 2 (by decide) q1_51 (v := .int (S 2 k3 2)) rfl dX0_lowestOn_16 ?_
      refine lv_iload_n F.x F.b dX0_lowestOn_19 rfl (lv_at hl 1 rfl) ?_
      refine lv_icmp_ne (tgt := 25) F.x F.b dX0_lowestOn_20 (by decide) (fun g4 => ?_) (fun g4 => ?_)
      · have h := h.1 g4
        obtain ⟨x5, ex5⟩ : ∃ z : Int32, z = v2 + (1 : Int32) := ⟨_, rfl⟩
        have h := h x5 ex5
        refine lv_iinc (v := x5) (lv' := [(2, .int x5), (0, .ref (ad j0)), (1, .int v1)]) F.x F.b dX0_lowestOn_25 hl (k := 2) rfl (by rw [ex5]; rfl) (by decide) rfl (fun ls hl => ?_)
        refine lv_goto (tgt := 2) F.x F.b dX0_lowestOn_28 (by decide) ?_
        exact ih S j0 v1 x5 _ _ _ hj0 h C (lv_sub hl [1, 2, 0] rfl)
      · have h := h.2 g4
        refine lv_iload_n F.x F.b dX0_lowestOn_23 rfl (lv_at hl 2 rfl) ?_
        exact retI F hr C h dX0_lowestOn_24
set_option maxRecDepth 100000 in
set_option maxHeartbeats 4000000 in
theorem kX0_lowestOn {l : Launch} {D : va_G} {ky : Nat → ClassId} {ad : Nat → Nat} {ex : Nat → Nat → Nat} {post : Int32 → Mem → Prop} {S : Mem} {j0 : Nat} {v1 : Int32} (hj0 : j0 < 10) (h : mX0_lowestOn post S j0 v1) : CMi l D ky ad ex yX0_lowestOn cX0_lowestOn 3 (some .int) rmX0_lowestOn 0 0 [.ref (ad j0), .int v1] S post := by
  refine CMi.of (by decide) (Nat.le_of_ble_eq_true rfl) (fun p e s m args below meth c ls F hr C hl => ?_)
  have hl : lv_has ls 3 [(0, .ref (ad j0)), (1, .int v1)] := hl
  unfold mX0_lowestOn at h
  refine lv_iconst (v := 0) F.x F.b dX0_lowestOn_0 (by decide) ?_
  refine lv_istore_n (lv' := [(2, .int (0 : Int32)), (0, .ref (ad j0)), (1, .int v1)]) F.x F.b dX0_lowestOn_1 rfl hl (by decide) rfl (fun ls hl => ?_)
  obtain ⟨n1, h⟩ := h
  exact bX0_lowestOn_2 F hr n1 S j0 v1 (0 : Int32) _ _ _ hj0 h C (lv_sub hl [1, 2, 0] rfl)

def rmX0_countOn : Room := { frames := 0, cells := 0, slots := 0, locals := 0 }
def mX0_countOn_b4 (post : Int32 → Mem → Prop) : Nat → Mem → Nat → Int32 → Int32 → Int32 → Prop
  | 0, _, _, _, _, _ => False
  | n + 1, S, j0, v1, v2, v3 => (((S 0 j0 2) ≤ v3 → (post v2 S)) ∧ (¬ (S 0 j0 2) ≤ v3 → (vp_in v3 8 ∧ ∀ k3 : Nat, k3 = 8 * j0 + v3.toNatClampNeg → ((¬ (S 2 k3 2) = v1 → (∀ x5 : Int32, x5 = v3 + (1 : Int32) → mX0_countOn_b4 post n S j0 v1 v2 x5)) ∧ ((S 2 k3 2) = v1 → (∀ x6 : Int32, x6 = v2 + (1 : Int32) → ∀ x7 : Int32, x7 = v3 + (1 : Int32) → mX0_countOn_b4 post n S j0 v1 x6 x7))))))
def mX0_countOn (post : Int32 → Mem → Prop) (S : Mem) (j0 : Nat) (v1 : Int32) : Prop := ∃ fu : Nat, mX0_countOn_b4 post fu S j0 v1 (0 : Int32) (0 : Int32)
set_option maxRecDepth 100000 in
set_option maxHeartbeats 4000000 in
theorem bX0_countOn_4 {p : Program} {l : Launch} {e : Env} {s : State} {m : MethodId} {args : Array Value} {below : List Frame} {meth : Method} {c : Code} {D : va_G} {ky : Nat → ClassId} {ad : Nat → Nat} {ex : Nat → Nat → Nat} (F : Fx p s m args meth c D ky ad ex cX0_countOn 4 yX0_countOn.cls) (hr : meth.sig.returnType = (some .int)) {post : Int32 → Mem → Prop} : ∀ (n : Nat) (S : Mem) (j0 : Nat) (v1 : Int32) (v2 : Int32) (v3 : Int32) (H : Heap) (locs : List Loc) (ls : Array Slot), j0 < 10 → mX0_countOn_b4 post n S j0 v1 v2 v3 → Cx D ky ad s S H locs → lv_has ls 4 [(0, .ref (ad j0)), (1, .int v1), (2, .int v2), (3, .int v3)] → W p l e rmX0_countOn s m args below meth c H locs 0 0 (MQ below (va_Qi post (AFT D ky ad) (AW ad s.heap.size)) args s 0 0 (AW ad s.heap.size)) (F0 m 4 ls []) := by
  intro n
  induction n with
  | zero =>
    intro S j0 v1 v2 v3 H locs ls hj0 h
    exact False.elim h
  | succ n ih =>
    intro S j0 v1 v2 v3 H locs ls hj0 h C hl
    refine lv_iload_n F.x F.b dX0_countOn_4 rfl (lv_at hl 3 rfl) ?_
    refine lv_aload_n F.x F.b dX0_countOn_5 rfl (lv_at hl 0 rfl) ?_
    refine getF F C hj0 2 (by decide) q1_89 (v := .int (S 0 j0 2)) rfl dX0_countOn_6 ?_
    refine lv_icmp_ge (tgt := 34) F.x F.b dX0_countOn_9 (by decide) (fun g1 => ?_) (fun g1 => ?_)
    · have h := h.1 g1
      refine lv_iload_n F.x F.b dX0_countOn_34 rfl (lv_at hl 2 rfl) ?_
      exact retI F hr C h dX0_countOn_35
    · have h := h.2 g1
      refine lv_aload_n F.x F.b dX0_countOn_12 rfl (lv_at hl 0 rfl) ?_
      refine getF F C hj0 1 (by decide) q1_86 (v := .ref (ad (100 + j0))) rfl dX0_countOn_13 ?_
      refine lv_iload_n F.x F.b dX0_countOn_16 rfl (lv_at hl 3 rfl) ?_
      obtain ⟨g2, h⟩ := h
      refine aldT F C hj0 g2 dX0_countOn_17 ?_
      obtain ⟨k3, ek3⟩ : ∃ z : Nat, z = 8 * j0 + v3.toNatClampNeg := ⟨_, rfl⟩
      have hk3 : k3 < 80 := by rw [ek3]; exact tv_lt g2 hj0
      rw [← ek3]
      have h := h k3 ek3
      refine getTN F C hk3 2 (by decide) q1_51 (v := .int (S 2 k3 2)) rfl dX0_countOn_18 ?_
      refine lv_iload_n F.x F.b dX0_countOn_21 rfl (lv_at hl 1 rfl) ?_
      refine lv_icmp_ne (tgt := 28) F.x F.b dX0_countOn_22 (by decide) (fun g4 => ?_) (fun g4 => ?_)
      · have h := h.1 g4
        obtain ⟨x5, ex5⟩ : ∃ z : Int32, z = v3 + (1 : Int32) := ⟨_, rfl⟩
        have h := h x5 ex5
        refine lv_iinc (v := x5) (lv' := [(3, .int x5), (0, .ref (ad j0)), (1, .int v1), (2, .int v2)]) F.x F.b dX0_countOn_28 hl (k := 3) rfl (by rw [ex5]; rfl) (by decide) rfl (fun ls hl => ?_)
        refine lv_goto (tgt := 4) F.x F.b dX0_countOn_31 (by decide) ?_
        exact ih S j0 v1 v2 x5 _ _ _ hj0 h C (lv_sub hl [1, 2, 3, 0] rfl)
      · have h := h.2 g4
        obtain ⟨x6, ex6⟩ : ∃ z : Int32, z = v2 + (1 : Int32) := ⟨_, rfl⟩
        have h := h x6 ex6
        refine lv_iinc (v := x6) (lv' := [(2, .int x6), (0, .ref (ad j0)), (1, .int v1), (3, .int v3)]) F.x F.b dX0_countOn_25 hl (k := 2) rfl (by rw [ex6]; rfl) (by decide) rfl (fun ls hl => ?_)
        obtain ⟨x7, ex7⟩ : ∃ z : Int32, z = v3 + (1 : Int32) := ⟨_, rfl⟩
        have h := h x7 ex7
        refine lv_iinc (v := x7) (lv' := [(3, .int x7), (2, .int x6), (0, .ref (ad j0)), (1, .int v1)]) F.x F.b dX0_countOn_28 hl (k := 3) rfl (by rw [ex7]; rfl) (by decide) rfl (fun ls hl => ?_)
        refine lv_goto (tgt := 4) F.x F.b dX0_countOn_31 (by decide) ?_
        exact ih S j0 v1 x6 x7 _ _ _ hj0 h C (lv_sub hl [2, 3, 1, 0] rfl)
set_option maxRecDepth 100000 in
set_option maxHeartbeats 4000000 in
theorem kX0_countOn {l : Launch} {D : va_G} {ky : Nat → ClassId} {ad : Nat → Nat} {ex : Nat → Nat → Nat} {post : Int32 → Mem → Prop} {S : Mem} {j0 : Nat} {v1 : Int32} (hj0 : j0 < 10) (h : mX0_countOn post S j0 v1) : CMi l D ky ad ex yX0_countOn cX0_countOn 4 (some .int) rmX0_countOn 0 0 [.ref (ad j0), .int v1] S post := by
  refine CMi.of (by decide) (Nat.le_of_ble_eq_true rfl) (fun p e s m args below meth c ls F hr C hl => ?_)
  have hl : lv_has ls 4 [(0, .ref (ad j0)), (1, .int v1)] := hl
  unfold mX0_countOn at h
  refine lv_iconst (v := 0) F.x F.b dX0_countOn_0 (by decide) ?_
  refine lv_istore_n (lv' := [(2, .int (0 : Int32)), (0, .ref (ad j0)), (1, .int v1)]) F.x F.b dX0_countOn_1 rfl hl (by decide) rfl (fun ls hl => ?_)
  refine lv_iconst (v := 0) F.x F.b dX0_countOn_2 (by decide) ?_
  refine lv_istore_n (lv' := [(3, .int (0 : Int32)), (2, .int (0 : Int32)), (0, .ref (ad j0)), (1, .int v1)]) F.x F.b dX0_countOn_3 rfl hl (by decide) rfl (fun ls hl => ?_)
  obtain ⟨n1, h⟩ := h
  exact bX0_countOn_4 F hr n1 S j0 v1 (0 : Int32) (0 : Int32) _ _ _ hj0 h C (lv_sub hl [2, 3, 1, 0] rfl)

def rmX0_countIn : Room := { frames := 1, cells := 0, slots := 0, locals := 20 }
def mX0_countIn_b4 (post : Int32 → Mem → Prop) : Nat → Mem → Nat → Int32 → Int32 → Int32 → Prop
  | 0, _, _, _, _, _ => False
  | n + 1, S, j0, v1, v2, v3 => (((S 0 j0 2) ≤ v3 → (post v2 S)) ∧ (¬ (S 0 j0 2) ≤ v3 → (vp_in v3 8 ∧ ∀ k3 : Nat, k3 = 8 * j0 + v3.toNatClampNeg → mX3_region (fun (r5 : Int32) (S4 : Mem) => ((¬ r5 = v1 → (∀ x7 : Int32, x7 = v3 + (1 : Int32) → mX0_countIn_b4 post n S4 j0 v1 v2 x7)) ∧ (r5 = v1 → (∀ x8 : Int32, x8 = v2 + (1 : Int32) → ∀ x9 : Int32, x9 = v3 + (1 : Int32) → mX0_countIn_b4 post n S4 j0 v1 x8 x9)))) S k3)))
def mX0_countIn (post : Int32 → Mem → Prop) (S : Mem) (j0 : Nat) (v1 : Int32) : Prop := ∃ fu : Nat, mX0_countIn_b4 post fu S j0 v1 (0 : Int32) (0 : Int32)
set_option maxRecDepth 100000 in
set_option maxHeartbeats 4000000 in
theorem bX0_countIn_4 {p : Program} {l : Launch} {e : Env} {s : State} {m : MethodId} {args : Array Value} {below : List Frame} {meth : Method} {c : Code} {D : va_G} {ky : Nat → ClassId} {ad : Nat → Nat} {ex : Nat → Nat → Nat} (F : Fx p s m args meth c D ky ad ex cX0_countIn 4 yX0_countIn.cls) (hr : meth.sig.returnType = (some .int)) {post : Int32 → Mem → Prop} : ∀ (n : Nat) (S : Mem) (j0 : Nat) (v1 : Int32) (v2 : Int32) (v3 : Int32) (H : Heap) (locs : List Loc) (ls : Array Slot), j0 < 10 → mX0_countIn_b4 post n S j0 v1 v2 v3 → Cx D ky ad s S H locs → lv_has ls 4 [(0, .ref (ad j0)), (1, .int v1), (2, .int v2), (3, .int v3)] → W p l e rmX0_countIn s m args below meth c H locs 0 0 (MQ below (va_Qi post (AFT D ky ad) (AW ad s.heap.size)) args s 0 0 (AW ad s.heap.size)) (F0 m 4 ls []) := by
  intro n
  induction n with
  | zero =>
    intro S j0 v1 v2 v3 H locs ls hj0 h
    exact False.elim h
  | succ n ih =>
    intro S j0 v1 v2 v3 H locs ls hj0 h C hl
    refine lv_iload_n F.x F.b dX0_countIn_4 rfl (lv_at hl 3 rfl) ?_
    refine lv_aload_n F.x F.b dX0_countIn_5 rfl (lv_at hl 0 rfl) ?_
    refine getF F C hj0 2 (by decide) q1_89 (v := .int (S 0 j0 2)) rfl dX0_countIn_6 ?_
    refine lv_icmp_ge (tgt := 34) F.x F.b dX0_countIn_9 (by decide) (fun g1 => ?_) (fun g1 => ?_)
    · have h := h.1 g1
      refine lv_iload_n F.x F.b dX0_countIn_34 rfl (lv_at hl 2 rfl) ?_
      exact retI F hr C h dX0_countIn_35
    · have h := h.2 g1
      refine lv_aload_n F.x F.b dX0_countIn_12 rfl (lv_at hl 0 rfl) ?_
      refine getF F C hj0 1 (by decide) q1_86 (v := .ref (ad (100 + j0))) rfl dX0_countIn_13 ?_
      refine lv_iload_n F.x F.b dX0_countIn_16 rfl (lv_at hl 3 rfl) ?_
      obtain ⟨g2, h⟩ := h
      refine aldT F C hj0 g2 dX0_countIn_17 ?_
      obtain ⟨k3, ek3⟩ : ∃ z : Nat, z = 8 * j0 + v3.toNatClampNeg := ⟨_, rfl⟩
      have hk3 : k3 < 80 := by rw [ek3]; exact tv_lt g2 hj0
      rw [← ek3]
      have h := h k3 ek3
      refine kI F C hl (kX3_region  hk3 h) (by omega) (ce_T hk3 _) rfl wv_X0_69 ⟨rfl, rfl, ⟨Nat.le_of_ble_eq_true rfl, Nat.le_of_ble_eq_true rfl⟩, ⟨Nat.le_of_ble_eq_true rfl, Nat.le_of_ble_eq_true rfl⟩, Nat.le_of_ble_eq_true rfl⟩ (rest := []) rfl dX0_countIn_18 (fun r5 S4 H locs h C => ?_)
      refine lv_iload_n F.x F.b dX0_countIn_21 rfl (lv_at hl 1 rfl) ?_
      refine lv_icmp_ne (tgt := 28) F.x F.b dX0_countIn_22 (by decide) (fun g6 => ?_) (fun g6 => ?_)
      · have h := h.1 g6
        obtain ⟨x7, ex7⟩ : ∃ z : Int32, z = v3 + (1 : Int32) := ⟨_, rfl⟩
        have h := h x7 ex7
        refine lv_iinc (v := x7) (lv' := [(3, .int x7), (0, .ref (ad j0)), (1, .int v1), (2, .int v2)]) F.x F.b dX0_countIn_28 hl (k := 3) rfl (by rw [ex7]; rfl) (by decide) rfl (fun ls hl => ?_)
        refine lv_goto (tgt := 4) F.x F.b dX0_countIn_31 (by decide) ?_
        exact ih S4 j0 v1 v2 x7 _ _ _ hj0 h C (lv_sub hl [1, 2, 3, 0] rfl)
      · have h := h.2 g6
        obtain ⟨x8, ex8⟩ : ∃ z : Int32, z = v2 + (1 : Int32) := ⟨_, rfl⟩
        have h := h x8 ex8
        refine lv_iinc (v := x8) (lv' := [(2, .int x8), (0, .ref (ad j0)), (1, .int v1), (3, .int v3)]) F.x F.b dX0_countIn_25 hl (k := 2) rfl (by rw [ex8]; rfl) (by decide) rfl (fun ls hl => ?_)
        obtain ⟨x9, ex9⟩ : ∃ z : Int32, z = v3 + (1 : Int32) := ⟨_, rfl⟩
        have h := h x9 ex9
        refine lv_iinc (v := x9) (lv' := [(3, .int x9), (2, .int x8), (0, .ref (ad j0)), (1, .int v1)]) F.x F.b dX0_countIn_28 hl (k := 3) rfl (by rw [ex9]; rfl) (by decide) rfl (fun ls hl => ?_)
        refine lv_goto (tgt := 4) F.x F.b dX0_countIn_31 (by decide) ?_
        exact ih S4 j0 v1 x8 x9 _ _ _ hj0 h C (lv_sub hl [2, 3, 1, 0] rfl)
set_option maxRecDepth 100000 in
set_option maxHeartbeats 4000000 in
theorem kX0_countIn {l : Launch} {D : va_G} {ky : Nat → ClassId} {ad : Nat → Nat} {ex : Nat → Nat → Nat} {post : Int32 → Mem → Prop} {S : Mem} {j0 : Nat} {v1 : Int32} (hj0 : j0 < 10) (h : mX0_countIn post S j0 v1) : CMi l D ky ad ex yX0_countIn cX0_countIn 4 (some .int) rmX0_countIn 0 0 [.ref (ad j0), .int v1] S post := by
  refine CMi.of (by decide) (Nat.le_of_ble_eq_true rfl) (fun p e s m args below meth c ls F hr C hl => ?_)
  have hl : lv_has ls 4 [(0, .ref (ad j0)), (1, .int v1)] := hl
  unfold mX0_countIn at h
  refine lv_iconst (v := 0) F.x F.b dX0_countIn_0 (by decide) ?_
  refine lv_istore_n (lv' := [(2, .int (0 : Int32)), (0, .ref (ad j0)), (1, .int v1)]) F.x F.b dX0_countIn_1 rfl hl (by decide) rfl (fun ls hl => ?_)
  refine lv_iconst (v := 0) F.x F.b dX0_countIn_2 (by decide) ?_
  refine lv_istore_n (lv' := [(3, .int (0 : Int32)), (2, .int (0 : Int32)), (0, .ref (ad j0)), (1, .int v1)]) F.x F.b dX0_countIn_3 rfl hl (by decide) rfl (fun ls hl => ?_)
  obtain ⟨n1, h⟩ := h
  exact bX0_countIn_4 F hr n1 S j0 v1 (0 : Int32) (0 : Int32) _ _ _ hj0 h C (lv_sub hl [2, 3, 1, 0] rfl)

def rmX0_sumOf : Room := { frames := 2, cells := 0, slots := 0, locals := 41 }
def mX0_sumOf_b4 (post : Int32 → Mem → Prop) : Nat → Mem → Nat → Int32 → Int32 → Int32 → Prop
  | 0, _, _, _, _, _ => False
  | n + 1, S, j0, v1, v2, v3 => (((S 0 j0 2) ≤ v3 → (post v2 S)) ∧ (¬ (S 0 j0 2) ≤ v3 → (vp_in v3 8 ∧ ∀ k3 : Nat, k3 = 8 * j0 + v3.toNatClampNeg → mX3_numberOf (fun (r5 : Int32) (S4 : Mem) => ∀ x6 : Int32, x6 = (v2 + r5) → ∀ x7 : Int32, x7 = v3 + (1 : Int32) → mX0_sumOf_b4 post n S4 j0 v1 x6 x7) S k3 v1)))
def mX0_sumOf (post : Int32 → Mem → Prop) (S : Mem) (j0 : Nat) (v1 : Int32) : Prop := ∃ fu : Nat, mX0_sumOf_b4 post fu S j0 v1 (0 : Int32) (0 : Int32)
set_option maxRecDepth 100000 in
set_option maxHeartbeats 4000000 in
theorem bX0_sumOf_4 {p : Program} {l : Launch} {e : Env} {s : State} {m : MethodId} {args : Array Value} {below : List Frame} {meth : Method} {c : Code} {D : va_G} {ky : Nat → ClassId} {ad : Nat → Nat} {ex : Nat → Nat → Nat} (F : Fx p s m args meth c D ky ad ex cX0_sumOf 4 yX0_sumOf.cls) (hr : meth.sig.returnType = (some .int)) {post : Int32 → Mem → Prop} : ∀ (n : Nat) (S : Mem) (j0 : Nat) (v1 : Int32) (v2 : Int32) (v3 : Int32) (H : Heap) (locs : List Loc) (ls : Array Slot), j0 < 10 → mX0_sumOf_b4 post n S j0 v1 v2 v3 → Cx D ky ad s S H locs → lv_has ls 4 [(0, .ref (ad j0)), (1, .int v1), (2, .int v2), (3, .int v3)] → W p l e rmX0_sumOf s m args below meth c H locs 0 0 (MQ below (va_Qi post (AFT D ky ad) (AW ad s.heap.size)) args s 0 0 (AW ad s.heap.size)) (F0 m 4 ls []) := by
  intro n
  induction n with
  | zero =>
    intro S j0 v1 v2 v3 H locs ls hj0 h
    exact False.elim h
  | succ n ih =>
    intro S j0 v1 v2 v3 H locs ls hj0 h C hl
    refine lv_iload_n F.x F.b dX0_sumOf_4 rfl (lv_at hl 3 rfl) ?_
    refine lv_aload_n F.x F.b dX0_sumOf_5 rfl (lv_at hl 0 rfl) ?_
    refine getF F C hj0 2 (by decide) q1_89 (v := .int (S 0 j0 2)) rfl dX0_sumOf_6 ?_
    refine lv_icmp_ge (tgt := 31) F.x F.b dX0_sumOf_9 (by decide) (fun g1 => ?_) (fun g1 => ?_)
    · have h := h.1 g1
      refine lv_iload_n F.x F.b dX0_sumOf_31 rfl (lv_at hl 2 rfl) ?_
      exact retI F hr C h dX0_sumOf_32
    · have h := h.2 g1
      refine lv_iload_n F.x F.b dX0_sumOf_12 rfl (lv_at hl 2 rfl) ?_
      refine lv_aload_n F.x F.b dX0_sumOf_13 rfl (lv_at hl 0 rfl) ?_
      refine getF F C hj0 1 (by decide) q1_86 (v := .ref (ad (100 + j0))) rfl dX0_sumOf_14 ?_
      refine lv_iload_n F.x F.b dX0_sumOf_17 rfl (lv_at hl 3 rfl) ?_
      obtain ⟨g2, h⟩ := h
      refine aldT F C hj0 g2 dX0_sumOf_18 ?_
      obtain ⟨k3, ek3⟩ : ∃ z : Nat, z = 8 * j0 + v3.toNatClampNeg := ⟨_, rfl⟩
      have hk3 : k3 < 80 := by rw [ek3]; exact tv_lt g2 hj0
      rw [← ek3]
      have h := h k3 ek3
      refine lv_iload_n F.x F.b dX0_sumOf_19 rfl (lv_at hl 1 rfl) ?_
      refine kI F C hl (kX3_numberOf  hk3 h) (by omega) (ce_T hk3 _) rfl wv_X0_73 ⟨rfl, rfl, ⟨Nat.le_of_ble_eq_true rfl, Nat.le_of_ble_eq_true rfl⟩, ⟨Nat.le_of_ble_eq_true rfl, Nat.le_of_ble_eq_true rfl⟩, Nat.le_of_ble_eq_true rfl⟩ (rest := [.int v2]) rfl dX0_sumOf_20 (fun r5 S4 H locs h C => ?_)
      refine lv_iadd F.x F.b dX0_sumOf_23 ?_
      refine lv_topi (fun x6 ex6 => ?_)
      have h := h x6 ex6
      refine lv_istore_n (lv' := [(2, .int x6), (0, .ref (ad j0)), (1, .int v1), (3, .int v3)]) F.x F.b dX0_sumOf_24 rfl hl (by decide) rfl (fun ls hl => ?_)
      obtain ⟨x7, ex7⟩ : ∃ z : Int32, z = v3 + (1 : Int32) := ⟨_, rfl⟩
      have h := h x7 ex7
      refine lv_iinc (v := x7) (lv' := [(3, .int x7), (2, .int x6), (0, .ref (ad j0)), (1, .int v1)]) F.x F.b dX0_sumOf_25 hl (k := 3) rfl (by rw [ex7]; rfl) (by decide) rfl (fun ls hl => ?_)
      refine lv_goto (tgt := 4) F.x F.b dX0_sumOf_28 (by decide) ?_
      exact ih S4 j0 v1 x6 x7 _ _ _ hj0 h C (lv_sub hl [2, 3, 1, 0] rfl)
set_option maxRecDepth 100000 in
set_option maxHeartbeats 4000000 in
theorem kX0_sumOf {l : Launch} {D : va_G} {ky : Nat → ClassId} {ad : Nat → Nat} {ex : Nat → Nat → Nat} {post : Int32 → Mem → Prop} {S : Mem} {j0 : Nat} {v1 : Int32} (hj0 : j0 < 10) (h : mX0_sumOf post S j0 v1) : CMi l D ky ad ex yX0_sumOf cX0_sumOf 4 (some .int) rmX0_sumOf 0 0 [.ref (ad j0), .int v1] S post := by
  refine CMi.of (by decide) (Nat.le_of_ble_eq_true rfl) (fun p e s m args below meth c ls F hr C hl => ?_)
  have hl : lv_has ls 4 [(0, .ref (ad j0)), (1, .int v1)] := hl
  unfold mX0_sumOf at h
  refine lv_iconst (v := 0) F.x F.b dX0_sumOf_0 (by decide) ?_
  refine lv_istore_n (lv' := [(2, .int (0 : Int32)), (0, .ref (ad j0)), (1, .int v1)]) F.x F.b dX0_sumOf_1 rfl hl (by decide) rfl (fun ls hl => ?_)
  refine lv_iconst (v := 0) F.x F.b dX0_sumOf_2 (by decide) ?_
  refine lv_istore_n (lv' := [(3, .int (0 : Int32)), (2, .int (0 : Int32)), (0, .ref (ad j0)), (1, .int v1)]) F.x F.b dX0_sumOf_3 rfl hl (by decide) rfl (fun ls hl => ?_)
  obtain ⟨n1, h⟩ := h
  exact bX0_sumOf_4 F hr n1 S j0 v1 (0 : Int32) (0 : Int32) _ _ _ hj0 h C (lv_sub hl [2, 3, 1, 0] rfl)

def rmX0_welcome : Room := { frames := 1, cells := 0, slots := 0, locals := 21 }
def mX0_welcome (post : Int32 → Mem → Prop) (S : Mem) (j0 : Nat) (v1 : Int32) : Prop := ∀ x1 : Int32, x1 = (S 0 j0 2) → (((8 : Int32) ≤ x1 → (post x1 S)) ∧ (¬ (8 : Int32) ≤ x1 → (vp_in x1 8 ∧ ∀ k4 : Nat, k4 = 8 * j0 + x1.toNatClampNeg → mX3_arrive (fun (S5 : Mem) => ∀ S7 : Mem, S7 = wr S5 0 j0 2 ((S5 0 j0 2) + (1 : Int32)) → post x1 S7) S k4 v1)))
set_option maxRecDepth 100000 in
set_option maxHeartbeats 4000000 in
theorem kX0_welcome {l : Launch} {D : va_G} {ky : Nat → ClassId} {ad : Nat → Nat} {ex : Nat → Nat → Nat} {post : Int32 → Mem → Prop} {S : Mem} {j0 : Nat} {v1 : Int32} (hj0 : j0 < 10) (h : mX0_welcome post S j0 v1) : CMi l D ky ad ex yX0_welcome cX0_welcome 3 (some .int) rmX0_welcome 0 0 [.ref (ad j0), .int v1] S post := by
  refine CMi.of (by decide) (Nat.le_of_ble_eq_true rfl) (fun p e s m args below meth c ls F hr C hl => ?_)
  have hl : lv_has ls 3 [(0, .ref (ad j0)), (1, .int v1)] := hl
  unfold mX0_welcome at h
  refine lv_aload_n F.x F.b dX0_welcome_0 rfl (lv_at hl 0 rfl) ?_
  refine getF F C hj0 2 (by decide) q1_89 (v := .int (S 0 j0 2)) rfl dX0_welcome_1 ?_
  refine lv_topi (fun x1 ex1 => ?_)
  have h := h x1 ex1
  refine lv_istore_n (lv' := [(2, .int x1), (0, .ref (ad j0)), (1, .int v1)]) F.x F.b dX0_welcome_4 rfl hl (by decide) rfl (fun ls hl => ?_)
  refine lv_iload_n F.x F.b dX0_welcome_5 rfl (lv_at hl 0 rfl) ?_
  refine lv_bipush (v := 8) F.x F.b dX0_welcome_6 (by decide) ?_
  refine lv_icmp_ge (tgt := 31) F.x F.b dX0_welcome_8 (by decide) (fun g2 => ?_) (fun g2 => ?_)
  · have h := h.1 g2
    refine lv_iload_n F.x F.b dX0_welcome_31 rfl (lv_at hl 0 rfl) ?_
    exact retI F hr C h dX0_welcome_32
  · have h := h.2 g2
    refine lv_aload_n F.x F.b dX0_welcome_11 rfl (lv_at hl 1 rfl) ?_
    refine getF F C hj0 1 (by decide) q1_86 (v := .ref (ad (100 + j0))) rfl dX0_welcome_12 ?_
    refine lv_iload_n F.x F.b dX0_welcome_15 rfl (lv_at hl 0 rfl) ?_
    obtain ⟨g3, h⟩ := h
    refine aldT F C hj0 g3 dX0_welcome_16 ?_
    obtain ⟨k4, ek4⟩ : ∃ z : Nat, z = 8 * j0 + x1.toNatClampNeg := ⟨_, rfl⟩
    have hk4 : k4 < 80 := by rw [ek4]; exact tv_lt g3 hj0
    rw [← ek4]
    have h := h k4 ek4
    refine lv_iload_n F.x F.b dX0_welcome_17 rfl (lv_at hl 2 rfl) ?_
    refine kV F C hl (kX3_arrive  hk4 h) (by omega) (ce_T hk4 _) rfl wv_X0_77 ⟨rfl, rfl, ⟨Nat.le_of_ble_eq_true rfl, Nat.le_of_ble_eq_true rfl⟩, ⟨Nat.le_of_ble_eq_true rfl, Nat.le_of_ble_eq_true rfl⟩, Nat.le_of_ble_eq_true rfl⟩ (rest := []) rfl dX0_welcome_18 (fun S5 H locs h C => ?_)
    refine lv_aload_n F.x F.b dX0_welcome_21 rfl (lv_at hl 1 rfl) ?_
    refine lv_dup F.x F.b dX0_welcome_22 rfl ?_
    refine getF F C hj0 2 (by decide) q1_89 (v := .int (S5 0 j0 2)) rfl dX0_welcome_23 ?_
    refine lv_iconst (v := 1) F.x F.b dX0_welcome_26 (by decide) ?_
    refine lv_iadd F.x F.b dX0_welcome_27 ?_
    refine putF F C hj0 2 (by decide) q1_89 rfl (tyX0_ok 2 (by decide)) rfl rfl rfl dX0_welcome_28 (fun H locs C => ?_)
    obtain ⟨S7, eS7⟩ : ∃ z : Mem, z = wr S5 0 j0 2 ((S5 0 j0 2) + (1 : Int32)) := ⟨_, rfl⟩
    rw [← eS7] at C
    have h := h S7 eS7
    refine lv_iload_n F.x F.b dX0_welcome_31 rfl (lv_at hl 0 rfl) ?_
    exact retI F hr C h dX0_welcome_32

def rmX0_takeAway : Room := { frames := 1, cells := 0, slots := 0, locals := 21 }
def mX0_takeAway_b2 (post : Mem → Prop) : Nat → Mem → Nat → Int32 → Prop
  | 0, _, _, _ => False
  | n + 1, S, j0, v2 => ((((S 0 j0 2) - (1 : Int32)) ≤ v2 → (∀ S2 : Mem, S2 = wr S 0 j0 2 ((S 0 j0 2) - (1 : Int32)) → post S2)) ∧ (¬ ((S 0 j0 2) - (1 : Int32)) ≤ v2 → (vp_in v2 8 ∧ ∀ k4 : Nat, k4 = 8 * j0 + v2.toNatClampNeg → vp_in (v2 + (1 : Int32)) 8 ∧ ∀ k6 : Nat, k6 = 8 * j0 + ((v2 + (1 : Int32))).toNatClampNeg → mX3_copyFrom (fun (S7 : Mem) => ∀ x9 : Int32, x9 = v2 + (1 : Int32) → mX0_takeAway_b2 post n S7 j0 x9) S k4 k6)))
def mX0_takeAway (post : Mem → Prop) (S : Mem) (j0 : Nat) (v1 : Int32) : Prop := ∃ fu : Nat, mX0_takeAway_b2 post fu S j0 v1
set_option maxRecDepth 100000 in
set_option maxHeartbeats 4000000 in
theorem bX0_takeAway_2 {p : Program} {l : Launch} {e : Env} {s : State} {m : MethodId} {args : Array Value} {below : List Frame} {meth : Method} {c : Code} {D : va_G} {ky : Nat → ClassId} {ad : Nat → Nat} {ex : Nat → Nat → Nat} (F : Fx p s m args meth c D ky ad ex cX0_takeAway 3 yX0_takeAway.cls) (hr : meth.sig.returnType = none) {post : Mem → Prop} : ∀ (n : Nat) (S : Mem) (j0 : Nat) (v2 : Int32) (H : Heap) (locs : List Loc) (ls : Array Slot), j0 < 10 → mX0_takeAway_b2 post n S j0 v2 → Cx D ky ad s S H locs → lv_has ls 3 [(0, .ref (ad j0)), (2, .int v2)] → W p l e rmX0_takeAway s m args below meth c H locs 0 0 (MQ below (va_Qv post (AFT D ky ad) (AW ad s.heap.size)) args s 0 0 (AW ad s.heap.size)) (F0 m 2 ls []) := by
  intro n
  induction n with
  | zero =>
    intro S j0 v2 H locs ls hj0 h
    exact False.elim h
  | succ n ih =>
    intro S j0 v2 H locs ls hj0 h C hl
    refine lv_iload_n F.x F.b dX0_takeAway_2 rfl (lv_at hl 1 rfl) ?_
    refine lv_aload_n F.x F.b dX0_takeAway_3 rfl (lv_at hl 0 rfl) ?_
    refine getF F C hj0 2 (by decide) q1_89 (v := .int (S 0 j0 2)) rfl dX0_takeAway_4 ?_
    refine lv_iconst (v := 1) F.x F.b dX0_takeAway_7 (by decide) ?_
    refine lv_isub F.x F.b dX0_takeAway_8 ?_
    refine lv_icmp_ge (tgt := 35) F.x F.b dX0_takeAway_9 (by decide) (fun g1 => ?_) (fun g1 => ?_)
    · have h := h.1 g1
      refine lv_aload_n F.x F.b dX0_takeAway_35 rfl (lv_at hl 0 rfl) ?_
      refine lv_dup F.x F.b dX0_takeAway_36 rfl ?_
      refine getF F C hj0 2 (by decide) q1_89 (v := .int (S 0 j0 2)) rfl dX0_takeAway_37 ?_
      refine lv_iconst (v := 1) F.x F.b dX0_takeAway_40 (by decide) ?_
      refine lv_isub F.x F.b dX0_takeAway_41 ?_
      refine putF F C hj0 2 (by decide) q1_89 rfl (tyX0_ok 2 (by decide)) rfl rfl rfl dX0_takeAway_42 (fun H locs C => ?_)
      obtain ⟨S2, eS2⟩ : ∃ z : Mem, z = wr S 0 j0 2 ((S 0 j0 2) - (1 : Int32)) := ⟨_, rfl⟩
      rw [← eS2] at C
      have h := h S2 eS2
      exact retV F hr C h dX0_takeAway_45
    · have h := h.2 g1
      refine lv_aload_n F.x F.b dX0_takeAway_12 rfl (lv_at hl 0 rfl) ?_
      refine getF F C hj0 1 (by decide) q1_86 (v := .ref (ad (100 + j0))) rfl dX0_takeAway_13 ?_
      refine lv_iload_n F.x F.b dX0_takeAway_16 rfl (lv_at hl 1 rfl) ?_
      obtain ⟨g3, h⟩ := h
      refine aldT F C hj0 g3 dX0_takeAway_17 ?_
      obtain ⟨k4, ek4⟩ : ∃ z : Nat, z = 8 * j0 + v2.toNatClampNeg := ⟨_, rfl⟩
      have hk4 : k4 < 80 := by rw [ek4]; exact tv_lt g3 hj0
      rw [← ek4]
      have h := h k4 ek4
      refine lv_aload_n F.x F.b dX0_takeAway_18 rfl (lv_at hl 0 rfl) ?_
      refine getF F C hj0 1 (by decide) q1_86 (v := .ref (ad (100 + j0))) rfl dX0_takeAway_19 ?_
      refine lv_iload_n F.x F.b dX0_takeAway_22 rfl (lv_at hl 1 rfl) ?_
      refine lv_iconst (v := 1) F.x F.b dX0_takeAway_23 (by decide) ?_
      refine lv_iadd F.x F.b dX0_takeAway_24 ?_
      obtain ⟨g5, h⟩ := h
      refine aldT F C hj0 g5 dX0_takeAway_25 ?_
      obtain ⟨k6, ek6⟩ : ∃ z : Nat, z = 8 * j0 + ((v2 + (1 : Int32))).toNatClampNeg := ⟨_, rfl⟩
      have hk6 : k6 < 80 := by rw [ek6]; exact tv_lt g5 hj0
      rw [← ek6]
      have h := h k6 ek6
      refine kV F C hl (kX3_copyFrom  hk4 hk6 h) (by omega) (ce_T hk4 _) rfl wv_X0_53 ⟨rfl, rfl, ⟨Nat.le_of_ble_eq_true rfl, Nat.le_of_ble_eq_true rfl⟩, ⟨Nat.le_of_ble_eq_true rfl, Nat.le_of_ble_eq_true rfl⟩, Nat.le_of_ble_eq_true rfl⟩ (rest := []) rfl dX0_takeAway_26 (fun S7 H locs h C => ?_)
      obtain ⟨x9, ex9⟩ : ∃ z : Int32, z = v2 + (1 : Int32) := ⟨_, rfl⟩
      have h := h x9 ex9
      refine lv_iinc (v := x9) (lv' := [(2, .int x9), (0, .ref (ad j0))]) F.x F.b dX0_takeAway_29 hl (k := 1) rfl (by rw [ex9]; rfl) (by decide) rfl (fun ls hl => ?_)
      refine lv_goto (tgt := 2) F.x F.b dX0_takeAway_32 (by decide) ?_
      exact ih S7 j0 x9 _ _ _ hj0 h C (lv_sub hl [1, 0] rfl)
set_option maxRecDepth 100000 in
set_option maxHeartbeats 4000000 in
theorem kX0_takeAway {l : Launch} {D : va_G} {ky : Nat → ClassId} {ad : Nat → Nat} {ex : Nat → Nat → Nat} {post : Mem → Prop} {S : Mem} {j0 : Nat} {v1 : Int32} (hj0 : j0 < 10) (h : mX0_takeAway post S j0 v1) : CMv l D ky ad ex yX0_takeAway cX0_takeAway 3 none rmX0_takeAway 0 0 [.ref (ad j0), .int v1] S post := by
  refine CMv.of (by decide) (Nat.le_of_ble_eq_true rfl) (fun p e s m args below meth c ls F hr C hl => ?_)
  have hl : lv_has ls 3 [(0, .ref (ad j0)), (1, .int v1)] := hl
  unfold mX0_takeAway at h
  refine lv_iload_n F.x F.b dX0_takeAway_0 rfl (lv_at hl 1 rfl) ?_
  refine lv_istore_n (lv' := [(2, .int v1), (0, .ref (ad j0)), (1, .int v1)]) F.x F.b dX0_takeAway_1 rfl hl (by decide) rfl (fun ls hl => ?_)
  obtain ⟨n1, h⟩ := h
  exact bX0_takeAway_2 F hr n1 S j0 v1 _ _ _ hj0 h C (lv_sub hl [1, 0] rfl)

def rmX0_startCrossing : Room := { frames := 2, cells := 0, slots := 0, locals := 41 }
def mX0_startCrossing_b55 (post : Int32 → Mem → Prop) (S : Mem) (j0 : Nat) (i1 : Nat) : Prop := mX3_toll (fun (r2 : Int32) (S1 : Mem) => ∀ S3 : Mem, S3 = wr S1 0 j0 9 ((S1 0 j0 9) + r2) → post r2 S3) S i1
def mX0_startCrossing (post : Int32 → Mem → Prop) (S : Mem) (j0 : Nat) (i1 : Nat) : Prop := ∀ S1 : Mem, S1 = wr S 2 i1 3 (1 : Int32) → mX3_kind (fun (r3 : Int32) (S2 : Mem) => ((¬ r3 = 0 → (mX0_startCrossing_b55 post S2 j0 i1)) ∧ (r3 = 0 → (((¬ (S2 2 i1 2) = (-1 : Int32) → (mX0_startCrossing_b55 post S2 j0 i1)) ∧ ((S2 2 i1 2) = (-1 : Int32) → (∀ x6 : Int32, x6 = ((12 : Int32) - ((3 : Int32) * (S2 2 i1 0))) → ∀ S7 : Mem, S7 = wr S2 2 i1 7 (if (S2 0 j0 6) < x6 then (S2 0 j0 6) else x6) → ∀ S8 : Mem, S8 = wr S7 0 j0 6 ((S7 0 j0 6) - (S7 2 i1 7)) → mX0_startCrossing_b55 post S8 j0 i1))))))) S1 i1
set_option maxRecDepth 100000 in
set_option maxHeartbeats 4000000 in
theorem bX0_startCrossing_55 {p : Program} {l : Launch} {e : Env} {s : State} {m : MethodId} {args : Array Value} {below : List Frame} {meth : Method} {c : Code} {D : va_G} {ky : Nat → ClassId} {ad : Nat → Nat} {ex : Nat → Nat → Nat} (F : Fx p s m args meth c D ky ad ex cX0_startCrossing 3 yX0_startCrossing.cls) (hr : meth.sig.returnType = (some .int)) {post : Int32 → Mem → Prop} : ∀ (S : Mem) (j0 : Nat) (i1 : Nat) (H : Heap) (locs : List Loc) (ls : Array Slot), j0 < 10 → i1 < 80 → mX0_startCrossing_b55 post S j0 i1 → Cx D ky ad s S H locs → lv_has ls 3 [(0, .ref (ad j0)), (1, .ref (ad (20 + i1)))] → W p l e rmX0_startCrossing s m args below meth c H locs 0 0 (MQ below (va_Qi post (AFT D ky ad) (AW ad s.heap.size)) args s 0 0 (AW ad s.heap.size)) (F0 m 55 ls []) := by
  intro S j0 i1 H locs ls hj0 hi1 h C hl
  unfold mX0_startCrossing_b55 at h
  refine lv_aload_n F.x F.b dX0_startCrossing_55 rfl (lv_at hl 1 rfl) ?_
  refine kI F C hl (kX3_toll  hi1 h) (by omega) (ce_T hi1 _) rfl wv_X0_94 ⟨rfl, rfl, ⟨Nat.le_of_ble_eq_true rfl, Nat.le_of_ble_eq_true rfl⟩, ⟨Nat.le_of_ble_eq_true rfl, Nat.le_of_ble_eq_true rfl⟩, Nat.le_of_ble_eq_true rfl⟩ (rest := []) rfl dX0_startCrossing_56 (fun r2 S1 H locs h C => ?_)
  refine lv_istore_n (lv' := [(2, .int r2), (0, .ref (ad j0)), (1, .ref (ad (20 + i1)))]) F.x F.b dX0_startCrossing_59 rfl hl (by decide) rfl (fun ls hl => ?_)
  refine lv_aload_n F.x F.b dX0_startCrossing_60 rfl (lv_at hl 1 rfl) ?_
  refine lv_dup F.x F.b dX0_startCrossing_61 rfl ?_
  refine getF F C hj0 9 (by decide) q1_104 (v := .int (S1 0 j0 9)) rfl dX0_startCrossing_62 ?_
  refine lv_iload_n F.x F.b dX0_startCrossing_65 rfl (lv_at hl 0 rfl) ?_
  refine lv_iadd F.x F.b dX0_startCrossing_66 ?_
  refine putF F C hj0 9 (by decide) q1_104 rfl (tyX0_ok 9 (by decide)) rfl rfl rfl dX0_startCrossing_67 (fun H locs C => ?_)
  obtain ⟨S3, eS3⟩ : ∃ z : Mem, z = wr S1 0 j0 9 ((S1 0 j0 9) + r2) := ⟨_, rfl⟩
  rw [← eS3] at C
  have h := h S3 eS3
  refine lv_iload_n F.x F.b dX0_startCrossing_70 rfl (lv_at hl 0 rfl) ?_
  exact retI F hr C h dX0_startCrossing_71
set_option maxRecDepth 100000 in
set_option maxHeartbeats 4000000 in
theorem kX0_startCrossing {l : Launch} {D : va_G} {ky : Nat → ClassId} {ad : Nat → Nat} {ex : Nat → Nat → Nat} {post : Int32 → Mem → Prop} {S : Mem} {j0 : Nat} {i1 : Nat} (hj0 : j0 < 10) (hi1 : i1 < 80) (h : mX0_startCrossing post S j0 i1) : CMi l D ky ad ex yX0_startCrossing cX0_startCrossing 3 (some .int) rmX0_startCrossing 0 0 [.ref (ad j0), .ref (ad (20 + i1))] S post := by
  refine CMi.of (by decide) (Nat.le_of_ble_eq_true rfl) (fun p e s m args below meth c ls F hr C hl => ?_)
  have hl : lv_has ls 3 [(0, .ref (ad j0)), (1, .ref (ad (20 + i1)))] := hl
  unfold mX0_startCrossing at h
  refine lv_aload_n F.x F.b dX0_startCrossing_0 rfl (lv_at hl 1 rfl) ?_
  refine lv_iconst (v := 1) F.x F.b dX0_startCrossing_1 (by decide) ?_
  refine putTN F C hi1 3 (by decide) q1_54 rfl (tyX3_ok 3 (by decide)) rfl rfl rfl dX0_startCrossing_2 (fun H locs C => ?_)
  obtain ⟨S1, eS1⟩ : ∃ z : Mem, z = wr S 2 i1 3 (1 : Int32) := ⟨_, rfl⟩
  rw [← eS1] at C
  have h := h S1 eS1
  refine lv_aload_n F.x F.b dX0_startCrossing_5 rfl (lv_at hl 1 rfl) ?_
  refine kI F C hl (kX3_kind  hi1 h) (by omega) (ce_T hi1 _) rfl wv_X0_85 ⟨rfl, rfl, ⟨Nat.le_of_ble_eq_true rfl, Nat.le_of_ble_eq_true rfl⟩, ⟨Nat.le_of_ble_eq_true rfl, Nat.le_of_ble_eq_true rfl⟩, Nat.le_of_ble_eq_true rfl⟩ (rest := []) rfl dX0_startCrossing_6 (fun r3 S2 H locs h C => ?_)
  refine lv_if_ne (tgt := 55) F.x F.b dX0_startCrossing_9 (by decide) (fun g4 => ?_) (fun g4 => ?_)
  · have h := h.1 g4
    exact bX0_startCrossing_55 F hr S2 j0 i1 _ _ _ hj0 hi1 h C (lv_sub hl [0, 1] rfl)
  · have h := h.2 g4
    refine lv_aload_n F.x F.b dX0_startCrossing_12 rfl (lv_at hl 1 rfl) ?_
    refine getTN F C hi1 2 (by decide) q1_51 (v := .int (S2 2 i1 2)) rfl dX0_startCrossing_13 ?_
    refine lv_iconst (v := -1) F.x F.b dX0_startCrossing_16 (by decide) ?_
    refine lv_icmp_ne (tgt := 55) F.x F.b dX0_startCrossing_17 (by decide) (fun g5 => ?_) (fun g5 => ?_)
    · have h := h.1 g5
      exact bX0_startCrossing_55 F hr S2 j0 i1 _ _ _ hj0 hi1 h C (lv_sub hl [0, 1] rfl)
    · have h := h.2 g5
      refine lv_bipush (v := 12) F.x F.b dX0_startCrossing_20 (by decide) ?_
      refine lv_iconst (v := 3) F.x F.b dX0_startCrossing_22 (by decide) ?_
      refine lv_aload_n F.x F.b dX0_startCrossing_23 rfl (lv_at hl 1 rfl) ?_
      refine getTN F C hi1 0 (by decide) q1_46 (v := .int (S2 2 i1 0)) rfl dX0_startCrossing_24 ?_
      refine lv_imul F.x F.b dX0_startCrossing_27 ?_
      refine lv_isub F.x F.b dX0_startCrossing_28 ?_
      refine lv_topi (fun x6 ex6 => ?_)
      have h := h x6 ex6
      refine lv_istore_n (lv' := [(2, .int x6), (0, .ref (ad j0)), (1, .ref (ad (20 + i1)))]) F.x F.b dX0_startCrossing_29 rfl hl (by decide) rfl (fun ls hl => ?_)
      refine lv_aload_n F.x F.b dX0_startCrossing_30 rfl (lv_at hl 2 rfl) ?_
      refine lv_iload_n F.x F.b dX0_startCrossing_31 rfl (lv_at hl 0 rfl) ?_
      refine lv_aload_n F.x F.b dX0_startCrossing_32 rfl (lv_at hl 1 rfl) ?_
      refine getF F C hj0 6 (by decide) q1_98 (v := .int (S2 0 j0 6)) rfl dX0_startCrossing_33 ?_
      refine mMin F hl q2_184 ⟨Nat.le_of_ble_eq_true rfl, Nat.le_of_ble_eq_true rfl, Nat.le_of_ble_eq_true rfl, Nat.le_of_ble_eq_true rfl⟩ dX0_startCrossing_36 ?_
      refine putTN F C hi1 7 (by decide) q1_65 rfl (tyX3_ok 7 (by decide)) rfl rfl rfl dX0_startCrossing_39 (fun H locs C => ?_)
      obtain ⟨S7, eS7⟩ : ∃ z : Mem, z = wr S2 2 i1 7 (if (S2 0 j0 6) < x6 then (S2 0 j0 6) else x6) := ⟨_, rfl⟩
      rw [← eS7] at C
      have h := h S7 eS7
      refine lv_aload_n F.x F.b dX0_startCrossing_42 rfl (lv_at hl 1 rfl) ?_
      refine lv_dup F.x F.b dX0_startCrossing_43 rfl ?_
      refine getF F C hj0 6 (by decide) q1_98 (v := .int (S7 0 j0 6)) rfl dX0_startCrossing_44 ?_
      refine lv_aload_n F.x F.b dX0_startCrossing_47 rfl (lv_at hl 2 rfl) ?_
      refine getTN F C hi1 7 (by decide) q1_65 (v := .int (S7 2 i1 7)) rfl dX0_startCrossing_48 ?_
      refine lv_isub F.x F.b dX0_startCrossing_51 ?_
      refine putF F C hj0 6 (by decide) q1_98 rfl (tyX0_ok 6 (by decide)) rfl rfl rfl dX0_startCrossing_52 (fun H locs C => ?_)
      obtain ⟨S8, eS8⟩ : ∃ z : Mem, z = wr S7 0 j0 6 ((S7 0 j0 6) - (S7 2 i1 7)) := ⟨_, rfl⟩
      rw [← eS8] at C
      have h := h S8 eS8
      exact bX0_startCrossing_55 F hr S8 j0 i1 _ _ _ hj0 hi1 h C (lv_sub hl [1, 2] rfl)

def rmX5_isStone : Room := { frames := 0, cells := 0, slots := 0, locals := 0 }
def mX5_isStone (post : Int32 → Mem → Prop) (S : Mem) (v0 : Int32) : Prop := ((v0 < 0 → (post (0 : Int32) S)) ∧ (¬ v0 < 0 → ((((10 : Int32) ≤ v0 → (post (0 : Int32) S)) ∧ (¬ (10 : Int32) ≤ v0 → (post (1 : Int32) S))))))
set_option maxRecDepth 100000 in
set_option maxHeartbeats 4000000 in
theorem kX5_isStone {l : Launch} {D : va_G} {ky : Nat → ClassId} {ad : Nat → Nat} {ex : Nat → Nat → Nat} {post : Int32 → Mem → Prop} {S : Mem} {v0 : Int32} (h : mX5_isStone post S v0) : CMi l D ky ad ex yX5_isStone cX5_isStone 1 (some .boolean) rmX5_isStone 0 0 [.int v0] S post := by
  refine CMi.of (by decide) (Nat.le_of_ble_eq_true rfl) (fun p e s m args below meth c ls F hr C hl => ?_)
  have hl : lv_has ls 1 [(0, .int v0)] := hl
  unfold mX5_isStone at h
  refine lv_iload_n F.x F.b dX5_isStone_0 rfl (lv_at hl 0 rfl) ?_
  refine lv_if_lt (tgt := 14) F.x F.b dX5_isStone_1 (by decide) (fun g1 => ?_) (fun g1 => ?_)
  · have h := h.1 g1
    refine lv_iconst (v := 0) F.x F.b dX5_isStone_14 (by decide) ?_
    exact retZ F hr C rfl h dX5_isStone_15
  · have h := h.2 g1
    refine lv_iload_n F.x F.b dX5_isStone_4 rfl (lv_at hl 0 rfl) ?_
    refine lv_bipush (v := 10) F.x F.b dX5_isStone_5 (by decide) ?_
    refine lv_icmp_ge (tgt := 14) F.x F.b dX5_isStone_7 (by decide) (fun g2 => ?_) (fun g2 => ?_)
    · have h := h.1 g2
      refine lv_iconst (v := 0) F.x F.b dX5_isStone_14 (by decide) ?_
      exact retZ F hr C rfl h dX5_isStone_15
    · have h := h.2 g2
      refine lv_iconst (v := 1) F.x F.b dX5_isStone_10 (by decide) ?_
      refine lv_goto (tgt := 15) F.x F.b dX5_isStone_11 (by decide) ?_
      exact retZ F hr C rfl h dX5_isStone_15

def rmX0_canGo : Room := { frames := 1, cells := 0, slots := 0, locals := 23 }
def mX0_canGo (post : Int32 → Mem → Prop) (S : Mem) (j0 : Nat) (v1 : Int32) (v2 : Int32) (v3 : Int32) (v4 : Int32) : Prop := mX5_isStone (fun (r2 : Int32) (S1 : Mem) => ((¬ r2 = 0 → (mX0_stateOf (fun (r5 : Int32) (S4 : Mem) => ((r5 = (1 : Int32) → (((¬ v1 = (1 : Int32) → (((¬ v1 = 0 → (post (0 : Int32) S4)) ∧ (v1 = 0 → (post (1 : Int32) S4))))) ∧ (v1 = (1 : Int32) → (mX5_isStone (fun (r10 : Int32) (S9 : Mem) => ((r10 = 0 → (post (1 : Int32) S9)) ∧ (¬ r10 = 0 → (vp_in v3 10 ∧ vp_in v2 10 ∧ (((S9 1 j0 v3.toNatClampNeg) < (S9 1 j0 v2.toNatClampNeg) → (post (0 : Int32) S9)) ∧ (¬ (S9 1 j0 v3.toNatClampNeg) < (S9 1 j0 v2.toNatClampNeg) → (post (1 : Int32) S9))))))) S4 v2))))) ∧ (¬ r5 = (1 : Int32) → (((¬ r5 = 0 → (post (0 : Int32) S4)) ∧ (r5 = 0 → (post (1 : Int32) S4))))))) S1 j0 v3 v4)) ∧ (r2 = 0 → (post (1 : Int32) S1)))) S v3
set_option maxRecDepth 100000 in
set_option maxHeartbeats 4000000 in
theorem kX0_canGo {l : Launch} {D : va_G} {ky : Nat → ClassId} {ad : Nat → Nat} {ex : Nat → Nat → Nat} {post : Int32 → Mem → Prop} {S : Mem} {j0 : Nat} {v1 : Int32} {v2 : Int32} {v3 : Int32} {v4 : Int32} (hj0 : j0 < 10) (h : mX0_canGo post S j0 v1 v2 v3 v4) : CMi l D ky ad ex yX0_canGo cX0_canGo 6 (some .boolean) rmX0_canGo 0 0 [.ref (ad j0), .int v1, .int v2, .int v3, .int v4] S post := by
  refine CMi.of (by decide) (Nat.le_of_ble_eq_true rfl) (fun p e s m args below meth c ls F hr C hl => ?_)
  have hl : lv_has ls 6 [(0, .ref (ad j0)), (1, .int v1), (2, .int v2), (3, .int v3), (4, .int v4)] := hl
  unfold mX0_canGo at h
  refine lv_iload_n F.x F.b dX0_canGo_0 rfl (lv_at hl 3 rfl) ?_
  refine kSNI F C hl (kX5_isStone  h) wn_X0_97 ⟨rfl, rfl, ⟨Nat.le_of_ble_eq_true rfl, Nat.le_of_ble_eq_true rfl⟩, ⟨Nat.le_of_ble_eq_true rfl, Nat.le_of_ble_eq_true rfl⟩, Nat.le_of_ble_eq_true rfl⟩ (rest := []) rfl dX0_canGo_1 (fun r2 S1 H locs h C => ?_)
  refine lv_if_ne (tgt := 9) F.x F.b dX0_canGo_4 (by decide) (fun g3 => ?_) (fun g3 => ?_)
  · have h := h.1 g3
    refine lv_aload_n F.x F.b dX0_canGo_9 rfl (lv_at hl 0 rfl) ?_
    refine lv_iload_n F.x F.b dX0_canGo_10 rfl (lv_at hl 3 rfl) ?_
    refine lv_iload F.x F.b dX0_canGo_11 (lv_at hl 4 rfl) ?_
    refine kI F C hl (kX0_stateOf  hj0 h) (by omega) (ce_F hj0 _) rfl wv_X0_101 ⟨rfl, rfl, ⟨Nat.le_of_ble_eq_true rfl, Nat.le_of_ble_eq_true rfl⟩, ⟨Nat.le_of_ble_eq_true rfl, Nat.le_of_ble_eq_true rfl⟩, Nat.le_of_ble_eq_true rfl⟩ (rest := []) rfl dX0_canGo_13 (fun r5 S4 H locs h C => ?_)
    refine lv_istore (lv' := [(5, .int r5), (0, .ref (ad j0)), (1, .int v1), (2, .int v2), (3, .int v3), (4, .int v4)]) F.x F.b dX0_canGo_16 hl (by decide) rfl (fun ls hl => ?_)
    refine lv_iload F.x F.b dX0_canGo_18 (lv_at hl 0 rfl) ?_
    refine lv_iconst (v := 1) F.x F.b dX0_canGo_20 (by decide) ?_
    refine lv_icmp_eq (tgt := 35) F.x F.b dX0_canGo_21 (by decide) (fun g6 => ?_) (fun g6 => ?_)
    · have h := h.1 g6
      refine lv_iload_n F.x F.b dX0_canGo_35 rfl (lv_at hl 2 rfl) ?_
      refine lv_iconst (v := 1) F.x F.b dX0_canGo_36 (by decide) ?_
      refine lv_icmp_ne (tgt := 68) F.x F.b dX0_canGo_37 (by decide) (fun g7 => ?_) (fun g7 => ?_)
      · have h := h.1 g7
        refine lv_iload_n F.x F.b dX0_canGo_68 rfl (lv_at hl 2 rfl) ?_
        refine lv_if_ne (tgt := 76) F.x F.b dX0_canGo_69 (by decide) (fun g8 => ?_) (fun g8 => ?_)
        · have h := h.1 g8
          refine lv_iconst (v := 0) F.x F.b dX0_canGo_76 (by decide) ?_
          exact retZ F hr C rfl h dX0_canGo_77
        · have h := h.2 g8
          refine lv_iconst (v := 1) F.x F.b dX0_canGo_72 (by decide) ?_
          refine lv_goto (tgt := 77) F.x F.b dX0_canGo_73 (by decide) ?_
          exact retZ F hr C rfl h dX0_canGo_77
      · have h := h.2 g7
        refine lv_iload_n F.x F.b dX0_canGo_40 rfl (lv_at hl 3 rfl) ?_
        refine kSNI F C hl (kX5_isStone  h) wn_X0_97 ⟨rfl, rfl, ⟨Nat.le_of_ble_eq_true rfl, Nat.le_of_ble_eq_true rfl⟩, ⟨Nat.le_of_ble_eq_true rfl, Nat.le_of_ble_eq_true rfl⟩, Nat.le_of_ble_eq_true rfl⟩ (rest := []) rfl dX0_canGo_41 (fun r10 S9 H locs h C => ?_)
        refine lv_if_eq (tgt := 62) F.x F.b dX0_canGo_44 (by decide) (fun g11 => ?_) (fun g11 => ?_)
        · have h := h.1 g11
          refine lv_iconst (v := 1) F.x F.b dX0_canGo_62 (by decide) ?_
          refine lv_goto (tgt := 67) F.x F.b dX0_canGo_63 (by decide) ?_
          exact retZ F hr C rfl h dX0_canGo_67
        · have h := h.2 g11
          refine lv_aload_n F.x F.b dX0_canGo_47 rfl (lv_at hl 1 rfl) ?_
          refine getF F C hj0 0 (by decide) q1_84 (v := .ref (ad (10 + j0))) rfl dX0_canGo_48 ?_
          refine lv_iload_n F.x F.b dX0_canGo_51 rfl (lv_at hl 4 rfl) ?_
          obtain ⟨g12, h⟩ := h
          refine aldI F C (o := 10 + j0) (cq := 1) (iq := j0) (by omega) (tg_H hj0) (ix_H hj0) (ce_H hj0 _) g12 dX0_canGo_52 ?_
          refine lv_aload_n F.x F.b dX0_canGo_53 rfl (lv_at hl 1 rfl) ?_
          refine getF F C hj0 0 (by decide) q1_84 (v := .ref (ad (10 + j0))) rfl dX0_canGo_54 ?_
          refine lv_iload_n F.x F.b dX0_canGo_57 rfl (lv_at hl 3 rfl) ?_
          obtain ⟨g13, h⟩ := h
          refine aldI F C (o := 10 + j0) (cq := 1) (iq := j0) (by omega) (tg_H hj0) (ix_H hj0) (ce_H hj0 _) g13 dX0_canGo_58 ?_
          refine lv_icmp_lt (tgt := 66) F.x F.b dX0_canGo_59 (by decide) (fun g14 => ?_) (fun g14 => ?_)
          · have h := h.1 g14
            refine lv_iconst (v := 0) F.x F.b dX0_canGo_66 (by decide) ?_
            exact retZ F hr C rfl h dX0_canGo_67
          · have h := h.2 g14
            refine lv_iconst (v := 1) F.x F.b dX0_canGo_62 (by decide) ?_
            refine lv_goto (tgt := 67) F.x F.b dX0_canGo_63 (by decide) ?_
            exact retZ F hr C rfl h dX0_canGo_67
    · have h := h.2 g6
      refine lv_iload F.x F.b dX0_canGo_24 (lv_at hl 0 rfl) ?_
      refine lv_if_ne (tgt := 33) F.x F.b dX0_canGo_26 (by decide) (fun g15 => ?_) (fun g15 => ?_)
      · have h := h.1 g15
        refine lv_iconst (v := 0) F.x F.b dX0_canGo_33 (by decide) ?_
        exact retZ F hr C rfl h dX0_canGo_34
      · have h := h.2 g15
        refine lv_iconst (v := 1) F.x F.b dX0_canGo_29 (by decide) ?_
        refine lv_goto (tgt := 34) F.x F.b dX0_canGo_30 (by decide) ?_
        exact retZ F hr C rfl h dX0_canGo_34
  · have h := h.2 g3
    refine lv_iconst (v := 1) F.x F.b dX0_canGo_7 (by decide) ?_
    exact retZ F hr C rfl h dX0_canGo_8

def rmX0_placeAfterStep : Room := { frames := 2, cells := 0, slots := 0, locals := 48 }
def mX0_placeAfterStep_b13 (post : Int32 → Mem → Prop) (S : Mem) (j0 : Nat) (v1 : Int32) (v2 : Int32) (v4 : Int32) (vt0 : Int32) : Prop := mX0_canGo (fun (r2 : Int32) (S1 : Mem) => ((r2 = 0 → (post v2 S1)) ∧ (¬ r2 = 0 → (post vt0 S1)))) S j0 v1 v2 vt0 v4
def mX0_placeAfterStep (post : Int32 → Mem → Prop) (S : Mem) (j0 : Nat) (v1 : Int32) (v2 : Int32) (v3 : Int32) (v4 : Int32) : Prop := ((v3 = 0 → (mX0_placeAfterStep_b13 post S j0 v1 v2 v4 (v2 - (1 : Int32)))) ∧ (¬ v3 = 0 → (mX0_placeAfterStep_b13 post S j0 v1 v2 v4 (v2 + (1 : Int32)))))
set_option maxRecDepth 100000 in
set_option maxHeartbeats 4000000 in
theorem bX0_placeAfterStep_13 {p : Program} {l : Launch} {e : Env} {s : State} {m : MethodId} {args : Array Value} {below : List Frame} {meth : Method} {c : Code} {D : va_G} {ky : Nat → ClassId} {ad : Nat → Nat} {ex : Nat → Nat → Nat} (F : Fx p s m args meth c D ky ad ex cX0_placeAfterStep 6 yX0_placeAfterStep.cls) (hr : meth.sig.returnType = (some .int)) {post : Int32 → Mem → Prop} : ∀ (S : Mem) (j0 : Nat) (v1 : Int32) (v2 : Int32) (v4 : Int32) (vt0 : Int32) (H : Heap) (locs : List Loc) (ls : Array Slot), j0 < 10 → mX0_placeAfterStep_b13 post S j0 v1 v2 v4 vt0 → Cx D ky ad s S H locs → lv_has ls 6 [(0, .ref (ad j0)), (1, .int v1), (2, .int v2), (4, .int v4)] → W p l e rmX0_placeAfterStep s m args below meth c H locs 0 0 (MQ below (va_Qi post (AFT D ky ad) (AW ad s.heap.size)) args s 0 0 (AW ad s.heap.size)) (F0 m 13 ls [.int vt0]) := by
  intro S j0 v1 v2 v4 vt0 H locs ls hj0 h C hl
  unfold mX0_placeAfterStep_b13 at h
  refine lv_istore (lv' := [(5, .int vt0), (0, .ref (ad j0)), (1, .int v1), (2, .int v2), (4, .int v4)]) F.x F.b dX0_placeAfterStep_13 hl (by decide) rfl (fun ls hl => ?_)
  refine lv_aload_n F.x F.b dX0_placeAfterStep_15 rfl (lv_at hl 1 rfl) ?_
  refine lv_iload_n F.x F.b dX0_placeAfterStep_16 rfl (lv_at hl 2 rfl) ?_
  refine lv_iload_n F.x F.b dX0_placeAfterStep_17 rfl (lv_at hl 3 rfl) ?_
  refine lv_iload F.x F.b dX0_placeAfterStep_18 (lv_at hl 0 rfl) ?_
  refine lv_iload F.x F.b dX0_placeAfterStep_20 (lv_at hl 4 rfl) ?_
  refine kI F C hl (kX0_canGo  hj0 h) (by omega) (ce_F hj0 _) rfl wv_X0_104 ⟨rfl, rfl, ⟨Nat.le_of_ble_eq_true rfl, Nat.le_of_ble_eq_true rfl⟩, ⟨Nat.le_of_ble_eq_true rfl, Nat.le_of_ble_eq_true rfl⟩, Nat.le_of_ble_eq_true rfl⟩ (rest := []) rfl dX0_placeAfterStep_22 (fun r2 S1 H locs h C => ?_)
  refine lv_if_eq (tgt := 33) F.x F.b dX0_placeAfterStep_25 (by decide) (fun g3 => ?_) (fun g3 => ?_)
  · have h := h.1 g3
    refine lv_iload_n F.x F.b dX0_placeAfterStep_33 rfl (lv_at hl 3 rfl) ?_
    exact retI F hr C h dX0_placeAfterStep_34
  · have h := h.2 g3
    refine lv_iload F.x F.b dX0_placeAfterStep_28 (lv_at hl 0 rfl) ?_
    refine lv_goto (tgt := 34) F.x F.b dX0_placeAfterStep_30 (by decide) ?_
    exact retI F hr C h dX0_placeAfterStep_34
set_option maxRecDepth 100000 in
set_option maxHeartbeats 4000000 in
theorem kX0_placeAfterStep {l : Launch} {D : va_G} {ky : Nat → ClassId} {ad : Nat → Nat} {ex : Nat → Nat → Nat} {post : Int32 → Mem → Prop} {S : Mem} {j0 : Nat} {v1 : Int32} {v2 : Int32} {v3 : Int32} {v4 : Int32} (hj0 : j0 < 10) (h : mX0_placeAfterStep post S j0 v1 v2 v3 v4) : CMi l D ky ad ex yX0_placeAfterStep cX0_placeAfterStep 6 (some .int) rmX0_placeAfterStep 0 0 [.ref (ad j0), .int v1, .int v2, .int v3, .int v4] S post := by
  refine CMi.of (by decide) (Nat.le_of_ble_eq_true rfl) (fun p e s m args below meth c ls F hr C hl => ?_)
  have hl : lv_has ls 6 [(0, .ref (ad j0)), (1, .int v1), (2, .int v2), (3, .int v3), (4, .int v4)] := hl
  unfold mX0_placeAfterStep at h
  refine lv_iload_n F.x F.b dX0_placeAfterStep_0 rfl (lv_at hl 3 rfl) ?_
  refine lv_if_eq (tgt := 10) F.x F.b dX0_placeAfterStep_1 (by decide) (fun g1 => ?_) (fun g1 => ?_)
  · have h := h.1 g1
    refine lv_iload_n F.x F.b dX0_placeAfterStep_10 rfl (lv_at hl 2 rfl) ?_
    refine lv_iconst (v := 1) F.x F.b dX0_placeAfterStep_11 (by decide) ?_
    refine lv_isub F.x F.b dX0_placeAfterStep_12 ?_
    exact bX0_placeAfterStep_13 F hr S j0 v1 v2 v4 (v2 - (1 : Int32)) _ _ _ hj0 h C (lv_sub hl [0, 1, 2, 4] rfl)
  · have h := h.2 g1
    refine lv_iload_n F.x F.b dX0_placeAfterStep_4 rfl (lv_at hl 2 rfl) ?_
    refine lv_iconst (v := 1) F.x F.b dX0_placeAfterStep_5 (by decide) ?_
    refine lv_iadd F.x F.b dX0_placeAfterStep_6 ?_
    refine lv_goto (tgt := 13) F.x F.b dX0_placeAfterStep_7 (by decide) ?_
    exact bX0_placeAfterStep_13 F hr S j0 v1 v2 v4 (v2 + (1 : Int32)) _ _ _ hj0 h C (lv_sub hl [0, 1, 2, 4] rfl)

def rmX0_placeAfterGoingBack : Room := { frames := 1, cells := 0, slots := 0, locals := 23 }
def mX0_placeAfterGoingBack_b6 (post : Int32 → Mem → Prop) : Nat → Mem → Nat → Int32 → Int32 → Int32 → Int32 → Prop
  | 0, _, _, _, _, _, _ => False
  | n + 1, S, j0, v2, v3, v4, v5 => (((10 : Int32) ≤ v5 → (post v4 S)) ∧ (¬ (10 : Int32) ≤ v5 → (mX5_isStone (fun (r3 : Int32) (S2 : Mem) => ((r3 = 0 → (post v4 S2)) ∧ (¬ r3 = 0 → (mX0_stateOf (fun (r6 : Int32) (S5 : Mem) => ((r6 = (2 : Int32) → (((v2 = 0 → (∀ x9 : Int32, x9 = (v4 + (1 : Int32)) → ∀ x10 : Int32, x10 = v5 + (1 : Int32) → mX0_placeAfterGoingBack_b6 post n S5 j0 v2 v3 x9 x10)) ∧ (¬ v2 = 0 → (∀ x11 : Int32, x11 = (v4 - (1 : Int32)) → ∀ x12 : Int32, x12 = v5 + (1 : Int32) → mX0_placeAfterGoingBack_b6 post n S5 j0 v2 v3 x11 x12))))) ∧ (¬ r6 = (2 : Int32) → (post v4 S5)))) S2 j0 v4 v3)))) S v4)))
def mX0_placeAfterGoingBack (post : Int32 → Mem → Prop) (S : Mem) (j0 : Nat) (v1 : Int32) (v2 : Int32) (v3 : Int32) : Prop := ∃ fu : Nat, mX0_placeAfterGoingBack_b6 post fu S j0 v2 v3 v1 (0 : Int32)
set_option maxRecDepth 100000 in
set_option maxHeartbeats 4000000 in
theorem bX0_placeAfterGoingBack_6 {p : Program} {l : Launch} {e : Env} {s : State} {m : MethodId} {args : Array Value} {below : List Frame} {meth : Method} {c : Code} {D : va_G} {ky : Nat → ClassId} {ad : Nat → Nat} {ex : Nat → Nat → Nat} (F : Fx p s m args meth c D ky ad ex cX0_placeAfterGoingBack 6 yX0_placeAfterGoingBack.cls) (hr : meth.sig.returnType = (some .int)) {post : Int32 → Mem → Prop} : ∀ (n : Nat) (S : Mem) (j0 : Nat) (v2 : Int32) (v3 : Int32) (v4 : Int32) (v5 : Int32) (H : Heap) (locs : List Loc) (ls : Array Slot), j0 < 10 → mX0_placeAfterGoingBack_b6 post n S j0 v2 v3 v4 v5 → Cx D ky ad s S H locs → lv_has ls 6 [(0, .ref (ad j0)), (2, .int v2), (3, .int v3), (4, .int v4), (5, .int v5)] → W p l e rmX0_placeAfterGoingBack s m args below meth c H locs 0 0 (MQ below (va_Qi post (AFT D ky ad) (AW ad s.heap.size)) args s 0 0 (AW ad s.heap.size)) (F0 m 6 ls []) := by
  intro n
  induction n with
  | zero =>
    intro S j0 v2 v3 v4 v5 H locs ls hj0 h
    exact False.elim h
  | succ n ih =>
    intro S j0 v2 v3 v4 v5 H locs ls hj0 h C hl
    refine lv_iload F.x F.b dX0_placeAfterGoingBack_6 (lv_at hl 4 rfl) ?_
    refine lv_bipush (v := 10) F.x F.b dX0_placeAfterGoingBack_8 (by decide) ?_
    refine lv_icmp_ge (tgt := 58) F.x F.b dX0_placeAfterGoingBack_10 (by decide) (fun g1 => ?_) (fun g1 => ?_)
    · have h := h.1 g1
      refine lv_iload F.x F.b dX0_placeAfterGoingBack_58 (lv_at hl 3 rfl) ?_
      exact retI F hr C h dX0_placeAfterGoingBack_60
    · have h := h.2 g1
      refine lv_iload F.x F.b dX0_placeAfterGoingBack_13 (lv_at hl 3 rfl) ?_
      refine kSNI F C hl (kX5_isStone  h) wn_X0_97 ⟨rfl, rfl, ⟨Nat.le_of_ble_eq_true rfl, Nat.le_of_ble_eq_true rfl⟩, ⟨Nat.le_of_ble_eq_true rfl, Nat.le_of_ble_eq_true rfl⟩, Nat.le_of_ble_eq_true rfl⟩ (rest := []) rfl dX0_placeAfterGoingBack_15 (fun r3 S2 H locs h C => ?_)
      refine lv_if_eq (tgt := 32) F.x F.b dX0_placeAfterGoingBack_18 (by decide) (fun g4 => ?_) (fun g4 => ?_)
      · have h := h.1 g4
        refine lv_iload F.x F.b dX0_placeAfterGoingBack_32 (lv_at hl 3 rfl) ?_
        exact retI F hr C h dX0_placeAfterGoingBack_34
      · have h := h.2 g4
        refine lv_aload_n F.x F.b dX0_placeAfterGoingBack_21 rfl (lv_at hl 0 rfl) ?_
        refine lv_iload F.x F.b dX0_placeAfterGoingBack_22 (lv_at hl 3 rfl) ?_
        refine lv_iload_n F.x F.b dX0_placeAfterGoingBack_24 rfl (lv_at hl 2 rfl) ?_
        refine kI F C hl (kX0_stateOf  hj0 h) (by omega) (ce_F hj0 _) rfl wv_X0_101 ⟨rfl, rfl, ⟨Nat.le_of_ble_eq_true rfl, Nat.le_of_ble_eq_true rfl⟩, ⟨Nat.le_of_ble_eq_true rfl, Nat.le_of_ble_eq_true rfl⟩, Nat.le_of_ble_eq_true rfl⟩ (rest := []) rfl dX0_placeAfterGoingBack_25 (fun r6 S5 H locs h C => ?_)
        refine lv_iconst (v := 2) F.x F.b dX0_placeAfterGoingBack_28 (by decide) ?_
        refine lv_icmp_eq (tgt := 35) F.x F.b dX0_placeAfterGoingBack_29 (by decide) (fun g7 => ?_) (fun g7 => ?_)
        · have h := h.1 g7
          refine lv_iload_n F.x F.b dX0_placeAfterGoingBack_35 rfl (lv_at hl 1 rfl) ?_
          refine lv_if_eq (tgt := 46) F.x F.b dX0_placeAfterGoingBack_36 (by decide) (fun g8 => ?_) (fun g8 => ?_)
          · have h := h.1 g8
            refine lv_iload F.x F.b dX0_placeAfterGoingBack_46 (lv_at hl 3 rfl) ?_
            refine lv_iconst (v := 1) F.x F.b dX0_placeAfterGoingBack_48 (by decide) ?_
            refine lv_iadd F.x F.b dX0_placeAfterGoingBack_49 ?_
            refine lv_topi (fun x9 ex9 => ?_)
            have h := h x9 ex9
            refine lv_istore (lv' := [(4, .int x9), (0, .ref (ad j0)), (2, .int v2), (3, .int v3), (5, .int v5)]) F.x F.b dX0_placeAfterGoingBack_50 hl (by decide) rfl (fun ls hl => ?_)
            obtain ⟨x10, ex10⟩ : ∃ z : Int32, z = v5 + (1 : Int32) := ⟨_, rfl⟩
            have h := h x10 ex10
            refine lv_iinc (v := x10) (lv' := [(5, .int x10), (4, .int x9), (0, .ref (ad j0)), (2, .int v2), (3, .int v3)]) F.x F.b dX0_placeAfterGoingBack_52 hl (k := 4) rfl (by rw [ex10]; rfl) (by decide) rfl (fun ls hl => ?_)
            refine lv_goto (tgt := 6) F.x F.b dX0_placeAfterGoingBack_55 (by decide) ?_
            exact ih S5 j0 v2 v3 x9 x10 _ _ _ hj0 h C (lv_sub hl [2, 3, 4, 1, 0] rfl)
          · have h := h.2 g8
            refine lv_iload F.x F.b dX0_placeAfterGoingBack_39 (lv_at hl 3 rfl) ?_
            refine lv_iconst (v := 1) F.x F.b dX0_placeAfterGoingBack_41 (by decide) ?_
            refine lv_isub F.x F.b dX0_placeAfterGoingBack_42 ?_
            refine lv_goto (tgt := 50) F.x F.b dX0_placeAfterGoingBack_43 (by decide) ?_
            refine lv_topi (fun x11 ex11 => ?_)
            have h := h x11 ex11
            refine lv_istore (lv' := [(4, .int x11), (0, .ref (ad j0)), (2, .int v2), (3, .int v3), (5, .int v5)]) F.x F.b dX0_placeAfterGoingBack_50 hl (by decide) rfl (fun ls hl => ?_)
            obtain ⟨x12, ex12⟩ : ∃ z : Int32, z = v5 + (1 : Int32) := ⟨_, rfl⟩
            have h := h x12 ex12
            refine lv_iinc (v := x12) (lv' := [(5, .int x12), (4, .int x11), (0, .ref (ad j0)), (2, .int v2), (3, .int v3)]) F.x F.b dX0_placeAfterGoingBack_52 hl (k := 4) rfl (by rw [ex12]; rfl) (by decide) rfl (fun ls hl => ?_)
            refine lv_goto (tgt := 6) F.x F.b dX0_placeAfterGoingBack_55 (by decide) ?_
            exact ih S5 j0 v2 v3 x11 x12 _ _ _ hj0 h C (lv_sub hl [2, 3, 4, 1, 0] rfl)
        · have h := h.2 g7
          refine lv_iload F.x F.b dX0_placeAfterGoingBack_32 (lv_at hl 3 rfl) ?_
          exact retI F hr C h dX0_placeAfterGoingBack_34
set_option maxRecDepth 100000 in
set_option maxHeartbeats 4000000 in
theorem kX0_placeAfterGoingBack {l : Launch} {D : va_G} {ky : Nat → ClassId} {ad : Nat → Nat} {ex : Nat → Nat → Nat} {post : Int32 → Mem → Prop} {S : Mem} {j0 : Nat} {v1 : Int32} {v2 : Int32} {v3 : Int32} (hj0 : j0 < 10) (h : mX0_placeAfterGoingBack post S j0 v1 v2 v3) : CMi l D ky ad ex yX0_placeAfterGoingBack cX0_placeAfterGoingBack 6 (some .int) rmX0_placeAfterGoingBack 0 0 [.ref (ad j0), .int v1, .int v2, .int v3] S post := by
  refine CMi.of (by decide) (Nat.le_of_ble_eq_true rfl) (fun p e s m args below meth c ls F hr C hl => ?_)
  have hl : lv_has ls 6 [(0, .ref (ad j0)), (1, .int v1), (2, .int v2), (3, .int v3)] := hl
  unfold mX0_placeAfterGoingBack at h
  refine lv_iload_n F.x F.b dX0_placeAfterGoingBack_0 rfl (lv_at hl 1 rfl) ?_
  refine lv_istore (lv' := [(4, .int v1), (0, .ref (ad j0)), (1, .int v1), (2, .int v2), (3, .int v3)]) F.x F.b dX0_placeAfterGoingBack_1 hl (by decide) rfl (fun ls hl => ?_)
  refine lv_iconst (v := 0) F.x F.b dX0_placeAfterGoingBack_3 (by decide) ?_
  refine lv_istore (lv' := [(5, .int (0 : Int32)), (4, .int v1), (0, .ref (ad j0)), (1, .int v1), (2, .int v2), (3, .int v3)]) F.x F.b dX0_placeAfterGoingBack_4 hl (by decide) rfl (fun ls hl => ?_)
  obtain ⟨n1, h⟩ := h
  exact bX0_placeAfterGoingBack_6 F hr n1 S j0 v2 v3 v1 (0 : Int32) _ _ _ hj0 h C (lv_sub hl [2, 4, 5, 1, 0] rfl)

def rmX0_wetStepsOf : Room := { frames := 2, cells := 0, slots := 0, locals := 48 }
def mX0_wetStepsOf_b4 (post : Int32 → Mem → Prop) : Nat → Mem → Nat → Int32 → Int32 → Int32 → Prop
  | 0, _, _, _, _, _ => False
  | n + 1, S, j0, v1, v2, v3 => (((10 : Int32) ≤ v3 → (post v2 S)) ∧ (¬ (10 : Int32) ≤ v3 → (mX0_canGo (fun (r3 : Int32) (S2 : Mem) => ((¬ r3 = 0 → (mX0_stateOf (fun (r6 : Int32) (S5 : Mem) => ((¬ r6 = (1 : Int32) → (∀ x8 : Int32, x8 = v3 + (1 : Int32) → mX0_wetStepsOf_b4 post n S5 j0 v1 v2 x8)) ∧ (r6 = (1 : Int32) → (∀ x9 : Int32, x9 = v2 + (1 : Int32) → ∀ x10 : Int32, x10 = v3 + (1 : Int32) → mX0_wetStepsOf_b4 post n S5 j0 v1 x9 x10)))) S2 j0 v3 (S2 0 j0 4))) ∧ (r3 = 0 → (post (-1 : Int32) S2)))) S j0 v1 ((v3 - (1 : Int32))) v3 (S 0 j0 4))))
def mX0_wetStepsOf (post : Int32 → Mem → Prop) (S : Mem) (j0 : Nat) (v1 : Int32) : Prop := ∃ fu : Nat, mX0_wetStepsOf_b4 post fu S j0 v1 (0 : Int32) (0 : Int32)
set_option maxRecDepth 100000 in
set_option maxHeartbeats 4000000 in
theorem bX0_wetStepsOf_4 {p : Program} {l : Launch} {e : Env} {s : State} {m : MethodId} {args : Array Value} {below : List Frame} {meth : Method} {c : Code} {D : va_G} {ky : Nat → ClassId} {ad : Nat → Nat} {ex : Nat → Nat → Nat} (F : Fx p s m args meth c D ky ad ex cX0_wetStepsOf 4 yX0_wetStepsOf.cls) (hr : meth.sig.returnType = (some .int)) {post : Int32 → Mem → Prop} : ∀ (n : Nat) (S : Mem) (j0 : Nat) (v1 : Int32) (v2 : Int32) (v3 : Int32) (H : Heap) (locs : List Loc) (ls : Array Slot), j0 < 10 → mX0_wetStepsOf_b4 post n S j0 v1 v2 v3 → Cx D ky ad s S H locs → lv_has ls 4 [(0, .ref (ad j0)), (1, .int v1), (2, .int v2), (3, .int v3)] → W p l e rmX0_wetStepsOf s m args below meth c H locs 0 0 (MQ below (va_Qi post (AFT D ky ad) (AW ad s.heap.size)) args s 0 0 (AW ad s.heap.size)) (F0 m 4 ls []) := by
  intro n
  induction n with
  | zero =>
    intro S j0 v1 v2 v3 H locs ls hj0 h
    exact False.elim h
  | succ n ih =>
    intro S j0 v1 v2 v3 H locs ls hj0 h C hl
    refine lv_iload_n F.x F.b dX0_wetStepsOf_4 rfl (lv_at hl 3 rfl) ?_
    refine lv_bipush (v := 10) F.x F.b dX0_wetStepsOf_5 (by decide) ?_
    refine lv_icmp_ge (tgt := 50) F.x F.b dX0_wetStepsOf_7 (by decide) (fun g1 => ?_) (fun g1 => ?_)
    · have h := h.1 g1
      refine lv_iload_n F.x F.b dX0_wetStepsOf_50 rfl (lv_at hl 2 rfl) ?_
      exact retI F hr C h dX0_wetStepsOf_51
    · have h := h.2 g1
      refine lv_aload_n F.x F.b dX0_wetStepsOf_10 rfl (lv_at hl 0 rfl) ?_
      refine lv_iload_n F.x F.b dX0_wetStepsOf_11 rfl (lv_at hl 1 rfl) ?_
      refine lv_iload_n F.x F.b dX0_wetStepsOf_12 rfl (lv_at hl 3 rfl) ?_
      refine lv_iconst (v := 1) F.x F.b dX0_wetStepsOf_13 (by decide) ?_
      refine lv_isub F.x F.b dX0_wetStepsOf_14 ?_
      refine lv_iload_n F.x F.b dX0_wetStepsOf_15 rfl (lv_at hl 3 rfl) ?_
      refine lv_aload_n F.x F.b dX0_wetStepsOf_16 rfl (lv_at hl 0 rfl) ?_
      refine getF F C hj0 4 (by decide) q1_94 (v := .int (S 0 j0 4)) rfl dX0_wetStepsOf_17 ?_
      refine kI F C hl (kX0_canGo  hj0 h) (by omega) (ce_F hj0 _) rfl wv_X0_104 ⟨rfl, rfl, ⟨Nat.le_of_ble_eq_true rfl, Nat.le_of_ble_eq_true rfl⟩, ⟨Nat.le_of_ble_eq_true rfl, Nat.le_of_ble_eq_true rfl⟩, Nat.le_of_ble_eq_true rfl⟩ (rest := []) rfl dX0_wetStepsOf_20 (fun r3 S2 H locs h C => ?_)
      refine lv_if_ne (tgt := 28) F.x F.b dX0_wetStepsOf_23 (by decide) (fun g4 => ?_) (fun g4 => ?_)
      · have h := h.1 g4
        refine lv_aload_n F.x F.b dX0_wetStepsOf_28 rfl (lv_at hl 0 rfl) ?_
        refine lv_iload_n F.x F.b dX0_wetStepsOf_29 rfl (lv_at hl 3 rfl) ?_
        refine lv_aload_n F.x F.b dX0_wetStepsOf_30 rfl (lv_at hl 0 rfl) ?_
        refine getF F C hj0 4 (by decide) q1_94 (v := .int (S2 0 j0 4)) rfl dX0_wetStepsOf_31 ?_
        refine kI F C hl (kX0_stateOf  hj0 h) (by omega) (ce_F hj0 _) rfl wv_X0_101 ⟨rfl, rfl, ⟨Nat.le_of_ble_eq_true rfl, Nat.le_of_ble_eq_true rfl⟩, ⟨Nat.le_of_ble_eq_true rfl, Nat.le_of_ble_eq_true rfl⟩, Nat.le_of_ble_eq_true rfl⟩ (rest := []) rfl dX0_wetStepsOf_34 (fun r6 S5 H locs h C => ?_)
        refine lv_iconst (v := 1) F.x F.b dX0_wetStepsOf_37 (by decide) ?_
        refine lv_icmp_ne (tgt := 44) F.x F.b dX0_wetStepsOf_38 (by decide) (fun g7 => ?_) (fun g7 => ?_)
        · have h := h.1 g7
          obtain ⟨x8, ex8⟩ : ∃ z : Int32, z = v3 + (1 : Int32) := ⟨_, rfl⟩
          have h := h x8 ex8
          refine lv_iinc (v := x8) (lv' := [(3, .int x8), (0, .ref (ad j0)), (1, .int v1), (2, .int v2)]) F.x F.b dX0_wetStepsOf_44 hl (k := 3) rfl (by rw [ex8]; rfl) (by decide) rfl (fun ls hl => ?_)
          refine lv_goto (tgt := 4) F.x F.b dX0_wetStepsOf_47 (by decide) ?_
          exact ih S5 j0 v1 v2 x8 _ _ _ hj0 h C (lv_sub hl [1, 2, 3, 0] rfl)
        · have h := h.2 g7
          obtain ⟨x9, ex9⟩ : ∃ z : Int32, z = v2 + (1 : Int32) := ⟨_, rfl⟩
          have h := h x9 ex9
          refine lv_iinc (v := x9) (lv' := [(2, .int x9), (0, .ref (ad j0)), (1, .int v1), (3, .int v3)]) F.x F.b dX0_wetStepsOf_41 hl (k := 2) rfl (by rw [ex9]; rfl) (by decide) rfl (fun ls hl => ?_)
          obtain ⟨x10, ex10⟩ : ∃ z : Int32, z = v3 + (1 : Int32) := ⟨_, rfl⟩
          have h := h x10 ex10
          refine lv_iinc (v := x10) (lv' := [(3, .int x10), (2, .int x9), (0, .ref (ad j0)), (1, .int v1)]) F.x F.b dX0_wetStepsOf_44 hl (k := 3) rfl (by rw [ex10]; rfl) (by decide) rfl (fun ls hl => ?_)
          refine lv_goto (tgt := 4) F.x F.b dX0_wetStepsOf_47 (by decide) ?_
          exact ih S5 j0 v1 x9 x10 _ _ _ hj0 h C (lv_sub hl [2, 3, 1, 0] rfl)
      · have h := h.2 g4
        refine lv_iconst (v := -1) F.x F.b dX0_wetStepsOf_26 (by decide) ?_
        exact retI F hr C h dX0_wetStepsOf_27
set_option maxRecDepth 100000 in
set_option maxHeartbeats 4000000 in
theorem kX0_wetStepsOf {l : Launch} {D : va_G} {ky : Nat → ClassId} {ad : Nat → Nat} {ex : Nat → Nat → Nat} {post : Int32 → Mem → Prop} {S : Mem} {j0 : Nat} {v1 : Int32} (hj0 : j0 < 10) (h : mX0_wetStepsOf post S j0 v1) : CMi l D ky ad ex yX0_wetStepsOf cX0_wetStepsOf 4 (some .int) rmX0_wetStepsOf 0 0 [.ref (ad j0), .int v1] S post := by
  refine CMi.of (by decide) (Nat.le_of_ble_eq_true rfl) (fun p e s m args below meth c ls F hr C hl => ?_)
  have hl : lv_has ls 4 [(0, .ref (ad j0)), (1, .int v1)] := hl
  unfold mX0_wetStepsOf at h
  refine lv_iconst (v := 0) F.x F.b dX0_wetStepsOf_0 (by decide) ?_
  refine lv_istore_n (lv' := [(2, .int (0 : Int32)), (0, .ref (ad j0)), (1, .int v1)]) F.x F.b dX0_wetStepsOf_1 rfl hl (by decide) rfl (fun ls hl => ?_)
  refine lv_iconst (v := 0) F.x F.b dX0_wetStepsOf_2 (by decide) ?_
  refine lv_istore_n (lv' := [(3, .int (0 : Int32)), (2, .int (0 : Int32)), (0, .ref (ad j0)), (1, .int v1)]) F.x F.b dX0_wetStepsOf_3 rfl hl (by decide) rfl (fun ls hl => ?_)
  obtain ⟨n1, h⟩ := h
  exact bX0_wetStepsOf_4 F hr n1 S j0 v1 (0 : Int32) (0 : Int32) _ _ _ hj0 h C (lv_sub hl [2, 3, 1, 0] rfl)

def rmX0_hoursToCross : Room := { frames := 3, cells := 0, slots := 0, locals := 73 }
def mX0_hoursToCross_b79 (post : Int32 → Mem → Prop) (K35 : Mem → Nat → Nat → Int32 → Int32 → Int32 → Int32 → Prop) (S : Mem) (j0 : Nat) (i1 : Nat) (v2 : Int32) (v4 : Int32) (v5 : Int32) (v6 : Int32) : Prop := mX0_placeAfterStep (fun (r2 : Int32) (S1 : Mem) => (((S1 2 i1 4) = 0 → (((¬ r2 = (-1 : Int32) → (∀ x5 : Int32, x5 = v5 + (1 : Int32) → K35 S1 j0 i1 v2 r2 v4 x5)) ∧ (r2 = (-1 : Int32) → (post v5 S1))))) ∧ (¬ (S1 2 i1 4) = 0 → (((¬ r2 = (10 : Int32) → (∀ x7 : Int32, x7 = v5 + (1 : Int32) → K35 S1 j0 i1 v2 r2 v4 x7)) ∧ (r2 = (10 : Int32) → (post v5 S1))))))) S j0 v2 v6 (S 2 i1 4) v4
def mX0_hoursToCross_b35 (post : Int32 → Mem → Prop) : Nat → Mem → Nat → Nat → Int32 → Int32 → Int32 → Int32 → Prop
  | 0, _, _, _, _, _, _, _ => False
  | n + 1, S, j0, i1, v2, v3, v4, v5 => (((60 : Int32) < v5 → (post (-1 : Int32) S)) ∧ (¬ (60 : Int32) < v5 → (mX0_levelAfterHour (fun (r3 : Int32) (S2 : Mem) => mX0_placeAfterGoingBack (fun (r5 : Int32) (S4 : Mem) => ((r5 = v3 → (mX0_hoursToCross_b79 post (fun S j0 i1 v2 v3 v4 v5 => mX0_hoursToCross_b35 post n S j0 i1 v2 v3 v4 v5) S4 j0 i1 v2 r3 v5 r5)) ∧ (¬ r5 = v3 → (mX5_isStone (fun (r8 : Int32) (S7 : Mem) => ((¬ r8 = 0 → (mX0_hoursToCross_b79 post (fun S j0 i1 v2 v3 v4 v5 => mX0_hoursToCross_b35 post n S j0 i1 v2 v3 v4 v5) S7 j0 i1 v2 r3 v5 r5)) ∧ (r8 = 0 → (post (-1 : Int32) S7)))) S4 r5)))) S2 j0 v3 (S2 2 i1 4) r3) S j0 v4)))
def mX0_hoursToCross (post : Int32 → Mem → Prop) (S : Mem) (j0 : Nat) (i1 : Nat) : Prop := (((S 2 i1 3) = 0 → (post (-1 : Int32) S)) ∧ (¬ (S 2 i1 3) = 0 → ((((S 2 i1 5) = 0 → (mX3_kind (fun (r4 : Int32) (S3 : Mem) => ∀ x5 : Int32, x5 = (S3 2 i1 2) → ∀ x6 : Int32, x6 = (S3 0 j0 4) → ∃ fu : Nat, mX0_hoursToCross_b35 post fu S3 j0 i1 r4 x5 x6 (1 : Int32)) S i1)) ∧ (¬ (S 2 i1 5) = 0 → (post (-1 : Int32) S))))))
set_option maxRecDepth 100000 in
set_option maxHeartbeats 4000000 in
theorem bX0_hoursToCross_79 {p : Program} {l : Launch} {e : Env} {s : State} {m : MethodId} {args : Array Value} {below : List Frame} {meth : Method} {c : Code} {D : va_G} {ky : Nat → ClassId} {ad : Nat → Nat} {ex : Nat → Nat → Nat} (F : Fx p s m args meth c D ky ad ex cX0_hoursToCross 7 yX0_hoursToCross.cls) (hr : meth.sig.returnType = (some .int)) {post : Int32 → Mem → Prop} {K35 : Mem → Nat → Nat → Int32 → Int32 → Int32 → Int32 → Prop} (hK35 : ∀ (S : Mem) (j0 : Nat) (i1 : Nat) (v2 : Int32) (v3 : Int32) (v4 : Int32) (v5 : Int32) (H : Heap) (locs : List Loc) (ls : Array Slot), j0 < 10 → i1 < 80 → K35 S j0 i1 v2 v3 v4 v5 → Cx D ky ad s S H locs → lv_has ls 7 [(0, .ref (ad j0)), (1, .ref (ad (20 + i1))), (2, .int v2), (3, .int v3), (4, .int v4), (5, .int v5)] → W p l e rmX0_hoursToCross s m args below meth c H locs 0 0 (MQ below (va_Qi post (AFT D ky ad) (AW ad s.heap.size)) args s 0 0 (AW ad s.heap.size)) (F0 m 35 ls [])) : ∀ (S : Mem) (j0 : Nat) (i1 : Nat) (v2 : Int32) (v4 : Int32) (v5 : Int32) (v6 : Int32) (H : Heap) (locs : List Loc) (ls : Array Slot), j0 < 10 → i1 < 80 → mX0_hoursToCross_b79 post K35 S j0 i1 v2 v4 v5 v6 → Cx D ky ad s S H locs → lv_has ls 7 [(0, .ref (ad j0)), (1, .ref (ad (20 + i1))), (2, .int v2), (4, .int v4), (5, .int v5), (6, .int v6)] → W p l e rmX0_hoursToCross s m args below meth c H locs 0 0 (MQ below (va_Qi post (AFT D ky ad) (AW ad s.heap.size)) args s 0 0 (AW ad s.heap.size)) (F0 m 79 ls []) := by
  intro S j0 i1 v2 v4 v5 v6 H locs ls hj0 hi1 h C hl
  unfold mX0_hoursToCross_b79 at h
  refine lv_aload_n F.x F.b dX0_hoursToCross_79 rfl (lv_at hl 0 rfl) ?_
  refine lv_iload_n F.x F.b dX0_hoursToCross_80 rfl (lv_at hl 2 rfl) ?_
  refine lv_iload F.x F.b dX0_hoursToCross_81 (lv_at hl 5 rfl) ?_
  refine lv_aload_n F.x F.b dX0_hoursToCross_83 rfl (lv_at hl 1 rfl) ?_
  refine getTN F C hi1 4 (by decide) q1_57 (v := .int (S 2 i1 4)) rfl dX0_hoursToCross_84 ?_
  refine lv_iload F.x F.b dX0_hoursToCross_87 (lv_at hl 3 rfl) ?_
  refine kI F C hl (kX0_placeAfterStep  hj0 h) (by omega) (ce_F hj0 _) rfl wv_X0_121 ⟨rfl, rfl, ⟨Nat.le_of_ble_eq_true rfl, Nat.le_of_ble_eq_true rfl⟩, ⟨Nat.le_of_ble_eq_true rfl, Nat.le_of_ble_eq_true rfl⟩, Nat.le_of_ble_eq_true rfl⟩ (rest := []) rfl dX0_hoursToCross_89 (fun r2 S1 H locs h C => ?_)
  refine lv_istore_n (lv' := [(3, .int r2), (0, .ref (ad j0)), (1, .ref (ad (20 + i1))), (2, .int v2), (4, .int v4), (5, .int v5), (6, .int v6)]) F.x F.b dX0_hoursToCross_92 rfl hl (by decide) rfl (fun ls hl => ?_)
  refine lv_iload_n F.x F.b dX0_hoursToCross_93 rfl (lv_at hl 0 rfl) ?_
  refine lv_aload_n F.x F.b dX0_hoursToCross_94 rfl (lv_at hl 2 rfl) ?_
  refine getTN F C hi1 4 (by decide) q1_57 (v := .int (S1 2 i1 4)) rfl dX0_hoursToCross_95 ?_
  refine lv_if_eq (tgt := 106) F.x F.b dX0_hoursToCross_98 (by decide) (fun g3 => ?_) (fun g3 => ?_)
  · have h := h.1 g3
    refine lv_iconst (v := -1) F.x F.b dX0_hoursToCross_106 (by decide) ?_
    refine lv_icmp_ne (tgt := 113) F.x F.b dX0_hoursToCross_107 (by decide) (fun g4 => ?_) (fun g4 => ?_)
    · have h := h.1 g4
      obtain ⟨x5, ex5⟩ : ∃ z : Int32, z = v5 + (1 : Int32) := ⟨_, rfl⟩
      have h := h x5 ex5
      refine lv_iinc (v := x5) (lv' := [(5, .int x5), (3, .int r2), (0, .ref (ad j0)), (1, .ref (ad (20 + i1))), (2, .int v2), (4, .int v4), (6, .int v6)]) F.x F.b dX0_hoursToCross_113 hl (k := 5) rfl (by rw [ex5]; rfl) (by decide) rfl (fun ls hl => ?_)
      refine lv_goto (tgt := 35) F.x F.b dX0_hoursToCross_116 (by decide) ?_
      exact hK35 S1 j0 i1 v2 r2 v4 x5 _ _ _ hj0 hi1 h C (lv_sub hl [2, 3, 4, 1, 5, 0] rfl)
    · have h := h.2 g4
      refine lv_iload F.x F.b dX0_hoursToCross_110 (lv_at hl 5 rfl) ?_
      exact retI F hr C h dX0_hoursToCross_112
  · have h := h.2 g3
    refine lv_bipush (v := 10) F.x F.b dX0_hoursToCross_101 (by decide) ?_
    refine lv_goto (tgt := 107) F.x F.b dX0_hoursToCross_103 (by decide) ?_
    refine lv_icmp_ne (tgt := 113) F.x F.b dX0_hoursToCross_107 (by decide) (fun g6 => ?_) (fun g6 => ?_)
    · have h := h.1 g6
      obtain ⟨x7, ex7⟩ : ∃ z : Int32, z = v5 + (1 : Int32) := ⟨_, rfl⟩
      have h := h x7 ex7
      refine lv_iinc (v := x7) (lv' := [(5, .int x7), (3, .int r2), (0, .ref (ad j0)), (1, .ref (ad (20 + i1))), (2, .int v2), (4, .int v4), (6, .int v6)]) F.x F.b dX0_hoursToCross_113 hl (k := 5) rfl (by rw [ex7]; rfl) (by decide) rfl (fun ls hl => ?_)
      refine lv_goto (tgt := 35) F.x F.b dX0_hoursToCross_116 (by decide) ?_
      exact hK35 S1 j0 i1 v2 r2 v4 x7 _ _ _ hj0 hi1 h C (lv_sub hl [2, 3, 4, 1, 5, 0] rfl)
    · have h := h.2 g6
      refine lv_iload F.x F.b dX0_hoursToCross_110 (lv_at hl 5 rfl) ?_
      exact retI F hr C h dX0_hoursToCross_112
set_option maxRecDepth 100000 in
set_option maxHeartbeats 4000000 in
theorem bX0_hoursToCross_35 {p : Program} {l : Launch} {e : Env} {s : State} {m : MethodId} {args : Array Value} {below : List Frame} {meth : Method} {c : Code} {D : va_G} {ky : Nat → ClassId} {ad : Nat → Nat} {ex : Nat → Nat → Nat} (F : Fx p s m args meth c D ky ad ex cX0_hoursToCross 7 yX0_hoursToCross.cls) (hr : meth.sig.returnType = (some .int)) {post : Int32 → Mem → Prop} : ∀ (n : Nat) (S : Mem) (j0 : Nat) (i1 : Nat) (v2 : Int32) (v3 : Int32) (v4 : Int32) (v5 : Int32) (H : Heap) (locs : List Loc) (ls : Array Slot), j0 < 10 → i1 < 80 → mX0_hoursToCross_b35 post n S j0 i1 v2 v3 v4 v5 → Cx D ky ad s S H locs → lv_has ls 7 [(0, .ref (ad j0)), (1, .ref (ad (20 + i1))), (2, .int v2), (3, .int v3), (4, .int v4), (5, .int v5)] → W p l e rmX0_hoursToCross s m args below meth c H locs 0 0 (MQ below (va_Qi post (AFT D ky ad) (AW ad s.heap.size)) args s 0 0 (AW ad s.heap.size)) (F0 m 35 ls []) := by
  intro n
  induction n with
  | zero =>
    intro S j0 i1 v2 v3 v4 v5 H locs ls hj0 hi1 h
    exact False.elim h
  | succ n ih =>
    intro S j0 i1 v2 v3 v4 v5 H locs ls hj0 hi1 h C hl
    refine lv_iload F.x F.b dX0_hoursToCross_35 (lv_at hl 5 rfl) ?_
    refine lv_bipush (v := 60) F.x F.b dX0_hoursToCross_37 (by decide) ?_
    refine lv_icmp_gt (tgt := 119) F.x F.b dX0_hoursToCross_39 (by decide) (fun g1 => ?_) (fun g1 => ?_)
    · have h := h.1 g1
      refine lv_iconst (v := -1) F.x F.b dX0_hoursToCross_119 (by decide) ?_
      exact retI F hr C h dX0_hoursToCross_120
    · have h := h.2 g1
      refine lv_aload_n F.x F.b dX0_hoursToCross_42 rfl (lv_at hl 0 rfl) ?_
      refine lv_iload F.x F.b dX0_hoursToCross_43 (lv_at hl 4 rfl) ?_
      refine kI F C hl (kX0_levelAfterHour  hj0 h) (by omega) (ce_F hj0 _) rfl wv_X0_111 ⟨rfl, rfl, ⟨Nat.le_of_ble_eq_true rfl, Nat.le_of_ble_eq_true rfl⟩, ⟨Nat.le_of_ble_eq_true rfl, Nat.le_of_ble_eq_true rfl⟩, Nat.le_of_ble_eq_true rfl⟩ (rest := []) rfl dX0_hoursToCross_45 (fun r3 S2 H locs h C => ?_)
      refine lv_istore (lv' := [(4, .int r3), (0, .ref (ad j0)), (1, .ref (ad (20 + i1))), (2, .int v2), (3, .int v3), (5, .int v5)]) F.x F.b dX0_hoursToCross_48 hl (by decide) rfl (fun ls hl => ?_)
      refine lv_aload_n F.x F.b dX0_hoursToCross_50 rfl (lv_at hl 1 rfl) ?_
      refine lv_iload_n F.x F.b dX0_hoursToCross_51 rfl (lv_at hl 4 rfl) ?_
      refine lv_aload_n F.x F.b dX0_hoursToCross_52 rfl (lv_at hl 2 rfl) ?_
      refine getTN F C hi1 4 (by decide) q1_57 (v := .int (S2 2 i1 4)) rfl dX0_hoursToCross_53 ?_
      refine lv_iload F.x F.b dX0_hoursToCross_56 (lv_at hl 0 rfl) ?_
      refine kI F C hl (kX0_placeAfterGoingBack  hj0 h) (by omega) (ce_F hj0 _) rfl wv_X0_117 ⟨rfl, rfl, ⟨Nat.le_of_ble_eq_true rfl, Nat.le_of_ble_eq_true rfl⟩, ⟨Nat.le_of_ble_eq_true rfl, Nat.le_of_ble_eq_true rfl⟩, Nat.le_of_ble_eq_true rfl⟩ (rest := []) rfl dX0_hoursToCross_58 (fun r5 S4 H locs h C => ?_)
      refine lv_istore (lv' := [(6, .int r5), (4, .int r3), (0, .ref (ad j0)), (1, .ref (ad (20 + i1))), (2, .int v2), (3, .int v3), (5, .int v5)]) F.x F.b dX0_hoursToCross_61 hl (by decide) rfl (fun ls hl => ?_)
      refine lv_iload F.x F.b dX0_hoursToCross_63 (lv_at hl 0 rfl) ?_
      refine lv_iload_n F.x F.b dX0_hoursToCross_65 rfl (lv_at hl 5 rfl) ?_
      refine lv_icmp_eq (tgt := 79) F.x F.b dX0_hoursToCross_66 (by decide) (fun g6 => ?_) (fun g6 => ?_)
      · have h := h.1 g6
        exact bX0_hoursToCross_79 F hr ih S4 j0 i1 v2 r3 v5 r5 _ _ _ hj0 hi1 h C (lv_sub hl [2, 3, 4, 1, 6, 0] rfl)
      · have h := h.2 g6
        refine lv_iload F.x F.b dX0_hoursToCross_69 (lv_at hl 0 rfl) ?_
        refine kSNI F C hl (kX5_isStone  h) wn_X0_97 ⟨rfl, rfl, ⟨Nat.le_of_ble_eq_true rfl, Nat.le_of_ble_eq_true rfl⟩, ⟨Nat.le_of_ble_eq_true rfl, Nat.le_of_ble_eq_true rfl⟩, Nat.le_of_ble_eq_true rfl⟩ (rest := []) rfl dX0_hoursToCross_71 (fun r8 S7 H locs h C => ?_)
        refine lv_if_ne (tgt := 79) F.x F.b dX0_hoursToCross_74 (by decide) (fun g9 => ?_) (fun g9 => ?_)
        · have h := h.1 g9
          exact bX0_hoursToCross_79 F hr ih S7 j0 i1 v2 r3 v5 r5 _ _ _ hj0 hi1 h C (lv_sub hl [2, 3, 4, 1, 6, 0] rfl)
        · have h := h.2 g9
          refine lv_iconst (v := -1) F.x F.b dX0_hoursToCross_77 (by decide) ?_
          exact retI F hr C h dX0_hoursToCross_78
set_option maxRecDepth 100000 in
set_option maxHeartbeats 4000000 in
theorem kX0_hoursToCross {l : Launch} {D : va_G} {ky : Nat → ClassId} {ad : Nat → Nat} {ex : Nat → Nat → Nat} {post : Int32 → Mem → Prop} {S : Mem} {j0 : Nat} {i1 : Nat} (hj0 : j0 < 10) (hi1 : i1 < 80) (h : mX0_hoursToCross post S j0 i1) : CMi l D ky ad ex yX0_hoursToCross cX0_hoursToCross 7 (some .int) rmX0_hoursToCross 0 0 [.ref (ad j0), .ref (ad (20 + i1))] S post := by
  refine CMi.of (by decide) (Nat.le_of_ble_eq_true rfl) (fun p e s m args below meth c ls F hr C hl => ?_)
  have hl : lv_has ls 7 [(0, .ref (ad j0)), (1, .ref (ad (20 + i1)))] := hl
  unfold mX0_hoursToCross at h
  refine lv_aload_n F.x F.b dX0_hoursToCross_0 rfl (lv_at hl 1 rfl) ?_
  refine getTN F C hi1 3 (by decide) q1_54 (v := .int (S 2 i1 3)) rfl dX0_hoursToCross_1 ?_
  refine lv_if_eq (tgt := 14) F.x F.b dX0_hoursToCross_4 (by decide) (fun g1 => ?_) (fun g1 => ?_)
  · have h := h.1 g1
    refine lv_iconst (v := -1) F.x F.b dX0_hoursToCross_14 (by decide) ?_
    exact retI F hr C h dX0_hoursToCross_15
  · have h := h.2 g1
    refine lv_aload_n F.x F.b dX0_hoursToCross_7 rfl (lv_at hl 1 rfl) ?_
    refine getTN F C hi1 5 (by decide) q1_59 (v := .int (S 2 i1 5)) rfl dX0_hoursToCross_8 ?_
    refine lv_if_eq (tgt := 16) F.x F.b dX0_hoursToCross_11 (by decide) (fun g2 => ?_) (fun g2 => ?_)
    · have h := h.1 g2
      refine lv_aload_n F.x F.b dX0_hoursToCross_16 rfl (lv_at hl 1 rfl) ?_
      refine kI F C hl (kX3_kind  hi1 h) (by omega) (ce_T hi1 _) rfl wv_X0_85 ⟨rfl, rfl, ⟨Nat.le_of_ble_eq_true rfl, Nat.le_of_ble_eq_true rfl⟩, ⟨Nat.le_of_ble_eq_true rfl, Nat.le_of_ble_eq_true rfl⟩, Nat.le_of_ble_eq_true rfl⟩ (rest := []) rfl dX0_hoursToCross_17 (fun r4 S3 H locs h C => ?_)
      refine lv_istore_n (lv' := [(2, .int r4), (0, .ref (ad j0)), (1, .ref (ad (20 + i1)))]) F.x F.b dX0_hoursToCross_20 rfl hl (by decide) rfl (fun ls hl => ?_)
      refine lv_aload_n F.x F.b dX0_hoursToCross_21 rfl (lv_at hl 2 rfl) ?_
      refine getTN F C hi1 2 (by decide) q1_51 (v := .int (S3 2 i1 2)) rfl dX0_hoursToCross_22 ?_
      refine lv_topi (fun x5 ex5 => ?_)
      have h := h x5 ex5
      refine lv_istore_n (lv' := [(3, .int x5), (2, .int r4), (0, .ref (ad j0)), (1, .ref (ad (20 + i1)))]) F.x F.b dX0_hoursToCross_25 rfl hl (by decide) rfl (fun ls hl => ?_)
      refine lv_aload_n F.x F.b dX0_hoursToCross_26 rfl (lv_at hl 2 rfl) ?_
      refine getF F C hj0 4 (by decide) q1_94 (v := .int (S3 0 j0 4)) rfl dX0_hoursToCross_27 ?_
      refine lv_topi (fun x6 ex6 => ?_)
      have h := h x6 ex6
      refine lv_istore (lv' := [(4, .int x6), (3, .int x5), (2, .int r4), (0, .ref (ad j0)), (1, .ref (ad (20 + i1)))]) F.x F.b dX0_hoursToCross_30 hl (by decide) rfl (fun ls hl => ?_)
      refine lv_iconst (v := 1) F.x F.b dX0_hoursToCross_32 (by decide) ?_
      refine lv_istore (lv' := [(5, .int (1 : Int32)), (4, .int x6), (3, .int x5), (2, .int r4), (0, .ref (ad j0)), (1, .ref (ad (20 + i1)))]) F.x F.b dX0_hoursToCross_33 hl (by decide) rfl (fun ls hl => ?_)
      obtain ⟨n7, h⟩ := h
      exact bX0_hoursToCross_35 F hr n7 S3 j0 i1 r4 x5 x6 (1 : Int32) _ _ _ hj0 hi1 h C (lv_sub hl [4, 5, 3, 2, 1, 0] rfl)
    · have h := h.2 g2
      refine lv_iconst (v := -1) F.x F.b dX0_hoursToCross_14 (by decide) ?_
      exact retI F hr C h dX0_hoursToCross_15

def rmX0_sendBack : Room := { frames := 2, cells := 0, slots := 0, locals := 48 }
def mX0_sendBack_b57 (post : Mem → Prop) (S : Mem) (j0 : Nat) (i1 : Nat) (v2 : Int32) : Prop := ((¬ v2 = (-1 : Int32) → (post S)) ∧ (v2 = (-1 : Int32) → (∀ S2 : Mem, S2 = wr S 0 j0 6 ((S 0 j0 6) + (S 2 i1 7)) → ∀ S3 : Mem, S3 = wr S2 2 i1 7 (0 : Int32) → post S3)))
def mX0_sendBack (post : Mem → Prop) (S : Mem) (j0 : Nat) (i1 : Nat) : Prop := mX0_placeAfterGoingBack (fun (r2 : Int32) (S1 : Mem) => ((¬ r2 = (S1 2 i1 2) → (∀ S4 : Mem, S4 = wr S1 2 i1 2 r2 → mX3_getWetter (fun (S5 : Mem) => ∀ S7 : Mem, S7 = wr S5 0 j0 11 ((S5 0 j0 11) + (1 : Int32)) → mX5_isStone (fun (r9 : Int32) (S8 : Mem) => ((¬ r9 = 0 → (mX0_sendBack_b57 post S8 j0 i1 r2)) ∧ (r9 = 0 → (mX3_restOnBank (fun (S11 : Mem) => mX0_sendBack_b57 post S11 j0 i1 r2) S8 i1)))) S7 r2) S4 i1 (5 : Int32))) ∧ (r2 = (S1 2 i1 2) → (post S1)))) S j0 (S 2 i1 2) (S 2 i1 4) (S 0 j0 4)
set_option maxRecDepth 100000 in
set_option maxHeartbeats 4000000 in
theorem bX0_sendBack_57 {p : Program} {l : Launch} {e : Env} {s : State} {m : MethodId} {args : Array Value} {below : List Frame} {meth : Method} {c : Code} {D : va_G} {ky : Nat → ClassId} {ad : Nat → Nat} {ex : Nat → Nat → Nat} (F : Fx p s m args meth c D ky ad ex cX0_sendBack 3 yX0_sendBack.cls) (hr : meth.sig.returnType = none) {post : Mem → Prop} : ∀ (S : Mem) (j0 : Nat) (i1 : Nat) (v2 : Int32) (H : Heap) (locs : List Loc) (ls : Array Slot), j0 < 10 → i1 < 80 → mX0_sendBack_b57 post S j0 i1 v2 → Cx D ky ad s S H locs → lv_has ls 3 [(0, .ref (ad j0)), (1, .ref (ad (20 + i1))), (2, .int v2)] → W p l e rmX0_sendBack s m args below meth c H locs 0 0 (MQ below (va_Qv post (AFT D ky ad) (AW ad s.heap.size)) args s 0 0 (AW ad s.heap.size)) (F0 m 57 ls []) := by
  intro S j0 i1 v2 H locs ls hj0 hi1 h C hl
  unfold mX0_sendBack_b57 at h
  refine lv_iload_n F.x F.b dX0_sendBack_57 rfl (lv_at hl 2 rfl) ?_
  refine lv_iconst (v := -1) F.x F.b dX0_sendBack_58 (by decide) ?_
  refine lv_icmp_ne (tgt := 80) F.x F.b dX0_sendBack_59 (by decide) (fun g1 => ?_) (fun g1 => ?_)
  · have h := h.1 g1
    exact retV F hr C h dX0_sendBack_80
  · have h := h.2 g1
    refine lv_aload_n F.x F.b dX0_sendBack_62 rfl (lv_at hl 0 rfl) ?_
    refine lv_dup F.x F.b dX0_sendBack_63 rfl ?_
    refine getF F C hj0 6 (by decide) q1_98 (v := .int (S 0 j0 6)) rfl dX0_sendBack_64 ?_
    refine lv_aload_n F.x F.b dX0_sendBack_67 rfl (lv_at hl 1 rfl) ?_
    refine getTN F C hi1 7 (by decide) q1_65 (v := .int (S 2 i1 7)) rfl dX0_sendBack_68 ?_
    refine lv_iadd F.x F.b dX0_sendBack_71 ?_
    refine putF F C hj0 6 (by decide) q1_98 rfl (tyX0_ok 6 (by decide)) rfl rfl rfl dX0_sendBack_72 (fun H locs C => ?_)
    obtain ⟨S2, eS2⟩ : ∃ z : Mem, z = wr S 0 j0 6 ((S 0 j0 6) + (S 2 i1 7)) := ⟨_, rfl⟩
    rw [← eS2] at C
    have h := h S2 eS2
    refine lv_aload_n F.x F.b dX0_sendBack_75 rfl (lv_at hl 1 rfl) ?_
    refine lv_iconst (v := 0) F.x F.b dX0_sendBack_76 (by decide) ?_
    refine putTN F C hi1 7 (by decide) q1_65 rfl (tyX3_ok 7 (by decide)) rfl rfl rfl dX0_sendBack_77 (fun H locs C => ?_)
    obtain ⟨S3, eS3⟩ : ∃ z : Mem, z = wr S2 2 i1 7 (0 : Int32) := ⟨_, rfl⟩
    rw [← eS3] at C
    have h := h S3 eS3
    exact retV F hr C h dX0_sendBack_80
set_option maxRecDepth 100000 in
set_option maxHeartbeats 4000000 in
theorem kX0_sendBack {l : Launch} {D : va_G} {ky : Nat → ClassId} {ad : Nat → Nat} {ex : Nat → Nat → Nat} {post : Mem → Prop} {S : Mem} {j0 : Nat} {i1 : Nat} (hj0 : j0 < 10) (hi1 : i1 < 80) (h : mX0_sendBack post S j0 i1) : CMv l D ky ad ex yX0_sendBack cX0_sendBack 3 none rmX0_sendBack 0 0 [.ref (ad j0), .ref (ad (20 + i1))] S post := by
  refine CMv.of (by decide) (Nat.le_of_ble_eq_true rfl) (fun p e s m args below meth c ls F hr C hl => ?_)
  have hl : lv_has ls 3 [(0, .ref (ad j0)), (1, .ref (ad (20 + i1)))] := hl
  unfold mX0_sendBack at h
  refine lv_aload_n F.x F.b dX0_sendBack_0 rfl (lv_at hl 0 rfl) ?_
  refine lv_aload_n F.x F.b dX0_sendBack_1 rfl (lv_at hl 1 rfl) ?_
  refine getTN F C hi1 2 (by decide) q1_51 (v := .int (S 2 i1 2)) rfl dX0_sendBack_2 ?_
  refine lv_aload_n F.x F.b dX0_sendBack_5 rfl (lv_at hl 1 rfl) ?_
  refine getTN F C hi1 4 (by decide) q1_57 (v := .int (S 2 i1 4)) rfl dX0_sendBack_6 ?_
  refine lv_aload_n F.x F.b dX0_sendBack_9 rfl (lv_at hl 0 rfl) ?_
  refine getF F C hj0 4 (by decide) q1_94 (v := .int (S 0 j0 4)) rfl dX0_sendBack_10 ?_
  refine kI F C hl (kX0_placeAfterGoingBack  hj0 h) (by omega) (ce_F hj0 _) rfl wv_X0_117 ⟨rfl, rfl, ⟨Nat.le_of_ble_eq_true rfl, Nat.le_of_ble_eq_true rfl⟩, ⟨Nat.le_of_ble_eq_true rfl, Nat.le_of_ble_eq_true rfl⟩, Nat.le_of_ble_eq_true rfl⟩ (rest := []) rfl dX0_sendBack_13 (fun r2 S1 H locs h C => ?_)
  refine lv_istore_n (lv' := [(2, .int r2), (0, .ref (ad j0)), (1, .ref (ad (20 + i1)))]) F.x F.b dX0_sendBack_16 rfl hl (by decide) rfl (fun ls hl => ?_)
  refine lv_iload_n F.x F.b dX0_sendBack_17 rfl (lv_at hl 0 rfl) ?_
  refine lv_aload_n F.x F.b dX0_sendBack_18 rfl (lv_at hl 2 rfl) ?_
  refine getTN F C hi1 2 (by decide) q1_51 (v := .int (S1 2 i1 2)) rfl dX0_sendBack_19 ?_
  refine lv_icmp_ne (tgt := 26) F.x F.b dX0_sendBack_22 (by decide) (fun g3 => ?_) (fun g3 => ?_)
  · have h := h.1 g3
    refine lv_aload_n F.x F.b dX0_sendBack_26 rfl (lv_at hl 2 rfl) ?_
    refine lv_iload_n F.x F.b dX0_sendBack_27 rfl (lv_at hl 0 rfl) ?_
    refine putTN F C hi1 2 (by decide) q1_51 rfl (tyX3_ok 2 (by decide)) rfl rfl rfl dX0_sendBack_28 (fun H locs C => ?_)
    obtain ⟨S4, eS4⟩ : ∃ z : Mem, z = wr S1 2 i1 2 r2 := ⟨_, rfl⟩
    rw [← eS4] at C
    have h := h S4 eS4
    refine lv_aload_n F.x F.b dX0_sendBack_31 rfl (lv_at hl 2 rfl) ?_
    refine lv_iconst (v := 5) F.x F.b dX0_sendBack_32 (by decide) ?_
    refine kV F C hl (kX3_getWetter  hi1 h) (by omega) (ce_T hi1 _) rfl wv_X0_137 ⟨rfl, rfl, ⟨Nat.le_of_ble_eq_true rfl, Nat.le_of_ble_eq_true rfl⟩, ⟨Nat.le_of_ble_eq_true rfl, Nat.le_of_ble_eq_true rfl⟩, Nat.le_of_ble_eq_true rfl⟩ (rest := []) rfl dX0_sendBack_33 (fun S5 H locs h C => ?_)
    refine lv_aload_n F.x F.b dX0_sendBack_36 rfl (lv_at hl 1 rfl) ?_
    refine lv_dup F.x F.b dX0_sendBack_37 rfl ?_
    refine getF F C hj0 11 (by decide) q1_108 (v := .int (S5 0 j0 11)) rfl dX0_sendBack_38 ?_
    refine lv_iconst (v := 1) F.x F.b dX0_sendBack_41 (by decide) ?_
    refine lv_iadd F.x F.b dX0_sendBack_42 ?_
    refine putF F C hj0 11 (by decide) q1_108 rfl (tyX0_ok 11 (by decide)) rfl rfl rfl dX0_sendBack_43 (fun H locs C => ?_)
    obtain ⟨S7, eS7⟩ : ∃ z : Mem, z = wr S5 0 j0 11 ((S5 0 j0 11) + (1 : Int32)) := ⟨_, rfl⟩
    rw [← eS7] at C
    have h := h S7 eS7
    refine lv_iload_n F.x F.b dX0_sendBack_46 rfl (lv_at hl 0 rfl) ?_
    refine kSNI F C hl (kX5_isStone  h) wn_X0_97 ⟨rfl, rfl, ⟨Nat.le_of_ble_eq_true rfl, Nat.le_of_ble_eq_true rfl⟩, ⟨Nat.le_of_ble_eq_true rfl, Nat.le_of_ble_eq_true rfl⟩, Nat.le_of_ble_eq_true rfl⟩ (rest := []) rfl dX0_sendBack_47 (fun r9 S8 H locs h C => ?_)
    refine lv_if_ne (tgt := 57) F.x F.b dX0_sendBack_50 (by decide) (fun g10 => ?_) (fun g10 => ?_)
    · have h := h.1 g10
      exact bX0_sendBack_57 F hr S8 j0 i1 r2 _ _ _ hj0 hi1 h C (lv_sub hl [1, 2, 0] rfl)
    · have h := h.2 g10
      refine lv_aload_n F.x F.b dX0_sendBack_53 rfl (lv_at hl 2 rfl) ?_
      refine kV F C hl (kX3_restOnBank  hi1 h) (by omega) (ce_T hi1 _) rfl wv_X0_140 ⟨rfl, rfl, ⟨Nat.le_of_ble_eq_true rfl, Nat.le_of_ble_eq_true rfl⟩, ⟨Nat.le_of_ble_eq_true rfl, Nat.le_of_ble_eq_true rfl⟩, Nat.le_of_ble_eq_true rfl⟩ (rest := []) rfl dX0_sendBack_54 (fun S11 H locs h C => ?_)
      exact bX0_sendBack_57 F hr S11 j0 i1 r2 _ _ _ hj0 hi1 h C (lv_sub hl [1, 2, 0] rfl)
  · have h := h.2 g3
    exact retV F hr C h dX0_sendBack_25

def rmX0_comeOver : Room := { frames := 1, cells := 0, slots := 0, locals := 20 }
def mX0_comeOver_b17 (post : Mem → Prop) (S : Mem) (j0 : Nat) (i1 : Nat) (vt0 : Int32) (it1 : Nat) : Prop := isB vt0 ∧ ∀ S2 : Mem, S2 = wr S 2 it1 4 vt0 → ∀ S3 : Mem, S3 = wr S2 2 i1 6 ((S2 2 i1 6) + (1 : Int32)) → ∀ S4 : Mem, S4 = wr S3 0 j0 10 ((S3 0 j0 10) + (1 : Int32)) → ∀ S5 : Mem, S5 = wr S4 0 j0 7 ((S4 0 j0 7) + (S4 2 i1 7)) → ∀ S6 : Mem, S6 = wr S5 2 i1 7 (0 : Int32) → post S6
def mX0_comeOver (post : Mem → Prop) (S : Mem) (j0 : Nat) (i1 : Nat) : Prop := mX3_restOnBank (fun (S1 : Mem) => ((¬ (S1 2 i1 4) = 0 → (mX0_comeOver_b17 post S1 j0 i1 (0 : Int32) i1)) ∧ ((S1 2 i1 4) = 0 → (mX0_comeOver_b17 post S1 j0 i1 (1 : Int32) i1)))) S i1
set_option maxRecDepth 100000 in
set_option maxHeartbeats 4000000 in
theorem bX0_comeOver_17 {p : Program} {l : Launch} {e : Env} {s : State} {m : MethodId} {args : Array Value} {below : List Frame} {meth : Method} {c : Code} {D : va_G} {ky : Nat → ClassId} {ad : Nat → Nat} {ex : Nat → Nat → Nat} (F : Fx p s m args meth c D ky ad ex cX0_comeOver 2 yX0_comeOver.cls) (hr : meth.sig.returnType = none) {post : Mem → Prop} : ∀ (S : Mem) (j0 : Nat) (i1 : Nat) (vt0 : Int32) (it1 : Nat) (H : Heap) (locs : List Loc) (ls : Array Slot), j0 < 10 → i1 < 80 → it1 < 80 → mX0_comeOver_b17 post S j0 i1 vt0 it1 → Cx D ky ad s S H locs → lv_has ls 2 [(0, .ref (ad j0)), (1, .ref (ad (20 + i1)))] → W p l e rmX0_comeOver s m args below meth c H locs 0 0 (MQ below (va_Qv post (AFT D ky ad) (AW ad s.heap.size)) args s 0 0 (AW ad s.heap.size)) (F0 m 17 ls [.int vt0, .ref (ad (20 + it1))]) := by
  intro S j0 i1 vt0 it1 H locs ls hj0 hi1 hit1 h C hl
  unfold mX0_comeOver_b17 at h
  obtain ⟨g1, h⟩ := h
  refine putTN F C hit1 4 (by decide) q1_57 rfl (tyX3_ok 4 (by decide)) g1.n g1.f rfl dX0_comeOver_17 (fun H locs C => ?_)
  obtain ⟨S2, eS2⟩ : ∃ z : Mem, z = wr S 2 it1 4 vt0 := ⟨_, rfl⟩
  rw [← eS2] at C
  have h := h S2 eS2
  refine lv_aload_n F.x F.b dX0_comeOver_20 rfl (lv_at hl 1 rfl) ?_
  refine lv_dup F.x F.b dX0_comeOver_21 rfl ?_
  refine getTN F C hi1 6 (by decide) q1_63 (v := .int (S2 2 i1 6)) rfl dX0_comeOver_22 ?_
  refine lv_iconst (v := 1) F.x F.b dX0_comeOver_25 (by decide) ?_
  refine lv_iadd F.x F.b dX0_comeOver_26 ?_
  refine putTN F C hi1 6 (by decide) q1_63 rfl (tyX3_ok 6 (by decide)) rfl rfl rfl dX0_comeOver_27 (fun H locs C => ?_)
  obtain ⟨S3, eS3⟩ : ∃ z : Mem, z = wr S2 2 i1 6 ((S2 2 i1 6) + (1 : Int32)) := ⟨_, rfl⟩
  rw [← eS3] at C
  have h := h S3 eS3
  refine lv_aload_n F.x F.b dX0_comeOver_30 rfl (lv_at hl 0 rfl) ?_
  refine lv_dup F.x F.b dX0_comeOver_31 rfl ?_
  refine getF F C hj0 10 (by decide) q1_106 (v := .int (S3 0 j0 10)) rfl dX0_comeOver_32 ?_
  refine lv_iconst (v := 1) F.x F.b dX0_comeOver_35 (by decide) ?_
  refine lv_iadd F.x F.b dX0_comeOver_36 ?_
  refine putF F C hj0 10 (by decide) q1_106 rfl (tyX0_ok 10 (by decide)) rfl rfl rfl dX0_comeOver_37 (fun H locs C => ?_)
  obtain ⟨S4, eS4⟩ : ∃ z : Mem, z = wr S3 0 j0 10 ((S3 0 j0 10) + (1 : Int32)) := ⟨_, rfl⟩
  rw [← eS4] at C
  have h := h S4 eS4
  refine lv_aload_n F.x F.b dX0_comeOver_40 rfl (lv_at hl 0 rfl) ?_
  refine lv_dup F.x F.b dX0_comeOver_41 rfl ?_
  refine getF F C hj0 7 (by decide) q1_100 (v := .int (S4 0 j0 7)) rfl dX0_comeOver_42 ?_
  refine lv_aload_n F.x F.b dX0_comeOver_45 rfl (lv_at hl 1 rfl) ?_
  refine getTN F C hi1 7 (by decide) q1_65 (v := .int (S4 2 i1 7)) rfl dX0_comeOver_46 ?_
  refine lv_iadd F.x F.b dX0_comeOver_49 ?_
  refine putF F C hj0 7 (by decide) q1_100 rfl (tyX0_ok 7 (by decide)) rfl rfl rfl dX0_comeOver_50 (fun H locs C => ?_)
  obtain ⟨S5, eS5⟩ : ∃ z : Mem, z = wr S4 0 j0 7 ((S4 0 j0 7) + (S4 2 i1 7)) := ⟨_, rfl⟩
  rw [← eS5] at C
  have h := h S5 eS5
  refine lv_aload_n F.x F.b dX0_comeOver_53 rfl (lv_at hl 1 rfl) ?_
  refine lv_iconst (v := 0) F.x F.b dX0_comeOver_54 (by decide) ?_
  refine putTN F C hi1 7 (by decide) q1_65 rfl (tyX3_ok 7 (by decide)) rfl rfl rfl dX0_comeOver_55 (fun H locs C => ?_)
  obtain ⟨S6, eS6⟩ : ∃ z : Mem, z = wr S5 2 i1 7 (0 : Int32) := ⟨_, rfl⟩
  rw [← eS6] at C
  have h := h S6 eS6
  exact retV F hr C h dX0_comeOver_58
set_option maxRecDepth 100000 in
set_option maxHeartbeats 4000000 in
theorem kX0_comeOver {l : Launch} {D : va_G} {ky : Nat → ClassId} {ad : Nat → Nat} {ex : Nat → Nat → Nat} {post : Mem → Prop} {S : Mem} {j0 : Nat} {i1 : Nat} (hj0 : j0 < 10) (hi1 : i1 < 80) (h : mX0_comeOver post S j0 i1) : CMv l D ky ad ex yX0_comeOver cX0_comeOver 2 none rmX0_comeOver 0 0 [.ref (ad j0), .ref (ad (20 + i1))] S post := by
  refine CMv.of (by decide) (Nat.le_of_ble_eq_true rfl) (fun p e s m args below meth c ls F hr C hl => ?_)
  have hl : lv_has ls 2 [(0, .ref (ad j0)), (1, .ref (ad (20 + i1)))] := hl
  unfold mX0_comeOver at h
  refine lv_aload_n F.x F.b dX0_comeOver_0 rfl (lv_at hl 1 rfl) ?_
  refine kV F C hl (kX3_restOnBank  hi1 h) (by omega) (ce_T hi1 _) rfl wv_X0_140 ⟨rfl, rfl, ⟨Nat.le_of_ble_eq_true rfl, Nat.le_of_ble_eq_true rfl⟩, ⟨Nat.le_of_ble_eq_true rfl, Nat.le_of_ble_eq_true rfl⟩, Nat.le_of_ble_eq_true rfl⟩ (rest := []) rfl dX0_comeOver_1 (fun S1 H locs h C => ?_)
  refine lv_aload_n F.x F.b dX0_comeOver_4 rfl (lv_at hl 1 rfl) ?_
  refine lv_aload_n F.x F.b dX0_comeOver_5 rfl (lv_at hl 1 rfl) ?_
  refine getTN F C hi1 4 (by decide) q1_57 (v := .int (S1 2 i1 4)) rfl dX0_comeOver_6 ?_
  refine lv_if_ne (tgt := 16) F.x F.b dX0_comeOver_9 (by decide) (fun g3 => ?_) (fun g3 => ?_)
  · have h := h.1 g3
    refine lv_iconst (v := 0) F.x F.b dX0_comeOver_16 (by decide) ?_
    exact bX0_comeOver_17 F hr S1 j0 i1 (0 : Int32) i1 _ _ _ hj0 hi1 hi1 h C (lv_sub hl [0, 1] rfl)
  · have h := h.2 g3
    refine lv_iconst (v := 1) F.x F.b dX0_comeOver_12 (by decide) ?_
    refine lv_goto (tgt := 17) F.x F.b dX0_comeOver_13 (by decide) ?_
    exact bX0_comeOver_17 F hr S1 j0 i1 (1 : Int32) i1 _ _ _ hj0 hi1 hi1 h C (lv_sub hl [0, 1] rfl)

def rmX0_sendOn : Room := { frames := 3, cells := 0, slots := 0, locals := 73 }
def mX0_sendOn (post : Mem → Prop) (S : Mem) (j0 : Nat) (i1 : Nat) : Prop := (((S 2 i1 3) = 0 → (post S)) ∧ (¬ (S 2 i1 3) = 0 → ((((S 2 i1 5) = 0 → (mX3_kind (fun (r4 : Int32) (S3 : Mem) => mX0_placeAfterStep (fun (r6 : Int32) (S5 : Mem) => ∀ S7 : Mem, S7 = wr S5 2 i1 2 r6 → (((S7 2 i1 4) = 0 → (((¬ (S7 2 i1 2) = (-1 : Int32) → (post S7)) ∧ ((S7 2 i1 2) = (-1 : Int32) → (mX0_comeOver (fun (S10 : Mem) => post S10) S7 j0 i1))))) ∧ (¬ (S7 2 i1 4) = 0 → (((¬ (S7 2 i1 2) = (10 : Int32) → (post S7)) ∧ ((S7 2 i1 2) = (10 : Int32) → (mX0_comeOver (fun (S13 : Mem) => post S13) S7 j0 i1))))))) S3 j0 r4 (S3 2 i1 2) (S3 2 i1 4) (S3 0 j0 4)) S i1)) ∧ (¬ (S 2 i1 5) = 0 → (post S))))))
set_option maxRecDepth 100000 in
set_option maxHeartbeats 4000000 in
theorem kX0_sendOn {l : Launch} {D : va_G} {ky : Nat → ClassId} {ad : Nat → Nat} {ex : Nat → Nat → Nat} {post : Mem → Prop} {S : Mem} {j0 : Nat} {i1 : Nat} (hj0 : j0 < 10) (hi1 : i1 < 80) (h : mX0_sendOn post S j0 i1) : CMv l D ky ad ex yX0_sendOn cX0_sendOn 2 none rmX0_sendOn 0 0 [.ref (ad j0), .ref (ad (20 + i1))] S post := by
  refine CMv.of (by decide) (Nat.le_of_ble_eq_true rfl) (fun p e s m args below meth c ls F hr C hl => ?_)
  have hl : lv_has ls 2 [(0, .ref (ad j0)), (1, .ref (ad (20 + i1)))] := hl
  unfold mX0_sendOn at h
  refine lv_aload_n F.x F.b dX0_sendOn_0 rfl (lv_at hl 1 rfl) ?_
  refine getTN F C hi1 3 (by decide) q1_54 (v := .int (S 2 i1 3)) rfl dX0_sendOn_1 ?_
  refine lv_if_eq (tgt := 14) F.x F.b dX0_sendOn_4 (by decide) (fun g1 => ?_) (fun g1 => ?_)
  · have h := h.1 g1
    exact retV F hr C h dX0_sendOn_14
  · have h := h.2 g1
    refine lv_aload_n F.x F.b dX0_sendOn_7 rfl (lv_at hl 1 rfl) ?_
    refine getTN F C hi1 5 (by decide) q1_59 (v := .int (S 2 i1 5)) rfl dX0_sendOn_8 ?_
    refine lv_if_eq (tgt := 15) F.x F.b dX0_sendOn_11 (by decide) (fun g2 => ?_) (fun g2 => ?_)
    · have h := h.1 g2
      refine lv_aload_n F.x F.b dX0_sendOn_15 rfl (lv_at hl 1 rfl) ?_
      refine lv_aload_n F.x F.b dX0_sendOn_16 rfl (lv_at hl 0 rfl) ?_
      refine lv_aload_n F.x F.b dX0_sendOn_17 rfl (lv_at hl 1 rfl) ?_
      refine kI F C hl (kX3_kind  hi1 h) (by omega) (ce_T hi1 _) rfl wv_X0_85 ⟨rfl, rfl, ⟨Nat.le_of_ble_eq_true rfl, Nat.le_of_ble_eq_true rfl⟩, ⟨Nat.le_of_ble_eq_true rfl, Nat.le_of_ble_eq_true rfl⟩, Nat.le_of_ble_eq_true rfl⟩ (rest := [.ref (ad j0), .ref (ad (20 + i1))]) rfl dX0_sendOn_18 (fun r4 S3 H locs h C => ?_)
      refine lv_aload_n F.x F.b dX0_sendOn_21 rfl (lv_at hl 1 rfl) ?_
      refine getTN F C hi1 2 (by decide) q1_51 (v := .int (S3 2 i1 2)) rfl dX0_sendOn_22 ?_
      refine lv_aload_n F.x F.b dX0_sendOn_25 rfl (lv_at hl 1 rfl) ?_
      refine getTN F C hi1 4 (by decide) q1_57 (v := .int (S3 2 i1 4)) rfl dX0_sendOn_26 ?_
      refine lv_aload_n F.x F.b dX0_sendOn_29 rfl (lv_at hl 0 rfl) ?_
      refine getF F C hj0 4 (by decide) q1_94 (v := .int (S3 0 j0 4)) rfl dX0_sendOn_30 ?_
      refine kI F C hl (kX0_placeAfterStep  hj0 h) (by omega) (ce_F hj0 _) rfl wv_X0_121 ⟨rfl, rfl, ⟨Nat.le_of_ble_eq_true rfl, Nat.le_of_ble_eq_true rfl⟩, ⟨Nat.le_of_ble_eq_true rfl, Nat.le_of_ble_eq_true rfl⟩, Nat.le_of_ble_eq_true rfl⟩ (rest := [.ref (ad (20 + i1))]) rfl dX0_sendOn_33 (fun r6 S5 H locs h C => ?_)
      refine putTN F C hi1 2 (by decide) q1_51 rfl (tyX3_ok 2 (by decide)) rfl rfl rfl dX0_sendOn_36 (fun H locs C => ?_)
      obtain ⟨S7, eS7⟩ : ∃ z : Mem, z = wr S5 2 i1 2 r6 := ⟨_, rfl⟩
      rw [← eS7] at C
      have h := h S7 eS7
      refine lv_aload_n F.x F.b dX0_sendOn_39 rfl (lv_at hl 1 rfl) ?_
      refine getTN F C hi1 2 (by decide) q1_51 (v := .int (S7 2 i1 2)) rfl dX0_sendOn_40 ?_
      refine lv_aload_n F.x F.b dX0_sendOn_43 rfl (lv_at hl 1 rfl) ?_
      refine getTN F C hi1 4 (by decide) q1_57 (v := .int (S7 2 i1 4)) rfl dX0_sendOn_44 ?_
      refine lv_if_eq (tgt := 55) F.x F.b dX0_sendOn_47 (by decide) (fun g8 => ?_) (fun g8 => ?_)
      · have h := h.1 g8
        refine lv_iconst (v := -1) F.x F.b dX0_sendOn_55 (by decide) ?_
        refine lv_icmp_ne (tgt := 64) F.x F.b dX0_sendOn_56 (by decide) (fun g9 => ?_) (fun g9 => ?_)
        · have h := h.1 g9
          exact retV F hr C h dX0_sendOn_64
        · have h := h.2 g9
          refine lv_aload_n F.x F.b dX0_sendOn_59 rfl (lv_at hl 0 rfl) ?_
          refine lv_aload_n F.x F.b dX0_sendOn_60 rfl (lv_at hl 1 rfl) ?_
          refine kV F C hl (kX0_comeOver  hj0 hi1 h) (by omega) (ce_F hj0 _) rfl wv_X0_143 ⟨rfl, rfl, ⟨Nat.le_of_ble_eq_true rfl, Nat.le_of_ble_eq_true rfl⟩, ⟨Nat.le_of_ble_eq_true rfl, Nat.le_of_ble_eq_true rfl⟩, Nat.le_of_ble_eq_true rfl⟩ (rest := []) rfl dX0_sendOn_61 (fun S10 H locs h C => ?_)
          exact retV F hr C h dX0_sendOn_64
      · have h := h.2 g8
        refine lv_bipush (v := 10) F.x F.b dX0_sendOn_50 (by decide) ?_
        refine lv_goto (tgt := 56) F.x F.b dX0_sendOn_52 (by decide) ?_
        refine lv_icmp_ne (tgt := 64) F.x F.b dX0_sendOn_56 (by decide) (fun g12 => ?_) (fun g12 => ?_)
        · have h := h.1 g12
          exact retV F hr C h dX0_sendOn_64
        · have h := h.2 g12
          refine lv_aload_n F.x F.b dX0_sendOn_59 rfl (lv_at hl 0 rfl) ?_
          refine lv_aload_n F.x F.b dX0_sendOn_60 rfl (lv_at hl 1 rfl) ?_
          refine kV F C hl (kX0_comeOver  hj0 hi1 h) (by omega) (ce_F hj0 _) rfl wv_X0_143 ⟨rfl, rfl, ⟨Nat.le_of_ble_eq_true rfl, Nat.le_of_ble_eq_true rfl⟩, ⟨Nat.le_of_ble_eq_true rfl, Nat.le_of_ble_eq_true rfl⟩, Nat.le_of_ble_eq_true rfl⟩ (rest := []) rfl dX0_sendOn_61 (fun S13 H locs h C => ?_)
          exact retV F hr C h dX0_sendOn_64
    · have h := h.2 g2
      exact retV F hr C h dX0_sendOn_14

def rmX0_wetOrDry : Room := { frames := 2, cells := 0, slots := 0, locals := 36 }
def mX0_wetOrDry (post : Mem → Prop) (S : Mem) (j0 : Nat) (i1 : Nat) : Prop := mX5_isStone (fun (r2 : Int32) (S1 : Mem) => ((¬ r2 = 0 → (mX0_stateOf (fun (r5 : Int32) (S4 : Mem) => ((¬ r5 = (1 : Int32) → (((¬ r5 = 0 → (post S4)) ∧ (r5 = 0 → (mX3_getDrier (fun (S8 : Mem) => post S8) S4 i1 (1 : Int32)))))) ∧ (r5 = (1 : Int32) → (mX3_getWetter (fun (S10 : Mem) => post S10) S4 i1 (2 : Int32))))) S1 j0 (S1 2 i1 2) (S1 0 j0 4))) ∧ (r2 = 0 → (post S1)))) S (S 2 i1 2)
set_option maxRecDepth 100000 in
set_option maxHeartbeats 4000000 in
theorem kX0_wetOrDry {l : Launch} {D : va_G} {ky : Nat → ClassId} {ad : Nat → Nat} {ex : Nat → Nat → Nat} {post : Mem → Prop} {S : Mem} {j0 : Nat} {i1 : Nat} (hj0 : j0 < 10) (hi1 : i1 < 80) (h : mX0_wetOrDry post S j0 i1) : CMv l D ky ad ex yX0_wetOrDry cX0_wetOrDry 3 none rmX0_wetOrDry 0 0 [.ref (ad j0), .ref (ad (20 + i1))] S post := by
  refine CMv.of (by decide) (Nat.le_of_ble_eq_true rfl) (fun p e s m args below meth c ls F hr C hl => ?_)
  have hl : lv_has ls 3 [(0, .ref (ad j0)), (1, .ref (ad (20 + i1)))] := hl
  unfold mX0_wetOrDry at h
  refine lv_aload_n F.x F.b dX0_wetOrDry_0 rfl (lv_at hl 1 rfl) ?_
  refine getTN F C hi1 2 (by decide) q1_51 (v := .int (S 2 i1 2)) rfl dX0_wetOrDry_1 ?_
  refine kSNI F C hl (kX5_isStone  h) wn_X0_97 ⟨rfl, rfl, ⟨Nat.le_of_ble_eq_true rfl, Nat.le_of_ble_eq_true rfl⟩, ⟨Nat.le_of_ble_eq_true rfl, Nat.le_of_ble_eq_true rfl⟩, Nat.le_of_ble_eq_true rfl⟩ (rest := []) rfl dX0_wetOrDry_4 (fun r2 S1 H locs h C => ?_)
  refine lv_if_ne (tgt := 11) F.x F.b dX0_wetOrDry_7 (by decide) (fun g3 => ?_) (fun g3 => ?_)
  · have h := h.1 g3
    refine lv_aload_n F.x F.b dX0_wetOrDry_11 rfl (lv_at hl 0 rfl) ?_
    refine lv_aload_n F.x F.b dX0_wetOrDry_12 rfl (lv_at hl 1 rfl) ?_
    refine getTN F C hi1 2 (by decide) q1_51 (v := .int (S1 2 i1 2)) rfl dX0_wetOrDry_13 ?_
    refine lv_aload_n F.x F.b dX0_wetOrDry_16 rfl (lv_at hl 0 rfl) ?_
    refine getF F C hj0 4 (by decide) q1_94 (v := .int (S1 0 j0 4)) rfl dX0_wetOrDry_17 ?_
    refine kI F C hl (kX0_stateOf  hj0 h) (by omega) (ce_F hj0 _) rfl wv_X0_101 ⟨rfl, rfl, ⟨Nat.le_of_ble_eq_true rfl, Nat.le_of_ble_eq_true rfl⟩, ⟨Nat.le_of_ble_eq_true rfl, Nat.le_of_ble_eq_true rfl⟩, Nat.le_of_ble_eq_true rfl⟩ (rest := []) rfl dX0_wetOrDry_20 (fun r5 S4 H locs h C => ?_)
    refine lv_istore_n (lv' := [(2, .int r5), (0, .ref (ad j0)), (1, .ref (ad (20 + i1)))]) F.x F.b dX0_wetOrDry_23 rfl hl (by decide) rfl (fun ls hl => ?_)
    refine lv_iload_n F.x F.b dX0_wetOrDry_24 rfl (lv_at hl 0 rfl) ?_
    refine lv_iconst (v := 1) F.x F.b dX0_wetOrDry_25 (by decide) ?_
    refine lv_icmp_ne (tgt := 37) F.x F.b dX0_wetOrDry_26 (by decide) (fun g6 => ?_) (fun g6 => ?_)
    · have h := h.1 g6
      refine lv_iload_n F.x F.b dX0_wetOrDry_37 rfl (lv_at hl 0 rfl) ?_
      refine lv_if_ne (tgt := 46) F.x F.b dX0_wetOrDry_38 (by decide) (fun g7 => ?_) (fun g7 => ?_)
      · have h := h.1 g7
        exact retV F hr C h dX0_wetOrDry_46
      · have h := h.2 g7
        refine lv_aload_n F.x F.b dX0_wetOrDry_41 rfl (lv_at hl 2 rfl) ?_
        refine lv_iconst (v := 1) F.x F.b dX0_wetOrDry_42 (by decide) ?_
        refine kV F C hl (kX3_getDrier  hi1 h) (by omega) (ce_T hi1 _) rfl wv_X0_149 ⟨rfl, rfl, ⟨Nat.le_of_ble_eq_true rfl, Nat.le_of_ble_eq_true rfl⟩, ⟨Nat.le_of_ble_eq_true rfl, Nat.le_of_ble_eq_true rfl⟩, Nat.le_of_ble_eq_true rfl⟩ (rest := []) rfl dX0_wetOrDry_43 (fun S8 H locs h C => ?_)
        exact retV F hr C h dX0_wetOrDry_46
    · have h := h.2 g6
      refine lv_aload_n F.x F.b dX0_wetOrDry_29 rfl (lv_at hl 2 rfl) ?_
      refine lv_iconst (v := 2) F.x F.b dX0_wetOrDry_30 (by decide) ?_
      refine kV F C hl (kX3_getWetter  hi1 h) (by omega) (ce_T hi1 _) rfl wv_X0_137 ⟨rfl, rfl, ⟨Nat.le_of_ble_eq_true rfl, Nat.le_of_ble_eq_true rfl⟩, ⟨Nat.le_of_ble_eq_true rfl, Nat.le_of_ble_eq_true rfl⟩, Nat.le_of_ble_eq_true rfl⟩ (rest := []) rfl dX0_wetOrDry_31 (fun S10 H locs h C => ?_)
      refine lv_goto (tgt := 46) F.x F.b dX0_wetOrDry_34 (by decide) ?_
      exact retV F hr C h dX0_wetOrDry_46
  · have h := h.2 g3
    exact retV F hr C h dX0_wetOrDry_10

def rmX0_wettestOn : Room := { frames := 0, cells := 0, slots := 0, locals := 0 }
def mX0_wettestOn_b8 (post : Int32 → Mem → Prop) : Nat → Mem → Nat → Int32 → Int32 → Int32 → Int32 → Int32 → Prop
  | 0, _, _, _, _, _, _, _ => False
  | n + 1, S, j0, v1, v2, v3, v4, v5 => (((S 0 j0 2) ≤ v5 → (post v3 S)) ∧ (¬ (S 0 j0 2) ≤ v5 → (vp_in v5 8 ∧ ∀ k3 : Nat, k3 = 8 * j0 + v5.toNatClampNeg → ((v5 = v2 → (∀ x5 : Int32, x5 = v5 + (1 : Int32) → mX0_wettestOn_b8 post n S j0 v1 v2 v3 v4 x5)) ∧ (¬ v5 = v2 → (((¬ (S 2 k3 2) = v1 → (∀ x7 : Int32, x7 = v5 + (1 : Int32) → mX0_wettestOn_b8 post n S j0 v1 v2 v3 v4 x7)) ∧ ((S 2 k3 2) = v1 → (((¬ (S 2 k3 3) = 0 → (∀ x9 : Int32, x9 = v5 + (1 : Int32) → mX0_wettestOn_b8 post n S j0 v1 v2 v3 v4 x9)) ∧ ((S 2 k3 3) = 0 → ((((S 2 k3 1) ≤ v4 → (∀ x11 : Int32, x11 = v5 + (1 : Int32) → mX0_wettestOn_b8 post n S j0 v1 v2 v3 v4 x11)) ∧ (¬ (S 2 k3 1) ≤ v4 → (∀ x12 : Int32, x12 = (S 2 k3 1) → ∀ x13 : Int32, x13 = v5 + (1 : Int32) → mX0_wettestOn_b8 post n S j0 v1 v2 v5 x12 x13)))))))))))))))
def mX0_wettestOn (post : Int32 → Mem → Prop) (S : Mem) (j0 : Nat) (v1 : Int32) (v2 : Int32) : Prop := ∃ fu : Nat, mX0_wettestOn_b8 post fu S j0 v1 v2 (-1 : Int32) (0 : Int32) (0 : Int32)
set_option maxRecDepth 100000 in
set_option maxHeartbeats 4000000 in
theorem bX0_wettestOn_8 {p : Program} {l : Launch} {e : Env} {s : State} {m : MethodId} {args : Array Value} {below : List Frame} {meth : Method} {c : Code} {D : va_G} {ky : Nat → ClassId} {ad : Nat → Nat} {ex : Nat → Nat → Nat} (F : Fx p s m args meth c D ky ad ex cX0_wettestOn 7 yX0_wettestOn.cls) (hr : meth.sig.returnType = (some .int)) {post : Int32 → Mem → Prop} : ∀ (n : Nat) (S : Mem) (j0 : Nat) (v1 : Int32) (v2 : Int32) (v3 : Int32) (v4 : Int32) (v5 : Int32) (H : Heap) (locs : List Loc) (ls : Array Slot), j0 < 10 → mX0_wettestOn_b8 post n S j0 v1 v2 v3 v4 v5 → Cx D ky ad s S H locs → lv_has ls 7 [(0, .ref (ad j0)), (1, .int v1), (2, .int v2), (3, .int v3), (4, .int v4), (5, .int v5)] → W p l e rmX0_wettestOn s m args below meth c H locs 0 0 (MQ below (va_Qi post (AFT D ky ad) (AW ad s.heap.size)) args s 0 0 (AW ad s.heap.size)) (F0 m 8 ls []) := by
  intro n
  induction n with
  | zero =>
    intro S j0 v1 v2 v3 v4 v5 H locs ls hj0 h
    exact False.elim h
  | succ n ih =>
    intro S j0 v1 v2 v3 v4 v5 H locs ls hj0 h C hl
    refine lv_iload F.x F.b dX0_wettestOn_8 (lv_at hl 5 rfl) ?_
    refine lv_aload_n F.x F.b dX0_wettestOn_10 rfl (lv_at hl 0 rfl) ?_
    refine getF F C hj0 2 (by decide) q1_89 (v := .int (S 0 j0 2)) rfl dX0_wettestOn_11 ?_
    refine lv_icmp_ge (tgt := 75) F.x F.b dX0_wettestOn_14 (by decide) (fun g1 => ?_) (fun g1 => ?_)
    · have h := h.1 g1
      refine lv_iload_n F.x F.b dX0_wettestOn_75 rfl (lv_at hl 3 rfl) ?_
      exact retI F hr C h dX0_wettestOn_76
    · have h := h.2 g1
      refine lv_aload_n F.x F.b dX0_wettestOn_17 rfl (lv_at hl 0 rfl) ?_
      refine getF F C hj0 1 (by decide) q1_86 (v := .ref (ad (100 + j0))) rfl dX0_wettestOn_18 ?_
      refine lv_iload F.x F.b dX0_wettestOn_21 (lv_at hl 5 rfl) ?_
      obtain ⟨g2, h⟩ := h
      refine aldT F C hj0 g2 dX0_wettestOn_23 ?_
      obtain ⟨k3, ek3⟩ : ∃ z : Nat, z = 8 * j0 + v5.toNatClampNeg := ⟨_, rfl⟩
      have hk3 : k3 < 80 := by rw [ek3]; exact tv_lt g2 hj0
      rw [← ek3]
      have h := h k3 ek3
      refine lv_astore (lv' := [(6, .ref (ad (20 + k3))), (0, .ref (ad j0)), (1, .int v1), (2, .int v2), (3, .int v3), (4, .int v4), (5, .int v5)]) F.x F.b dX0_wettestOn_24 hl (by decide) rfl (fun ls hl => ?_)
      refine lv_iload F.x F.b dX0_wettestOn_26 (lv_at hl 6 rfl) ?_
      refine lv_iload_n F.x F.b dX0_wettestOn_28 rfl (lv_at hl 3 rfl) ?_
      refine lv_icmp_eq (tgt := 69) F.x F.b dX0_wettestOn_29 (by decide) (fun g4 => ?_) (fun g4 => ?_)
      · have h := h.1 g4
        obtain ⟨x5, ex5⟩ : ∃ z : Int32, z = v5 + (1 : Int32) := ⟨_, rfl⟩
        have h := h x5 ex5
        refine lv_iinc (v := x5) (lv' := [(5, .int x5), (6, .ref (ad (20 + k3))), (0, .ref (ad j0)), (1, .int v1), (2, .int v2), (3, .int v3), (4, .int v4)]) F.x F.b dX0_wettestOn_69 hl (k := 6) rfl (by rw [ex5]; rfl) (by decide) rfl (fun ls hl => ?_)
        refine lv_goto (tgt := 8) F.x F.b dX0_wettestOn_72 (by decide) ?_
        exact ih S j0 v1 v2 v3 v4 x5 _ _ _ hj0 h C (lv_sub hl [2, 3, 4, 5, 6, 0] rfl)
      · have h := h.2 g4
        refine lv_aload F.x F.b dX0_wettestOn_32 (lv_at hl 0 rfl) ?_
        refine getTN F C hk3 2 (by decide) q1_51 (v := .int (S 2 k3 2)) rfl dX0_wettestOn_34 ?_
        refine lv_iload_n F.x F.b dX0_wettestOn_37 rfl (lv_at hl 2 rfl) ?_
        refine lv_icmp_ne (tgt := 69) F.x F.b dX0_wettestOn_38 (by decide) (fun g6 => ?_) (fun g6 => ?_)
        · have h := h.1 g6
          obtain ⟨x7, ex7⟩ : ∃ z : Int32, z = v5 + (1 : Int32) := ⟨_, rfl⟩
          have h := h x7 ex7
          refine lv_iinc (v := x7) (lv' := [(5, .int x7), (6, .ref (ad (20 + k3))), (0, .ref (ad j0)), (1, .int v1), (2, .int v2), (3, .int v3), (4, .int v4)]) F.x F.b dX0_wettestOn_69 hl (k := 6) rfl (by rw [ex7]; rfl) (by decide) rfl (fun ls hl => ?_)
          refine lv_goto (tgt := 8) F.x F.b dX0_wettestOn_72 (by decide) ?_
          exact ih S j0 v1 v2 v3 v4 x7 _ _ _ hj0 h C (lv_sub hl [2, 3, 4, 5, 6, 0] rfl)
        · have h := h.2 g6
          refine lv_aload F.x F.b dX0_wettestOn_41 (lv_at hl 0 rfl) ?_
          refine getTN F C hk3 3 (by decide) q1_54 (v := .int (S 2 k3 3)) rfl dX0_wettestOn_43 ?_
          refine lv_if_ne (tgt := 69) F.x F.b dX0_wettestOn_46 (by decide) (fun g8 => ?_) (fun g8 => ?_)
          · have h := h.1 g8
            obtain ⟨x9, ex9⟩ : ∃ z : Int32, z = v5 + (1 : Int32) := ⟨_, rfl⟩
            have h := h x9 ex9
            refine lv_iinc (v := x9) (lv' := [(5, .int x9), (6, .ref (ad (20 + k3))), (0, .ref (ad j0)), (1, .int v1), (2, .int v2), (3, .int v3), (4, .int v4)]) F.x F.b dX0_wettestOn_69 hl (k := 6) rfl (by rw [ex9]; rfl) (by decide) rfl (fun ls hl => ?_)
            refine lv_goto (tgt := 8) F.x F.b dX0_wettestOn_72 (by decide) ?_
            exact ih S j0 v1 v2 v3 v4 x9 _ _ _ hj0 h C (lv_sub hl [2, 3, 4, 5, 6, 0] rfl)
          · have h := h.2 g8
            refine lv_aload F.x F.b dX0_wettestOn_49 (lv_at hl 0 rfl) ?_
            refine getTN F C hk3 1 (by decide) q1_49 (v := .int (S 2 k3 1)) rfl dX0_wettestOn_51 ?_
            refine lv_iload F.x F.b dX0_wettestOn_54 (lv_at hl 5 rfl) ?_
            refine lv_icmp_le (tgt := 69) F.x F.b dX0_wettestOn_56 (by decide) (fun g10 => ?_) (fun g10 => ?_)
            · have h := h.1 g10
              obtain ⟨x11, ex11⟩ : ∃ z : Int32, z = v5 + (1 : Int32) := ⟨_, rfl⟩
              have h := h x11 ex11
              refine lv_iinc (v := x11) (lv' := [(5, .int x11), (6, .ref (ad (20 + k3))), (0, .ref (ad j0)), (1, .int v1), (2, .int v2), (3, .int v3), (4, .int v4)]) F.x F.b dX0_wettestOn_69 hl (k := 6) rfl (by rw [ex11]; rfl) (by decide) rfl (fun ls hl => ?_)
              refine lv_goto (tgt := 8) F.x F.b dX0_wettestOn_72 (by decide) ?_
              exact ih S j0 v1 v2 v3 v4 x11 _ _ _ hj0 h C (lv_sub hl [2, 3, 4, 5, 6, 0] rfl)
            · have h := h.2 g10
              refine lv_iload F.x F.b dX0_wettestOn_59 (lv_at hl 6 rfl) ?_
              refine lv_istore_n (lv' := [(3, .int v5), (6, .ref (ad (20 + k3))), (0, .ref (ad j0)), (1, .int v1), (2, .int v2), (4, .int v4), (5, .int v5)]) F.x F.b dX0_wettestOn_61 rfl hl (by decide) rfl (fun ls hl => ?_)
              refine lv_aload F.x F.b dX0_wettestOn_62 (lv_at hl 1 rfl) ?_
              refine getTN F C hk3 1 (by decide) q1_49 (v := .int (S 2 k3 1)) rfl dX0_wettestOn_64 ?_
              refine lv_topi (fun x12 ex12 => ?_)
              have h := h x12 ex12
              refine lv_istore (lv' := [(4, .int x12), (3, .int v5), (6, .ref (ad (20 + k3))), (0, .ref (ad j0)), (1, .int v1), (2, .int v2), (5, .int v5)]) F.x F.b dX0_wettestOn_67 hl (by decide) rfl (fun ls hl => ?_)
              obtain ⟨x13, ex13⟩ : ∃ z : Int32, z = v5 + (1 : Int32) := ⟨_, rfl⟩
              have h := h x13 ex13
              refine lv_iinc (v := x13) (lv' := [(5, .int x13), (4, .int x12), (3, .int v5), (6, .ref (ad (20 + k3))), (0, .ref (ad j0)), (1, .int v1), (2, .int v2)]) F.x F.b dX0_wettestOn_69 hl (k := 6) rfl (by rw [ex13]; rfl) (by decide) rfl (fun ls hl => ?_)
              refine lv_goto (tgt := 8) F.x F.b dX0_wettestOn_72 (by decide) ?_
              exact ih S j0 v1 v2 v5 x12 x13 _ _ _ hj0 h C (lv_sub hl [4, 5, 6, 2, 1, 0] rfl)
set_option maxRecDepth 100000 in
set_option maxHeartbeats 4000000 in
theorem kX0_wettestOn {l : Launch} {D : va_G} {ky : Nat → ClassId} {ad : Nat → Nat} {ex : Nat → Nat → Nat} {post : Int32 → Mem → Prop} {S : Mem} {j0 : Nat} {v1 : Int32} {v2 : Int32} (hj0 : j0 < 10) (h : mX0_wettestOn post S j0 v1 v2) : CMi l D ky ad ex yX0_wettestOn cX0_wettestOn 7 (some .int) rmX0_wettestOn 0 0 [.ref (ad j0), .int v1, .int v2] S post := by
  refine CMi.of (by decide) (Nat.le_of_ble_eq_true rfl) (fun p e s m args below meth c ls F hr C hl => ?_)
  have hl : lv_has ls 7 [(0, .ref (ad j0)), (1, .int v1), (2, .int v2)] := hl
  unfold mX0_wettestOn at h
  refine lv_iconst (v := -1) F.x F.b dX0_wettestOn_0 (by decide) ?_
  refine lv_istore_n (lv' := [(3, .int (-1 : Int32)), (0, .ref (ad j0)), (1, .int v1), (2, .int v2)]) F.x F.b dX0_wettestOn_1 rfl hl (by decide) rfl (fun ls hl => ?_)
  refine lv_iconst (v := 0) F.x F.b dX0_wettestOn_2 (by decide) ?_
  refine lv_istore (lv' := [(4, .int (0 : Int32)), (3, .int (-1 : Int32)), (0, .ref (ad j0)), (1, .int v1), (2, .int v2)]) F.x F.b dX0_wettestOn_3 hl (by decide) rfl (fun ls hl => ?_)
  refine lv_iconst (v := 0) F.x F.b dX0_wettestOn_5 (by decide) ?_
  refine lv_istore (lv' := [(5, .int (0 : Int32)), (4, .int (0 : Int32)), (3, .int (-1 : Int32)), (0, .ref (ad j0)), (1, .int v1), (2, .int v2)]) F.x F.b dX0_wettestOn_6 hl (by decide) rfl (fun ls hl => ?_)
  obtain ⟨n1, h⟩ := h
  exact bX0_wettestOn_8 F hr n1 S j0 v1 v2 (-1 : Int32) (0 : Int32) (0 : Int32) _ _ _ hj0 h C (lv_sub hl [3, 4, 5, 2, 1, 0] rfl)

def rmX0_heat : Room := { frames := 2, cells := 0, slots := 0, locals := 36 }
def mX0_heat_b29 (post : Mem → Prop) (S : Mem) (j0 : Nat) (v3 : Int32) : Prop := ((v3 = (-1 : Int32) → (post S)) ∧ (¬ v3 = (-1 : Int32) → (vp_in v3 8 ∧ ∀ k3 : Nat, k3 = 8 * j0 + v3.toNatClampNeg → mX3_getDrier (fun (S4 : Mem) => post S4) S k3 (3 : Int32))))
def mX0_heat (post : Mem → Prop) (S : Mem) (j0 : Nat) (v1 : Int32) : Prop := mX0_wettestOn (fun (r2 : Int32) (S1 : Mem) => mX0_wettestOn (fun (r4 : Int32) (S3 : Mem) => ((r2 = (-1 : Int32) → (mX0_heat_b29 post S3 j0 r4)) ∧ (¬ r2 = (-1 : Int32) → (vp_in r2 8 ∧ ∀ k7 : Nat, k7 = 8 * j0 + r2.toNatClampNeg → mX3_getDrier (fun (S8 : Mem) => mX0_heat_b29 post S8 j0 r4) S3 k7 (3 : Int32))))) S1 j0 v1 r2) S j0 v1 (-1 : Int32)
set_option maxRecDepth 100000 in
set_option maxHeartbeats 4000000 in
theorem bX0_heat_29 {p : Program} {l : Launch} {e : Env} {s : State} {m : MethodId} {args : Array Value} {below : List Frame} {meth : Method} {c : Code} {D : va_G} {ky : Nat → ClassId} {ad : Nat → Nat} {ex : Nat → Nat → Nat} (F : Fx p s m args meth c D ky ad ex cX0_heat 4 yX0_heat.cls) (hr : meth.sig.returnType = none) {post : Mem → Prop} : ∀ (S : Mem) (j0 : Nat) (v3 : Int32) (H : Heap) (locs : List Loc) (ls : Array Slot), j0 < 10 → mX0_heat_b29 post S j0 v3 → Cx D ky ad s S H locs → lv_has ls 4 [(0, .ref (ad j0)), (3, .int v3)] → W p l e rmX0_heat s m args below meth c H locs 0 0 (MQ below (va_Qv post (AFT D ky ad) (AW ad s.heap.size)) args s 0 0 (AW ad s.heap.size)) (F0 m 29 ls []) := by
  intro S j0 v3 H locs ls hj0 h C hl
  unfold mX0_heat_b29 at h
  refine lv_iload_n F.x F.b dX0_heat_29 rfl (lv_at hl 1 rfl) ?_
  refine lv_iconst (v := -1) F.x F.b dX0_heat_30 (by decide) ?_
  refine lv_icmp_eq (tgt := 44) F.x F.b dX0_heat_31 (by decide) (fun g1 => ?_) (fun g1 => ?_)
  · have h := h.1 g1
    exact retV F hr C h dX0_heat_44
  · have h := h.2 g1
    refine lv_aload_n F.x F.b dX0_heat_34 rfl (lv_at hl 0 rfl) ?_
    refine getF F C hj0 1 (by decide) q1_86 (v := .ref (ad (100 + j0))) rfl dX0_heat_35 ?_
    refine lv_iload_n F.x F.b dX0_heat_38 rfl (lv_at hl 1 rfl) ?_
    obtain ⟨g2, h⟩ := h
    refine aldT F C hj0 g2 dX0_heat_39 ?_
    obtain ⟨k3, ek3⟩ : ∃ z : Nat, z = 8 * j0 + v3.toNatClampNeg := ⟨_, rfl⟩
    have hk3 : k3 < 80 := by rw [ek3]; exact tv_lt g2 hj0
    rw [← ek3]
    have h := h k3 ek3
    refine lv_iconst (v := 3) F.x F.b dX0_heat_40 (by decide) ?_
    refine kV F C hl (kX3_getDrier  hk3 h) (by omega) (ce_T hk3 _) rfl wv_X0_149 ⟨rfl, rfl, ⟨Nat.le_of_ble_eq_true rfl, Nat.le_of_ble_eq_true rfl⟩, ⟨Nat.le_of_ble_eq_true rfl, Nat.le_of_ble_eq_true rfl⟩, Nat.le_of_ble_eq_true rfl⟩ (rest := []) rfl dX0_heat_41 (fun S4 H locs h C => ?_)
    exact retV F hr C h dX0_heat_44
set_option maxRecDepth 100000 in
set_option maxHeartbeats 4000000 in
theorem kX0_heat {l : Launch} {D : va_G} {ky : Nat → ClassId} {ad : Nat → Nat} {ex : Nat → Nat → Nat} {post : Mem → Prop} {S : Mem} {j0 : Nat} {v1 : Int32} (hj0 : j0 < 10) (h : mX0_heat post S j0 v1) : CMv l D ky ad ex yX0_heat cX0_heat 4 none rmX0_heat 0 0 [.ref (ad j0), .int v1] S post := by
  refine CMv.of (by decide) (Nat.le_of_ble_eq_true rfl) (fun p e s m args below meth c ls F hr C hl => ?_)
  have hl : lv_has ls 4 [(0, .ref (ad j0)), (1, .int v1)] := hl
  unfold mX0_heat at h
  refine lv_aload_n F.x F.b dX0_heat_0 rfl (lv_at hl 0 rfl) ?_
  refine lv_iload_n F.x F.b dX0_heat_1 rfl (lv_at hl 1 rfl) ?_
  refine lv_iconst (v := -1) F.x F.b dX0_heat_2 (by decide) ?_
  refine kI F C hl (kX0_wettestOn  hj0 h) (by omega) (ce_F hj0 _) rfl wv_X0_152 ⟨rfl, rfl, ⟨Nat.le_of_ble_eq_true rfl, Nat.le_of_ble_eq_true rfl⟩, ⟨Nat.le_of_ble_eq_true rfl, Nat.le_of_ble_eq_true rfl⟩, Nat.le_of_ble_eq_true rfl⟩ (rest := []) rfl dX0_heat_3 (fun r2 S1 H locs h C => ?_)
  refine lv_istore_n (lv' := [(2, .int r2), (0, .ref (ad j0)), (1, .int v1)]) F.x F.b dX0_heat_6 rfl hl (by decide) rfl (fun ls hl => ?_)
  refine lv_aload_n F.x F.b dX0_heat_7 rfl (lv_at hl 1 rfl) ?_
  refine lv_iload_n F.x F.b dX0_heat_8 rfl (lv_at hl 2 rfl) ?_
  refine lv_iload_n F.x F.b dX0_heat_9 rfl (lv_at hl 0 rfl) ?_
  refine kI F C hl (kX0_wettestOn  hj0 h) (by omega) (ce_F hj0 _) rfl wv_X0_152 ⟨rfl, rfl, ⟨Nat.le_of_ble_eq_true rfl, Nat.le_of_ble_eq_true rfl⟩, ⟨Nat.le_of_ble_eq_true rfl, Nat.le_of_ble_eq_true rfl⟩, Nat.le_of_ble_eq_true rfl⟩ (rest := []) rfl dX0_heat_10 (fun r4 S3 H locs h C => ?_)
  refine lv_istore_n (lv' := [(3, .int r4), (2, .int r2), (0, .ref (ad j0)), (1, .int v1)]) F.x F.b dX0_heat_13 rfl hl (by decide) rfl (fun ls hl => ?_)
  refine lv_iload_n F.x F.b dX0_heat_14 rfl (lv_at hl 1 rfl) ?_
  refine lv_iconst (v := -1) F.x F.b dX0_heat_15 (by decide) ?_
  refine lv_icmp_eq (tgt := 29) F.x F.b dX0_heat_16 (by decide) (fun g5 => ?_) (fun g5 => ?_)
  · have h := h.1 g5
    exact bX0_heat_29 F hr S3 j0 r4 _ _ _ hj0 h C (lv_sub hl [2, 0] rfl)
  · have h := h.2 g5
    refine lv_aload_n F.x F.b dX0_heat_19 rfl (lv_at hl 2 rfl) ?_
    refine getF F C hj0 1 (by decide) q1_86 (v := .ref (ad (100 + j0))) rfl dX0_heat_20 ?_
    refine lv_iload_n F.x F.b dX0_heat_23 rfl (lv_at hl 1 rfl) ?_
    obtain ⟨g6, h⟩ := h
    refine aldT F C hj0 g6 dX0_heat_24 ?_
    obtain ⟨k7, ek7⟩ : ∃ z : Nat, z = 8 * j0 + r2.toNatClampNeg := ⟨_, rfl⟩
    have hk7 : k7 < 80 := by rw [ek7]; exact tv_lt g6 hj0
    rw [← ek7]
    have h := h k7 ek7
    refine lv_iconst (v := 3) F.x F.b dX0_heat_25 (by decide) ?_
    refine kV F C hl (kX3_getDrier  hk7 h) (by omega) (ce_T hk7 _) rfl wv_X0_149 ⟨rfl, rfl, ⟨Nat.le_of_ble_eq_true rfl, Nat.le_of_ble_eq_true rfl⟩, ⟨Nat.le_of_ble_eq_true rfl, Nat.le_of_ble_eq_true rfl⟩, Nat.le_of_ble_eq_true rfl⟩ (rest := []) rfl dX0_heat_26 (fun S8 H locs h C => ?_)
    exact bX0_heat_29 F hr S8 j0 r4 _ _ _ hj0 h C (lv_sub hl [2, 0] rfl)

def rmX0_letHourGoBy : Room := { frames := 4, cells := 0, slots := 0, locals := 94 }
def mX0_letHourGoBy_b66 (post : Mem → Prop) : Nat → Mem → Nat → Int32 → Prop
  | 0, _, _, _ => False
  | n + 1, S, j0, v1 => (((S 0 j0 2) ≤ v1 → (mX0_heat (fun (S2 : Mem) => mX0_heat (fun (S4 : Mem) => ∀ S6 : Mem, S6 = wr S4 0 j0 3 ((S4 0 j0 3) + (1 : Int32)) → post S6) S2 j0 (10 : Int32)) S j0 (-1 : Int32))) ∧ (¬ (S 0 j0 2) ≤ v1 → (vp_in v1 8 ∧ ∀ k8 : Nat, k8 = 8 * j0 + v1.toNatClampNeg → mX0_wetOrDry (fun (S9 : Mem) => ∀ x11 : Int32, x11 = v1 + (1 : Int32) → mX0_letHourGoBy_b66 post n S9 j0 x11) S j0 k8)))
def mX0_letHourGoBy_b40 (post : Mem → Prop) : Nat → Mem → Nat → Int32 → Prop
  | 0, _, _, _ => False
  | n + 1, S, j0, v1 => (((S 0 j0 2) ≤ v1 → (∃ fu : Nat, mX0_letHourGoBy_b66 post fu S j0 (0 : Int32))) ∧ (¬ (S 0 j0 2) ≤ v1 → (vp_in v1 8 ∧ ∀ k4 : Nat, k4 = 8 * j0 + v1.toNatClampNeg → mX0_sendOn (fun (S5 : Mem) => ∀ x7 : Int32, x7 = v1 + (1 : Int32) → mX0_letHourGoBy_b40 post n S5 j0 x7) S j0 k4)))
def mX0_letHourGoBy_b14 (post : Mem → Prop) : Nat → Mem → Nat → Int32 → Prop
  | 0, _, _, _ => False
  | n + 1, S, j0, v1 => (((S 0 j0 2) ≤ v1 → (∃ fu : Nat, mX0_letHourGoBy_b40 post fu S j0 (0 : Int32))) ∧ (¬ (S 0 j0 2) ≤ v1 → (vp_in v1 8 ∧ ∀ k4 : Nat, k4 = 8 * j0 + v1.toNatClampNeg → mX0_sendBack (fun (S5 : Mem) => ∀ x7 : Int32, x7 = v1 + (1 : Int32) → mX0_letHourGoBy_b14 post n S5 j0 x7) S j0 k4)))
def mX0_letHourGoBy (post : Mem → Prop) (S : Mem) (j0 : Nat) : Prop := mX0_levelAfterHour (fun (r2 : Int32) (S1 : Mem) => ∀ S3 : Mem, S3 = wr S1 0 j0 4 r2 → ∃ fu : Nat, mX0_letHourGoBy_b14 post fu S3 j0 (0 : Int32)) S j0 (S 0 j0 4)
set_option maxRecDepth 100000 in
set_option maxHeartbeats 4000000 in
theorem bX0_letHourGoBy_66 {p : Program} {l : Launch} {e : Env} {s : State} {m : MethodId} {args : Array Value} {below : List Frame} {meth : Method} {c : Code} {D : va_G} {ky : Nat → ClassId} {ad : Nat → Nat} {ex : Nat → Nat → Nat} (F : Fx p s m args meth c D ky ad ex cX0_letHourGoBy 2 yX0_letHourGoBy.cls) (hr : meth.sig.returnType = none) {post : Mem → Prop} : ∀ (n : Nat) (S : Mem) (j0 : Nat) (v1 : Int32) (H : Heap) (locs : List Loc) (ls : Array Slot), j0 < 10 → mX0_letHourGoBy_b66 post n S j0 v1 → Cx D ky ad s S H locs → lv_has ls 2 [(0, .ref (ad j0)), (1, .int v1)] → W p l e rmX0_letHourGoBy s m args below meth c H locs 0 0 (MQ below (va_Qv post (AFT D ky ad) (AW ad s.heap.size)) args s 0 0 (AW ad s.heap.size)) (F0 m 66 ls []) := by
  intro n
  induction n with
  | zero =>
    intro S j0 v1 H locs ls hj0 h
    exact False.elim h
  | succ n ih =>
    intro S j0 v1 H locs ls hj0 h C hl
    refine lv_iload_n F.x F.b dX0_letHourGoBy_66 rfl (lv_at hl 1 rfl) ?_
    refine lv_aload_n F.x F.b dX0_letHourGoBy_67 rfl (lv_at hl 0 rfl) ?_
    refine getF F C hj0 2 (by decide) q1_89 (v := .int (S 0 j0 2)) rfl dX0_letHourGoBy_68 ?_
    refine lv_icmp_ge (tgt := 90) F.x F.b dX0_letHourGoBy_71 (by decide) (fun g1 => ?_) (fun g1 => ?_)
    · have h := h.1 g1
      refine lv_aload_n F.x F.b dX0_letHourGoBy_90 rfl (lv_at hl 0 rfl) ?_
      refine lv_iconst (v := -1) F.x F.b dX0_letHourGoBy_91 (by decide) ?_
      refine kV F C hl (kX0_heat  hj0 h) (by omega) (ce_F hj0 _) rfl wv_X0_134 ⟨rfl, rfl, ⟨Nat.le_of_ble_eq_true rfl, Nat.le_of_ble_eq_true rfl⟩, ⟨Nat.le_of_ble_eq_true rfl, Nat.le_of_ble_eq_true rfl⟩, Nat.le_of_ble_eq_true rfl⟩ (rest := []) rfl dX0_letHourGoBy_92 (fun S2 H locs h C => ?_)
      refine lv_aload_n F.x F.b dX0_letHourGoBy_95 rfl (lv_at hl 0 rfl) ?_
      refine lv_bipush (v := 10) F.x F.b dX0_letHourGoBy_96 (by decide) ?_
      refine kV F C hl (kX0_heat  hj0 h) (by omega) (ce_F hj0 _) rfl wv_X0_134 ⟨rfl, rfl, ⟨Nat.le_of_ble_eq_true rfl, Nat.le_of_ble_eq_true rfl⟩, ⟨Nat.le_of_ble_eq_true rfl, Nat.le_of_ble_eq_true rfl⟩, Nat.le_of_ble_eq_true rfl⟩ (rest := []) rfl dX0_letHourGoBy_98 (fun S4 H locs h C => ?_)
      refine lv_aload_n F.x F.b dX0_letHourGoBy_101 rfl (lv_at hl 0 rfl) ?_
      refine lv_dup F.x F.b dX0_letHourGoBy_102 rfl ?_
      refine getF F C hj0 3 (by decide) q1_92 (v := .int (S4 0 j0 3)) rfl dX0_letHourGoBy_103 ?_
      refine lv_iconst (v := 1) F.x F.b dX0_letHourGoBy_106 (by decide) ?_
      refine lv_iadd F.x F.b dX0_letHourGoBy_107 ?_
      refine putF F C hj0 3 (by decide) q1_92 rfl (tyX0_ok 3 (by decide)) rfl rfl rfl dX0_letHourGoBy_108 (fun H locs C => ?_)
      obtain ⟨S6, eS6⟩ : ∃ z : Mem, z = wr S4 0 j0 3 ((S4 0 j0 3) + (1 : Int32)) := ⟨_, rfl⟩
      rw [← eS6] at C
      have h := h S6 eS6
      exact retV F hr C h dX0_letHourGoBy_111
    · have h := h.2 g1
      refine lv_aload_n F.x F.b dX0_letHourGoBy_74 rfl (lv_at hl 0 rfl) ?_
      refine lv_aload_n F.x F.b dX0_letHourGoBy_75 rfl (lv_at hl 0 rfl) ?_
      refine getF F C hj0 1 (by decide) q1_86 (v := .ref (ad (100 + j0))) rfl dX0_letHourGoBy_76 ?_
      refine lv_iload_n F.x F.b dX0_letHourGoBy_79 rfl (lv_at hl 1 rfl) ?_
      obtain ⟨g7, h⟩ := h
      refine aldT F C hj0 g7 dX0_letHourGoBy_80 ?_
      obtain ⟨k8, ek8⟩ : ∃ z : Nat, z = 8 * j0 + v1.toNatClampNeg := ⟨_, rfl⟩
      have hk8 : k8 < 80 := by rw [ek8]; exact tv_lt g7 hj0
      rw [← ek8]
      have h := h k8 ek8
      refine kV F C hl (kX0_wetOrDry  hj0 hk8 h) (by omega) (ce_F hj0 _) rfl wv_X0_131 ⟨rfl, rfl, ⟨Nat.le_of_ble_eq_true rfl, Nat.le_of_ble_eq_true rfl⟩, ⟨Nat.le_of_ble_eq_true rfl, Nat.le_of_ble_eq_true rfl⟩, Nat.le_of_ble_eq_true rfl⟩ (rest := []) rfl dX0_letHourGoBy_81 (fun S9 H locs h C => ?_)
      obtain ⟨x11, ex11⟩ : ∃ z : Int32, z = v1 + (1 : Int32) := ⟨_, rfl⟩
      have h := h x11 ex11
      refine lv_iinc (v := x11) (lv' := [(1, .int x11), (0, .ref (ad j0))]) F.x F.b dX0_letHourGoBy_84 hl (k := 1) rfl (by rw [ex11]; rfl) (by decide) rfl (fun ls hl => ?_)
      refine lv_goto (tgt := 66) F.x F.b dX0_letHourGoBy_87 (by decide) ?_
      exact ih S9 j0 x11 _ _ _ hj0 h C (lv_sub hl [1, 0] rfl)
set_option maxRecDepth 100000 in
set_option maxHeartbeats 4000000 in
theorem bX0_letHourGoBy_40 {p : Program} {l : Launch} {e : Env} {s : State} {m : MethodId} {args : Array Value} {below : List Frame} {meth : Method} {c : Code} {D : va_G} {ky : Nat → ClassId} {ad : Nat → Nat} {ex : Nat → Nat → Nat} (F : Fx p s m args meth c D ky ad ex cX0_letHourGoBy 2 yX0_letHourGoBy.cls) (hr : meth.sig.returnType = none) {post : Mem → Prop} : ∀ (n : Nat) (S : Mem) (j0 : Nat) (v1 : Int32) (H : Heap) (locs : List Loc) (ls : Array Slot), j0 < 10 → mX0_letHourGoBy_b40 post n S j0 v1 → Cx D ky ad s S H locs → lv_has ls 2 [(0, .ref (ad j0)), (1, .int v1)] → W p l e rmX0_letHourGoBy s m args below meth c H locs 0 0 (MQ below (va_Qv post (AFT D ky ad) (AW ad s.heap.size)) args s 0 0 (AW ad s.heap.size)) (F0 m 40 ls []) := by
  intro n
  induction n with
  | zero =>
    intro S j0 v1 H locs ls hj0 h
    exact False.elim h
  | succ n ih =>
    intro S j0 v1 H locs ls hj0 h C hl
    refine lv_iload_n F.x F.b dX0_letHourGoBy_40 rfl (lv_at hl 1 rfl) ?_
    refine lv_aload_n F.x F.b dX0_letHourGoBy_41 rfl (lv_at hl 0 rfl) ?_
    refine getF F C hj0 2 (by decide) q1_89 (v := .int (S 0 j0 2)) rfl dX0_letHourGoBy_42 ?_
    refine lv_icmp_ge (tgt := 64) F.x F.b dX0_letHourGoBy_45 (by decide) (fun g1 => ?_) (fun g1 => ?_)
    · have h := h.1 g1
      refine lv_iconst (v := 0) F.x F.b dX0_letHourGoBy_64 (by decide) ?_
      refine lv_istore_n (lv' := [(1, .int (0 : Int32)), (0, .ref (ad j0))]) F.x F.b dX0_letHourGoBy_65 rfl hl (by decide) rfl (fun ls hl => ?_)
      obtain ⟨n2, h⟩ := h
      exact bX0_letHourGoBy_66 F hr n2 S j0 (0 : Int32) _ _ _ hj0 h C (lv_sub hl [1, 0] rfl)
    · have h := h.2 g1
      refine lv_aload_n F.x F.b dX0_letHourGoBy_48 rfl (lv_at hl 0 rfl) ?_
      refine lv_aload_n F.x F.b dX0_letHourGoBy_49 rfl (lv_at hl 0 rfl) ?_
      refine getF F C hj0 1 (by decide) q1_86 (v := .ref (ad (100 + j0))) rfl dX0_letHourGoBy_50 ?_
      refine lv_iload_n F.x F.b dX0_letHourGoBy_53 rfl (lv_at hl 1 rfl) ?_
      obtain ⟨g3, h⟩ := h
      refine aldT F C hj0 g3 dX0_letHourGoBy_54 ?_
      obtain ⟨k4, ek4⟩ : ∃ z : Nat, z = 8 * j0 + v1.toNatClampNeg := ⟨_, rfl⟩
      have hk4 : k4 < 80 := by rw [ek4]; exact tv_lt g3 hj0
      rw [← ek4]
      have h := h k4 ek4
      refine kV F C hl (kX0_sendOn  hj0 hk4 h) (by omega) (ce_F hj0 _) rfl wv_X0_128 ⟨rfl, rfl, ⟨Nat.le_of_ble_eq_true rfl, Nat.le_of_ble_eq_true rfl⟩, ⟨Nat.le_of_ble_eq_true rfl, Nat.le_of_ble_eq_true rfl⟩, Nat.le_of_ble_eq_true rfl⟩ (rest := []) rfl dX0_letHourGoBy_55 (fun S5 H locs h C => ?_)
      obtain ⟨x7, ex7⟩ : ∃ z : Int32, z = v1 + (1 : Int32) := ⟨_, rfl⟩
      have h := h x7 ex7
      refine lv_iinc (v := x7) (lv' := [(1, .int x7), (0, .ref (ad j0))]) F.x F.b dX0_letHourGoBy_58 hl (k := 1) rfl (by rw [ex7]; rfl) (by decide) rfl (fun ls hl => ?_)
      refine lv_goto (tgt := 40) F.x F.b dX0_letHourGoBy_61 (by decide) ?_
      exact ih S5 j0 x7 _ _ _ hj0 h C (lv_sub hl [1, 0] rfl)
set_option maxRecDepth 100000 in
set_option maxHeartbeats 4000000 in
theorem bX0_letHourGoBy_14 {p : Program} {l : Launch} {e : Env} {s : State} {m : MethodId} {args : Array Value} {below : List Frame} {meth : Method} {c : Code} {D : va_G} {ky : Nat → ClassId} {ad : Nat → Nat} {ex : Nat → Nat → Nat} (F : Fx p s m args meth c D ky ad ex cX0_letHourGoBy 2 yX0_letHourGoBy.cls) (hr : meth.sig.returnType = none) {post : Mem → Prop} : ∀ (n : Nat) (S : Mem) (j0 : Nat) (v1 : Int32) (H : Heap) (locs : List Loc) (ls : Array Slot), j0 < 10 → mX0_letHourGoBy_b14 post n S j0 v1 → Cx D ky ad s S H locs → lv_has ls 2 [(0, .ref (ad j0)), (1, .int v1)] → W p l e rmX0_letHourGoBy s m args below meth c H locs 0 0 (MQ below (va_Qv post (AFT D ky ad) (AW ad s.heap.size)) args s 0 0 (AW ad s.heap.size)) (F0 m 14 ls []) := by
  intro n
  induction n with
  | zero =>
    intro S j0 v1 H locs ls hj0 h
    exact False.elim h
  | succ n ih =>
    intro S j0 v1 H locs ls hj0 h C hl
    refine lv_iload_n F.x F.b dX0_letHourGoBy_14 rfl (lv_at hl 1 rfl) ?_
    refine lv_aload_n F.x F.b dX0_letHourGoBy_15 rfl (lv_at hl 0 rfl) ?_
    refine getF F C hj0 2 (by decide) q1_89 (v := .int (S 0 j0 2)) rfl dX0_letHourGoBy_16 ?_
    refine lv_icmp_ge (tgt := 38) F.x F.b dX0_letHourGoBy_19 (by decide) (fun g1 => ?_) (fun g1 => ?_)
    · have h := h.1 g1
      refine lv_iconst (v := 0) F.x F.b dX0_letHourGoBy_38 (by decide) ?_
      refine lv_istore_n (lv' := [(1, .int (0 : Int32)), (0, .ref (ad j0))]) F.x F.b dX0_letHourGoBy_39 rfl hl (by decide) rfl (fun ls hl => ?_)
      obtain ⟨n2, h⟩ := h
      exact bX0_letHourGoBy_40 F hr n2 S j0 (0 : Int32) _ _ _ hj0 h C (lv_sub hl [1, 0] rfl)
    · have h := h.2 g1
      refine lv_aload_n F.x F.b dX0_letHourGoBy_22 rfl (lv_at hl 0 rfl) ?_
      refine lv_aload_n F.x F.b dX0_letHourGoBy_23 rfl (lv_at hl 0 rfl) ?_
      refine getF F C hj0 1 (by decide) q1_86 (v := .ref (ad (100 + j0))) rfl dX0_letHourGoBy_24 ?_
      refine lv_iload_n F.x F.b dX0_letHourGoBy_27 rfl (lv_at hl 1 rfl) ?_
      obtain ⟨g3, h⟩ := h
      refine aldT F C hj0 g3 dX0_letHourGoBy_28 ?_
      obtain ⟨k4, ek4⟩ : ∃ z : Nat, z = 8 * j0 + v1.toNatClampNeg := ⟨_, rfl⟩
      have hk4 : k4 < 80 := by rw [ek4]; exact tv_lt g3 hj0
      rw [← ek4]
      have h := h k4 ek4
      refine kV F C hl (kX0_sendBack  hj0 hk4 h) (by omega) (ce_F hj0 _) rfl wv_X0_125 ⟨rfl, rfl, ⟨Nat.le_of_ble_eq_true rfl, Nat.le_of_ble_eq_true rfl⟩, ⟨Nat.le_of_ble_eq_true rfl, Nat.le_of_ble_eq_true rfl⟩, Nat.le_of_ble_eq_true rfl⟩ (rest := []) rfl dX0_letHourGoBy_29 (fun S5 H locs h C => ?_)
      obtain ⟨x7, ex7⟩ : ∃ z : Int32, z = v1 + (1 : Int32) := ⟨_, rfl⟩
      have h := h x7 ex7
      refine lv_iinc (v := x7) (lv' := [(1, .int x7), (0, .ref (ad j0))]) F.x F.b dX0_letHourGoBy_32 hl (k := 1) rfl (by rw [ex7]; rfl) (by decide) rfl (fun ls hl => ?_)
      refine lv_goto (tgt := 14) F.x F.b dX0_letHourGoBy_35 (by decide) ?_
      exact ih S5 j0 x7 _ _ _ hj0 h C (lv_sub hl [1, 0] rfl)
set_option maxRecDepth 100000 in
set_option maxHeartbeats 4000000 in
theorem kX0_letHourGoBy {l : Launch} {D : va_G} {ky : Nat → ClassId} {ad : Nat → Nat} {ex : Nat → Nat → Nat} {post : Mem → Prop} {S : Mem} {j0 : Nat} (hj0 : j0 < 10) (h : mX0_letHourGoBy post S j0) : CMv l D ky ad ex yX0_letHourGoBy cX0_letHourGoBy 2 none rmX0_letHourGoBy 0 0 [.ref (ad j0)] S post := by
  refine CMv.of (by decide) (Nat.le_of_ble_eq_true rfl) (fun p e s m args below meth c ls F hr C hl => ?_)
  have hl : lv_has ls 2 [(0, .ref (ad j0))] := hl
  unfold mX0_letHourGoBy at h
  refine lv_aload_n F.x F.b dX0_letHourGoBy_0 rfl (lv_at hl 0 rfl) ?_
  refine lv_aload_n F.x F.b dX0_letHourGoBy_1 rfl (lv_at hl 0 rfl) ?_
  refine lv_aload_n F.x F.b dX0_letHourGoBy_2 rfl (lv_at hl 0 rfl) ?_
  refine getF F C hj0 4 (by decide) q1_94 (v := .int (S 0 j0 4)) rfl dX0_letHourGoBy_3 ?_
  refine kI F C hl (kX0_levelAfterHour  hj0 h) (by omega) (ce_F hj0 _) rfl wv_X0_111 ⟨rfl, rfl, ⟨Nat.le_of_ble_eq_true rfl, Nat.le_of_ble_eq_true rfl⟩, ⟨Nat.le_of_ble_eq_true rfl, Nat.le_of_ble_eq_true rfl⟩, Nat.le_of_ble_eq_true rfl⟩ (rest := [.ref (ad j0)]) rfl dX0_letHourGoBy_6 (fun r2 S1 H locs h C => ?_)
  refine putF F C hj0 4 (by decide) q1_94 rfl (tyX0_ok 4 (by decide)) rfl rfl rfl dX0_letHourGoBy_9 (fun H locs C => ?_)
  obtain ⟨S3, eS3⟩ : ∃ z : Mem, z = wr S1 0 j0 4 r2 := ⟨_, rfl⟩
  rw [← eS3] at C
  have h := h S3 eS3
  refine lv_iconst (v := 0) F.x F.b dX0_letHourGoBy_12 (by decide) ?_
  refine lv_istore_n (lv' := [(1, .int (0 : Int32)), (0, .ref (ad j0))]) F.x F.b dX0_letHourGoBy_13 rfl hl (by decide) rfl (fun ls hl => ?_)
  obtain ⟨n4, h⟩ := h
  exact bX0_letHourGoBy_14 F hr n4 S3 j0 (0 : Int32) _ _ _ hj0 h C (lv_sub hl [1, 0] rfl)
