def rmX3_copyFrom : Room := { frames := 0, cells := 0, slots := 0, locals := 0 }
def mX3_copyFrom (post : Mem → Prop) (S : Mem) (i0 : Nat) (i1 : Nat) : Prop := ∀ S1 : Mem, S1 = wr S 2 i0 0 (S 2 i1 0) → ∀ S2 : Mem, S2 = wr S1 2 i0 1 (S1 2 i1 1) → ∀ S3 : Mem, S3 = wr S2 2 i0 2 (S2 2 i1 2) → isB (S3 2 i1 3) ∧ ∀ S5 : Mem, S5 = wr S3 2 i0 3 (S3 2 i1 3) → isB (S5 2 i1 4) ∧ ∀ S7 : Mem, S7 = wr S5 2 i0 4 (S5 2 i1 4) → isB (S7 2 i1 5) ∧ ∀ S9 : Mem, S9 = wr S7 2 i0 5 (S7 2 i1 5) → ∀ S10 : Mem, S10 = wr S9 2 i0 6 (S9 2 i1 6) → ∀ S11 : Mem, S11 = wr S10 2 i0 7 (S10 2 i1 7) → post S11
set_option maxRecDepth 100000 in
set_option maxHeartbeats 4000000 in
theorem kX3_copyFrom {l : Launch} {D : va_G} {ky : Nat → ClassId} {ad : Nat → Nat} {ex : Nat → Nat → Nat} {post : Mem → Prop} {S : Mem} {i0 : Nat} {i1 : Nat} (hi0 : i0 < 80) (hi1 : i1 < 80) (h : mX3_copyFrom post S i0 i1) : CMv l D ky ad ex yX3_copyFrom cX3_copyFrom 2 none rmX3_copyFrom 0 0 [.ref (ad (20 + i0)), .ref (ad (20 + i1))] S post := by
  refine CMv.of (by decide) (Nat.le_of_ble_eq_true rfl) (fun p e s m args below meth c ls F hr C hl => ?_)
  have hl : lv_has ls 2 [(0, .ref (ad (20 + i0))), (1, .ref (ad (20 + i1)))] := hl
  unfold mX3_copyFrom at h
  refine lv_aload_n F.x F.b dX3_copyFrom_0 rfl (lv_at hl 0 rfl) ?_
  refine lv_aload_n F.x F.b dX3_copyFrom_1 rfl (lv_at hl 1 rfl) ?_
  refine getT F C hi1 0 (by decide) q1_45 (v := .int (S 2 i1 0)) rfl dX3_copyFrom_2 ?_
  refine putT F C hi0 0 (by decide) q1_45 rfl (tyX3_ok 0 (by decide)) rfl rfl rfl dX3_copyFrom_5 (fun H locs C => ?_)
  obtain ⟨S1, eS1⟩ : ∃ z : Mem, z = wr S 2 i0 0 (S 2 i1 0) := ⟨_, rfl⟩
  rw [← eS1] at C
  have h := h S1 eS1
  refine lv_aload_n F.x F.b dX3_copyFrom_8 rfl (lv_at hl 0 rfl) ?_
  refine lv_aload_n F.x F.b dX3_copyFrom_9 rfl (lv_at hl 1 rfl) ?_
  refine getT F C hi1 1 (by decide) q1_47 (v := .int (S1 2 i1 1)) rfl dX3_copyFrom_10 ?_
  refine putT F C hi0 1 (by decide) q1_47 rfl (tyX3_ok 1 (by decide)) rfl rfl rfl dX3_copyFrom_13 (fun H locs C => ?_)
  obtain ⟨S2, eS2⟩ : ∃ z : Mem, z = wr S1 2 i0 1 (S1 2 i1 1) := ⟨_, rfl⟩
  rw [← eS2] at C
  have h := h S2 eS2
  refine lv_aload_n F.x F.b dX3_copyFrom_16 rfl (lv_at hl 0 rfl) ?_
  refine lv_aload_n F.x F.b dX3_copyFrom_17 rfl (lv_at hl 1 rfl) ?_
  refine getT F C hi1 2 (by decide) q1_50 (v := .int (S2 2 i1 2)) rfl dX3_copyFrom_18 ?_
  refine putT F C hi0 2 (by decide) q1_50 rfl (tyX3_ok 2 (by decide)) rfl rfl rfl dX3_copyFrom_21 (fun H locs C => ?_)
  obtain ⟨S3, eS3⟩ : ∃ z : Mem, z = wr S2 2 i0 2 (S2 2 i1 2) := ⟨_, rfl⟩
  rw [← eS3] at C
  have h := h S3 eS3
  refine lv_aload_n F.x F.b dX3_copyFrom_24 rfl (lv_at hl 0 rfl) ?_
  refine lv_aload_n F.x F.b dX3_copyFrom_25 rfl (lv_at hl 1 rfl) ?_
  refine getT F C hi1 3 (by decide) q1_53 (v := .int (S3 2 i1 3)) rfl dX3_copyFrom_26 ?_
  obtain ⟨g4, h⟩ := h
  refine putT F C hi0 3 (by decide) q1_53 rfl (tyX3_ok 3 (by decide)) g4.n g4.f rfl dX3_copyFrom_29 (fun H locs C => ?_)
  obtain ⟨S5, eS5⟩ : ∃ z : Mem, z = wr S3 2 i0 3 (S3 2 i1 3) := ⟨_, rfl⟩
  rw [← eS5] at C
  have h := h S5 eS5
  refine lv_aload_n F.x F.b dX3_copyFrom_32 rfl (lv_at hl 0 rfl) ?_
  refine lv_aload_n F.x F.b dX3_copyFrom_33 rfl (lv_at hl 1 rfl) ?_
  refine getT F C hi1 4 (by decide) q1_56 (v := .int (S5 2 i1 4)) rfl dX3_copyFrom_34 ?_
  obtain ⟨g6, h⟩ := h
  refine putT F C hi0 4 (by decide) q1_56 rfl (tyX3_ok 4 (by decide)) g6.n g6.f rfl dX3_copyFrom_37 (fun H locs C => ?_)
  obtain ⟨S7, eS7⟩ : ∃ z : Mem, z = wr S5 2 i0 4 (S5 2 i1 4) := ⟨_, rfl⟩
  rw [← eS7] at C
  have h := h S7 eS7
  refine lv_aload_n F.x F.b dX3_copyFrom_40 rfl (lv_at hl 0 rfl) ?_
  refine lv_aload_n F.x F.b dX3_copyFrom_41 rfl (lv_at hl 1 rfl) ?_
  refine getT F C hi1 5 (by decide) q1_58 (v := .int (S7 2 i1 5)) rfl dX3_copyFrom_42 ?_
  obtain ⟨g8, h⟩ := h
  refine putT F C hi0 5 (by decide) q1_58 rfl (tyX3_ok 5 (by decide)) g8.n g8.f rfl dX3_copyFrom_45 (fun H locs C => ?_)
  obtain ⟨S9, eS9⟩ : ∃ z : Mem, z = wr S7 2 i0 5 (S7 2 i1 5) := ⟨_, rfl⟩
  rw [← eS9] at C
  have h := h S9 eS9
  refine lv_aload_n F.x F.b dX3_copyFrom_48 rfl (lv_at hl 0 rfl) ?_
  refine lv_aload_n F.x F.b dX3_copyFrom_49 rfl (lv_at hl 1 rfl) ?_
  refine getT F C hi1 6 (by decide) q1_61 (v := .int (S9 2 i1 6)) rfl dX3_copyFrom_50 ?_
  refine putT F C hi0 6 (by decide) q1_61 rfl (tyX3_ok 6 (by decide)) rfl rfl rfl dX3_copyFrom_53 (fun H locs C => ?_)
  obtain ⟨S10, eS10⟩ : ∃ z : Mem, z = wr S9 2 i0 6 (S9 2 i1 6) := ⟨_, rfl⟩
  rw [← eS10] at C
  have h := h S10 eS10
  refine lv_aload_n F.x F.b dX3_copyFrom_56 rfl (lv_at hl 0 rfl) ?_
  refine lv_aload_n F.x F.b dX3_copyFrom_57 rfl (lv_at hl 1 rfl) ?_
  refine getT F C hi1 7 (by decide) q1_64 (v := .int (S10 2 i1 7)) rfl dX3_copyFrom_58 ?_
  refine putT F C hi0 7 (by decide) q1_64 rfl (tyX3_ok 7 (by decide)) rfl rfl rfl dX3_copyFrom_61 (fun H locs C => ?_)
  obtain ⟨S11, eS11⟩ : ∃ z : Mem, z = wr S10 2 i0 7 (S10 2 i1 7) := ⟨_, rfl⟩
  rw [← eS11] at C
  have h := h S11 eS11
  exact retV F hr C h dX3_copyFrom_64

def rmX3_region : Room := { frames := 0, cells := 0, slots := 0, locals := 0 }
def mX3_region (post : Int32 → Mem → Prop) (S : Mem) (i0 : Nat) : Prop := ((¬ (S 2 i0 2) = (-1 : Int32) → (((¬ (S 2 i0 2) = (10 : Int32) → (post (1 : Int32) S)) ∧ ((S 2 i0 2) = (10 : Int32) → (post (2 : Int32) S))))) ∧ ((S 2 i0 2) = (-1 : Int32) → (post (0 : Int32) S)))
set_option maxRecDepth 100000 in
set_option maxHeartbeats 4000000 in
theorem kX3_region {l : Launch} {D : va_G} {ky : Nat → ClassId} {ad : Nat → Nat} {ex : Nat → Nat → Nat} {post : Int32 → Mem → Prop} {S : Mem} {i0 : Nat} (hi0 : i0 < 80) (h : mX3_region post S i0) : CMi l D ky ad ex yX3_region cX3_region 1 (some .int) rmX3_region 0 0 [.ref (ad (20 + i0))] S post := by
  refine CMi.of (by decide) (Nat.le_of_ble_eq_true rfl) (fun p e s m args below meth c ls F hr C hl => ?_)
  have hl : lv_has ls 1 [(0, .ref (ad (20 + i0)))] := hl
  unfold mX3_region at h
  refine lv_aload_n F.x F.b dX3_region_0 rfl (lv_at hl 0 rfl) ?_
  refine getT F C hi0 2 (by decide) q1_50 (v := .int (S 2 i0 2)) rfl dX3_region_1 ?_
  refine lv_iconst (v := -1) F.x F.b dX3_region_4 (by decide) ?_
  refine lv_icmp_ne (tgt := 10) F.x F.b dX3_region_5 (by decide) (fun g1 => ?_) (fun g1 => ?_)
  · have h := h.1 g1
    refine lv_aload_n F.x F.b dX3_region_10 rfl (lv_at hl 0 rfl) ?_
    refine getT F C hi0 2 (by decide) q1_50 (v := .int (S 2 i0 2)) rfl dX3_region_11 ?_
    refine lv_bipush (v := 10) F.x F.b dX3_region_14 (by decide) ?_
    refine lv_icmp_ne (tgt := 23) F.x F.b dX3_region_16 (by decide) (fun g2 => ?_) (fun g2 => ?_)
    · have h := h.1 g2
      refine lv_iconst (v := 1) F.x F.b dX3_region_23 (by decide) ?_
      exact retI F hr C h dX3_region_24
    · have h := h.2 g2
      refine lv_iconst (v := 2) F.x F.b dX3_region_19 (by decide) ?_
      refine lv_goto (tgt := 24) F.x F.b dX3_region_20 (by decide) ?_
      exact retI F hr C h dX3_region_24
  · have h := h.2 g1
    refine lv_iconst (v := 0) F.x F.b dX3_region_8 (by decide) ?_
    exact retI F hr C h dX3_region_9

def rmX3_kind : Room := { frames := 0, cells := 0, slots := 0, locals := 0 }
def mX3_kind (post : Int32 → Mem → Prop) (S : Mem) (i0 : Nat) : Prop := (((3 : Int32) < (S 2 i0 0) → ((((8 : Int32) < (S 2 i0 0) → (post (2 : Int32) S)) ∧ (¬ (8 : Int32) < (S 2 i0 0) → (post (1 : Int32) S))))) ∧ (¬ (3 : Int32) < (S 2 i0 0) → (post (0 : Int32) S)))
set_option maxRecDepth 100000 in
set_option maxHeartbeats 4000000 in
theorem kX3_kind {l : Launch} {D : va_G} {ky : Nat → ClassId} {ad : Nat → Nat} {ex : Nat → Nat → Nat} {post : Int32 → Mem → Prop} {S : Mem} {i0 : Nat} (hi0 : i0 < 80) (h : mX3_kind post S i0) : CMi l D ky ad ex yX3_kind cX3_kind 1 (some .int) rmX3_kind 0 0 [.ref (ad (20 + i0))] S post := by
  refine CMi.of (by decide) (Nat.le_of_ble_eq_true rfl) (fun p e s m args below meth c ls F hr C hl => ?_)
  have hl : lv_has ls 1 [(0, .ref (ad (20 + i0)))] := hl
  unfold mX3_kind at h
  refine lv_aload_n F.x F.b dX3_kind_0 rfl (lv_at hl 0 rfl) ?_
  refine getT F C hi0 0 (by decide) q1_45 (v := .int (S 2 i0 0)) rfl dX3_kind_1 ?_
  refine lv_iconst (v := 3) F.x F.b dX3_kind_4 (by decide) ?_
  refine lv_icmp_gt (tgt := 10) F.x F.b dX3_kind_5 (by decide) (fun g1 => ?_) (fun g1 => ?_)
  · have h := h.1 g1
    refine lv_aload_n F.x F.b dX3_kind_10 rfl (lv_at hl 0 rfl) ?_
    refine getT F C hi0 0 (by decide) q1_45 (v := .int (S 2 i0 0)) rfl dX3_kind_11 ?_
    refine lv_bipush (v := 8) F.x F.b dX3_kind_14 (by decide) ?_
    refine lv_icmp_gt (tgt := 23) F.x F.b dX3_kind_16 (by decide) (fun g2 => ?_) (fun g2 => ?_)
    · have h := h.1 g2
      refine lv_iconst (v := 2) F.x F.b dX3_kind_23 (by decide) ?_
      exact retI F hr C h dX3_kind_24
    · have h := h.2 g2
      refine lv_iconst (v := 1) F.x F.b dX3_kind_19 (by decide) ?_
      refine lv_goto (tgt := 24) F.x F.b dX3_kind_20 (by decide) ?_
      exact retI F hr C h dX3_kind_24
  · have h := h.2 g1
    refine lv_iconst (v := 0) F.x F.b dX3_kind_8 (by decide) ?_
    exact retI F hr C h dX3_kind_9

def rmX3_numberOf : Room := { frames := 1, cells := 0, slots := 0, locals := 20 }
def mX3_numberOf (post : Int32 → Mem → Prop) (S : Mem) (i0 : Nat) (v1 : Int32) : Prop := ((v1 = (0 : Int32) → (mX3_kind (fun (r3 : Int32) (S2 : Mem) => post r3 S2) S i0)) ∧ (v1 = (1 : Int32) → (post (S 2 i0 0) S)) ∧ (v1 = (2 : Int32) → (post (S 2 i0 1) S)) ∧ (v1 = (3 : Int32) → (post (S 2 i0 2) S)) ∧ (v1 = (4 : Int32) → ((((S 2 i0 3) = 0 → (post (0 : Int32) S)) ∧ (¬ (S 2 i0 3) = 0 → (post (1 : Int32) S))))) ∧ (v1 = (5 : Int32) → ((((S 2 i0 4) = 0 → (post (0 : Int32) S)) ∧ (¬ (S 2 i0 4) = 0 → (post (1 : Int32) S))))) ∧ (v1 = (6 : Int32) → ((((S 2 i0 5) = 0 → (post (0 : Int32) S)) ∧ (¬ (S 2 i0 5) = 0 → (post (1 : Int32) S))))) ∧ (v1 = (7 : Int32) → (post (S 2 i0 6) S)) ∧ (v1 = (8 : Int32) → (post (S 2 i0 7) S)) ∧ (¬ v1 = (0 : Int32) ∧ ¬ v1 = (1 : Int32) ∧ ¬ v1 = (2 : Int32) ∧ ¬ v1 = (3 : Int32) ∧ ¬ v1 = (4 : Int32) ∧ ¬ v1 = (5 : Int32) ∧ ¬ v1 = (6 : Int32) ∧ ¬ v1 = (7 : Int32) ∧ ¬ v1 = (8 : Int32) → (mX3_region (fun (r8 : Int32) (S7 : Mem) => post r8 S7) S i0)))
set_option maxRecDepth 100000 in
set_option maxHeartbeats 4000000 in
theorem kX3_numberOf {l : Launch} {D : va_G} {ky : Nat → ClassId} {ad : Nat → Nat} {ex : Nat → Nat → Nat} {post : Int32 → Mem → Prop} {S : Mem} {i0 : Nat} {v1 : Int32} (hi0 : i0 < 80) (h : mX3_numberOf post S i0 v1) : CMi l D ky ad ex yX3_numberOf cX3_numberOf 2 (some .int) rmX3_numberOf 0 0 [.ref (ad (20 + i0)), .int v1] S post := by
  refine CMi.of (by decide) (Nat.le_of_ble_eq_true rfl) (fun p e s m args below meth c ls F hr C hl => ?_)
  have hl : lv_has ls 2 [(0, .ref (ad (20 + i0))), (1, .int v1)] := hl
  unfold mX3_numberOf at h
  refine lv_iload_n F.x F.b dX3_numberOf_0 rfl (lv_at hl 1 rfl) ?_
  by_cases g1 : v1 = (0 : Int32)
  · have h := h.1 g1
    refine lv_tableIn (tgt := 52) F.x F.b dX3_numberOf_1 (by rw [g1]; decide) (by rw [g1]; decide) (by rw [g1]; rfl) (by decide) ?_
    refine lv_aload_n F.x F.b dX3_numberOf_52 rfl (lv_at hl 0 rfl) ?_
    refine kI F C hl (kX3_kind  hi0 h) (by omega) (ce_T hi0 _) rfl wv_X3_37 ⟨rfl, rfl, ⟨Nat.le_of_ble_eq_true rfl, Nat.le_of_ble_eq_true rfl⟩, ⟨Nat.le_of_ble_eq_true rfl, Nat.le_of_ble_eq_true rfl⟩, Nat.le_of_ble_eq_true rfl⟩ (rest := []) rfl dX3_numberOf_53 (fun r3 S2 H locs h C => ?_)
    exact retI F hr C h dX3_numberOf_56
  · have ng1_0 := g1
    by_cases g1 : v1 = (1 : Int32)
    · have h := h.2.1 g1
      refine lv_tableIn (tgt := 57) F.x F.b dX3_numberOf_1 (by rw [g1]; decide) (by rw [g1]; decide) (by rw [g1]; rfl) (by decide) ?_
      refine lv_aload_n F.x F.b dX3_numberOf_57 rfl (lv_at hl 0 rfl) ?_
      refine getT F C hi0 0 (by decide) q1_45 (v := .int (S 2 i0 0)) rfl dX3_numberOf_58 ?_
      exact retI F hr C h dX3_numberOf_61
    · have ng1_1 := g1
      by_cases g1 : v1 = (2 : Int32)
      · have h := h.2.2.1 g1
        refine lv_tableIn (tgt := 62) F.x F.b dX3_numberOf_1 (by rw [g1]; decide) (by rw [g1]; decide) (by rw [g1]; rfl) (by decide) ?_
        refine lv_aload_n F.x F.b dX3_numberOf_62 rfl (lv_at hl 0 rfl) ?_
        refine getT F C hi0 1 (by decide) q1_47 (v := .int (S 2 i0 1)) rfl dX3_numberOf_63 ?_
        exact retI F hr C h dX3_numberOf_66
      · have ng1_2 := g1
        by_cases g1 : v1 = (3 : Int32)
        · have h := h.2.2.2.1 g1
          refine lv_tableIn (tgt := 67) F.x F.b dX3_numberOf_1 (by rw [g1]; decide) (by rw [g1]; decide) (by rw [g1]; rfl) (by decide) ?_
          refine lv_aload_n F.x F.b dX3_numberOf_67 rfl (lv_at hl 0 rfl) ?_
          refine getT F C hi0 2 (by decide) q1_50 (v := .int (S 2 i0 2)) rfl dX3_numberOf_68 ?_
          exact retI F hr C h dX3_numberOf_71
        · have ng1_3 := g1
          by_cases g1 : v1 = (4 : Int32)
          · have h := h.2.2.2.2.1 g1
            refine lv_tableIn (tgt := 72) F.x F.b dX3_numberOf_1 (by rw [g1]; decide) (by rw [g1]; decide) (by rw [g1]; rfl) (by decide) ?_
            refine lv_aload_n F.x F.b dX3_numberOf_72 rfl (lv_at hl 0 rfl) ?_
            refine getT F C hi0 3 (by decide) q1_53 (v := .int (S 2 i0 3)) rfl dX3_numberOf_73 ?_
            refine lv_if_eq (tgt := 83) F.x F.b dX3_numberOf_76 (by decide) (fun g4 => ?_) (fun g4 => ?_)
            · have h := h.1 g4
              refine lv_iconst (v := 0) F.x F.b dX3_numberOf_83 (by decide) ?_
              exact retI F hr C h dX3_numberOf_84
            · have h := h.2 g4
              refine lv_iconst (v := 1) F.x F.b dX3_numberOf_79 (by decide) ?_
              refine lv_goto (tgt := 84) F.x F.b dX3_numberOf_80 (by decide) ?_
              exact retI F hr C h dX3_numberOf_84
          · have ng1_4 := g1
            by_cases g1 : v1 = (5 : Int32)
            · have h := h.2.2.2.2.2.1 g1
              refine lv_tableIn (tgt := 85) F.x F.b dX3_numberOf_1 (by rw [g1]; decide) (by rw [g1]; decide) (by rw [g1]; rfl) (by decide) ?_
              refine lv_aload_n F.x F.b dX3_numberOf_85 rfl (lv_at hl 0 rfl) ?_
              refine getT F C hi0 4 (by decide) q1_56 (v := .int (S 2 i0 4)) rfl dX3_numberOf_86 ?_
              refine lv_if_eq (tgt := 96) F.x F.b dX3_numberOf_89 (by decide) (fun g5 => ?_) (fun g5 => ?_)
              · have h := h.1 g5
                refine lv_iconst (v := 0) F.x F.b dX3_numberOf_96 (by decide) ?_
                exact retI F hr C h dX3_numberOf_97
              · have h := h.2 g5
                refine lv_iconst (v := 1) F.x F.b dX3_numberOf_92 (by decide) ?_
                refine lv_goto (tgt := 97) F.x F.b dX3_numberOf_93 (by decide) ?_
                exact retI F hr C h dX3_numberOf_97
            · have ng1_5 := g1
              by_cases g1 : v1 = (6 : Int32)
              · have h := h.2.2.2.2.2.2.1 g1
                refine lv_tableIn (tgt := 98) F.x F.b dX3_numberOf_1 (by rw [g1]; decide) (by rw [g1]; decide) (by rw [g1]; rfl) (by decide) ?_
                refine lv_aload_n F.x F.b dX3_numberOf_98 rfl (lv_at hl 0 rfl) ?_
                refine getT F C hi0 5 (by decide) q1_58 (v := .int (S 2 i0 5)) rfl dX3_numberOf_99 ?_
                refine lv_if_eq (tgt := 109) F.x F.b dX3_numberOf_102 (by decide) (fun g6 => ?_) (fun g6 => ?_)
                · have h := h.1 g6
                  refine lv_iconst (v := 0) F.x F.b dX3_numberOf_109 (by decide) ?_
                  exact retI F hr C h dX3_numberOf_110
                · have h := h.2 g6
                  refine lv_iconst (v := 1) F.x F.b dX3_numberOf_105 (by decide) ?_
                  refine lv_goto (tgt := 110) F.x F.b dX3_numberOf_106 (by decide) ?_
                  exact retI F hr C h dX3_numberOf_110
              · have ng1_6 := g1
                by_cases g1 : v1 = (7 : Int32)
                · have h := h.2.2.2.2.2.2.2.1 g1
                  refine lv_tableIn (tgt := 111) F.x F.b dX3_numberOf_1 (by rw [g1]; decide) (by rw [g1]; decide) (by rw [g1]; rfl) (by decide) ?_
                  refine lv_aload_n F.x F.b dX3_numberOf_111 rfl (lv_at hl 0 rfl) ?_
                  refine getT F C hi0 6 (by decide) q1_61 (v := .int (S 2 i0 6)) rfl dX3_numberOf_112 ?_
                  exact retI F hr C h dX3_numberOf_115
                · have ng1_7 := g1
                  by_cases g1 : v1 = (8 : Int32)
                  · have h := h.2.2.2.2.2.2.2.2.1 g1
                    refine lv_tableIn (tgt := 116) F.x F.b dX3_numberOf_1 (by rw [g1]; decide) (by rw [g1]; decide) (by rw [g1]; rfl) (by decide) ?_
                    refine lv_aload_n F.x F.b dX3_numberOf_116 rfl (lv_at hl 0 rfl) ?_
                    refine getT F C hi0 7 (by decide) q1_64 (v := .int (S 2 i0 7)) rfl dX3_numberOf_117 ?_
                    exact retI F hr C h dX3_numberOf_120
                  · have ng1_8 := g1
                    have h := h.2.2.2.2.2.2.2.2.2 ⟨ng1_0, ng1_1, ng1_2, ng1_3, ng1_4, ng1_5, ng1_6, ng1_7, ng1_8⟩
                    refine lv_tableOut (tgt := 121) F.x F.b dX3_numberOf_1 (sw_out v1 0 8 (by decide) (by decide) (fun z h1 h2 => ?_)) (by decide) ?_
                    · rcases (show z = 0 ∨ z = 1 ∨ z = 2 ∨ z = 3 ∨ z = 4 ∨ z = 5 ∨ z = 6 ∨ z = 7 ∨ z = 8 by omega) with rfl | rfl | rfl | rfl | rfl | rfl | rfl | rfl | rfl
                      · exact ng1_0
                      · exact ng1_1
                      · exact ng1_2
                      · exact ng1_3
                      · exact ng1_4
                      · exact ng1_5
                      · exact ng1_6
                      · exact ng1_7
                      · exact ng1_8
                    · refine lv_aload_n F.x F.b dX3_numberOf_121 rfl (lv_at hl 0 rfl) ?_
                      refine kI F C hl (kX3_region  hi0 h) (by omega) (ce_T hi0 _) rfl wv_X3_50 ⟨rfl, rfl, ⟨Nat.le_of_ble_eq_true rfl, Nat.le_of_ble_eq_true rfl⟩, ⟨Nat.le_of_ble_eq_true rfl, Nat.le_of_ble_eq_true rfl⟩, Nat.le_of_ble_eq_true rfl⟩ (rest := []) rfl dX3_numberOf_122 (fun r8 S7 H locs h C => ?_)
                      exact retI F hr C h dX3_numberOf_125

def rmX3_arrive : Room := { frames := 0, cells := 0, slots := 0, locals := 0 }
def mX3_arrive (post : Mem → Prop) (S : Mem) (i0 : Nat) (v1 : Int32) : Prop := ∀ S1 : Mem, S1 = wr S 2 i0 0 v1 → ∀ S2 : Mem, S2 = wr S1 2 i0 1 (0 : Int32) → ∀ S3 : Mem, S3 = wr S2 2 i0 2 (-1 : Int32) → ∀ S4 : Mem, S4 = wr S3 2 i0 3 (0 : Int32) → ∀ S5 : Mem, S5 = wr S4 2 i0 4 (1 : Int32) → ∀ S6 : Mem, S6 = wr S5 2 i0 5 (0 : Int32) → ∀ S7 : Mem, S7 = wr S6 2 i0 6 (0 : Int32) → ∀ S8 : Mem, S8 = wr S7 2 i0 7 (0 : Int32) → post S8
set_option maxRecDepth 100000 in
set_option maxHeartbeats 4000000 in
theorem kX3_arrive {l : Launch} {D : va_G} {ky : Nat → ClassId} {ad : Nat → Nat} {ex : Nat → Nat → Nat} {post : Mem → Prop} {S : Mem} {i0 : Nat} {v1 : Int32} (hi0 : i0 < 80) (h : mX3_arrive post S i0 v1) : CMv l D ky ad ex yX3_arrive cX3_arrive 2 none rmX3_arrive 0 0 [.ref (ad (20 + i0)), .int v1] S post := by
  refine CMv.of (by decide) (Nat.le_of_ble_eq_true rfl) (fun p e s m args below meth c ls F hr C hl => ?_)
  have hl : lv_has ls 2 [(0, .ref (ad (20 + i0))), (1, .int v1)] := hl
  unfold mX3_arrive at h
  refine lv_aload_n F.x F.b dX3_arrive_0 rfl (lv_at hl 0 rfl) ?_
  refine lv_iload_n F.x F.b dX3_arrive_1 rfl (lv_at hl 1 rfl) ?_
  refine putT F C hi0 0 (by decide) q1_45 rfl (tyX3_ok 0 (by decide)) rfl rfl rfl dX3_arrive_2 (fun H locs C => ?_)
  obtain ⟨S1, eS1⟩ : ∃ z : Mem, z = wr S 2 i0 0 v1 := ⟨_, rfl⟩
  rw [← eS1] at C
  have h := h S1 eS1
  refine lv_aload_n F.x F.b dX3_arrive_5 rfl (lv_at hl 0 rfl) ?_
  refine lv_iconst (v := 0) F.x F.b dX3_arrive_6 (by decide) ?_
  refine putT F C hi0 1 (by decide) q1_47 rfl (tyX3_ok 1 (by decide)) rfl rfl rfl dX3_arrive_7 (fun H locs C => ?_)
  obtain ⟨S2, eS2⟩ : ∃ z : Mem, z = wr S1 2 i0 1 (0 : Int32) := ⟨_, rfl⟩
  rw [← eS2] at C
  have h := h S2 eS2
  refine lv_aload_n F.x F.b dX3_arrive_10 rfl (lv_at hl 0 rfl) ?_
  refine lv_iconst (v := -1) F.x F.b dX3_arrive_11 (by decide) ?_
  refine putT F C hi0 2 (by decide) q1_50 rfl (tyX3_ok 2 (by decide)) rfl rfl rfl dX3_arrive_12 (fun H locs C => ?_)
  obtain ⟨S3, eS3⟩ : ∃ z : Mem, z = wr S2 2 i0 2 (-1 : Int32) := ⟨_, rfl⟩
  rw [← eS3] at C
  have h := h S3 eS3
  refine lv_aload_n F.x F.b dX3_arrive_15 rfl (lv_at hl 0 rfl) ?_
  refine lv_iconst (v := 0) F.x F.b dX3_arrive_16 (by decide) ?_
  refine putT F C hi0 3 (by decide) q1_53 rfl (tyX3_ok 3 (by decide)) rfl rfl rfl dX3_arrive_17 (fun H locs C => ?_)
  obtain ⟨S4, eS4⟩ : ∃ z : Mem, z = wr S3 2 i0 3 (0 : Int32) := ⟨_, rfl⟩
  rw [← eS4] at C
  have h := h S4 eS4
  refine lv_aload_n F.x F.b dX3_arrive_20 rfl (lv_at hl 0 rfl) ?_
  refine lv_iconst (v := 1) F.x F.b dX3_arrive_21 (by decide) ?_
  refine putT F C hi0 4 (by decide) q1_56 rfl (tyX3_ok 4 (by decide)) rfl rfl rfl dX3_arrive_22 (fun H locs C => ?_)
  obtain ⟨S5, eS5⟩ : ∃ z : Mem, z = wr S4 2 i0 4 (1 : Int32) := ⟨_, rfl⟩
  rw [← eS5] at C
  have h := h S5 eS5
  refine lv_aload_n F.x F.b dX3_arrive_25 rfl (lv_at hl 0 rfl) ?_
  refine lv_iconst (v := 0) F.x F.b dX3_arrive_26 (by decide) ?_
  refine putT F C hi0 5 (by decide) q1_58 rfl (tyX3_ok 5 (by decide)) rfl rfl rfl dX3_arrive_27 (fun H locs C => ?_)
  obtain ⟨S6, eS6⟩ : ∃ z : Mem, z = wr S5 2 i0 5 (0 : Int32) := ⟨_, rfl⟩
  rw [← eS6] at C
  have h := h S6 eS6
  refine lv_aload_n F.x F.b dX3_arrive_30 rfl (lv_at hl 0 rfl) ?_
  refine lv_iconst (v := 0) F.x F.b dX3_arrive_31 (by decide) ?_
  refine putT F C hi0 6 (by decide) q1_61 rfl (tyX3_ok 6 (by decide)) rfl rfl rfl dX3_arrive_32 (fun H locs C => ?_)
  obtain ⟨S7, eS7⟩ : ∃ z : Mem, z = wr S6 2 i0 6 (0 : Int32) := ⟨_, rfl⟩
  rw [← eS7] at C
  have h := h S7 eS7
  refine lv_aload_n F.x F.b dX3_arrive_35 rfl (lv_at hl 0 rfl) ?_
  refine lv_iconst (v := 0) F.x F.b dX3_arrive_36 (by decide) ?_
  refine putT F C hi0 7 (by decide) q1_64 rfl (tyX3_ok 7 (by decide)) rfl rfl rfl dX3_arrive_37 (fun H locs C => ?_)
  obtain ⟨S8, eS8⟩ : ∃ z : Mem, z = wr S7 2 i0 7 (0 : Int32) := ⟨_, rfl⟩
  rw [← eS8] at C
  have h := h S8 eS8
  exact retV F hr C h dX3_arrive_40

def rmX3_toll : Room := { frames := 1, cells := 0, slots := 0, locals := 20 }
def mX3_toll_b13 (post : Int32 → Mem → Prop) (S : Mem) (i0 : Nat) (vt0 : Int32) : Prop := post ((vt0 + ((S 2 i0 0) / (5 : Int32)))) S
def mX3_toll (post : Int32 → Mem → Prop) (S : Mem) (i0 : Nat) : Prop := mX3_kind (fun (r2 : Int32) (S1 : Mem) => ((¬ r2 = (2 : Int32) → (mX3_toll_b13 post S1 i0 (2 : Int32))) ∧ (r2 = (2 : Int32) → (mX3_toll_b13 post S1 i0 (4 : Int32))))) S i0
set_option maxRecDepth 100000 in
set_option maxHeartbeats 4000000 in
theorem bX3_toll_13 {p : Program} {l : Launch} {e : Env} {s : State} {m : MethodId} {args : Array Value} {below : List Frame} {meth : Method} {c : Code} {D : va_G} {ky : Nat → ClassId} {ad : Nat → Nat} {ex : Nat → Nat → Nat} (F : Fx p s m args meth c D ky ad ex cX3_toll 2 yX3_toll.cls) (hr : meth.sig.returnType = (some .int)) {post : Int32 → Mem → Prop} : ∀ (S : Mem) (i0 : Nat) (vt0 : Int32) (H : Heap) (locs : List Loc) (ls : Array Slot), i0 < 80 → mX3_toll_b13 post S i0 vt0 → Cx D ky ad s S H locs → lv_has ls 2 [(0, .ref (ad (20 + i0)))] → W p l e rmX3_toll s m args below meth c H locs 0 0 (MQ below (va_Qi post (AFT D ky ad) (AW ad s.heap.size)) args s 0 0 (AW ad s.heap.size)) (F0 m 13 ls [.int vt0]) := by
  intro S i0 vt0 H locs ls hi0 h C hl
  unfold mX3_toll_b13 at h
  refine lv_istore_n (lv' := [(1, .int vt0), (0, .ref (ad (20 + i0)))]) F.x F.b dX3_toll_13 rfl hl (by decide) rfl (fun ls hl => ?_)
  refine lv_iload_n F.x F.b dX3_toll_14 rfl (lv_at hl 0 rfl) ?_
  refine lv_aload_n F.x F.b dX3_toll_15 rfl (lv_at hl 1 rfl) ?_
  refine getT F C hi0 0 (by decide) q1_45 (v := .int (S 2 i0 0)) rfl dX3_toll_16 ?_
  refine lv_iconst (v := 5) F.x F.b dX3_toll_19 (by decide) ?_
  refine lv_idiv F.x F.b dX3_toll_20 (by decide) ?_
  refine lv_iadd F.x F.b dX3_toll_21 ?_
  exact retI F hr C h dX3_toll_22
set_option maxRecDepth 100000 in
set_option maxHeartbeats 4000000 in
theorem kX3_toll {l : Launch} {D : va_G} {ky : Nat → ClassId} {ad : Nat → Nat} {ex : Nat → Nat → Nat} {post : Int32 → Mem → Prop} {S : Mem} {i0 : Nat} (hi0 : i0 < 80) (h : mX3_toll post S i0) : CMi l D ky ad ex yX3_toll cX3_toll 2 (some .int) rmX3_toll 0 0 [.ref (ad (20 + i0))] S post := by
  refine CMi.of (by decide) (Nat.le_of_ble_eq_true rfl) (fun p e s m args below meth c ls F hr C hl => ?_)
  have hl : lv_has ls 2 [(0, .ref (ad (20 + i0)))] := hl
  unfold mX3_toll at h
  refine lv_aload_n F.x F.b dX3_toll_0 rfl (lv_at hl 0 rfl) ?_
  refine kI F C hl (kX3_kind  hi0 h) (by omega) (ce_T hi0 _) rfl wv_X3_37 ⟨rfl, rfl, ⟨Nat.le_of_ble_eq_true rfl, Nat.le_of_ble_eq_true rfl⟩, ⟨Nat.le_of_ble_eq_true rfl, Nat.le_of_ble_eq_true rfl⟩, Nat.le_of_ble_eq_true rfl⟩ (rest := []) rfl dX3_toll_1 (fun r2 S1 H locs h C => ?_)
  refine lv_iconst (v := 2) F.x F.b dX3_toll_4 (by decide) ?_
  refine lv_icmp_ne (tgt := 12) F.x F.b dX3_toll_5 (by decide) (fun g3 => ?_) (fun g3 => ?_)
  · have h := h.1 g3
    refine lv_iconst (v := 2) F.x F.b dX3_toll_12 (by decide) ?_
    exact bX3_toll_13 F hr S1 i0 (2 : Int32) _ _ _ hi0 h C (lv_sub hl [0] rfl)
  · have h := h.2 g3
    refine lv_iconst (v := 4) F.x F.b dX3_toll_8 (by decide) ?_
    refine lv_goto (tgt := 13) F.x F.b dX3_toll_9 (by decide) ?_
    exact bX3_toll_13 F hr S1 i0 (4 : Int32) _ _ _ hi0 h C (lv_sub hl [0] rfl)

def rmX3_getWetter : Room := { frames := 1, cells := 0, slots := 0, locals := 15 }
def mX3_getWetter (post : Mem → Prop) (S : Mem) (i0 : Nat) (v1 : Int32) : Prop := ∀ S1 : Mem, S1 = wr S 2 i0 1 (if ((S 2 i0 1) + v1) < (20 : Int32) then ((S 2 i0 1) + v1) else (20 : Int32)) → post S1
set_option maxRecDepth 100000 in
set_option maxHeartbeats 4000000 in
theorem kX3_getWetter {l : Launch} {D : va_G} {ky : Nat → ClassId} {ad : Nat → Nat} {ex : Nat → Nat → Nat} {post : Mem → Prop} {S : Mem} {i0 : Nat} {v1 : Int32} (hi0 : i0 < 80) (h : mX3_getWetter post S i0 v1) : CMv l D ky ad ex yX3_getWetter cX3_getWetter 2 none rmX3_getWetter 0 0 [.ref (ad (20 + i0)), .int v1] S post := by
  refine CMv.of (by decide) (Nat.le_of_ble_eq_true rfl) (fun p e s m args below meth c ls F hr C hl => ?_)
  have hl : lv_has ls 2 [(0, .ref (ad (20 + i0))), (1, .int v1)] := hl
  unfold mX3_getWetter at h
  refine lv_aload_n F.x F.b dX3_getWetter_0 rfl (lv_at hl 0 rfl) ?_
  refine lv_bipush (v := 20) F.x F.b dX3_getWetter_1 (by decide) ?_
  refine lv_aload_n F.x F.b dX3_getWetter_3 rfl (lv_at hl 0 rfl) ?_
  refine getT F C hi0 1 (by decide) q1_47 (v := .int (S 2 i0 1)) rfl dX3_getWetter_4 ?_
  refine lv_iload_n F.x F.b dX3_getWetter_7 rfl (lv_at hl 1 rfl) ?_
  refine lv_iadd F.x F.b dX3_getWetter_8 ?_
  refine mMin F hl q3_84 ⟨Nat.le_of_ble_eq_true rfl, Nat.le_of_ble_eq_true rfl, Nat.le_of_ble_eq_true rfl, Nat.le_of_ble_eq_true rfl⟩ dX3_getWetter_9 ?_
  refine putT F C hi0 1 (by decide) q1_47 rfl (tyX3_ok 1 (by decide)) rfl rfl rfl dX3_getWetter_12 (fun H locs C => ?_)
  obtain ⟨S1, eS1⟩ : ∃ z : Mem, z = wr S 2 i0 1 (if ((S 2 i0 1) + v1) < (20 : Int32) then ((S 2 i0 1) + v1) else (20 : Int32)) := ⟨_, rfl⟩
  rw [← eS1] at C
  have h := h S1 eS1
  exact retV F hr C h dX3_getWetter_15

def rmX3_restOnBank : Room := { frames := 0, cells := 0, slots := 0, locals := 0 }
def mX3_restOnBank (post : Mem → Prop) (S : Mem) (i0 : Nat) : Prop := ∀ S1 : Mem, S1 = wr S 2 i0 3 (0 : Int32) → ∀ S2 : Mem, S2 = wr S1 2 i0 5 (0 : Int32) → post S2
set_option maxRecDepth 100000 in
set_option maxHeartbeats 4000000 in
theorem kX3_restOnBank {l : Launch} {D : va_G} {ky : Nat → ClassId} {ad : Nat → Nat} {ex : Nat → Nat → Nat} {post : Mem → Prop} {S : Mem} {i0 : Nat} (hi0 : i0 < 80) (h : mX3_restOnBank post S i0) : CMv l D ky ad ex yX3_restOnBank cX3_restOnBank 1 none rmX3_restOnBank 0 0 [.ref (ad (20 + i0))] S post := by
  refine CMv.of (by decide) (Nat.le_of_ble_eq_true rfl) (fun p e s m args below meth c ls F hr C hl => ?_)
  have hl : lv_has ls 1 [(0, .ref (ad (20 + i0)))] := hl
  unfold mX3_restOnBank at h
  refine lv_aload_n F.x F.b dX3_restOnBank_0 rfl (lv_at hl 0 rfl) ?_
  refine lv_iconst (v := 0) F.x F.b dX3_restOnBank_1 (by decide) ?_
  refine putT F C hi0 3 (by decide) q1_53 rfl (tyX3_ok 3 (by decide)) rfl rfl rfl dX3_restOnBank_2 (fun H locs C => ?_)
  obtain ⟨S1, eS1⟩ : ∃ z : Mem, z = wr S 2 i0 3 (0 : Int32) := ⟨_, rfl⟩
  rw [← eS1] at C
  have h := h S1 eS1
  refine lv_aload_n F.x F.b dX3_restOnBank_5 rfl (lv_at hl 0 rfl) ?_
  refine lv_iconst (v := 0) F.x F.b dX3_restOnBank_6 (by decide) ?_
  refine putT F C hi0 5 (by decide) q1_58 rfl (tyX3_ok 5 (by decide)) rfl rfl rfl dX3_restOnBank_7 (fun H locs C => ?_)
  obtain ⟨S2, eS2⟩ : ∃ z : Mem, z = wr S1 2 i0 5 (0 : Int32) := ⟨_, rfl⟩
  rw [← eS2] at C
  have h := h S2 eS2
  exact retV F hr C h dX3_restOnBank_10

def rmX3_getDrier : Room := { frames := 1, cells := 0, slots := 0, locals := 15 }
def mX3_getDrier (post : Mem → Prop) (S : Mem) (i0 : Nat) (v1 : Int32) : Prop := ∀ S1 : Mem, S1 = wr S 2 i0 1 (if (0 : Int32) < ((S 2 i0 1) - v1) then ((S 2 i0 1) - v1) else (0 : Int32)) → post S1
set_option maxRecDepth 100000 in
set_option maxHeartbeats 4000000 in
theorem kX3_getDrier {l : Launch} {D : va_G} {ky : Nat → ClassId} {ad : Nat → Nat} {ex : Nat → Nat → Nat} {post : Mem → Prop} {S : Mem} {i0 : Nat} {v1 : Int32} (hi0 : i0 < 80) (h : mX3_getDrier post S i0 v1) : CMv l D ky ad ex yX3_getDrier cX3_getDrier 2 none rmX3_getDrier 0 0 [.ref (ad (20 + i0)), .int v1] S post := by
  refine CMv.of (by decide) (Nat.le_of_ble_eq_true rfl) (fun p e s m args below meth c ls F hr C hl => ?_)
  have hl : lv_has ls 2 [(0, .ref (ad (20 + i0))), (1, .int v1)] := hl
  unfold mX3_getDrier at h
  refine lv_aload_n F.x F.b dX3_getDrier_0 rfl (lv_at hl 0 rfl) ?_
  refine lv_iconst (v := 0) F.x F.b dX3_getDrier_1 (by decide) ?_
  refine lv_aload_n F.x F.b dX3_getDrier_2 rfl (lv_at hl 0 rfl) ?_
  refine getT F C hi0 1 (by decide) q1_47 (v := .int (S 2 i0 1)) rfl dX3_getDrier_3 ?_
  refine lv_iload_n F.x F.b dX3_getDrier_6 rfl (lv_at hl 1 rfl) ?_
  refine lv_isub F.x F.b dX3_getDrier_7 ?_
  refine mMax F hl q3_109 ⟨Nat.le_of_ble_eq_true rfl, Nat.le_of_ble_eq_true rfl, Nat.le_of_ble_eq_true rfl, Nat.le_of_ble_eq_true rfl⟩ dX3_getDrier_8 ?_
  refine putT F C hi0 1 (by decide) q1_47 rfl (tyX3_ok 1 (by decide)) rfl rfl rfl dX3_getDrier_11 (fun H locs C => ?_)
  obtain ⟨S1, eS1⟩ : ∃ z : Mem, z = wr S 2 i0 1 (if (0 : Int32) < ((S 2 i0 1) - v1) then ((S 2 i0 1) - v1) else (0 : Int32)) := ⟨_, rfl⟩
  rw [← eS1] at C
  have h := h S1 eS1
  exact retV F hr C h dX3_getDrier_14
