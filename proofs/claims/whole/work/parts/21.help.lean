theorem cst_ArrayIndexOutOfBoundsException : Cond.castable "java/lang/ArrayIndexOutOfBoundsException" "java/lang/ArrayIndexOutOfBoundsException" ∈ wC := wC_of (tb_2 (List.mem_of_getElem? (i := 102) rfl)) rfl
theorem cst_IndexOutOfBoundsException : Cond.castable "java/lang/IndexOutOfBoundsException" "java/lang/IndexOutOfBoundsException" ∈ wC := wC_of (tb_2 (List.mem_of_getElem? (i := 138) rfl)) rfl
theorem cst_IllegalArgumentException : Cond.castable "java/lang/IllegalArgumentException" "java/lang/IllegalArgumentException" ∈ wC := wC_of (tb_2 (List.mem_of_getElem? (i := 154) rfl)) rfl
theorem cst_UnsupportedOperationException : Cond.castable "java/lang/UnsupportedOperationException" "java/lang/UnsupportedOperationException" ∈ wC := wC_of (tb_2 (List.mem_of_getElem? (i := 174) rfl)) rfl
theorem cst_NoSuchElementException : Cond.castable "java/util/NoSuchElementException" "java/util/NoSuchElementException" ∈ wC := wC_of (tb_3 (List.mem_of_getElem? (i := 21) rfl)) rfl
theorem cst_IllegalStateException : Cond.castable "java/lang/IllegalStateException" "java/lang/IllegalStateException" ∈ wC := wC_of (tb_3 (List.mem_of_getElem? (i := 208) rfl)) rfl
theorem cst_ArithmeticException : Cond.castable "java/lang/ArithmeticException" "java/lang/ArithmeticException" ∈ wC := wC_of (tb_4 (List.mem_of_getElem? (i := 175) rfl)) rfl
theorem ncG {a b : String} {A : Nat → Prop} {ex : Nat → Nat → Nat} {U : State} {H : Heap} (h : ST ex A U H) (hm : (a, b) ∈ ncP) : va_Nc a b U := h.2.2.2.2.2.2.2.2.2.2.2.2 _ hm
theorem csG {a b : String} {A : Nat → Prop} {ex : Nat → Nat → Nat} {U : State} {H : Heap} {args : Array Value} (h : ST ex A U H) (hm : Cond.castable a b ∈ wC) : (Cond.castable a b).before args U = true := va_Nw.use rfl (h.2.1 _ hm)
def mL_height (post : Int32 → Mem → (Nat → Int64) → Prop) (S : Mem) (f : Nat → Int64) (v1 : Int32) (v2 : Int32) : Prop := mX5_height (fun (r : Int32) (S1 : Mem) => post 0 S1 (vp_updL f 0 r.toInt64)) (fun (E : String) (S1 : Mem) => (E = "java/lang/IndexOutOfBoundsException" ∧ post 1 S1 f) ∨ (E = "java/lang/IllegalArgumentException" ∧ post 2 S1 f) ∨ (E = "java/lang/UnsupportedOperationException" ∧ post 3 S1 f)) S v1 v2
def rmL_height : Room := { frames := 8, cells := 3, slots := 18, locals := 128 }
set_option maxRecDepth 100000 in
theorem kL_height {l : Launch} {D : va_G} {ky : Nat → ClassId} {ad : Nat → Nat} {ex : Nat → Nat → Nat} {ao : Nat} {post : Int32 → Mem → (Nat → Int64) → Prop} {S : Mem} {f : Nat → Int64} {v1 : Int32} {v2 : Int32} (hf : l.stackTraces = false) (h : mL_height post S f v1 v2) : CH l D ky ad ex yL_height cL_height 5 [(0, 10, 13, 13), (0, 10, 17, 15), (0, 10, 21, 17)] rmL_height 3 18 [.ref (ad 110), .int v1, .int v2, .ref ao] S ao (lce ky) f post := by
  refine CH.of (by decide) (Nat.le_of_ble_eq_true rfl) (fun p e s m args below meth c ls F hr ht C hl => ?_)
  have hl : lv_has ls 5 [(0, .ref (ad 110)), (1, .int v1), (2, .int v2), (3, .ref ao)] := hl
  unfold mL_height at h
  refine lv_aload_n F.x F.b dL_height_0 rfl (lv_at hl 3 rfl) ?_
  refine lv_iconst (v := 0) F.x F.b dL_height_1 (by decide) ?_
  refine lv_aload_n F.x F.b dL_height_2 rfl (lv_at hl 0 rfl) ?_
  refine lv_iload_n F.x F.b dL_height_3 rfl (lv_at hl 1 rfl) ?_
  refine lv_iload_n F.x F.b dL_height_4 rfl (lv_at hl 2 rfl) ?_
  refine gkX F C hl (kX5_height hf h) (by decide) (ce_X _) rfl wv_L_7 ⟨rfl, rfl, ⟨Nat.le_of_ble_eq_true rfl, Nat.le_of_ble_eq_true rfl⟩, ⟨Nat.le_of_ble_eq_true rfl, Nat.le_of_ble_eq_true rfl⟩, Nat.le_of_ble_eq_true rfl⟩ (rest := [.int 0, .ref ao]) rfl dL_height_5 (fun E9 ce9 q9 S1 H locs hp C hc9 hv9 hcl9 => ?_) (fun r S1 H locs h C => ?_)
  · rcases hp with ⟨rfl, h⟩ | ⟨rfl, h⟩ | ⟨rfl, h⟩
    · refine vx_catch F.ow [] ⟨0, 10, 13, 13⟩ [⟨0, 10, 17, 15⟩, ⟨0, 10, 21, 17⟩] (by rw [ht]; rfl) (fun z hz => nomatch hz) rfl (by decide) (F.ts _ q2_47) (csG F.st cst_IndexOutOfBoundsException) hc9 hv9 hcl9 ?_
      refine lv_astore (lv' := [(4, .ref q9), (0, .ref (ad 110)), (1, .int v1), (2, .int v2), (3, .ref ao)]) F.x F.b dL_height_13 hl (by decide) rfl (fun ls hl => ?_)
      refine lv_iconst (v := 1) F.x F.b dL_height_15 (by decide) ?_
      exact retH F hr C h dL_height_16
    · refine vx_catch F.ow [⟨0, 10, 13, 13⟩] ⟨0, 10, 17, 15⟩ [⟨0, 10, 21, 17⟩] (by rw [ht]; rfl) (fun z hz => by cases List.mem_singleton.mp hz; exact Or.inr ⟨by decide, "java/lang/IndexOutOfBoundsException", F.ts _ q2_47, ncG F.st (List.mem_of_getElem? (i := 0) rfl)⟩) rfl (by decide) (F.ts _ q2_127) (csG F.st cst_IllegalArgumentException) hc9 hv9 hcl9 ?_
      refine lv_astore (lv' := [(4, .ref q9), (0, .ref (ad 110)), (1, .int v1), (2, .int v2), (3, .ref ao)]) F.x F.b dL_height_17 hl (by decide) rfl (fun ls hl => ?_)
      refine lv_iconst (v := 2) F.x F.b dL_height_19 (by decide) ?_
      exact retH F hr C h dL_height_20
    · refine vx_catch F.ow [⟨0, 10, 13, 13⟩, ⟨0, 10, 17, 15⟩] ⟨0, 10, 21, 17⟩ [] (by rw [ht]; rfl) (fun z hz => by rcases List.mem_cons.mp hz with rfl | hz; exact Or.inr ⟨by decide, "java/lang/IndexOutOfBoundsException", F.ts _ q2_47, ncG F.st (List.mem_of_getElem? (i := 1) rfl)⟩; cases List.mem_singleton.mp hz; exact Or.inr ⟨by decide, "java/lang/IllegalArgumentException", F.ts _ q2_127, ncG F.st (List.mem_of_getElem? (i := 2) rfl)⟩) rfl (by decide) (F.ts _ q2_128) (csG F.st cst_UnsupportedOperationException) hc9 hv9 hcl9 ?_
      refine lv_astore (lv' := [(4, .ref q9), (0, .ref (ad 110)), (1, .int v1), (2, .int v2), (3, .ref ao)]) F.x F.b dL_height_21 hl (by decide) rfl (fun ls hl => ?_)
      refine lv_iconst (v := 3) F.x F.b dL_height_23 (by decide) ?_
      exact retH F hr C h dL_height_24
  · refine lv_i2l F.x F.b dL_height_8 rfl ?_
    refine hLast F (Or.inr rfl) C dL_height_9 (fun H locs C => ?_)
    refine lv_goto (tgt := 25) F.x F.b dL_height_10 (by decide) ?_
    refine lv_iconst (v := 0) F.x F.b dL_height_25 (by decide) ?_
    exact retH F hr C h dL_height_26
def mL_rain (post : Int32 → Mem → (Nat → Int64) → Prop) (S : Mem) (f : Nat → Int64) (v1 : Int32) : Prop := mX5_rain (fun (r : Int32) (S1 : Mem) => post 0 S1 (vp_updL f 0 r.toInt64)) (fun (E : String) (S1 : Mem) => (E = "java/lang/IllegalArgumentException" ∧ post 1 S1 f)) S v1
def rmL_rain : Room := { frames := 8, cells := 1, slots := 6, locals := 126 }
set_option maxRecDepth 100000 in
theorem kL_rain {l : Launch} {D : va_G} {ky : Nat → ClassId} {ad : Nat → Nat} {ex : Nat → Nat → Nat} {ao : Nat} {post : Int32 → Mem → (Nat → Int64) → Prop} {S : Mem} {f : Nat → Int64} {v1 : Int32} (hf : l.stackTraces = false) (h : mL_rain post S f v1) : CH l D ky ad ex yL_rain cL_rain 4 [(0, 9, 12, 15)] rmL_rain 1 6 [.ref (ad 110), .int v1, .ref ao] S ao (lce ky) f post := by
  refine CH.of (by decide) (Nat.le_of_ble_eq_true rfl) (fun p e s m args below meth c ls F hr ht C hl => ?_)
  have hl : lv_has ls 4 [(0, .ref (ad 110)), (1, .int v1), (2, .ref ao)] := hl
  unfold mL_rain at h
  refine lv_aload_n F.x F.b dL_rain_0 rfl (lv_at hl 2 rfl) ?_
  refine lv_iconst (v := 0) F.x F.b dL_rain_1 (by decide) ?_
  refine lv_aload_n F.x F.b dL_rain_2 rfl (lv_at hl 0 rfl) ?_
  refine lv_iload_n F.x F.b dL_rain_3 rfl (lv_at hl 1 rfl) ?_
  refine gkX F C hl (kX5_rain hf h) (by decide) (ce_X _) rfl wv_L_19 ⟨rfl, rfl, ⟨Nat.le_of_ble_eq_true rfl, Nat.le_of_ble_eq_true rfl⟩, ⟨Nat.le_of_ble_eq_true rfl, Nat.le_of_ble_eq_true rfl⟩, Nat.le_of_ble_eq_true rfl⟩ (rest := [.int 0, .ref ao]) rfl dL_rain_4 (fun E9 ce9 q9 S1 H locs hp C hc9 hv9 hcl9 => ?_) (fun r S1 H locs h C => ?_)
  · obtain ⟨rfl, h⟩ := hp
    refine vx_catch F.ow [] ⟨0, 9, 12, 15⟩ [] (by rw [ht]; rfl) (fun z hz => nomatch hz) rfl (by decide) (F.ts _ q2_127) (csG F.st cst_IllegalArgumentException) hc9 hv9 hcl9 ?_
    refine lv_astore_n (lv' := [(3, .ref q9), (0, .ref (ad 110)), (1, .int v1), (2, .ref ao)]) F.x F.b dL_rain_12 rfl hl (by decide) rfl (fun ls hl => ?_)
    refine lv_iconst (v := 1) F.x F.b dL_rain_13 (by decide) ?_
    exact retH F hr C h dL_rain_14
  · refine lv_i2l F.x F.b dL_rain_7 rfl ?_
    refine hLast F (Or.inr rfl) C dL_rain_8 (fun H locs C => ?_)
    refine lv_goto (tgt := 15) F.x F.b dL_rain_9 (by decide) ?_
    refine lv_iconst (v := 0) F.x F.b dL_rain_15 (by decide) ?_
    exact retH F hr C h dL_rain_16
def mL_letters (post : Int32 → Mem → (Nat → Int64) → Prop) (S : Mem) (f : Nat → Int64) (v1 : Int32) : Prop := mX5_letters (fun (r : Int32) (S1 : Mem) => post 0 S1 (vp_updL f 0 r.toInt64)) (fun (E : String) (S1 : Mem) => (E = "java/lang/IllegalArgumentException" ∧ post 1 S1 f) ∨ (E = "java/lang/UnsupportedOperationException" ∧ post 2 S1 f)) S v1
def rmL_letters : Room := { frames := 8, cells := 2, slots := 12, locals := 125 }
set_option maxRecDepth 100000 in
theorem kL_letters {l : Launch} {D : va_G} {ky : Nat → ClassId} {ad : Nat → Nat} {ex : Nat → Nat → Nat} {ao : Nat} {post : Int32 → Mem → (Nat → Int64) → Prop} {S : Mem} {f : Nat → Int64} {v1 : Int32} (hf : l.stackTraces = false) (h : mL_letters post S f v1) : CH l D ky ad ex yL_letters cL_letters 4 [(0, 9, 12, 15), (0, 9, 15, 17)] rmL_letters 2 12 [.ref (ad 110), .int v1, .ref ao] S ao (lce ky) f post := by
  refine CH.of (by decide) (Nat.le_of_ble_eq_true rfl) (fun p e s m args below meth c ls F hr ht C hl => ?_)
  have hl : lv_has ls 4 [(0, .ref (ad 110)), (1, .int v1), (2, .ref ao)] := hl
  unfold mL_letters at h
  refine lv_aload_n F.x F.b dL_letters_0 rfl (lv_at hl 2 rfl) ?_
  refine lv_iconst (v := 0) F.x F.b dL_letters_1 (by decide) ?_
  refine lv_aload_n F.x F.b dL_letters_2 rfl (lv_at hl 0 rfl) ?_
  refine lv_iload_n F.x F.b dL_letters_3 rfl (lv_at hl 1 rfl) ?_
  refine gkX F C hl (kX5_letters hf h) (by decide) (ce_X _) rfl wv_L_23 ⟨rfl, rfl, ⟨Nat.le_of_ble_eq_true rfl, Nat.le_of_ble_eq_true rfl⟩, ⟨Nat.le_of_ble_eq_true rfl, Nat.le_of_ble_eq_true rfl⟩, Nat.le_of_ble_eq_true rfl⟩ (rest := [.int 0, .ref ao]) rfl dL_letters_4 (fun E9 ce9 q9 S1 H locs hp C hc9 hv9 hcl9 => ?_) (fun r S1 H locs h C => ?_)
  · rcases hp with ⟨rfl, h⟩ | ⟨rfl, h⟩
    · refine vx_catch F.ow [] ⟨0, 9, 12, 15⟩ [⟨0, 9, 15, 17⟩] (by rw [ht]; rfl) (fun z hz => nomatch hz) rfl (by decide) (F.ts _ q2_127) (csG F.st cst_IllegalArgumentException) hc9 hv9 hcl9 ?_
      refine lv_astore_n (lv' := [(3, .ref q9), (0, .ref (ad 110)), (1, .int v1), (2, .ref ao)]) F.x F.b dL_letters_12 rfl hl (by decide) rfl (fun ls hl => ?_)
      refine lv_iconst (v := 1) F.x F.b dL_letters_13 (by decide) ?_
      exact retH F hr C h dL_letters_14
    · refine vx_catch F.ow [⟨0, 9, 12, 15⟩] ⟨0, 9, 15, 17⟩ [] (by rw [ht]; rfl) (fun z hz => by cases List.mem_singleton.mp hz; exact Or.inr ⟨by decide, "java/lang/IllegalArgumentException", F.ts _ q2_127, ncG F.st (List.mem_of_getElem? (i := 2) rfl)⟩) rfl (by decide) (F.ts _ q2_128) (csG F.st cst_UnsupportedOperationException) hc9 hv9 hcl9 ?_
      refine lv_astore_n (lv' := [(3, .ref q9), (0, .ref (ad 110)), (1, .int v1), (2, .ref ao)]) F.x F.b dL_letters_15 rfl hl (by decide) rfl (fun ls hl => ?_)
      refine lv_iconst (v := 2) F.x F.b dL_letters_16 (by decide) ?_
      exact retH F hr C h dL_letters_17
  · refine lv_i2l F.x F.b dL_letters_7 rfl ?_
    refine hLast F (Or.inr rfl) C dL_letters_8 (fun H locs C => ?_)
    refine lv_goto (tgt := 18) F.x F.b dL_letters_9 (by decide) ?_
    refine lv_iconst (v := 0) F.x F.b dL_letters_18 (by decide) ?_
    exact retH F hr C h dL_letters_19
def mL_stoneOf (post : Int32 → Mem → (Nat → Int64) → Prop) (S : Mem) (f : Nat → Int64) (v1 : Int32) (v2 : Int32) : Prop := mX5_stoneOf (fun (r : Int32) (S1 : Mem) => post 0 S1 (vp_updL f 0 r.toInt64)) (fun (E : String) (S1 : Mem) => (E = "java/lang/IndexOutOfBoundsException" ∧ post 1 S1 f) ∨ (E = "java/lang/IllegalArgumentException" ∧ post 2 S1 f)) S v1 v2
def rmL_stoneOf : Room := { frames := 8, cells := 2, slots := 12, locals := 126 }
set_option maxRecDepth 100000 in
theorem kL_stoneOf {l : Launch} {D : va_G} {ky : Nat → ClassId} {ad : Nat → Nat} {ex : Nat → Nat → Nat} {ao : Nat} {post : Int32 → Mem → (Nat → Int64) → Prop} {S : Mem} {f : Nat → Int64} {v1 : Int32} {v2 : Int32} (hf : l.stackTraces = false) (h : mL_stoneOf post S f v1 v2) : CH l D ky ad ex yL_stoneOf cL_stoneOf 5 [(0, 10, 13, 13), (0, 10, 17, 15)] rmL_stoneOf 2 12 [.ref (ad 110), .int v1, .int v2, .ref ao] S ao (lce ky) f post := by
  refine CH.of (by decide) (Nat.le_of_ble_eq_true rfl) (fun p e s m args below meth c ls F hr ht C hl => ?_)
  have hl : lv_has ls 5 [(0, .ref (ad 110)), (1, .int v1), (2, .int v2), (3, .ref ao)] := hl
  unfold mL_stoneOf at h
  refine lv_aload_n F.x F.b dL_stoneOf_0 rfl (lv_at hl 3 rfl) ?_
  refine lv_iconst (v := 0) F.x F.b dL_stoneOf_1 (by decide) ?_
  refine lv_aload_n F.x F.b dL_stoneOf_2 rfl (lv_at hl 0 rfl) ?_
  refine lv_iload_n F.x F.b dL_stoneOf_3 rfl (lv_at hl 1 rfl) ?_
  refine lv_iload_n F.x F.b dL_stoneOf_4 rfl (lv_at hl 2 rfl) ?_
  refine gkX F C hl (kX5_stoneOf hf h) (by decide) (ce_X _) rfl wv_L_26 ⟨rfl, rfl, ⟨Nat.le_of_ble_eq_true rfl, Nat.le_of_ble_eq_true rfl⟩, ⟨Nat.le_of_ble_eq_true rfl, Nat.le_of_ble_eq_true rfl⟩, Nat.le_of_ble_eq_true rfl⟩ (rest := [.int 0, .ref ao]) rfl dL_stoneOf_5 (fun E9 ce9 q9 S1 H locs hp C hc9 hv9 hcl9 => ?_) (fun r S1 H locs h C => ?_)
  · rcases hp with ⟨rfl, h⟩ | ⟨rfl, h⟩
    · refine vx_catch F.ow [] ⟨0, 10, 13, 13⟩ [⟨0, 10, 17, 15⟩] (by rw [ht]; rfl) (fun z hz => nomatch hz) rfl (by decide) (F.ts _ q2_47) (csG F.st cst_IndexOutOfBoundsException) hc9 hv9 hcl9 ?_
      refine lv_astore (lv' := [(4, .ref q9), (0, .ref (ad 110)), (1, .int v1), (2, .int v2), (3, .ref ao)]) F.x F.b dL_stoneOf_13 hl (by decide) rfl (fun ls hl => ?_)
      refine lv_iconst (v := 1) F.x F.b dL_stoneOf_15 (by decide) ?_
      exact retH F hr C h dL_stoneOf_16
    · refine vx_catch F.ow [⟨0, 10, 13, 13⟩] ⟨0, 10, 17, 15⟩ [] (by rw [ht]; rfl) (fun z hz => by cases List.mem_singleton.mp hz; exact Or.inr ⟨by decide, "java/lang/IndexOutOfBoundsException", F.ts _ q2_47, ncG F.st (List.mem_of_getElem? (i := 0) rfl)⟩) rfl (by decide) (F.ts _ q2_127) (csG F.st cst_IllegalArgumentException) hc9 hv9 hcl9 ?_
      refine lv_astore (lv' := [(4, .ref q9), (0, .ref (ad 110)), (1, .int v1), (2, .int v2), (3, .ref ao)]) F.x F.b dL_stoneOf_17 hl (by decide) rfl (fun ls hl => ?_)
      refine lv_iconst (v := 2) F.x F.b dL_stoneOf_19 (by decide) ?_
      exact retH F hr C h dL_stoneOf_20
  · refine lv_i2l F.x F.b dL_stoneOf_8 rfl ?_
    refine hLast F (Or.inr rfl) C dL_stoneOf_9 (fun H locs C => ?_)
    refine lv_goto (tgt := 21) F.x F.b dL_stoneOf_10 (by decide) ?_
    refine lv_iconst (v := 0) F.x F.b dL_stoneOf_21 (by decide) ?_
    exact retH F hr C h dL_stoneOf_22
def mL_flood (post : Int32 → Mem → (Nat → Int64) → Prop) (S : Mem) (f : Nat → Int64) (v1 : Int32) : Prop := mX5_flood (fun (r : Int32) (S1 : Mem) => post 0 S1 (vp_updL f 0 r.toInt64)) (fun (E : String) (S1 : Mem) => (E = "java/lang/IllegalArgumentException" ∧ post 1 S1 f)) S v1
def rmL_flood : Room := { frames := 8, cells := 1, slots := 6, locals := 127 }
set_option maxRecDepth 100000 in
theorem kL_flood {l : Launch} {D : va_G} {ky : Nat → ClassId} {ad : Nat → Nat} {ex : Nat → Nat → Nat} {ao : Nat} {post : Int32 → Mem → (Nat → Int64) → Prop} {S : Mem} {f : Nat → Int64} {v1 : Int32} (hf : l.stackTraces = false) (h : mL_flood post S f v1) : CH l D ky ad ex yL_flood cL_flood 4 [(0, 9, 12, 15)] rmL_flood 1 6 [.ref (ad 110), .int v1, .ref ao] S ao (lce ky) f post := by
  refine CH.of (by decide) (Nat.le_of_ble_eq_true rfl) (fun p e s m args below meth c ls F hr ht C hl => ?_)
  have hl : lv_has ls 4 [(0, .ref (ad 110)), (1, .int v1), (2, .ref ao)] := hl
  unfold mL_flood at h
  refine lv_aload_n F.x F.b dL_flood_0 rfl (lv_at hl 2 rfl) ?_
  refine lv_iconst (v := 0) F.x F.b dL_flood_1 (by decide) ?_
  refine lv_aload_n F.x F.b dL_flood_2 rfl (lv_at hl 0 rfl) ?_
  refine lv_iload_n F.x F.b dL_flood_3 rfl (lv_at hl 1 rfl) ?_
  refine gkX F C hl (kX5_flood hf h) (by decide) (ce_X _) rfl wv_L_29 ⟨rfl, rfl, ⟨Nat.le_of_ble_eq_true rfl, Nat.le_of_ble_eq_true rfl⟩, ⟨Nat.le_of_ble_eq_true rfl, Nat.le_of_ble_eq_true rfl⟩, Nat.le_of_ble_eq_true rfl⟩ (rest := [.int 0, .ref ao]) rfl dL_flood_4 (fun E9 ce9 q9 S1 H locs hp C hc9 hv9 hcl9 => ?_) (fun r S1 H locs h C => ?_)
  · obtain ⟨rfl, h⟩ := hp
    refine vx_catch F.ow [] ⟨0, 9, 12, 15⟩ [] (by rw [ht]; rfl) (fun z hz => nomatch hz) rfl (by decide) (F.ts _ q2_127) (csG F.st cst_IllegalArgumentException) hc9 hv9 hcl9 ?_
    refine lv_astore_n (lv' := [(3, .ref q9), (0, .ref (ad 110)), (1, .int v1), (2, .ref ao)]) F.x F.b dL_flood_12 rfl hl (by decide) rfl (fun ls hl => ?_)
    refine lv_iconst (v := 1) F.x F.b dL_flood_13 (by decide) ?_
    exact retH F hr C h dL_flood_14
  · refine lv_i2l F.x F.b dL_flood_7 rfl ?_
    refine hLast F (Or.inr rfl) C dL_flood_8 (fun H locs C => ?_)
    refine lv_goto (tgt := 15) F.x F.b dL_flood_9 (by decide) ?_
    refine lv_iconst (v := 0) F.x F.b dL_flood_15 (by decide) ?_
    exact retH F hr C h dL_flood_16
def mL_floodAgain (post : Int32 → Mem → (Nat → Int64) → Prop) (S : Mem) (f : Nat → Int64) (v1 : Int32) : Prop := mX5_floodAgain (fun (r : Int32) (S1 : Mem) => post 0 S1 (vp_updL f 0 r.toInt64)) (fun (E : String) (S1 : Mem) => (E = "java/lang/IllegalArgumentException" ∧ post 1 S1 f)) S v1
def rmL_floodAgain : Room := { frames := 8, cells := 1, slots := 6, locals := 125 }
set_option maxRecDepth 100000 in
theorem kL_floodAgain {l : Launch} {D : va_G} {ky : Nat → ClassId} {ad : Nat → Nat} {ex : Nat → Nat → Nat} {ao : Nat} {post : Int32 → Mem → (Nat → Int64) → Prop} {S : Mem} {f : Nat → Int64} {v1 : Int32} (hf : l.stackTraces = false) (h : mL_floodAgain post S f v1) : CH l D ky ad ex yL_floodAgain cL_floodAgain 4 [(0, 9, 12, 15)] rmL_floodAgain 1 6 [.ref (ad 110), .int v1, .ref ao] S ao (lce ky) f post := by
  refine CH.of (by decide) (Nat.le_of_ble_eq_true rfl) (fun p e s m args below meth c ls F hr ht C hl => ?_)
  have hl : lv_has ls 4 [(0, .ref (ad 110)), (1, .int v1), (2, .ref ao)] := hl
  unfold mL_floodAgain at h
  refine lv_aload_n F.x F.b dL_floodAgain_0 rfl (lv_at hl 2 rfl) ?_
  refine lv_iconst (v := 0) F.x F.b dL_floodAgain_1 (by decide) ?_
  refine lv_aload_n F.x F.b dL_floodAgain_2 rfl (lv_at hl 0 rfl) ?_
  refine lv_iload_n F.x F.b dL_floodAgain_3 rfl (lv_at hl 1 rfl) ?_
  refine gkX F C hl (kX5_floodAgain hf h) (by decide) (ce_X _) rfl wv_L_32 ⟨rfl, rfl, ⟨Nat.le_of_ble_eq_true rfl, Nat.le_of_ble_eq_true rfl⟩, ⟨Nat.le_of_ble_eq_true rfl, Nat.le_of_ble_eq_true rfl⟩, Nat.le_of_ble_eq_true rfl⟩ (rest := [.int 0, .ref ao]) rfl dL_floodAgain_4 (fun E9 ce9 q9 S1 H locs hp C hc9 hv9 hcl9 => ?_) (fun r S1 H locs h C => ?_)
  · obtain ⟨rfl, h⟩ := hp
    refine vx_catch F.ow [] ⟨0, 9, 12, 15⟩ [] (by rw [ht]; rfl) (fun z hz => nomatch hz) rfl (by decide) (F.ts _ q2_127) (csG F.st cst_IllegalArgumentException) hc9 hv9 hcl9 ?_
    refine lv_astore_n (lv' := [(3, .ref q9), (0, .ref (ad 110)), (1, .int v1), (2, .ref ao)]) F.x F.b dL_floodAgain_12 rfl hl (by decide) rfl (fun ls hl => ?_)
    refine lv_iconst (v := 1) F.x F.b dL_floodAgain_13 (by decide) ?_
    exact retH F hr C h dL_floodAgain_14
  · refine lv_i2l F.x F.b dL_floodAgain_7 rfl ?_
    refine hLast F (Or.inr rfl) C dL_floodAgain_8 (fun H locs C => ?_)
    refine lv_goto (tgt := 15) F.x F.b dL_floodAgain_9 (by decide) ?_
    refine lv_iconst (v := 0) F.x F.b dL_floodAgain_15 (by decide) ?_
    exact retH F hr C h dL_floodAgain_16
def mL_clearIn (post : Int32 → Mem → (Nat → Int64) → Prop) (S : Mem) (f : Nat → Int64) : Prop := mX5_clearIn (fun (r : Int32) (S1 : Mem) => post 0 S1 (vp_updL f 0 r.toInt64)) (fun (E : String) (S1 : Mem) => (E = "java/util/NoSuchElementException" ∧ post 1 S1 f)) S
def rmL_clearIn : Room := { frames := 7, cells := 1, slots := 6, locals := 105 }
set_option maxRecDepth 100000 in
theorem kL_clearIn {l : Launch} {D : va_G} {ky : Nat → ClassId} {ad : Nat → Nat} {ex : Nat → Nat → Nat} {ao : Nat} {post : Int32 → Mem → (Nat → Int64) → Prop} {S : Mem} {f : Nat → Int64} (hf : l.stackTraces = false) (h : mL_clearIn post S f) : CH l D ky ad ex yL_clearIn cL_clearIn 3 [(0, 8, 11, 39)] rmL_clearIn 1 6 [.ref (ad 110), .ref ao] S ao (lce ky) f post := by
  refine CH.of (by decide) (Nat.le_of_ble_eq_true rfl) (fun p e s m args below meth c ls F hr ht C hl => ?_)
  have hl : lv_has ls 3 [(0, .ref (ad 110)), (1, .ref ao)] := hl
  unfold mL_clearIn at h
  refine lv_aload_n F.x F.b dL_clearIn_0 rfl (lv_at hl 1 rfl) ?_
  refine lv_iconst (v := 0) F.x F.b dL_clearIn_1 (by decide) ?_
  refine lv_aload_n F.x F.b dL_clearIn_2 rfl (lv_at hl 0 rfl) ?_
  refine gkX F C hl (kX5_clearIn hf h) (by decide) (ce_X _) rfl wv_L_35 ⟨rfl, rfl, ⟨Nat.le_of_ble_eq_true rfl, Nat.le_of_ble_eq_true rfl⟩, ⟨Nat.le_of_ble_eq_true rfl, Nat.le_of_ble_eq_true rfl⟩, Nat.le_of_ble_eq_true rfl⟩ (rest := [.int 0, .ref ao]) rfl dL_clearIn_3 (fun E9 ce9 q9 S1 H locs hp C hc9 hv9 hcl9 => ?_) (fun r S1 H locs h C => ?_)
  · obtain ⟨rfl, h⟩ := hp
    refine vx_catch F.ow [] ⟨0, 8, 11, 39⟩ [] (by rw [ht]; rfl) (fun z hz => nomatch hz) rfl (by decide) (F.ts _ q3_10) (csG F.st cst_NoSuchElementException) hc9 hv9 hcl9 ?_
    refine lv_astore_n (lv' := [(2, .ref q9), (0, .ref (ad 110)), (1, .ref ao)]) F.x F.b dL_clearIn_11 rfl hl (by decide) rfl (fun ls hl => ?_)
    refine lv_iconst (v := 1) F.x F.b dL_clearIn_12 (by decide) ?_
    exact retH F hr C h dL_clearIn_13
  · refine lv_i2l F.x F.b dL_clearIn_6 rfl ?_
    refine hLast F (Or.inr rfl) C dL_clearIn_7 (fun H locs C => ?_)
    refine lv_goto (tgt := 14) F.x F.b dL_clearIn_8 (by decide) ?_
    refine lv_iconst (v := 0) F.x F.b dL_clearIn_14 (by decide) ?_
    exact retH F hr C h dL_clearIn_15
def mL_traveller (post : Int32 → Mem → (Nat → Int64) → Prop) (S : Mem) (f : Nat → Int64) (v1 : Int32) : Prop := mX5_traveller (fun (r : Int32) (S1 : Mem) => post 0 S1 (vp_updL f 0 r.toInt64)) (fun (E : String) (S1 : Mem) => (E = "java/lang/IllegalArgumentException" ∧ post 1 S1 f) ∨ (E = "java/lang/UnsupportedOperationException" ∧ post 2 S1 f)) S v1
def rmL_traveller : Room := { frames := 8, cells := 2, slots := 12, locals := 125 }
set_option maxRecDepth 100000 in
theorem kL_traveller {l : Launch} {D : va_G} {ky : Nat → ClassId} {ad : Nat → Nat} {ex : Nat → Nat → Nat} {ao : Nat} {post : Int32 → Mem → (Nat → Int64) → Prop} {S : Mem} {f : Nat → Int64} {v1 : Int32} (hf : l.stackTraces = false) (h : mL_traveller post S f v1) : CH l D ky ad ex yL_traveller cL_traveller 4 [(0, 9, 12, 15), (0, 9, 15, 17)] rmL_traveller 2 12 [.ref (ad 110), .int v1, .ref ao] S ao (lce ky) f post := by
  refine CH.of (by decide) (Nat.le_of_ble_eq_true rfl) (fun p e s m args below meth c ls F hr ht C hl => ?_)
  have hl : lv_has ls 4 [(0, .ref (ad 110)), (1, .int v1), (2, .ref ao)] := hl
  unfold mL_traveller at h
  refine lv_aload_n F.x F.b dL_traveller_0 rfl (lv_at hl 2 rfl) ?_
  refine lv_iconst (v := 0) F.x F.b dL_traveller_1 (by decide) ?_
  refine lv_aload_n F.x F.b dL_traveller_2 rfl (lv_at hl 0 rfl) ?_
  refine lv_iload_n F.x F.b dL_traveller_3 rfl (lv_at hl 1 rfl) ?_
  refine gkX F C hl (kX5_traveller hf h) (by decide) (ce_X _) rfl wv_L_41 ⟨rfl, rfl, ⟨Nat.le_of_ble_eq_true rfl, Nat.le_of_ble_eq_true rfl⟩, ⟨Nat.le_of_ble_eq_true rfl, Nat.le_of_ble_eq_true rfl⟩, Nat.le_of_ble_eq_true rfl⟩ (rest := [.int 0, .ref ao]) rfl dL_traveller_4 (fun E9 ce9 q9 S1 H locs hp C hc9 hv9 hcl9 => ?_) (fun r S1 H locs h C => ?_)
  · rcases hp with ⟨rfl, h⟩ | ⟨rfl, h⟩
    · refine vx_catch F.ow [] ⟨0, 9, 12, 15⟩ [⟨0, 9, 15, 17⟩] (by rw [ht]; rfl) (fun z hz => nomatch hz) rfl (by decide) (F.ts _ q2_127) (csG F.st cst_IllegalArgumentException) hc9 hv9 hcl9 ?_
      refine lv_astore_n (lv' := [(3, .ref q9), (0, .ref (ad 110)), (1, .int v1), (2, .ref ao)]) F.x F.b dL_traveller_12 rfl hl (by decide) rfl (fun ls hl => ?_)
      refine lv_iconst (v := 1) F.x F.b dL_traveller_13 (by decide) ?_
      exact retH F hr C h dL_traveller_14
    · refine vx_catch F.ow [⟨0, 9, 12, 15⟩] ⟨0, 9, 15, 17⟩ [] (by rw [ht]; rfl) (fun z hz => by cases List.mem_singleton.mp hz; exact Or.inr ⟨by decide, "java/lang/IllegalArgumentException", F.ts _ q2_127, ncG F.st (List.mem_of_getElem? (i := 2) rfl)⟩) rfl (by decide) (F.ts _ q2_128) (csG F.st cst_UnsupportedOperationException) hc9 hv9 hcl9 ?_
      refine lv_astore_n (lv' := [(3, .ref q9), (0, .ref (ad 110)), (1, .int v1), (2, .ref ao)]) F.x F.b dL_traveller_15 rfl hl (by decide) rfl (fun ls hl => ?_)
      refine lv_iconst (v := 2) F.x F.b dL_traveller_16 (by decide) ?_
      exact retH F hr C h dL_traveller_17
  · refine lv_i2l F.x F.b dL_traveller_7 rfl ?_
    refine hLast F (Or.inr rfl) C dL_traveller_8 (fun H locs C => ?_)
    refine lv_goto (tgt := 18) F.x F.b dL_traveller_9 (by decide) ?_
    refine lv_iconst (v := 0) F.x F.b dL_traveller_18 (by decide) ?_
    exact retH F hr C h dL_traveller_19
def mL_travellerOf (post : Int32 → Mem → (Nat → Int64) → Prop) (S : Mem) (f : Nat → Int64) (v1 : Int32) (v2 : Int32) : Prop := mX5_travellerOf (fun (r : Int32) (S1 : Mem) => post 0 S1 (vp_updL f 0 r.toInt64)) (fun (E : String) (S1 : Mem) => (E = "java/lang/IndexOutOfBoundsException" ∧ post 1 S1 f) ∨ (E = "java/lang/IllegalArgumentException" ∧ post 2 S1 f)) S v1 v2
def rmL_travellerOf : Room := { frames := 8, cells := 2, slots := 12, locals := 127 }
set_option maxRecDepth 100000 in
theorem kL_travellerOf {l : Launch} {D : va_G} {ky : Nat → ClassId} {ad : Nat → Nat} {ex : Nat → Nat → Nat} {ao : Nat} {post : Int32 → Mem → (Nat → Int64) → Prop} {S : Mem} {f : Nat → Int64} {v1 : Int32} {v2 : Int32} (hf : l.stackTraces = false) (h : mL_travellerOf post S f v1 v2) : CH l D ky ad ex yL_travellerOf cL_travellerOf 5 [(0, 10, 13, 13), (0, 10, 17, 15)] rmL_travellerOf 2 12 [.ref (ad 110), .int v1, .int v2, .ref ao] S ao (lce ky) f post := by
  refine CH.of (by decide) (Nat.le_of_ble_eq_true rfl) (fun p e s m args below meth c ls F hr ht C hl => ?_)
  have hl : lv_has ls 5 [(0, .ref (ad 110)), (1, .int v1), (2, .int v2), (3, .ref ao)] := hl
  unfold mL_travellerOf at h
  refine lv_aload_n F.x F.b dL_travellerOf_0 rfl (lv_at hl 3 rfl) ?_
  refine lv_iconst (v := 0) F.x F.b dL_travellerOf_1 (by decide) ?_
  refine lv_aload_n F.x F.b dL_travellerOf_2 rfl (lv_at hl 0 rfl) ?_
  refine lv_iload_n F.x F.b dL_travellerOf_3 rfl (lv_at hl 1 rfl) ?_
  refine lv_iload_n F.x F.b dL_travellerOf_4 rfl (lv_at hl 2 rfl) ?_
  refine gkX F C hl (kX5_travellerOf hf h) (by decide) (ce_X _) rfl wv_L_44 ⟨rfl, rfl, ⟨Nat.le_of_ble_eq_true rfl, Nat.le_of_ble_eq_true rfl⟩, ⟨Nat.le_of_ble_eq_true rfl, Nat.le_of_ble_eq_true rfl⟩, Nat.le_of_ble_eq_true rfl⟩ (rest := [.int 0, .ref ao]) rfl dL_travellerOf_5 (fun E9 ce9 q9 S1 H locs hp C hc9 hv9 hcl9 => ?_) (fun r S1 H locs h C => ?_)
  · rcases hp with ⟨rfl, h⟩ | ⟨rfl, h⟩
    · refine vx_catch F.ow [] ⟨0, 10, 13, 13⟩ [⟨0, 10, 17, 15⟩] (by rw [ht]; rfl) (fun z hz => nomatch hz) rfl (by decide) (F.ts _ q2_47) (csG F.st cst_IndexOutOfBoundsException) hc9 hv9 hcl9 ?_
      refine lv_astore (lv' := [(4, .ref q9), (0, .ref (ad 110)), (1, .int v1), (2, .int v2), (3, .ref ao)]) F.x F.b dL_travellerOf_13 hl (by decide) rfl (fun ls hl => ?_)
      refine lv_iconst (v := 1) F.x F.b dL_travellerOf_15 (by decide) ?_
      exact retH F hr C h dL_travellerOf_16
    · refine vx_catch F.ow [⟨0, 10, 13, 13⟩] ⟨0, 10, 17, 15⟩ [] (by rw [ht]; rfl) (fun z hz => by cases List.mem_singleton.mp hz; exact Or.inr ⟨by decide, "java/lang/IndexOutOfBoundsException", F.ts _ q2_47, ncG F.st (List.mem_of_getElem? (i := 0) rfl)⟩) rfl (by decide) (F.ts _ q2_127) (csG F.st cst_IllegalArgumentException) hc9 hv9 hcl9 ?_
      refine lv_astore (lv' := [(4, .ref q9), (0, .ref (ad 110)), (1, .int v1), (2, .int v2), (3, .ref ao)]) F.x F.b dL_travellerOf_17 hl (by decide) rfl (fun ls hl => ?_)
      refine lv_iconst (v := 2) F.x F.b dL_travellerOf_19 (by decide) ?_
      exact retH F hr C h dL_travellerOf_20
  · refine lv_i2l F.x F.b dL_travellerOf_8 rfl ?_
    refine hLast F (Or.inr rfl) C dL_travellerOf_9 (fun H locs C => ?_)
    refine lv_goto (tgt := 21) F.x F.b dL_travellerOf_10 (by decide) ?_
    refine lv_iconst (v := 0) F.x F.b dL_travellerOf_21 (by decide) ?_
    exact retH F hr C h dL_travellerOf_22
def mL_fee (post : Int32 → Mem → (Nat → Int64) → Prop) (S : Mem) (f : Nat → Int64) (v1 : Int32) : Prop := mX5_fee (fun (r : Int32) (S1 : Mem) => post 0 S1 (vp_updL f 0 r.toInt64)) (fun (E : String) (S1 : Mem) => (E = "java/lang/IndexOutOfBoundsException" ∧ post 1 S1 f)) S v1
def rmL_fee : Room := { frames := 8, cells := 1, slots := 6, locals := 124 }
set_option maxRecDepth 100000 in
theorem kL_fee {l : Launch} {D : va_G} {ky : Nat → ClassId} {ad : Nat → Nat} {ex : Nat → Nat → Nat} {ao : Nat} {post : Int32 → Mem → (Nat → Int64) → Prop} {S : Mem} {f : Nat → Int64} {v1 : Int32} (hf : l.stackTraces = false) (h : mL_fee post S f v1) : CH l D ky ad ex yL_fee cL_fee 4 [(0, 9, 12, 13)] rmL_fee 1 6 [.ref (ad 110), .int v1, .ref ao] S ao (lce ky) f post := by
  refine CH.of (by decide) (Nat.le_of_ble_eq_true rfl) (fun p e s m args below meth c ls F hr ht C hl => ?_)
  have hl : lv_has ls 4 [(0, .ref (ad 110)), (1, .int v1), (2, .ref ao)] := hl
  unfold mL_fee at h
  refine lv_aload_n F.x F.b dL_fee_0 rfl (lv_at hl 2 rfl) ?_
  refine lv_iconst (v := 0) F.x F.b dL_fee_1 (by decide) ?_
  refine lv_aload_n F.x F.b dL_fee_2 rfl (lv_at hl 0 rfl) ?_
  refine lv_iload_n F.x F.b dL_fee_3 rfl (lv_at hl 1 rfl) ?_
  refine gkX F C hl (kX5_fee hf h) (by decide) (ce_X _) rfl wv_L_47 ⟨rfl, rfl, ⟨Nat.le_of_ble_eq_true rfl, Nat.le_of_ble_eq_true rfl⟩, ⟨Nat.le_of_ble_eq_true rfl, Nat.le_of_ble_eq_true rfl⟩, Nat.le_of_ble_eq_true rfl⟩ (rest := [.int 0, .ref ao]) rfl dL_fee_4 (fun E9 ce9 q9 S1 H locs hp C hc9 hv9 hcl9 => ?_) (fun r S1 H locs h C => ?_)
  · obtain ⟨rfl, h⟩ := hp
    refine vx_catch F.ow [] ⟨0, 9, 12, 13⟩ [] (by rw [ht]; rfl) (fun z hz => nomatch hz) rfl (by decide) (F.ts _ q2_47) (csG F.st cst_IndexOutOfBoundsException) hc9 hv9 hcl9 ?_
    refine lv_astore_n (lv' := [(3, .ref q9), (0, .ref (ad 110)), (1, .int v1), (2, .ref ao)]) F.x F.b dL_fee_12 rfl hl (by decide) rfl (fun ls hl => ?_)
    refine lv_iconst (v := 1) F.x F.b dL_fee_13 (by decide) ?_
    exact retH F hr C h dL_fee_14
  · refine lv_i2l F.x F.b dL_fee_7 rfl ?_
    refine hLast F (Or.inr rfl) C dL_fee_8 (fun H locs C => ?_)
    refine lv_goto (tgt := 15) F.x F.b dL_fee_9 (by decide) ?_
    refine lv_iconst (v := 0) F.x F.b dL_fee_15 (by decide) ?_
    exact retH F hr C h dL_fee_16
def mL_setOut (post : Int32 → Mem → (Nat → Int64) → Prop) (S : Mem) (f : Nat → Int64) (v1 : Int32) : Prop := mX5_setOut (fun (r : Int32) (S1 : Mem) => post 0 S1 (vp_updL f 0 r.toInt64)) (fun (E : String) (S1 : Mem) => (E = "java/lang/IndexOutOfBoundsException" ∧ post 1 S1 f) ∨ (E = "java/lang/UnsupportedOperationException" ∧ post 2 S1 f)) S v1
def rmL_setOut : Room := { frames := 8, cells := 3, slots := 18, locals := 126 }
set_option maxRecDepth 100000 in
theorem kL_setOut {l : Launch} {D : va_G} {ky : Nat → ClassId} {ad : Nat → Nat} {ex : Nat → Nat → Nat} {ao : Nat} {post : Int32 → Mem → (Nat → Int64) → Prop} {S : Mem} {f : Nat → Int64} {v1 : Int32} (hf : l.stackTraces = false) (h : mL_setOut post S f v1) : CH l D ky ad ex yL_setOut cL_setOut 4 [(0, 9, 12, 13), (0, 9, 15, 17)] rmL_setOut 3 18 [.ref (ad 110), .int v1, .ref ao] S ao (lce ky) f post := by
  refine CH.of (by decide) (Nat.le_of_ble_eq_true rfl) (fun p e s m args below meth c ls F hr ht C hl => ?_)
  have hl : lv_has ls 4 [(0, .ref (ad 110)), (1, .int v1), (2, .ref ao)] := hl
  unfold mL_setOut at h
  refine lv_aload_n F.x F.b dL_setOut_0 rfl (lv_at hl 2 rfl) ?_
  refine lv_iconst (v := 0) F.x F.b dL_setOut_1 (by decide) ?_
  refine lv_aload_n F.x F.b dL_setOut_2 rfl (lv_at hl 0 rfl) ?_
  refine lv_iload_n F.x F.b dL_setOut_3 rfl (lv_at hl 1 rfl) ?_
  refine gkX F C hl (kX5_setOut hf h) (by decide) (ce_X _) rfl wv_L_50 ⟨rfl, rfl, ⟨Nat.le_of_ble_eq_true rfl, Nat.le_of_ble_eq_true rfl⟩, ⟨Nat.le_of_ble_eq_true rfl, Nat.le_of_ble_eq_true rfl⟩, Nat.le_of_ble_eq_true rfl⟩ (rest := [.int 0, .ref ao]) rfl dL_setOut_4 (fun E9 ce9 q9 S1 H locs hp C hc9 hv9 hcl9 => ?_) (fun r S1 H locs h C => ?_)
  · rcases hp with ⟨rfl, h⟩ | ⟨rfl, h⟩
    · refine vx_catch F.ow [] ⟨0, 9, 12, 13⟩ [⟨0, 9, 15, 17⟩] (by rw [ht]; rfl) (fun z hz => nomatch hz) rfl (by decide) (F.ts _ q2_47) (csG F.st cst_IndexOutOfBoundsException) hc9 hv9 hcl9 ?_
      refine lv_astore_n (lv' := [(3, .ref q9), (0, .ref (ad 110)), (1, .int v1), (2, .ref ao)]) F.x F.b dL_setOut_12 rfl hl (by decide) rfl (fun ls hl => ?_)
      refine lv_iconst (v := 1) F.x F.b dL_setOut_13 (by decide) ?_
      exact retH F hr C h dL_setOut_14
    · refine vx_catch F.ow [⟨0, 9, 12, 13⟩] ⟨0, 9, 15, 17⟩ [] (by rw [ht]; rfl) (fun z hz => by cases List.mem_singleton.mp hz; exact Or.inr ⟨by decide, "java/lang/IndexOutOfBoundsException", F.ts _ q2_47, ncG F.st (List.mem_of_getElem? (i := 1) rfl)⟩) rfl (by decide) (F.ts _ q2_128) (csG F.st cst_UnsupportedOperationException) hc9 hv9 hcl9 ?_
      refine lv_astore_n (lv' := [(3, .ref q9), (0, .ref (ad 110)), (1, .int v1), (2, .ref ao)]) F.x F.b dL_setOut_15 rfl hl (by decide) rfl (fun ls hl => ?_)
      refine lv_iconst (v := 2) F.x F.b dL_setOut_16 (by decide) ?_
      exact retH F hr C h dL_setOut_17
  · refine lv_i2l F.x F.b dL_setOut_7 rfl ?_
    refine hLast F (Or.inr rfl) C dL_setOut_8 (fun H locs C => ?_)
    refine lv_goto (tgt := 18) F.x F.b dL_setOut_9 (by decide) ?_
    refine lv_iconst (v := 0) F.x F.b dL_setOut_18 (by decide) ?_
    exact retH F hr C h dL_setOut_19
def mL_stop (post : Int32 → Mem → (Nat → Int64) → Prop) (S : Mem) (f : Nat → Int64) (v1 : Int32) : Prop := mX5_stop (fun (r : Int32) (S1 : Mem) => post 0 S1 (vp_updL f 0 r.toInt64)) (fun (E : String) (S1 : Mem) => (E = "java/lang/IndexOutOfBoundsException" ∧ post 1 S1 f) ∨ (E = "java/lang/UnsupportedOperationException" ∧ post 2 S1 f)) S v1
def rmL_stop : Room := { frames := 9, cells := 3, slots := 18, locals := 148 }
set_option maxRecDepth 100000 in
theorem kL_stop {l : Launch} {D : va_G} {ky : Nat → ClassId} {ad : Nat → Nat} {ex : Nat → Nat → Nat} {ao : Nat} {post : Int32 → Mem → (Nat → Int64) → Prop} {S : Mem} {f : Nat → Int64} {v1 : Int32} (hf : l.stackTraces = false) (h : mL_stop post S f v1) : CH l D ky ad ex yL_stop cL_stop 4 [(0, 9, 12, 13), (0, 9, 15, 17)] rmL_stop 3 18 [.ref (ad 110), .int v1, .ref ao] S ao (lce ky) f post := by
  refine CH.of (by decide) (Nat.le_of_ble_eq_true rfl) (fun p e s m args below meth c ls F hr ht C hl => ?_)
  have hl : lv_has ls 4 [(0, .ref (ad 110)), (1, .int v1), (2, .ref ao)] := hl
  unfold mL_stop at h
  refine lv_aload_n F.x F.b dL_stop_0 rfl (lv_at hl 2 rfl) ?_
  refine lv_iconst (v := 0) F.x F.b dL_stop_1 (by decide) ?_
  refine lv_aload_n F.x F.b dL_stop_2 rfl (lv_at hl 0 rfl) ?_
  refine lv_iload_n F.x F.b dL_stop_3 rfl (lv_at hl 1 rfl) ?_
  refine gkX F C hl (kX5_stop hf h) (by decide) (ce_X _) rfl wv_L_53 ⟨rfl, rfl, ⟨Nat.le_of_ble_eq_true rfl, Nat.le_of_ble_eq_true rfl⟩, ⟨Nat.le_of_ble_eq_true rfl, Nat.le_of_ble_eq_true rfl⟩, Nat.le_of_ble_eq_true rfl⟩ (rest := [.int 0, .ref ao]) rfl dL_stop_4 (fun E9 ce9 q9 S1 H locs hp C hc9 hv9 hcl9 => ?_) (fun r S1 H locs h C => ?_)
  · rcases hp with ⟨rfl, h⟩ | ⟨rfl, h⟩
    · refine vx_catch F.ow [] ⟨0, 9, 12, 13⟩ [⟨0, 9, 15, 17⟩] (by rw [ht]; rfl) (fun z hz => nomatch hz) rfl (by decide) (F.ts _ q2_47) (csG F.st cst_IndexOutOfBoundsException) hc9 hv9 hcl9 ?_
      refine lv_astore_n (lv' := [(3, .ref q9), (0, .ref (ad 110)), (1, .int v1), (2, .ref ao)]) F.x F.b dL_stop_12 rfl hl (by decide) rfl (fun ls hl => ?_)
      refine lv_iconst (v := 1) F.x F.b dL_stop_13 (by decide) ?_
      exact retH F hr C h dL_stop_14
    · refine vx_catch F.ow [⟨0, 9, 12, 13⟩] ⟨0, 9, 15, 17⟩ [] (by rw [ht]; rfl) (fun z hz => by cases List.mem_singleton.mp hz; exact Or.inr ⟨by decide, "java/lang/IndexOutOfBoundsException", F.ts _ q2_47, ncG F.st (List.mem_of_getElem? (i := 1) rfl)⟩) rfl (by decide) (F.ts _ q2_128) (csG F.st cst_UnsupportedOperationException) hc9 hv9 hcl9 ?_
      refine lv_astore_n (lv' := [(3, .ref q9), (0, .ref (ad 110)), (1, .int v1), (2, .ref ao)]) F.x F.b dL_stop_15 rfl hl (by decide) rfl (fun ls hl => ?_)
      refine lv_iconst (v := 2) F.x F.b dL_stop_16 (by decide) ?_
      exact retH F hr C h dL_stop_17
  · refine lv_i2l F.x F.b dL_stop_7 rfl ?_
    refine hLast F (Or.inr rfl) C dL_stop_8 (fun H locs C => ?_)
    refine lv_goto (tgt := 18) F.x F.b dL_stop_9 (by decide) ?_
    refine lv_iconst (v := 0) F.x F.b dL_stop_18 (by decide) ?_
    exact retH F hr C h dL_stop_19
def mL_go (post : Int32 → Mem → (Nat → Int64) → Prop) (S : Mem) (f : Nat → Int64) (v1 : Int32) : Prop := mX5_go (fun (r : Int32) (S1 : Mem) => post 0 S1 (vp_updL f 0 r.toInt64)) (fun (E : String) (S1 : Mem) => (E = "java/lang/IndexOutOfBoundsException" ∧ post 1 S1 f) ∨ (E = "java/lang/UnsupportedOperationException" ∧ post 2 S1 f)) S v1
def rmL_go : Room := { frames := 9, cells := 3, slots := 18, locals := 148 }
set_option maxRecDepth 100000 in
theorem kL_go {l : Launch} {D : va_G} {ky : Nat → ClassId} {ad : Nat → Nat} {ex : Nat → Nat → Nat} {ao : Nat} {post : Int32 → Mem → (Nat → Int64) → Prop} {S : Mem} {f : Nat → Int64} {v1 : Int32} (hf : l.stackTraces = false) (h : mL_go post S f v1) : CH l D ky ad ex yL_go cL_go 4 [(0, 9, 12, 13), (0, 9, 15, 17)] rmL_go 3 18 [.ref (ad 110), .int v1, .ref ao] S ao (lce ky) f post := by
  refine CH.of (by decide) (Nat.le_of_ble_eq_true rfl) (fun p e s m args below meth c ls F hr ht C hl => ?_)
  have hl : lv_has ls 4 [(0, .ref (ad 110)), (1, .int v1), (2, .ref ao)] := hl
  unfold mL_go at h
  refine lv_aload_n F.x F.b dL_go_0 rfl (lv_at hl 2 rfl) ?_
  refine lv_iconst (v := 0) F.x F.b dL_go_1 (by decide) ?_
  refine lv_aload_n F.x F.b dL_go_2 rfl (lv_at hl 0 rfl) ?_
  refine lv_iload_n F.x F.b dL_go_3 rfl (lv_at hl 1 rfl) ?_
  refine gkX F C hl (kX5_go hf h) (by decide) (ce_X _) rfl wv_L_56 ⟨rfl, rfl, ⟨Nat.le_of_ble_eq_true rfl, Nat.le_of_ble_eq_true rfl⟩, ⟨Nat.le_of_ble_eq_true rfl, Nat.le_of_ble_eq_true rfl⟩, Nat.le_of_ble_eq_true rfl⟩ (rest := [.int 0, .ref ao]) rfl dL_go_4 (fun E9 ce9 q9 S1 H locs hp C hc9 hv9 hcl9 => ?_) (fun r S1 H locs h C => ?_)
  · rcases hp with ⟨rfl, h⟩ | ⟨rfl, h⟩
    · refine vx_catch F.ow [] ⟨0, 9, 12, 13⟩ [⟨0, 9, 15, 17⟩] (by rw [ht]; rfl) (fun z hz => nomatch hz) rfl (by decide) (F.ts _ q2_47) (csG F.st cst_IndexOutOfBoundsException) hc9 hv9 hcl9 ?_
      refine lv_astore_n (lv' := [(3, .ref q9), (0, .ref (ad 110)), (1, .int v1), (2, .ref ao)]) F.x F.b dL_go_12 rfl hl (by decide) rfl (fun ls hl => ?_)
      refine lv_iconst (v := 1) F.x F.b dL_go_13 (by decide) ?_
      exact retH F hr C h dL_go_14
    · refine vx_catch F.ow [⟨0, 9, 12, 13⟩] ⟨0, 9, 15, 17⟩ [] (by rw [ht]; rfl) (fun z hz => by cases List.mem_singleton.mp hz; exact Or.inr ⟨by decide, "java/lang/IndexOutOfBoundsException", F.ts _ q2_47, ncG F.st (List.mem_of_getElem? (i := 1) rfl)⟩) rfl (by decide) (F.ts _ q2_128) (csG F.st cst_UnsupportedOperationException) hc9 hv9 hcl9 ?_
      refine lv_astore_n (lv' := [(3, .ref q9), (0, .ref (ad 110)), (1, .int v1), (2, .ref ao)]) F.x F.b dL_go_15 rfl hl (by decide) rfl (fun ls hl => ?_)
      refine lv_iconst (v := 2) F.x F.b dL_go_16 (by decide) ?_
      exact retH F hr C h dL_go_17
  · refine lv_i2l F.x F.b dL_go_7 rfl ?_
    refine hLast F (Or.inr rfl) C dL_go_8 (fun H locs C => ?_)
    refine lv_goto (tgt := 18) F.x F.b dL_go_9 (by decide) ?_
    refine lv_iconst (v := 0) F.x F.b dL_go_18 (by decide) ?_
    exact retH F hr C h dL_go_19
def mL_leave (post : Int32 → Mem → (Nat → Int64) → Prop) (S : Mem) (f : Nat → Int64) (v1 : Int32) : Prop := mX5_leave (fun (r : Int32) (S1 : Mem) => post 0 S1 (vp_updL f 0 r.toInt64)) (fun (E : String) (S1 : Mem) => (E = "java/lang/IndexOutOfBoundsException" ∧ post 1 S1 f) ∨ (E = "java/lang/UnsupportedOperationException" ∧ post 2 S1 f)) S v1
def rmL_leave : Room := { frames := 8, cells := 2, slots := 12, locals := 127 }
set_option maxRecDepth 100000 in
theorem kL_leave {l : Launch} {D : va_G} {ky : Nat → ClassId} {ad : Nat → Nat} {ex : Nat → Nat → Nat} {ao : Nat} {post : Int32 → Mem → (Nat → Int64) → Prop} {S : Mem} {f : Nat → Int64} {v1 : Int32} (hf : l.stackTraces = false) (h : mL_leave post S f v1) : CH l D ky ad ex yL_leave cL_leave 4 [(0, 9, 12, 13), (0, 9, 15, 17)] rmL_leave 2 12 [.ref (ad 110), .int v1, .ref ao] S ao (lce ky) f post := by
  refine CH.of (by decide) (Nat.le_of_ble_eq_true rfl) (fun p e s m args below meth c ls F hr ht C hl => ?_)
  have hl : lv_has ls 4 [(0, .ref (ad 110)), (1, .int v1), (2, .ref ao)] := hl
  unfold mL_leave at h
  refine lv_aload_n F.x F.b dL_leave_0 rfl (lv_at hl 2 rfl) ?_
  refine lv_iconst (v := 0) F.x F.b dL_leave_1 (by decide) ?_
  refine lv_aload_n F.x F.b dL_leave_2 rfl (lv_at hl 0 rfl) ?_
  refine lv_iload_n F.x F.b dL_leave_3 rfl (lv_at hl 1 rfl) ?_
  refine gkX F C hl (kX5_leave hf h) (by decide) (ce_X _) rfl wv_L_59 ⟨rfl, rfl, ⟨Nat.le_of_ble_eq_true rfl, Nat.le_of_ble_eq_true rfl⟩, ⟨Nat.le_of_ble_eq_true rfl, Nat.le_of_ble_eq_true rfl⟩, Nat.le_of_ble_eq_true rfl⟩ (rest := [.int 0, .ref ao]) rfl dL_leave_4 (fun E9 ce9 q9 S1 H locs hp C hc9 hv9 hcl9 => ?_) (fun r S1 H locs h C => ?_)
  · rcases hp with ⟨rfl, h⟩ | ⟨rfl, h⟩
    · refine vx_catch F.ow [] ⟨0, 9, 12, 13⟩ [⟨0, 9, 15, 17⟩] (by rw [ht]; rfl) (fun z hz => nomatch hz) rfl (by decide) (F.ts _ q2_47) (csG F.st cst_IndexOutOfBoundsException) hc9 hv9 hcl9 ?_
      refine lv_astore_n (lv' := [(3, .ref q9), (0, .ref (ad 110)), (1, .int v1), (2, .ref ao)]) F.x F.b dL_leave_12 rfl hl (by decide) rfl (fun ls hl => ?_)
      refine lv_iconst (v := 1) F.x F.b dL_leave_13 (by decide) ?_
      exact retH F hr C h dL_leave_14
    · refine vx_catch F.ow [⟨0, 9, 12, 13⟩] ⟨0, 9, 15, 17⟩ [] (by rw [ht]; rfl) (fun z hz => by cases List.mem_singleton.mp hz; exact Or.inr ⟨by decide, "java/lang/IndexOutOfBoundsException", F.ts _ q2_47, ncG F.st (List.mem_of_getElem? (i := 1) rfl)⟩) rfl (by decide) (F.ts _ q2_128) (csG F.st cst_UnsupportedOperationException) hc9 hv9 hcl9 ?_
      refine lv_astore_n (lv' := [(3, .ref q9), (0, .ref (ad 110)), (1, .int v1), (2, .ref ao)]) F.x F.b dL_leave_15 rfl hl (by decide) rfl (fun ls hl => ?_)
      refine lv_iconst (v := 2) F.x F.b dL_leave_16 (by decide) ?_
      exact retH F hr C h dL_leave_17
  · refine lv_i2l F.x F.b dL_leave_7 rfl ?_
    refine hLast F (Or.inr rfl) C dL_leave_8 (fun H locs C => ?_)
    refine lv_goto (tgt := 18) F.x F.b dL_leave_9 (by decide) ?_
    refine lv_iconst (v := 0) F.x F.b dL_leave_18 (by decide) ?_
    exact retH F hr C h dL_leave_19
def mL_pass (post : Int32 → Mem → (Nat → Int64) → Prop) (S : Mem) (f : Nat → Int64) (v1 : Int32) : Prop := mX5_pass (fun (r : Int32) (S1 : Mem) => post 0 S1 (vp_updL f 0 r.toInt64)) (fun (E : String) (S1 : Mem) => (E = "java/lang/IllegalArgumentException" ∧ post 1 S1 f)) S v1
def rmL_pass : Room := { frames := 8, cells := 1, slots := 6, locals := 138 }
set_option maxRecDepth 100000 in
theorem kL_pass {l : Launch} {D : va_G} {ky : Nat → ClassId} {ad : Nat → Nat} {ex : Nat → Nat → Nat} {ao : Nat} {post : Int32 → Mem → (Nat → Int64) → Prop} {S : Mem} {f : Nat → Int64} {v1 : Int32} (hf : l.stackTraces = false) (h : mL_pass post S f v1) : CH l D ky ad ex yL_pass cL_pass 4 [(0, 9, 12, 15)] rmL_pass 1 6 [.ref (ad 110), .int v1, .ref ao] S ao (lce ky) f post := by
  refine CH.of (by decide) (Nat.le_of_ble_eq_true rfl) (fun p e s m args below meth c ls F hr ht C hl => ?_)
  have hl : lv_has ls 4 [(0, .ref (ad 110)), (1, .int v1), (2, .ref ao)] := hl
  unfold mL_pass at h
  refine lv_aload_n F.x F.b dL_pass_0 rfl (lv_at hl 2 rfl) ?_
  refine lv_iconst (v := 0) F.x F.b dL_pass_1 (by decide) ?_
  refine lv_aload_n F.x F.b dL_pass_2 rfl (lv_at hl 0 rfl) ?_
  refine lv_iload_n F.x F.b dL_pass_3 rfl (lv_at hl 1 rfl) ?_
  refine gkX F C hl (kX5_pass hf h) (by decide) (ce_X _) rfl wv_L_62 ⟨rfl, rfl, ⟨Nat.le_of_ble_eq_true rfl, Nat.le_of_ble_eq_true rfl⟩, ⟨Nat.le_of_ble_eq_true rfl, Nat.le_of_ble_eq_true rfl⟩, Nat.le_of_ble_eq_true rfl⟩ (rest := [.int 0, .ref ao]) rfl dL_pass_4 (fun E9 ce9 q9 S1 H locs hp C hc9 hv9 hcl9 => ?_) (fun r S1 H locs h C => ?_)
  · obtain ⟨rfl, h⟩ := hp
    refine vx_catch F.ow [] ⟨0, 9, 12, 15⟩ [] (by rw [ht]; rfl) (fun z hz => nomatch hz) rfl (by decide) (F.ts _ q2_127) (csG F.st cst_IllegalArgumentException) hc9 hv9 hcl9 ?_
    refine lv_astore_n (lv' := [(3, .ref q9), (0, .ref (ad 110)), (1, .int v1), (2, .ref ao)]) F.x F.b dL_pass_12 rfl hl (by decide) rfl (fun ls hl => ?_)
    refine lv_iconst (v := 1) F.x F.b dL_pass_13 (by decide) ?_
    exact retH F hr C h dL_pass_14
  · refine lv_i2l F.x F.b dL_pass_7 rfl ?_
    refine hLast F (Or.inr rfl) C dL_pass_8 (fun H locs C => ?_)
    refine lv_goto (tgt := 15) F.x F.b dL_pass_9 (by decide) ?_
    refine lv_iconst (v := 0) F.x F.b dL_pass_15 (by decide) ?_
    exact retH F hr C h dL_pass_16
def mL_crossedIn (post : Int32 → Mem → (Nat → Int64) → Prop) (S : Mem) (f : Nat → Int64) (v1 : Int32) : Prop := mX5_crossedIn (fun (r : Int32) (S1 : Mem) => post 0 S1 (vp_updL f 0 r.toInt64)) (fun (E : String) (S1 : Mem) => (E = "java/lang/IndexOutOfBoundsException" ∧ post 1 S1 f) ∨ (E = "java/util/NoSuchElementException" ∧ post 2 S1 f)) S v1
def rmL_crossedIn : Room := { frames := 8, cells := 2, slots := 12, locals := 125 }
set_option maxRecDepth 100000 in
theorem kL_crossedIn {l : Launch} {D : va_G} {ky : Nat → ClassId} {ad : Nat → Nat} {ex : Nat → Nat → Nat} {ao : Nat} {post : Int32 → Mem → (Nat → Int64) → Prop} {S : Mem} {f : Nat → Int64} {v1 : Int32} (hf : l.stackTraces = false) (h : mL_crossedIn post S f v1) : CH l D ky ad ex yL_crossedIn cL_crossedIn 4 [(0, 9, 12, 13), (0, 9, 15, 39)] rmL_crossedIn 2 12 [.ref (ad 110), .int v1, .ref ao] S ao (lce ky) f post := by
  refine CH.of (by decide) (Nat.le_of_ble_eq_true rfl) (fun p e s m args below meth c ls F hr ht C hl => ?_)
  have hl : lv_has ls 4 [(0, .ref (ad 110)), (1, .int v1), (2, .ref ao)] := hl
  unfold mL_crossedIn at h
  refine lv_aload_n F.x F.b dL_crossedIn_0 rfl (lv_at hl 2 rfl) ?_
  refine lv_iconst (v := 0) F.x F.b dL_crossedIn_1 (by decide) ?_
  refine lv_aload_n F.x F.b dL_crossedIn_2 rfl (lv_at hl 0 rfl) ?_
  refine lv_iload_n F.x F.b dL_crossedIn_3 rfl (lv_at hl 1 rfl) ?_
  refine gkX F C hl (kX5_crossedIn hf h) (by decide) (ce_X _) rfl wv_L_65 ⟨rfl, rfl, ⟨Nat.le_of_ble_eq_true rfl, Nat.le_of_ble_eq_true rfl⟩, ⟨Nat.le_of_ble_eq_true rfl, Nat.le_of_ble_eq_true rfl⟩, Nat.le_of_ble_eq_true rfl⟩ (rest := [.int 0, .ref ao]) rfl dL_crossedIn_4 (fun E9 ce9 q9 S1 H locs hp C hc9 hv9 hcl9 => ?_) (fun r S1 H locs h C => ?_)
  · rcases hp with ⟨rfl, h⟩ | ⟨rfl, h⟩
    · refine vx_catch F.ow [] ⟨0, 9, 12, 13⟩ [⟨0, 9, 15, 39⟩] (by rw [ht]; rfl) (fun z hz => nomatch hz) rfl (by decide) (F.ts _ q2_47) (csG F.st cst_IndexOutOfBoundsException) hc9 hv9 hcl9 ?_
      refine lv_astore_n (lv' := [(3, .ref q9), (0, .ref (ad 110)), (1, .int v1), (2, .ref ao)]) F.x F.b dL_crossedIn_12 rfl hl (by decide) rfl (fun ls hl => ?_)
      refine lv_iconst (v := 1) F.x F.b dL_crossedIn_13 (by decide) ?_
      exact retH F hr C h dL_crossedIn_14
    · refine vx_catch F.ow [⟨0, 9, 12, 13⟩] ⟨0, 9, 15, 39⟩ [] (by rw [ht]; rfl) (fun z hz => by cases List.mem_singleton.mp hz; exact Or.inr ⟨by decide, "java/lang/IndexOutOfBoundsException", F.ts _ q2_47, ncG F.st (List.mem_of_getElem? (i := 3) rfl)⟩) rfl (by decide) (F.ts _ q3_10) (csG F.st cst_NoSuchElementException) hc9 hv9 hcl9 ?_
      refine lv_astore_n (lv' := [(3, .ref q9), (0, .ref (ad 110)), (1, .int v1), (2, .ref ao)]) F.x F.b dL_crossedIn_15 rfl hl (by decide) rfl (fun ls hl => ?_)
      refine lv_iconst (v := 2) F.x F.b dL_crossedIn_16 (by decide) ?_
      exact retH F hr C h dL_crossedIn_17
  · refine lv_i2l F.x F.b dL_crossedIn_7 rfl ?_
    refine hLast F (Or.inr rfl) C dL_crossedIn_8 (fun H locs C => ?_)
    refine lv_goto (tgt := 18) F.x F.b dL_crossedIn_9 (by decide) ?_
    refine lv_iconst (v := 0) F.x F.b dL_crossedIn_18 (by decide) ?_
    exact retH F hr C h dL_crossedIn_19
def mL_wetSteps (post : Int32 → Mem → (Nat → Int64) → Prop) (S : Mem) (f : Nat → Int64) (v1 : Int32) : Prop := mX5_wetSteps (fun (r : Int32) (S1 : Mem) => post 0 S1 (vp_updL f 0 r.toInt64)) (fun (E : String) (S1 : Mem) => (E = "java/lang/IllegalArgumentException" ∧ post 1 S1 f) ∨ (E = "java/util/NoSuchElementException" ∧ post 2 S1 f)) S v1
def rmL_wetSteps : Room := { frames := 8, cells := 2, slots := 12, locals := 126 }
set_option maxRecDepth 100000 in
theorem kL_wetSteps {l : Launch} {D : va_G} {ky : Nat → ClassId} {ad : Nat → Nat} {ex : Nat → Nat → Nat} {ao : Nat} {post : Int32 → Mem → (Nat → Int64) → Prop} {S : Mem} {f : Nat → Int64} {v1 : Int32} (hf : l.stackTraces = false) (h : mL_wetSteps post S f v1) : CH l D ky ad ex yL_wetSteps cL_wetSteps 4 [(0, 9, 12, 15), (0, 9, 15, 39)] rmL_wetSteps 2 12 [.ref (ad 110), .int v1, .ref ao] S ao (lce ky) f post := by
  refine CH.of (by decide) (Nat.le_of_ble_eq_true rfl) (fun p e s m args below meth c ls F hr ht C hl => ?_)
  have hl : lv_has ls 4 [(0, .ref (ad 110)), (1, .int v1), (2, .ref ao)] := hl
  unfold mL_wetSteps at h
  refine lv_aload_n F.x F.b dL_wetSteps_0 rfl (lv_at hl 2 rfl) ?_
  refine lv_iconst (v := 0) F.x F.b dL_wetSteps_1 (by decide) ?_
  refine lv_aload_n F.x F.b dL_wetSteps_2 rfl (lv_at hl 0 rfl) ?_
  refine lv_iload_n F.x F.b dL_wetSteps_3 rfl (lv_at hl 1 rfl) ?_
  refine gkX F C hl (kX5_wetSteps hf h) (by decide) (ce_X _) rfl wv_L_68 ⟨rfl, rfl, ⟨Nat.le_of_ble_eq_true rfl, Nat.le_of_ble_eq_true rfl⟩, ⟨Nat.le_of_ble_eq_true rfl, Nat.le_of_ble_eq_true rfl⟩, Nat.le_of_ble_eq_true rfl⟩ (rest := [.int 0, .ref ao]) rfl dL_wetSteps_4 (fun E9 ce9 q9 S1 H locs hp C hc9 hv9 hcl9 => ?_) (fun r S1 H locs h C => ?_)
  · rcases hp with ⟨rfl, h⟩ | ⟨rfl, h⟩
    · refine vx_catch F.ow [] ⟨0, 9, 12, 15⟩ [⟨0, 9, 15, 39⟩] (by rw [ht]; rfl) (fun z hz => nomatch hz) rfl (by decide) (F.ts _ q2_127) (csG F.st cst_IllegalArgumentException) hc9 hv9 hcl9 ?_
      refine lv_astore_n (lv' := [(3, .ref q9), (0, .ref (ad 110)), (1, .int v1), (2, .ref ao)]) F.x F.b dL_wetSteps_12 rfl hl (by decide) rfl (fun ls hl => ?_)
      refine lv_iconst (v := 1) F.x F.b dL_wetSteps_13 (by decide) ?_
      exact retH F hr C h dL_wetSteps_14
    · refine vx_catch F.ow [⟨0, 9, 12, 15⟩] ⟨0, 9, 15, 39⟩ [] (by rw [ht]; rfl) (fun z hz => by cases List.mem_singleton.mp hz; exact Or.inr ⟨by decide, "java/lang/IllegalArgumentException", F.ts _ q2_127, ncG F.st (List.mem_of_getElem? (i := 4) rfl)⟩) rfl (by decide) (F.ts _ q3_10) (csG F.st cst_NoSuchElementException) hc9 hv9 hcl9 ?_
      refine lv_astore_n (lv' := [(3, .ref q9), (0, .ref (ad 110)), (1, .int v1), (2, .ref ao)]) F.x F.b dL_wetSteps_15 rfl hl (by decide) rfl (fun ls hl => ?_)
      refine lv_iconst (v := 2) F.x F.b dL_wetSteps_16 (by decide) ?_
      exact retH F hr C h dL_wetSteps_17
  · refine lv_i2l F.x F.b dL_wetSteps_7 rfl ?_
    refine hLast F (Or.inr rfl) C dL_wetSteps_8 (fun H locs C => ?_)
    refine lv_goto (tgt := 18) F.x F.b dL_wetSteps_9 (by decide) ?_
    refine lv_iconst (v := 0) F.x F.b dL_wetSteps_18 (by decide) ?_
    exact retH F hr C h dL_wetSteps_19
def mL_type (post : Int32 → Mem → (Nat → Int64) → Prop) (S : Mem) (f : Nat → Int64) (v1 : Int32) : Prop := mX5_type (fun (r : Int32) (S1 : Mem) => post 0 S1 (vp_updL f 0 r.toInt64)) (fun (E : String) (S1 : Mem) => (E = "java/lang/IllegalStateException" ∧ post 1 S1 f)) S v1
def rmL_type : Room := { frames := 7, cells := 1, slots := 6, locals := 103 }
set_option maxRecDepth 100000 in
theorem kL_type {l : Launch} {D : va_G} {ky : Nat → ClassId} {ad : Nat → Nat} {ex : Nat → Nat → Nat} {ao : Nat} {post : Int32 → Mem → (Nat → Int64) → Prop} {S : Mem} {f : Nat → Int64} {v1 : Int32} (hf : l.stackTraces = false) (h : mL_type post S f v1) : CH l D ky ad ex yL_type cL_type 4 [(0, 9, 12, 75)] rmL_type 1 6 [.ref (ad 110), .int v1, .ref ao] S ao (lce ky) f post := by
  refine CH.of (by decide) (Nat.le_of_ble_eq_true rfl) (fun p e s m args below meth c ls F hr ht C hl => ?_)
  have hl : lv_has ls 4 [(0, .ref (ad 110)), (1, .int v1), (2, .ref ao)] := hl
  unfold mL_type at h
  refine lv_aload_n F.x F.b dL_type_0 rfl (lv_at hl 2 rfl) ?_
  refine lv_iconst (v := 0) F.x F.b dL_type_1 (by decide) ?_
  refine lv_aload_n F.x F.b dL_type_2 rfl (lv_at hl 0 rfl) ?_
  refine lv_iload_n F.x F.b dL_type_3 rfl (lv_at hl 1 rfl) ?_
  refine gkX F C hl (kX5_type hf h) (by decide) (ce_X _) rfl wv_L_71 ⟨rfl, rfl, ⟨Nat.le_of_ble_eq_true rfl, Nat.le_of_ble_eq_true rfl⟩, ⟨Nat.le_of_ble_eq_true rfl, Nat.le_of_ble_eq_true rfl⟩, Nat.le_of_ble_eq_true rfl⟩ (rest := [.int 0, .ref ao]) rfl dL_type_4 (fun E9 ce9 q9 S1 H locs hp C hc9 hv9 hcl9 => ?_) (fun r S1 H locs h C => ?_)
  · obtain ⟨rfl, h⟩ := hp
    refine vx_catch F.ow [] ⟨0, 9, 12, 75⟩ [] (by rw [ht]; rfl) (fun z hz => nomatch hz) rfl (by decide) (F.ts _ q3_197) (csG F.st cst_IllegalStateException) hc9 hv9 hcl9 ?_
    refine lv_astore_n (lv' := [(3, .ref q9), (0, .ref (ad 110)), (1, .int v1), (2, .ref ao)]) F.x F.b dL_type_12 rfl hl (by decide) rfl (fun ls hl => ?_)
    refine lv_iconst (v := 1) F.x F.b dL_type_13 (by decide) ?_
    exact retH F hr C h dL_type_14
  · refine lv_i2l F.x F.b dL_type_7 rfl ?_
    refine hLast F (Or.inr rfl) C dL_type_8 (fun H locs C => ?_)
    refine lv_goto (tgt := 15) F.x F.b dL_type_9 (by decide) ?_
    refine lv_iconst (v := 0) F.x F.b dL_type_15 (by decide) ?_
    exact retH F hr C h dL_type_16
def mL_ask (post : Int32 → Mem → (Nat → Int64) → Prop) (S : Mem) (f : Nat → Int64) : Prop := mX5_ask (fun (r : Int32) (S1 : Mem) => post 0 S1 (vp_updL f 0 r.toInt64)) (fun (E : String) (S1 : Mem) => (E = "java/lang/IllegalArgumentException" ∧ post 1 S1 f)) S
def rmL_ask : Room := { frames := 57, cells := 1, slots := 6, locals := 1927 }
set_option maxRecDepth 100000 in
theorem kL_ask {l : Launch} {D : va_G} {ky : Nat → ClassId} {ad : Nat → Nat} {ex : Nat → Nat → Nat} {ao : Nat} {post : Int32 → Mem → (Nat → Int64) → Prop} {S : Mem} {f : Nat → Int64} (hf : l.stackTraces = false) (h : mL_ask post S f) : CH l D ky ad ex yL_ask cL_ask 3 [(0, 8, 11, 15)] rmL_ask 1 6 [.ref (ad 110), .ref ao] S ao (lce ky) f post := by
  refine CH.of (by decide) (Nat.le_of_ble_eq_true rfl) (fun p e s m args below meth c ls F hr ht C hl => ?_)
  have hl : lv_has ls 3 [(0, .ref (ad 110)), (1, .ref ao)] := hl
  unfold mL_ask at h
  refine lv_aload_n F.x F.b dL_ask_0 rfl (lv_at hl 1 rfl) ?_
  refine lv_iconst (v := 0) F.x F.b dL_ask_1 (by decide) ?_
  refine lv_aload_n F.x F.b dL_ask_2 rfl (lv_at hl 0 rfl) ?_
  refine gkX F C hl (kX5_ask hf h) (by decide) (ce_X _) rfl wv_L_77 ⟨rfl, rfl, ⟨Nat.le_of_ble_eq_true rfl, Nat.le_of_ble_eq_true rfl⟩, ⟨Nat.le_of_ble_eq_true rfl, Nat.le_of_ble_eq_true rfl⟩, Nat.le_of_ble_eq_true rfl⟩ (rest := [.int 0, .ref ao]) rfl dL_ask_3 (fun E9 ce9 q9 S1 H locs hp C hc9 hv9 hcl9 => ?_) (fun r S1 H locs h C => ?_)
  · obtain ⟨rfl, h⟩ := hp
    refine vx_catch F.ow [] ⟨0, 8, 11, 15⟩ [] (by rw [ht]; rfl) (fun z hz => nomatch hz) rfl (by decide) (F.ts _ q2_127) (csG F.st cst_IllegalArgumentException) hc9 hv9 hcl9 ?_
    refine lv_astore_n (lv' := [(2, .ref q9), (0, .ref (ad 110)), (1, .ref ao)]) F.x F.b dL_ask_11 rfl hl (by decide) rfl (fun ls hl => ?_)
    refine lv_iconst (v := 1) F.x F.b dL_ask_12 (by decide) ?_
    exact retH F hr C h dL_ask_13
  · refine lv_i2l F.x F.b dL_ask_6 rfl ?_
    refine hLast F (Or.inr rfl) C dL_ask_7 (fun H locs C => ?_)
    refine lv_goto (tgt := 14) F.x F.b dL_ask_8 (by decide) ?_
    refine lv_iconst (v := 0) F.x F.b dL_ask_14 (by decide) ?_
    exact retH F hr C h dL_ask_15
def mL_answer (post : Int32 → Mem → (Nat → Int64) → Prop) (S : Mem) (f : Nat → Int64) (v1 : Int32) : Prop := mX5_answer (fun (r : Int32) (S1 : Mem) => post 0 S1 (vp_updL f 0 r.toInt64)) (fun (E : String) (S1 : Mem) => (E = "java/util/NoSuchElementException" ∧ post 1 S1 f)) S v1
def rmL_answer : Room := { frames := 7, cells := 1, slots := 6, locals := 103 }
set_option maxRecDepth 100000 in
theorem kL_answer {l : Launch} {D : va_G} {ky : Nat → ClassId} {ad : Nat → Nat} {ex : Nat → Nat → Nat} {ao : Nat} {post : Int32 → Mem → (Nat → Int64) → Prop} {S : Mem} {f : Nat → Int64} {v1 : Int32} (hf : l.stackTraces = false) (h : mL_answer post S f v1) : CH l D ky ad ex yL_answer cL_answer 4 [(0, 9, 12, 39)] rmL_answer 1 6 [.ref (ad 110), .int v1, .ref ao] S ao (lce ky) f post := by
  refine CH.of (by decide) (Nat.le_of_ble_eq_true rfl) (fun p e s m args below meth c ls F hr ht C hl => ?_)
  have hl : lv_has ls 4 [(0, .ref (ad 110)), (1, .int v1), (2, .ref ao)] := hl
  unfold mL_answer at h
  refine lv_aload_n F.x F.b dL_answer_0 rfl (lv_at hl 2 rfl) ?_
  refine lv_iconst (v := 0) F.x F.b dL_answer_1 (by decide) ?_
  refine lv_aload_n F.x F.b dL_answer_2 rfl (lv_at hl 0 rfl) ?_
  refine lv_iload_n F.x F.b dL_answer_3 rfl (lv_at hl 1 rfl) ?_
  refine gkX F C hl (kX5_answer hf h) (by decide) (ce_X _) rfl wv_L_80 ⟨rfl, rfl, ⟨Nat.le_of_ble_eq_true rfl, Nat.le_of_ble_eq_true rfl⟩, ⟨Nat.le_of_ble_eq_true rfl, Nat.le_of_ble_eq_true rfl⟩, Nat.le_of_ble_eq_true rfl⟩ (rest := [.int 0, .ref ao]) rfl dL_answer_4 (fun E9 ce9 q9 S1 H locs hp C hc9 hv9 hcl9 => ?_) (fun r S1 H locs h C => ?_)
  · obtain ⟨rfl, h⟩ := hp
    refine vx_catch F.ow [] ⟨0, 9, 12, 39⟩ [] (by rw [ht]; rfl) (fun z hz => nomatch hz) rfl (by decide) (F.ts _ q3_10) (csG F.st cst_NoSuchElementException) hc9 hv9 hcl9 ?_
    refine lv_astore_n (lv' := [(3, .ref q9), (0, .ref (ad 110)), (1, .int v1), (2, .ref ao)]) F.x F.b dL_answer_12 rfl hl (by decide) rfl (fun ls hl => ?_)
    refine lv_iconst (v := 1) F.x F.b dL_answer_13 (by decide) ?_
    exact retH F hr C h dL_answer_14
  · refine lv_i2l F.x F.b dL_answer_7 rfl ?_
    refine hLast F (Or.inr rfl) C dL_answer_8 (fun H locs C => ?_)
    refine lv_goto (tgt := 15) F.x F.b dL_answer_9 (by decide) ?_
    refine lv_iconst (v := 0) F.x F.b dL_answer_15 (by decide) ?_
    exact retH F hr C h dL_answer_16
def mL_errorPosition (post : Int32 → Mem → (Nat → Int64) → Prop) (S : Mem) (f : Nat → Int64) : Prop := mX5_errorPosition (fun (r : Int32) (S1 : Mem) => post 0 S1 (vp_updL f 0 r.toInt64)) (fun (E : String) (S1 : Mem) => (E = "java/util/NoSuchElementException" ∧ post 1 S1 f)) S
def rmL_errorPosition : Room := { frames := 7, cells := 1, slots := 6, locals := 102 }
set_option maxRecDepth 100000 in
theorem kL_errorPosition {l : Launch} {D : va_G} {ky : Nat → ClassId} {ad : Nat → Nat} {ex : Nat → Nat → Nat} {ao : Nat} {post : Int32 → Mem → (Nat → Int64) → Prop} {S : Mem} {f : Nat → Int64} (hf : l.stackTraces = false) (h : mL_errorPosition post S f) : CH l D ky ad ex yL_errorPosition cL_errorPosition 3 [(0, 8, 11, 39)] rmL_errorPosition 1 6 [.ref (ad 110), .ref ao] S ao (lce ky) f post := by
  refine CH.of (by decide) (Nat.le_of_ble_eq_true rfl) (fun p e s m args below meth c ls F hr ht C hl => ?_)
  have hl : lv_has ls 3 [(0, .ref (ad 110)), (1, .ref ao)] := hl
  unfold mL_errorPosition at h
  refine lv_aload_n F.x F.b dL_errorPosition_0 rfl (lv_at hl 1 rfl) ?_
  refine lv_iconst (v := 0) F.x F.b dL_errorPosition_1 (by decide) ?_
  refine lv_aload_n F.x F.b dL_errorPosition_2 rfl (lv_at hl 0 rfl) ?_
  refine gkX F C hl (kX5_errorPosition hf h) (by decide) (ce_X _) rfl wv_L_83 ⟨rfl, rfl, ⟨Nat.le_of_ble_eq_true rfl, Nat.le_of_ble_eq_true rfl⟩, ⟨Nat.le_of_ble_eq_true rfl, Nat.le_of_ble_eq_true rfl⟩, Nat.le_of_ble_eq_true rfl⟩ (rest := [.int 0, .ref ao]) rfl dL_errorPosition_3 (fun E9 ce9 q9 S1 H locs hp C hc9 hv9 hcl9 => ?_) (fun r S1 H locs h C => ?_)
  · obtain ⟨rfl, h⟩ := hp
    refine vx_catch F.ow [] ⟨0, 8, 11, 39⟩ [] (by rw [ht]; rfl) (fun z hz => nomatch hz) rfl (by decide) (F.ts _ q3_10) (csG F.st cst_NoSuchElementException) hc9 hv9 hcl9 ?_
    refine lv_astore_n (lv' := [(2, .ref q9), (0, .ref (ad 110)), (1, .ref ao)]) F.x F.b dL_errorPosition_11 rfl hl (by decide) rfl (fun ls hl => ?_)
    refine lv_iconst (v := 1) F.x F.b dL_errorPosition_12 (by decide) ?_
    exact retH F hr C h dL_errorPosition_13
  · refine lv_i2l F.x F.b dL_errorPosition_6 rfl ?_
    refine hLast F (Or.inr rfl) C dL_errorPosition_7 (fun H locs C => ?_)
    refine lv_goto (tgt := 14) F.x F.b dL_errorPosition_8 (by decide) ?_
    refine lv_iconst (v := 0) F.x F.b dL_errorPosition_14 (by decide) ?_
    exact retH F hr C h dL_errorPosition_15
def mL_refusal (post : Int32 → Mem → (Nat → Int64) → Prop) (S : Mem) (f : Nat → Int64) (v1 : Int32) : Prop := mX5_refusal (fun (r : Int32) (S1 : Mem) => post 0 S1 (vp_updL f 0 r.toInt64)) (fun (E : String) (S1 : Mem) => (E = "java/util/NoSuchElementException" ∧ post 1 S1 f)) S v1
def rmL_refusal : Room := { frames := 7, cells := 1, slots := 6, locals := 103 }
set_option maxRecDepth 100000 in
theorem kL_refusal {l : Launch} {D : va_G} {ky : Nat → ClassId} {ad : Nat → Nat} {ex : Nat → Nat → Nat} {ao : Nat} {post : Int32 → Mem → (Nat → Int64) → Prop} {S : Mem} {f : Nat → Int64} {v1 : Int32} (hf : l.stackTraces = false) (h : mL_refusal post S f v1) : CH l D ky ad ex yL_refusal cL_refusal 4 [(0, 9, 12, 39)] rmL_refusal 1 6 [.ref (ad 110), .int v1, .ref ao] S ao (lce ky) f post := by
  refine CH.of (by decide) (Nat.le_of_ble_eq_true rfl) (fun p e s m args below meth c ls F hr ht C hl => ?_)
  have hl : lv_has ls 4 [(0, .ref (ad 110)), (1, .int v1), (2, .ref ao)] := hl
  unfold mL_refusal at h
  refine lv_aload_n F.x F.b dL_refusal_0 rfl (lv_at hl 2 rfl) ?_
  refine lv_iconst (v := 0) F.x F.b dL_refusal_1 (by decide) ?_
  refine lv_aload_n F.x F.b dL_refusal_2 rfl (lv_at hl 0 rfl) ?_
  refine lv_iload_n F.x F.b dL_refusal_3 rfl (lv_at hl 1 rfl) ?_
  refine gkX F C hl (kX5_refusal hf h) (by decide) (ce_X _) rfl wv_L_86 ⟨rfl, rfl, ⟨Nat.le_of_ble_eq_true rfl, Nat.le_of_ble_eq_true rfl⟩, ⟨Nat.le_of_ble_eq_true rfl, Nat.le_of_ble_eq_true rfl⟩, Nat.le_of_ble_eq_true rfl⟩ (rest := [.int 0, .ref ao]) rfl dL_refusal_4 (fun E9 ce9 q9 S1 H locs hp C hc9 hv9 hcl9 => ?_) (fun r S1 H locs h C => ?_)
  · obtain ⟨rfl, h⟩ := hp
    refine vx_catch F.ow [] ⟨0, 9, 12, 39⟩ [] (by rw [ht]; rfl) (fun z hz => nomatch hz) rfl (by decide) (F.ts _ q3_10) (csG F.st cst_NoSuchElementException) hc9 hv9 hcl9 ?_
    refine lv_astore_n (lv' := [(3, .ref q9), (0, .ref (ad 110)), (1, .int v1), (2, .ref ao)]) F.x F.b dL_refusal_12 rfl hl (by decide) rfl (fun ls hl => ?_)
    refine lv_iconst (v := 1) F.x F.b dL_refusal_13 (by decide) ?_
    exact retH F hr C h dL_refusal_14
  · refine lv_i2l F.x F.b dL_refusal_7 rfl ?_
    refine hLast F (Or.inr rfl) C dL_refusal_8 (fun H locs C => ?_)
    refine lv_goto (tgt := 15) F.x F.b dL_refusal_9 (by decide) ?_
    refine lv_iconst (v := 0) F.x F.b dL_refusal_15 (by decide) ?_
    exact retH F hr C h dL_refusal_16
def mL_written (post : Int32 → Mem → (Nat → Int64) → Prop) (S : Mem) (f : Nat → Int64) (v1 : Int32) : Prop := mX5_written (fun (r : Int32) (S1 : Mem) => post 0 S1 (vp_updL f 0 r.toInt64)) (fun (E : String) (S1 : Mem) => (E = "java/util/NoSuchElementException" ∧ post 1 S1 f)) S v1
def rmL_written : Room := { frames := 7, cells := 1, slots := 6, locals := 103 }
set_option maxRecDepth 100000 in
theorem kL_written {l : Launch} {D : va_G} {ky : Nat → ClassId} {ad : Nat → Nat} {ex : Nat → Nat → Nat} {ao : Nat} {post : Int32 → Mem → (Nat → Int64) → Prop} {S : Mem} {f : Nat → Int64} {v1 : Int32} (hf : l.stackTraces = false) (h : mL_written post S f v1) : CH l D ky ad ex yL_written cL_written 4 [(0, 9, 12, 39)] rmL_written 1 6 [.ref (ad 110), .int v1, .ref ao] S ao (lce ky) f post := by
  refine CH.of (by decide) (Nat.le_of_ble_eq_true rfl) (fun p e s m args below meth c ls F hr ht C hl => ?_)
  have hl : lv_has ls 4 [(0, .ref (ad 110)), (1, .int v1), (2, .ref ao)] := hl
  unfold mL_written at h
  refine lv_aload_n F.x F.b dL_written_0 rfl (lv_at hl 2 rfl) ?_
  refine lv_iconst (v := 0) F.x F.b dL_written_1 (by decide) ?_
  refine lv_aload_n F.x F.b dL_written_2 rfl (lv_at hl 0 rfl) ?_
  refine lv_iload_n F.x F.b dL_written_3 rfl (lv_at hl 1 rfl) ?_
  refine gkX F C hl (kX5_written hf h) (by decide) (ce_X _) rfl wv_L_90 ⟨rfl, rfl, ⟨Nat.le_of_ble_eq_true rfl, Nat.le_of_ble_eq_true rfl⟩, ⟨Nat.le_of_ble_eq_true rfl, Nat.le_of_ble_eq_true rfl⟩, Nat.le_of_ble_eq_true rfl⟩ (rest := [.int 0, .ref ao]) rfl dL_written_4 (fun E9 ce9 q9 S1 H locs hp C hc9 hv9 hcl9 => ?_) (fun r S1 H locs h C => ?_)
  · obtain ⟨rfl, h⟩ := hp
    refine vx_catch F.ow [] ⟨0, 9, 12, 39⟩ [] (by rw [ht]; rfl) (fun z hz => nomatch hz) rfl (by decide) (F.ts _ q3_10) (csG F.st cst_NoSuchElementException) hc9 hv9 hcl9 ?_
    refine lv_astore_n (lv' := [(3, .ref q9), (0, .ref (ad 110)), (1, .int v1), (2, .ref ao)]) F.x F.b dL_written_12 rfl hl (by decide) rfl (fun ls hl => ?_)
    refine lv_iconst (v := 1) F.x F.b dL_written_13 (by decide) ?_
    exact retH F hr C h dL_written_14
  · refine lv_i2l F.x F.b dL_written_7 rfl ?_
    refine hLast F (Or.inr rfl) C dL_written_8 (fun H locs C => ?_)
    refine lv_goto (tgt := 15) F.x F.b dL_written_9 (by decide) ?_
    refine lv_iconst (v := 0) F.x F.b dL_written_15 (by decide) ?_
    exact retH F hr C h dL_written_16
def mL_account (post : Int32 → Mem → (Nat → Int64) → Prop) (S : Mem) (f : Nat → Int64) (v1 : Int32) : Prop := mX5_account (fun (r : Int32) (S1 : Mem) => post 0 S1 (vp_updL f 0 r.toInt64)) (fun (E : String) (S1 : Mem) => (E = "java/lang/IllegalArgumentException" ∧ post 1 S1 f)) S v1
def rmL_account : Room := { frames := 8, cells := 1, slots := 6, locals := 125 }
set_option maxRecDepth 100000 in
theorem kL_account {l : Launch} {D : va_G} {ky : Nat → ClassId} {ad : Nat → Nat} {ex : Nat → Nat → Nat} {ao : Nat} {post : Int32 → Mem → (Nat → Int64) → Prop} {S : Mem} {f : Nat → Int64} {v1 : Int32} (hf : l.stackTraces = false) (h : mL_account post S f v1) : CH l D ky ad ex yL_account cL_account 4 [(0, 9, 12, 15)] rmL_account 1 6 [.ref (ad 110), .int v1, .ref ao] S ao (lce ky) f post := by
  refine CH.of (by decide) (Nat.le_of_ble_eq_true rfl) (fun p e s m args below meth c ls F hr ht C hl => ?_)
  have hl : lv_has ls 4 [(0, .ref (ad 110)), (1, .int v1), (2, .ref ao)] := hl
  unfold mL_account at h
  refine lv_aload_n F.x F.b dL_account_0 rfl (lv_at hl 2 rfl) ?_
  refine lv_iconst (v := 0) F.x F.b dL_account_1 (by decide) ?_
  refine lv_aload_n F.x F.b dL_account_2 rfl (lv_at hl 0 rfl) ?_
  refine lv_iload_n F.x F.b dL_account_3 rfl (lv_at hl 1 rfl) ?_
  refine gkX F C hl (kX5_account hf h) (by decide) (ce_X _) rfl wv_L_94 ⟨rfl, rfl, ⟨Nat.le_of_ble_eq_true rfl, Nat.le_of_ble_eq_true rfl⟩, ⟨Nat.le_of_ble_eq_true rfl, Nat.le_of_ble_eq_true rfl⟩, Nat.le_of_ble_eq_true rfl⟩ (rest := [.int 0, .ref ao]) rfl dL_account_4 (fun E9 ce9 q9 S1 H locs hp C hc9 hv9 hcl9 => ?_) (fun r S1 H locs h C => ?_)
  · obtain ⟨rfl, h⟩ := hp
    refine vx_catch F.ow [] ⟨0, 9, 12, 15⟩ [] (by rw [ht]; rfl) (fun z hz => nomatch hz) rfl (by decide) (F.ts _ q2_127) (csG F.st cst_IllegalArgumentException) hc9 hv9 hcl9 ?_
    refine lv_astore_n (lv' := [(3, .ref q9), (0, .ref (ad 110)), (1, .int v1), (2, .ref ao)]) F.x F.b dL_account_12 rfl hl (by decide) rfl (fun ls hl => ?_)
    refine lv_iconst (v := 1) F.x F.b dL_account_13 (by decide) ?_
    exact retH F hr C h dL_account_14
  · refine lv_i2l F.x F.b dL_account_7 rfl ?_
    refine hLast F (Or.inr rfl) C dL_account_8 (fun H locs C => ?_)
    refine lv_goto (tgt := 15) F.x F.b dL_account_9 (by decide) ?_
    refine lv_iconst (v := 0) F.x F.b dL_account_15 (by decide) ?_
    exact retH F hr C h dL_account_16
def mL_meanWet (post : Int32 → Mem → (Nat → UInt64) → Prop) (S : Mem) (f : Nat → UInt64) : Prop := mX5_meanWet (fun (r : UInt64) (S1 : Mem) => post 0 S1 (vf_upd f 0 r)) (fun (E : String) (S1 : Mem) => (E = "java/lang/ArithmeticException" ∧ post 1 S1 f)) S
def rmL_meanWet : Room := { frames := 7, cells := 1, slots := 6, locals := 102 }
set_option maxRecDepth 100000 in
theorem kL_meanWet {l : Launch} {D : va_G} {ky : Nat → ClassId} {ad : Nat → Nat} {ex : Nat → Nat → Nat} {ao : Nat} {post : Int32 → Mem → (Nat → UInt64) → Prop} {S : Mem} {f : Nat → UInt64} (hf : l.stackTraces = false) (h : mL_meanWet post S f) : CH l D ky ad ex yL_meanWet cL_meanWet 3 [(0, 7, 10, 101)] rmL_meanWet 1 6 [.ref (ad 110), .ref ao] S ao (dce ky) f post := by
  refine CH.of (by decide) (Nat.le_of_ble_eq_true rfl) (fun p e s m args below meth c ls F hr ht C hl => ?_)
  have hl : lv_has ls 3 [(0, .ref (ad 110)), (1, .ref ao)] := hl
  unfold mL_meanWet at h
  refine lv_aload_n F.x F.b dL_meanWet_0 rfl (lv_at hl 1 rfl) ?_
  refine lv_iconst (v := 0) F.x F.b dL_meanWet_1 (by decide) ?_
  refine lv_aload_n F.x F.b dL_meanWet_2 rfl (lv_at hl 0 rfl) ?_
  refine gkXD F C hl (kX5_meanWet hf h) (by decide) (ce_X _) rfl wv_L_97 ⟨rfl, rfl, ⟨Nat.le_of_ble_eq_true rfl, Nat.le_of_ble_eq_true rfl⟩, ⟨Nat.le_of_ble_eq_true rfl, Nat.le_of_ble_eq_true rfl⟩, Nat.le_of_ble_eq_true rfl⟩ (rest := [.int 0, .ref ao]) rfl dL_meanWet_3 (fun E9 ce9 q9 S1 H locs hp C hc9 hv9 hcl9 => ?_) (fun r S1 H locs h C => ?_)
  · obtain ⟨rfl, h⟩ := hp
    refine vx_catch F.ow [] ⟨0, 7, 10, 101⟩ [] (by rw [ht]; rfl) (fun z hz => nomatch hz) rfl (by decide) (F.ts _ q4_163) (csG F.st cst_ArithmeticException) hc9 hv9 hcl9 ?_
    refine lv_astore_n (lv' := [(2, .ref q9), (0, .ref (ad 110)), (1, .ref ao)]) F.x F.b dL_meanWet_10 rfl hl (by decide) rfl (fun ls hl => ?_)
    refine lv_iconst (v := 1) F.x F.b dL_meanWet_11 (by decide) ?_
    exact retH F hr C h dL_meanWet_12
  · skip
    refine hDast F (Or.inr rfl) C dL_meanWet_6 (fun H locs C => ?_)
    refine lv_goto (tgt := 13) F.x F.b dL_meanWet_7 (by decide) ?_
    refine lv_iconst (v := 0) F.x F.b dL_meanWet_13 (by decide) ?_
    exact retH F hr C h dL_meanWet_14
def mL_crossingShare (post : Int32 → Mem → (Nat → UInt64) → Prop) (S : Mem) (f : Nat → UInt64) : Prop := mX5_crossingShare (fun (r : UInt32) (S1 : Mem) => vf_n64 (FP.f2d r) ∧ post 0 S1 (vf_upd f 0 (FP.f2d r))) (fun (E : String) (S1 : Mem) => (E = "java/lang/ArithmeticException" ∧ post 1 S1 f)) S
def rmL_crossingShare : Room := { frames := 7, cells := 1, slots := 6, locals := 103 }
set_option maxRecDepth 100000 in
theorem kL_crossingShare {l : Launch} {D : va_G} {ky : Nat → ClassId} {ad : Nat → Nat} {ex : Nat → Nat → Nat} {ao : Nat} {post : Int32 → Mem → (Nat → UInt64) → Prop} {S : Mem} {f : Nat → UInt64} (hf : l.stackTraces = false) (h : mL_crossingShare post S f) : CH l D ky ad ex yL_crossingShare cL_crossingShare 3 [(0, 8, 11, 101)] rmL_crossingShare 1 6 [.ref (ad 110), .ref ao] S ao (dce ky) f post := by
  refine CH.of (by decide) (Nat.le_of_ble_eq_true rfl) (fun p e s m args below meth c ls F hr ht C hl => ?_)
  have hl : lv_has ls 3 [(0, .ref (ad 110)), (1, .ref ao)] := hl
  unfold mL_crossingShare at h
  refine lv_aload_n F.x F.b dL_crossingShare_0 rfl (lv_at hl 1 rfl) ?_
  refine lv_iconst (v := 0) F.x F.b dL_crossingShare_1 (by decide) ?_
  refine lv_aload_n F.x F.b dL_crossingShare_2 rfl (lv_at hl 0 rfl) ?_
  refine gkXF F C hl (kX5_crossingShare hf h) (by decide) (ce_X _) rfl wv_L_103 ⟨rfl, rfl, ⟨Nat.le_of_ble_eq_true rfl, Nat.le_of_ble_eq_true rfl⟩, ⟨Nat.le_of_ble_eq_true rfl, Nat.le_of_ble_eq_true rfl⟩, Nat.le_of_ble_eq_true rfl⟩ (rest := [.int 0, .ref ao]) rfl dL_crossingShare_3 (fun E9 ce9 q9 S1 H locs hp C hc9 hv9 hcl9 => ?_) (fun r S1 H locs h C => ?_)
  · obtain ⟨rfl, h⟩ := hp
    refine vx_catch F.ow [] ⟨0, 8, 11, 101⟩ [] (by rw [ht]; rfl) (fun z hz => nomatch hz) rfl (by decide) (F.ts _ q4_163) (csG F.st cst_ArithmeticException) hc9 hv9 hcl9 ?_
    refine lv_astore_n (lv' := [(2, .ref q9), (0, .ref (ad 110)), (1, .ref ao)]) F.x F.b dL_crossingShare_11 rfl hl (by decide) rfl (fun ls hl => ?_)
    refine lv_iconst (v := 1) F.x F.b dL_crossingShare_12 (by decide) ?_
    exact retH F hr C h dL_crossingShare_13
  · refine lv_f2d F.x F.b dL_crossingShare_6 h.1 ?_
    have h := h.2
    refine hDast F (Or.inr rfl) C dL_crossingShare_7 (fun H locs C => ?_)
    refine lv_goto (tgt := 14) F.x F.b dL_crossingShare_8 (by decide) ?_
    refine lv_iconst (v := 0) F.x F.b dL_crossingShare_14 (by decide) ?_
    exact retH F hr C h dL_crossingShare_15
def mL_undo (post : Int32 → Mem → (Nat → Int64) → Prop) (S : Mem) (f : Nat → Int64) : Prop := mX5_undo (fun (r : Int32) (S1 : Mem) => post 0 S1 (vp_updL f 0 r.toInt64)) (fun (E : String) (S1 : Mem) => (E = "java/lang/IllegalStateException" ∧ post 1 S1 f)) S
def rmL_undo : Room := { frames := 7, cells := 1, slots := 6, locals := 102 }
set_option maxRecDepth 100000 in
theorem kL_undo {l : Launch} {D : va_G} {ky : Nat → ClassId} {ad : Nat → Nat} {ex : Nat → Nat → Nat} {ao : Nat} {post : Int32 → Mem → (Nat → Int64) → Prop} {S : Mem} {f : Nat → Int64} (hf : l.stackTraces = false) (h : mL_undo post S f) : CH l D ky ad ex yL_undo cL_undo 3 [(0, 8, 11, 75)] rmL_undo 1 6 [.ref (ad 110), .ref ao] S ao (lce ky) f post := by
  refine CH.of (by decide) (Nat.le_of_ble_eq_true rfl) (fun p e s m args below meth c ls F hr ht C hl => ?_)
  have hl : lv_has ls 3 [(0, .ref (ad 110)), (1, .ref ao)] := hl
  unfold mL_undo at h
  refine lv_aload_n F.x F.b dL_undo_0 rfl (lv_at hl 1 rfl) ?_
  refine lv_iconst (v := 0) F.x F.b dL_undo_1 (by decide) ?_
  refine lv_aload_n F.x F.b dL_undo_2 rfl (lv_at hl 0 rfl) ?_
  refine gkX F C hl (kX5_undo hf h) (by decide) (ce_X _) rfl wv_L_107 ⟨rfl, rfl, ⟨Nat.le_of_ble_eq_true rfl, Nat.le_of_ble_eq_true rfl⟩, ⟨Nat.le_of_ble_eq_true rfl, Nat.le_of_ble_eq_true rfl⟩, Nat.le_of_ble_eq_true rfl⟩ (rest := [.int 0, .ref ao]) rfl dL_undo_3 (fun E9 ce9 q9 S1 H locs hp C hc9 hv9 hcl9 => ?_) (fun r S1 H locs h C => ?_)
  · obtain ⟨rfl, h⟩ := hp
    refine vx_catch F.ow [] ⟨0, 8, 11, 75⟩ [] (by rw [ht]; rfl) (fun z hz => nomatch hz) rfl (by decide) (F.ts _ q3_197) (csG F.st cst_IllegalStateException) hc9 hv9 hcl9 ?_
    refine lv_astore_n (lv' := [(2, .ref q9), (0, .ref (ad 110)), (1, .ref ao)]) F.x F.b dL_undo_11 rfl hl (by decide) rfl (fun ls hl => ?_)
    refine lv_iconst (v := 1) F.x F.b dL_undo_12 (by decide) ?_
    exact retH F hr C h dL_undo_13
  · refine lv_i2l F.x F.b dL_undo_6 rfl ?_
    refine hLast F (Or.inr rfl) C dL_undo_7 (fun H locs C => ?_)
    refine lv_goto (tgt := 14) F.x F.b dL_undo_8 (by decide) ?_
    refine lv_iconst (v := 0) F.x F.b dL_undo_14 (by decide) ?_
    exact retH F hr C h dL_undo_15
def mL_restore (post : Int32 → Mem → (Nat → Int64) → Prop) (S : Mem) (f : Nat → Int64) : Prop := mX5_restore (fun (r : Int32) (S1 : Mem) => post 0 S1 (vp_updL f 0 r.toInt64)) (fun (E : String) (S1 : Mem) => (E = "java/lang/IllegalStateException" ∧ post 1 S1 f)) S
def rmL_restore : Room := { frames := 7, cells := 1, slots := 6, locals := 102 }
set_option maxRecDepth 100000 in
theorem kL_restore {l : Launch} {D : va_G} {ky : Nat → ClassId} {ad : Nat → Nat} {ex : Nat → Nat → Nat} {ao : Nat} {post : Int32 → Mem → (Nat → Int64) → Prop} {S : Mem} {f : Nat → Int64} (hf : l.stackTraces = false) (h : mL_restore post S f) : CH l D ky ad ex yL_restore cL_restore 3 [(0, 8, 11, 75)] rmL_restore 1 6 [.ref (ad 110), .ref ao] S ao (lce ky) f post := by
  refine CH.of (by decide) (Nat.le_of_ble_eq_true rfl) (fun p e s m args below meth c ls F hr ht C hl => ?_)
  have hl : lv_has ls 3 [(0, .ref (ad 110)), (1, .ref ao)] := hl
  unfold mL_restore at h
  refine lv_aload_n F.x F.b dL_restore_0 rfl (lv_at hl 1 rfl) ?_
  refine lv_iconst (v := 0) F.x F.b dL_restore_1 (by decide) ?_
  refine lv_aload_n F.x F.b dL_restore_2 rfl (lv_at hl 0 rfl) ?_
  refine gkX F C hl (kX5_restore hf h) (by decide) (ce_X _) rfl wv_L_110 ⟨rfl, rfl, ⟨Nat.le_of_ble_eq_true rfl, Nat.le_of_ble_eq_true rfl⟩, ⟨Nat.le_of_ble_eq_true rfl, Nat.le_of_ble_eq_true rfl⟩, Nat.le_of_ble_eq_true rfl⟩ (rest := [.int 0, .ref ao]) rfl dL_restore_3 (fun E9 ce9 q9 S1 H locs hp C hc9 hv9 hcl9 => ?_) (fun r S1 H locs h C => ?_)
  · obtain ⟨rfl, h⟩ := hp
    refine vx_catch F.ow [] ⟨0, 8, 11, 75⟩ [] (by rw [ht]; rfl) (fun z hz => nomatch hz) rfl (by decide) (F.ts _ q3_197) (csG F.st cst_IllegalStateException) hc9 hv9 hcl9 ?_
    refine lv_astore_n (lv' := [(2, .ref q9), (0, .ref (ad 110)), (1, .ref ao)]) F.x F.b dL_restore_11 rfl hl (by decide) rfl (fun ls hl => ?_)
    refine lv_iconst (v := 1) F.x F.b dL_restore_12 (by decide) ?_
    exact retH F hr C h dL_restore_13
  · refine lv_i2l F.x F.b dL_restore_6 rfl ?_
    refine hLast F (Or.inr rfl) C dL_restore_7 (fun H locs C => ?_)
    refine lv_goto (tgt := 14) F.x F.b dL_restore_8 (by decide) ?_
    refine lv_iconst (v := 0) F.x F.b dL_restore_14 (by decide) ?_
    exact retH F hr C h dL_restore_15
