def rmL_at : Room := { frames := 0, cells := 0, slots := 0, locals := 0 }
def mL_at (ex : Nat → Nat → Nat) (post : Int32 → Mem → Prop) (S : Mem) (v1 : Int32) : Prop := (((nI (ex 4 1)) ≤ v1 → (post (0 : Int32) S)) ∧ (¬ (nI (ex 4 1)) ≤ v1 → (vp_in v1 (ex 4 1) ∧ post (xsE ex v1.toNatClampNeg) S)))
set_option maxRecDepth 100000 in
set_option maxHeartbeats 4000000 in
theorem kL_at {l : Launch} {D : va_G} {ky : Nat → ClassId} {ad : Nat → Nat} {ex : Nat → Nat → Nat} {post : Int32 → Mem → Prop} {S : Mem} {v1 : Int32} (hf : l.stackTraces = false) (h : mL_at ex post S v1) : CMi l D ky ad ex yL_at cL_at 2 (some .int) rmL_at 0 0 [.ref (ex 4 0), .int v1] S post := by
  refine CMi.of (by decide) (Nat.le_of_ble_eq_true rfl) (fun p e s m args below meth c ls F hr C hl => ?_)
  have hl : lv_has ls 2 [(0, .ref (ex 4 0)), (1, .int v1)] := hl
  unfold mL_at at h
  refine lv_iload_n F.x F.b dL_at_0 rfl (lv_at hl 1 rfl) ?_
  refine lv_aload_n F.x F.b dL_at_1 rfl (lv_at hl 0 rfl) ?_
  refine sLen F.g C.g dL_at_2 ?_
  refine lv_icmp_ge (tgt := 12) F.x F.b dL_at_3 (by decide) (fun g1 => ?_) (fun g1 => ?_)
  · have h := h.1 g1
    refine lv_iconst (v := 0) F.x F.b dL_at_12 (by decide) ?_
    refine W.widen (k := 0) (n := 0) (by omega) (by omega) ?_
    exact retI F hr C h dL_at_13
  · have h := h.2 g1
    refine lv_aload_n F.x F.b dL_at_6 rfl (lv_at hl 0 rfl) ?_
    refine lv_iload_n F.x F.b dL_at_7 rfl (lv_at hl 1 rfl) ?_
    obtain ⟨g2, h⟩ := h
    refine sLd F.g C.g g2 dL_at_8 ?_
    refine lv_goto (tgt := 13) F.x F.b dL_at_9 (by decide) ?_
    refine W.widen (k := 0) (n := 0) (by omega) (by omega) ?_
    exact retI F hr C h dL_at_13

def rmL_some : Room := { frames := 0, cells := 0, slots := 0, locals := 0 }
def mL_some (post : Int32 → Mem → Prop) (S : Mem) (v0 : Int32) (v1 : Int32) : Prop := ¬ v1 = 0 ∧ ∀ x2 : Int32, x2 = (v0 - v0 / v1 * v1) → ((0 ≤ x2 → (post x2 S)) ∧ (¬ 0 ≤ x2 → (post (x2 + v1) S)))
set_option maxRecDepth 100000 in
set_option maxHeartbeats 4000000 in
theorem kL_some {l : Launch} {D : va_G} {ky : Nat → ClassId} {ad : Nat → Nat} {ex : Nat → Nat → Nat} {post : Int32 → Mem → Prop} {S : Mem} {v0 : Int32} {v1 : Int32} (hf : l.stackTraces = false) (h : mL_some post S v0 v1) : CMi l D ky ad ex yL_some cL_some 3 (some .int) rmL_some 0 0 [.int v0, .int v1] S post := by
  refine CMi.of (by decide) (Nat.le_of_ble_eq_true rfl) (fun p e s m args below meth c ls F hr C hl => ?_)
  have hl : lv_has ls 3 [(0, .int v0), (1, .int v1)] := hl
  unfold mL_some at h
  refine lv_iload_n F.x F.b dL_some_0 rfl (lv_at hl 0 rfl) ?_
  refine lv_iload_n F.x F.b dL_some_1 rfl (lv_at hl 1 rfl) ?_
  obtain ⟨g1, h⟩ := h
  refine lv_irem F.x F.b dL_some_2 g1 ?_
  refine lv_topi (fun x2 ex2 => ?_)
  have h := h x2 ex2
  refine lv_istore_n (lv' := [(2, .int x2), (0, .int v0), (1, .int v1)]) F.x F.b dL_some_3 rfl hl (by decide) rfl (fun ls hl => ?_)
  refine lv_iload_n F.x F.b dL_some_4 rfl (lv_at hl 0 rfl) ?_
  refine lv_if_ge (tgt := 14) F.x F.b dL_some_5 (by decide) (fun g3 => ?_) (fun g3 => ?_)
  · have h := h.1 g3
    refine lv_iload_n F.x F.b dL_some_14 rfl (lv_at hl 0 rfl) ?_
    refine W.widen (k := 0) (n := 0) (by omega) (by omega) ?_
    exact retI F hr C h dL_some_15
  · have h := h.2 g3
    refine lv_iload_n F.x F.b dL_some_8 rfl (lv_at hl 0 rfl) ?_
    refine lv_iload_n F.x F.b dL_some_9 rfl (lv_at hl 2 rfl) ?_
    refine lv_iadd F.x F.b dL_some_10 ?_
    refine lv_goto (tgt := 15) F.x F.b dL_some_11 (by decide) ?_
    refine W.widen (k := 0) (n := 0) (by omega) (by omega) ?_
    exact retI F hr C h dL_some_15

def rmL_asks : Room := { frames := 58, cells := 16, slots := 96, locals := 1948 }
def mL_asks_b2 (post : Int32 → Mem → Prop) : Nat → Mem → Nat → Int32 → Prop
  | 0, _, _, _ => False
  | n + 1, S, s1, v2 => (((lnS s1) ≤ v2 → (mL_ask (fun (r4 : Int32) (S3 : Mem) => post r4 S3) S)) ∧ (¬ (lnS s1) ≤ v2 → (vp_in v2 (lnN s1) ∧ mL_type (fun (r8 : Int32) (S7 : Mem) => ((r8 = (v2 + (1 : Int32)) → (∀ x10 : Int32, x10 = v2 + (1 : Int32) → mL_asks_b2 post n S7 s1 x10)) ∧ (¬ r8 = (v2 + (1 : Int32)) → (post (-99 : Int32) S7)))) S (chS s1 v2))))
def mL_asks (post : Int32 → Mem → Prop) (S : Mem) (s1 : Nat) : Prop := ∃ fu : Nat, fu ≤ 15 ∧ mL_asks_b2 post fu S s1 (0 : Int32)
set_option maxRecDepth 100000 in
set_option maxHeartbeats 4000000 in
theorem bL_asks_2 {p : Program} {l : Launch} {e : Env} {s : State} {m : MethodId} {args : Array Value} {below : List Frame} {meth : Method} {c : Code} {D : va_G} {ky : Nat → ClassId} {ad : Nat → Nat} {ex : Nat → Nat → Nat} (F : Fx p s m args meth c D ky ad ex cL_asks 3 yL_asks.cls) (hr : meth.sig.returnType = (some .int)) (hf : l.stackTraces = false) {post : Int32 → Mem → Prop} : ∀ (n : Nat) (cells slots : Nat) (S : Mem) (s1 : Nat) (v2 : Int32) (H : Heap) (locs : List Loc) (ls : Array Slot), s1 < 12 → cells + (1 * n + 1) ≤ 16 → slots + (6 * n + 6) ≤ 96 → mL_asks_b2 post n S s1 v2 → Cx D ky ad s S H locs → lv_has ls 3 [(0, .ref (ad 110)), (1, .ref (ex 0 s1)), (2, .int v2)] → W p l e rmL_asks s m args below meth c H locs cells slots (MQ below (va_Qi post (AFT D ky ad) (AW ad s.heap.size)) args s 16 96 (AW ad s.heap.size)) (F0 m 2 ls []) := by
  intro n
  induction n with
  | zero =>
    intro cells slots S s1 v2 H locs ls hs1 hc hs h
    exact False.elim h
  | succ n ih =>
    intro cells slots S s1 v2 H locs ls hs1 hc hs h C hl
    refine lv_iload_n F.x F.b dL_asks_2 rfl (lv_at hl 2 rfl) ?_
    refine lv_aload_n F.x F.b dL_asks_3 rfl (lv_at hl 1 rfl) ?_
    refine kIg F C hl (kJ0_length (post := fun r9z S9z => r9z = (lnS s1) ∧ S9z = S) hs1 ⟨rfl, rfl⟩) (F.srec C hs1) wv_L_116 ⟨rfl, rfl, ⟨Nat.le_of_ble_eq_true rfl, Nat.le_of_ble_eq_true rfl⟩, ⟨(show _ ≤ (16 : Nat) by omega), (show _ ≤ (96 : Nat) by omega)⟩, Nat.le_of_ble_eq_true rfl⟩ (rest := [.int v2]) rfl dL_asks_4 (fun rf1 Sf1 H locs hf1 C => ?_)
    rw [hf1.1]
    rw [hf1.2] at C
    refine lv_icmp_ge (tgt := 34) F.x F.b dL_asks_7 (by decide) (fun g2 => ?_) (fun g2 => ?_)
    · have h := h.1 g2
      refine lv_aload_n F.x F.b dL_asks_34 rfl (lv_at hl 0 rfl) ?_
      refine gSH F.g C.g hl (kL_ask hf h) wh_L_129 ⟨rfl, rfl, ⟨Nat.le_of_ble_eq_true rfl, Nat.le_of_ble_eq_true rfl⟩, ⟨(show _ ≤ (16 : Nat) by omega), (show _ ≤ (96 : Nat) by omega)⟩, Nat.le_of_ble_eq_true rfl⟩ (rest := []) rfl dL_asks_35 (fun r4 S3 H locs h C => ?_)
      have C := C.c
      refine W.widen (k := 16) (n := 96) (by omega) (by omega) ?_
      exact retI F hr C h dL_asks_38
    · have h := h.2 g2
      refine lv_aload_n F.x F.b dL_asks_10 rfl (lv_at hl 0 rfl) ?_
      refine lv_aload_n F.x F.b dL_asks_11 rfl (lv_at hl 1 rfl) ?_
      refine lv_iload_n F.x F.b dL_asks_12 rfl (lv_at hl 2 rfl) ?_
      obtain ⟨g5, h⟩ := h
      refine kIg F C hl (kJ0_charAt (post := fun r9z S9z => r9z = (chS s1 v2) ∧ S9z = S) hs1 g5 ⟨rfl, rfl⟩) (F.srec C hs1) wv_L_121 ⟨rfl, rfl, ⟨Nat.le_of_ble_eq_true rfl, Nat.le_of_ble_eq_true rfl⟩, ⟨(show _ ≤ (16 : Nat) by omega), (show _ ≤ (96 : Nat) by omega)⟩, Nat.le_of_ble_eq_true rfl⟩ (rest := [.ref (ad 110)]) rfl dL_asks_13 (fun rf6 Sf6 H locs hf6 C => ?_)
      rw [hf6.1]
      rw [hf6.2] at C
      refine gSH F.g C.g hl (kL_type hf h) wh_L_124 ⟨rfl, rfl, ⟨Nat.le_of_ble_eq_true rfl, Nat.le_of_ble_eq_true rfl⟩, ⟨(show _ ≤ (16 : Nat) by omega), (show _ ≤ (96 : Nat) by omega)⟩, Nat.le_of_ble_eq_true rfl⟩ (rest := []) rfl dL_asks_16 (fun r8 S7 H locs h C => ?_)
      have C := C.c
      refine lv_iload_n F.x F.b dL_asks_19 rfl (lv_at hl 2 rfl) ?_
      refine lv_iconst (v := 1) F.x F.b dL_asks_20 (by decide) ?_
      refine lv_iadd F.x F.b dL_asks_21 ?_
      refine lv_icmp_eq (tgt := 28) F.x F.b dL_asks_22 (by decide) (fun g9 => ?_) (fun g9 => ?_)
      · have h := h.1 g9
        obtain ⟨x10, ex10⟩ : ∃ z : Int32, z = v2 + (1 : Int32) := ⟨_, rfl⟩
        have h := h x10 ex10
        refine lv_iinc (v := x10) (lv' := [(2, .int x10), (0, .ref (ad 110)), (1, .ref (ex 0 s1))]) F.x F.b dL_asks_28 hl (k := 2) rfl (by rw [ex10]; rfl) (by decide) rfl (fun ls hl => ?_)
        refine lv_goto (tgt := 2) F.x F.b dL_asks_31 (by decide) ?_
        exact ih _ _ S7 s1 x10 _ _ _ hs1 (by omega) (by omega) h C (lv_sub hl [1, 2, 0] rfl)
      · have h := h.2 g9
        refine lv_bipush (v := -99) F.x F.b dL_asks_25 (by decide) ?_
        refine W.widen (k := 16) (n := 96) (by omega) (by omega) ?_
        exact retI F hr C h dL_asks_27
set_option maxRecDepth 100000 in
set_option maxHeartbeats 4000000 in
theorem kL_asks {l : Launch} {D : va_G} {ky : Nat → ClassId} {ad : Nat → Nat} {ex : Nat → Nat → Nat} {post : Int32 → Mem → Prop} {S : Mem} {s1 : Nat} (hf : l.stackTraces = false) (hs1 : s1 < 12) (h : mL_asks post S s1) : CMi l D ky ad ex yL_asks cL_asks 3 (some .int) rmL_asks 16 96 [.ref (ad 110), .ref (ex 0 s1)] S post := by
  refine CMi.of (by decide) (Nat.le_of_ble_eq_true rfl) (fun p e s m args below meth c ls F hr C hl => ?_)
  have hl : lv_has ls 3 [(0, .ref (ad 110)), (1, .ref (ex 0 s1))] := hl
  unfold mL_asks at h
  refine lv_iconst (v := 0) F.x F.b dL_asks_0 (by decide) ?_
  refine lv_istore_n (lv' := [(2, .int (0 : Int32)), (0, .ref (ad 110)), (1, .ref (ex 0 s1))]) F.x F.b dL_asks_1 rfl hl (by decide) rfl (fun ls hl => ?_)
  obtain ⟨n1, hn1, h⟩ := h
  exact bL_asks_2 F hr hf n1 _ _ S s1 (0 : Int32) _ _ _ hs1 (by omega) (by omega) h C (lv_sub hl [1, 2, 0] rfl)

def rmL_is : Room := { frames := 8, cells := 2, slots := 12, locals := 125 }
def mL_is (post : Int32 → Mem → Prop) (S : Mem) (v1 : Int32) (v2 : Int32) : Prop := mL_refusal (fun (r2 : Int32) (S1 : Mem) => ((¬ r2 = v1 → (post (0 : Int32) S1)) ∧ (r2 = v1 → (mL_refusal (fun (r5 : Int32) (S4 : Mem) => ((¬ r5 = v2 → (post (0 : Int32) S4)) ∧ (r5 = v2 → (post (1 : Int32) S4)))) S1 (1 : Int32))))) S (0 : Int32)
set_option maxRecDepth 100000 in
set_option maxHeartbeats 4000000 in
theorem kL_is {l : Launch} {D : va_G} {ky : Nat → ClassId} {ad : Nat → Nat} {ex : Nat → Nat → Nat} {post : Int32 → Mem → Prop} {S : Mem} {v1 : Int32} {v2 : Int32} (hf : l.stackTraces = false) (h : mL_is post S v1 v2) : CMi l D ky ad ex yL_is cL_is 3 (some .boolean) rmL_is 2 12 [.ref (ad 110), .int v1, .int v2] S post := by
  refine CMi.of (by decide) (Nat.le_of_ble_eq_true rfl) (fun p e s m args below meth c ls F hr C hl => ?_)
  have hl : lv_has ls 3 [(0, .ref (ad 110)), (1, .int v1), (2, .int v2)] := hl
  unfold mL_is at h
  refine lv_aload_n F.x F.b dL_is_0 rfl (lv_at hl 0 rfl) ?_
  refine lv_iconst (v := 0) F.x F.b dL_is_1 (by decide) ?_
  refine gSH F.g C.g hl (kL_refusal hf h) wh_L_132 ⟨rfl, rfl, ⟨Nat.le_of_ble_eq_true rfl, Nat.le_of_ble_eq_true rfl⟩, ⟨(show _ ≤ (2 : Nat) by omega), (show _ ≤ (12 : Nat) by omega)⟩, Nat.le_of_ble_eq_true rfl⟩ (rest := []) rfl dL_is_2 (fun r2 S1 H locs h C => ?_)
  have C := C.c
  refine lv_iload_n F.x F.b dL_is_5 rfl (lv_at hl 1 rfl) ?_
  refine lv_icmp_ne (tgt := 22) F.x F.b dL_is_6 (by decide) (fun g3 => ?_) (fun g3 => ?_)
  · have h := h.1 g3
    refine lv_iconst (v := 0) F.x F.b dL_is_22 (by decide) ?_
    refine W.widen (k := 2) (n := 12) (by omega) (by omega) ?_
    exact retZ F hr C rfl h dL_is_23
  · have h := h.2 g3
    refine lv_aload_n F.x F.b dL_is_9 rfl (lv_at hl 0 rfl) ?_
    refine lv_iconst (v := 1) F.x F.b dL_is_10 (by decide) ?_
    refine gSH F.g C.g hl (kL_refusal hf h) wh_L_132 ⟨rfl, rfl, ⟨Nat.le_of_ble_eq_true rfl, Nat.le_of_ble_eq_true rfl⟩, ⟨(show _ ≤ (2 : Nat) by omega), (show _ ≤ (12 : Nat) by omega)⟩, Nat.le_of_ble_eq_true rfl⟩ (rest := []) rfl dL_is_11 (fun r5 S4 H locs h C => ?_)
    have C := C.c
    refine lv_iload_n F.x F.b dL_is_14 rfl (lv_at hl 2 rfl) ?_
    refine lv_icmp_ne (tgt := 22) F.x F.b dL_is_15 (by decide) (fun g6 => ?_) (fun g6 => ?_)
    · have h := h.1 g6
      refine lv_iconst (v := 0) F.x F.b dL_is_22 (by decide) ?_
      refine W.widen (k := 2) (n := 12) (by omega) (by omega) ?_
      exact retZ F hr C rfl h dL_is_23
    · have h := h.2 g6
      refine lv_iconst (v := 1) F.x F.b dL_is_18 (by decide) ?_
      refine lv_goto (tgt := 23) F.x F.b dL_is_19 (by decide) ?_
      refine W.widen (k := 2) (n := 12) (by omega) (by omega) ?_
      exact retZ F hr C rfl h dL_is_23

def rmL_o9 : Room := { frames := 4, cells := 0, slots := 0, locals := 93 }
def mL_o9 (post : Int32 → Mem → Prop) (S : Mem) : Prop := mX5_kinds (fun (r2 : Int32) (S1 : Mem) => post r2 S1) S
set_option maxRecDepth 100000 in
set_option maxHeartbeats 4000000 in
theorem kL_o9 {l : Launch} {D : va_G} {ky : Nat → ClassId} {ad : Nat → Nat} {ex : Nat → Nat → Nat} {post : Int32 → Mem → Prop} {S : Mem} (hf : l.stackTraces = false) (h : mL_o9 post S) : CMi l D ky ad ex yL_o9 cL_o9 1 (some .int) rmL_o9 0 0 [.ref (ad 110)] S post := by
  refine CMi.of (by decide) (Nat.le_of_ble_eq_true rfl) (fun p e s m args below meth c ls F hr C hl => ?_)
  have hl : lv_has ls 1 [(0, .ref (ad 110))] := hl
  unfold mL_o9 at h
  refine lv_aload_n F.x F.b dL_o9_0 rfl (lv_at hl 0 rfl) ?_
  refine gkI F.g C.g hl (kX5_kinds h) (by decide) (ce_X _) rfl wv_L_192 ⟨rfl, rfl, ⟨Nat.le_of_ble_eq_true rfl, Nat.le_of_ble_eq_true rfl⟩, ⟨(show _ ≤ (0 : Nat) by omega), (show _ ≤ (0 : Nat) by omega)⟩, Nat.le_of_ble_eq_true rfl⟩ (rest := []) rfl dL_o9_1 (fun r2 S1 H locs h C => ?_)
  have C := C.c
  refine W.widen (k := 0) (n := 0) (by omega) (by omega) ?_
  exact retI F hr C h dL_o9_4

def rmL_told : Room := { frames := 9, cells := 349, slots := 2094, locals := 150 }
def mL_told_b201 (post : Int64 → Mem → Prop) : Nat → Mem → Int64 → Int32 → Prop
  | 0, _, _, _ => False
  | n + 1, S, l1, v4 => (((3 : Int32) ≤ v4 → (mX5_under (fun (r3 : Int32) (S2 : Mem) => mX5_kinds (fun (r5 : Int32) (S4 : Mem) => mL_clearIn (fun (r7 : Int32) (S6 : Mem) => ∀ y8 : Int64, y8 = (((31 : Int64) * (((31 : Int64) * (((31 : Int64) * l1) + r3.toInt64)) + r5.toInt64)) + r7.toInt64) → mL_flood (fun (r10 : Int32) (S9 : Mem) => mL_floodAgain (fun (r12 : Int32) (S11 : Mem) => mX5_lettersAgain (fun (r14 : Int32) (S13 : Mem) => post ((((31 : Int64) * (((31 : Int64) * (((31 : Int64) * y8) + r10.toInt64)) + r12.toInt64)) + r14.toInt64)) S13) S11) S9 (17 : Int32)) S6 (17 : Int32)) S4) S2) S)) ∧ (¬ (3 : Int32) ≤ v4 → (mL_wetSteps (fun (r16 : Int32) (S15 : Mem) => ∀ y17 : Int64, y17 = (((31 : Int64) * l1) + r16.toInt64) → ∀ x18 : Int32, x18 = v4 + (1 : Int32) → mL_told_b201 post n S15 y17 x18) S v4)))
def mL_told_b172 (post : Int64 → Mem → Prop) : Nat → Mem → Int64 → Int32 → Int32 → Prop
  | 0, _, _, _, _ => False
  | n + 1, S, l1, v3, v4 => ((v3 ≤ v4 → (∃ fu : Nat, fu ≤ 4 ∧ mL_told_b201 post fu S l1 (0 : Int32))) ∧ (¬ v3 ≤ v4 → (mL_written (fun (r4 : Int32) (S3 : Mem) => ∀ y5 : Int64, y5 = (((31 : Int64) * l1) + r4.toInt64) → ∀ x6 : Int32, x6 = v4 + (1 : Int32) → mL_told_b172 post n S3 y5 v3 x6) S v4)))
def mL_told_b106 (post : Int64 → Mem → Prop) (K94 : Mem → Int64 → Int32 → Prop) : Nat → Mem → Int64 → Int32 → Int32 → Prop
  | 0, _, _, _, _ => False
  | n + 1, S, l1, v3, v4 => (((9 : Int32) ≤ v4 → (mL_fee (fun (r3 : Int32) (S2 : Mem) => mL_crossedIn (fun (r5 : Int32) (S4 : Mem) => ∀ y6 : Int64, y6 = (((31 : Int64) * (((31 : Int64) * l1) + r3.toInt64)) + r5.toInt64) → ∀ x7 : Int32, x7 = v3 + (1 : Int32) → K94 S4 y6 x7) S2 v3) S v3)) ∧ (¬ (9 : Int32) ≤ v4 → (mL_travellerOf (fun (r9 : Int32) (S8 : Mem) => ∀ y10 : Int64, y10 = (((31 : Int64) * l1) + r9.toInt64) → ∀ x11 : Int32, x11 = v4 + (1 : Int32) → mL_told_b106 post K94 n S8 y10 v3 x11) S v3 v4)))
def mL_told_b94 (post : Int64 → Mem → Prop) : Nat → Mem → Int64 → Int32 → Prop
  | 0, _, _, _ => False
  | n + 1, S, l1, v3 => mL_account (fun (r2 : Int32) (S1 : Mem) => ((r2 ≤ v3 → (mX5_describe (fun (r5 : Int32) (S4 : Mem) => ∃ fu : Nat, fu ≤ 14 ∧ mL_told_b172 post fu S4 l1 r5 (0 : Int32)) S1)) ∧ (¬ r2 ≤ v3 → (∃ fu : Nat, fu ≤ 10 ∧ mL_told_b106 post (fun S l1 v3 => mL_told_b94 post n S l1 v3) fu S1 l1 v3 (0 : Int32))))) S (3 : Int32)
def mL_told_b59 (post : Int64 → Mem → Prop) (K50 : Mem → Int64 → Int32 → Prop) : Nat → Mem → Int64 → Int32 → Int32 → Prop
  | 0, _, _, _, _ => False
  | n + 1, S, l1, v3, v4 => (((3 : Int32) ≤ v4 → (∀ x2 : Int32, x2 = v3 + (1 : Int32) → K50 S l1 x2)) ∧ (¬ (3 : Int32) ≤ v4 → (mL_stoneOf (fun (r4 : Int32) (S3 : Mem) => ∀ y5 : Int64, y5 = (((31 : Int64) * l1) + r4.toInt64) → ∀ x6 : Int32, x6 = v4 + (1 : Int32) → mL_told_b59 post K50 n S3 y5 v3 x6) S v3 v4)))
def mL_told_b50 (post : Int64 → Mem → Prop) : Nat → Mem → Int64 → Int32 → Prop
  | 0, _, _, _ => False
  | n + 1, S, l1, v3 => (((10 : Int32) ≤ v3 → (∃ fu : Nat, fu ≤ 9 ∧ mL_told_b94 post fu S l1 (0 : Int32))) ∧ (¬ (10 : Int32) ≤ v3 → (∃ fu : Nat, fu ≤ 4 ∧ mL_told_b59 post (fun S l1 v3 => mL_told_b50 post n S l1 v3) fu S l1 v3 (0 : Int32))))
def mL_told_b23 (post : Int64 → Mem → Prop) : Nat → Mem → Int64 → Int32 → Prop
  | 0, _, _, _ => False
  | n + 1, S, l1, v3 => (((16 : Int32) ≤ v3 → (∃ fu : Nat, fu ≤ 11 ∧ mL_told_b50 post fu S l1 (0 : Int32))) ∧ (¬ (16 : Int32) ≤ v3 → (mL_account (fun (r4 : Int32) (S3 : Mem) => ∀ y5 : Int64, y5 = (((31 : Int64) * l1) + r4.toInt64) → ∀ x6 : Int32, x6 = v3 + (1 : Int32) → mL_told_b23 post n S3 y5 x6) S v3)))
def mL_told (post : Int64 → Mem → Prop) (S : Mem) : Prop := mL_meanWet (fun (r2 : UInt64) (S1 : Mem) => Op.cmpValue (FP.dcmp r2 r2) .l = 0 ∧ mL_crossingShare (fun (r6 : UInt32) (S5 : Mem) => Op.cmpValue (FP.fcmp r6 r6) .l = 0 ∧ ∀ y9 : Int64, y9 = (((31 : Int64) * r2.toInt64) + (r6.toInt32).toInt64) → ∃ fu : Nat, fu ≤ 17 ∧ mL_told_b23 post fu S5 y9 (0 : Int32)) S1) S
set_option maxRecDepth 100000 in
set_option maxHeartbeats 4000000 in
theorem bL_told_201 {p : Program} {l : Launch} {e : Env} {s : State} {m : MethodId} {args : Array Value} {below : List Frame} {meth : Method} {c : Code} {D : va_G} {ky : Nat → ClassId} {ad : Nat → Nat} {ex : Nat → Nat → Nat} (F : Fx p s m args meth c D ky ad ex cL_told 5 yL_told.cls) (hr : meth.sig.returnType = (some .long)) (hf : l.stackTraces = false) {post : Int64 → Mem → Prop} : ∀ (n : Nat) (cells slots : Nat) (S : Mem) (l1 : Int64) (v4 : Int32) (H : Heap) (locs : List Loc) (ls : Array Slot), cells + (2 * n + 3) ≤ 349 → slots + (12 * n + 18) ≤ 2094 → mL_told_b201 post n S l1 v4 → Cx D ky ad s S H locs → lv_has ls 5 [(0, .ref (ad 110)), (1, .long l1), (4, .int v4)] → W p l e rmL_told s m args below meth c H locs cells slots (MQ below (va_Ql post (AFT D ky ad) (AW ad s.heap.size)) args s 349 2094 (AW ad s.heap.size)) (F0 m 201 ls []) := by
  intro n
  induction n with
  | zero =>
    intro cells slots S l1 v4 H locs ls  hc hs h
    exact False.elim h
  | succ n ih =>
    intro cells slots S l1 v4 H locs ls  hc hs h C hl
    refine lv_iload F.x F.b dL_told_201 (lv_at hl 2 rfl) ?_
    refine lv_iconst (v := 3) F.x F.b dL_told_203 (by decide) ?_
    refine lv_icmp_ge (tgt := 227) F.x F.b dL_told_204 (by decide) (fun g1 => ?_) (fun g1 => ?_)
    · have h := h.1 g1
      refine lv_ldc2 F.x F.b F.ow (F.ts _ q4_157) dL_told_227 ?_
      refine lv_ldc2 F.x F.b F.ow (F.ts _ q4_157) dL_told_230 ?_
      refine lv_ldc2 F.x F.b F.ow (F.ts _ q4_157) dL_told_233 ?_
      refine lv_lload_n F.x F.b dL_told_236 rfl (lv_at hl 1 rfl) ?_
      refine lv_lmul F.x F.b dL_told_237 ?_
      refine lv_aload_n F.x F.b dL_told_238 rfl (lv_at hl 0 rfl) ?_
      refine gkI F.g C.g hl (kX5_under h) (by decide) (ce_X _) rfl wv_L_189 ⟨rfl, rfl, ⟨Nat.le_of_ble_eq_true rfl, Nat.le_of_ble_eq_true rfl⟩, ⟨(show _ ≤ (349 : Nat) by omega), (show _ ≤ (2094 : Nat) by omega)⟩, Nat.le_of_ble_eq_true rfl⟩ (rest := [.long ((31 : Int64) * l1), .long (31 : Int64), .long (31 : Int64)]) rfl dL_told_239 (fun r3 S2 H locs h C => ?_)
      have C := C.c
      refine lv_i2l F.x F.b dL_told_242 rfl ?_
      refine lv_ladd F.x F.b dL_told_243 ?_
      refine lv_lmul F.x F.b dL_told_244 ?_
      refine lv_aload_n F.x F.b dL_told_245 rfl (lv_at hl 0 rfl) ?_
      refine gkI F.g C.g hl (kX5_kinds h) (by decide) (ce_X _) rfl wv_L_192 ⟨rfl, rfl, ⟨Nat.le_of_ble_eq_true rfl, Nat.le_of_ble_eq_true rfl⟩, ⟨(show _ ≤ (349 : Nat) by omega), (show _ ≤ (2094 : Nat) by omega)⟩, Nat.le_of_ble_eq_true rfl⟩ (rest := [.long ((31 : Int64) * (((31 : Int64) * l1) + r3.toInt64)), .long (31 : Int64)]) rfl dL_told_246 (fun r5 S4 H locs h C => ?_)
      have C := C.c
      refine lv_i2l F.x F.b dL_told_249 rfl ?_
      refine lv_ladd F.x F.b dL_told_250 ?_
      refine lv_lmul F.x F.b dL_told_251 ?_
      refine lv_aload_n F.x F.b dL_told_252 rfl (lv_at hl 0 rfl) ?_
      refine gSH F.g C.g hl (kL_clearIn hf h) wh_L_195 ⟨rfl, rfl, ⟨Nat.le_of_ble_eq_true rfl, Nat.le_of_ble_eq_true rfl⟩, ⟨(show _ ≤ (349 : Nat) by omega), (show _ ≤ (2094 : Nat) by omega)⟩, Nat.le_of_ble_eq_true rfl⟩ (rest := [.long ((31 : Int64) * (((31 : Int64) * (((31 : Int64) * l1) + r3.toInt64)) + r5.toInt64))]) rfl dL_told_253 (fun r7 S6 H locs h C => ?_)
      have C := C.c
      refine lv_i2l F.x F.b dL_told_256 rfl ?_
      refine lv_ladd F.x F.b dL_told_257 ?_
      refine lv_topl (fun y8 ey8 => ?_)
      have h := h y8 ey8
      refine lv_lstore_n (lv' := [(1, .long y8), (0, .ref (ad 110)), (4, .int v4)]) F.x F.b dL_told_258 rfl hl (by decide) rfl (fun ls hl => ?_)
      refine lv_ldc2 F.x F.b F.ow (F.ts _ q4_157) dL_told_259 ?_
      refine lv_ldc2 F.x F.b F.ow (F.ts _ q4_157) dL_told_262 ?_
      refine lv_ldc2 F.x F.b F.ow (F.ts _ q4_157) dL_told_265 ?_
      refine lv_lload_n F.x F.b dL_told_268 rfl (lv_at hl 0 rfl) ?_
      refine lv_lmul F.x F.b dL_told_269 ?_
      refine lv_aload_n F.x F.b dL_told_270 rfl (lv_at hl 1 rfl) ?_
      refine lv_bipush (v := 17) F.x F.b dL_told_271 (by decide) ?_
      refine gSH F.g C.g hl (kL_flood hf h) wh_L_197 ⟨rfl, rfl, ⟨Nat.le_of_ble_eq_true rfl, Nat.le_of_ble_eq_true rfl⟩, ⟨(show _ ≤ (349 : Nat) by omega), (show _ ≤ (2094 : Nat) by omega)⟩, Nat.le_of_ble_eq_true rfl⟩ (rest := [.long ((31 : Int64) * y8), .long (31 : Int64), .long (31 : Int64)]) rfl dL_told_273 (fun r10 S9 H locs h C => ?_)
      have C := C.c
      refine lv_i2l F.x F.b dL_told_276 rfl ?_
      refine lv_ladd F.x F.b dL_told_277 ?_
      refine lv_lmul F.x F.b dL_told_278 ?_
      refine lv_aload_n F.x F.b dL_told_279 rfl (lv_at hl 1 rfl) ?_
      refine lv_bipush (v := 17) F.x F.b dL_told_280 (by decide) ?_
      refine gSH F.g C.g hl (kL_floodAgain hf h) wh_L_199 ⟨rfl, rfl, ⟨Nat.le_of_ble_eq_true rfl, Nat.le_of_ble_eq_true rfl⟩, ⟨(show _ ≤ (349 : Nat) by omega), (show _ ≤ (2094 : Nat) by omega)⟩, Nat.le_of_ble_eq_true rfl⟩ (rest := [.long ((31 : Int64) * (((31 : Int64) * y8) + r10.toInt64)), .long (31 : Int64)]) rfl dL_told_282 (fun r12 S11 H locs h C => ?_)
      have C := C.c
      refine lv_i2l F.x F.b dL_told_285 rfl ?_
      refine lv_ladd F.x F.b dL_told_286 ?_
      refine lv_lmul F.x F.b dL_told_287 ?_
      refine lv_aload_n F.x F.b dL_told_288 rfl (lv_at hl 1 rfl) ?_
      refine gkI F.g C.g hl (kX5_lettersAgain h) (by decide) (ce_X _) rfl wv_L_201 ⟨rfl, rfl, ⟨Nat.le_of_ble_eq_true rfl, Nat.le_of_ble_eq_true rfl⟩, ⟨(show _ ≤ (349 : Nat) by omega), (show _ ≤ (2094 : Nat) by omega)⟩, Nat.le_of_ble_eq_true rfl⟩ (rest := [.long ((31 : Int64) * (((31 : Int64) * (((31 : Int64) * y8) + r10.toInt64)) + r12.toInt64))]) rfl dL_told_289 (fun r14 S13 H locs h C => ?_)
      have C := C.c
      refine lv_i2l F.x F.b dL_told_292 rfl ?_
      refine lv_ladd F.x F.b dL_told_293 ?_
      refine W.widen (k := 349) (n := 2094) (by omega) (by omega) ?_
      exact retL F hr C h dL_told_294
    · have h := h.2 g1
      refine lv_ldc2 F.x F.b F.ow (F.ts _ q4_157) dL_told_207 ?_
      refine lv_lload_n F.x F.b dL_told_210 rfl (lv_at hl 1 rfl) ?_
      refine lv_lmul F.x F.b dL_told_211 ?_
      refine lv_aload_n F.x F.b dL_told_212 rfl (lv_at hl 0 rfl) ?_
      refine lv_iload F.x F.b dL_told_213 (lv_at hl 2 rfl) ?_
      refine gSH F.g C.g hl (kL_wetSteps hf h) wh_L_187 ⟨rfl, rfl, ⟨Nat.le_of_ble_eq_true rfl, Nat.le_of_ble_eq_true rfl⟩, ⟨(show _ ≤ (349 : Nat) by omega), (show _ ≤ (2094 : Nat) by omega)⟩, Nat.le_of_ble_eq_true rfl⟩ (rest := [.long ((31 : Int64) * l1)]) rfl dL_told_215 (fun r16 S15 H locs h C => ?_)
      have C := C.c
      refine lv_i2l F.x F.b dL_told_218 rfl ?_
      refine lv_ladd F.x F.b dL_told_219 ?_
      refine lv_topl (fun y17 ey17 => ?_)
      have h := h y17 ey17
      refine lv_lstore_n (lv' := [(1, .long y17), (0, .ref (ad 110)), (4, .int v4)]) F.x F.b dL_told_220 rfl hl (by decide) rfl (fun ls hl => ?_)
      obtain ⟨x18, ex18⟩ : ∃ z : Int32, z = v4 + (1 : Int32) := ⟨_, rfl⟩
      have h := h x18 ex18
      refine lv_iinc (v := x18) (lv' := [(4, .int x18), (1, .long y17), (0, .ref (ad 110))]) F.x F.b dL_told_221 hl (k := 2) rfl (by rw [ex18]; rfl) (by decide) rfl (fun ls hl => ?_)
      refine lv_goto (tgt := 201) F.x F.b dL_told_224 (by decide) ?_
      exact ih _ _ S15 y17 x18 _ _ _ (by omega) (by omega) h C (lv_sub hl [2, 1, 0] rfl)
set_option maxRecDepth 100000 in
set_option maxHeartbeats 4000000 in
theorem bL_told_172 {p : Program} {l : Launch} {e : Env} {s : State} {m : MethodId} {args : Array Value} {below : List Frame} {meth : Method} {c : Code} {D : va_G} {ky : Nat → ClassId} {ad : Nat → Nat} {ex : Nat → Nat → Nat} (F : Fx p s m args meth c D ky ad ex cL_told 5 yL_told.cls) (hr : meth.sig.returnType = (some .long)) (hf : l.stackTraces = false) {post : Int64 → Mem → Prop} : ∀ (n : Nat) (cells slots : Nat) (S : Mem) (l1 : Int64) (v3 : Int32) (v4 : Int32) (H : Heap) (locs : List Loc) (ls : Array Slot), cells + (1 * n + 11) ≤ 349 → slots + (6 * n + 66) ≤ 2094 → mL_told_b172 post n S l1 v3 v4 → Cx D ky ad s S H locs → lv_has ls 5 [(0, .ref (ad 110)), (1, .long l1), (3, .int v3), (4, .int v4)] → W p l e rmL_told s m args below meth c H locs cells slots (MQ below (va_Ql post (AFT D ky ad) (AW ad s.heap.size)) args s 349 2094 (AW ad s.heap.size)) (F0 m 172 ls []) := by
  intro n
  induction n with
  | zero =>
    intro cells slots S l1 v3 v4 H locs ls  hc hs h
    exact False.elim h
  | succ n ih =>
    intro cells slots S l1 v3 v4 H locs ls  hc hs h C hl
    refine lv_iload F.x F.b dL_told_172 (lv_at hl 3 rfl) ?_
    refine lv_iload_n F.x F.b dL_told_174 rfl (lv_at hl 2 rfl) ?_
    refine lv_icmp_ge (tgt := 198) F.x F.b dL_told_175 (by decide) (fun g1 => ?_) (fun g1 => ?_)
    · have h := h.1 g1
      refine lv_iconst (v := 0) F.x F.b dL_told_198 (by decide) ?_
      refine lv_istore (lv' := [(4, .int (0 : Int32)), (0, .ref (ad 110)), (1, .long l1), (3, .int v3)]) F.x F.b dL_told_199 hl (by decide) rfl (fun ls hl => ?_)
      obtain ⟨n2, hn2, h⟩ := h
      exact bL_told_201 F hr hf n2 _ _ S l1 (0 : Int32) _ _ _ (by omega) (by omega) h C (lv_sub hl [1, 2, 0] rfl)
    · have h := h.2 g1
      refine lv_ldc2 F.x F.b F.ow (F.ts _ q4_157) dL_told_178 ?_
      refine lv_lload_n F.x F.b dL_told_181 rfl (lv_at hl 1 rfl) ?_
      refine lv_lmul F.x F.b dL_told_182 ?_
      refine lv_aload_n F.x F.b dL_told_183 rfl (lv_at hl 0 rfl) ?_
      refine lv_iload F.x F.b dL_told_184 (lv_at hl 3 rfl) ?_
      refine gSH F.g C.g hl (kL_written hf h) wh_L_138 ⟨rfl, rfl, ⟨Nat.le_of_ble_eq_true rfl, Nat.le_of_ble_eq_true rfl⟩, ⟨(show _ ≤ (349 : Nat) by omega), (show _ ≤ (2094 : Nat) by omega)⟩, Nat.le_of_ble_eq_true rfl⟩ (rest := [.long ((31 : Int64) * l1)]) rfl dL_told_186 (fun r4 S3 H locs h C => ?_)
      have C := C.c
      refine lv_i2l F.x F.b dL_told_189 rfl ?_
      refine lv_ladd F.x F.b dL_told_190 ?_
      refine lv_topl (fun y5 ey5 => ?_)
      have h := h y5 ey5
      refine lv_lstore_n (lv' := [(1, .long y5), (0, .ref (ad 110)), (3, .int v3), (4, .int v4)]) F.x F.b dL_told_191 rfl hl (by decide) rfl (fun ls hl => ?_)
      obtain ⟨x6, ex6⟩ : ∃ z : Int32, z = v4 + (1 : Int32) := ⟨_, rfl⟩
      have h := h x6 ex6
      refine lv_iinc (v := x6) (lv' := [(4, .int x6), (1, .long y5), (0, .ref (ad 110)), (3, .int v3)]) F.x F.b dL_told_192 hl (k := 3) rfl (by rw [ex6]; rfl) (by decide) rfl (fun ls hl => ?_)
      refine lv_goto (tgt := 172) F.x F.b dL_told_195 (by decide) ?_
      exact ih _ _ S3 y5 v3 x6 _ _ _ (by omega) (by omega) h C (lv_sub hl [2, 1, 3, 0] rfl)
set_option maxRecDepth 100000 in
set_option maxHeartbeats 4000000 in
theorem bL_told_106 {p : Program} {l : Launch} {e : Env} {s : State} {m : MethodId} {args : Array Value} {below : List Frame} {meth : Method} {c : Code} {D : va_G} {ky : Nat → ClassId} {ad : Nat → Nat} {ex : Nat → Nat → Nat} (F : Fx p s m args meth c D ky ad ex cL_told 5 yL_told.cls) (hr : meth.sig.returnType = (some .long)) (hf : l.stackTraces = false) {post : Int64 → Mem → Prop} (kc94 ks94 : Nat) {K94 : Mem → Int64 → Int32 → Prop} (hK94 : ∀ (cells slots : Nat) (S : Mem) (l1 : Int64) (v3 : Int32) (H : Heap) (locs : List Loc) (ls : Array Slot), cells + kc94 ≤ 349 → slots + ks94 ≤ 2094 → K94 S l1 v3 → Cx D ky ad s S H locs → lv_has ls 5 [(0, .ref (ad 110)), (1, .long l1), (3, .int v3)] → W p l e rmL_told s m args below meth c H locs cells slots (MQ below (va_Ql post (AFT D ky ad) (AW ad s.heap.size)) args s 349 2094 (AW ad s.heap.size)) (F0 m 94 ls [])) : ∀ (n : Nat) (cells slots : Nat) (S : Mem) (l1 : Int64) (v3 : Int32) (v4 : Int32) (H : Heap) (locs : List Loc) (ls : Array Slot), cells + (2 * n + 3 + kc94) ≤ 349 → slots + (12 * n + 18 + ks94) ≤ 2094 → mL_told_b106 post K94 n S l1 v3 v4 → Cx D ky ad s S H locs → lv_has ls 5 [(0, .ref (ad 110)), (1, .long l1), (3, .int v3), (4, .int v4)] → W p l e rmL_told s m args below meth c H locs cells slots (MQ below (va_Ql post (AFT D ky ad) (AW ad s.heap.size)) args s 349 2094 (AW ad s.heap.size)) (F0 m 106 ls []) := by
  intro n
  induction n with
  | zero =>
    intro cells slots S l1 v3 v4 H locs ls  hc hs h
    exact False.elim h
  | succ n ih =>
    intro cells slots S l1 v3 v4 H locs ls  hc hs h C hl
    refine lv_iload F.x F.b dL_told_106 (lv_at hl 3 rfl) ?_
    refine lv_bipush (v := 9) F.x F.b dL_told_108 (by decide) ?_
    refine lv_icmp_ge (tgt := 134) F.x F.b dL_told_110 (by decide) (fun g1 => ?_) (fun g1 => ?_)
    · have h := h.1 g1
      refine lv_ldc2 F.x F.b F.ow (F.ts _ q4_157) dL_told_134 ?_
      refine lv_ldc2 F.x F.b F.ow (F.ts _ q4_157) dL_told_137 ?_
      refine lv_lload_n F.x F.b dL_told_140 rfl (lv_at hl 1 rfl) ?_
      refine lv_lmul F.x F.b dL_told_141 ?_
      refine lv_aload_n F.x F.b dL_told_142 rfl (lv_at hl 0 rfl) ?_
      refine lv_iload_n F.x F.b dL_told_143 rfl (lv_at hl 2 rfl) ?_
      refine gSH F.g C.g hl (kL_fee hf h) wh_L_183 ⟨rfl, rfl, ⟨Nat.le_of_ble_eq_true rfl, Nat.le_of_ble_eq_true rfl⟩, ⟨(show _ ≤ (349 : Nat) by omega), (show _ ≤ (2094 : Nat) by omega)⟩, Nat.le_of_ble_eq_true rfl⟩ (rest := [.long ((31 : Int64) * l1), .long (31 : Int64)]) rfl dL_told_144 (fun r3 S2 H locs h C => ?_)
      have C := C.c
      refine lv_i2l F.x F.b dL_told_147 rfl ?_
      refine lv_ladd F.x F.b dL_told_148 ?_
      refine lv_lmul F.x F.b dL_told_149 ?_
      refine lv_aload_n F.x F.b dL_told_150 rfl (lv_at hl 0 rfl) ?_
      refine lv_iload_n F.x F.b dL_told_151 rfl (lv_at hl 2 rfl) ?_
      refine gSH F.g C.g hl (kL_crossedIn hf h) wh_L_185 ⟨rfl, rfl, ⟨Nat.le_of_ble_eq_true rfl, Nat.le_of_ble_eq_true rfl⟩, ⟨(show _ ≤ (349 : Nat) by omega), (show _ ≤ (2094 : Nat) by omega)⟩, Nat.le_of_ble_eq_true rfl⟩ (rest := [.long ((31 : Int64) * (((31 : Int64) * l1) + r3.toInt64))]) rfl dL_told_152 (fun r5 S4 H locs h C => ?_)
      have C := C.c
      refine lv_i2l F.x F.b dL_told_155 rfl ?_
      refine lv_ladd F.x F.b dL_told_156 ?_
      refine lv_topl (fun y6 ey6 => ?_)
      have h := h y6 ey6
      refine lv_lstore_n (lv' := [(1, .long y6), (0, .ref (ad 110)), (3, .int v3), (4, .int v4)]) F.x F.b dL_told_157 rfl hl (by decide) rfl (fun ls hl => ?_)
      obtain ⟨x7, ex7⟩ : ∃ z : Int32, z = v3 + (1 : Int32) := ⟨_, rfl⟩
      have h := h x7 ex7
      refine lv_iinc (v := x7) (lv' := [(3, .int x7), (1, .long y6), (0, .ref (ad 110)), (4, .int v4)]) F.x F.b dL_told_158 hl (k := 2) rfl (by rw [ex7]; rfl) (by decide) rfl (fun ls hl => ?_)
      refine lv_goto (tgt := 94) F.x F.b dL_told_161 (by decide) ?_
      exact hK94 _ _ S4 y6 x7 _ _ _ (by omega) (by omega) h C (lv_sub hl [2, 1, 0] rfl)
    · have h := h.2 g1
      refine lv_ldc2 F.x F.b F.ow (F.ts _ q4_157) dL_told_113 ?_
      refine lv_lload_n F.x F.b dL_told_116 rfl (lv_at hl 1 rfl) ?_
      refine lv_lmul F.x F.b dL_told_117 ?_
      refine lv_aload_n F.x F.b dL_told_118 rfl (lv_at hl 0 rfl) ?_
      refine lv_iload_n F.x F.b dL_told_119 rfl (lv_at hl 2 rfl) ?_
      refine lv_iload F.x F.b dL_told_120 (lv_at hl 3 rfl) ?_
      refine gSH F.g C.g hl (kL_travellerOf hf h) wh_L_181 ⟨rfl, rfl, ⟨Nat.le_of_ble_eq_true rfl, Nat.le_of_ble_eq_true rfl⟩, ⟨(show _ ≤ (349 : Nat) by omega), (show _ ≤ (2094 : Nat) by omega)⟩, Nat.le_of_ble_eq_true rfl⟩ (rest := [.long ((31 : Int64) * l1)]) rfl dL_told_122 (fun r9 S8 H locs h C => ?_)
      have C := C.c
      refine lv_i2l F.x F.b dL_told_125 rfl ?_
      refine lv_ladd F.x F.b dL_told_126 ?_
      refine lv_topl (fun y10 ey10 => ?_)
      have h := h y10 ey10
      refine lv_lstore_n (lv' := [(1, .long y10), (0, .ref (ad 110)), (3, .int v3), (4, .int v4)]) F.x F.b dL_told_127 rfl hl (by decide) rfl (fun ls hl => ?_)
      obtain ⟨x11, ex11⟩ : ∃ z : Int32, z = v4 + (1 : Int32) := ⟨_, rfl⟩
      have h := h x11 ex11
      refine lv_iinc (v := x11) (lv' := [(4, .int x11), (1, .long y10), (0, .ref (ad 110)), (3, .int v3)]) F.x F.b dL_told_128 hl (k := 3) rfl (by rw [ex11]; rfl) (by decide) rfl (fun ls hl => ?_)
      refine lv_goto (tgt := 106) F.x F.b dL_told_131 (by decide) ?_
      exact ih _ _ S8 y10 v3 x11 _ _ _ (by omega) (by omega) h C (lv_sub hl [2, 1, 3, 0] rfl)
set_option maxRecDepth 100000 in
set_option maxHeartbeats 4000000 in
theorem bL_told_94 {p : Program} {l : Launch} {e : Env} {s : State} {m : MethodId} {args : Array Value} {below : List Frame} {meth : Method} {c : Code} {D : va_G} {ky : Nat → ClassId} {ad : Nat → Nat} {ex : Nat → Nat → Nat} (F : Fx p s m args meth c D ky ad ex cL_told 5 yL_told.cls) (hr : meth.sig.returnType = (some .long)) (hf : l.stackTraces = false) {post : Int64 → Mem → Prop} : ∀ (n : Nat) (cells slots : Nat) (S : Mem) (l1 : Int64) (v3 : Int32) (H : Heap) (locs : List Loc) (ls : Array Slot), cells + (24 * n + 26) ≤ 349 → slots + (144 * n + 156) ≤ 2094 → mL_told_b94 post n S l1 v3 → Cx D ky ad s S H locs → lv_has ls 5 [(0, .ref (ad 110)), (1, .long l1), (3, .int v3)] → W p l e rmL_told s m args below meth c H locs cells slots (MQ below (va_Ql post (AFT D ky ad) (AW ad s.heap.size)) args s 349 2094 (AW ad s.heap.size)) (F0 m 94 ls []) := by
  intro n
  induction n with
  | zero =>
    intro cells slots S l1 v3 H locs ls  hc hs h
    exact False.elim h
  | succ n ih =>
    intro cells slots S l1 v3 H locs ls  hc hs h C hl
    refine lv_iload_n F.x F.b dL_told_94 rfl (lv_at hl 2 rfl) ?_
    refine lv_aload_n F.x F.b dL_told_95 rfl (lv_at hl 0 rfl) ?_
    refine lv_iconst (v := 3) F.x F.b dL_told_96 (by decide) ?_
    refine gSH F.g C.g hl (kL_account hf h) wh_L_177 ⟨rfl, rfl, ⟨Nat.le_of_ble_eq_true rfl, Nat.le_of_ble_eq_true rfl⟩, ⟨(show _ ≤ (349 : Nat) by omega), (show _ ≤ (2094 : Nat) by omega)⟩, Nat.le_of_ble_eq_true rfl⟩ (rest := [.int v3]) rfl dL_told_97 (fun r2 S1 H locs h C => ?_)
    have C := C.c
    refine lv_icmp_ge (tgt := 164) F.x F.b dL_told_100 (by decide) (fun g3 => ?_) (fun g3 => ?_)
    · have h := h.1 g3
      refine lv_aload_n F.x F.b dL_told_164 rfl (lv_at hl 0 rfl) ?_
      refine gkI F.g C.g hl (kX5_describe h) (by decide) (ce_X _) rfl wv_L_135 ⟨rfl, rfl, ⟨Nat.le_of_ble_eq_true rfl, Nat.le_of_ble_eq_true rfl⟩, ⟨(show _ ≤ (349 : Nat) by omega), (show _ ≤ (2094 : Nat) by omega)⟩, Nat.le_of_ble_eq_true rfl⟩ (rest := []) rfl dL_told_165 (fun r5 S4 H locs h C => ?_)
      have C := C.c
      refine lv_istore_n (lv' := [(3, .int r5), (0, .ref (ad 110)), (1, .long l1)]) F.x F.b dL_told_168 rfl hl (by decide) rfl (fun ls hl => ?_)
      refine lv_iconst (v := 0) F.x F.b dL_told_169 (by decide) ?_
      refine lv_istore (lv' := [(4, .int (0 : Int32)), (3, .int r5), (0, .ref (ad 110)), (1, .long l1)]) F.x F.b dL_told_170 hl (by decide) rfl (fun ls hl => ?_)
      obtain ⟨n6, hn6, h⟩ := h
      exact bL_told_172 F hr hf n6 _ _ S4 l1 r5 (0 : Int32) _ _ _ (by omega) (by omega) h C (lv_sub hl [2, 3, 1, 0] rfl)
    · have h := h.2 g3
      refine lv_iconst (v := 0) F.x F.b dL_told_103 (by decide) ?_
      refine lv_istore (lv' := [(4, .int (0 : Int32)), (0, .ref (ad 110)), (1, .long l1), (3, .int v3)]) F.x F.b dL_told_104 hl (by decide) rfl (fun ls hl => ?_)
      obtain ⟨n7, hn7, h⟩ := h
      exact bL_told_106 F hr hf (24 * n + 26) (144 * n + 156) ih n7 _ _ S1 l1 v3 (0 : Int32) _ _ _ (by omega) (by omega) h C (lv_sub hl [1, 2, 3, 0] rfl)
set_option maxRecDepth 100000 in
set_option maxHeartbeats 4000000 in
theorem bL_told_59 {p : Program} {l : Launch} {e : Env} {s : State} {m : MethodId} {args : Array Value} {below : List Frame} {meth : Method} {c : Code} {D : va_G} {ky : Nat → ClassId} {ad : Nat → Nat} {ex : Nat → Nat → Nat} (F : Fx p s m args meth c D ky ad ex cL_told 5 yL_told.cls) (hr : meth.sig.returnType = (some .long)) (hf : l.stackTraces = false) {post : Int64 → Mem → Prop} (kc50 ks50 : Nat) {K50 : Mem → Int64 → Int32 → Prop} (hK50 : ∀ (cells slots : Nat) (S : Mem) (l1 : Int64) (v3 : Int32) (H : Heap) (locs : List Loc) (ls : Array Slot), cells + kc50 ≤ 349 → slots + ks50 ≤ 2094 → K50 S l1 v3 → Cx D ky ad s S H locs → lv_has ls 5 [(0, .ref (ad 110)), (1, .long l1), (3, .int v3)] → W p l e rmL_told s m args below meth c H locs cells slots (MQ below (va_Ql post (AFT D ky ad) (AW ad s.heap.size)) args s 349 2094 (AW ad s.heap.size)) (F0 m 50 ls [])) : ∀ (n : Nat) (cells slots : Nat) (S : Mem) (l1 : Int64) (v3 : Int32) (v4 : Int32) (H : Heap) (locs : List Loc) (ls : Array Slot), cells + (2 * n + 0 + kc50) ≤ 349 → slots + (12 * n + 0 + ks50) ≤ 2094 → mL_told_b59 post K50 n S l1 v3 v4 → Cx D ky ad s S H locs → lv_has ls 5 [(0, .ref (ad 110)), (1, .long l1), (3, .int v3), (4, .int v4)] → W p l e rmL_told s m args below meth c H locs cells slots (MQ below (va_Ql post (AFT D ky ad) (AW ad s.heap.size)) args s 349 2094 (AW ad s.heap.size)) (F0 m 59 ls []) := by
  intro n
  induction n with
  | zero =>
    intro cells slots S l1 v3 v4 H locs ls  hc hs h
    exact False.elim h
  | succ n ih =>
    intro cells slots S l1 v3 v4 H locs ls  hc hs h C hl
    refine lv_iload F.x F.b dL_told_59 (lv_at hl 3 rfl) ?_
    refine lv_iconst (v := 3) F.x F.b dL_told_61 (by decide) ?_
    refine lv_icmp_ge (tgt := 86) F.x F.b dL_told_62 (by decide) (fun g1 => ?_) (fun g1 => ?_)
    · have h := h.1 g1
      obtain ⟨x2, ex2⟩ : ∃ z : Int32, z = v3 + (1 : Int32) := ⟨_, rfl⟩
      have h := h x2 ex2
      refine lv_iinc (v := x2) (lv' := [(3, .int x2), (0, .ref (ad 110)), (1, .long l1), (4, .int v4)]) F.x F.b dL_told_86 hl (k := 2) rfl (by rw [ex2]; rfl) (by decide) rfl (fun ls hl => ?_)
      refine lv_goto (tgt := 50) F.x F.b dL_told_89 (by decide) ?_
      exact hK50 _ _ S l1 x2 _ _ _ (by omega) (by omega) h C (lv_sub hl [1, 2, 0] rfl)
    · have h := h.2 g1
      refine lv_ldc2 F.x F.b F.ow (F.ts _ q4_157) dL_told_65 ?_
      refine lv_lload_n F.x F.b dL_told_68 rfl (lv_at hl 1 rfl) ?_
      refine lv_lmul F.x F.b dL_told_69 ?_
      refine lv_aload_n F.x F.b dL_told_70 rfl (lv_at hl 0 rfl) ?_
      refine lv_iload_n F.x F.b dL_told_71 rfl (lv_at hl 2 rfl) ?_
      refine lv_iload F.x F.b dL_told_72 (lv_at hl 3 rfl) ?_
      refine gSH F.g C.g hl (kL_stoneOf hf h) wh_L_179 ⟨rfl, rfl, ⟨Nat.le_of_ble_eq_true rfl, Nat.le_of_ble_eq_true rfl⟩, ⟨(show _ ≤ (349 : Nat) by omega), (show _ ≤ (2094 : Nat) by omega)⟩, Nat.le_of_ble_eq_true rfl⟩ (rest := [.long ((31 : Int64) * l1)]) rfl dL_told_74 (fun r4 S3 H locs h C => ?_)
      have C := C.c
      refine lv_i2l F.x F.b dL_told_77 rfl ?_
      refine lv_ladd F.x F.b dL_told_78 ?_
      refine lv_topl (fun y5 ey5 => ?_)
      have h := h y5 ey5
      refine lv_lstore_n (lv' := [(1, .long y5), (0, .ref (ad 110)), (3, .int v3), (4, .int v4)]) F.x F.b dL_told_79 rfl hl (by decide) rfl (fun ls hl => ?_)
      obtain ⟨x6, ex6⟩ : ∃ z : Int32, z = v4 + (1 : Int32) := ⟨_, rfl⟩
      have h := h x6 ex6
      refine lv_iinc (v := x6) (lv' := [(4, .int x6), (1, .long y5), (0, .ref (ad 110)), (3, .int v3)]) F.x F.b dL_told_80 hl (k := 3) rfl (by rw [ex6]; rfl) (by decide) rfl (fun ls hl => ?_)
      refine lv_goto (tgt := 59) F.x F.b dL_told_83 (by decide) ?_
      exact ih _ _ S3 y5 v3 x6 _ _ _ (by omega) (by omega) h C (lv_sub hl [2, 1, 3, 0] rfl)
set_option maxRecDepth 100000 in
set_option maxHeartbeats 4000000 in
theorem bL_told_50 {p : Program} {l : Launch} {e : Env} {s : State} {m : MethodId} {args : Array Value} {below : List Frame} {meth : Method} {c : Code} {D : va_G} {ky : Nat → ClassId} {ad : Nat → Nat} {ex : Nat → Nat → Nat} (F : Fx p s m args meth c D ky ad ex cL_told 5 yL_told.cls) (hr : meth.sig.returnType = (some .long)) (hf : l.stackTraces = false) {post : Int64 → Mem → Prop} : ∀ (n : Nat) (cells slots : Nat) (S : Mem) (l1 : Int64) (v3 : Int32) (H : Heap) (locs : List Loc) (ls : Array Slot), cells + (8 * n + 242) ≤ 349 → slots + (48 * n + 1452) ≤ 2094 → mL_told_b50 post n S l1 v3 → Cx D ky ad s S H locs → lv_has ls 5 [(0, .ref (ad 110)), (1, .long l1), (3, .int v3)] → W p l e rmL_told s m args below meth c H locs cells slots (MQ below (va_Ql post (AFT D ky ad) (AW ad s.heap.size)) args s 349 2094 (AW ad s.heap.size)) (F0 m 50 ls []) := by
  intro n
  induction n with
  | zero =>
    intro cells slots S l1 v3 H locs ls  hc hs h
    exact False.elim h
  | succ n ih =>
    intro cells slots S l1 v3 H locs ls  hc hs h C hl
    refine lv_iload_n F.x F.b dL_told_50 rfl (lv_at hl 2 rfl) ?_
    refine lv_bipush (v := 10) F.x F.b dL_told_51 (by decide) ?_
    refine lv_icmp_ge (tgt := 92) F.x F.b dL_told_53 (by decide) (fun g1 => ?_) (fun g1 => ?_)
    · have h := h.1 g1
      refine lv_iconst (v := 0) F.x F.b dL_told_92 (by decide) ?_
      refine lv_istore_n (lv' := [(3, .int (0 : Int32)), (0, .ref (ad 110)), (1, .long l1)]) F.x F.b dL_told_93 rfl hl (by decide) rfl (fun ls hl => ?_)
      obtain ⟨n2, hn2, h⟩ := h
      exact bL_told_94 F hr hf n2 _ _ S l1 (0 : Int32) _ _ _ (by omega) (by omega) h C (lv_sub hl [1, 2, 0] rfl)
    · have h := h.2 g1
      refine lv_iconst (v := 0) F.x F.b dL_told_56 (by decide) ?_
      refine lv_istore (lv' := [(4, .int (0 : Int32)), (0, .ref (ad 110)), (1, .long l1), (3, .int v3)]) F.x F.b dL_told_57 hl (by decide) rfl (fun ls hl => ?_)
      obtain ⟨n3, hn3, h⟩ := h
      exact bL_told_59 F hr hf (8 * n + 242) (48 * n + 1452) ih n3 _ _ S l1 v3 (0 : Int32) _ _ _ (by omega) (by omega) h C (lv_sub hl [1, 2, 3, 0] rfl)
set_option maxRecDepth 100000 in
set_option maxHeartbeats 4000000 in
theorem bL_told_23 {p : Program} {l : Launch} {e : Env} {s : State} {m : MethodId} {args : Array Value} {below : List Frame} {meth : Method} {c : Code} {D : va_G} {ky : Nat → ClassId} {ad : Nat → Nat} {ex : Nat → Nat → Nat} (F : Fx p s m args meth c D ky ad ex cL_told 5 yL_told.cls) (hr : meth.sig.returnType = (some .long)) (hf : l.stackTraces = false) {post : Int64 → Mem → Prop} : ∀ (n : Nat) (cells slots : Nat) (S : Mem) (l1 : Int64) (v3 : Int32) (H : Heap) (locs : List Loc) (ls : Array Slot), cells + (1 * n + 330) ≤ 349 → slots + (6 * n + 1980) ≤ 2094 → mL_told_b23 post n S l1 v3 → Cx D ky ad s S H locs → lv_has ls 5 [(0, .ref (ad 110)), (1, .long l1), (3, .int v3)] → W p l e rmL_told s m args below meth c H locs cells slots (MQ below (va_Ql post (AFT D ky ad) (AW ad s.heap.size)) args s 349 2094 (AW ad s.heap.size)) (F0 m 23 ls []) := by
  intro n
  induction n with
  | zero =>
    intro cells slots S l1 v3 H locs ls  hc hs h
    exact False.elim h
  | succ n ih =>
    intro cells slots S l1 v3 H locs ls  hc hs h C hl
    refine lv_iload_n F.x F.b dL_told_23 rfl (lv_at hl 2 rfl) ?_
    refine lv_bipush (v := 16) F.x F.b dL_told_24 (by decide) ?_
    refine lv_icmp_ge (tgt := 48) F.x F.b dL_told_26 (by decide) (fun g1 => ?_) (fun g1 => ?_)
    · have h := h.1 g1
      refine lv_iconst (v := 0) F.x F.b dL_told_48 (by decide) ?_
      refine lv_istore_n (lv' := [(3, .int (0 : Int32)), (0, .ref (ad 110)), (1, .long l1)]) F.x F.b dL_told_49 rfl hl (by decide) rfl (fun ls hl => ?_)
      obtain ⟨n2, hn2, h⟩ := h
      exact bL_told_50 F hr hf n2 _ _ S l1 (0 : Int32) _ _ _ (by omega) (by omega) h C (lv_sub hl [1, 2, 0] rfl)
    · have h := h.2 g1
      refine lv_ldc2 F.x F.b F.ow (F.ts _ q4_157) dL_told_29 ?_
      refine lv_lload_n F.x F.b dL_told_32 rfl (lv_at hl 1 rfl) ?_
      refine lv_lmul F.x F.b dL_told_33 ?_
      refine lv_aload_n F.x F.b dL_told_34 rfl (lv_at hl 0 rfl) ?_
      refine lv_iload_n F.x F.b dL_told_35 rfl (lv_at hl 2 rfl) ?_
      refine gSH F.g C.g hl (kL_account hf h) wh_L_177 ⟨rfl, rfl, ⟨Nat.le_of_ble_eq_true rfl, Nat.le_of_ble_eq_true rfl⟩, ⟨(show _ ≤ (349 : Nat) by omega), (show _ ≤ (2094 : Nat) by omega)⟩, Nat.le_of_ble_eq_true rfl⟩ (rest := [.long ((31 : Int64) * l1)]) rfl dL_told_36 (fun r4 S3 H locs h C => ?_)
      have C := C.c
      refine lv_i2l F.x F.b dL_told_39 rfl ?_
      refine lv_ladd F.x F.b dL_told_40 ?_
      refine lv_topl (fun y5 ey5 => ?_)
      have h := h y5 ey5
      refine lv_lstore_n (lv' := [(1, .long y5), (0, .ref (ad 110)), (3, .int v3)]) F.x F.b dL_told_41 rfl hl (by decide) rfl (fun ls hl => ?_)
      obtain ⟨x6, ex6⟩ : ∃ z : Int32, z = v3 + (1 : Int32) := ⟨_, rfl⟩
      have h := h x6 ex6
      refine lv_iinc (v := x6) (lv' := [(3, .int x6), (1, .long y5), (0, .ref (ad 110))]) F.x F.b dL_told_42 hl (k := 2) rfl (by rw [ex6]; rfl) (by decide) rfl (fun ls hl => ?_)
      refine lv_goto (tgt := 23) F.x F.b dL_told_45 (by decide) ?_
      exact ih _ _ S3 y5 x6 _ _ _ (by omega) (by omega) h C (lv_sub hl [2, 1, 0] rfl)
set_option maxRecDepth 100000 in
set_option maxHeartbeats 4000000 in
theorem kL_told {l : Launch} {D : va_G} {ky : Nat → ClassId} {ad : Nat → Nat} {ex : Nat → Nat → Nat} {post : Int64 → Mem → Prop} {S : Mem} (hf : l.stackTraces = false) (h : mL_told post S) : CMl l D ky ad ex yL_told cL_told 5 (some .long) rmL_told 349 2094 [.ref (ad 110)] S post := by
  refine CMl.of (by decide) (Nat.le_of_ble_eq_true rfl) (fun p e s m args below meth c ls F hr C hl => ?_)
  have hl : lv_has ls 5 [(0, .ref (ad 110))] := hl
  unfold mL_told at h
  refine lv_ldc2 F.x F.b F.ow (F.ts _ q4_157) dL_told_0 ?_
  refine lv_aload_n F.x F.b dL_told_3 rfl (lv_at hl 0 rfl) ?_
  refine gSHd F.g C.g hl (kL_meanWet hf h) wh_L_159 ⟨rfl, rfl, ⟨Nat.le_of_ble_eq_true rfl, Nat.le_of_ble_eq_true rfl⟩, ⟨(show _ ≤ (349 : Nat) by omega), (show _ ≤ (2094 : Nat) by omega)⟩, Nat.le_of_ble_eq_true rfl⟩ (rest := [.long (31 : Int64)]) rfl dL_told_4 (fun r2 S1 H locs h C => ?_)
  have C := C.c
  obtain ⟨g3, h⟩ := h
  refine gSL F.g C.g hl (kBD (post := fun r9z S9z => r9z = r2.toInt64 ∧ S9z = S1) g3 ⟨rfl, rfl⟩) wv_L_162 ⟨rfl, rfl, ⟨Nat.le_of_ble_eq_true rfl, Nat.le_of_ble_eq_true rfl⟩, ⟨(show _ ≤ (349 : Nat) by omega), (show _ ≤ (2094 : Nat) by omega)⟩, Nat.le_of_ble_eq_true rfl⟩ (rest := [.long (31 : Int64)]) rfl dL_told_7 (fun rf4 Sf4 H locs hf4 C => ?_)
  rw [hf4.1]
  rw [hf4.2] at C
  have C := C.c
  refine lv_lmul F.x F.b dL_told_10 ?_
  refine lv_aload_n F.x F.b dL_told_11 rfl (lv_at hl 0 rfl) ?_
  refine gSHf F.g C.g hl (kL_crossingShare hf h) wh_L_168 ⟨rfl, rfl, ⟨Nat.le_of_ble_eq_true rfl, Nat.le_of_ble_eq_true rfl⟩, ⟨(show _ ≤ (349 : Nat) by omega), (show _ ≤ (2094 : Nat) by omega)⟩, Nat.le_of_ble_eq_true rfl⟩ (rest := [.long ((31 : Int64) * r2.toInt64)]) rfl dL_told_12 (fun r6 S5 H locs h C => ?_)
  have C := C.c
  obtain ⟨g7, h⟩ := h
  refine gSI F.g C.g hl (kBF (post := fun r9z S9z => r9z = r6.toInt32 ∧ S9z = S5) g7 ⟨rfl, rfl⟩) wv_L_171 ⟨rfl, rfl, ⟨Nat.le_of_ble_eq_true rfl, Nat.le_of_ble_eq_true rfl⟩, ⟨(show _ ≤ (349 : Nat) by omega), (show _ ≤ (2094 : Nat) by omega)⟩, Nat.le_of_ble_eq_true rfl⟩ (rest := [.long ((31 : Int64) * r2.toInt64)]) rfl dL_told_15 (fun rf8 Sf8 H locs hf8 C => ?_)
  rw [hf8.1]
  rw [hf8.2] at C
  have C := C.c
  refine lv_i2l F.x F.b dL_told_18 rfl ?_
  refine lv_ladd F.x F.b dL_told_19 ?_
  refine lv_topl (fun y9 ey9 => ?_)
  have h := h y9 ey9
  refine lv_lstore_n (lv' := [(1, .long y9), (0, .ref (ad 110))]) F.x F.b dL_told_20 rfl hl (by decide) rfl (fun ls hl => ?_)
  refine lv_iconst (v := 0) F.x F.b dL_told_21 (by decide) ?_
  refine lv_istore_n (lv' := [(3, .int (0 : Int32)), (1, .long y9), (0, .ref (ad 110))]) F.x F.b dL_told_22 rfl hl (by decide) rfl (fun ls hl => ?_)
  obtain ⟨n10, hn10, h⟩ := h
  exact bL_told_23 F hr hf n10 _ _ S5 y9 (0 : Int32) _ _ _ (by omega) (by omega) h C (lv_sub hl [2, 1, 0] rfl)

def rmL_changes : Room := { frames := 10, cells := 4, slots := 24, locals := 170 }
def mL_changes (post : Int32 → Mem → Prop) (S : Mem) (v1 : Int32) : Prop := mL_account (fun (r2 : Int32) (S1 : Mem) => mL_some (fun (r4 : Int32) (S3 : Mem) => mL_some (fun (r6 : Int32) (S5 : Mem) => ((r6 = (0 : Int32) → (mL_some (fun (r9 : Int32) (S8 : Mem) => mL_some (fun (r11 : Int32) (S10 : Mem) => mL_height (fun (r13 : Int32) (S12 : Mem) => ((r13 < 0 → (post (0 : Int32) S12)) ∧ (¬ r13 < 0 → (post (1 : Int32) S12)))) S10 r9 r11) S8 ((v1 >>> ((6 : Int32) &&& 31))) (32 : Int32)) S5 ((v1 >>> ((4 : Int32) &&& 31))) (11 : Int32))) ∧ (r6 = (1 : Int32) → (mL_some (fun (r16 : Int32) (S15 : Mem) => mL_rain (fun (r18 : Int32) (S17 : Mem) => ((r18 < 0 → (post (0 : Int32) S17)) ∧ (¬ r18 < 0 → (post (1 : Int32) S17)))) S15 r16) S5 ((v1 >>> ((4 : Int32) &&& 31))) (11 : Int32))) ∧ (r6 = (2 : Int32) → (mL_some (fun (r21 : Int32) (S20 : Mem) => mL_letters (fun (r23 : Int32) (S22 : Mem) => ((r23 < 0 → (post (0 : Int32) S22)) ∧ (¬ r23 < 0 → (post (1 : Int32) S22)))) S20 r21) S5 ((v1 >>> ((4 : Int32) &&& 31))) (52 : Int32))) ∧ (r6 = (3 : Int32) → (mL_some (fun (r26 : Int32) (S25 : Mem) => mL_traveller (fun (r28 : Int32) (S27 : Mem) => ((r28 < 0 → (post (0 : Int32) S27)) ∧ (¬ r28 < 0 → (post (1 : Int32) S27)))) S25 r26) S5 ((v1 >>> ((4 : Int32) &&& 31))) (23 : Int32))) ∧ (r6 = (4 : Int32) → (mL_leave (fun (r31 : Int32) (S30 : Mem) => ((r31 < 0 → (post (0 : Int32) S30)) ∧ (¬ r31 < 0 → (post (1 : Int32) S30)))) S5 r4)) ∧ (r6 = (5 : Int32) → (mL_setOut (fun (r34 : Int32) (S33 : Mem) => ((r34 < 0 → (post (0 : Int32) S33)) ∧ (¬ r34 < 0 → (post (1 : Int32) S33)))) S5 r4)) ∧ (r6 = (6 : Int32) → (mL_setOut (fun (r37 : Int32) (S36 : Mem) => ((r37 < 0 → (post (0 : Int32) S36)) ∧ (¬ r37 < 0 → (post (1 : Int32) S36)))) S5 r4)) ∧ (r6 = (7 : Int32) → (mL_setOut (fun (r40 : Int32) (S39 : Mem) => ((r40 < 0 → (post (0 : Int32) S39)) ∧ (¬ r40 < 0 → (post (1 : Int32) S39)))) S5 r4)) ∧ (r6 = (8 : Int32) → (mL_stop (fun (r43 : Int32) (S42 : Mem) => ((r43 < (-1 : Int32) → (post (0 : Int32) S42)) ∧ (¬ r43 < (-1 : Int32) → (post (1 : Int32) S42)))) S5 r4)) ∧ (r6 = (9 : Int32) → (mL_go (fun (r46 : Int32) (S45 : Mem) => ((r46 < (-1 : Int32) → (post (0 : Int32) S45)) ∧ (¬ r46 < (-1 : Int32) → (post (1 : Int32) S45)))) S5 r4)) ∧ (¬ r6 = (0 : Int32) ∧ ¬ r6 = (1 : Int32) ∧ ¬ r6 = (2 : Int32) ∧ ¬ r6 = (3 : Int32) ∧ ¬ r6 = (4 : Int32) ∧ ¬ r6 = (5 : Int32) ∧ ¬ r6 = (6 : Int32) ∧ ¬ r6 = (7 : Int32) ∧ ¬ r6 = (8 : Int32) ∧ ¬ r6 = (9 : Int32) → (mL_some (fun (r49 : Int32) (S48 : Mem) => mL_pass (fun (r51 : Int32) (S50 : Mem) => ((r51 < 0 → (post (0 : Int32) S50)) ∧ (¬ r51 < 0 → (post (1 : Int32) S50)))) S48 r49) S5 ((v1 >>> ((4 : Int32) &&& 31))) (9 : Int32))))) S3 v1 (13 : Int32)) S1 ((v1 >>> ((4 : Int32) &&& 31))) ((r2 + (1 : Int32)))) S (3 : Int32)
set_option maxRecDepth 100000 in
set_option maxHeartbeats 4000000 in
theorem kL_changes {l : Launch} {D : va_G} {ky : Nat → ClassId} {ad : Nat → Nat} {ex : Nat → Nat → Nat} {post : Int32 → Mem → Prop} {S : Mem} {v1 : Int32} (hf : l.stackTraces = false) (h : mL_changes post S v1) : CMi l D ky ad ex yL_changes cL_changes 3 (some .boolean) rmL_changes 4 24 [.ref (ad 110), .int v1] S post := by
  refine CMi.of (by decide) (Nat.le_of_ble_eq_true rfl) (fun p e s m args below meth c ls F hr C hl => ?_)
  have hl : lv_has ls 3 [(0, .ref (ad 110)), (1, .int v1)] := hl
  unfold mL_changes at h
  refine lv_iload_n F.x F.b dL_changes_0 rfl (lv_at hl 1 rfl) ?_
  refine lv_iconst (v := 4) F.x F.b dL_changes_1 (by decide) ?_
  refine lv_ishr F.x F.b dL_changes_2 ?_
  refine lv_aload_n F.x F.b dL_changes_3 rfl (lv_at hl 0 rfl) ?_
  refine lv_iconst (v := 3) F.x F.b dL_changes_4 (by decide) ?_
  refine gSH F.g C.g hl (kL_account hf h) wh_L_177 ⟨rfl, rfl, ⟨Nat.le_of_ble_eq_true rfl, Nat.le_of_ble_eq_true rfl⟩, ⟨(show _ ≤ (4 : Nat) by omega), (show _ ≤ (24 : Nat) by omega)⟩, Nat.le_of_ble_eq_true rfl⟩ (rest := [.int (v1 >>> ((4 : Int32) &&& 31))]) rfl dL_changes_5 (fun r2 S1 H locs h C => ?_)
  have C := C.c
  refine lv_iconst (v := 1) F.x F.b dL_changes_8 (by decide) ?_
  refine lv_iadd F.x F.b dL_changes_9 ?_
  refine gSI F.g C.g hl (kL_some hf h) wv_L_145 ⟨rfl, rfl, ⟨Nat.le_of_ble_eq_true rfl, Nat.le_of_ble_eq_true rfl⟩, ⟨(show _ ≤ (4 : Nat) by omega), (show _ ≤ (24 : Nat) by omega)⟩, Nat.le_of_ble_eq_true rfl⟩ (rest := []) rfl dL_changes_10 (fun r4 S3 H locs h C => ?_)
  have C := C.c
  refine lv_istore_n (lv' := [(2, .int r4), (0, .ref (ad 110)), (1, .int v1)]) F.x F.b dL_changes_13 rfl hl (by decide) rfl (fun ls hl => ?_)
  refine lv_iload_n F.x F.b dL_changes_14 rfl (lv_at hl 2 rfl) ?_
  refine lv_bipush (v := 13) F.x F.b dL_changes_15 (by decide) ?_
  refine gSI F.g C.g hl (kL_some hf h) wv_L_145 ⟨rfl, rfl, ⟨Nat.le_of_ble_eq_true rfl, Nat.le_of_ble_eq_true rfl⟩, ⟨(show _ ≤ (4 : Nat) by omega), (show _ ≤ (24 : Nat) by omega)⟩, Nat.le_of_ble_eq_true rfl⟩ (rest := []) rfl dL_changes_17 (fun r6 S5 H locs h C => ?_)
  have C := C.c
  by_cases g7 : r6 = (0 : Int32)
  · have h := h.1 g7
    refine lv_tableIn (tgt := 76) F.x F.b dL_changes_20 (by rw [g7]; decide) (by rw [g7]; decide) (by rw [g7]; rfl) (by decide) ?_
    refine lv_aload_n F.x F.b dL_changes_76 rfl (lv_at hl 1 rfl) ?_
    refine lv_iload_n F.x F.b dL_changes_77 rfl (lv_at hl 2 rfl) ?_
    refine lv_iconst (v := 4) F.x F.b dL_changes_78 (by decide) ?_
    refine lv_ishr F.x F.b dL_changes_79 ?_
    refine lv_bipush (v := 11) F.x F.b dL_changes_80 (by decide) ?_
    refine gSI F.g C.g hl (kL_some hf h) wv_L_145 ⟨rfl, rfl, ⟨Nat.le_of_ble_eq_true rfl, Nat.le_of_ble_eq_true rfl⟩, ⟨(show _ ≤ (4 : Nat) by omega), (show _ ≤ (24 : Nat) by omega)⟩, Nat.le_of_ble_eq_true rfl⟩ (rest := [.ref (ad 110)]) rfl dL_changes_82 (fun r9 S8 H locs h C => ?_)
    have C := C.c
    refine lv_iload_n F.x F.b dL_changes_85 rfl (lv_at hl 2 rfl) ?_
    refine lv_bipush (v := 6) F.x F.b dL_changes_86 (by decide) ?_
    refine lv_ishr F.x F.b dL_changes_88 ?_
    refine lv_bipush (v := 32) F.x F.b dL_changes_89 (by decide) ?_
    refine gSI F.g C.g hl (kL_some hf h) wv_L_145 ⟨rfl, rfl, ⟨Nat.le_of_ble_eq_true rfl, Nat.le_of_ble_eq_true rfl⟩, ⟨(show _ ≤ (4 : Nat) by omega), (show _ ≤ (24 : Nat) by omega)⟩, Nat.le_of_ble_eq_true rfl⟩ (rest := [.int r9, .ref (ad 110)]) rfl dL_changes_91 (fun r11 S10 H locs h C => ?_)
    have C := C.c
    refine gSH F.g C.g hl (kL_height hf h) wh_L_148 ⟨rfl, rfl, ⟨Nat.le_of_ble_eq_true rfl, Nat.le_of_ble_eq_true rfl⟩, ⟨(show _ ≤ (4 : Nat) by omega), (show _ ≤ (24 : Nat) by omega)⟩, Nat.le_of_ble_eq_true rfl⟩ (rest := []) rfl dL_changes_94 (fun r13 S12 H locs h C => ?_)
    have C := C.c
    refine lv_if_lt (tgt := 104) F.x F.b dL_changes_97 (by decide) (fun g14 => ?_) (fun g14 => ?_)
    · have h := h.1 g14
      refine lv_iconst (v := 0) F.x F.b dL_changes_104 (by decide) ?_
      refine W.widen (k := 4) (n := 24) (by omega) (by omega) ?_
      exact retZ F hr C rfl h dL_changes_105
    · have h := h.2 g14
      refine lv_iconst (v := 1) F.x F.b dL_changes_100 (by decide) ?_
      refine lv_goto (tgt := 105) F.x F.b dL_changes_101 (by decide) ?_
      refine W.widen (k := 4) (n := 24) (by omega) (by omega) ?_
      exact retZ F hr C rfl h dL_changes_105
  · have ng7_0 := g7
    by_cases g7 : r6 = (1 : Int32)
    · have h := h.2.1 g7
      refine lv_tableIn (tgt := 106) F.x F.b dL_changes_20 (by rw [g7]; decide) (by rw [g7]; decide) (by rw [g7]; rfl) (by decide) ?_
      refine lv_aload_n F.x F.b dL_changes_106 rfl (lv_at hl 1 rfl) ?_
      refine lv_iload_n F.x F.b dL_changes_107 rfl (lv_at hl 2 rfl) ?_
      refine lv_iconst (v := 4) F.x F.b dL_changes_108 (by decide) ?_
      refine lv_ishr F.x F.b dL_changes_109 ?_
      refine lv_bipush (v := 11) F.x F.b dL_changes_110 (by decide) ?_
      refine gSI F.g C.g hl (kL_some hf h) wv_L_145 ⟨rfl, rfl, ⟨Nat.le_of_ble_eq_true rfl, Nat.le_of_ble_eq_true rfl⟩, ⟨(show _ ≤ (4 : Nat) by omega), (show _ ≤ (24 : Nat) by omega)⟩, Nat.le_of_ble_eq_true rfl⟩ (rest := [.ref (ad 110)]) rfl dL_changes_112 (fun r16 S15 H locs h C => ?_)
      have C := C.c
      refine gSH F.g C.g hl (kL_rain hf h) wh_L_155 ⟨rfl, rfl, ⟨Nat.le_of_ble_eq_true rfl, Nat.le_of_ble_eq_true rfl⟩, ⟨(show _ ≤ (4 : Nat) by omega), (show _ ≤ (24 : Nat) by omega)⟩, Nat.le_of_ble_eq_true rfl⟩ (rest := []) rfl dL_changes_115 (fun r18 S17 H locs h C => ?_)
      have C := C.c
      refine lv_if_lt (tgt := 125) F.x F.b dL_changes_118 (by decide) (fun g19 => ?_) (fun g19 => ?_)
      · have h := h.1 g19
        refine lv_iconst (v := 0) F.x F.b dL_changes_125 (by decide) ?_
        refine W.widen (k := 4) (n := 24) (by omega) (by omega) ?_
        exact retZ F hr C rfl h dL_changes_126
      · have h := h.2 g19
        refine lv_iconst (v := 1) F.x F.b dL_changes_121 (by decide) ?_
        refine lv_goto (tgt := 126) F.x F.b dL_changes_122 (by decide) ?_
        refine W.widen (k := 4) (n := 24) (by omega) (by omega) ?_
        exact retZ F hr C rfl h dL_changes_126
    · have ng7_1 := g7
      by_cases g7 : r6 = (2 : Int32)
      · have h := h.2.2.1 g7
        refine lv_tableIn (tgt := 127) F.x F.b dL_changes_20 (by rw [g7]; decide) (by rw [g7]; decide) (by rw [g7]; rfl) (by decide) ?_
        refine lv_aload_n F.x F.b dL_changes_127 rfl (lv_at hl 1 rfl) ?_
        refine lv_iload_n F.x F.b dL_changes_128 rfl (lv_at hl 2 rfl) ?_
        refine lv_iconst (v := 4) F.x F.b dL_changes_129 (by decide) ?_
        refine lv_ishr F.x F.b dL_changes_130 ?_
        refine lv_bipush (v := 52) F.x F.b dL_changes_131 (by decide) ?_
        refine gSI F.g C.g hl (kL_some hf h) wv_L_145 ⟨rfl, rfl, ⟨Nat.le_of_ble_eq_true rfl, Nat.le_of_ble_eq_true rfl⟩, ⟨(show _ ≤ (4 : Nat) by omega), (show _ ≤ (24 : Nat) by omega)⟩, Nat.le_of_ble_eq_true rfl⟩ (rest := [.ref (ad 110)]) rfl dL_changes_133 (fun r21 S20 H locs h C => ?_)
        have C := C.c
        refine gSH F.g C.g hl (kL_letters hf h) wh_L_153 ⟨rfl, rfl, ⟨Nat.le_of_ble_eq_true rfl, Nat.le_of_ble_eq_true rfl⟩, ⟨(show _ ≤ (4 : Nat) by omega), (show _ ≤ (24 : Nat) by omega)⟩, Nat.le_of_ble_eq_true rfl⟩ (rest := []) rfl dL_changes_136 (fun r23 S22 H locs h C => ?_)
        have C := C.c
        refine lv_if_lt (tgt := 146) F.x F.b dL_changes_139 (by decide) (fun g24 => ?_) (fun g24 => ?_)
        · have h := h.1 g24
          refine lv_iconst (v := 0) F.x F.b dL_changes_146 (by decide) ?_
          refine W.widen (k := 4) (n := 24) (by omega) (by omega) ?_
          exact retZ F hr C rfl h dL_changes_147
        · have h := h.2 g24
          refine lv_iconst (v := 1) F.x F.b dL_changes_142 (by decide) ?_
          refine lv_goto (tgt := 147) F.x F.b dL_changes_143 (by decide) ?_
          refine W.widen (k := 4) (n := 24) (by omega) (by omega) ?_
          exact retZ F hr C rfl h dL_changes_147
      · have ng7_2 := g7
        by_cases g7 : r6 = (3 : Int32)
        · have h := h.2.2.2.1 g7
          refine lv_tableIn (tgt := 148) F.x F.b dL_changes_20 (by rw [g7]; decide) (by rw [g7]; decide) (by rw [g7]; rfl) (by decide) ?_
          refine lv_aload_n F.x F.b dL_changes_148 rfl (lv_at hl 1 rfl) ?_
          refine lv_iload_n F.x F.b dL_changes_149 rfl (lv_at hl 2 rfl) ?_
          refine lv_iconst (v := 4) F.x F.b dL_changes_150 (by decide) ?_
          refine lv_ishr F.x F.b dL_changes_151 ?_
          refine lv_bipush (v := 23) F.x F.b dL_changes_152 (by decide) ?_
          refine gSI F.g C.g hl (kL_some hf h) wv_L_145 ⟨rfl, rfl, ⟨Nat.le_of_ble_eq_true rfl, Nat.le_of_ble_eq_true rfl⟩, ⟨(show _ ≤ (4 : Nat) by omega), (show _ ≤ (24 : Nat) by omega)⟩, Nat.le_of_ble_eq_true rfl⟩ (rest := [.ref (ad 110)]) rfl dL_changes_154 (fun r26 S25 H locs h C => ?_)
          have C := C.c
          refine gSH F.g C.g hl (kL_traveller hf h) wh_L_151 ⟨rfl, rfl, ⟨Nat.le_of_ble_eq_true rfl, Nat.le_of_ble_eq_true rfl⟩, ⟨(show _ ≤ (4 : Nat) by omega), (show _ ≤ (24 : Nat) by omega)⟩, Nat.le_of_ble_eq_true rfl⟩ (rest := []) rfl dL_changes_157 (fun r28 S27 H locs h C => ?_)
          have C := C.c
          refine lv_if_lt (tgt := 167) F.x F.b dL_changes_160 (by decide) (fun g29 => ?_) (fun g29 => ?_)
          · have h := h.1 g29
            refine lv_iconst (v := 0) F.x F.b dL_changes_167 (by decide) ?_
            refine W.widen (k := 4) (n := 24) (by omega) (by omega) ?_
            exact retZ F hr C rfl h dL_changes_168
          · have h := h.2 g29
            refine lv_iconst (v := 1) F.x F.b dL_changes_163 (by decide) ?_
            refine lv_goto (tgt := 168) F.x F.b dL_changes_164 (by decide) ?_
            refine W.widen (k := 4) (n := 24) (by omega) (by omega) ?_
            exact retZ F hr C rfl h dL_changes_168
        · have ng7_3 := g7
          by_cases g7 : r6 = (4 : Int32)
          · have h := h.2.2.2.2.1 g7
            refine lv_tableIn (tgt := 169) F.x F.b dL_changes_20 (by rw [g7]; decide) (by rw [g7]; decide) (by rw [g7]; rfl) (by decide) ?_
            refine lv_aload_n F.x F.b dL_changes_169 rfl (lv_at hl 1 rfl) ?_
            refine lv_iload_n F.x F.b dL_changes_170 rfl (lv_at hl 0 rfl) ?_
            refine gSH F.g C.g hl (kL_leave hf h) wh_L_204 ⟨rfl, rfl, ⟨Nat.le_of_ble_eq_true rfl, Nat.le_of_ble_eq_true rfl⟩, ⟨(show _ ≤ (4 : Nat) by omega), (show _ ≤ (24 : Nat) by omega)⟩, Nat.le_of_ble_eq_true rfl⟩ (rest := []) rfl dL_changes_171 (fun r31 S30 H locs h C => ?_)
            have C := C.c
            refine lv_if_lt (tgt := 181) F.x F.b dL_changes_174 (by decide) (fun g32 => ?_) (fun g32 => ?_)
            · have h := h.1 g32
              refine lv_iconst (v := 0) F.x F.b dL_changes_181 (by decide) ?_
              refine W.widen (k := 4) (n := 24) (by omega) (by omega) ?_
              exact retZ F hr C rfl h dL_changes_182
            · have h := h.2 g32
              refine lv_iconst (v := 1) F.x F.b dL_changes_177 (by decide) ?_
              refine lv_goto (tgt := 182) F.x F.b dL_changes_178 (by decide) ?_
              refine W.widen (k := 4) (n := 24) (by omega) (by omega) ?_
              exact retZ F hr C rfl h dL_changes_182
          · have ng7_4 := g7
            by_cases g7 : r6 = (5 : Int32)
            · have h := h.2.2.2.2.2.1 g7
              refine lv_tableIn (tgt := 183) F.x F.b dL_changes_20 (by rw [g7]; decide) (by rw [g7]; decide) (by rw [g7]; rfl) (by decide) ?_
              refine lv_aload_n F.x F.b dL_changes_183 rfl (lv_at hl 1 rfl) ?_
              refine lv_iload_n F.x F.b dL_changes_184 rfl (lv_at hl 0 rfl) ?_
              refine gSH F.g C.g hl (kL_setOut hf h) wh_L_206 ⟨rfl, rfl, ⟨Nat.le_of_ble_eq_true rfl, Nat.le_of_ble_eq_true rfl⟩, ⟨(show _ ≤ (4 : Nat) by omega), (show _ ≤ (24 : Nat) by omega)⟩, Nat.le_of_ble_eq_true rfl⟩ (rest := []) rfl dL_changes_185 (fun r34 S33 H locs h C => ?_)
              have C := C.c
              refine lv_if_lt (tgt := 195) F.x F.b dL_changes_188 (by decide) (fun g35 => ?_) (fun g35 => ?_)
              · have h := h.1 g35
                refine lv_iconst (v := 0) F.x F.b dL_changes_195 (by decide) ?_
                refine W.widen (k := 4) (n := 24) (by omega) (by omega) ?_
                exact retZ F hr C rfl h dL_changes_196
              · have h := h.2 g35
                refine lv_iconst (v := 1) F.x F.b dL_changes_191 (by decide) ?_
                refine lv_goto (tgt := 196) F.x F.b dL_changes_192 (by decide) ?_
                refine W.widen (k := 4) (n := 24) (by omega) (by omega) ?_
                exact retZ F hr C rfl h dL_changes_196
            · have ng7_5 := g7
              by_cases g7 : r6 = (6 : Int32)
              · have h := h.2.2.2.2.2.2.1 g7
                refine lv_tableIn (tgt := 183) F.x F.b dL_changes_20 (by rw [g7]; decide) (by rw [g7]; decide) (by rw [g7]; rfl) (by decide) ?_
                refine lv_aload_n F.x F.b dL_changes_183 rfl (lv_at hl 1 rfl) ?_
                refine lv_iload_n F.x F.b dL_changes_184 rfl (lv_at hl 0 rfl) ?_
                refine gSH F.g C.g hl (kL_setOut hf h) wh_L_206 ⟨rfl, rfl, ⟨Nat.le_of_ble_eq_true rfl, Nat.le_of_ble_eq_true rfl⟩, ⟨(show _ ≤ (4 : Nat) by omega), (show _ ≤ (24 : Nat) by omega)⟩, Nat.le_of_ble_eq_true rfl⟩ (rest := []) rfl dL_changes_185 (fun r37 S36 H locs h C => ?_)
                have C := C.c
                refine lv_if_lt (tgt := 195) F.x F.b dL_changes_188 (by decide) (fun g38 => ?_) (fun g38 => ?_)
                · have h := h.1 g38
                  refine lv_iconst (v := 0) F.x F.b dL_changes_195 (by decide) ?_
                  refine W.widen (k := 4) (n := 24) (by omega) (by omega) ?_
                  exact retZ F hr C rfl h dL_changes_196
                · have h := h.2 g38
                  refine lv_iconst (v := 1) F.x F.b dL_changes_191 (by decide) ?_
                  refine lv_goto (tgt := 196) F.x F.b dL_changes_192 (by decide) ?_
                  refine W.widen (k := 4) (n := 24) (by omega) (by omega) ?_
                  exact retZ F hr C rfl h dL_changes_196
              · have ng7_6 := g7
                by_cases g7 : r6 = (7 : Int32)
                · have h := h.2.2.2.2.2.2.2.1 g7
                  refine lv_tableIn (tgt := 183) F.x F.b dL_changes_20 (by rw [g7]; decide) (by rw [g7]; decide) (by rw [g7]; rfl) (by decide) ?_
                  refine lv_aload_n F.x F.b dL_changes_183 rfl (lv_at hl 1 rfl) ?_
                  refine lv_iload_n F.x F.b dL_changes_184 rfl (lv_at hl 0 rfl) ?_
                  refine gSH F.g C.g hl (kL_setOut hf h) wh_L_206 ⟨rfl, rfl, ⟨Nat.le_of_ble_eq_true rfl, Nat.le_of_ble_eq_true rfl⟩, ⟨(show _ ≤ (4 : Nat) by omega), (show _ ≤ (24 : Nat) by omega)⟩, Nat.le_of_ble_eq_true rfl⟩ (rest := []) rfl dL_changes_185 (fun r40 S39 H locs h C => ?_)
                  have C := C.c
                  refine lv_if_lt (tgt := 195) F.x F.b dL_changes_188 (by decide) (fun g41 => ?_) (fun g41 => ?_)
                  · have h := h.1 g41
                    refine lv_iconst (v := 0) F.x F.b dL_changes_195 (by decide) ?_
                    refine W.widen (k := 4) (n := 24) (by omega) (by omega) ?_
                    exact retZ F hr C rfl h dL_changes_196
                  · have h := h.2 g41
                    refine lv_iconst (v := 1) F.x F.b dL_changes_191 (by decide) ?_
                    refine lv_goto (tgt := 196) F.x F.b dL_changes_192 (by decide) ?_
                    refine W.widen (k := 4) (n := 24) (by omega) (by omega) ?_
                    exact retZ F hr C rfl h dL_changes_196
                · have ng7_7 := g7
                  by_cases g7 : r6 = (8 : Int32)
                  · have h := h.2.2.2.2.2.2.2.2.1 g7
                    refine lv_tableIn (tgt := 197) F.x F.b dL_changes_20 (by rw [g7]; decide) (by rw [g7]; decide) (by rw [g7]; rfl) (by decide) ?_
                    refine lv_aload_n F.x F.b dL_changes_197 rfl (lv_at hl 1 rfl) ?_
                    refine lv_iload_n F.x F.b dL_changes_198 rfl (lv_at hl 0 rfl) ?_
                    refine gSH F.g C.g hl (kL_stop hf h) wh_L_208 ⟨rfl, rfl, ⟨Nat.le_of_ble_eq_true rfl, Nat.le_of_ble_eq_true rfl⟩, ⟨(show _ ≤ (4 : Nat) by omega), (show _ ≤ (24 : Nat) by omega)⟩, Nat.le_of_ble_eq_true rfl⟩ (rest := []) rfl dL_changes_199 (fun r43 S42 H locs h C => ?_)
                    have C := C.c
                    refine lv_iconst (v := -1) F.x F.b dL_changes_202 (by decide) ?_
                    refine lv_icmp_lt (tgt := 210) F.x F.b dL_changes_203 (by decide) (fun g44 => ?_) (fun g44 => ?_)
                    · have h := h.1 g44
                      refine lv_iconst (v := 0) F.x F.b dL_changes_210 (by decide) ?_
                      refine W.widen (k := 4) (n := 24) (by omega) (by omega) ?_
                      exact retZ F hr C rfl h dL_changes_211
                    · have h := h.2 g44
                      refine lv_iconst (v := 1) F.x F.b dL_changes_206 (by decide) ?_
                      refine lv_goto (tgt := 211) F.x F.b dL_changes_207 (by decide) ?_
                      refine W.widen (k := 4) (n := 24) (by omega) (by omega) ?_
                      exact retZ F hr C rfl h dL_changes_211
                  · have ng7_8 := g7
                    by_cases g7 : r6 = (9 : Int32)
                    · have h := h.2.2.2.2.2.2.2.2.2.1 g7
                      refine lv_tableIn (tgt := 212) F.x F.b dL_changes_20 (by rw [g7]; decide) (by rw [g7]; decide) (by rw [g7]; rfl) (by decide) ?_
                      refine lv_aload_n F.x F.b dL_changes_212 rfl (lv_at hl 1 rfl) ?_
                      refine lv_iload_n F.x F.b dL_changes_213 rfl (lv_at hl 0 rfl) ?_
                      refine gSH F.g C.g hl (kL_go hf h) wh_L_210 ⟨rfl, rfl, ⟨Nat.le_of_ble_eq_true rfl, Nat.le_of_ble_eq_true rfl⟩, ⟨(show _ ≤ (4 : Nat) by omega), (show _ ≤ (24 : Nat) by omega)⟩, Nat.le_of_ble_eq_true rfl⟩ (rest := []) rfl dL_changes_214 (fun r46 S45 H locs h C => ?_)
                      have C := C.c
                      refine lv_iconst (v := -1) F.x F.b dL_changes_217 (by decide) ?_
                      refine lv_icmp_lt (tgt := 225) F.x F.b dL_changes_218 (by decide) (fun g47 => ?_) (fun g47 => ?_)
                      · have h := h.1 g47
                        refine lv_iconst (v := 0) F.x F.b dL_changes_225 (by decide) ?_
                        refine W.widen (k := 4) (n := 24) (by omega) (by omega) ?_
                        exact retZ F hr C rfl h dL_changes_226
                      · have h := h.2 g47
                        refine lv_iconst (v := 1) F.x F.b dL_changes_221 (by decide) ?_
                        refine lv_goto (tgt := 226) F.x F.b dL_changes_222 (by decide) ?_
                        refine W.widen (k := 4) (n := 24) (by omega) (by omega) ?_
                        exact retZ F hr C rfl h dL_changes_226
                    · have ng7_9 := g7
                      have h := h.2.2.2.2.2.2.2.2.2.2 ⟨ng7_0, ng7_1, ng7_2, ng7_3, ng7_4, ng7_5, ng7_6, ng7_7, ng7_8, ng7_9⟩
                      refine lv_tableOut (tgt := 227) F.x F.b dL_changes_20 (sw_out r6 0 9 (by decide) (by decide) (fun z h1 h2 => ?_)) (by decide) ?_
                      · rcases (show z = 0 ∨ z = 1 ∨ z = 2 ∨ z = 3 ∨ z = 4 ∨ z = 5 ∨ z = 6 ∨ z = 7 ∨ z = 8 ∨ z = 9 by omega) with rfl | rfl | rfl | rfl | rfl | rfl | rfl | rfl | rfl | rfl
                        · exact ng7_0
                        · exact ng7_1
                        · exact ng7_2
                        · exact ng7_3
                        · exact ng7_4
                        · exact ng7_5
                        · exact ng7_6
                        · exact ng7_7
                        · exact ng7_8
                        · exact ng7_9
                      · refine lv_aload_n F.x F.b dL_changes_227 rfl (lv_at hl 1 rfl) ?_
                        refine lv_iload_n F.x F.b dL_changes_228 rfl (lv_at hl 2 rfl) ?_
                        refine lv_iconst (v := 4) F.x F.b dL_changes_229 (by decide) ?_
                        refine lv_ishr F.x F.b dL_changes_230 ?_
                        refine lv_bipush (v := 9) F.x F.b dL_changes_231 (by decide) ?_
                        refine gSI F.g C.g hl (kL_some hf h) wv_L_145 ⟨rfl, rfl, ⟨Nat.le_of_ble_eq_true rfl, Nat.le_of_ble_eq_true rfl⟩, ⟨(show _ ≤ (4 : Nat) by omega), (show _ ≤ (24 : Nat) by omega)⟩, Nat.le_of_ble_eq_true rfl⟩ (rest := [.ref (ad 110)]) rfl dL_changes_233 (fun r49 S48 H locs h C => ?_)
                        have C := C.c
                        refine gSH F.g C.g hl (kL_pass hf h) wh_L_212 ⟨rfl, rfl, ⟨Nat.le_of_ble_eq_true rfl, Nat.le_of_ble_eq_true rfl⟩, ⟨(show _ ≤ (4 : Nat) by omega), (show _ ≤ (24 : Nat) by omega)⟩, Nat.le_of_ble_eq_true rfl⟩ (rest := []) rfl dL_changes_236 (fun r51 S50 H locs h C => ?_)
                        have C := C.c
                        refine lv_if_lt (tgt := 246) F.x F.b dL_changes_239 (by decide) (fun g52 => ?_) (fun g52 => ?_)
                        · have h := h.1 g52
                          refine lv_iconst (v := 0) F.x F.b dL_changes_246 (by decide) ?_
                          refine W.widen (k := 4) (n := 24) (by omega) (by omega) ?_
                          exact retZ F hr C rfl h dL_changes_247
                        · have h := h.2 g52
                          refine lv_iconst (v := 1) F.x F.b dL_changes_242 (by decide) ?_
                          refine lv_goto (tgt := 247) F.x F.b dL_changes_243 (by decide) ?_
                          refine W.widen (k := 4) (n := 24) (by omega) (by omega) ?_
                          exact retZ F hr C rfl h dL_changes_247

def rmL_refused : Room := { frames := 59, cells := 797, slots := 4782, locals := 1970 }
def mL_refused_b449 (post : Int32 → Mem → Prop) (S : Mem) (l1 : Int64) (v3 : Int32) (vt0 : Int32) : Prop := ((vt0 = 0 → (post (0 : Int32) S)) ∧ (¬ vt0 = 0 → (mL_asks (fun (r3 : Int32) (S2 : Mem) => ((¬ r3 = (-1001 : Int32) → (post (0 : Int32) S2)) ∧ (r3 = (-1001 : Int32) → (mL_errorPosition (fun (r6 : Int32) (S5 : Mem) => ((¬ r6 = 0 → (post (0 : Int32) S5)) ∧ (r6 = 0 → (mL_asks (fun (r9 : Int32) (S8 : Mem) => ((¬ r9 = v3 → (post (0 : Int32) S8)) ∧ (r9 = v3 → (mL_answer (fun (r12 : Int32) (S11 : Mem) => ((¬ r12 = 0 → (post (0 : Int32) S11)) ∧ (r12 = 0 → (mL_told (fun (r15 : Int64) (S14 : Mem) => r15 = l1 ∧ post (1 : Int32) S14) S11)))) S8 (0 : Int32))))) S5 11)))) S2)))) S 10)))
def mL_refused_b312 (post : Int32 → Mem → Prop) (S : Mem) (l1 : Int64) (v3 : Int32) (vt0 : Int32) : Prop := ((vt0 = 0 → (mL_refused_b449 post S l1 v3 (0 : Int32))) ∧ (¬ vt0 = 0 → (mL_pass (fun (r3 : Int32) (S2 : Mem) => ((¬ r3 = (-1001 : Int32) → (mL_refused_b449 post S2 l1 v3 (0 : Int32))) ∧ (r3 = (-1001 : Int32) → (mL_pass (fun (r6 : Int32) (S5 : Mem) => ((¬ r6 = (-1001 : Int32) → (mL_refused_b449 post S5 l1 v3 (0 : Int32))) ∧ (r6 = (-1001 : Int32) → (mL_crossedIn (fun (r9 : Int32) (S8 : Mem) => ((¬ r9 = (-1001 : Int32) → (mL_refused_b449 post S8 l1 v3 (0 : Int32))) ∧ (r9 = (-1001 : Int32) → (mL_wetSteps (fun (r12 : Int32) (S11 : Mem) => ((¬ r12 = (-1001 : Int32) → (mL_refused_b449 post S11 l1 v3 (0 : Int32))) ∧ (r12 = (-1001 : Int32) → (mL_wetSteps (fun (r15 : Int32) (S14 : Mem) => ((¬ r15 = (-1001 : Int32) → (mL_refused_b449 post S14 l1 v3 (0 : Int32))) ∧ (r15 = (-1001 : Int32) → (mL_answer (fun (r18 : Int32) (S17 : Mem) => ((¬ r18 = (-1001 : Int32) → (mL_refused_b449 post S17 l1 v3 (0 : Int32))) ∧ (r18 = (-1001 : Int32) → (mL_answer (fun (r21 : Int32) (S20 : Mem) => ((¬ r21 = (-1001 : Int32) → (mL_refused_b449 post S20 l1 v3 (0 : Int32))) ∧ (r21 = (-1001 : Int32) → (mL_written (fun (r24 : Int32) (S23 : Mem) => ((¬ r24 = (-1001 : Int32) → (mL_refused_b449 post S23 l1 v3 (0 : Int32))) ∧ (r24 = (-1001 : Int32) → (mL_written (fun (r27 : Int32) (S26 : Mem) => ((¬ r27 = (-1001 : Int32) → (mL_refused_b449 post S26 l1 v3 (0 : Int32))) ∧ (r27 = (-1001 : Int32) → (mL_account (fun (r30 : Int32) (S29 : Mem) => ((¬ r30 = (-1001 : Int32) → (mL_refused_b449 post S29 l1 v3 (0 : Int32))) ∧ (r30 = (-1001 : Int32) → (mL_account (fun (r33 : Int32) (S32 : Mem) => ((¬ r33 = (-1001 : Int32) → (mL_refused_b449 post S32 l1 v3 (0 : Int32))) ∧ (r33 = (-1001 : Int32) → (mL_refused_b449 post S32 l1 v3 (1 : Int32))))) S29 (-1 : Int32))))) S26 (19 : Int32))))) S23 (13 : Int32))))) S20 (-1 : Int32))))) S17 (8 : Int32))))) S14 (-1 : Int32))))) S11 (-1 : Int32))))) S8 (3 : Int32))))) S5 v3)))) S2 (25 : Int32))))) S (0 : Int32))))
def mL_refused (post : Int32 → Mem → Prop) (S : Mem) : Prop := mL_told (fun (r2 : Int64) (S1 : Mem) => mL_account (fun (r4 : Int32) (S3 : Mem) => mL_height (fun (r6 : Int32) (S5 : Mem) => ((¬ r6 = (-1001 : Int32) → (mL_refused_b312 post S5 r2 r4 (0 : Int32))) ∧ (r6 = (-1001 : Int32) → (mL_height (fun (r9 : Int32) (S8 : Mem) => ((¬ r9 = (-1001 : Int32) → (mL_refused_b312 post S8 r2 r4 (0 : Int32))) ∧ (r9 = (-1001 : Int32) → (mL_height (fun (r12 : Int32) (S11 : Mem) => ((¬ r12 = (-1002 : Int32) → (mL_refused_b312 post S11 r2 r4 (0 : Int32))) ∧ (r12 = (-1002 : Int32) → (mL_height (fun (r15 : Int32) (S14 : Mem) => ((¬ r15 = (-1002 : Int32) → (mL_refused_b312 post S14 r2 r4 (0 : Int32))) ∧ (r15 = (-1002 : Int32) → (mL_rain (fun (r18 : Int32) (S17 : Mem) => ((¬ r18 = (-1001 : Int32) → (mL_refused_b312 post S17 r2 r4 (0 : Int32))) ∧ (r18 = (-1001 : Int32) → (mL_rain (fun (r21 : Int32) (S20 : Mem) => ((¬ r21 = (-1001 : Int32) → (mL_refused_b312 post S20 r2 r4 (0 : Int32))) ∧ (r21 = (-1001 : Int32) → (mL_letters (fun (r24 : Int32) (S23 : Mem) => ((¬ r24 = (-1001 : Int32) → (mL_refused_b312 post S23 r2 r4 (0 : Int32))) ∧ (r24 = (-1001 : Int32) → (mL_letters (fun (r27 : Int32) (S26 : Mem) => ((¬ r27 = (-1001 : Int32) → (mL_refused_b312 post S26 r2 r4 (0 : Int32))) ∧ (r27 = (-1001 : Int32) → (mL_stoneOf (fun (r30 : Int32) (S29 : Mem) => ((¬ r30 = (-1001 : Int32) → (mL_refused_b312 post S29 r2 r4 (0 : Int32))) ∧ (r30 = (-1001 : Int32) → (mL_stoneOf (fun (r33 : Int32) (S32 : Mem) => ((¬ r33 = (-1002 : Int32) → (mL_refused_b312 post S32 r2 r4 (0 : Int32))) ∧ (r33 = (-1002 : Int32) → (mL_stoneOf (fun (r36 : Int32) (S35 : Mem) => ((¬ r36 = (-1002 : Int32) → (mL_refused_b312 post S35 r2 r4 (0 : Int32))) ∧ (r36 = (-1002 : Int32) → (mL_flood (fun (r39 : Int32) (S38 : Mem) => ((¬ r39 = (-1001 : Int32) → (mL_refused_b312 post S38 r2 r4 (0 : Int32))) ∧ (r39 = (-1001 : Int32) → (mL_flood (fun (r42 : Int32) (S41 : Mem) => ((¬ r42 = (-1001 : Int32) → (mL_refused_b312 post S41 r2 r4 (0 : Int32))) ∧ (r42 = (-1001 : Int32) → (mL_floodAgain (fun (r45 : Int32) (S44 : Mem) => ((¬ r45 = (-1001 : Int32) → (mL_refused_b312 post S44 r2 r4 (0 : Int32))) ∧ (r45 = (-1001 : Int32) → (mL_floodAgain (fun (r48 : Int32) (S47 : Mem) => ((¬ r48 = (-1001 : Int32) → (mL_refused_b312 post S47 r2 r4 (0 : Int32))) ∧ (r48 = (-1001 : Int32) → (mL_traveller (fun (r51 : Int32) (S50 : Mem) => ((¬ r51 = (-1001 : Int32) → (mL_refused_b312 post S50 r2 r4 (0 : Int32))) ∧ (r51 = (-1001 : Int32) → (mL_traveller (fun (r54 : Int32) (S53 : Mem) => ((¬ r54 = (-1001 : Int32) → (mL_refused_b312 post S53 r2 r4 (0 : Int32))) ∧ (r54 = (-1001 : Int32) → (mL_travellerOf (fun (r57 : Int32) (S56 : Mem) => ((¬ r57 = (-1001 : Int32) → (mL_refused_b312 post S56 r2 r4 (0 : Int32))) ∧ (r57 = (-1001 : Int32) → (mL_travellerOf (fun (r60 : Int32) (S59 : Mem) => ((¬ r60 = (-1002 : Int32) → (mL_refused_b312 post S59 r2 r4 (0 : Int32))) ∧ (r60 = (-1002 : Int32) → (mL_travellerOf (fun (r63 : Int32) (S62 : Mem) => ((¬ r63 = (-1002 : Int32) → (mL_refused_b312 post S62 r2 r4 (0 : Int32))) ∧ (r63 = (-1002 : Int32) → (mL_fee (fun (r66 : Int32) (S65 : Mem) => ((¬ r66 = (-1001 : Int32) → (mL_refused_b312 post S65 r2 r4 (0 : Int32))) ∧ (r66 = (-1001 : Int32) → (mL_setOut (fun (r69 : Int32) (S68 : Mem) => ((¬ r69 = (-1001 : Int32) → (mL_refused_b312 post S68 r2 r4 (0 : Int32))) ∧ (r69 = (-1001 : Int32) → (mL_stop (fun (r72 : Int32) (S71 : Mem) => ((¬ r72 = (-1001 : Int32) → (mL_refused_b312 post S71 r2 r4 (0 : Int32))) ∧ (r72 = (-1001 : Int32) → (mL_go (fun (r75 : Int32) (S74 : Mem) => ((¬ r75 = (-1001 : Int32) → (mL_refused_b312 post S74 r2 r4 (0 : Int32))) ∧ (r75 = (-1001 : Int32) → (mL_leave (fun (r78 : Int32) (S77 : Mem) => ((¬ r78 = (-1001 : Int32) → (mL_refused_b312 post S77 r2 r4 (0 : Int32))) ∧ (r78 = (-1001 : Int32) → (mL_refused_b312 post S77 r2 r4 (1 : Int32))))) S74 r4)))) S71 (-1 : Int32))))) S68 r4)))) S65 r4)))) S62 r4)))) S59 (0 : Int32) (-1 : Int32))))) S56 (0 : Int32) (9 : Int32))))) S53 r4 (99 : Int32))))) S50 (21 : Int32))))) S47 (-1 : Int32))))) S44 (-1 : Int32))))) S41 (61 : Int32))))) S38 (61 : Int32))))) S35 (-1 : Int32))))) S32 (0 : Int32) (-1 : Int32))))) S29 (0 : Int32) (3 : Int32))))) S26 (10 : Int32) (9 : Int32))))) S23 (51 : Int32))))) S20 (0 : Int32))))) S17 (10 : Int32))))) S14 (-1 : Int32))))) S11 (0 : Int32) (31 : Int32))))) S8 (0 : Int32) (0 : Int32))))) S5 (-1 : Int32) (5 : Int32))))) S3 (10 : Int32) (0 : Int32)) S1 (3 : Int32)) S
set_option maxRecDepth 100000 in
set_option maxHeartbeats 4000000 in
theorem bL_refused_449 {p : Program} {l : Launch} {e : Env} {s : State} {m : MethodId} {args : Array Value} {below : List Frame} {meth : Method} {c : Code} {D : va_G} {ky : Nat → ClassId} {ad : Nat → Nat} {ex : Nat → Nat → Nat} (F : Fx p s m args meth c D ky ad ex cL_refused 5 yL_refused.cls) (hr : meth.sig.returnType = (some .boolean)) (hf : l.stackTraces = false) {post : Int32 → Mem → Prop} : ∀ (cells slots : Nat) (S : Mem) (l1 : Int64) (v3 : Int32) (vt0 : Int32) (H : Heap) (locs : List Loc) (ls : Array Slot), cells + (383) ≤ 797 → slots + (2298) ≤ 4782 → mL_refused_b449 post S l1 v3 vt0 → Cx D ky ad s S H locs → lv_has ls 5 [(0, .ref (ad 110)), (1, .long l1), (3, .int v3)] → W p l e rmL_refused s m args below meth c H locs cells slots (MQ below (va_Qi post (AFT D ky ad) (AW ad s.heap.size)) args s 797 4782 (AW ad s.heap.size)) (F0 m 449 ls [.int vt0]) := by
  intro cells slots S l1 v3 vt0 H locs ls  hc hs h C hl
  unfold mL_refused_b449 at h
  refine lv_istore (lv' := [(4, .int vt0), (0, .ref (ad 110)), (1, .long l1), (3, .int v3)]) F.x F.b dL_refused_449 hl (by decide) rfl (fun ls hl => ?_)
  refine lv_iload F.x F.b dL_refused_451 (lv_at hl 0 rfl) ?_
  refine lv_if_eq (tgt := 506) F.x F.b dL_refused_453 (by decide) (fun g1 => ?_) (fun g1 => ?_)
  · have h := h.1 g1
    refine lv_iconst (v := 0) F.x F.b dL_refused_506 (by decide) ?_
    refine W.widen (k := 797) (n := 4782) (by omega) (by omega) ?_
    exact retZ F hr C rfl h dL_refused_507
  · have h := h.2 g1
    refine lv_aload_n F.x F.b dL_refused_456 rfl (lv_at hl 1 rfl) ?_
    refine ldS F 0 (by decide) rfl dL_refused_457 ?_
    refine gSI F.g C.g hl (kL_asks hf (by decide) h) wv_L_222 ⟨rfl, rfl, ⟨Nat.le_of_ble_eq_true rfl, Nat.le_of_ble_eq_true rfl⟩, ⟨(show _ ≤ (797 : Nat) by omega), (show _ ≤ (4782 : Nat) by omega)⟩, Nat.le_of_ble_eq_true rfl⟩ (rest := []) rfl dL_refused_459 (fun r3 S2 H locs h C => ?_)
    have C := C.c
    refine lv_sipush (v := -1001) F.x F.b dL_refused_462 (by decide) ?_
    refine lv_icmp_ne (tgt := 506) F.x F.b dL_refused_465 (by decide) (fun g4 => ?_) (fun g4 => ?_)
    · have h := h.1 g4
      refine lv_iconst (v := 0) F.x F.b dL_refused_506 (by decide) ?_
      refine W.widen (k := 797) (n := 4782) (by omega) (by omega) ?_
      exact retZ F hr C rfl h dL_refused_507
    · have h := h.2 g4
      refine lv_aload_n F.x F.b dL_refused_468 rfl (lv_at hl 1 rfl) ?_
      refine gSH F.g C.g hl (kL_errorPosition hf h) wh_L_226 ⟨rfl, rfl, ⟨Nat.le_of_ble_eq_true rfl, Nat.le_of_ble_eq_true rfl⟩, ⟨(show _ ≤ (797 : Nat) by omega), (show _ ≤ (4782 : Nat) by omega)⟩, Nat.le_of_ble_eq_true rfl⟩ (rest := []) rfl dL_refused_469 (fun r6 S5 H locs h C => ?_)
      have C := C.c
      refine lv_if_ne (tgt := 506) F.x F.b dL_refused_472 (by decide) (fun g7 => ?_) (fun g7 => ?_)
      · have h := h.1 g7
        refine lv_iconst (v := 0) F.x F.b dL_refused_506 (by decide) ?_
        refine W.widen (k := 797) (n := 4782) (by omega) (by omega) ?_
        exact retZ F hr C rfl h dL_refused_507
      · have h := h.2 g7
        refine lv_aload_n F.x F.b dL_refused_475 rfl (lv_at hl 1 rfl) ?_
        refine ldS F 1 (by decide) rfl dL_refused_476 ?_
        refine gSI F.g C.g hl (kL_asks hf (by decide) h) wv_L_222 ⟨rfl, rfl, ⟨Nat.le_of_ble_eq_true rfl, Nat.le_of_ble_eq_true rfl⟩, ⟨(show _ ≤ (797 : Nat) by omega), (show _ ≤ (4782 : Nat) by omega)⟩, Nat.le_of_ble_eq_true rfl⟩ (rest := []) rfl dL_refused_478 (fun r9 S8 H locs h C => ?_)
        have C := C.c
        refine lv_iload_n F.x F.b dL_refused_481 rfl (lv_at hl 3 rfl) ?_
        refine lv_icmp_ne (tgt := 506) F.x F.b dL_refused_482 (by decide) (fun g10 => ?_) (fun g10 => ?_)
        · have h := h.1 g10
          refine lv_iconst (v := 0) F.x F.b dL_refused_506 (by decide) ?_
          refine W.widen (k := 797) (n := 4782) (by omega) (by omega) ?_
          exact retZ F hr C rfl h dL_refused_507
        · have h := h.2 g10
          refine lv_aload_n F.x F.b dL_refused_485 rfl (lv_at hl 1 rfl) ?_
          refine lv_iconst (v := 0) F.x F.b dL_refused_486 (by decide) ?_
          refine gSH F.g C.g hl (kL_answer hf h) wh_L_218 ⟨rfl, rfl, ⟨Nat.le_of_ble_eq_true rfl, Nat.le_of_ble_eq_true rfl⟩, ⟨(show _ ≤ (797 : Nat) by omega), (show _ ≤ (4782 : Nat) by omega)⟩, Nat.le_of_ble_eq_true rfl⟩ (rest := []) rfl dL_refused_487 (fun r12 S11 H locs h C => ?_)
          have C := C.c
          refine lv_if_ne (tgt := 506) F.x F.b dL_refused_490 (by decide) (fun g13 => ?_) (fun g13 => ?_)
          · have h := h.1 g13
            refine lv_iconst (v := 0) F.x F.b dL_refused_506 (by decide) ?_
            refine W.widen (k := 797) (n := 4782) (by omega) (by omega) ?_
            exact retZ F hr C rfl h dL_refused_507
          · have h := h.2 g13
            refine lv_aload_n F.x F.b dL_refused_493 rfl (lv_at hl 1 rfl) ?_
            refine gSL F.g C.g hl (kL_told hf h) wv_L_214 ⟨rfl, rfl, ⟨Nat.le_of_ble_eq_true rfl, Nat.le_of_ble_eq_true rfl⟩, ⟨(show _ ≤ (797 : Nat) by omega), (show _ ≤ (4782 : Nat) by omega)⟩, Nat.le_of_ble_eq_true rfl⟩ (rest := []) rfl dL_refused_494 (fun r15 S14 H locs h C => ?_)
            have C := C.c
            refine lv_lload_n F.x F.b dL_refused_497 rfl (lv_at hl 2 rfl) ?_
            obtain ⟨g16, h⟩ := h
            refine lv_lcmpE F.x F.b dL_refused_498 g16 ?_
            refine lv_if_ne (tgt := 506) F.x F.b dL_refused_499 (by decide) (fun g => absurd rfl g) (fun _ => ?_)
            refine lv_iconst (v := 1) F.x F.b dL_refused_502 (by decide) ?_
            refine lv_goto (tgt := 507) F.x F.b dL_refused_503 (by decide) ?_
            refine W.widen (k := 797) (n := 4782) (by omega) (by omega) ?_
            exact retZ F hr C rfl h dL_refused_507
set_option maxRecDepth 100000 in
set_option maxHeartbeats 4000000 in
theorem bL_refused_312 {p : Program} {l : Launch} {e : Env} {s : State} {m : MethodId} {args : Array Value} {below : List Frame} {meth : Method} {c : Code} {D : va_G} {ky : Nat → ClassId} {ad : Nat → Nat} {ex : Nat → Nat → Nat} (F : Fx p s m args meth c D ky ad ex cL_refused 5 yL_refused.cls) (hr : meth.sig.returnType = (some .boolean)) (hf : l.stackTraces = false) {post : Int32 → Mem → Prop} : ∀ (cells slots : Nat) (S : Mem) (l1 : Int64) (v3 : Int32) (vt0 : Int32) (H : Heap) (locs : List Loc) (ls : Array Slot), cells + (397) ≤ 797 → slots + (2382) ≤ 4782 → mL_refused_b312 post S l1 v3 vt0 → Cx D ky ad s S H locs → lv_has ls 5 [(0, .ref (ad 110)), (1, .long l1), (3, .int v3)] → W p l e rmL_refused s m args below meth c H locs cells slots (MQ below (va_Qi post (AFT D ky ad) (AW ad s.heap.size)) args s 797 4782 (AW ad s.heap.size)) (F0 m 312 ls [.int vt0]) := by
  intro cells slots S l1 v3 vt0 H locs ls  hc hs h C hl
  unfold mL_refused_b312 at h
  refine lv_istore (lv' := [(4, .int vt0), (0, .ref (ad 110)), (1, .long l1), (3, .int v3)]) F.x F.b dL_refused_312 hl (by decide) rfl (fun ls hl => ?_)
  refine lv_iload F.x F.b dL_refused_314 (lv_at hl 0 rfl) ?_
  refine lv_if_eq (tgt := 448) F.x F.b dL_refused_316 (by decide) (fun g1 => ?_) (fun g1 => ?_)
  · have h := h.1 g1
    refine lv_iconst (v := 0) F.x F.b dL_refused_448 (by decide) ?_
    exact bL_refused_449 F hr hf _ _ S l1 v3 (0 : Int32) _ _ _ (by omega) (by omega) h C (lv_sub hl [1, 2, 3] rfl)
  · have h := h.2 g1
    refine lv_aload_n F.x F.b dL_refused_319 rfl (lv_at hl 1 rfl) ?_
    refine lv_iconst (v := 0) F.x F.b dL_refused_320 (by decide) ?_
    refine gSH F.g C.g hl (kL_pass hf h) wh_L_212 ⟨rfl, rfl, ⟨Nat.le_of_ble_eq_true rfl, Nat.le_of_ble_eq_true rfl⟩, ⟨(show _ ≤ (797 : Nat) by omega), (show _ ≤ (4782 : Nat) by omega)⟩, Nat.le_of_ble_eq_true rfl⟩ (rest := []) rfl dL_refused_321 (fun r3 S2 H locs h C => ?_)
    have C := C.c
    refine lv_sipush (v := -1001) F.x F.b dL_refused_324 (by decide) ?_
    refine lv_icmp_ne (tgt := 448) F.x F.b dL_refused_327 (by decide) (fun g4 => ?_) (fun g4 => ?_)
    · have h := h.1 g4
      refine lv_iconst (v := 0) F.x F.b dL_refused_448 (by decide) ?_
      exact bL_refused_449 F hr hf _ _ S2 l1 v3 (0 : Int32) _ _ _ (by omega) (by omega) h C (lv_sub hl [1, 2, 3] rfl)
    · have h := h.2 g4
      refine lv_aload_n F.x F.b dL_refused_330 rfl (lv_at hl 1 rfl) ?_
      refine lv_bipush (v := 25) F.x F.b dL_refused_331 (by decide) ?_
      refine gSH F.g C.g hl (kL_pass hf h) wh_L_212 ⟨rfl, rfl, ⟨Nat.le_of_ble_eq_true rfl, Nat.le_of_ble_eq_true rfl⟩, ⟨(show _ ≤ (797 : Nat) by omega), (show _ ≤ (4782 : Nat) by omega)⟩, Nat.le_of_ble_eq_true rfl⟩ (rest := []) rfl dL_refused_333 (fun r6 S5 H locs h C => ?_)
      have C := C.c
      refine lv_sipush (v := -1001) F.x F.b dL_refused_336 (by decide) ?_
      refine lv_icmp_ne (tgt := 448) F.x F.b dL_refused_339 (by decide) (fun g7 => ?_) (fun g7 => ?_)
      · have h := h.1 g7
        refine lv_iconst (v := 0) F.x F.b dL_refused_448 (by decide) ?_
        exact bL_refused_449 F hr hf _ _ S5 l1 v3 (0 : Int32) _ _ _ (by omega) (by omega) h C (lv_sub hl [1, 2, 3] rfl)
      · have h := h.2 g7
        refine lv_aload_n F.x F.b dL_refused_342 rfl (lv_at hl 1 rfl) ?_
        refine lv_iload_n F.x F.b dL_refused_343 rfl (lv_at hl 3 rfl) ?_
        refine gSH F.g C.g hl (kL_crossedIn hf h) wh_L_185 ⟨rfl, rfl, ⟨Nat.le_of_ble_eq_true rfl, Nat.le_of_ble_eq_true rfl⟩, ⟨(show _ ≤ (797 : Nat) by omega), (show _ ≤ (4782 : Nat) by omega)⟩, Nat.le_of_ble_eq_true rfl⟩ (rest := []) rfl dL_refused_344 (fun r9 S8 H locs h C => ?_)
        have C := C.c
        refine lv_sipush (v := -1001) F.x F.b dL_refused_347 (by decide) ?_
        refine lv_icmp_ne (tgt := 448) F.x F.b dL_refused_350 (by decide) (fun g10 => ?_) (fun g10 => ?_)
        · have h := h.1 g10
          refine lv_iconst (v := 0) F.x F.b dL_refused_448 (by decide) ?_
          exact bL_refused_449 F hr hf _ _ S8 l1 v3 (0 : Int32) _ _ _ (by omega) (by omega) h C (lv_sub hl [1, 2, 3] rfl)
        · have h := h.2 g10
          refine lv_aload_n F.x F.b dL_refused_353 rfl (lv_at hl 1 rfl) ?_
          refine lv_iconst (v := 3) F.x F.b dL_refused_354 (by decide) ?_
          refine gSH F.g C.g hl (kL_wetSteps hf h) wh_L_187 ⟨rfl, rfl, ⟨Nat.le_of_ble_eq_true rfl, Nat.le_of_ble_eq_true rfl⟩, ⟨(show _ ≤ (797 : Nat) by omega), (show _ ≤ (4782 : Nat) by omega)⟩, Nat.le_of_ble_eq_true rfl⟩ (rest := []) rfl dL_refused_355 (fun r12 S11 H locs h C => ?_)
          have C := C.c
          refine lv_sipush (v := -1001) F.x F.b dL_refused_358 (by decide) ?_
          refine lv_icmp_ne (tgt := 448) F.x F.b dL_refused_361 (by decide) (fun g13 => ?_) (fun g13 => ?_)
          · have h := h.1 g13
            refine lv_iconst (v := 0) F.x F.b dL_refused_448 (by decide) ?_
            exact bL_refused_449 F hr hf _ _ S11 l1 v3 (0 : Int32) _ _ _ (by omega) (by omega) h C (lv_sub hl [1, 2, 3] rfl)
          · have h := h.2 g13
            refine lv_aload_n F.x F.b dL_refused_364 rfl (lv_at hl 1 rfl) ?_
            refine lv_iconst (v := -1) F.x F.b dL_refused_365 (by decide) ?_
            refine gSH F.g C.g hl (kL_wetSteps hf h) wh_L_187 ⟨rfl, rfl, ⟨Nat.le_of_ble_eq_true rfl, Nat.le_of_ble_eq_true rfl⟩, ⟨(show _ ≤ (797 : Nat) by omega), (show _ ≤ (4782 : Nat) by omega)⟩, Nat.le_of_ble_eq_true rfl⟩ (rest := []) rfl dL_refused_366 (fun r15 S14 H locs h C => ?_)
            have C := C.c
            refine lv_sipush (v := -1001) F.x F.b dL_refused_369 (by decide) ?_
            refine lv_icmp_ne (tgt := 448) F.x F.b dL_refused_372 (by decide) (fun g16 => ?_) (fun g16 => ?_)
            · have h := h.1 g16
              refine lv_iconst (v := 0) F.x F.b dL_refused_448 (by decide) ?_
              exact bL_refused_449 F hr hf _ _ S14 l1 v3 (0 : Int32) _ _ _ (by omega) (by omega) h C (lv_sub hl [1, 2, 3] rfl)
            · have h := h.2 g16
              refine lv_aload_n F.x F.b dL_refused_375 rfl (lv_at hl 1 rfl) ?_
              refine lv_iconst (v := -1) F.x F.b dL_refused_376 (by decide) ?_
              refine gSH F.g C.g hl (kL_answer hf h) wh_L_218 ⟨rfl, rfl, ⟨Nat.le_of_ble_eq_true rfl, Nat.le_of_ble_eq_true rfl⟩, ⟨(show _ ≤ (797 : Nat) by omega), (show _ ≤ (4782 : Nat) by omega)⟩, Nat.le_of_ble_eq_true rfl⟩ (rest := []) rfl dL_refused_377 (fun r18 S17 H locs h C => ?_)
              have C := C.c
              refine lv_sipush (v := -1001) F.x F.b dL_refused_380 (by decide) ?_
              refine lv_icmp_ne (tgt := 448) F.x F.b dL_refused_383 (by decide) (fun g19 => ?_) (fun g19 => ?_)
              · have h := h.1 g19
                refine lv_iconst (v := 0) F.x F.b dL_refused_448 (by decide) ?_
                exact bL_refused_449 F hr hf _ _ S17 l1 v3 (0 : Int32) _ _ _ (by omega) (by omega) h C (lv_sub hl [1, 2, 3] rfl)
              · have h := h.2 g19
                refine lv_aload_n F.x F.b dL_refused_386 rfl (lv_at hl 1 rfl) ?_
                refine lv_bipush (v := 8) F.x F.b dL_refused_387 (by decide) ?_
                refine gSH F.g C.g hl (kL_answer hf h) wh_L_218 ⟨rfl, rfl, ⟨Nat.le_of_ble_eq_true rfl, Nat.le_of_ble_eq_true rfl⟩, ⟨(show _ ≤ (797 : Nat) by omega), (show _ ≤ (4782 : Nat) by omega)⟩, Nat.le_of_ble_eq_true rfl⟩ (rest := []) rfl dL_refused_389 (fun r21 S20 H locs h C => ?_)
                have C := C.c
                refine lv_sipush (v := -1001) F.x F.b dL_refused_392 (by decide) ?_
                refine lv_icmp_ne (tgt := 448) F.x F.b dL_refused_395 (by decide) (fun g22 => ?_) (fun g22 => ?_)
                · have h := h.1 g22
                  refine lv_iconst (v := 0) F.x F.b dL_refused_448 (by decide) ?_
                  exact bL_refused_449 F hr hf _ _ S20 l1 v3 (0 : Int32) _ _ _ (by omega) (by omega) h C (lv_sub hl [1, 2, 3] rfl)
                · have h := h.2 g22
                  refine lv_aload_n F.x F.b dL_refused_398 rfl (lv_at hl 1 rfl) ?_
                  refine lv_iconst (v := -1) F.x F.b dL_refused_399 (by decide) ?_
                  refine gSH F.g C.g hl (kL_written hf h) wh_L_138 ⟨rfl, rfl, ⟨Nat.le_of_ble_eq_true rfl, Nat.le_of_ble_eq_true rfl⟩, ⟨(show _ ≤ (797 : Nat) by omega), (show _ ≤ (4782 : Nat) by omega)⟩, Nat.le_of_ble_eq_true rfl⟩ (rest := []) rfl dL_refused_400 (fun r24 S23 H locs h C => ?_)
                  have C := C.c
                  refine lv_sipush (v := -1001) F.x F.b dL_refused_403 (by decide) ?_
                  refine lv_icmp_ne (tgt := 448) F.x F.b dL_refused_406 (by decide) (fun g25 => ?_) (fun g25 => ?_)
                  · have h := h.1 g25
                    refine lv_iconst (v := 0) F.x F.b dL_refused_448 (by decide) ?_
                    exact bL_refused_449 F hr hf _ _ S23 l1 v3 (0 : Int32) _ _ _ (by omega) (by omega) h C (lv_sub hl [1, 2, 3] rfl)
                  · have h := h.2 g25
                    refine lv_aload_n F.x F.b dL_refused_409 rfl (lv_at hl 1 rfl) ?_
                    refine lv_bipush (v := 13) F.x F.b dL_refused_410 (by decide) ?_
                    refine gSH F.g C.g hl (kL_written hf h) wh_L_138 ⟨rfl, rfl, ⟨Nat.le_of_ble_eq_true rfl, Nat.le_of_ble_eq_true rfl⟩, ⟨(show _ ≤ (797 : Nat) by omega), (show _ ≤ (4782 : Nat) by omega)⟩, Nat.le_of_ble_eq_true rfl⟩ (rest := []) rfl dL_refused_412 (fun r27 S26 H locs h C => ?_)
                    have C := C.c
                    refine lv_sipush (v := -1001) F.x F.b dL_refused_415 (by decide) ?_
                    refine lv_icmp_ne (tgt := 448) F.x F.b dL_refused_418 (by decide) (fun g28 => ?_) (fun g28 => ?_)
                    · have h := h.1 g28
                      refine lv_iconst (v := 0) F.x F.b dL_refused_448 (by decide) ?_
                      exact bL_refused_449 F hr hf _ _ S26 l1 v3 (0 : Int32) _ _ _ (by omega) (by omega) h C (lv_sub hl [1, 2, 3] rfl)
                    · have h := h.2 g28
                      refine lv_aload_n F.x F.b dL_refused_421 rfl (lv_at hl 1 rfl) ?_
                      refine lv_bipush (v := 19) F.x F.b dL_refused_422 (by decide) ?_
                      refine gSH F.g C.g hl (kL_account hf h) wh_L_177 ⟨rfl, rfl, ⟨Nat.le_of_ble_eq_true rfl, Nat.le_of_ble_eq_true rfl⟩, ⟨(show _ ≤ (797 : Nat) by omega), (show _ ≤ (4782 : Nat) by omega)⟩, Nat.le_of_ble_eq_true rfl⟩ (rest := []) rfl dL_refused_424 (fun r30 S29 H locs h C => ?_)
                      have C := C.c
                      refine lv_sipush (v := -1001) F.x F.b dL_refused_427 (by decide) ?_
                      refine lv_icmp_ne (tgt := 448) F.x F.b dL_refused_430 (by decide) (fun g31 => ?_) (fun g31 => ?_)
                      · have h := h.1 g31
                        refine lv_iconst (v := 0) F.x F.b dL_refused_448 (by decide) ?_
                        exact bL_refused_449 F hr hf _ _ S29 l1 v3 (0 : Int32) _ _ _ (by omega) (by omega) h C (lv_sub hl [1, 2, 3] rfl)
                      · have h := h.2 g31
                        refine lv_aload_n F.x F.b dL_refused_433 rfl (lv_at hl 1 rfl) ?_
                        refine lv_iconst (v := -1) F.x F.b dL_refused_434 (by decide) ?_
                        refine gSH F.g C.g hl (kL_account hf h) wh_L_177 ⟨rfl, rfl, ⟨Nat.le_of_ble_eq_true rfl, Nat.le_of_ble_eq_true rfl⟩, ⟨(show _ ≤ (797 : Nat) by omega), (show _ ≤ (4782 : Nat) by omega)⟩, Nat.le_of_ble_eq_true rfl⟩ (rest := []) rfl dL_refused_435 (fun r33 S32 H locs h C => ?_)
                        have C := C.c
                        refine lv_sipush (v := -1001) F.x F.b dL_refused_438 (by decide) ?_
                        refine lv_icmp_ne (tgt := 448) F.x F.b dL_refused_441 (by decide) (fun g34 => ?_) (fun g34 => ?_)
                        · have h := h.1 g34
                          refine lv_iconst (v := 0) F.x F.b dL_refused_448 (by decide) ?_
                          exact bL_refused_449 F hr hf _ _ S32 l1 v3 (0 : Int32) _ _ _ (by omega) (by omega) h C (lv_sub hl [1, 2, 3] rfl)
                        · have h := h.2 g34
                          refine lv_iconst (v := 1) F.x F.b dL_refused_444 (by decide) ?_
                          refine lv_goto (tgt := 449) F.x F.b dL_refused_445 (by decide) ?_
                          exact bL_refused_449 F hr hf _ _ S32 l1 v3 (1 : Int32) _ _ _ (by omega) (by omega) h C (lv_sub hl [1, 2, 3] rfl)
set_option maxRecDepth 100000 in
set_option maxHeartbeats 4000000 in
theorem kL_refused {l : Launch} {D : va_G} {ky : Nat → ClassId} {ad : Nat → Nat} {ex : Nat → Nat → Nat} {post : Int32 → Mem → Prop} {S : Mem} (hf : l.stackTraces = false) (h : mL_refused post S) : CMi l D ky ad ex yL_refused cL_refused 5 (some .boolean) rmL_refused 797 4782 [.ref (ad 110)] S post := by
  refine CMi.of (by decide) (Nat.le_of_ble_eq_true rfl) (fun p e s m args below meth c ls F hr C hl => ?_)
  have hl : lv_has ls 5 [(0, .ref (ad 110))] := hl
  unfold mL_refused at h
  refine lv_aload_n F.x F.b dL_refused_0 rfl (lv_at hl 0 rfl) ?_
  refine gSL F.g C.g hl (kL_told hf h) wv_L_214 ⟨rfl, rfl, ⟨Nat.le_of_ble_eq_true rfl, Nat.le_of_ble_eq_true rfl⟩, ⟨(show _ ≤ (797 : Nat) by omega), (show _ ≤ (4782 : Nat) by omega)⟩, Nat.le_of_ble_eq_true rfl⟩ (rest := []) rfl dL_refused_1 (fun r2 S1 H locs h C => ?_)
  have C := C.c
  refine lv_lstore_n (lv' := [(1, .long r2), (0, .ref (ad 110))]) F.x F.b dL_refused_4 rfl hl (by decide) rfl (fun ls hl => ?_)
  refine lv_aload_n F.x F.b dL_refused_5 rfl (lv_at hl 1 rfl) ?_
  refine lv_iconst (v := 3) F.x F.b dL_refused_6 (by decide) ?_
  refine gSH F.g C.g hl (kL_account hf h) wh_L_177 ⟨rfl, rfl, ⟨Nat.le_of_ble_eq_true rfl, Nat.le_of_ble_eq_true rfl⟩, ⟨(show _ ≤ (797 : Nat) by omega), (show _ ≤ (4782 : Nat) by omega)⟩, Nat.le_of_ble_eq_true rfl⟩ (rest := []) rfl dL_refused_7 (fun r4 S3 H locs h C => ?_)
  have C := C.c
  refine lv_istore_n (lv' := [(3, .int r4), (1, .long r2), (0, .ref (ad 110))]) F.x F.b dL_refused_10 rfl hl (by decide) rfl (fun ls hl => ?_)
  refine lv_aload_n F.x F.b dL_refused_11 rfl (lv_at hl 2 rfl) ?_
  refine lv_bipush (v := 10) F.x F.b dL_refused_12 (by decide) ?_
  refine lv_iconst (v := 0) F.x F.b dL_refused_14 (by decide) ?_
  refine gSH F.g C.g hl (kL_height hf h) wh_L_148 ⟨rfl, rfl, ⟨Nat.le_of_ble_eq_true rfl, Nat.le_of_ble_eq_true rfl⟩, ⟨(show _ ≤ (797 : Nat) by omega), (show _ ≤ (4782 : Nat) by omega)⟩, Nat.le_of_ble_eq_true rfl⟩ (rest := []) rfl dL_refused_15 (fun r6 S5 H locs h C => ?_)
  have C := C.c
  refine lv_sipush (v := -1001) F.x F.b dL_refused_18 (by decide) ?_
  refine lv_icmp_ne (tgt := 311) F.x F.b dL_refused_21 (by decide) (fun g7 => ?_) (fun g7 => ?_)
  · have h := h.1 g7
    refine lv_iconst (v := 0) F.x F.b dL_refused_311 (by decide) ?_
    exact bL_refused_312 F hr hf _ _ S5 r2 r4 (0 : Int32) _ _ _ (by omega) (by omega) h C (lv_sub hl [2, 1, 0] rfl)
  · have h := h.2 g7
    refine lv_aload_n F.x F.b dL_refused_24 rfl (lv_at hl 2 rfl) ?_
    refine lv_iconst (v := -1) F.x F.b dL_refused_25 (by decide) ?_
    refine lv_iconst (v := 5) F.x F.b dL_refused_26 (by decide) ?_
    refine gSH F.g C.g hl (kL_height hf h) wh_L_148 ⟨rfl, rfl, ⟨Nat.le_of_ble_eq_true rfl, Nat.le_of_ble_eq_true rfl⟩, ⟨(show _ ≤ (797 : Nat) by omega), (show _ ≤ (4782 : Nat) by omega)⟩, Nat.le_of_ble_eq_true rfl⟩ (rest := []) rfl dL_refused_27 (fun r9 S8 H locs h C => ?_)
    have C := C.c
    refine lv_sipush (v := -1001) F.x F.b dL_refused_30 (by decide) ?_
    refine lv_icmp_ne (tgt := 311) F.x F.b dL_refused_33 (by decide) (fun g10 => ?_) (fun g10 => ?_)
    · have h := h.1 g10
      refine lv_iconst (v := 0) F.x F.b dL_refused_311 (by decide) ?_
      exact bL_refused_312 F hr hf _ _ S8 r2 r4 (0 : Int32) _ _ _ (by omega) (by omega) h C (lv_sub hl [2, 1, 0] rfl)
    · have h := h.2 g10
      refine lv_aload_n F.x F.b dL_refused_36 rfl (lv_at hl 2 rfl) ?_
      refine lv_iconst (v := 0) F.x F.b dL_refused_37 (by decide) ?_
      refine lv_iconst (v := 0) F.x F.b dL_refused_38 (by decide) ?_
      refine gSH F.g C.g hl (kL_height hf h) wh_L_148 ⟨rfl, rfl, ⟨Nat.le_of_ble_eq_true rfl, Nat.le_of_ble_eq_true rfl⟩, ⟨(show _ ≤ (797 : Nat) by omega), (show _ ≤ (4782 : Nat) by omega)⟩, Nat.le_of_ble_eq_true rfl⟩ (rest := []) rfl dL_refused_39 (fun r12 S11 H locs h C => ?_)
      have C := C.c
      refine lv_sipush (v := -1002) F.x F.b dL_refused_42 (by decide) ?_
      refine lv_icmp_ne (tgt := 311) F.x F.b dL_refused_45 (by decide) (fun g13 => ?_) (fun g13 => ?_)
      · have h := h.1 g13
        refine lv_iconst (v := 0) F.x F.b dL_refused_311 (by decide) ?_
        exact bL_refused_312 F hr hf _ _ S11 r2 r4 (0 : Int32) _ _ _ (by omega) (by omega) h C (lv_sub hl [2, 1, 0] rfl)
      · have h := h.2 g13
        refine lv_aload_n F.x F.b dL_refused_48 rfl (lv_at hl 2 rfl) ?_
        refine lv_iconst (v := 0) F.x F.b dL_refused_49 (by decide) ?_
        refine lv_bipush (v := 31) F.x F.b dL_refused_50 (by decide) ?_
        refine gSH F.g C.g hl (kL_height hf h) wh_L_148 ⟨rfl, rfl, ⟨Nat.le_of_ble_eq_true rfl, Nat.le_of_ble_eq_true rfl⟩, ⟨(show _ ≤ (797 : Nat) by omega), (show _ ≤ (4782 : Nat) by omega)⟩, Nat.le_of_ble_eq_true rfl⟩ (rest := []) rfl dL_refused_52 (fun r15 S14 H locs h C => ?_)
        have C := C.c
        refine lv_sipush (v := -1002) F.x F.b dL_refused_55 (by decide) ?_
        refine lv_icmp_ne (tgt := 311) F.x F.b dL_refused_58 (by decide) (fun g16 => ?_) (fun g16 => ?_)
        · have h := h.1 g16
          refine lv_iconst (v := 0) F.x F.b dL_refused_311 (by decide) ?_
          exact bL_refused_312 F hr hf _ _ S14 r2 r4 (0 : Int32) _ _ _ (by omega) (by omega) h C (lv_sub hl [2, 1, 0] rfl)
        · have h := h.2 g16
          refine lv_aload_n F.x F.b dL_refused_61 rfl (lv_at hl 2 rfl) ?_
          refine lv_iconst (v := -1) F.x F.b dL_refused_62 (by decide) ?_
          refine gSH F.g C.g hl (kL_rain hf h) wh_L_155 ⟨rfl, rfl, ⟨Nat.le_of_ble_eq_true rfl, Nat.le_of_ble_eq_true rfl⟩, ⟨(show _ ≤ (797 : Nat) by omega), (show _ ≤ (4782 : Nat) by omega)⟩, Nat.le_of_ble_eq_true rfl⟩ (rest := []) rfl dL_refused_63 (fun r18 S17 H locs h C => ?_)
          have C := C.c
          refine lv_sipush (v := -1001) F.x F.b dL_refused_66 (by decide) ?_
          refine lv_icmp_ne (tgt := 311) F.x F.b dL_refused_69 (by decide) (fun g19 => ?_) (fun g19 => ?_)
          · have h := h.1 g19
            refine lv_iconst (v := 0) F.x F.b dL_refused_311 (by decide) ?_
            exact bL_refused_312 F hr hf _ _ S17 r2 r4 (0 : Int32) _ _ _ (by omega) (by omega) h C (lv_sub hl [2, 1, 0] rfl)
          · have h := h.2 g19
            refine lv_aload_n F.x F.b dL_refused_72 rfl (lv_at hl 2 rfl) ?_
            refine lv_bipush (v := 10) F.x F.b dL_refused_73 (by decide) ?_
            refine gSH F.g C.g hl (kL_rain hf h) wh_L_155 ⟨rfl, rfl, ⟨Nat.le_of_ble_eq_true rfl, Nat.le_of_ble_eq_true rfl⟩, ⟨(show _ ≤ (797 : Nat) by omega), (show _ ≤ (4782 : Nat) by omega)⟩, Nat.le_of_ble_eq_true rfl⟩ (rest := []) rfl dL_refused_75 (fun r21 S20 H locs h C => ?_)
            have C := C.c
            refine lv_sipush (v := -1001) F.x F.b dL_refused_78 (by decide) ?_
            refine lv_icmp_ne (tgt := 311) F.x F.b dL_refused_81 (by decide) (fun g22 => ?_) (fun g22 => ?_)
            · have h := h.1 g22
              refine lv_iconst (v := 0) F.x F.b dL_refused_311 (by decide) ?_
              exact bL_refused_312 F hr hf _ _ S20 r2 r4 (0 : Int32) _ _ _ (by omega) (by omega) h C (lv_sub hl [2, 1, 0] rfl)
            · have h := h.2 g22
              refine lv_aload_n F.x F.b dL_refused_84 rfl (lv_at hl 2 rfl) ?_
              refine lv_iconst (v := 0) F.x F.b dL_refused_85 (by decide) ?_
              refine gSH F.g C.g hl (kL_letters hf h) wh_L_153 ⟨rfl, rfl, ⟨Nat.le_of_ble_eq_true rfl, Nat.le_of_ble_eq_true rfl⟩, ⟨(show _ ≤ (797 : Nat) by omega), (show _ ≤ (4782 : Nat) by omega)⟩, Nat.le_of_ble_eq_true rfl⟩ (rest := []) rfl dL_refused_86 (fun r24 S23 H locs h C => ?_)
              have C := C.c
              refine lv_sipush (v := -1001) F.x F.b dL_refused_89 (by decide) ?_
              refine lv_icmp_ne (tgt := 311) F.x F.b dL_refused_92 (by decide) (fun g25 => ?_) (fun g25 => ?_)
              · have h := h.1 g25
                refine lv_iconst (v := 0) F.x F.b dL_refused_311 (by decide) ?_
                exact bL_refused_312 F hr hf _ _ S23 r2 r4 (0 : Int32) _ _ _ (by omega) (by omega) h C (lv_sub hl [2, 1, 0] rfl)
              · have h := h.2 g25
                refine lv_aload_n F.x F.b dL_refused_95 rfl (lv_at hl 2 rfl) ?_
                refine lv_bipush (v := 51) F.x F.b dL_refused_96 (by decide) ?_
                refine gSH F.g C.g hl (kL_letters hf h) wh_L_153 ⟨rfl, rfl, ⟨Nat.le_of_ble_eq_true rfl, Nat.le_of_ble_eq_true rfl⟩, ⟨(show _ ≤ (797 : Nat) by omega), (show _ ≤ (4782 : Nat) by omega)⟩, Nat.le_of_ble_eq_true rfl⟩ (rest := []) rfl dL_refused_98 (fun r27 S26 H locs h C => ?_)
                have C := C.c
                refine lv_sipush (v := -1001) F.x F.b dL_refused_101 (by decide) ?_
                refine lv_icmp_ne (tgt := 311) F.x F.b dL_refused_104 (by decide) (fun g28 => ?_) (fun g28 => ?_)
                · have h := h.1 g28
                  refine lv_iconst (v := 0) F.x F.b dL_refused_311 (by decide) ?_
                  exact bL_refused_312 F hr hf _ _ S26 r2 r4 (0 : Int32) _ _ _ (by omega) (by omega) h C (lv_sub hl [2, 1, 0] rfl)
                · have h := h.2 g28
                  refine lv_aload_n F.x F.b dL_refused_107 rfl (lv_at hl 2 rfl) ?_
                  refine lv_bipush (v := 10) F.x F.b dL_refused_108 (by decide) ?_
                  refine lv_bipush (v := 9) F.x F.b dL_refused_110 (by decide) ?_
                  refine gSH F.g C.g hl (kL_stoneOf hf h) wh_L_179 ⟨rfl, rfl, ⟨Nat.le_of_ble_eq_true rfl, Nat.le_of_ble_eq_true rfl⟩, ⟨(show _ ≤ (797 : Nat) by omega), (show _ ≤ (4782 : Nat) by omega)⟩, Nat.le_of_ble_eq_true rfl⟩ (rest := []) rfl dL_refused_112 (fun r30 S29 H locs h C => ?_)
                  have C := C.c
                  refine lv_sipush (v := -1001) F.x F.b dL_refused_115 (by decide) ?_
                  refine lv_icmp_ne (tgt := 311) F.x F.b dL_refused_118 (by decide) (fun g31 => ?_) (fun g31 => ?_)
                  · have h := h.1 g31
                    refine lv_iconst (v := 0) F.x F.b dL_refused_311 (by decide) ?_
                    exact bL_refused_312 F hr hf _ _ S29 r2 r4 (0 : Int32) _ _ _ (by omega) (by omega) h C (lv_sub hl [2, 1, 0] rfl)
                  · have h := h.2 g31
                    refine lv_aload_n F.x F.b dL_refused_121 rfl (lv_at hl 2 rfl) ?_
                    refine lv_iconst (v := 0) F.x F.b dL_refused_122 (by decide) ?_
                    refine lv_iconst (v := 3) F.x F.b dL_refused_123 (by decide) ?_
                    refine gSH F.g C.g hl (kL_stoneOf hf h) wh_L_179 ⟨rfl, rfl, ⟨Nat.le_of_ble_eq_true rfl, Nat.le_of_ble_eq_true rfl⟩, ⟨(show _ ≤ (797 : Nat) by omega), (show _ ≤ (4782 : Nat) by omega)⟩, Nat.le_of_ble_eq_true rfl⟩ (rest := []) rfl dL_refused_124 (fun r33 S32 H locs h C => ?_)
                    have C := C.c
                    refine lv_sipush (v := -1002) F.x F.b dL_refused_127 (by decide) ?_
                    refine lv_icmp_ne (tgt := 311) F.x F.b dL_refused_130 (by decide) (fun g34 => ?_) (fun g34 => ?_)
                    · have h := h.1 g34
                      refine lv_iconst (v := 0) F.x F.b dL_refused_311 (by decide) ?_
                      exact bL_refused_312 F hr hf _ _ S32 r2 r4 (0 : Int32) _ _ _ (by omega) (by omega) h C (lv_sub hl [2, 1, 0] rfl)
                    · have h := h.2 g34
                      refine lv_aload_n F.x F.b dL_refused_133 rfl (lv_at hl 2 rfl) ?_
                      refine lv_iconst (v := 0) F.x F.b dL_refused_134 (by decide) ?_
                      refine lv_iconst (v := -1) F.x F.b dL_refused_135 (by decide) ?_
                      refine gSH F.g C.g hl (kL_stoneOf hf h) wh_L_179 ⟨rfl, rfl, ⟨Nat.le_of_ble_eq_true rfl, Nat.le_of_ble_eq_true rfl⟩, ⟨(show _ ≤ (797 : Nat) by omega), (show _ ≤ (4782 : Nat) by omega)⟩, Nat.le_of_ble_eq_true rfl⟩ (rest := []) rfl dL_refused_136 (fun r36 S35 H locs h C => ?_)
                      have C := C.c
                      refine lv_sipush (v := -1002) F.x F.b dL_refused_139 (by decide) ?_
                      refine lv_icmp_ne (tgt := 311) F.x F.b dL_refused_142 (by decide) (fun g37 => ?_) (fun g37 => ?_)
                      · have h := h.1 g37
                        refine lv_iconst (v := 0) F.x F.b dL_refused_311 (by decide) ?_
                        exact bL_refused_312 F hr hf _ _ S35 r2 r4 (0 : Int32) _ _ _ (by omega) (by omega) h C (lv_sub hl [2, 1, 0] rfl)
                      · have h := h.2 g37
                        refine lv_aload_n F.x F.b dL_refused_145 rfl (lv_at hl 2 rfl) ?_
                        refine lv_iconst (v := -1) F.x F.b dL_refused_146 (by decide) ?_
                        refine gSH F.g C.g hl (kL_flood hf h) wh_L_197 ⟨rfl, rfl, ⟨Nat.le_of_ble_eq_true rfl, Nat.le_of_ble_eq_true rfl⟩, ⟨(show _ ≤ (797 : Nat) by omega), (show _ ≤ (4782 : Nat) by omega)⟩, Nat.le_of_ble_eq_true rfl⟩ (rest := []) rfl dL_refused_147 (fun r39 S38 H locs h C => ?_)
                        have C := C.c
                        refine lv_sipush (v := -1001) F.x F.b dL_refused_150 (by decide) ?_
                        refine lv_icmp_ne (tgt := 311) F.x F.b dL_refused_153 (by decide) (fun g40 => ?_) (fun g40 => ?_)
                        · have h := h.1 g40
                          refine lv_iconst (v := 0) F.x F.b dL_refused_311 (by decide) ?_
                          exact bL_refused_312 F hr hf _ _ S38 r2 r4 (0 : Int32) _ _ _ (by omega) (by omega) h C (lv_sub hl [2, 1, 0] rfl)
                        · have h := h.2 g40
                          refine lv_aload_n F.x F.b dL_refused_156 rfl (lv_at hl 2 rfl) ?_
                          refine lv_bipush (v := 61) F.x F.b dL_refused_157 (by decide) ?_
                          refine gSH F.g C.g hl (kL_flood hf h) wh_L_197 ⟨rfl, rfl, ⟨Nat.le_of_ble_eq_true rfl, Nat.le_of_ble_eq_true rfl⟩, ⟨(show _ ≤ (797 : Nat) by omega), (show _ ≤ (4782 : Nat) by omega)⟩, Nat.le_of_ble_eq_true rfl⟩ (rest := []) rfl dL_refused_159 (fun r42 S41 H locs h C => ?_)
                          have C := C.c
                          refine lv_sipush (v := -1001) F.x F.b dL_refused_162 (by decide) ?_
                          refine lv_icmp_ne (tgt := 311) F.x F.b dL_refused_165 (by decide) (fun g43 => ?_) (fun g43 => ?_)
                          · have h := h.1 g43
                            refine lv_iconst (v := 0) F.x F.b dL_refused_311 (by decide) ?_
                            exact bL_refused_312 F hr hf _ _ S41 r2 r4 (0 : Int32) _ _ _ (by omega) (by omega) h C (lv_sub hl [2, 1, 0] rfl)
                          · have h := h.2 g43
                            refine lv_aload_n F.x F.b dL_refused_168 rfl (lv_at hl 2 rfl) ?_
                            refine lv_bipush (v := 61) F.x F.b dL_refused_169 (by decide) ?_
                            refine gSH F.g C.g hl (kL_floodAgain hf h) wh_L_199 ⟨rfl, rfl, ⟨Nat.le_of_ble_eq_true rfl, Nat.le_of_ble_eq_true rfl⟩, ⟨(show _ ≤ (797 : Nat) by omega), (show _ ≤ (4782 : Nat) by omega)⟩, Nat.le_of_ble_eq_true rfl⟩ (rest := []) rfl dL_refused_171 (fun r45 S44 H locs h C => ?_)
                            have C := C.c
                            refine lv_sipush (v := -1001) F.x F.b dL_refused_174 (by decide) ?_
                            refine lv_icmp_ne (tgt := 311) F.x F.b dL_refused_177 (by decide) (fun g46 => ?_) (fun g46 => ?_)
                            · have h := h.1 g46
                              refine lv_iconst (v := 0) F.x F.b dL_refused_311 (by decide) ?_
                              exact bL_refused_312 F hr hf _ _ S44 r2 r4 (0 : Int32) _ _ _ (by omega) (by omega) h C (lv_sub hl [2, 1, 0] rfl)
                            · have h := h.2 g46
                              refine lv_aload_n F.x F.b dL_refused_180 rfl (lv_at hl 2 rfl) ?_
                              refine lv_iconst (v := -1) F.x F.b dL_refused_181 (by decide) ?_
                              refine gSH F.g C.g hl (kL_floodAgain hf h) wh_L_199 ⟨rfl, rfl, ⟨Nat.le_of_ble_eq_true rfl, Nat.le_of_ble_eq_true rfl⟩, ⟨(show _ ≤ (797 : Nat) by omega), (show _ ≤ (4782 : Nat) by omega)⟩, Nat.le_of_ble_eq_true rfl⟩ (rest := []) rfl dL_refused_182 (fun r48 S47 H locs h C => ?_)
                              have C := C.c
                              refine lv_sipush (v := -1001) F.x F.b dL_refused_185 (by decide) ?_
                              refine lv_icmp_ne (tgt := 311) F.x F.b dL_refused_188 (by decide) (fun g49 => ?_) (fun g49 => ?_)
                              · have h := h.1 g49
                                refine lv_iconst (v := 0) F.x F.b dL_refused_311 (by decide) ?_
                                exact bL_refused_312 F hr hf _ _ S47 r2 r4 (0 : Int32) _ _ _ (by omega) (by omega) h C (lv_sub hl [2, 1, 0] rfl)
                              · have h := h.2 g49
                                refine lv_aload_n F.x F.b dL_refused_191 rfl (lv_at hl 2 rfl) ?_
                                refine lv_iconst (v := -1) F.x F.b dL_refused_192 (by decide) ?_
                                refine gSH F.g C.g hl (kL_traveller hf h) wh_L_151 ⟨rfl, rfl, ⟨Nat.le_of_ble_eq_true rfl, Nat.le_of_ble_eq_true rfl⟩, ⟨(show _ ≤ (797 : Nat) by omega), (show _ ≤ (4782 : Nat) by omega)⟩, Nat.le_of_ble_eq_true rfl⟩ (rest := []) rfl dL_refused_193 (fun r51 S50 H locs h C => ?_)
                                have C := C.c
                                refine lv_sipush (v := -1001) F.x F.b dL_refused_196 (by decide) ?_
                                refine lv_icmp_ne (tgt := 311) F.x F.b dL_refused_199 (by decide) (fun g52 => ?_) (fun g52 => ?_)
                                · have h := h.1 g52
                                  refine lv_iconst (v := 0) F.x F.b dL_refused_311 (by decide) ?_
                                  exact bL_refused_312 F hr hf _ _ S50 r2 r4 (0 : Int32) _ _ _ (by omega) (by omega) h C (lv_sub hl [2, 1, 0] rfl)
                                · have h := h.2 g52
                                  refine lv_aload_n F.x F.b dL_refused_202 rfl (lv_at hl 2 rfl) ?_
                                  refine lv_bipush (v := 21) F.x F.b dL_refused_203 (by decide) ?_
                                  refine gSH F.g C.g hl (kL_traveller hf h) wh_L_151 ⟨rfl, rfl, ⟨Nat.le_of_ble_eq_true rfl, Nat.le_of_ble_eq_true rfl⟩, ⟨(show _ ≤ (797 : Nat) by omega), (show _ ≤ (4782 : Nat) by omega)⟩, Nat.le_of_ble_eq_true rfl⟩ (rest := []) rfl dL_refused_205 (fun r54 S53 H locs h C => ?_)
                                  have C := C.c
                                  refine lv_sipush (v := -1001) F.x F.b dL_refused_208 (by decide) ?_
                                  refine lv_icmp_ne (tgt := 311) F.x F.b dL_refused_211 (by decide) (fun g55 => ?_) (fun g55 => ?_)
                                  · have h := h.1 g55
                                    refine lv_iconst (v := 0) F.x F.b dL_refused_311 (by decide) ?_
                                    exact bL_refused_312 F hr hf _ _ S53 r2 r4 (0 : Int32) _ _ _ (by omega) (by omega) h C (lv_sub hl [2, 1, 0] rfl)
                                  · have h := h.2 g55
                                    refine lv_aload_n F.x F.b dL_refused_214 rfl (lv_at hl 2 rfl) ?_
                                    refine lv_iload_n F.x F.b dL_refused_215 rfl (lv_at hl 0 rfl) ?_
                                    refine lv_bipush (v := 99) F.x F.b dL_refused_216 (by decide) ?_
                                    refine gSH F.g C.g hl (kL_travellerOf hf h) wh_L_181 ⟨rfl, rfl, ⟨Nat.le_of_ble_eq_true rfl, Nat.le_of_ble_eq_true rfl⟩, ⟨(show _ ≤ (797 : Nat) by omega), (show _ ≤ (4782 : Nat) by omega)⟩, Nat.le_of_ble_eq_true rfl⟩ (rest := []) rfl dL_refused_218 (fun r57 S56 H locs h C => ?_)
                                    have C := C.c
                                    refine lv_sipush (v := -1001) F.x F.b dL_refused_221 (by decide) ?_
                                    refine lv_icmp_ne (tgt := 311) F.x F.b dL_refused_224 (by decide) (fun g58 => ?_) (fun g58 => ?_)
                                    · have h := h.1 g58
                                      refine lv_iconst (v := 0) F.x F.b dL_refused_311 (by decide) ?_
                                      exact bL_refused_312 F hr hf _ _ S56 r2 r4 (0 : Int32) _ _ _ (by omega) (by omega) h C (lv_sub hl [2, 1, 0] rfl)
                                    · have h := h.2 g58
                                      refine lv_aload_n F.x F.b dL_refused_227 rfl (lv_at hl 2 rfl) ?_
                                      refine lv_iconst (v := 0) F.x F.b dL_refused_228 (by decide) ?_
                                      refine lv_bipush (v := 9) F.x F.b dL_refused_229 (by decide) ?_
                                      refine gSH F.g C.g hl (kL_travellerOf hf h) wh_L_181 ⟨rfl, rfl, ⟨Nat.le_of_ble_eq_true rfl, Nat.le_of_ble_eq_true rfl⟩, ⟨(show _ ≤ (797 : Nat) by omega), (show _ ≤ (4782 : Nat) by omega)⟩, Nat.le_of_ble_eq_true rfl⟩ (rest := []) rfl dL_refused_231 (fun r60 S59 H locs h C => ?_)
                                      have C := C.c
                                      refine lv_sipush (v := -1002) F.x F.b dL_refused_234 (by decide) ?_
                                      refine lv_icmp_ne (tgt := 311) F.x F.b dL_refused_237 (by decide) (fun g61 => ?_) (fun g61 => ?_)
                                      · have h := h.1 g61
                                        refine lv_iconst (v := 0) F.x F.b dL_refused_311 (by decide) ?_
                                        exact bL_refused_312 F hr hf _ _ S59 r2 r4 (0 : Int32) _ _ _ (by omega) (by omega) h C (lv_sub hl [2, 1, 0] rfl)
                                      · have h := h.2 g61
                                        refine lv_aload_n F.x F.b dL_refused_240 rfl (lv_at hl 2 rfl) ?_
                                        refine lv_iconst (v := 0) F.x F.b dL_refused_241 (by decide) ?_
                                        refine lv_iconst (v := -1) F.x F.b dL_refused_242 (by decide) ?_
                                        refine gSH F.g C.g hl (kL_travellerOf hf h) wh_L_181 ⟨rfl, rfl, ⟨Nat.le_of_ble_eq_true rfl, Nat.le_of_ble_eq_true rfl⟩, ⟨(show _ ≤ (797 : Nat) by omega), (show _ ≤ (4782 : Nat) by omega)⟩, Nat.le_of_ble_eq_true rfl⟩ (rest := []) rfl dL_refused_243 (fun r63 S62 H locs h C => ?_)
                                        have C := C.c
                                        refine lv_sipush (v := -1002) F.x F.b dL_refused_246 (by decide) ?_
                                        refine lv_icmp_ne (tgt := 311) F.x F.b dL_refused_249 (by decide) (fun g64 => ?_) (fun g64 => ?_)
                                        · have h := h.1 g64
                                          refine lv_iconst (v := 0) F.x F.b dL_refused_311 (by decide) ?_
                                          exact bL_refused_312 F hr hf _ _ S62 r2 r4 (0 : Int32) _ _ _ (by omega) (by omega) h C (lv_sub hl [2, 1, 0] rfl)
                                        · have h := h.2 g64
                                          refine lv_aload_n F.x F.b dL_refused_252 rfl (lv_at hl 2 rfl) ?_
                                          refine lv_iload_n F.x F.b dL_refused_253 rfl (lv_at hl 0 rfl) ?_
                                          refine gSH F.g C.g hl (kL_fee hf h) wh_L_183 ⟨rfl, rfl, ⟨Nat.le_of_ble_eq_true rfl, Nat.le_of_ble_eq_true rfl⟩, ⟨(show _ ≤ (797 : Nat) by omega), (show _ ≤ (4782 : Nat) by omega)⟩, Nat.le_of_ble_eq_true rfl⟩ (rest := []) rfl dL_refused_254 (fun r66 S65 H locs h C => ?_)
                                          have C := C.c
                                          refine lv_sipush (v := -1001) F.x F.b dL_refused_257 (by decide) ?_
                                          refine lv_icmp_ne (tgt := 311) F.x F.b dL_refused_260 (by decide) (fun g67 => ?_) (fun g67 => ?_)
                                          · have h := h.1 g67
                                            refine lv_iconst (v := 0) F.x F.b dL_refused_311 (by decide) ?_
                                            exact bL_refused_312 F hr hf _ _ S65 r2 r4 (0 : Int32) _ _ _ (by omega) (by omega) h C (lv_sub hl [2, 1, 0] rfl)
                                          · have h := h.2 g67
                                            refine lv_aload_n F.x F.b dL_refused_263 rfl (lv_at hl 2 rfl) ?_
                                            refine lv_iload_n F.x F.b dL_refused_264 rfl (lv_at hl 0 rfl) ?_
                                            refine gSH F.g C.g hl (kL_setOut hf h) wh_L_206 ⟨rfl, rfl, ⟨Nat.le_of_ble_eq_true rfl, Nat.le_of_ble_eq_true rfl⟩, ⟨(show _ ≤ (797 : Nat) by omega), (show _ ≤ (4782 : Nat) by omega)⟩, Nat.le_of_ble_eq_true rfl⟩ (rest := []) rfl dL_refused_265 (fun r69 S68 H locs h C => ?_)
                                            have C := C.c
                                            refine lv_sipush (v := -1001) F.x F.b dL_refused_268 (by decide) ?_
                                            refine lv_icmp_ne (tgt := 311) F.x F.b dL_refused_271 (by decide) (fun g70 => ?_) (fun g70 => ?_)
                                            · have h := h.1 g70
                                              refine lv_iconst (v := 0) F.x F.b dL_refused_311 (by decide) ?_
                                              exact bL_refused_312 F hr hf _ _ S68 r2 r4 (0 : Int32) _ _ _ (by omega) (by omega) h C (lv_sub hl [2, 1, 0] rfl)
                                            · have h := h.2 g70
                                              refine lv_aload_n F.x F.b dL_refused_274 rfl (lv_at hl 2 rfl) ?_
                                              refine lv_iload_n F.x F.b dL_refused_275 rfl (lv_at hl 0 rfl) ?_
                                              refine gSH F.g C.g hl (kL_stop hf h) wh_L_208 ⟨rfl, rfl, ⟨Nat.le_of_ble_eq_true rfl, Nat.le_of_ble_eq_true rfl⟩, ⟨(show _ ≤ (797 : Nat) by omega), (show _ ≤ (4782 : Nat) by omega)⟩, Nat.le_of_ble_eq_true rfl⟩ (rest := []) rfl dL_refused_276 (fun r72 S71 H locs h C => ?_)
                                              have C := C.c
                                              refine lv_sipush (v := -1001) F.x F.b dL_refused_279 (by decide) ?_
                                              refine lv_icmp_ne (tgt := 311) F.x F.b dL_refused_282 (by decide) (fun g73 => ?_) (fun g73 => ?_)
                                              · have h := h.1 g73
                                                refine lv_iconst (v := 0) F.x F.b dL_refused_311 (by decide) ?_
                                                exact bL_refused_312 F hr hf _ _ S71 r2 r4 (0 : Int32) _ _ _ (by omega) (by omega) h C (lv_sub hl [2, 1, 0] rfl)
                                              · have h := h.2 g73
                                                refine lv_aload_n F.x F.b dL_refused_285 rfl (lv_at hl 2 rfl) ?_
                                                refine lv_iconst (v := -1) F.x F.b dL_refused_286 (by decide) ?_
                                                refine gSH F.g C.g hl (kL_go hf h) wh_L_210 ⟨rfl, rfl, ⟨Nat.le_of_ble_eq_true rfl, Nat.le_of_ble_eq_true rfl⟩, ⟨(show _ ≤ (797 : Nat) by omega), (show _ ≤ (4782 : Nat) by omega)⟩, Nat.le_of_ble_eq_true rfl⟩ (rest := []) rfl dL_refused_287 (fun r75 S74 H locs h C => ?_)
                                                have C := C.c
                                                refine lv_sipush (v := -1001) F.x F.b dL_refused_290 (by decide) ?_
                                                refine lv_icmp_ne (tgt := 311) F.x F.b dL_refused_293 (by decide) (fun g76 => ?_) (fun g76 => ?_)
                                                · have h := h.1 g76
                                                  refine lv_iconst (v := 0) F.x F.b dL_refused_311 (by decide) ?_
                                                  exact bL_refused_312 F hr hf _ _ S74 r2 r4 (0 : Int32) _ _ _ (by omega) (by omega) h C (lv_sub hl [2, 1, 0] rfl)
                                                · have h := h.2 g76
                                                  refine lv_aload_n F.x F.b dL_refused_296 rfl (lv_at hl 2 rfl) ?_
                                                  refine lv_iload_n F.x F.b dL_refused_297 rfl (lv_at hl 0 rfl) ?_
                                                  refine gSH F.g C.g hl (kL_leave hf h) wh_L_204 ⟨rfl, rfl, ⟨Nat.le_of_ble_eq_true rfl, Nat.le_of_ble_eq_true rfl⟩, ⟨(show _ ≤ (797 : Nat) by omega), (show _ ≤ (4782 : Nat) by omega)⟩, Nat.le_of_ble_eq_true rfl⟩ (rest := []) rfl dL_refused_298 (fun r78 S77 H locs h C => ?_)
                                                  have C := C.c
                                                  refine lv_sipush (v := -1001) F.x F.b dL_refused_301 (by decide) ?_
                                                  refine lv_icmp_ne (tgt := 311) F.x F.b dL_refused_304 (by decide) (fun g79 => ?_) (fun g79 => ?_)
                                                  · have h := h.1 g79
                                                    refine lv_iconst (v := 0) F.x F.b dL_refused_311 (by decide) ?_
                                                    exact bL_refused_312 F hr hf _ _ S77 r2 r4 (0 : Int32) _ _ _ (by omega) (by omega) h C (lv_sub hl [2, 1, 0] rfl)
                                                  · have h := h.2 g79
                                                    refine lv_iconst (v := 1) F.x F.b dL_refused_307 (by decide) ?_
                                                    refine lv_goto (tgt := 312) F.x F.b dL_refused_308 (by decide) ?_
                                                    exact bL_refused_312 F hr hf _ _ S77 r2 r4 (1 : Int32) _ _ _ (by omega) (by omega) h C (lv_sub hl [2, 1, 0] rfl)
