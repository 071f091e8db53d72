def rmL_makes : Room := { frames := 9, cells := 56, slots := 337, locals := 151 }
def mL_makes1_b2 (ex : Nat → Nat → Nat) (post : Int32 → Mem → Prop) (K38 : Mem → Prop) : Nat → Mem → Int32 → Prop
  | 0, _, _ => False
  | n + 1, S, v2 => (((10 : Int32) ≤ v2 → (K38 S)) ∧ (¬ (10 : Int32) ≤ v2 → (mL_at ex (fun (r3 : Int32) (S2 : Mem) => mL_some (fun (r5 : Int32) (S4 : Mem) => mL_height (fun (r7 : Int32) (S6 : Mem) => ((r7 = (10 : Int32) → (∀ x9 : Int32, x9 = v2 + (1 : Int32) → mL_makes1_b2 ex post K38 n S6 x9)) ∧ (¬ r7 = (10 : Int32) → (post (0 : Int32) S6)))) S4 v2 (((5 : Int32) + r5))) S2 r3 (9 : Int32)) S v2)))
def mL_makes1 (ex : Nat → Nat → Nat) (post : Int32 → Mem → Prop) (K38 : Mem → Prop) (S : Mem) : Prop := ∃ fu : Nat, fu ≤ 11 ∧ mL_makes1_b2 ex post K38 fu S (0 : Int32)
set_option maxRecDepth 100000 in
set_option maxHeartbeats 4000000 in
theorem bL_makes1_2 {p : Program} {l : Launch} {e : Env} {s : State} {m : MethodId} {args : Array Value} {below : List Frame} {meth : Method} {c : Code} {D : va_G} {ky : Nat → ClassId} {ad : Nat → Nat} {ex : Nat → Nat → Nat} (F : Fx p s m args meth c D ky ad ex cL_makes 4 yL_makes.cls) (hr : meth.sig.returnType = (some .boolean)) (hf : l.stackTraces = false) {post : Int32 → Mem → Prop} (kc38 ks38 : Nat) {K38 : Mem → Prop} (hK38 : ∀ (cells slots : Nat) (S : Mem) (H : Heap) (locs : List Loc) (ls : Array Slot), cells + kc38 ≤ 56 → slots + ks38 ≤ 337 → K38 S → Cx D ky ad s S H locs → lv_has ls 4 [(0, .ref (ad 110)), (1, .ref (ex 4 0))] → W p l e rmL_makes s m args below meth c H locs cells slots (MQ below (va_Qi post (AFT D ky ad) (AW ad s.heap.size)) args s 56 337 (AW ad s.heap.size)) (F0 m 38 ls [])) : ∀ (n : Nat) (cells slots : Nat) (S : Mem) (v2 : Int32) (H : Heap) (locs : List Loc) (ls : Array Slot), cells + (3 * n + 3 + kc38) ≤ 56 → slots + (18 * n + 18 + ks38) ≤ 337 → mL_makes1_b2 ex post K38 n S v2 → Cx D ky ad s S H locs → lv_has ls 4 [(0, .ref (ad 110)), (1, .ref (ex 4 0)), (2, .int v2)] → W p l e rmL_makes s m args below meth c H locs cells slots (MQ below (va_Qi post (AFT D ky ad) (AW ad s.heap.size)) args s 56 337 (AW ad s.heap.size)) (F0 m 2 ls []) := by
  intro n
  induction n with
  | zero =>
    intro cells slots S v2 H locs ls  hc hs h
    exact False.elim h
  | succ n ih =>
    intro cells slots S v2 H locs ls  hc hs h C hl
    refine lv_iload_n F.x F.b dL_makes_2 rfl (lv_at hl 2 rfl) ?_
    refine lv_bipush (v := 10) F.x F.b dL_makes_3 (by decide) ?_
    refine lv_icmp_ge (tgt := 38) F.x F.b dL_makes_5 (by decide) (fun g1 => ?_) (fun g1 => ?_)
    · have h := h.1 g1
      exact hK38 _ _ S _ _ _ (by omega) (by omega) h C (lv_sub hl [0, 1] rfl)
    · have h := h.2 g1
      refine lv_aload_n F.x F.b dL_makes_8 rfl (lv_at hl 0 rfl) ?_
      refine lv_iload_n F.x F.b dL_makes_9 rfl (lv_at hl 2 rfl) ?_
      refine lv_iconst (v := 5) F.x F.b dL_makes_10 (by decide) ?_
      refine lv_aload_n F.x F.b dL_makes_11 rfl (lv_at hl 1 rfl) ?_
      refine lv_iload_n F.x F.b dL_makes_12 rfl (lv_at hl 2 rfl) ?_
      refine gSI F.g C.g hl (kL_at hf h) wv_L_141 ⟨rfl, rfl, ⟨Nat.le_of_ble_eq_true rfl, Nat.le_of_ble_eq_true rfl⟩, ⟨(show _ ≤ (56 : Nat) by omega), (show _ ≤ (337 : Nat) by omega)⟩, Nat.le_of_ble_eq_true rfl⟩ (rest := [.int (5 : Int32), .int v2, .ref (ad 110)]) rfl dL_makes_13 (fun r3 S2 H locs h C => ?_)
      have C := C.c
      refine lv_bipush (v := 9) F.x F.b dL_makes_16 (by decide) ?_
      refine gSI F.g C.g hl (kL_some hf h) wv_L_145 ⟨rfl, rfl, ⟨Nat.le_of_ble_eq_true rfl, Nat.le_of_ble_eq_true rfl⟩, ⟨(show _ ≤ (56 : Nat) by omega), (show _ ≤ (337 : Nat) by omega)⟩, Nat.le_of_ble_eq_true rfl⟩ (rest := [.int (5 : Int32), .int v2, .ref (ad 110)]) rfl dL_makes_18 (fun r5 S4 H locs h C => ?_)
      have C := C.c
      refine lv_iadd F.x F.b dL_makes_21 ?_
      refine gSH F.g C.g hl (kL_height hf h) wh_L_148 ⟨rfl, rfl, ⟨Nat.le_of_ble_eq_true rfl, Nat.le_of_ble_eq_true rfl⟩, ⟨(show _ ≤ (56 : Nat) by omega), (show _ ≤ (337 : Nat) by omega)⟩, Nat.le_of_ble_eq_true rfl⟩ (rest := []) rfl dL_makes_22 (fun r7 S6 H locs h C => ?_)
      have C := C.c
      refine lv_bipush (v := 10) F.x F.b dL_makes_25 (by decide) ?_
      refine lv_icmp_eq (tgt := 32) F.x F.b dL_makes_27 (by decide) (fun g8 => ?_) (fun g8 => ?_)
      · have h := h.1 g8
        obtain ⟨x9, ex9⟩ : ∃ z : Int32, z = v2 + (1 : Int32) := ⟨_, rfl⟩
        have h := h x9 ex9
        refine lv_iinc (v := x9) (lv' := [(2, .int x9), (0, .ref (ad 110)), (1, .ref (ex 4 0))]) F.x F.b dL_makes_32 hl (k := 2) rfl (by rw [ex9]; rfl) (by decide) rfl (fun ls hl => ?_)
        refine lv_goto (tgt := 2) F.x F.b dL_makes_35 (by decide) ?_
        exact ih _ _ S6 x9 _ _ _ (by omega) (by omega) h C (lv_sub hl [1, 2, 0] rfl)
      · have h := h.2 g8
        refine lv_iconst (v := 0) F.x F.b dL_makes_30 (by decide) ?_
        refine W.widen (k := 56) (n := 337) (by omega) (by omega) ?_
        exact retZ F hr C rfl h dL_makes_31
set_option maxRecDepth 100000 in
set_option maxHeartbeats 4000000 in
theorem bL_makes1_0 {p : Program} {l : Launch} {e : Env} {s : State} {m : MethodId} {args : Array Value} {below : List Frame} {meth : Method} {c : Code} {D : va_G} {ky : Nat → ClassId} {ad : Nat → Nat} {ex : Nat → Nat → Nat} (F : Fx p s m args meth c D ky ad ex cL_makes 4 yL_makes.cls) (hr : meth.sig.returnType = (some .boolean)) (hf : l.stackTraces = false) {post : Int32 → Mem → Prop} (kc38 ks38 : Nat) {K38 : Mem → Prop} (hK38 : ∀ (cells slots : Nat) (S : Mem) (H : Heap) (locs : List Loc) (ls : Array Slot), cells + kc38 ≤ 56 → slots + ks38 ≤ 337 → K38 S → Cx D ky ad s S H locs → lv_has ls 4 [(0, .ref (ad 110)), (1, .ref (ex 4 0))] → W p l e rmL_makes s m args below meth c H locs cells slots (MQ below (va_Qi post (AFT D ky ad) (AW ad s.heap.size)) args s 56 337 (AW ad s.heap.size)) (F0 m 38 ls [])) : ∀ (cells slots : Nat) (S : Mem) (H : Heap) (locs : List Loc) (ls : Array Slot), cells + (36 + kc38) ≤ 56 → slots + (216 + ks38) ≤ 337 → mL_makes1 ex post K38 S → Cx D ky ad s S H locs → lv_has ls 4 [(0, .ref (ad 110)), (1, .ref (ex 4 0))] → W p l e rmL_makes s m args below meth c H locs cells slots (MQ below (va_Qi post (AFT D ky ad) (AW ad s.heap.size)) args s 56 337 (AW ad s.heap.size)) (F0 m 0 ls []) := by
  intro cells slots S  H locs ls  hc hs h C hl
  unfold mL_makes1 at h
  refine lv_iconst (v := 0) F.x F.b dL_makes_0 (by decide) ?_
  refine lv_istore_n (lv' := [(2, .int (0 : Int32)), (0, .ref (ad 110)), (1, .ref (ex 4 0))]) F.x F.b dL_makes_1 rfl hl (by decide) rfl (fun ls hl => ?_)
  obtain ⟨n1, hn1, h⟩ := h
  exact bL_makes1_2 F hr hf kc38 ks38 hK38 n1 _ _ S (0 : Int32) _ _ _ (by omega) (by omega) h C (lv_sub hl [1, 2, 0] rfl)

def mL_makes2_b77 (ex : Nat → Nat → Nat) (post : Int32 → Mem → Prop) : Nat → Mem → Int32 → Prop
  | 0, _, _ => False
  | n + 1, S, v3 => (((7 : Int32) ≤ v3 → (mL_at ex (fun (r3 : Int32) (S2 : Mem) => mL_some (fun (r5 : Int32) (S4 : Mem) => mL_letters (fun (r7 : Int32) (S6 : Mem) => ((r7 ≤ 0 → (post (0 : Int32) S6)) ∧ (¬ r7 ≤ 0 → (mL_at ex (fun (r10 : Int32) (S9 : Mem) => mL_some (fun (r12 : Int32) (S11 : Mem) => mL_rain (fun (r14 : Int32) (S13 : Mem) => ((¬ r14 = 0 → (post (0 : Int32) S13)) ∧ (r14 = 0 → (post (1 : Int32) S13)))) S11 r12) S9 r10 (4 : Int32)) S6 (11 : Int32))))) S4 (((1 : Int32) + r5))) S2 r3 (50 : Int32)) S (10 : Int32))) ∧ (¬ (7 : Int32) ≤ v3 → (vp_in v3 7 ∧ mL_traveller (fun (r18 : Int32) (S17 : Mem) => ((r18 = v3 → (∀ x20 : Int32, x20 = v3 + (1 : Int32) → mL_makes2_b77 ex post n S17 x20)) ∧ (¬ r18 = v3 → (post (0 : Int32) S17)))) S (loadF v3.toNatClampNeg))))
def mL_makes2 (ex : Nat → Nat → Nat) (post : Int32 → Mem → Prop) (S : Mem) : Prop := ∃ fu : Nat, fu ≤ 8 ∧ mL_makes2_b77 ex post fu S (0 : Int32)
set_option maxRecDepth 100000 in
set_option maxHeartbeats 4000000 in
theorem bL_makes2_77 {p : Program} {l : Launch} {e : Env} {s : State} {m : MethodId} {args : Array Value} {below : List Frame} {meth : Method} {c : Code} {D : va_G} {ky : Nat → ClassId} {ad : Nat → Nat} {ex : Nat → Nat → Nat} {ao : Nat} (F : Gx p s m args meth c D ky ad ex cL_makes 4 yL_makes.cls (AW ad s.heap.size)) (hr : meth.sig.returnType = (some .boolean)) (hf : l.stackTraces = false) {post : Int32 → Mem → Prop} : ∀ (n : Nat) (cells slots : Nat) (S : Mem) (v3 : Int32) (H : Heap) (locs : List Loc) (ls : Array Slot), cells + (2 * n + 3) ≤ 56 → slots + (12 * n + 18) ≤ 337 → mL_makes2_b77 ex post n S v3 → Cg D ky ad s (AW ad s.heap.size) S [(ao, ice ky loadF)] H locs → lv_has ls 4 [(0, .ref (ad 110)), (1, .ref (ex 4 0)), (2, .ref ao), (3, .int v3)] → W p l e rmL_makes s m args below meth c H locs cells slots (MQ below (va_Qi post (AFT D ky ad) (AW ad s.heap.size)) args s 56 337 (AW ad s.heap.size)) (F0 m 77 ls []) := by
  intro n
  induction n with
  | zero =>
    intro cells slots S v3 H locs ls  hc hs h
    exact False.elim h
  | succ n ih =>
    intro cells slots S v3 H locs ls  hc hs h C hl
    refine lv_iload_n F.x F.b dL_makes_77 rfl (lv_at hl 3 rfl) ?_
    refine lv_bipush (v := 7) F.x F.b dL_makes_78 (by decide) ?_
    refine lv_icmp_ge (tgt := 102) F.x F.b dL_makes_80 (by decide) (fun g1 => ?_) (fun g1 => ?_)
    · have h := h.1 g1
      refine lv_aload_n F.x F.b dL_makes_102 rfl (lv_at hl 0 rfl) ?_
      refine lv_iconst (v := 1) F.x F.b dL_makes_103 (by decide) ?_
      refine lv_aload_n F.x F.b dL_makes_104 rfl (lv_at hl 1 rfl) ?_
      refine lv_bipush (v := 10) F.x F.b dL_makes_105 (by decide) ?_
      refine gSI F C hl (kL_at hf h) wv_L_141 ⟨rfl, rfl, ⟨Nat.le_of_ble_eq_true rfl, Nat.le_of_ble_eq_true rfl⟩, ⟨(show _ ≤ (56 : Nat) by omega), (show _ ≤ (337 : Nat) by omega)⟩, Nat.le_of_ble_eq_true rfl⟩ (rest := [.int (1 : Int32), .ref (ad 110)]) rfl dL_makes_107 (fun r3 S2 H locs h C => ?_)
      refine lv_bipush (v := 50) F.x F.b dL_makes_110 (by decide) ?_
      refine gSI F C hl (kL_some hf h) wv_L_145 ⟨rfl, rfl, ⟨Nat.le_of_ble_eq_true rfl, Nat.le_of_ble_eq_true rfl⟩, ⟨(show _ ≤ (56 : Nat) by omega), (show _ ≤ (337 : Nat) by omega)⟩, Nat.le_of_ble_eq_true rfl⟩ (rest := [.int (1 : Int32), .ref (ad 110)]) rfl dL_makes_112 (fun r5 S4 H locs h C => ?_)
      refine lv_iadd F.x F.b dL_makes_115 ?_
      refine gSH F C hl (kL_letters hf h) wh_L_153 ⟨rfl, rfl, ⟨Nat.le_of_ble_eq_true rfl, Nat.le_of_ble_eq_true rfl⟩, ⟨(show _ ≤ (56 : Nat) by omega), (show _ ≤ (337 : Nat) by omega)⟩, Nat.le_of_ble_eq_true rfl⟩ (rest := []) rfl dL_makes_116 (fun r7 S6 H locs h C => ?_)
      refine lv_if_le (tgt := 143) F.x F.b dL_makes_119 (by decide) (fun g8 => ?_) (fun g8 => ?_)
      · have h := h.1 g8
        refine lv_iconst (v := 0) F.x F.b dL_makes_143 (by decide) ?_
        refine W.widen (k := 56) (n := 337) (by omega) (by omega) ?_
        exact retZ F.f hr C.c rfl h dL_makes_144
      · have h := h.2 g8
        refine lv_aload_n F.x F.b dL_makes_122 rfl (lv_at hl 0 rfl) ?_
        refine lv_aload_n F.x F.b dL_makes_123 rfl (lv_at hl 1 rfl) ?_
        refine lv_bipush (v := 11) F.x F.b dL_makes_124 (by decide) ?_
        refine gSI F C hl (kL_at hf h) wv_L_141 ⟨rfl, rfl, ⟨Nat.le_of_ble_eq_true rfl, Nat.le_of_ble_eq_true rfl⟩, ⟨(show _ ≤ (56 : Nat) by omega), (show _ ≤ (337 : Nat) by omega)⟩, Nat.le_of_ble_eq_true rfl⟩ (rest := [.ref (ad 110)]) rfl dL_makes_126 (fun r10 S9 H locs h C => ?_)
        refine lv_iconst (v := 4) F.x F.b dL_makes_129 (by decide) ?_
        refine gSI F C hl (kL_some hf h) wv_L_145 ⟨rfl, rfl, ⟨Nat.le_of_ble_eq_true rfl, Nat.le_of_ble_eq_true rfl⟩, ⟨(show _ ≤ (56 : Nat) by omega), (show _ ≤ (337 : Nat) by omega)⟩, Nat.le_of_ble_eq_true rfl⟩ (rest := [.ref (ad 110)]) rfl dL_makes_130 (fun r12 S11 H locs h C => ?_)
        refine gSH F C hl (kL_rain hf h) wh_L_155 ⟨rfl, rfl, ⟨Nat.le_of_ble_eq_true rfl, Nat.le_of_ble_eq_true rfl⟩, ⟨(show _ ≤ (56 : Nat) by omega), (show _ ≤ (337 : Nat) by omega)⟩, Nat.le_of_ble_eq_true rfl⟩ (rest := []) rfl dL_makes_133 (fun r14 S13 H locs h C => ?_)
        refine lv_if_ne (tgt := 143) F.x F.b dL_makes_136 (by decide) (fun g15 => ?_) (fun g15 => ?_)
        · have h := h.1 g15
          refine lv_iconst (v := 0) F.x F.b dL_makes_143 (by decide) ?_
          refine W.widen (k := 56) (n := 337) (by omega) (by omega) ?_
          exact retZ F.f hr C.c rfl h dL_makes_144
        · have h := h.2 g15
          refine lv_iconst (v := 1) F.x F.b dL_makes_139 (by decide) ?_
          refine lv_goto (tgt := 144) F.x F.b dL_makes_140 (by decide) ?_
          refine W.widen (k := 56) (n := 337) (by omega) (by omega) ?_
          exact retZ F.f hr C.c rfl h dL_makes_144
    · have h := h.2 g1
      refine lv_aload_n F.x F.b dL_makes_83 rfl (lv_at hl 0 rfl) ?_
      refine lv_aload_n F.x F.b dL_makes_84 rfl (lv_at hl 2 rfl) ?_
      refine lv_iload_n F.x F.b dL_makes_85 rfl (lv_at hl 3 rfl) ?_
      obtain ⟨g16, h⟩ := h
      refine eIald F C g16 dL_makes_86 ?_
      refine gSH F C hl (kL_traveller hf h) wh_L_151 ⟨rfl, rfl, ⟨Nat.le_of_ble_eq_true rfl, Nat.le_of_ble_eq_true rfl⟩, ⟨(show _ ≤ (56 : Nat) by omega), (show _ ≤ (337 : Nat) by omega)⟩, Nat.le_of_ble_eq_true rfl⟩ (rest := []) rfl dL_makes_87 (fun r18 S17 H locs h C => ?_)
      refine lv_iload_n F.x F.b dL_makes_90 rfl (lv_at hl 3 rfl) ?_
      refine lv_icmp_eq (tgt := 96) F.x F.b dL_makes_91 (by decide) (fun g19 => ?_) (fun g19 => ?_)
      · have h := h.1 g19
        obtain ⟨x20, ex20⟩ : ∃ z : Int32, z = v3 + (1 : Int32) := ⟨_, rfl⟩
        have h := h x20 ex20
        refine lv_iinc (v := x20) (lv' := [(3, .int x20), (0, .ref (ad 110)), (1, .ref (ex 4 0)), (2, .ref ao)]) F.x F.b dL_makes_96 hl (k := 3) rfl (by rw [ex20]; rfl) (by decide) rfl (fun ls hl => ?_)
        refine lv_goto (tgt := 77) F.x F.b dL_makes_99 (by decide) ?_
        exact ih _ _ S17 x20 _ _ _ (by omega) (by omega) h C (lv_sub hl [1, 2, 3, 0] rfl)
      · have h := h.2 g19
        refine lv_iconst (v := 0) F.x F.b dL_makes_94 (by decide) ?_
        refine W.widen (k := 56) (n := 337) (by omega) (by omega) ?_
        exact retZ F.f hr C.c rfl h dL_makes_95
set_option maxRecDepth 100000 in
set_option maxHeartbeats 4000000 in
theorem bL_makes2_75 {p : Program} {l : Launch} {e : Env} {s : State} {m : MethodId} {args : Array Value} {below : List Frame} {meth : Method} {c : Code} {D : va_G} {ky : Nat → ClassId} {ad : Nat → Nat} {ex : Nat → Nat → Nat} {ao : Nat} (F : Gx p s m args meth c D ky ad ex cL_makes 4 yL_makes.cls (AW ad s.heap.size)) (hr : meth.sig.returnType = (some .boolean)) (hf : l.stackTraces = false) {post : Int32 → Mem → Prop} : ∀ (cells slots : Nat) (S : Mem) (H : Heap) (locs : List Loc) (ls : Array Slot), cells + (19) ≤ 56 → slots + (114) ≤ 337 → mL_makes2 ex post S → Cg D ky ad s (AW ad s.heap.size) S [(ao, ice ky loadF)] H locs → lv_has ls 4 [(2, .ref ao), (0, .ref (ad 110)), (1, .ref (ex 4 0))] → W p l e rmL_makes s m args below meth c H locs cells slots (MQ below (va_Qi post (AFT D ky ad) (AW ad s.heap.size)) args s 56 337 (AW ad s.heap.size)) (F0 m 75 ls []) := by
  intro cells slots S  H locs ls  hc hs h C hl
  unfold mL_makes2 at h
  refine lv_iconst (v := 0) F.x F.b dL_makes_75 (by decide) ?_
  refine lv_istore_n (lv' := [(3, .int (0 : Int32)), (2, .ref ao), (0, .ref (ad 110)), (1, .ref (ex 4 0))]) F.x F.b dL_makes_76 rfl hl (by decide) rfl (fun ls hl => ?_)
  obtain ⟨n1, hn1, h⟩ := h
  exact bL_makes2_77 F hr hf n1 _ _ S (0 : Int32) _ _ _ (by omega) (by omega) h C (lv_sub hl [2, 3, 1, 0] rfl)

def mL_makes (ex : Nat → Nat → Nat) (post : Int32 → Mem → Prop) (S : Mem) : Prop := mL_makes1 ex post (fun S => mL_makes2 ex post S) S
set_option maxRecDepth 100000 in
set_option maxHeartbeats 4000000 in
theorem kL_makes {l : Launch} {D : va_G} {ky : Nat → ClassId} {ad : Nat → Nat} {ex : Nat → Nat → Nat} {post : Int32 → Mem → Prop} {S : Mem} (hf : l.stackTraces = false) (h : mL_makes ex post S) : CMi l D ky ad ex yL_makes cL_makes 4 (some .boolean) rmL_makes 56 337 [.ref (ad 110), .ref (ex 4 0)] S post := by
  refine CMi.of (by decide) (Nat.le_of_ble_eq_true rfl) (fun p e s m args below meth c ls F hr C hl => ?_)
  have hl : lv_has ls 4 [(0, .ref (ad 110)), (1, .ref (ex 4 0))] := hl
  unfold mL_makes at h
  refine bL_makes1_0 F hr hf 20 121 (fun cells slots S H locs ls hc hs h C hl => ?_) 0 0 S _ _ _ (by omega) (by omega) h C hl
  refine lv_bipush (v := 7) F.x F.b dL_makes_38 (by decide) ?_
  refine gNewa F.g (fun q h => Or.inr h) C.g (atype := .int) (ty := .int) rfl q1_83 1 rfl (fun cA cB h1 h2 => Option.some.inj (h1.symm.trans h2)) (a0 := (7, .inl (fun _ => 0))) (fun _ => rfl) (N' := 7) (by decide) (by decide) (Nat.le_of_ble_eq_true rfl) (show _ ≤ (56 : Nat) by omega) (show _ ≤ (337 : Nat) by omega) dL_makes_40 (fun ao H hao C => ?_)
  refine lv_dup F.x F.b dL_makes_42 rfl ?_
  refine lv_iconst (v := 0) F.x F.b dL_makes_43 (by decide) ?_
  refine lv_iconst (v := 0) F.x F.b dL_makes_44 (by decide) ?_
  refine eIast F.g hao C (by unfold vp_in; decide) dL_makes_45 (fun H locs C => ?_)
  refine lv_dup F.x F.b dL_makes_46 rfl ?_
  refine lv_iconst (v := 1) F.x F.b dL_makes_47 (by decide) ?_
  refine lv_iconst (v := 2) F.x F.b dL_makes_48 (by decide) ?_
  refine eIast F.g hao C (by unfold vp_in; decide) dL_makes_49 (fun H locs C => ?_)
  refine lv_dup F.x F.b dL_makes_50 rfl ?_
  refine lv_iconst (v := 2) F.x F.b dL_makes_51 (by decide) ?_
  refine lv_iconst (v := 3) F.x F.b dL_makes_52 (by decide) ?_
  refine eIast F.g hao C (by unfold vp_in; decide) dL_makes_53 (fun H locs C => ?_)
  refine lv_dup F.x F.b dL_makes_54 rfl ?_
  refine lv_iconst (v := 3) F.x F.b dL_makes_55 (by decide) ?_
  refine lv_iconst (v := 5) F.x F.b dL_makes_56 (by decide) ?_
  refine eIast F.g hao C (by unfold vp_in; decide) dL_makes_57 (fun H locs C => ?_)
  refine lv_dup F.x F.b dL_makes_58 rfl ?_
  refine lv_iconst (v := 4) F.x F.b dL_makes_59 (by decide) ?_
  refine lv_bipush (v := 8) F.x F.b dL_makes_60 (by decide) ?_
  refine eIast F.g hao C (by unfold vp_in; decide) dL_makes_62 (fun H locs C => ?_)
  refine lv_dup F.x F.b dL_makes_63 rfl ?_
  refine lv_iconst (v := 5) F.x F.b dL_makes_64 (by decide) ?_
  refine lv_bipush (v := 9) F.x F.b dL_makes_65 (by decide) ?_
  refine eIast F.g hao C (by unfold vp_in; decide) dL_makes_67 (fun H locs C => ?_)
  refine lv_dup F.x F.b dL_makes_68 rfl ?_
  refine lv_bipush (v := 6) F.x F.b dL_makes_69 (by decide) ?_
  refine lv_bipush (v := 20) F.x F.b dL_makes_71 (by decide) ?_
  refine eIast F.g hao C (by unfold vp_in; decide) dL_makes_73 (fun H locs C => ?_)
  refine lv_astore_n (lv' := [(2, .ref ao), (0, .ref (ad 110)), (1, .ref (ex 4 0))]) F.x F.b dL_makes_74 rfl hl (by decide) rfl (fun ls hl => ?_)
  have C : Cg D ky ad s (AW ad s.heap.size) S [(ao, ice ky loadF)] H locs := C
  exact bL_makes2_75 F.g hr hf _ _ S _ _ _ (by omega) (by omega) h C hl
