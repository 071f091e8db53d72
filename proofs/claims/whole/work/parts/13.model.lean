def rmX6_thrown : Room := { frames := 0, cells := 0, slots := 0, locals := 0 }
def mX6_thrown (post : Int32 → Mem → Prop) (S : Mem) : Prop := post (S 10 0 21) S
set_option maxRecDepth 100000 in
set_option maxHeartbeats 4000000 in
theorem kX6_thrown {l : Launch} {D : va_G} {ky : Nat → ClassId} {ad : Nat → Nat} {ex : Nat → Nat → Nat} {post : Int32 → Mem → Prop} {S : Mem} (h : mX6_thrown post S ) : CMi l D ky ad ex yX6_thrown cX6_thrown 1 (some .int) rmX6_thrown 0 0 [.ref (ad 117)] S post := by
  refine CMi.of (by decide) (Nat.le_of_ble_eq_true rfl) (fun p e s m args below meth c ls F hr C hl => ?_)
  have hl : lv_has ls 1 [(0, .ref (ad 117))] := hl
  unfold mX6_thrown at h
  refine lv_aload_n F.x F.b dX6_thrown_0 rfl (lv_at hl 0 rfl) ?_
  refine getM F C 21 (by decide) q5_3 (v := .int (S 10 0 21)) rfl dX6_thrown_1 ?_
  exact retI F hr C h dX6_thrown_4

def rmX6_raises : Room := { frames := 0, cells := 0, slots := 0, locals := 0 }
def mX6_raises (post : Int32 → Mem → Prop) (S : Mem) (v1 : Int32) : Prop := ∀ S1 : Mem, S1 = wr S 10 0 21 v1 → post (0 : Int32) S1
set_option maxRecDepth 100000 in
set_option maxHeartbeats 4000000 in
theorem kX6_raises {l : Launch} {D : va_G} {ky : Nat → ClassId} {ad : Nat → Nat} {ex : Nat → Nat → Nat} {post : Int32 → Mem → Prop} {S : Mem} {v1 : Int32} (h : mX6_raises post S v1) : CMi l D ky ad ex yX6_raises cX6_raises 2 (some .int) rmX6_raises 0 0 [.ref (ad 117), .int v1] S post := by
  refine CMi.of (by decide) (Nat.le_of_ble_eq_true rfl) (fun p e s m args below meth c ls F hr C hl => ?_)
  have hl : lv_has ls 2 [(0, .ref (ad 117)), (1, .int v1)] := hl
  unfold mX6_raises at h
  refine lv_aload_n F.x F.b dX6_raises_0 rfl (lv_at hl 0 rfl) ?_
  refine lv_iload_n F.x F.b dX6_raises_1 rfl (lv_at hl 1 rfl) ?_
  refine putM F C 21 (by decide) q5_3 rfl (tyX6_ok 21 (by decide)) rfl rfl rfl dX6_raises_2 (fun H locs C => ?_)
  obtain ⟨S1, eS1⟩ : ∃ z : Mem, z = wr S 10 0 21 v1 := ⟨_, rfl⟩
  rw [← eS1] at C
  have h := h S1 eS1
  refine lv_iconst (v := 0) F.x F.b dX6_raises_5 (by decide) ?_
  exact retI F hr C h dX6_raises_6

def rmX6_in : Room := { frames := 0, cells := 0, slots := 0, locals := 0 }
def mX6_in (post : Int32 → Mem → Prop) (S : Mem) (v0 : Int32) (v1 : Int32) (v2 : Int32) : Prop := ((v0 < v1 → (post (0 : Int32) S)) ∧ (¬ v0 < v1 → (((v2 < v0 → (post (0 : Int32) S)) ∧ (¬ v2 < v0 → (post (1 : Int32) S))))))
set_option maxRecDepth 100000 in
set_option maxHeartbeats 4000000 in
theorem kX6_in {l : Launch} {D : va_G} {ky : Nat → ClassId} {ad : Nat → Nat} {ex : Nat → Nat → Nat} {post : Int32 → Mem → Prop} {S : Mem} {v0 : Int32} {v1 : Int32} {v2 : Int32} (h : mX6_in post S v0 v1 v2) : CMi l D ky ad ex yX6_in cX6_in 3 (some .boolean) rmX6_in 0 0 [.int v0, .int v1, .int v2] S post := by
  refine CMi.of (by decide) (Nat.le_of_ble_eq_true rfl) (fun p e s m args below meth c ls F hr C hl => ?_)
  have hl : lv_has ls 3 [(0, .int v0), (1, .int v1), (2, .int v2)] := hl
  unfold mX6_in at h
  refine lv_iload_n F.x F.b dX6_in_0 rfl (lv_at hl 0 rfl) ?_
  refine lv_iload_n F.x F.b dX6_in_1 rfl (lv_at hl 1 rfl) ?_
  refine lv_icmp_lt (tgt := 14) F.x F.b dX6_in_2 (by decide) (fun g1 => ?_) (fun g1 => ?_)
  · have h := h.1 g1
    refine lv_iconst (v := 0) F.x F.b dX6_in_14 (by decide) ?_
    exact retZ F hr C rfl h dX6_in_15
  · have h := h.2 g1
    refine lv_iload_n F.x F.b dX6_in_5 rfl (lv_at hl 0 rfl) ?_
    refine lv_iload_n F.x F.b dX6_in_6 rfl (lv_at hl 2 rfl) ?_
    refine lv_icmp_gt (tgt := 14) F.x F.b dX6_in_7 (by decide) (fun g2 => ?_) (fun g2 => ?_)
    · have h := h.1 g2
      refine lv_iconst (v := 0) F.x F.b dX6_in_14 (by decide) ?_
      exact retZ F hr C rfl h dX6_in_15
    · have h := h.2 g2
      refine lv_iconst (v := 1) F.x F.b dX6_in_10 (by decide) ?_
      refine lv_goto (tgt := 15) F.x F.b dX6_in_11 (by decide) ?_
      exact retZ F hr C rfl h dX6_in_15

def rmX6_tries : Room := { frames := 0, cells := 0, slots := 0, locals := 0 }
def mX6_tries_b7 (post : Mem → Prop) : Nat → Mem → Int32 → Prop
  | 0, _, _ => False
  | n + 1, S, v1 => (((84 : Int32) ≤ v1 → (post S)) ∧ (¬ (84 : Int32) ≤ v1 → (vp_in v1 84 ∧ vp_in v1 84 ∧ ∀ S4 : Mem, S4 = wr S 12 0 v1.toNatClampNeg (S 11 0 v1.toNatClampNeg) → ∀ x5 : Int32, x5 = v1 + (1 : Int32) → mX6_tries_b7 post n S4 x5)))
def mX6_tries (post : Mem → Prop) (S : Mem) : Prop := ∀ S1 : Mem, S1 = wr S 10 0 21 (0 : Int32) → ∃ fu : Nat, mX6_tries_b7 post fu S1 (0 : Int32)
set_option maxRecDepth 100000 in
set_option maxHeartbeats 4000000 in
theorem bX6_tries_7 {p : Program} {l : Launch} {e : Env} {s : State} {m : MethodId} {args : Array Value} {below : List Frame} {meth : Method} {c : Code} {D : va_G} {ky : Nat → ClassId} {ad : Nat → Nat} {ex : Nat → Nat → Nat} (F : Fx p s m args meth c D ky ad ex cX6_tries 2 yX6_tries.cls) (hr : meth.sig.returnType = none) {post : Mem → Prop} : ∀ (n : Nat) (S : Mem) (v1 : Int32) (H : Heap) (locs : List Loc) (ls : Array Slot), mX6_tries_b7 post n S v1 → Cx D ky ad s S H locs → lv_has ls 2 [(0, .ref (ad 117)), (1, .int v1)] → W p l e rmX6_tries s m args below meth c H locs 0 0 (MQ below (va_Qv post (AFT D ky ad) (AW ad s.heap.size)) args s 0 0 (AW ad s.heap.size)) (F0 m 7 ls []) := by
  intro n
  induction n with
  | zero =>
    intro S v1 H locs ls  h
    exact False.elim h
  | succ n ih =>
    intro S v1 H locs ls  h C hl
    refine lv_iload_n F.x F.b dX6_tries_7 rfl (lv_at hl 1 rfl) ?_
    refine lv_bipush (v := 84) F.x F.b dX6_tries_8 (by decide) ?_
    refine lv_icmp_ge (tgt := 31) F.x F.b dX6_tries_10 (by decide) (fun g1 => ?_) (fun g1 => ?_)
    · have h := h.1 g1
      exact retV F hr C h dX6_tries_31
    · have h := h.2 g1
      refine lv_aload_n F.x F.b dX6_tries_13 rfl (lv_at hl 0 rfl) ?_
      refine getM F C 1 (by decide) q4_223 (v := .ref (ad 119)) rfl dX6_tries_14 ?_
      refine lv_iload_n F.x F.b dX6_tries_17 rfl (lv_at hl 1 rfl) ?_
      refine lv_aload_n F.x F.b dX6_tries_18 rfl (lv_at hl 0 rfl) ?_
      refine getM F C 0 (by decide) q4_222 (v := .ref (ad 118)) rfl dX6_tries_19 ?_
      refine lv_iload_n F.x F.b dX6_tries_22 rfl (lv_at hl 1 rfl) ?_
      obtain ⟨g2, h⟩ := h
      refine aldI F C (o := 118) (cq := 11) (iq := 0) (by decide) rfl rfl rfl g2 dX6_tries_23 ?_
      obtain ⟨g3, h⟩ := h
      refine astI F C (o := 119) (cq := 12) (iq := 0) (by decide) rfl rfl (fun _ => rfl) g3 dX6_tries_24 (fun H locs C => ?_)
      obtain ⟨S4, eS4⟩ : ∃ z : Mem, z = wr S 12 0 v1.toNatClampNeg (S 11 0 v1.toNatClampNeg) := ⟨_, rfl⟩
      rw [← eS4] at C
      have h := h S4 eS4
      obtain ⟨x5, ex5⟩ : ∃ z : Int32, z = v1 + (1 : Int32) := ⟨_, rfl⟩
      have h := h x5 ex5
      refine lv_iinc (v := x5) (lv' := [(1, .int x5), (0, .ref (ad 117))]) F.x F.b dX6_tries_25 hl (k := 1) rfl (by rw [ex5]; rfl) (by decide) rfl (fun ls hl => ?_)
      refine lv_goto (tgt := 7) F.x F.b dX6_tries_28 (by decide) ?_
      exact ih S4 x5 _ _ _ h C (lv_sub hl [1, 0] rfl)
set_option maxRecDepth 100000 in
set_option maxHeartbeats 4000000 in
theorem kX6_tries {l : Launch} {D : va_G} {ky : Nat → ClassId} {ad : Nat → Nat} {ex : Nat → Nat → Nat} {post : Mem → Prop} {S : Mem} (h : mX6_tries post S ) : CMv l D ky ad ex yX6_tries cX6_tries 2 none rmX6_tries 0 0 [.ref (ad 117)] S post := by
  refine CMv.of (by decide) (Nat.le_of_ble_eq_true rfl) (fun p e s m args below meth c ls F hr C hl => ?_)
  have hl : lv_has ls 2 [(0, .ref (ad 117))] := hl
  unfold mX6_tries at h
  refine lv_aload_n F.x F.b dX6_tries_0 rfl (lv_at hl 0 rfl) ?_
  refine lv_iconst (v := 0) F.x F.b dX6_tries_1 (by decide) ?_
  refine putM F C 21 (by decide) q5_3 rfl (tyX6_ok 21 (by decide)) rfl rfl rfl dX6_tries_2 (fun H locs C => ?_)
  obtain ⟨S1, eS1⟩ : ∃ z : Mem, z = wr S 10 0 21 (0 : Int32) := ⟨_, rfl⟩
  rw [← eS1] at C
  have h := h S1 eS1
  refine lv_iconst (v := 0) F.x F.b dX6_tries_5 (by decide) ?_
  refine lv_istore_n (lv' := [(1, .int (0 : Int32)), (0, .ref (ad 117))]) F.x F.b dX6_tries_6 rfl hl (by decide) rfl (fun ls hl => ?_)
  obtain ⟨n2, h⟩ := h
  exact bX6_tries_7 F hr n2 S1 (0 : Int32) _ _ _ h C (lv_sub hl [1, 0] rfl)

def rmX6_thinks : Room := { frames := 0, cells := 0, slots := 0, locals := 0 }
def mX6_thinks_b2 (post : Mem → Prop) : Nat → Mem → Int32 → Prop
  | 0, _, _ => False
  | n + 1, S, v1 => (((84 : Int32) ≤ v1 → (post S)) ∧ (¬ (84 : Int32) ≤ v1 → (vp_in v1 84 ∧ vp_in v1 84 ∧ ∀ S4 : Mem, S4 = wr S 13 0 v1.toNatClampNeg (S 11 0 v1.toNatClampNeg) → ∀ x5 : Int32, x5 = v1 + (1 : Int32) → mX6_thinks_b2 post n S4 x5)))
def mX6_thinks (post : Mem → Prop) (S : Mem) : Prop := ∃ fu : Nat, mX6_thinks_b2 post fu S (0 : Int32)
set_option maxRecDepth 100000 in
set_option maxHeartbeats 4000000 in
theorem bX6_thinks_2 {p : Program} {l : Launch} {e : Env} {s : State} {m : MethodId} {args : Array Value} {below : List Frame} {meth : Method} {c : Code} {D : va_G} {ky : Nat → ClassId} {ad : Nat → Nat} {ex : Nat → Nat → Nat} (F : Fx p s m args meth c D ky ad ex cX6_thinks 2 yX6_thinks.cls) (hr : meth.sig.returnType = none) {post : Mem → Prop} : ∀ (n : Nat) (S : Mem) (v1 : Int32) (H : Heap) (locs : List Loc) (ls : Array Slot), mX6_thinks_b2 post n S v1 → Cx D ky ad s S H locs → lv_has ls 2 [(0, .ref (ad 117)), (1, .int v1)] → W p l e rmX6_thinks s m args below meth c H locs 0 0 (MQ below (va_Qv post (AFT D ky ad) (AW ad s.heap.size)) args s 0 0 (AW ad s.heap.size)) (F0 m 2 ls []) := by
  intro n
  induction n with
  | zero =>
    intro S v1 H locs ls  h
    exact False.elim h
  | succ n ih =>
    intro S v1 H locs ls  h C hl
    refine lv_iload_n F.x F.b dX6_thinks_2 rfl (lv_at hl 1 rfl) ?_
    refine lv_bipush (v := 84) F.x F.b dX6_thinks_3 (by decide) ?_
    refine lv_icmp_ge (tgt := 26) F.x F.b dX6_thinks_5 (by decide) (fun g1 => ?_) (fun g1 => ?_)
    · have h := h.1 g1
      exact retV F hr C h dX6_thinks_26
    · have h := h.2 g1
      refine lv_aload_n F.x F.b dX6_thinks_8 rfl (lv_at hl 0 rfl) ?_
      refine getM F C 2 (by decide) q4_224 (v := .ref (ad 120)) rfl dX6_thinks_9 ?_
      refine lv_iload_n F.x F.b dX6_thinks_12 rfl (lv_at hl 1 rfl) ?_
      refine lv_aload_n F.x F.b dX6_thinks_13 rfl (lv_at hl 0 rfl) ?_
      refine getM F C 0 (by decide) q4_222 (v := .ref (ad 118)) rfl dX6_thinks_14 ?_
      refine lv_iload_n F.x F.b dX6_thinks_17 rfl (lv_at hl 1 rfl) ?_
      obtain ⟨g2, h⟩ := h
      refine aldI F C (o := 118) (cq := 11) (iq := 0) (by decide) rfl rfl rfl g2 dX6_thinks_18 ?_
      obtain ⟨g3, h⟩ := h
      refine astI F C (o := 120) (cq := 13) (iq := 0) (by decide) rfl rfl (fun _ => rfl) g3 dX6_thinks_19 (fun H locs C => ?_)
      obtain ⟨S4, eS4⟩ : ∃ z : Mem, z = wr S 13 0 v1.toNatClampNeg (S 11 0 v1.toNatClampNeg) := ⟨_, rfl⟩
      rw [← eS4] at C
      have h := h S4 eS4
      obtain ⟨x5, ex5⟩ : ∃ z : Int32, z = v1 + (1 : Int32) := ⟨_, rfl⟩
      have h := h x5 ex5
      refine lv_iinc (v := x5) (lv' := [(1, .int x5), (0, .ref (ad 117))]) F.x F.b dX6_thinks_20 hl (k := 1) rfl (by rw [ex5]; rfl) (by decide) rfl (fun ls hl => ?_)
      refine lv_goto (tgt := 2) F.x F.b dX6_thinks_23 (by decide) ?_
      exact ih S4 x5 _ _ _ h C (lv_sub hl [1, 0] rfl)
set_option maxRecDepth 100000 in
set_option maxHeartbeats 4000000 in
theorem kX6_thinks {l : Launch} {D : va_G} {ky : Nat → ClassId} {ad : Nat → Nat} {ex : Nat → Nat → Nat} {post : Mem → Prop} {S : Mem} (h : mX6_thinks post S ) : CMv l D ky ad ex yX6_thinks cX6_thinks 2 none rmX6_thinks 0 0 [.ref (ad 117)] S post := by
  refine CMv.of (by decide) (Nat.le_of_ble_eq_true rfl) (fun p e s m args below meth c ls F hr C hl => ?_)
  have hl : lv_has ls 2 [(0, .ref (ad 117))] := hl
  unfold mX6_thinks at h
  refine lv_iconst (v := 0) F.x F.b dX6_thinks_0 (by decide) ?_
  refine lv_istore_n (lv' := [(1, .int (0 : Int32)), (0, .ref (ad 117))]) F.x F.b dX6_thinks_1 rfl hl (by decide) rfl (fun ls hl => ?_)
  obtain ⟨n1, h⟩ := h
  exact bX6_thinks_2 F hr n1 S (0 : Int32) _ _ _ h C (lv_sub hl [1, 0] rfl)

def rmX6_thinksNoMore : Room := { frames := 0, cells := 0, slots := 0, locals := 0 }
def mX6_thinksNoMore_b2 (post : Mem → Prop) : Nat → Mem → Int32 → Prop
  | 0, _, _ => False
  | n + 1, S, v1 => (((84 : Int32) ≤ v1 → (post S)) ∧ (¬ (84 : Int32) ≤ v1 → (vp_in v1 84 ∧ vp_in v1 84 ∧ ∀ S4 : Mem, S4 = wr S 11 0 v1.toNatClampNeg (S 13 0 v1.toNatClampNeg) → ∀ x5 : Int32, x5 = v1 + (1 : Int32) → mX6_thinksNoMore_b2 post n S4 x5)))
def mX6_thinksNoMore (post : Mem → Prop) (S : Mem) : Prop := ∃ fu : Nat, mX6_thinksNoMore_b2 post fu S (0 : Int32)
set_option maxRecDepth 100000 in
set_option maxHeartbeats 4000000 in
theorem bX6_thinksNoMore_2 {p : Program} {l : Launch} {e : Env} {s : State} {m : MethodId} {args : Array Value} {below : List Frame} {meth : Method} {c : Code} {D : va_G} {ky : Nat → ClassId} {ad : Nat → Nat} {ex : Nat → Nat → Nat} (F : Fx p s m args meth c D ky ad ex cX6_thinksNoMore 2 yX6_thinksNoMore.cls) (hr : meth.sig.returnType = none) {post : Mem → Prop} : ∀ (n : Nat) (S : Mem) (v1 : Int32) (H : Heap) (locs : List Loc) (ls : Array Slot), mX6_thinksNoMore_b2 post n S v1 → Cx D ky ad s S H locs → lv_has ls 2 [(0, .ref (ad 117)), (1, .int v1)] → W p l e rmX6_thinksNoMore s m args below meth c H locs 0 0 (MQ below (va_Qv post (AFT D ky ad) (AW ad s.heap.size)) args s 0 0 (AW ad s.heap.size)) (F0 m 2 ls []) := by
  intro n
  induction n with
  | zero =>
    intro S v1 H locs ls  h
    exact False.elim h
  | succ n ih =>
    intro S v1 H locs ls  h C hl
    refine lv_iload_n F.x F.b dX6_thinksNoMore_2 rfl (lv_at hl 1 rfl) ?_
    refine lv_bipush (v := 84) F.x F.b dX6_thinksNoMore_3 (by decide) ?_
    refine lv_icmp_ge (tgt := 26) F.x F.b dX6_thinksNoMore_5 (by decide) (fun g1 => ?_) (fun g1 => ?_)
    · have h := h.1 g1
      exact retV F hr C h dX6_thinksNoMore_26
    · have h := h.2 g1
      refine lv_aload_n F.x F.b dX6_thinksNoMore_8 rfl (lv_at hl 0 rfl) ?_
      refine getM F C 0 (by decide) q4_222 (v := .ref (ad 118)) rfl dX6_thinksNoMore_9 ?_
      refine lv_iload_n F.x F.b dX6_thinksNoMore_12 rfl (lv_at hl 1 rfl) ?_
      refine lv_aload_n F.x F.b dX6_thinksNoMore_13 rfl (lv_at hl 0 rfl) ?_
      refine getM F C 2 (by decide) q4_224 (v := .ref (ad 120)) rfl dX6_thinksNoMore_14 ?_
      refine lv_iload_n F.x F.b dX6_thinksNoMore_17 rfl (lv_at hl 1 rfl) ?_
      obtain ⟨g2, h⟩ := h
      refine aldI F C (o := 120) (cq := 13) (iq := 0) (by decide) rfl rfl rfl g2 dX6_thinksNoMore_18 ?_
      obtain ⟨g3, h⟩ := h
      refine astI F C (o := 118) (cq := 11) (iq := 0) (by decide) rfl rfl (fun _ => rfl) g3 dX6_thinksNoMore_19 (fun H locs C => ?_)
      obtain ⟨S4, eS4⟩ : ∃ z : Mem, z = wr S 11 0 v1.toNatClampNeg (S 13 0 v1.toNatClampNeg) := ⟨_, rfl⟩
      rw [← eS4] at C
      have h := h S4 eS4
      obtain ⟨x5, ex5⟩ : ∃ z : Int32, z = v1 + (1 : Int32) := ⟨_, rfl⟩
      have h := h x5 ex5
      refine lv_iinc (v := x5) (lv' := [(1, .int x5), (0, .ref (ad 117))]) F.x F.b dX6_thinksNoMore_20 hl (k := 1) rfl (by rw [ex5]; rfl) (by decide) rfl (fun ls hl => ?_)
      refine lv_goto (tgt := 2) F.x F.b dX6_thinksNoMore_23 (by decide) ?_
      exact ih S4 x5 _ _ _ h C (lv_sub hl [1, 0] rfl)
set_option maxRecDepth 100000 in
set_option maxHeartbeats 4000000 in
theorem kX6_thinksNoMore {l : Launch} {D : va_G} {ky : Nat → ClassId} {ad : Nat → Nat} {ex : Nat → Nat → Nat} {post : Mem → Prop} {S : Mem} (h : mX6_thinksNoMore post S ) : CMv l D ky ad ex yX6_thinksNoMore cX6_thinksNoMore 2 none rmX6_thinksNoMore 0 0 [.ref (ad 117)] S post := by
  refine CMv.of (by decide) (Nat.le_of_ble_eq_true rfl) (fun p e s m args below meth c ls F hr C hl => ?_)
  have hl : lv_has ls 2 [(0, .ref (ad 117))] := hl
  unfold mX6_thinksNoMore at h
  refine lv_iconst (v := 0) F.x F.b dX6_thinksNoMore_0 (by decide) ?_
  refine lv_istore_n (lv' := [(1, .int (0 : Int32)), (0, .ref (ad 117))]) F.x F.b dX6_thinksNoMore_1 rfl hl (by decide) rfl (fun ls hl => ?_)
  obtain ⟨n1, h⟩ := h
  exact bX6_thinksNoMore_2 F hr n1 S (0 : Int32) _ _ _ h C (lv_sub hl [1, 0] rfl)

def rmX6_keeps : Room := { frames := 0, cells := 0, slots := 0, locals := 0 }
def mX6_keeps_b51 (post : Int32 → Mem → Prop) : Nat → Mem → Int32 → Int32 → Prop
  | 0, _, _, _ => False
  | n + 1, S, v1, v2 => (((84 : Int32) ≤ v2 → (∀ S2 : Mem, S2 = wr S 10 0 4 ((S 10 0 4) + (1 : Int32)) → post v1 S2)) ∧ (¬ (84 : Int32) ≤ v2 → (vp_in v2 84 ∧ vp_in (((84 : Int32) * (S 10 0 4)) + v2) 672 ∧ ∀ S5 : Mem, S5 = wr S 14 0 ((((84 : Int32) * (S 10 0 4)) + v2)).toNatClampNeg (S 12 0 v2.toNatClampNeg) → ∀ x6 : Int32, x6 = v2 + (1 : Int32) → mX6_keeps_b51 post n S5 v1 x6)))
def mX6_keeps_b11 (post : Int32 → Mem → Prop) : Nat → Mem → Int32 → Int32 → Prop
  | 0, _, _, _ => False
  | n + 1, S, v1, v2 => (((588 : Int32) ≤ v2 → (∀ S2 : Mem, S2 = wr S 10 0 4 ((S 10 0 4) - (1 : Int32)) → ∃ fu : Nat, mX6_keeps_b51 post fu S2 v1 (0 : Int32))) ∧ (¬ (588 : Int32) ≤ v2 → (vp_in ((84 : Int32) + v2) 672 ∧ vp_in v2 672 ∧ ∀ S6 : Mem, S6 = wr S 14 0 v2.toNatClampNeg (S 14 0 (((84 : Int32) + v2)).toNatClampNeg) → ∀ x7 : Int32, x7 = v2 + (1 : Int32) → mX6_keeps_b11 post n S6 v1 x7)))
def mX6_keeps (post : Int32 → Mem → Prop) (S : Mem) (v1 : Int32) : Prop := ((¬ (S 10 0 4) = (8 : Int32) → (∃ fu : Nat, mX6_keeps_b51 post fu S v1 (0 : Int32))) ∧ ((S 10 0 4) = (8 : Int32) → (∃ fu : Nat, mX6_keeps_b11 post fu S v1 (0 : Int32))))
set_option maxRecDepth 100000 in
set_option maxHeartbeats 4000000 in
theorem bX6_keeps_51 {p : Program} {l : Launch} {e : Env} {s : State} {m : MethodId} {args : Array Value} {below : List Frame} {meth : Method} {c : Code} {D : va_G} {ky : Nat → ClassId} {ad : Nat → Nat} {ex : Nat → Nat → Nat} (F : Fx p s m args meth c D ky ad ex cX6_keeps 3 yX6_keeps.cls) (hr : meth.sig.returnType = (some .int)) {post : Int32 → Mem → Prop} : ∀ (n : Nat) (S : Mem) (v1 : Int32) (v2 : Int32) (H : Heap) (locs : List Loc) (ls : Array Slot), mX6_keeps_b51 post n S v1 v2 → Cx D ky ad s S H locs → lv_has ls 3 [(0, .ref (ad 117)), (1, .int v1), (2, .int v2)] → W p l e rmX6_keeps s m args below meth c H locs 0 0 (MQ below (va_Qi post (AFT D ky ad) (AW ad s.heap.size)) args s 0 0 (AW ad s.heap.size)) (F0 m 51 ls []) := by
  intro n
  induction n with
  | zero =>
    intro S v1 v2 H locs ls  h
    exact False.elim h
  | succ n ih =>
    intro S v1 v2 H locs ls  h C hl
    refine lv_iload_n F.x F.b dX6_keeps_51 rfl (lv_at hl 2 rfl) ?_
    refine lv_bipush (v := 84) F.x F.b dX6_keeps_52 (by decide) ?_
    refine lv_icmp_ge (tgt := 83) F.x F.b dX6_keeps_54 (by decide) (fun g1 => ?_) (fun g1 => ?_)
    · have h := h.1 g1
      refine lv_aload_n F.x F.b dX6_keeps_83 rfl (lv_at hl 0 rfl) ?_
      refine lv_dup F.x F.b dX6_keeps_84 rfl ?_
      refine getM F C 4 (by decide) q4_226 (v := .int (S 10 0 4)) rfl dX6_keeps_85 ?_
      refine lv_iconst (v := 1) F.x F.b dX6_keeps_88 (by decide) ?_
      refine lv_iadd F.x F.b dX6_keeps_89 ?_
      refine putM F C 4 (by decide) q4_226 rfl (tyX6_ok 4 (by decide)) rfl rfl rfl dX6_keeps_90 (fun H locs C => ?_)
      obtain ⟨S2, eS2⟩ : ∃ z : Mem, z = wr S 10 0 4 ((S 10 0 4) + (1 : Int32)) := ⟨_, rfl⟩
      rw [← eS2] at C
      have h := h S2 eS2
      refine lv_iload_n F.x F.b dX6_keeps_93 rfl (lv_at hl 1 rfl) ?_
      exact retI F hr C h dX6_keeps_94
    · have h := h.2 g1
      refine lv_aload_n F.x F.b dX6_keeps_57 rfl (lv_at hl 0 rfl) ?_
      refine getM F C 3 (by decide) q4_225 (v := .ref (ad 121)) rfl dX6_keeps_58 ?_
      refine lv_bipush (v := 84) F.x F.b dX6_keeps_61 (by decide) ?_
      refine lv_aload_n F.x F.b dX6_keeps_63 rfl (lv_at hl 0 rfl) ?_
      refine getM F C 4 (by decide) q4_226 (v := .int (S 10 0 4)) rfl dX6_keeps_64 ?_
      refine lv_imul F.x F.b dX6_keeps_67 ?_
      refine lv_iload_n F.x F.b dX6_keeps_68 rfl (lv_at hl 2 rfl) ?_
      refine lv_iadd F.x F.b dX6_keeps_69 ?_
      refine lv_aload_n F.x F.b dX6_keeps_70 rfl (lv_at hl 0 rfl) ?_
      refine getM F C 1 (by decide) q4_223 (v := .ref (ad 119)) rfl dX6_keeps_71 ?_
      refine lv_iload_n F.x F.b dX6_keeps_74 rfl (lv_at hl 2 rfl) ?_
      obtain ⟨g3, h⟩ := h
      refine aldI F C (o := 119) (cq := 12) (iq := 0) (by decide) rfl rfl rfl g3 dX6_keeps_75 ?_
      obtain ⟨g4, h⟩ := h
      refine astI F C (o := 121) (cq := 14) (iq := 0) (by decide) rfl rfl (fun _ => rfl) g4 dX6_keeps_76 (fun H locs C => ?_)
      obtain ⟨S5, eS5⟩ : ∃ z : Mem, z = wr S 14 0 ((((84 : Int32) * (S 10 0 4)) + v2)).toNatClampNeg (S 12 0 v2.toNatClampNeg) := ⟨_, rfl⟩
      rw [← eS5] at C
      have h := h S5 eS5
      obtain ⟨x6, ex6⟩ : ∃ z : Int32, z = v2 + (1 : Int32) := ⟨_, rfl⟩
      have h := h x6 ex6
      refine lv_iinc (v := x6) (lv' := [(2, .int x6), (0, .ref (ad 117)), (1, .int v1)]) F.x F.b dX6_keeps_77 hl (k := 2) rfl (by rw [ex6]; rfl) (by decide) rfl (fun ls hl => ?_)
      refine lv_goto (tgt := 51) F.x F.b dX6_keeps_80 (by decide) ?_
      exact ih S5 v1 x6 _ _ _ h C (lv_sub hl [1, 2, 0] rfl)
set_option maxRecDepth 100000 in
set_option maxHeartbeats 4000000 in
theorem bX6_keeps_11 {p : Program} {l : Launch} {e : Env} {s : State} {m : MethodId} {args : Array Value} {below : List Frame} {meth : Method} {c : Code} {D : va_G} {ky : Nat → ClassId} {ad : Nat → Nat} {ex : Nat → Nat → Nat} (F : Fx p s m args meth c D ky ad ex cX6_keeps 3 yX6_keeps.cls) (hr : meth.sig.returnType = (some .int)) {post : Int32 → Mem → Prop} : ∀ (n : Nat) (S : Mem) (v1 : Int32) (v2 : Int32) (H : Heap) (locs : List Loc) (ls : Array Slot), mX6_keeps_b11 post n S v1 v2 → Cx D ky ad s S H locs → lv_has ls 3 [(0, .ref (ad 117)), (1, .int v1), (2, .int v2)] → W p l e rmX6_keeps s m args below meth c H locs 0 0 (MQ below (va_Qi post (AFT D ky ad) (AW ad s.heap.size)) args s 0 0 (AW ad s.heap.size)) (F0 m 11 ls []) := by
  intro n
  induction n with
  | zero =>
    intro S v1 v2 H locs ls  h
    exact False.elim h
  | succ n ih =>
    intro S v1 v2 H locs ls  h C hl
    refine lv_iload_n F.x F.b dX6_keeps_11 rfl (lv_at hl 2 rfl) ?_
    refine lv_sipush (v := 588) F.x F.b dX6_keeps_12 (by decide) ?_
    refine lv_icmp_ge (tgt := 39) F.x F.b dX6_keeps_15 (by decide) (fun g1 => ?_) (fun g1 => ?_)
    · have h := h.1 g1
      refine lv_aload_n F.x F.b dX6_keeps_39 rfl (lv_at hl 0 rfl) ?_
      refine lv_dup F.x F.b dX6_keeps_40 rfl ?_
      refine getM F C 4 (by decide) q4_226 (v := .int (S 10 0 4)) rfl dX6_keeps_41 ?_
      refine lv_iconst (v := 1) F.x F.b dX6_keeps_44 (by decide) ?_
      refine lv_isub F.x F.b dX6_keeps_45 ?_
      refine putM F C 4 (by decide) q4_226 rfl (tyX6_ok 4 (by decide)) rfl rfl rfl dX6_keeps_46 (fun H locs C => ?_)
      obtain ⟨S2, eS2⟩ : ∃ z : Mem, z = wr S 10 0 4 ((S 10 0 4) - (1 : Int32)) := ⟨_, rfl⟩
      rw [← eS2] at C
      have h := h S2 eS2
      refine lv_iconst (v := 0) F.x F.b dX6_keeps_49 (by decide) ?_
      refine lv_istore_n (lv' := [(2, .int (0 : Int32)), (0, .ref (ad 117)), (1, .int v1)]) F.x F.b dX6_keeps_50 rfl hl (by decide) rfl (fun ls hl => ?_)
      obtain ⟨n3, h⟩ := h
      exact bX6_keeps_51 F hr n3 S2 v1 (0 : Int32) _ _ _ h C (lv_sub hl [1, 2, 0] rfl)
    · have h := h.2 g1
      refine lv_aload_n F.x F.b dX6_keeps_18 rfl (lv_at hl 0 rfl) ?_
      refine getM F C 3 (by decide) q4_225 (v := .ref (ad 121)) rfl dX6_keeps_19 ?_
      refine lv_iload_n F.x F.b dX6_keeps_22 rfl (lv_at hl 2 rfl) ?_
      refine lv_aload_n F.x F.b dX6_keeps_23 rfl (lv_at hl 0 rfl) ?_
      refine getM F C 3 (by decide) q4_225 (v := .ref (ad 121)) rfl dX6_keeps_24 ?_
      refine lv_bipush (v := 84) F.x F.b dX6_keeps_27 (by decide) ?_
      refine lv_iload_n F.x F.b dX6_keeps_29 rfl (lv_at hl 2 rfl) ?_
      refine lv_iadd F.x F.b dX6_keeps_30 ?_
      obtain ⟨g4, h⟩ := h
      refine aldI F C (o := 121) (cq := 14) (iq := 0) (by decide) rfl rfl rfl g4 dX6_keeps_31 ?_
      obtain ⟨g5, h⟩ := h
      refine astI F C (o := 121) (cq := 14) (iq := 0) (by decide) rfl rfl (fun _ => rfl) g5 dX6_keeps_32 (fun H locs C => ?_)
      obtain ⟨S6, eS6⟩ : ∃ z : Mem, z = wr S 14 0 v2.toNatClampNeg (S 14 0 (((84 : Int32) + v2)).toNatClampNeg) := ⟨_, rfl⟩
      rw [← eS6] at C
      have h := h S6 eS6
      obtain ⟨x7, ex7⟩ : ∃ z : Int32, z = v2 + (1 : Int32) := ⟨_, rfl⟩
      have h := h x7 ex7
      refine lv_iinc (v := x7) (lv' := [(2, .int x7), (0, .ref (ad 117)), (1, .int v1)]) F.x F.b dX6_keeps_33 hl (k := 2) rfl (by rw [ex7]; rfl) (by decide) rfl (fun ls hl => ?_)
      refine lv_goto (tgt := 11) F.x F.b dX6_keeps_36 (by decide) ?_
      exact ih S6 v1 x7 _ _ _ h C (lv_sub hl [1, 2, 0] rfl)
set_option maxRecDepth 100000 in
set_option maxHeartbeats 4000000 in
theorem kX6_keeps {l : Launch} {D : va_G} {ky : Nat → ClassId} {ad : Nat → Nat} {ex : Nat → Nat → Nat} {post : Int32 → Mem → Prop} {S : Mem} {v1 : Int32} (h : mX6_keeps post S v1) : CMi l D ky ad ex yX6_keeps cX6_keeps 3 (some .int) rmX6_keeps 0 0 [.ref (ad 117), .int v1] S post := by
  refine CMi.of (by decide) (Nat.le_of_ble_eq_true rfl) (fun p e s m args below meth c ls F hr C hl => ?_)
  have hl : lv_has ls 3 [(0, .ref (ad 117)), (1, .int v1)] := hl
  unfold mX6_keeps at h
  refine lv_aload_n F.x F.b dX6_keeps_0 rfl (lv_at hl 0 rfl) ?_
  refine getM F C 4 (by decide) q4_226 (v := .int (S 10 0 4)) rfl dX6_keeps_1 ?_
  refine lv_bipush (v := 8) F.x F.b dX6_keeps_4 (by decide) ?_
  refine lv_icmp_ne (tgt := 49) F.x F.b dX6_keeps_6 (by decide) (fun g1 => ?_) (fun g1 => ?_)
  · have h := h.1 g1
    refine lv_iconst (v := 0) F.x F.b dX6_keeps_49 (by decide) ?_
    refine lv_istore_n (lv' := [(2, .int (0 : Int32)), (0, .ref (ad 117)), (1, .int v1)]) F.x F.b dX6_keeps_50 rfl hl (by decide) rfl (fun ls hl => ?_)
    obtain ⟨n2, h⟩ := h
    exact bX6_keeps_51 F hr n2 S v1 (0 : Int32) _ _ _ h C (lv_sub hl [1, 2, 0] rfl)
  · have h := h.2 g1
    refine lv_iconst (v := 0) F.x F.b dX6_keeps_9 (by decide) ?_
    refine lv_istore_n (lv' := [(2, .int (0 : Int32)), (0, .ref (ad 117)), (1, .int v1)]) F.x F.b dX6_keeps_10 rfl hl (by decide) rfl (fun ls hl => ?_)
    obtain ⟨n3, h⟩ := h
    exact bX6_keeps_11 F hr n3 S v1 (0 : Int32) _ _ _ h C (lv_sub hl [1, 2, 0] rfl)

def rmX6_refuses : Room := { frames := 1, cells := 0, slots := 0, locals := 21 }
def mX6_refuses (post : Int32 → Mem → Prop) (S : Mem) (v1 : Int32) (v2 : Int32) (v3 : Int32) : Prop := ∀ S1 : Mem, S1 = wr S 10 0 19 v2 → ∀ S2 : Mem, S2 = wr S1 10 0 20 v3 → mX6_raises (fun (r4 : Int32) (S3 : Mem) => post r4 S3) S2 v1
set_option maxRecDepth 100000 in
set_option maxHeartbeats 4000000 in
theorem kX6_refuses {l : Launch} {D : va_G} {ky : Nat → ClassId} {ad : Nat → Nat} {ex : Nat → Nat → Nat} {post : Int32 → Mem → Prop} {S : Mem} {v1 : Int32} {v2 : Int32} {v3 : Int32} (h : mX6_refuses post S v1 v2 v3) : CMi l D ky ad ex yX6_refuses cX6_refuses 4 (some .int) rmX6_refuses 0 0 [.ref (ad 117), .int v1, .int v2, .int v3] S post := by
  refine CMi.of (by decide) (Nat.le_of_ble_eq_true rfl) (fun p e s m args below meth c ls F hr C hl => ?_)
  have hl : lv_has ls 4 [(0, .ref (ad 117)), (1, .int v1), (2, .int v2), (3, .int v3)] := hl
  unfold mX6_refuses at h
  refine lv_aload_n F.x F.b dX6_refuses_0 rfl (lv_at hl 0 rfl) ?_
  refine lv_iload_n F.x F.b dX6_refuses_1 rfl (lv_at hl 2 rfl) ?_
  refine putM F C 19 (by decide) q5_1 rfl (tyX6_ok 19 (by decide)) rfl rfl rfl dX6_refuses_2 (fun H locs C => ?_)
  obtain ⟨S1, eS1⟩ : ∃ z : Mem, z = wr S 10 0 19 v2 := ⟨_, rfl⟩
  rw [← eS1] at C
  have h := h S1 eS1
  refine lv_aload_n F.x F.b dX6_refuses_5 rfl (lv_at hl 0 rfl) ?_
  refine lv_iload_n F.x F.b dX6_refuses_6 rfl (lv_at hl 3 rfl) ?_
  refine putM F C 20 (by decide) q5_2 rfl (tyX6_ok 20 (by decide)) rfl rfl rfl dX6_refuses_7 (fun H locs C => ?_)
  obtain ⟨S2, eS2⟩ : ∃ z : Mem, z = wr S1 10 0 20 v3 := ⟨_, rfl⟩
  rw [← eS2] at C
  have h := h S2 eS2
  refine lv_aload_n F.x F.b dX6_refuses_10 rfl (lv_at hl 0 rfl) ?_
  refine lv_iload_n F.x F.b dX6_refuses_11 rfl (lv_at hl 1 rfl) ?_
  refine kI F C hl (kX6_raises  h) (by decide) (ce_M _) rfl wv_X6_58 ⟨rfl, rfl, ⟨Nat.le_of_ble_eq_true rfl, Nat.le_of_ble_eq_true rfl⟩, ⟨Nat.le_of_ble_eq_true rfl, Nat.le_of_ble_eq_true rfl⟩, Nat.le_of_ble_eq_true rfl⟩ (rest := []) rfl dX6_refuses_12 (fun r4 S3 H locs h C => ?_)
  exact retI F hr C h dX6_refuses_15

def rmX6_isStone : Room := { frames := 1, cells := 0, slots := 0, locals := 22 }
def mX6_isStone (post : Int32 → Mem → Prop) (S : Mem) (v0 : Int32) : Prop := mX6_in (fun (r2 : Int32) (S1 : Mem) => isB r2 ∧ post r2 S1) S v0 (0 : Int32) (9 : Int32)
set_option maxRecDepth 100000 in
set_option maxHeartbeats 4000000 in
theorem kX6_isStone {l : Launch} {D : va_G} {ky : Nat → ClassId} {ad : Nat → Nat} {ex : Nat → Nat → Nat} {post : Int32 → Mem → Prop} {S : Mem} {v0 : Int32} (h : mX6_isStone post S v0) : CMi l D ky ad ex yX6_isStone cX6_isStone 1 (some .boolean) rmX6_isStone 0 0 [.int v0] S post := by
  refine CMi.of (by decide) (Nat.le_of_ble_eq_true rfl) (fun p e s m args below meth c ls F hr C hl => ?_)
  have hl : lv_has ls 1 [(0, .int v0)] := hl
  unfold mX6_isStone at h
  refine lv_iload_n F.x F.b dX6_isStone_0 rfl (lv_at hl 0 rfl) ?_
  refine lv_iconst (v := 0) F.x F.b dX6_isStone_1 (by decide) ?_
  refine lv_bipush (v := 9) F.x F.b dX6_isStone_2 (by decide) ?_
  refine kSI F C hl (kX6_in  h) wv_X6_62 ⟨rfl, rfl, ⟨Nat.le_of_ble_eq_true rfl, Nat.le_of_ble_eq_true rfl⟩, ⟨Nat.le_of_ble_eq_true rfl, Nat.le_of_ble_eq_true rfl⟩, Nat.le_of_ble_eq_true rfl⟩ (rest := []) rfl dX6_isStone_4 (fun r2 S1 H locs h C => ?_)
  exact retZ F hr C h.1.n h.2 dX6_isStone_7

def rmX6_isTraveller : Room := { frames := 1, cells := 0, slots := 0, locals := 22 }
def mX6_isTraveller (post : Int32 → Mem → Prop) (S : Mem) (v1 : Int32) : Prop := vp_in (3 : Int32) 84 ∧ mX6_in (fun (r3 : Int32) (S2 : Mem) => isB r3 ∧ post r3 S2) S v1 (0 : Int32) (((S 11 0 (3 : Int32).toNatClampNeg) - (1 : Int32)))
set_option maxRecDepth 100000 in
set_option maxHeartbeats 4000000 in
theorem kX6_isTraveller {l : Launch} {D : va_G} {ky : Nat → ClassId} {ad : Nat → Nat} {ex : Nat → Nat → Nat} {post : Int32 → Mem → Prop} {S : Mem} {v1 : Int32} (h : mX6_isTraveller post S v1) : CMi l D ky ad ex yX6_isTraveller cX6_isTraveller 2 (some .boolean) rmX6_isTraveller 0 0 [.ref (ad 117), .int v1] S post := by
  refine CMi.of (by decide) (Nat.le_of_ble_eq_true rfl) (fun p e s m args below meth c ls F hr C hl => ?_)
  have hl : lv_has ls 2 [(0, .ref (ad 117)), (1, .int v1)] := hl
  unfold mX6_isTraveller at h
  refine lv_iload_n F.x F.b dX6_isTraveller_0 rfl (lv_at hl 1 rfl) ?_
  refine lv_iconst (v := 0) F.x F.b dX6_isTraveller_1 (by decide) ?_
  refine lv_aload_n F.x F.b dX6_isTraveller_2 rfl (lv_at hl 0 rfl) ?_
  refine getM F C 0 (by decide) q4_222 (v := .ref (ad 118)) rfl dX6_isTraveller_3 ?_
  refine lv_iconst (v := 3) F.x F.b dX6_isTraveller_6 (by decide) ?_
  obtain ⟨g1, h⟩ := h
  refine aldI F C (o := 118) (cq := 11) (iq := 0) (by decide) rfl rfl rfl g1 dX6_isTraveller_7 ?_
  refine lv_iconst (v := 1) F.x F.b dX6_isTraveller_8 (by decide) ?_
  refine lv_isub F.x F.b dX6_isTraveller_9 ?_
  refine kSI F C hl (kX6_in  h) wv_X6_62 ⟨rfl, rfl, ⟨Nat.le_of_ble_eq_true rfl, Nat.le_of_ble_eq_true rfl⟩, ⟨Nat.le_of_ble_eq_true rfl, Nat.le_of_ble_eq_true rfl⟩, Nat.le_of_ble_eq_true rfl⟩ (rest := []) rfl dX6_isTraveller_10 (fun r3 S2 H locs h C => ?_)
  exact retZ F hr C h.1.n h.2 dX6_isTraveller_13

def rmX6_of : Room := { frames := 0, cells := 0, slots := 0, locals := 0 }
def mX6_of (post : Int32 → Mem → Prop) (S : Mem) (v1 : Int32) (v2 : Int32) : Prop := vp_in (((20 : Int32) + ((8 : Int32) * v1)) + v2) 84 ∧ post ((S 11 0 ((((20 : Int32) + ((8 : Int32) * v1)) + v2)).toNatClampNeg)) S
set_option maxRecDepth 100000 in
set_option maxHeartbeats 4000000 in
theorem kX6_of {l : Launch} {D : va_G} {ky : Nat → ClassId} {ad : Nat → Nat} {ex : Nat → Nat → Nat} {post : Int32 → Mem → Prop} {S : Mem} {v1 : Int32} {v2 : Int32} (h : mX6_of post S v1 v2) : CMi l D ky ad ex yX6_of cX6_of 3 (some .int) rmX6_of 0 0 [.ref (ad 117), .int v1, .int v2] S post := by
  refine CMi.of (by decide) (Nat.le_of_ble_eq_true rfl) (fun p e s m args below meth c ls F hr C hl => ?_)
  have hl : lv_has ls 3 [(0, .ref (ad 117)), (1, .int v1), (2, .int v2)] := hl
  unfold mX6_of at h
  refine lv_aload_n F.x F.b dX6_of_0 rfl (lv_at hl 0 rfl) ?_
  refine getM F C 0 (by decide) q4_222 (v := .ref (ad 118)) rfl dX6_of_1 ?_
  refine lv_bipush (v := 20) F.x F.b dX6_of_4 (by decide) ?_
  refine lv_bipush (v := 8) F.x F.b dX6_of_6 (by decide) ?_
  refine lv_iload_n F.x F.b dX6_of_8 rfl (lv_at hl 1 rfl) ?_
  refine lv_imul F.x F.b dX6_of_9 ?_
  refine lv_iadd F.x F.b dX6_of_10 ?_
  refine lv_iload_n F.x F.b dX6_of_11 rfl (lv_at hl 2 rfl) ?_
  refine lv_iadd F.x F.b dX6_of_12 ?_
  obtain ⟨g1, h⟩ := h
  refine aldI F C (o := 118) (cq := 11) (iq := 0) (by decide) rfl rfl rfl g1 dX6_of_13 ?_
  exact retI F hr C h dX6_of_14

def rmX6_sets : Room := { frames := 0, cells := 0, slots := 0, locals := 0 }
def mX6_sets (post : Mem → Prop) (S : Mem) (v1 : Int32) (v2 : Int32) (v3 : Int32) : Prop := vp_in (((20 : Int32) + ((8 : Int32) * v1)) + v2) 84 ∧ ∀ S2 : Mem, S2 = wr S 11 0 ((((20 : Int32) + ((8 : Int32) * v1)) + v2)).toNatClampNeg v3 → post S2
set_option maxRecDepth 100000 in
set_option maxHeartbeats 4000000 in
theorem kX6_sets {l : Launch} {D : va_G} {ky : Nat → ClassId} {ad : Nat → Nat} {ex : Nat → Nat → Nat} {post : Mem → Prop} {S : Mem} {v1 : Int32} {v2 : Int32} {v3 : Int32} (h : mX6_sets post S v1 v2 v3) : CMv l D ky ad ex yX6_sets cX6_sets 4 none rmX6_sets 0 0 [.ref (ad 117), .int v1, .int v2, .int v3] S post := by
  refine CMv.of (by decide) (Nat.le_of_ble_eq_true rfl) (fun p e s m args below meth c ls F hr C hl => ?_)
  have hl : lv_has ls 4 [(0, .ref (ad 117)), (1, .int v1), (2, .int v2), (3, .int v3)] := hl
  unfold mX6_sets at h
  refine lv_aload_n F.x F.b dX6_sets_0 rfl (lv_at hl 0 rfl) ?_
  refine getM F C 0 (by decide) q4_222 (v := .ref (ad 118)) rfl dX6_sets_1 ?_
  refine lv_bipush (v := 20) F.x F.b dX6_sets_4 (by decide) ?_
  refine lv_bipush (v := 8) F.x F.b dX6_sets_6 (by decide) ?_
  refine lv_iload_n F.x F.b dX6_sets_8 rfl (lv_at hl 1 rfl) ?_
  refine lv_imul F.x F.b dX6_sets_9 ?_
  refine lv_iadd F.x F.b dX6_sets_10 ?_
  refine lv_iload_n F.x F.b dX6_sets_11 rfl (lv_at hl 2 rfl) ?_
  refine lv_iadd F.x F.b dX6_sets_12 ?_
  refine lv_iload_n F.x F.b dX6_sets_13 rfl (lv_at hl 3 rfl) ?_
  obtain ⟨g1, h⟩ := h
  refine astI F C (o := 118) (cq := 11) (iq := 0) (by decide) rfl rfl (fun _ => rfl) g1 dX6_sets_14 (fun H locs C => ?_)
  obtain ⟨S2, eS2⟩ : ∃ z : Mem, z = wr S 11 0 ((((20 : Int32) + ((8 : Int32) * v1)) + v2)).toNatClampNeg v3 := ⟨_, rfl⟩
  rw [← eS2] at C
  have h := h S2 eS2
  exact retV F hr C h dX6_sets_15

def rmX6_wets : Room := { frames := 1, cells := 0, slots := 0, locals := 23 }
def mX6_wets (post : Mem → Prop) (S : Mem) (v1 : Int32) (v2 : Int32) : Prop := mX6_of (fun (r2 : Int32) (S1 : Mem) => mX6_sets (fun (S3 : Mem) => post S3) S1 v1 (1 : Int32) ((if (0 : Int32) < (if (r2 + v2) < (20 : Int32) then (r2 + v2) else (20 : Int32)) then (if (r2 + v2) < (20 : Int32) then (r2 + v2) else (20 : Int32)) else (0 : Int32)))) S v1 (1 : Int32)
set_option maxRecDepth 100000 in
set_option maxHeartbeats 4000000 in
theorem kX6_wets {l : Launch} {D : va_G} {ky : Nat → ClassId} {ad : Nat → Nat} {ex : Nat → Nat → Nat} {post : Mem → Prop} {S : Mem} {v1 : Int32} {v2 : Int32} (h : mX6_wets post S v1 v2) : CMv l D ky ad ex yX6_wets cX6_wets 3 none rmX6_wets 0 0 [.ref (ad 117), .int v1, .int v2] S post := by
  refine CMv.of (by decide) (Nat.le_of_ble_eq_true rfl) (fun p e s m args below meth c ls F hr C hl => ?_)
  have hl : lv_has ls 3 [(0, .ref (ad 117)), (1, .int v1), (2, .int v2)] := hl
  unfold mX6_wets at h
  refine lv_aload_n F.x F.b dX6_wets_0 rfl (lv_at hl 0 rfl) ?_
  refine lv_iload_n F.x F.b dX6_wets_1 rfl (lv_at hl 1 rfl) ?_
  refine lv_iconst (v := 1) F.x F.b dX6_wets_2 (by decide) ?_
  refine lv_iconst (v := 0) F.x F.b dX6_wets_3 (by decide) ?_
  refine lv_bipush (v := 20) F.x F.b dX6_wets_4 (by decide) ?_
  refine lv_aload_n F.x F.b dX6_wets_6 rfl (lv_at hl 0 rfl) ?_
  refine lv_iload_n F.x F.b dX6_wets_7 rfl (lv_at hl 1 rfl) ?_
  refine lv_iconst (v := 1) F.x F.b dX6_wets_8 (by decide) ?_
  refine kI F C hl (kX6_of  h) (by decide) (ce_M _) rfl wv_X6_66 ⟨rfl, rfl, ⟨Nat.le_of_ble_eq_true rfl, Nat.le_of_ble_eq_true rfl⟩, ⟨Nat.le_of_ble_eq_true rfl, Nat.le_of_ble_eq_true rfl⟩, Nat.le_of_ble_eq_true rfl⟩ (rest := [.int (20 : Int32), .int (0 : Int32), .int (1 : Int32), .int v1, .ref (ad 117)]) rfl dX6_wets_9 (fun r2 S1 H locs h C => ?_)
  refine lv_iload_n F.x F.b dX6_wets_12 rfl (lv_at hl 2 rfl) ?_
  refine lv_iadd F.x F.b dX6_wets_13 ?_
  refine mMin F hl q5_128 ⟨Nat.le_of_ble_eq_true rfl, Nat.le_of_ble_eq_true rfl, Nat.le_of_ble_eq_true rfl, Nat.le_of_ble_eq_true rfl⟩ dX6_wets_14 ?_
  refine mMax F hl q5_129 ⟨Nat.le_of_ble_eq_true rfl, Nat.le_of_ble_eq_true rfl, Nat.le_of_ble_eq_true rfl, Nat.le_of_ble_eq_true rfl⟩ dX6_wets_17 ?_
  refine kV F C hl (kX6_sets  h) (by decide) (ce_M _) rfl wv_X6_78 ⟨rfl, rfl, ⟨Nat.le_of_ble_eq_true rfl, Nat.le_of_ble_eq_true rfl⟩, ⟨Nat.le_of_ble_eq_true rfl, Nat.le_of_ble_eq_true rfl⟩, Nat.le_of_ble_eq_true rfl⟩ (rest := []) rfl dX6_wets_20 (fun S3 H locs h C => ?_)
  exact retV F hr C h dX6_wets_23

def rmX6_kind : Room := { frames := 1, cells := 0, slots := 0, locals := 22 }
def mX6_kind (post : Int32 → Mem → Prop) (S : Mem) (v1 : Int32) : Prop := mX6_of (fun (r2 : Int32) (S1 : Mem) => (((4 : Int32) ≤ r2 → ((((9 : Int32) ≤ r2 → (post (2 : Int32) S1)) ∧ (¬ (9 : Int32) ≤ r2 → (post (1 : Int32) S1))))) ∧ (¬ (4 : Int32) ≤ r2 → (post (0 : Int32) S1)))) S v1 (0 : Int32)
set_option maxRecDepth 100000 in
set_option maxHeartbeats 4000000 in
theorem kX6_kind {l : Launch} {D : va_G} {ky : Nat → ClassId} {ad : Nat → Nat} {ex : Nat → Nat → Nat} {post : Int32 → Mem → Prop} {S : Mem} {v1 : Int32} (h : mX6_kind post S v1) : CMi l D ky ad ex yX6_kind cX6_kind 3 (some .int) rmX6_kind 0 0 [.ref (ad 117), .int v1] S post := by
  refine CMi.of (by decide) (Nat.le_of_ble_eq_true rfl) (fun p e s m args below meth c ls F hr C hl => ?_)
  have hl : lv_has ls 3 [(0, .ref (ad 117)), (1, .int v1)] := hl
  unfold mX6_kind at h
  refine lv_aload_n F.x F.b dX6_kind_0 rfl (lv_at hl 0 rfl) ?_
  refine lv_iload_n F.x F.b dX6_kind_1 rfl (lv_at hl 1 rfl) ?_
  refine lv_iconst (v := 0) F.x F.b dX6_kind_2 (by decide) ?_
  refine kI F C hl (kX6_of  h) (by decide) (ce_M _) rfl wv_X6_66 ⟨rfl, rfl, ⟨Nat.le_of_ble_eq_true rfl, Nat.le_of_ble_eq_true rfl⟩, ⟨Nat.le_of_ble_eq_true rfl, Nat.le_of_ble_eq_true rfl⟩, Nat.le_of_ble_eq_true rfl⟩ (rest := []) rfl dX6_kind_3 (fun r2 S1 H locs h C => ?_)
  refine lv_istore_n (lv' := [(2, .int r2), (0, .ref (ad 117)), (1, .int v1)]) F.x F.b dX6_kind_6 rfl hl (by decide) rfl (fun ls hl => ?_)
  refine lv_iload_n F.x F.b dX6_kind_7 rfl (lv_at hl 0 rfl) ?_
  refine lv_iconst (v := 4) F.x F.b dX6_kind_8 (by decide) ?_
  refine lv_icmp_ge (tgt := 16) F.x F.b dX6_kind_9 (by decide) (fun g3 => ?_) (fun g3 => ?_)
  · have h := h.1 g3
    refine lv_iload_n F.x F.b dX6_kind_16 rfl (lv_at hl 0 rfl) ?_
    refine lv_bipush (v := 9) F.x F.b dX6_kind_17 (by decide) ?_
    refine lv_icmp_ge (tgt := 26) F.x F.b dX6_kind_19 (by decide) (fun g4 => ?_) (fun g4 => ?_)
    · have h := h.1 g4
      refine lv_iconst (v := 2) F.x F.b dX6_kind_26 (by decide) ?_
      exact retI F hr C h dX6_kind_27
    · have h := h.2 g4
      refine lv_iconst (v := 1) F.x F.b dX6_kind_22 (by decide) ?_
      refine lv_goto (tgt := 27) F.x F.b dX6_kind_23 (by decide) ?_
      exact retI F hr C h dX6_kind_27
  · have h := h.2 g3
    refine lv_iconst (v := 0) F.x F.b dX6_kind_12 (by decide) ?_
    refine lv_goto (tgt := 27) F.x F.b dX6_kind_13 (by decide) ?_
    exact retI F hr C h dX6_kind_27

def rmX6_state : Room := { frames := 0, cells := 0, slots := 0, locals := 0 }
def mX6_state (post : Int32 → Mem → Prop) (S : Mem) (v1 : Int32) : Prop := vp_in (1 : Int32) 84 ∧ vp_in ((10 : Int32) + v1) 84 ∧ ∀ x3 : Int32, x3 = ((S 11 0 (1 : Int32).toNatClampNeg) - (S 11 0 (((10 : Int32) + v1)).toNatClampNeg)) → ((x3 ≤ 0 → (((x3 < (-2 : Int32) → (post (0 : Int32) S)) ∧ (¬ x3 < (-2 : Int32) → (post (1 : Int32) S))))) ∧ (¬ x3 ≤ 0 → (post (2 : Int32) S)))
set_option maxRecDepth 100000 in
set_option maxHeartbeats 4000000 in
theorem kX6_state {l : Launch} {D : va_G} {ky : Nat → ClassId} {ad : Nat → Nat} {ex : Nat → Nat → Nat} {post : Int32 → Mem → Prop} {S : Mem} {v1 : Int32} (h : mX6_state post S v1) : CMi l D ky ad ex yX6_state cX6_state 3 (some .int) rmX6_state 0 0 [.ref (ad 117), .int v1] S post := by
  refine CMi.of (by decide) (Nat.le_of_ble_eq_true rfl) (fun p e s m args below meth c ls F hr C hl => ?_)
  have hl : lv_has ls 3 [(0, .ref (ad 117)), (1, .int v1)] := hl
  unfold mX6_state at h
  refine lv_aload_n F.x F.b dX6_state_0 rfl (lv_at hl 0 rfl) ?_
  refine getM F C 0 (by decide) q4_222 (v := .ref (ad 118)) rfl dX6_state_1 ?_
  refine lv_iconst (v := 1) F.x F.b dX6_state_4 (by decide) ?_
  obtain ⟨g1, h⟩ := h
  refine aldI F C (o := 118) (cq := 11) (iq := 0) (by decide) rfl rfl rfl g1 dX6_state_5 ?_
  refine lv_aload_n F.x F.b dX6_state_6 rfl (lv_at hl 0 rfl) ?_
  refine getM F C 0 (by decide) q4_222 (v := .ref (ad 118)) rfl dX6_state_7 ?_
  refine lv_bipush (v := 10) F.x F.b dX6_state_10 (by decide) ?_
  refine lv_iload_n F.x F.b dX6_state_12 rfl (lv_at hl 1 rfl) ?_
  refine lv_iadd F.x F.b dX6_state_13 ?_
  obtain ⟨g2, h⟩ := h
  refine aldI F C (o := 118) (cq := 11) (iq := 0) (by decide) rfl rfl rfl g2 dX6_state_14 ?_
  refine lv_isub F.x F.b dX6_state_15 ?_
  refine lv_topi (fun x3 ex3 => ?_)
  have h := h x3 ex3
  refine lv_istore_n (lv' := [(2, .int x3), (0, .ref (ad 117)), (1, .int v1)]) F.x F.b dX6_state_16 rfl hl (by decide) rfl (fun ls hl => ?_)
  refine lv_iload_n F.x F.b dX6_state_17 rfl (lv_at hl 0 rfl) ?_
  refine lv_if_le (tgt := 25) F.x F.b dX6_state_18 (by decide) (fun g4 => ?_) (fun g4 => ?_)
  · have h := h.1 g4
    refine lv_iload_n F.x F.b dX6_state_25 rfl (lv_at hl 0 rfl) ?_
    refine lv_bipush (v := -2) F.x F.b dX6_state_26 (by decide) ?_
    refine lv_icmp_lt (tgt := 35) F.x F.b dX6_state_28 (by decide) (fun g5 => ?_) (fun g5 => ?_)
    · have h := h.1 g5
      refine lv_iconst (v := 0) F.x F.b dX6_state_35 (by decide) ?_
      exact retI F hr C h dX6_state_36
    · have h := h.2 g5
      refine lv_iconst (v := 1) F.x F.b dX6_state_31 (by decide) ?_
      refine lv_goto (tgt := 36) F.x F.b dX6_state_32 (by decide) ?_
      exact retI F hr C h dX6_state_36
  · have h := h.2 g4
    refine lv_iconst (v := 2) F.x F.b dX6_state_21 (by decide) ?_
    refine lv_goto (tgt := 36) F.x F.b dX6_state_22 (by decide) ?_
    exact retI F hr C h dX6_state_36

def rmX6_lowestOn : Room := { frames := 1, cells := 0, slots := 0, locals := 22 }
def mX6_lowestOn_b2 (post : Int32 → Mem → Prop) : Nat → Mem → Int32 → Int32 → Prop
  | 0, _, _, _ => False
  | n + 1, S, v1, v2 => vp_in (3 : Int32) 84 ∧ (((S 11 0 (3 : Int32).toNatClampNeg) ≤ v2 → (post (-1 : Int32) S)) ∧ (¬ (S 11 0 (3 : Int32).toNatClampNeg) ≤ v2 → (mX6_of (fun (r4 : Int32) (S3 : Mem) => ((¬ r4 = v1 → (∀ x6 : Int32, x6 = v2 + (1 : Int32) → mX6_lowestOn_b2 post n S3 v1 x6)) ∧ (r4 = v1 → (post v2 S3)))) S v2 (2 : Int32))))
def mX6_lowestOn (post : Int32 → Mem → Prop) (S : Mem) (v1 : Int32) : Prop := ∃ fu : Nat, mX6_lowestOn_b2 post fu S v1 (0 : Int32)
set_option maxRecDepth 100000 in
set_option maxHeartbeats 4000000 in
theorem bX6_lowestOn_2 {p : Program} {l : Launch} {e : Env} {s : State} {m : MethodId} {args : Array Value} {below : List Frame} {meth : Method} {c : Code} {D : va_G} {ky : Nat → ClassId} {ad : Nat → Nat} {ex : Nat → Nat → Nat} (F : Fx p s m args meth c D ky ad ex cX6_lowestOn 3 yX6_lowestOn.cls) (hr : meth.sig.returnType = (some .int)) {post : Int32 → Mem → Prop} : ∀ (n : Nat) (S : Mem) (v1 : Int32) (v2 : Int32) (H : Heap) (locs : List Loc) (ls : Array Slot), mX6_lowestOn_b2 post n S v1 v2 → Cx D ky ad s S H locs → lv_has ls 3 [(0, .ref (ad 117)), (1, .int v1), (2, .int v2)] → W p l e rmX6_lowestOn s m args below meth c H locs 0 0 (MQ below (va_Qi post (AFT D ky ad) (AW ad s.heap.size)) args s 0 0 (AW ad s.heap.size)) (F0 m 2 ls []) := by
  intro n
  induction n with
  | zero =>
    intro S v1 v2 H locs ls  h
    exact False.elim h
  | succ n ih =>
    intro S v1 v2 H locs ls  h C hl
    refine lv_iload_n F.x F.b dX6_lowestOn_2 rfl (lv_at hl 2 rfl) ?_
    refine lv_aload_n F.x F.b dX6_lowestOn_3 rfl (lv_at hl 0 rfl) ?_
    refine getM F C 0 (by decide) q4_222 (v := .ref (ad 118)) rfl dX6_lowestOn_4 ?_
    refine lv_iconst (v := 3) F.x F.b dX6_lowestOn_7 (by decide) ?_
    obtain ⟨g1, h⟩ := h
    refine aldI F C (o := 118) (cq := 11) (iq := 0) (by decide) rfl rfl rfl g1 dX6_lowestOn_8 ?_
    refine lv_icmp_ge (tgt := 30) F.x F.b dX6_lowestOn_9 (by decide) (fun g2 => ?_) (fun g2 => ?_)
    · have h := h.1 g2
      refine lv_iconst (v := -1) F.x F.b dX6_lowestOn_30 (by decide) ?_
      exact retI F hr C h dX6_lowestOn_31
    · have h := h.2 g2
      refine lv_aload_n F.x F.b dX6_lowestOn_12 rfl (lv_at hl 0 rfl) ?_
      refine lv_iload_n F.x F.b dX6_lowestOn_13 rfl (lv_at hl 2 rfl) ?_
      refine lv_iconst (v := 2) F.x F.b dX6_lowestOn_14 (by decide) ?_
      refine kI F C hl (kX6_of  h) (by decide) (ce_M _) rfl wv_X6_66 ⟨rfl, rfl, ⟨Nat.le_of_ble_eq_true rfl, Nat.le_of_ble_eq_true rfl⟩, ⟨Nat.le_of_ble_eq_true rfl, Nat.le_of_ble_eq_true rfl⟩, Nat.le_of_ble_eq_true rfl⟩ (rest := []) rfl dX6_lowestOn_15 (fun r4 S3 H locs h C => ?_)
      refine lv_iload_n F.x F.b dX6_lowestOn_18 rfl (lv_at hl 1 rfl) ?_
      refine lv_icmp_ne (tgt := 24) F.x F.b dX6_lowestOn_19 (by decide) (fun g5 => ?_) (fun g5 => ?_)
      · have h := h.1 g5
        obtain ⟨x6, ex6⟩ : ∃ z : Int32, z = v2 + (1 : Int32) := ⟨_, rfl⟩
        have h := h x6 ex6
        refine lv_iinc (v := x6) (lv' := [(2, .int x6), (0, .ref (ad 117)), (1, .int v1)]) F.x F.b dX6_lowestOn_24 hl (k := 2) rfl (by rw [ex6]; rfl) (by decide) rfl (fun ls hl => ?_)
        refine lv_goto (tgt := 2) F.x F.b dX6_lowestOn_27 (by decide) ?_
        exact ih S3 v1 x6 _ _ _ h C (lv_sub hl [1, 2, 0] rfl)
      · have h := h.2 g5
        refine lv_iload_n F.x F.b dX6_lowestOn_22 rfl (lv_at hl 2 rfl) ?_
        exact retI F hr C h dX6_lowestOn_23
set_option maxRecDepth 100000 in
set_option maxHeartbeats 4000000 in
theorem kX6_lowestOn {l : Launch} {D : va_G} {ky : Nat → ClassId} {ad : Nat → Nat} {ex : Nat → Nat → Nat} {post : Int32 → Mem → Prop} {S : Mem} {v1 : Int32} (h : mX6_lowestOn post S v1) : CMi l D ky ad ex yX6_lowestOn cX6_lowestOn 3 (some .int) rmX6_lowestOn 0 0 [.ref (ad 117), .int v1] S post := by
  refine CMi.of (by decide) (Nat.le_of_ble_eq_true rfl) (fun p e s m args below meth c ls F hr C hl => ?_)
  have hl : lv_has ls 3 [(0, .ref (ad 117)), (1, .int v1)] := hl
  unfold mX6_lowestOn at h
  refine lv_iconst (v := 0) F.x F.b dX6_lowestOn_0 (by decide) ?_
  refine lv_istore_n (lv' := [(2, .int (0 : Int32)), (0, .ref (ad 117)), (1, .int v1)]) F.x F.b dX6_lowestOn_1 rfl hl (by decide) rfl (fun ls hl => ?_)
  obtain ⟨n1, h⟩ := h
  exact bX6_lowestOn_2 F hr n1 S v1 (0 : Int32) _ _ _ h C (lv_sub hl [1, 2, 0] rfl)

def rmX6_countAt : Room := { frames := 1, cells := 0, slots := 0, locals := 22 }
def mX6_countAt_b5 (post : Int32 → Mem → Prop) : Nat → Mem → Int32 → Int32 → Int32 → Int32 → Prop
  | 0, _, _, _, _, _ => False
  | n + 1, S, v1, v2, v3, v4 => vp_in (3 : Int32) 84 ∧ (((S 11 0 (3 : Int32).toNatClampNeg) ≤ v4 → (post v3 S)) ∧ (¬ (S 11 0 (3 : Int32).toNatClampNeg) ≤ v4 → (mX6_of (fun (r4 : Int32) (S3 : Mem) => mX6_in (fun (r6 : Int32) (S5 : Mem) => ((r6 = 0 → (∀ x8 : Int32, x8 = v4 + (1 : Int32) → mX6_countAt_b5 post n S5 v1 v2 v3 x8)) ∧ (¬ r6 = 0 → (∀ x9 : Int32, x9 = v3 + (1 : Int32) → ∀ x10 : Int32, x10 = v4 + (1 : Int32) → mX6_countAt_b5 post n S5 v1 v2 x9 x10)))) S3 r4 v1 v2) S v4 (2 : Int32))))
def mX6_countAt (post : Int32 → Mem → Prop) (S : Mem) (v1 : Int32) (v2 : Int32) : Prop := ∃ fu : Nat, mX6_countAt_b5 post fu S v1 v2 (0 : Int32) (0 : Int32)
set_option maxRecDepth 100000 in
set_option maxHeartbeats 4000000 in
theorem bX6_countAt_5 {p : Program} {l : Launch} {e : Env} {s : State} {m : MethodId} {args : Array Value} {below : List Frame} {meth : Method} {c : Code} {D : va_G} {ky : Nat → ClassId} {ad : Nat → Nat} {ex : Nat → Nat → Nat} (F : Fx p s m args meth c D ky ad ex cX6_countAt 5 yX6_countAt.cls) (hr : meth.sig.returnType = (some .int)) {post : Int32 → Mem → Prop} : ∀ (n : Nat) (S : Mem) (v1 : Int32) (v2 : Int32) (v3 : Int32) (v4 : Int32) (H : Heap) (locs : List Loc) (ls : Array Slot), mX6_countAt_b5 post n S v1 v2 v3 v4 → Cx D ky ad s S H locs → lv_has ls 5 [(0, .ref (ad 117)), (1, .int v1), (2, .int v2), (3, .int v3), (4, .int v4)] → W p l e rmX6_countAt s m args below meth c H locs 0 0 (MQ below (va_Qi post (AFT D ky ad) (AW ad s.heap.size)) args s 0 0 (AW ad s.heap.size)) (F0 m 5 ls []) := by
  intro n
  induction n with
  | zero =>
    intro S v1 v2 v3 v4 H locs ls  h
    exact False.elim h
  | succ n ih =>
    intro S v1 v2 v3 v4 H locs ls  h C hl
    refine lv_iload F.x F.b dX6_countAt_5 (lv_at hl 4 rfl) ?_
    refine lv_aload_n F.x F.b dX6_countAt_7 rfl (lv_at hl 0 rfl) ?_
    refine getM F C 0 (by decide) q4_222 (v := .ref (ad 118)) rfl dX6_countAt_8 ?_
    refine lv_iconst (v := 3) F.x F.b dX6_countAt_11 (by decide) ?_
    obtain ⟨g1, h⟩ := h
    refine aldI F C (o := 118) (cq := 11) (iq := 0) (by decide) rfl rfl rfl g1 dX6_countAt_12 ?_
    refine lv_icmp_ge (tgt := 40) F.x F.b dX6_countAt_13 (by decide) (fun g2 => ?_) (fun g2 => ?_)
    · have h := h.1 g2
      refine lv_iload_n F.x F.b dX6_countAt_40 rfl (lv_at hl 3 rfl) ?_
      exact retI F hr C h dX6_countAt_41
    · have h := h.2 g2
      refine lv_aload_n F.x F.b dX6_countAt_16 rfl (lv_at hl 0 rfl) ?_
      refine lv_iload F.x F.b dX6_countAt_17 (lv_at hl 4 rfl) ?_
      refine lv_iconst (v := 2) F.x F.b dX6_countAt_19 (by decide) ?_
      refine kI F C hl (kX6_of  h) (by decide) (ce_M _) rfl wv_X6_66 ⟨rfl, rfl, ⟨Nat.le_of_ble_eq_true rfl, Nat.le_of_ble_eq_true rfl⟩, ⟨Nat.le_of_ble_eq_true rfl, Nat.le_of_ble_eq_true rfl⟩, Nat.le_of_ble_eq_true rfl⟩ (rest := []) rfl dX6_countAt_20 (fun r4 S3 H locs h C => ?_)
      refine lv_iload_n F.x F.b dX6_countAt_23 rfl (lv_at hl 1 rfl) ?_
      refine lv_iload_n F.x F.b dX6_countAt_24 rfl (lv_at hl 2 rfl) ?_
      refine kSI F C hl (kX6_in  h) wv_X6_62 ⟨rfl, rfl, ⟨Nat.le_of_ble_eq_true rfl, Nat.le_of_ble_eq_true rfl⟩, ⟨Nat.le_of_ble_eq_true rfl, Nat.le_of_ble_eq_true rfl⟩, Nat.le_of_ble_eq_true rfl⟩ (rest := []) rfl dX6_countAt_25 (fun r6 S5 H locs h C => ?_)
      refine lv_if_eq (tgt := 34) F.x F.b dX6_countAt_28 (by decide) (fun g7 => ?_) (fun g7 => ?_)
      · have h := h.1 g7
        obtain ⟨x8, ex8⟩ : ∃ z : Int32, z = v4 + (1 : Int32) := ⟨_, rfl⟩
        have h := h x8 ex8
        refine lv_iinc (v := x8) (lv' := [(4, .int x8), (0, .ref (ad 117)), (1, .int v1), (2, .int v2), (3, .int v3)]) F.x F.b dX6_countAt_34 hl (k := 4) rfl (by rw [ex8]; rfl) (by decide) rfl (fun ls hl => ?_)
        refine lv_goto (tgt := 5) F.x F.b dX6_countAt_37 (by decide) ?_
        exact ih S5 v1 v2 v3 x8 _ _ _ h C (lv_sub hl [1, 2, 3, 4, 0] rfl)
      · have h := h.2 g7
        obtain ⟨x9, ex9⟩ : ∃ z : Int32, z = v3 + (1 : Int32) := ⟨_, rfl⟩
        have h := h x9 ex9
        refine lv_iinc (v := x9) (lv' := [(3, .int x9), (0, .ref (ad 117)), (1, .int v1), (2, .int v2), (4, .int v4)]) F.x F.b dX6_countAt_31 hl (k := 3) rfl (by rw [ex9]; rfl) (by decide) rfl (fun ls hl => ?_)
        obtain ⟨x10, ex10⟩ : ∃ z : Int32, z = v4 + (1 : Int32) := ⟨_, rfl⟩
        have h := h x10 ex10
        refine lv_iinc (v := x10) (lv' := [(4, .int x10), (3, .int x9), (0, .ref (ad 117)), (1, .int v1), (2, .int v2)]) F.x F.b dX6_countAt_34 hl (k := 4) rfl (by rw [ex10]; rfl) (by decide) rfl (fun ls hl => ?_)
        refine lv_goto (tgt := 5) F.x F.b dX6_countAt_37 (by decide) ?_
        exact ih S5 v1 v2 x9 x10 _ _ _ h C (lv_sub hl [2, 3, 4, 1, 0] rfl)
set_option maxRecDepth 100000 in
set_option maxHeartbeats 4000000 in
theorem kX6_countAt {l : Launch} {D : va_G} {ky : Nat → ClassId} {ad : Nat → Nat} {ex : Nat → Nat → Nat} {post : Int32 → Mem → Prop} {S : Mem} {v1 : Int32} {v2 : Int32} (h : mX6_countAt post S v1 v2) : CMi l D ky ad ex yX6_countAt cX6_countAt 5 (some .int) rmX6_countAt 0 0 [.ref (ad 117), .int v1, .int v2] S post := by
  refine CMi.of (by decide) (Nat.le_of_ble_eq_true rfl) (fun p e s m args below meth c ls F hr C hl => ?_)
  have hl : lv_has ls 5 [(0, .ref (ad 117)), (1, .int v1), (2, .int v2)] := hl
  unfold mX6_countAt at h
  refine lv_iconst (v := 0) F.x F.b dX6_countAt_0 (by decide) ?_
  refine lv_istore_n (lv' := [(3, .int (0 : Int32)), (0, .ref (ad 117)), (1, .int v1), (2, .int v2)]) F.x F.b dX6_countAt_1 rfl hl (by decide) rfl (fun ls hl => ?_)
  refine lv_iconst (v := 0) F.x F.b dX6_countAt_2 (by decide) ?_
  refine lv_istore (lv' := [(4, .int (0 : Int32)), (3, .int (0 : Int32)), (0, .ref (ad 117)), (1, .int v1), (2, .int v2)]) F.x F.b dX6_countAt_3 hl (by decide) rfl (fun ls hl => ?_)
  obtain ⟨n1, h⟩ := h
  exact bX6_countAt_5 F hr n1 S v1 v2 (0 : Int32) (0 : Int32) _ _ _ h C (lv_sub hl [2, 3, 4, 1, 0] rfl)

def rmX6_sum : Room := { frames := 1, cells := 0, slots := 0, locals := 22 }
def mX6_sum_b4 (post : Int32 → Mem → Prop) : Nat → Mem → Int32 → Int32 → Int32 → Prop
  | 0, _, _, _, _ => False
  | n + 1, S, v1, v2, v3 => vp_in (3 : Int32) 84 ∧ (((S 11 0 (3 : Int32).toNatClampNeg) ≤ v3 → (post v2 S)) ∧ (¬ (S 11 0 (3 : Int32).toNatClampNeg) ≤ v3 → (mX6_of (fun (r4 : Int32) (S3 : Mem) => ∀ x5 : Int32, x5 = (v2 + r4) → ∀ x6 : Int32, x6 = v3 + (1 : Int32) → mX6_sum_b4 post n S3 v1 x5 x6) S v3 v1)))
def mX6_sum (post : Int32 → Mem → Prop) (S : Mem) (v1 : Int32) : Prop := ∃ fu : Nat, mX6_sum_b4 post fu S v1 (0 : Int32) (0 : Int32)
set_option maxRecDepth 100000 in
set_option maxHeartbeats 4000000 in
theorem bX6_sum_4 {p : Program} {l : Launch} {e : Env} {s : State} {m : MethodId} {args : Array Value} {below : List Frame} {meth : Method} {c : Code} {D : va_G} {ky : Nat → ClassId} {ad : Nat → Nat} {ex : Nat → Nat → Nat} (F : Fx p s m args meth c D ky ad ex cX6_sum 4 yX6_sum.cls) (hr : meth.sig.returnType = (some .int)) {post : Int32 → Mem → Prop} : ∀ (n : Nat) (S : Mem) (v1 : Int32) (v2 : Int32) (v3 : Int32) (H : Heap) (locs : List Loc) (ls : Array Slot), mX6_sum_b4 post n S v1 v2 v3 → Cx D ky ad s S H locs → lv_has ls 4 [(0, .ref (ad 117)), (1, .int v1), (2, .int v2), (3, .int v3)] → W p l e rmX6_sum s m args below meth c H locs 0 0 (MQ below (va_Qi post (AFT D ky ad) (AW ad s.heap.size)) args s 0 0 (AW ad s.heap.size)) (F0 m 4 ls []) := by
  intro n
  induction n with
  | zero =>
    intro S v1 v2 v3 H locs ls  h
    exact False.elim h
  | succ n ih =>
    intro S v1 v2 v3 H locs ls  h C hl
    refine lv_iload_n F.x F.b dX6_sum_4 rfl (lv_at hl 3 rfl) ?_
    refine lv_aload_n F.x F.b dX6_sum_5 rfl (lv_at hl 0 rfl) ?_
    refine getM F C 0 (by decide) q4_222 (v := .ref (ad 118)) rfl dX6_sum_6 ?_
    refine lv_iconst (v := 3) F.x F.b dX6_sum_9 (by decide) ?_
    obtain ⟨g1, h⟩ := h
    refine aldI F C (o := 118) (cq := 11) (iq := 0) (by decide) rfl rfl rfl g1 dX6_sum_10 ?_
    refine lv_icmp_ge (tgt := 29) F.x F.b dX6_sum_11 (by decide) (fun g2 => ?_) (fun g2 => ?_)
    · have h := h.1 g2
      refine lv_iload_n F.x F.b dX6_sum_29 rfl (lv_at hl 2 rfl) ?_
      exact retI F hr C h dX6_sum_30
    · have h := h.2 g2
      refine lv_iload_n F.x F.b dX6_sum_14 rfl (lv_at hl 2 rfl) ?_
      refine lv_aload_n F.x F.b dX6_sum_15 rfl (lv_at hl 0 rfl) ?_
      refine lv_iload_n F.x F.b dX6_sum_16 rfl (lv_at hl 3 rfl) ?_
      refine lv_iload_n F.x F.b dX6_sum_17 rfl (lv_at hl 1 rfl) ?_
      refine kI F C hl (kX6_of  h) (by decide) (ce_M _) rfl wv_X6_66 ⟨rfl, rfl, ⟨Nat.le_of_ble_eq_true rfl, Nat.le_of_ble_eq_true rfl⟩, ⟨Nat.le_of_ble_eq_true rfl, Nat.le_of_ble_eq_true rfl⟩, Nat.le_of_ble_eq_true rfl⟩ (rest := [.int v2]) rfl dX6_sum_18 (fun r4 S3 H locs h C => ?_)
      refine lv_iadd F.x F.b dX6_sum_21 ?_
      refine lv_topi (fun x5 ex5 => ?_)
      have h := h x5 ex5
      refine lv_istore_n (lv' := [(2, .int x5), (0, .ref (ad 117)), (1, .int v1), (3, .int v3)]) F.x F.b dX6_sum_22 rfl hl (by decide) rfl (fun ls hl => ?_)
      obtain ⟨x6, ex6⟩ : ∃ z : Int32, z = v3 + (1 : Int32) := ⟨_, rfl⟩
      have h := h x6 ex6
      refine lv_iinc (v := x6) (lv' := [(3, .int x6), (2, .int x5), (0, .ref (ad 117)), (1, .int v1)]) F.x F.b dX6_sum_23 hl (k := 3) rfl (by rw [ex6]; rfl) (by decide) rfl (fun ls hl => ?_)
      refine lv_goto (tgt := 4) F.x F.b dX6_sum_26 (by decide) ?_
      exact ih S3 v1 x5 x6 _ _ _ h C (lv_sub hl [2, 3, 1, 0] rfl)
set_option maxRecDepth 100000 in
set_option maxHeartbeats 4000000 in
theorem kX6_sum {l : Launch} {D : va_G} {ky : Nat → ClassId} {ad : Nat → Nat} {ex : Nat → Nat → Nat} {post : Int32 → Mem → Prop} {S : Mem} {v1 : Int32} (h : mX6_sum post S v1) : CMi l D ky ad ex yX6_sum cX6_sum 4 (some .int) rmX6_sum 0 0 [.ref (ad 117), .int v1] S post := by
  refine CMi.of (by decide) (Nat.le_of_ble_eq_true rfl) (fun p e s m args below meth c ls F hr C hl => ?_)
  have hl : lv_has ls 4 [(0, .ref (ad 117)), (1, .int v1)] := hl
  unfold mX6_sum at h
  refine lv_iconst (v := 0) F.x F.b dX6_sum_0 (by decide) ?_
  refine lv_istore_n (lv' := [(2, .int (0 : Int32)), (0, .ref (ad 117)), (1, .int v1)]) F.x F.b dX6_sum_1 rfl hl (by decide) rfl (fun ls hl => ?_)
  refine lv_iconst (v := 0) F.x F.b dX6_sum_2 (by decide) ?_
  refine lv_istore_n (lv' := [(3, .int (0 : Int32)), (2, .int (0 : Int32)), (0, .ref (ad 117)), (1, .int v1)]) F.x F.b dX6_sum_3 rfl hl (by decide) rfl (fun ls hl => ?_)
  obtain ⟨n1, h⟩ := h
  exact bX6_sum_4 F hr n1 S v1 (0 : Int32) (0 : Int32) _ _ _ h C (lv_sub hl [2, 3, 1, 0] rfl)

def rmX6_height : Room := { frames := 2, cells := 0, slots := 0, locals := 44 }
def mX6_height (post : Int32 → Mem → Prop) (S : Mem) (v1 : Int32) (v2 : Int32) : Prop := mX6_tries (fun (S1 : Mem) => mX6_isStone (fun (r4 : Int32) (S3 : Mem) => ((¬ r4 = 0 → (mX6_in (fun (r7 : Int32) (S6 : Mem) => ((¬ r7 = 0 → (mX6_lowestOn (fun (r10 : Int32) (S9 : Mem) => ((r10 < 0 → (vp_in ((10 : Int32) + v1) 84 ∧ ∀ x13 : Int32, x13 = (S9 11 0 (((10 : Int32) + v1)).toNatClampNeg) → vp_in ((10 : Int32) + v1) 84 ∧ ∀ S15 : Mem, S15 = wr S9 11 0 (((10 : Int32) + v1)).toNatClampNeg v2 → mX6_keeps (fun (r17 : Int32) (S16 : Mem) => post r17 S16) S15 x13)) ∧ (¬ r10 < 0 → (mX6_refuses (fun (r19 : Int32) (S18 : Mem) => post r19 S18) S9 (3 : Int32) (6 : Int32) r10)))) S6 v1)) ∧ (r7 = 0 → (mX6_raises (fun (r21 : Int32) (S20 : Mem) => post r21 S20) S6 (2 : Int32))))) S3 v2 (1 : Int32) (30 : Int32))) ∧ (r4 = 0 → (mX6_raises (fun (r23 : Int32) (S22 : Mem) => post r23 S22) S3 (1 : Int32))))) S1 v1) S 
set_option maxRecDepth 100000 in
set_option maxHeartbeats 4000000 in
theorem kX6_height {l : Launch} {D : va_G} {ky : Nat → ClassId} {ad : Nat → Nat} {ex : Nat → Nat → Nat} {post : Int32 → Mem → Prop} {S : Mem} {v1 : Int32} {v2 : Int32} (h : mX6_height post S v1 v2) : CMi l D ky ad ex yX6_height cX6_height 5 (some .int) rmX6_height 0 0 [.ref (ad 117), .int v1, .int v2] S post := by
  refine CMi.of (by decide) (Nat.le_of_ble_eq_true rfl) (fun p e s m args below meth c ls F hr C hl => ?_)
  have hl : lv_has ls 5 [(0, .ref (ad 117)), (1, .int v1), (2, .int v2)] := hl
  unfold mX6_height at h
  refine lv_aload_n F.x F.b dX6_height_0 rfl (lv_at hl 0 rfl) ?_
  refine kV F C hl (kX6_tries  h) (by decide) (ce_M _) rfl wv_X6_82 ⟨rfl, rfl, ⟨Nat.le_of_ble_eq_true rfl, Nat.le_of_ble_eq_true rfl⟩, ⟨Nat.le_of_ble_eq_true rfl, Nat.le_of_ble_eq_true rfl⟩, Nat.le_of_ble_eq_true rfl⟩ (rest := []) rfl dX6_height_1 (fun S1 H locs h C => ?_)
  refine lv_iload_n F.x F.b dX6_height_4 rfl (lv_at hl 1 rfl) ?_
  refine kSI F C hl (kX6_isStone  h) wv_X6_85 ⟨rfl, rfl, ⟨Nat.le_of_ble_eq_true rfl, Nat.le_of_ble_eq_true rfl⟩, ⟨Nat.le_of_ble_eq_true rfl, Nat.le_of_ble_eq_true rfl⟩, Nat.le_of_ble_eq_true rfl⟩ (rest := []) rfl dX6_height_5 (fun r4 S3 H locs h C => ?_)
  refine lv_if_ne (tgt := 17) F.x F.b dX6_height_8 (by decide) (fun g5 => ?_) (fun g5 => ?_)
  · have h := h.1 g5
    refine lv_iload_n F.x F.b dX6_height_17 rfl (lv_at hl 2 rfl) ?_
    refine lv_iconst (v := 1) F.x F.b dX6_height_18 (by decide) ?_
    refine lv_bipush (v := 30) F.x F.b dX6_height_19 (by decide) ?_
    refine kSI F C hl (kX6_in  h) wv_X6_62 ⟨rfl, rfl, ⟨Nat.le_of_ble_eq_true rfl, Nat.le_of_ble_eq_true rfl⟩, ⟨Nat.le_of_ble_eq_true rfl, Nat.le_of_ble_eq_true rfl⟩, Nat.le_of_ble_eq_true rfl⟩ (rest := []) rfl dX6_height_21 (fun r7 S6 H locs h C => ?_)
    refine lv_if_ne (tgt := 33) F.x F.b dX6_height_24 (by decide) (fun g8 => ?_) (fun g8 => ?_)
    · have h := h.1 g8
      refine lv_aload_n F.x F.b dX6_height_33 rfl (lv_at hl 0 rfl) ?_
      refine lv_iload_n F.x F.b dX6_height_34 rfl (lv_at hl 1 rfl) ?_
      refine kI F C hl (kX6_lowestOn  h) (by decide) (ce_M _) rfl wv_X6_89 ⟨rfl, rfl, ⟨Nat.le_of_ble_eq_true rfl, Nat.le_of_ble_eq_true rfl⟩, ⟨Nat.le_of_ble_eq_true rfl, Nat.le_of_ble_eq_true rfl⟩, Nat.le_of_ble_eq_true rfl⟩ (rest := []) rfl dX6_height_35 (fun r10 S9 H locs h C => ?_)
      refine lv_istore_n (lv' := [(3, .int r10), (0, .ref (ad 117)), (1, .int v1), (2, .int v2)]) F.x F.b dX6_height_38 rfl hl (by decide) rfl (fun ls hl => ?_)
      refine lv_iload_n F.x F.b dX6_height_39 rfl (lv_at hl 0 rfl) ?_
      refine lv_if_lt (tgt := 52) F.x F.b dX6_height_40 (by decide) (fun g11 => ?_) (fun g11 => ?_)
      · have h := h.1 g11
        refine lv_aload_n F.x F.b dX6_height_52 rfl (lv_at hl 1 rfl) ?_
        refine getM F C 0 (by decide) q4_222 (v := .ref (ad 118)) rfl dX6_height_53 ?_
        refine lv_bipush (v := 10) F.x F.b dX6_height_56 (by decide) ?_
        refine lv_iload_n F.x F.b dX6_height_58 rfl (lv_at hl 2 rfl) ?_
        refine lv_iadd F.x F.b dX6_height_59 ?_
        obtain ⟨g12, h⟩ := h
        refine aldI F C (o := 118) (cq := 11) (iq := 0) (by decide) rfl rfl rfl g12 dX6_height_60 ?_
        refine lv_topi (fun x13 ex13 => ?_)
        have h := h x13 ex13
        refine lv_istore (lv' := [(4, .int x13), (3, .int r10), (0, .ref (ad 117)), (1, .int v1), (2, .int v2)]) F.x F.b dX6_height_61 hl (by decide) rfl (fun ls hl => ?_)
        refine lv_aload_n F.x F.b dX6_height_63 rfl (lv_at hl 2 rfl) ?_
        refine getM F C 0 (by decide) q4_222 (v := .ref (ad 118)) rfl dX6_height_64 ?_
        refine lv_bipush (v := 10) F.x F.b dX6_height_67 (by decide) ?_
        refine lv_iload_n F.x F.b dX6_height_69 rfl (lv_at hl 3 rfl) ?_
        refine lv_iadd F.x F.b dX6_height_70 ?_
        refine lv_iload_n F.x F.b dX6_height_71 rfl (lv_at hl 4 rfl) ?_
        obtain ⟨g14, h⟩ := h
        refine astI F C (o := 118) (cq := 11) (iq := 0) (by decide) rfl rfl (fun _ => rfl) g14 dX6_height_72 (fun H locs C => ?_)
        obtain ⟨S15, eS15⟩ : ∃ z : Mem, z = wr S9 11 0 (((10 : Int32) + v1)).toNatClampNeg v2 := ⟨_, rfl⟩
        rw [← eS15] at C
        have h := h S15 eS15
        refine lv_aload_n F.x F.b dX6_height_73 rfl (lv_at hl 2 rfl) ?_
        refine lv_iload F.x F.b dX6_height_74 (lv_at hl 0 rfl) ?_
        refine kI F C hl (kX6_keeps  h) (by decide) (ce_M _) rfl wv_X6_96 ⟨rfl, rfl, ⟨Nat.le_of_ble_eq_true rfl, Nat.le_of_ble_eq_true rfl⟩, ⟨Nat.le_of_ble_eq_true rfl, Nat.le_of_ble_eq_true rfl⟩, Nat.le_of_ble_eq_true rfl⟩ (rest := []) rfl dX6_height_76 (fun r17 S16 H locs h C => ?_)
        exact retI F hr C h dX6_height_79
      · have h := h.2 g11
        refine lv_aload_n F.x F.b dX6_height_43 rfl (lv_at hl 1 rfl) ?_
        refine lv_iconst (v := 3) F.x F.b dX6_height_44 (by decide) ?_
        refine lv_bipush (v := 6) F.x F.b dX6_height_45 (by decide) ?_
        refine lv_iload_n F.x F.b dX6_height_47 rfl (lv_at hl 0 rfl) ?_
        refine kI F C hl (kX6_refuses  h) (by decide) (ce_M _) rfl wv_X6_92 ⟨rfl, rfl, ⟨Nat.le_of_ble_eq_true rfl, Nat.le_of_ble_eq_true rfl⟩, ⟨Nat.le_of_ble_eq_true rfl, Nat.le_of_ble_eq_true rfl⟩, Nat.le_of_ble_eq_true rfl⟩ (rest := []) rfl dX6_height_48 (fun r19 S18 H locs h C => ?_)
        exact retI F hr C h dX6_height_51
    · have h := h.2 g8
      refine lv_aload_n F.x F.b dX6_height_27 rfl (lv_at hl 0 rfl) ?_
      refine lv_iconst (v := 2) F.x F.b dX6_height_28 (by decide) ?_
      refine kI F C hl (kX6_raises  h) (by decide) (ce_M _) rfl wv_X6_58 ⟨rfl, rfl, ⟨Nat.le_of_ble_eq_true rfl, Nat.le_of_ble_eq_true rfl⟩, ⟨Nat.le_of_ble_eq_true rfl, Nat.le_of_ble_eq_true rfl⟩, Nat.le_of_ble_eq_true rfl⟩ (rest := []) rfl dX6_height_29 (fun r21 S20 H locs h C => ?_)
      exact retI F hr C h dX6_height_32
  · have h := h.2 g5
    refine lv_aload_n F.x F.b dX6_height_11 rfl (lv_at hl 0 rfl) ?_
    refine lv_iconst (v := 1) F.x F.b dX6_height_12 (by decide) ?_
    refine kI F C hl (kX6_raises  h) (by decide) (ce_M _) rfl wv_X6_58 ⟨rfl, rfl, ⟨Nat.le_of_ble_eq_true rfl, Nat.le_of_ble_eq_true rfl⟩, ⟨Nat.le_of_ble_eq_true rfl, Nat.le_of_ble_eq_true rfl⟩, Nat.le_of_ble_eq_true rfl⟩ (rest := []) rfl dX6_height_13 (fun r23 S22 H locs h C => ?_)
    exact retI F hr C h dX6_height_16

def rmX6_rain : Room := { frames := 1, cells := 0, slots := 0, locals := 22 }
def mX6_rain (post : Int32 → Mem → Prop) (S : Mem) (v1 : Int32) : Prop := mX6_tries (fun (S1 : Mem) => mX6_in (fun (r4 : Int32) (S3 : Mem) => ((¬ r4 = 0 → (vp_in (2 : Int32) 84 ∧ ∀ x7 : Int32, x7 = (S3 11 0 (2 : Int32).toNatClampNeg) → vp_in (2 : Int32) 84 ∧ ∀ S9 : Mem, S9 = wr S3 11 0 (2 : Int32).toNatClampNeg v1 → mX6_keeps (fun (r11 : Int32) (S10 : Mem) => post r11 S10) S9 x7)) ∧ (r4 = 0 → (mX6_raises (fun (r13 : Int32) (S12 : Mem) => post r13 S12) S3 (1 : Int32))))) S1 v1 (0 : Int32) (9 : Int32)) S 
set_option maxRecDepth 100000 in
set_option maxHeartbeats 4000000 in
theorem kX6_rain {l : Launch} {D : va_G} {ky : Nat → ClassId} {ad : Nat → Nat} {ex : Nat → Nat → Nat} {post : Int32 → Mem → Prop} {S : Mem} {v1 : Int32} (h : mX6_rain post S v1) : CMi l D ky ad ex yX6_rain cX6_rain 3 (some .int) rmX6_rain 0 0 [.ref (ad 117), .int v1] S post := by
  refine CMi.of (by decide) (Nat.le_of_ble_eq_true rfl) (fun p e s m args below meth c ls F hr C hl => ?_)
  have hl : lv_has ls 3 [(0, .ref (ad 117)), (1, .int v1)] := hl
  unfold mX6_rain at h
  refine lv_aload_n F.x F.b dX6_rain_0 rfl (lv_at hl 0 rfl) ?_
  refine kV F C hl (kX6_tries  h) (by decide) (ce_M _) rfl wv_X6_82 ⟨rfl, rfl, ⟨Nat.le_of_ble_eq_true rfl, Nat.le_of_ble_eq_true rfl⟩, ⟨Nat.le_of_ble_eq_true rfl, Nat.le_of_ble_eq_true rfl⟩, Nat.le_of_ble_eq_true rfl⟩ (rest := []) rfl dX6_rain_1 (fun S1 H locs h C => ?_)
  refine lv_iload_n F.x F.b dX6_rain_4 rfl (lv_at hl 1 rfl) ?_
  refine lv_iconst (v := 0) F.x F.b dX6_rain_5 (by decide) ?_
  refine lv_bipush (v := 9) F.x F.b dX6_rain_6 (by decide) ?_
  refine kSI F C hl (kX6_in  h) wv_X6_62 ⟨rfl, rfl, ⟨Nat.le_of_ble_eq_true rfl, Nat.le_of_ble_eq_true rfl⟩, ⟨Nat.le_of_ble_eq_true rfl, Nat.le_of_ble_eq_true rfl⟩, Nat.le_of_ble_eq_true rfl⟩ (rest := []) rfl dX6_rain_8 (fun r4 S3 H locs h C => ?_)
  refine lv_if_ne (tgt := 20) F.x F.b dX6_rain_11 (by decide) (fun g5 => ?_) (fun g5 => ?_)
  · have h := h.1 g5
    refine lv_aload_n F.x F.b dX6_rain_20 rfl (lv_at hl 0 rfl) ?_
    refine getM F C 0 (by decide) q4_222 (v := .ref (ad 118)) rfl dX6_rain_21 ?_
    refine lv_iconst (v := 2) F.x F.b dX6_rain_24 (by decide) ?_
    obtain ⟨g6, h⟩ := h
    refine aldI F C (o := 118) (cq := 11) (iq := 0) (by decide) rfl rfl rfl g6 dX6_rain_25 ?_
    refine lv_topi (fun x7 ex7 => ?_)
    have h := h x7 ex7
    refine lv_istore_n (lv' := [(2, .int x7), (0, .ref (ad 117)), (1, .int v1)]) F.x F.b dX6_rain_26 rfl hl (by decide) rfl (fun ls hl => ?_)
    refine lv_aload_n F.x F.b dX6_rain_27 rfl (lv_at hl 1 rfl) ?_
    refine getM F C 0 (by decide) q4_222 (v := .ref (ad 118)) rfl dX6_rain_28 ?_
    refine lv_iconst (v := 2) F.x F.b dX6_rain_31 (by decide) ?_
    refine lv_iload_n F.x F.b dX6_rain_32 rfl (lv_at hl 2 rfl) ?_
    obtain ⟨g8, h⟩ := h
    refine astI F C (o := 118) (cq := 11) (iq := 0) (by decide) rfl rfl (fun _ => rfl) g8 dX6_rain_33 (fun H locs C => ?_)
    obtain ⟨S9, eS9⟩ : ∃ z : Mem, z = wr S3 11 0 (2 : Int32).toNatClampNeg v1 := ⟨_, rfl⟩
    rw [← eS9] at C
    have h := h S9 eS9
    refine lv_aload_n F.x F.b dX6_rain_34 rfl (lv_at hl 1 rfl) ?_
    refine lv_iload_n F.x F.b dX6_rain_35 rfl (lv_at hl 0 rfl) ?_
    refine kI F C hl (kX6_keeps  h) (by decide) (ce_M _) rfl wv_X6_96 ⟨rfl, rfl, ⟨Nat.le_of_ble_eq_true rfl, Nat.le_of_ble_eq_true rfl⟩, ⟨Nat.le_of_ble_eq_true rfl, Nat.le_of_ble_eq_true rfl⟩, Nat.le_of_ble_eq_true rfl⟩ (rest := []) rfl dX6_rain_36 (fun r11 S10 H locs h C => ?_)
    exact retI F hr C h dX6_rain_39
  · have h := h.2 g5
    refine lv_aload_n F.x F.b dX6_rain_14 rfl (lv_at hl 0 rfl) ?_
    refine lv_iconst (v := 1) F.x F.b dX6_rain_15 (by decide) ?_
    refine kI F C hl (kX6_raises  h) (by decide) (ce_M _) rfl wv_X6_58 ⟨rfl, rfl, ⟨Nat.le_of_ble_eq_true rfl, Nat.le_of_ble_eq_true rfl⟩, ⟨Nat.le_of_ble_eq_true rfl, Nat.le_of_ble_eq_true rfl⟩, Nat.le_of_ble_eq_true rfl⟩ (rest := []) rfl dX6_rain_16 (fun r13 S12 H locs h C => ?_)
    exact retI F hr C h dX6_rain_19

def rmX6_letters : Room := { frames := 2, cells := 0, slots := 0, locals := 44 }
def mX6_letters (post : Int32 → Mem → Prop) (S : Mem) (v1 : Int32) : Prop := mX6_tries (fun (S1 : Mem) => mX6_in (fun (r4 : Int32) (S3 : Mem) => ((¬ r4 = 0 → (vp_in (4 : Int32) 84 ∧ ((((S3 11 0 (4 : Int32).toNatClampNeg) + v1) ≤ (99 : Int32) → (vp_in (4 : Int32) 84 ∧ vp_in (4 : Int32) 84 ∧ ∀ S10 : Mem, S10 = wr S3 11 0 (4 : Int32).toNatClampNeg ((S3 11 0 (4 : Int32).toNatClampNeg) + v1) → vp_in (6 : Int32) 84 ∧ vp_in (6 : Int32) 84 ∧ ∀ S13 : Mem, S13 = wr S10 11 0 (6 : Int32).toNatClampNeg ((S10 11 0 (6 : Int32).toNatClampNeg) + v1) → vp_in (4 : Int32) 84 ∧ mX6_keeps (fun (r16 : Int32) (S15 : Mem) => post r16 S15) S13 ((S13 11 0 (4 : Int32).toNatClampNeg)))) ∧ (¬ ((S3 11 0 (4 : Int32).toNatClampNeg) + v1) ≤ (99 : Int32) → (vp_in (4 : Int32) 84 ∧ mX6_refuses (fun (r19 : Int32) (S18 : Mem) => post r19 S18) S3 (2 : Int32) (5 : Int32) ((S3 11 0 (4 : Int32).toNatClampNeg))))))) ∧ (r4 = 0 → (mX6_raises (fun (r21 : Int32) (S20 : Mem) => post r21 S20) S3 (1 : Int32))))) S1 v1 (1 : Int32) (50 : Int32)) S 
set_option maxRecDepth 100000 in
set_option maxHeartbeats 4000000 in
theorem kX6_letters {l : Launch} {D : va_G} {ky : Nat → ClassId} {ad : Nat → Nat} {ex : Nat → Nat → Nat} {post : Int32 → Mem → Prop} {S : Mem} {v1 : Int32} (h : mX6_letters post S v1) : CMi l D ky ad ex yX6_letters cX6_letters 2 (some .int) rmX6_letters 0 0 [.ref (ad 117), .int v1] S post := by
  refine CMi.of (by decide) (Nat.le_of_ble_eq_true rfl) (fun p e s m args below meth c ls F hr C hl => ?_)
  have hl : lv_has ls 2 [(0, .ref (ad 117)), (1, .int v1)] := hl
  unfold mX6_letters at h
  refine lv_aload_n F.x F.b dX6_letters_0 rfl (lv_at hl 0 rfl) ?_
  refine kV F C hl (kX6_tries  h) (by decide) (ce_M _) rfl wv_X6_82 ⟨rfl, rfl, ⟨Nat.le_of_ble_eq_true rfl, Nat.le_of_ble_eq_true rfl⟩, ⟨Nat.le_of_ble_eq_true rfl, Nat.le_of_ble_eq_true rfl⟩, Nat.le_of_ble_eq_true rfl⟩ (rest := []) rfl dX6_letters_1 (fun S1 H locs h C => ?_)
  refine lv_iload_n F.x F.b dX6_letters_4 rfl (lv_at hl 1 rfl) ?_
  refine lv_iconst (v := 1) F.x F.b dX6_letters_5 (by decide) ?_
  refine lv_bipush (v := 50) F.x F.b dX6_letters_6 (by decide) ?_
  refine kSI F C hl (kX6_in  h) wv_X6_62 ⟨rfl, rfl, ⟨Nat.le_of_ble_eq_true rfl, Nat.le_of_ble_eq_true rfl⟩, ⟨Nat.le_of_ble_eq_true rfl, Nat.le_of_ble_eq_true rfl⟩, Nat.le_of_ble_eq_true rfl⟩ (rest := []) rfl dX6_letters_8 (fun r4 S3 H locs h C => ?_)
  refine lv_if_ne (tgt := 20) F.x F.b dX6_letters_11 (by decide) (fun g5 => ?_) (fun g5 => ?_)
  · have h := h.1 g5
    refine lv_aload_n F.x F.b dX6_letters_20 rfl (lv_at hl 0 rfl) ?_
    refine getM F C 0 (by decide) q4_222 (v := .ref (ad 118)) rfl dX6_letters_21 ?_
    refine lv_iconst (v := 4) F.x F.b dX6_letters_24 (by decide) ?_
    obtain ⟨g6, h⟩ := h
    refine aldI F C (o := 118) (cq := 11) (iq := 0) (by decide) rfl rfl rfl g6 dX6_letters_25 ?_
    refine lv_iload_n F.x F.b dX6_letters_26 rfl (lv_at hl 1 rfl) ?_
    refine lv_iadd F.x F.b dX6_letters_27 ?_
    refine lv_bipush (v := 99) F.x F.b dX6_letters_28 (by decide) ?_
    refine lv_icmp_le (tgt := 46) F.x F.b dX6_letters_30 (by decide) (fun g7 => ?_) (fun g7 => ?_)
    · have h := h.1 g7
      refine lv_aload_n F.x F.b dX6_letters_46 rfl (lv_at hl 0 rfl) ?_
      refine getM F C 0 (by decide) q4_222 (v := .ref (ad 118)) rfl dX6_letters_47 ?_
      refine lv_iconst (v := 4) F.x F.b dX6_letters_50 (by decide) ?_
      refine lv_dup2_11 F.x F.b dX6_letters_51 rfl rfl ?_
      obtain ⟨g8, h⟩ := h
      refine aldI F C (o := 118) (cq := 11) (iq := 0) (by decide) rfl rfl rfl g8 dX6_letters_52 ?_
      refine lv_iload_n F.x F.b dX6_letters_53 rfl (lv_at hl 1 rfl) ?_
      refine lv_iadd F.x F.b dX6_letters_54 ?_
      obtain ⟨g9, h⟩ := h
      refine astI F C (o := 118) (cq := 11) (iq := 0) (by decide) rfl rfl (fun _ => rfl) g9 dX6_letters_55 (fun H locs C => ?_)
      obtain ⟨S10, eS10⟩ : ∃ z : Mem, z = wr S3 11 0 (4 : Int32).toNatClampNeg ((S3 11 0 (4 : Int32).toNatClampNeg) + v1) := ⟨_, rfl⟩
      rw [← eS10] at C
      have h := h S10 eS10
      refine lv_aload_n F.x F.b dX6_letters_56 rfl (lv_at hl 0 rfl) ?_
      refine getM F C 0 (by decide) q4_222 (v := .ref (ad 118)) rfl dX6_letters_57 ?_
      refine lv_bipush (v := 6) F.x F.b dX6_letters_60 (by decide) ?_
      refine lv_dup2_11 F.x F.b dX6_letters_62 rfl rfl ?_
      obtain ⟨g11, h⟩ := h
      refine aldI F C (o := 118) (cq := 11) (iq := 0) (by decide) rfl rfl rfl g11 dX6_letters_63 ?_
      refine lv_iload_n F.x F.b dX6_letters_64 rfl (lv_at hl 1 rfl) ?_
      refine lv_iadd F.x F.b dX6_letters_65 ?_
      obtain ⟨g12, h⟩ := h
      refine astI F C (o := 118) (cq := 11) (iq := 0) (by decide) rfl rfl (fun _ => rfl) g12 dX6_letters_66 (fun H locs C => ?_)
      obtain ⟨S13, eS13⟩ : ∃ z : Mem, z = wr S10 11 0 (6 : Int32).toNatClampNeg ((S10 11 0 (6 : Int32).toNatClampNeg) + v1) := ⟨_, rfl⟩
      rw [← eS13] at C
      have h := h S13 eS13
      refine lv_aload_n F.x F.b dX6_letters_67 rfl (lv_at hl 0 rfl) ?_
      refine lv_aload_n F.x F.b dX6_letters_68 rfl (lv_at hl 0 rfl) ?_
      refine getM F C 0 (by decide) q4_222 (v := .ref (ad 118)) rfl dX6_letters_69 ?_
      refine lv_iconst (v := 4) F.x F.b dX6_letters_72 (by decide) ?_
      obtain ⟨g14, h⟩ := h
      refine aldI F C (o := 118) (cq := 11) (iq := 0) (by decide) rfl rfl rfl g14 dX6_letters_73 ?_
      refine kI F C hl (kX6_keeps  h) (by decide) (ce_M _) rfl wv_X6_96 ⟨rfl, rfl, ⟨Nat.le_of_ble_eq_true rfl, Nat.le_of_ble_eq_true rfl⟩, ⟨Nat.le_of_ble_eq_true rfl, Nat.le_of_ble_eq_true rfl⟩, Nat.le_of_ble_eq_true rfl⟩ (rest := []) rfl dX6_letters_74 (fun r16 S15 H locs h C => ?_)
      exact retI F hr C h dX6_letters_77
    · have h := h.2 g7
      refine lv_aload_n F.x F.b dX6_letters_33 rfl (lv_at hl 0 rfl) ?_
      refine lv_iconst (v := 2) F.x F.b dX6_letters_34 (by decide) ?_
      refine lv_iconst (v := 5) F.x F.b dX6_letters_35 (by decide) ?_
      refine lv_aload_n F.x F.b dX6_letters_36 rfl (lv_at hl 0 rfl) ?_
      refine getM F C 0 (by decide) q4_222 (v := .ref (ad 118)) rfl dX6_letters_37 ?_
      refine lv_iconst (v := 4) F.x F.b dX6_letters_40 (by decide) ?_
      obtain ⟨g17, h⟩ := h
      refine aldI F C (o := 118) (cq := 11) (iq := 0) (by decide) rfl rfl rfl g17 dX6_letters_41 ?_
      refine kI F C hl (kX6_refuses  h) (by decide) (ce_M _) rfl wv_X6_92 ⟨rfl, rfl, ⟨Nat.le_of_ble_eq_true rfl, Nat.le_of_ble_eq_true rfl⟩, ⟨Nat.le_of_ble_eq_true rfl, Nat.le_of_ble_eq_true rfl⟩, Nat.le_of_ble_eq_true rfl⟩ (rest := []) rfl dX6_letters_42 (fun r19 S18 H locs h C => ?_)
      exact retI F hr C h dX6_letters_45
  · have h := h.2 g5
    refine lv_aload_n F.x F.b dX6_letters_14 rfl (lv_at hl 0 rfl) ?_
    refine lv_iconst (v := 1) F.x F.b dX6_letters_15 (by decide) ?_
    refine kI F C hl (kX6_raises  h) (by decide) (ce_M _) rfl wv_X6_58 ⟨rfl, rfl, ⟨Nat.le_of_ble_eq_true rfl, Nat.le_of_ble_eq_true rfl⟩, ⟨Nat.le_of_ble_eq_true rfl, Nat.le_of_ble_eq_true rfl⟩, Nat.le_of_ble_eq_true rfl⟩ (rest := []) rfl dX6_letters_16 (fun r21 S20 H locs h C => ?_)
    exact retI F hr C h dX6_letters_19

def rmX6_stoneOf : Room := { frames := 2, cells := 0, slots := 0, locals := 46 }
def mX6_stoneOf (post : Int32 → Mem → Prop) (S : Mem) (v1 : Int32) (v2 : Int32) : Prop := ∀ S1 : Mem, S1 = wr S 10 0 21 (0 : Int32) → mX6_isStone (fun (r3 : Int32) (S2 : Mem) => ((¬ r3 = 0 → (((v2 = (0 : Int32) → (vp_in ((10 : Int32) + v1) 84 ∧ post ((S2 11 0 (((10 : Int32) + v1)).toNatClampNeg)) S2)) ∧ (v2 = (1 : Int32) → (mX6_state (fun (r8 : Int32) (S7 : Mem) => post r8 S7) S2 v1)) ∧ (v2 = (2 : Int32) → (mX6_countAt (fun (r10 : Int32) (S9 : Mem) => post r10 S9) S2 v1 v1)) ∧ (¬ v2 = (0 : Int32) ∧ ¬ v2 = (1 : Int32) ∧ ¬ v2 = (2 : Int32) → (mX6_raises (fun (r12 : Int32) (S11 : Mem) => post r12 S11) S2 (2 : Int32)))))) ∧ (r3 = 0 → (mX6_raises (fun (r14 : Int32) (S13 : Mem) => post r14 S13) S2 (1 : Int32))))) S1 v1
set_option maxRecDepth 100000 in
set_option maxHeartbeats 4000000 in
theorem kX6_stoneOf {l : Launch} {D : va_G} {ky : Nat → ClassId} {ad : Nat → Nat} {ex : Nat → Nat → Nat} {post : Int32 → Mem → Prop} {S : Mem} {v1 : Int32} {v2 : Int32} (h : mX6_stoneOf post S v1 v2) : CMi l D ky ad ex yX6_stoneOf cX6_stoneOf 3 (some .int) rmX6_stoneOf 0 0 [.ref (ad 117), .int v1, .int v2] S post := by
  refine CMi.of (by decide) (Nat.le_of_ble_eq_true rfl) (fun p e s m args below meth c ls F hr C hl => ?_)
  have hl : lv_has ls 3 [(0, .ref (ad 117)), (1, .int v1), (2, .int v2)] := hl
  unfold mX6_stoneOf at h
  refine lv_aload_n F.x F.b dX6_stoneOf_0 rfl (lv_at hl 0 rfl) ?_
  refine lv_iconst (v := 0) F.x F.b dX6_stoneOf_1 (by decide) ?_
  refine putM F C 21 (by decide) q5_3 rfl (tyX6_ok 21 (by decide)) rfl rfl rfl dX6_stoneOf_2 (fun H locs C => ?_)
  obtain ⟨S1, eS1⟩ : ∃ z : Mem, z = wr S 10 0 21 (0 : Int32) := ⟨_, rfl⟩
  rw [← eS1] at C
  have h := h S1 eS1
  refine lv_iload_n F.x F.b dX6_stoneOf_5 rfl (lv_at hl 1 rfl) ?_
  refine kSI F C hl (kX6_isStone  h) wv_X6_85 ⟨rfl, rfl, ⟨Nat.le_of_ble_eq_true rfl, Nat.le_of_ble_eq_true rfl⟩, ⟨Nat.le_of_ble_eq_true rfl, Nat.le_of_ble_eq_true rfl⟩, Nat.le_of_ble_eq_true rfl⟩ (rest := []) rfl dX6_stoneOf_6 (fun r3 S2 H locs h C => ?_)
  refine lv_if_ne (tgt := 18) F.x F.b dX6_stoneOf_9 (by decide) (fun g4 => ?_) (fun g4 => ?_)
  · have h := h.1 g4
    refine lv_iload_n F.x F.b dX6_stoneOf_18 rfl (lv_at hl 2 rfl) ?_
    by_cases g5 : v2 = (0 : Int32)
    · have h := h.1 g5
      refine lv_tableIn (tgt := 44) F.x F.b dX6_stoneOf_19 (by rw [g5]; decide) (by rw [g5]; decide) (by rw [g5]; rfl) (by decide) ?_
      refine lv_aload_n F.x F.b dX6_stoneOf_44 rfl (lv_at hl 0 rfl) ?_
      refine getM F C 0 (by decide) q4_222 (v := .ref (ad 118)) rfl dX6_stoneOf_45 ?_
      refine lv_bipush (v := 10) F.x F.b dX6_stoneOf_48 (by decide) ?_
      refine lv_iload_n F.x F.b dX6_stoneOf_50 rfl (lv_at hl 1 rfl) ?_
      refine lv_iadd F.x F.b dX6_stoneOf_51 ?_
      obtain ⟨g6, h⟩ := h
      refine aldI F C (o := 118) (cq := 11) (iq := 0) (by decide) rfl rfl rfl g6 dX6_stoneOf_52 ?_
      exact retI F hr C h dX6_stoneOf_53
    · have ng5_0 := g5
      by_cases g5 : v2 = (1 : Int32)
      · have h := h.2.1 g5
        refine lv_tableIn (tgt := 54) F.x F.b dX6_stoneOf_19 (by rw [g5]; decide) (by rw [g5]; decide) (by rw [g5]; rfl) (by decide) ?_
        refine lv_aload_n F.x F.b dX6_stoneOf_54 rfl (lv_at hl 0 rfl) ?_
        refine lv_iload_n F.x F.b dX6_stoneOf_55 rfl (lv_at hl 1 rfl) ?_
        refine kI F C hl (kX6_state  h) (by decide) (ce_M _) rfl wv_X6_99 ⟨rfl, rfl, ⟨Nat.le_of_ble_eq_true rfl, Nat.le_of_ble_eq_true rfl⟩, ⟨Nat.le_of_ble_eq_true rfl, Nat.le_of_ble_eq_true rfl⟩, Nat.le_of_ble_eq_true rfl⟩ (rest := []) rfl dX6_stoneOf_56 (fun r8 S7 H locs h C => ?_)
        exact retI F hr C h dX6_stoneOf_59
      · have ng5_1 := g5
        by_cases g5 : v2 = (2 : Int32)
        · have h := h.2.2.1 g5
          refine lv_tableIn (tgt := 60) F.x F.b dX6_stoneOf_19 (by rw [g5]; decide) (by rw [g5]; decide) (by rw [g5]; rfl) (by decide) ?_
          refine lv_aload_n F.x F.b dX6_stoneOf_60 rfl (lv_at hl 0 rfl) ?_
          refine lv_iload_n F.x F.b dX6_stoneOf_61 rfl (lv_at hl 1 rfl) ?_
          refine lv_iload_n F.x F.b dX6_stoneOf_62 rfl (lv_at hl 1 rfl) ?_
          refine kI F C hl (kX6_countAt  h) (by decide) (ce_M _) rfl wv_X6_102 ⟨rfl, rfl, ⟨Nat.le_of_ble_eq_true rfl, Nat.le_of_ble_eq_true rfl⟩, ⟨Nat.le_of_ble_eq_true rfl, Nat.le_of_ble_eq_true rfl⟩, Nat.le_of_ble_eq_true rfl⟩ (rest := []) rfl dX6_stoneOf_63 (fun r10 S9 H locs h C => ?_)
          exact retI F hr C h dX6_stoneOf_66
        · have ng5_2 := g5
          have h := h.2.2.2 ⟨ng5_0, ng5_1, ng5_2⟩
          refine lv_tableOut (tgt := 67) F.x F.b dX6_stoneOf_19 (sw_out v2 0 2 (by decide) (by decide) (fun z h1 h2 => ?_)) (by decide) ?_
          · rcases (show z = 0 ∨ z = 1 ∨ z = 2 by omega) with rfl | rfl | rfl
            · exact ng5_0
            · exact ng5_1
            · exact ng5_2
          · refine lv_aload_n F.x F.b dX6_stoneOf_67 rfl (lv_at hl 0 rfl) ?_
            refine lv_iconst (v := 2) F.x F.b dX6_stoneOf_68 (by decide) ?_
            refine kI F C hl (kX6_raises  h) (by decide) (ce_M _) rfl wv_X6_58 ⟨rfl, rfl, ⟨Nat.le_of_ble_eq_true rfl, Nat.le_of_ble_eq_true rfl⟩, ⟨Nat.le_of_ble_eq_true rfl, Nat.le_of_ble_eq_true rfl⟩, Nat.le_of_ble_eq_true rfl⟩ (rest := []) rfl dX6_stoneOf_69 (fun r12 S11 H locs h C => ?_)
            exact retI F hr C h dX6_stoneOf_72
  · have h := h.2 g4
    refine lv_aload_n F.x F.b dX6_stoneOf_12 rfl (lv_at hl 0 rfl) ?_
    refine lv_iconst (v := 1) F.x F.b dX6_stoneOf_13 (by decide) ?_
    refine kI F C hl (kX6_raises  h) (by decide) (ce_M _) rfl wv_X6_58 ⟨rfl, rfl, ⟨Nat.le_of_ble_eq_true rfl, Nat.le_of_ble_eq_true rfl⟩, ⟨Nat.le_of_ble_eq_true rfl, Nat.le_of_ble_eq_true rfl⟩, Nat.le_of_ble_eq_true rfl⟩ (rest := []) rfl dX6_stoneOf_14 (fun r14 S13 H locs h C => ?_)
    exact retI F hr C h dX6_stoneOf_17

def rmX6_underNow : Room := { frames := 1, cells := 0, slots := 0, locals := 22 }
def mX6_underNow_b4 (post : Int32 → Mem → Prop) : Nat → Mem → Int32 → Int32 → Prop
  | 0, _, _, _ => False
  | n + 1, S, v1, v2 => (((10 : Int32) ≤ v2 → (post v1 S)) ∧ (¬ (10 : Int32) ≤ v2 → (mX6_state (fun (r3 : Int32) (S2 : Mem) => ((¬ r3 = (2 : Int32) → (∀ x5 : Int32, x5 = v2 + (1 : Int32) → mX6_underNow_b4 post n S2 v1 x5)) ∧ (r3 = (2 : Int32) → (∀ x6 : Int32, x6 = (v1 ||| ((1 : Int32) <<< (v2 &&& 31))) → ∀ x7 : Int32, x7 = v2 + (1 : Int32) → mX6_underNow_b4 post n S2 x6 x7)))) S v2)))
def mX6_underNow (post : Int32 → Mem → Prop) (S : Mem) : Prop := ∃ fu : Nat, mX6_underNow_b4 post fu S (0 : Int32) (0 : Int32)
set_option maxRecDepth 100000 in
set_option maxHeartbeats 4000000 in
theorem bX6_underNow_4 {p : Program} {l : Launch} {e : Env} {s : State} {m : MethodId} {args : Array Value} {below : List Frame} {meth : Method} {c : Code} {D : va_G} {ky : Nat → ClassId} {ad : Nat → Nat} {ex : Nat → Nat → Nat} (F : Fx p s m args meth c D ky ad ex cX6_underNow 3 yX6_underNow.cls) (hr : meth.sig.returnType = (some .int)) {post : Int32 → Mem → Prop} : ∀ (n : Nat) (S : Mem) (v1 : Int32) (v2 : Int32) (H : Heap) (locs : List Loc) (ls : Array Slot), mX6_underNow_b4 post n S v1 v2 → Cx D ky ad s S H locs → lv_has ls 3 [(0, .ref (ad 117)), (1, .int v1), (2, .int v2)] → W p l e rmX6_underNow s m args below meth c H locs 0 0 (MQ below (va_Qi post (AFT D ky ad) (AW ad s.heap.size)) args s 0 0 (AW ad s.heap.size)) (F0 m 4 ls []) := by
  intro n
  induction n with
  | zero =>
    intro S v1 v2 H locs ls  h
    exact False.elim h
  | succ n ih =>
    intro S v1 v2 H locs ls  h C hl
    refine lv_iload_n F.x F.b dX6_underNow_4 rfl (lv_at hl 2 rfl) ?_
    refine lv_bipush (v := 10) F.x F.b dX6_underNow_5 (by decide) ?_
    refine lv_icmp_ge (tgt := 31) F.x F.b dX6_underNow_7 (by decide) (fun g1 => ?_) (fun g1 => ?_)
    · have h := h.1 g1
      refine lv_iload_n F.x F.b dX6_underNow_31 rfl (lv_at hl 1 rfl) ?_
      exact retI F hr C h dX6_underNow_32
    · have h := h.2 g1
      refine lv_aload_n F.x F.b dX6_underNow_10 rfl (lv_at hl 0 rfl) ?_
      refine lv_iload_n F.x F.b dX6_underNow_11 rfl (lv_at hl 2 rfl) ?_
      refine kI F C hl (kX6_state  h) (by decide) (ce_M _) rfl wv_X6_99 ⟨rfl, rfl, ⟨Nat.le_of_ble_eq_true rfl, Nat.le_of_ble_eq_true rfl⟩, ⟨Nat.le_of_ble_eq_true rfl, Nat.le_of_ble_eq_true rfl⟩, Nat.le_of_ble_eq_true rfl⟩ (rest := []) rfl dX6_underNow_12 (fun r3 S2 H locs h C => ?_)
      refine lv_iconst (v := 2) F.x F.b dX6_underNow_15 (by decide) ?_
      refine lv_icmp_ne (tgt := 25) F.x F.b dX6_underNow_16 (by decide) (fun g4 => ?_) (fun g4 => ?_)
      · have h := h.1 g4
        obtain ⟨x5, ex5⟩ : ∃ z : Int32, z = v2 + (1 : Int32) := ⟨_, rfl⟩
        have h := h x5 ex5
        refine lv_iinc (v := x5) (lv' := [(2, .int x5), (0, .ref (ad 117)), (1, .int v1)]) F.x F.b dX6_underNow_25 hl (k := 2) rfl (by rw [ex5]; rfl) (by decide) rfl (fun ls hl => ?_)
        refine lv_goto (tgt := 4) F.x F.b dX6_underNow_28 (by decide) ?_
        exact ih S2 v1 x5 _ _ _ h C (lv_sub hl [1, 2, 0] rfl)
      · have h := h.2 g4
        refine lv_iload_n F.x F.b dX6_underNow_19 rfl (lv_at hl 1 rfl) ?_
        refine lv_iconst (v := 1) F.x F.b dX6_underNow_20 (by decide) ?_
        refine lv_iload_n F.x F.b dX6_underNow_21 rfl (lv_at hl 2 rfl) ?_
        refine lv_ishl F.x F.b dX6_underNow_22 ?_
        refine lv_ior F.x F.b dX6_underNow_23 ?_
        refine lv_topi (fun x6 ex6 => ?_)
        have h := h x6 ex6
        refine lv_istore_n (lv' := [(1, .int x6), (0, .ref (ad 117)), (2, .int v2)]) F.x F.b dX6_underNow_24 rfl hl (by decide) rfl (fun ls hl => ?_)
        obtain ⟨x7, ex7⟩ : ∃ z : Int32, z = v2 + (1 : Int32) := ⟨_, rfl⟩
        have h := h x7 ex7
        refine lv_iinc (v := x7) (lv' := [(2, .int x7), (1, .int x6), (0, .ref (ad 117))]) F.x F.b dX6_underNow_25 hl (k := 2) rfl (by rw [ex7]; rfl) (by decide) rfl (fun ls hl => ?_)
        refine lv_goto (tgt := 4) F.x F.b dX6_underNow_28 (by decide) ?_
        exact ih S2 x6 x7 _ _ _ h C (lv_sub hl [2, 1, 0] rfl)
set_option maxRecDepth 100000 in
set_option maxHeartbeats 4000000 in
theorem kX6_underNow {l : Launch} {D : va_G} {ky : Nat → ClassId} {ad : Nat → Nat} {ex : Nat → Nat → Nat} {post : Int32 → Mem → Prop} {S : Mem} (h : mX6_underNow post S ) : CMi l D ky ad ex yX6_underNow cX6_underNow 3 (some .int) rmX6_underNow 0 0 [.ref (ad 117)] S post := by
  refine CMi.of (by decide) (Nat.le_of_ble_eq_true rfl) (fun p e s m args below meth c ls F hr C hl => ?_)
  have hl : lv_has ls 3 [(0, .ref (ad 117))] := hl
  unfold mX6_underNow at h
  refine lv_iconst (v := 0) F.x F.b dX6_underNow_0 (by decide) ?_
  refine lv_istore_n (lv' := [(1, .int (0 : Int32)), (0, .ref (ad 117))]) F.x F.b dX6_underNow_1 rfl hl (by decide) rfl (fun ls hl => ?_)
  refine lv_iconst (v := 0) F.x F.b dX6_underNow_2 (by decide) ?_
  refine lv_istore_n (lv' := [(2, .int (0 : Int32)), (1, .int (0 : Int32)), (0, .ref (ad 117))]) F.x F.b dX6_underNow_3 rfl hl (by decide) rfl (fun ls hl => ?_)
  obtain ⟨n1, h⟩ := h
  exact bX6_underNow_4 F hr n1 S (0 : Int32) (0 : Int32) _ _ _ h C (lv_sub hl [2, 1, 0] rfl)

def rmX6_under : Room := { frames := 2, cells := 0, slots := 0, locals := 44 }
def mX6_under (post : Int32 → Mem → Prop) (S : Mem) : Prop := ∀ S1 : Mem, S1 = wr S 10 0 21 (0 : Int32) → mX6_underNow (fun (r3 : Int32) (S2 : Mem) => post r3 S2) S1 
set_option maxRecDepth 100000 in
set_option maxHeartbeats 4000000 in
theorem kX6_under {l : Launch} {D : va_G} {ky : Nat → ClassId} {ad : Nat → Nat} {ex : Nat → Nat → Nat} {post : Int32 → Mem → Prop} {S : Mem} (h : mX6_under post S ) : CMi l D ky ad ex yX6_under cX6_under 1 (some .int) rmX6_under 0 0 [.ref (ad 117)] S post := by
  refine CMi.of (by decide) (Nat.le_of_ble_eq_true rfl) (fun p e s m args below meth c ls F hr C hl => ?_)
  have hl : lv_has ls 1 [(0, .ref (ad 117))] := hl
  unfold mX6_under at h
  refine lv_aload_n F.x F.b dX6_under_0 rfl (lv_at hl 0 rfl) ?_
  refine lv_iconst (v := 0) F.x F.b dX6_under_1 (by decide) ?_
  refine putM F C 21 (by decide) q5_3 rfl (tyX6_ok 21 (by decide)) rfl rfl rfl dX6_under_2 (fun H locs C => ?_)
  obtain ⟨S1, eS1⟩ : ∃ z : Mem, z = wr S 10 0 21 (0 : Int32) := ⟨_, rfl⟩
  rw [← eS1] at C
  have h := h S1 eS1
  refine lv_aload_n F.x F.b dX6_under_5 rfl (lv_at hl 0 rfl) ?_
  refine kI F C hl (kX6_underNow  h) (by decide) (ce_M _) rfl wv_X6_105 ⟨rfl, rfl, ⟨Nat.le_of_ble_eq_true rfl, Nat.le_of_ble_eq_true rfl⟩, ⟨Nat.le_of_ble_eq_true rfl, Nat.le_of_ble_eq_true rfl⟩, Nat.le_of_ble_eq_true rfl⟩ (rest := []) rfl dX6_under_6 (fun r3 S2 H locs h C => ?_)
  exact retI F hr C h dX6_under_9

def rmX6_next : Room := { frames := 1, cells := 0, slots := 0, locals := 14 }
def mX6_next (post : Int32 → Mem → Prop) (S : Mem) (v1 : Int32) : Prop := vp_in (2 : Int32) 84 ∧ ∀ x2 : Int32, x2 = (if (v1 + (S 11 0 (2 : Int32).toNatClampNeg)) < (40 : Int32) then (v1 + (S 11 0 (2 : Int32).toNatClampNeg)) else (40 : Int32)) → ((x2 ≤ (4 : Int32) → (post x2 S)) ∧ (¬ x2 ≤ (4 : Int32) → (post ((if (4 : Int32) < (x2 - (2 : Int32)) then (x2 - (2 : Int32)) else (4 : Int32))) S)))
set_option maxRecDepth 100000 in
set_option maxHeartbeats 4000000 in
theorem kX6_next {l : Launch} {D : va_G} {ky : Nat → ClassId} {ad : Nat → Nat} {ex : Nat → Nat → Nat} {post : Int32 → Mem → Prop} {S : Mem} {v1 : Int32} (h : mX6_next post S v1) : CMi l D ky ad ex yX6_next cX6_next 3 (some .int) rmX6_next 0 0 [.ref (ad 117), .int v1] S post := by
  refine CMi.of (by decide) (Nat.le_of_ble_eq_true rfl) (fun p e s m args below meth c ls F hr C hl => ?_)
  have hl : lv_has ls 3 [(0, .ref (ad 117)), (1, .int v1)] := hl
  unfold mX6_next at h
  refine lv_bipush (v := 40) F.x F.b dX6_next_0 (by decide) ?_
  refine lv_iload_n F.x F.b dX6_next_2 rfl (lv_at hl 1 rfl) ?_
  refine lv_aload_n F.x F.b dX6_next_3 rfl (lv_at hl 0 rfl) ?_
  refine getM F C 0 (by decide) q4_222 (v := .ref (ad 118)) rfl dX6_next_4 ?_
  refine lv_iconst (v := 2) F.x F.b dX6_next_7 (by decide) ?_
  obtain ⟨g1, h⟩ := h
  refine aldI F C (o := 118) (cq := 11) (iq := 0) (by decide) rfl rfl rfl g1 dX6_next_8 ?_
  refine lv_iadd F.x F.b dX6_next_9 ?_
  refine mMin F hl q5_128 ⟨Nat.le_of_ble_eq_true rfl, Nat.le_of_ble_eq_true rfl, Nat.le_of_ble_eq_true rfl, Nat.le_of_ble_eq_true rfl⟩ dX6_next_10 ?_
  refine lv_topi (fun x2 ex2 => ?_)
  have h := h x2 ex2
  refine lv_istore_n (lv' := [(2, .int x2), (0, .ref (ad 117)), (1, .int v1)]) F.x F.b dX6_next_13 rfl hl (by decide) rfl (fun ls hl => ?_)
  refine lv_iload_n F.x F.b dX6_next_14 rfl (lv_at hl 0 rfl) ?_
  refine lv_iconst (v := 4) F.x F.b dX6_next_15 (by decide) ?_
  refine lv_icmp_le (tgt := 29) F.x F.b dX6_next_16 (by decide) (fun g3 => ?_) (fun g3 => ?_)
  · have h := h.1 g3
    refine lv_iload_n F.x F.b dX6_next_29 rfl (lv_at hl 0 rfl) ?_
    exact retI F hr C h dX6_next_30
  · have h := h.2 g3
    refine lv_iconst (v := 4) F.x F.b dX6_next_19 (by decide) ?_
    refine lv_iload_n F.x F.b dX6_next_20 rfl (lv_at hl 0 rfl) ?_
    refine lv_iconst (v := 2) F.x F.b dX6_next_21 (by decide) ?_
    refine lv_isub F.x F.b dX6_next_22 ?_
    refine mMax F hl q5_129 ⟨Nat.le_of_ble_eq_true rfl, Nat.le_of_ble_eq_true rfl, Nat.le_of_ble_eq_true rfl, Nat.le_of_ble_eq_true rfl⟩ dX6_next_23 ?_
    refine lv_goto (tgt := 30) F.x F.b dX6_next_26 (by decide) ?_
    exact retI F hr C h dX6_next_30

def rmX6_floodIn : Room := { frames := 2, cells := 0, slots := 0, locals := 36 }
def mX6_floodIn_b9 (post : Int32 → Mem → Prop) : Nat → Mem → Int32 → Int32 → Int32 → Prop
  | 0, _, _, _, _ => False
  | n + 1, S, v1, v2, v3 => ((v1 ≤ v3 → (post v2 S)) ∧ (¬ v1 ≤ v3 → (mX6_next (fun (r3 : Int32) (S2 : Mem) => ∀ x4 : Int32, x4 = v3 + (1 : Int32) → mX6_floodIn_b9 post n S2 v1 r3 x4) S v2)))
def mX6_floodIn (post : Int32 → Mem → Prop) (S : Mem) (v1 : Int32) : Prop := vp_in (1 : Int32) 84 ∧ ∀ x2 : Int32, x2 = (S 11 0 (1 : Int32).toNatClampNeg) → ∃ fu : Nat, mX6_floodIn_b9 post fu S v1 x2 (0 : Int32)
set_option maxRecDepth 100000 in
set_option maxHeartbeats 4000000 in
theorem bX6_floodIn_9 {p : Program} {l : Launch} {e : Env} {s : State} {m : MethodId} {args : Array Value} {below : List Frame} {meth : Method} {c : Code} {D : va_G} {ky : Nat → ClassId} {ad : Nat → Nat} {ex : Nat → Nat → Nat} (F : Fx p s m args meth c D ky ad ex cX6_floodIn 4 yX6_floodIn.cls) (hr : meth.sig.returnType = (some .int)) {post : Int32 → Mem → Prop} : ∀ (n : Nat) (S : Mem) (v1 : Int32) (v2 : Int32) (v3 : Int32) (H : Heap) (locs : List Loc) (ls : Array Slot), mX6_floodIn_b9 post n S v1 v2 v3 → Cx D ky ad s S H locs → lv_has ls 4 [(0, .ref (ad 117)), (1, .int v1), (2, .int v2), (3, .int v3)] → W p l e rmX6_floodIn s m args below meth c H locs 0 0 (MQ below (va_Qi post (AFT D ky ad) (AW ad s.heap.size)) args s 0 0 (AW ad s.heap.size)) (F0 m 9 ls []) := by
  intro n
  induction n with
  | zero =>
    intro S v1 v2 v3 H locs ls  h
    exact False.elim h
  | succ n ih =>
    intro S v1 v2 v3 H locs ls  h C hl
    refine lv_iload_n F.x F.b dX6_floodIn_9 rfl (lv_at hl 3 rfl) ?_
    refine lv_iload_n F.x F.b dX6_floodIn_10 rfl (lv_at hl 1 rfl) ?_
    refine lv_icmp_ge (tgt := 26) F.x F.b dX6_floodIn_11 (by decide) (fun g1 => ?_) (fun g1 => ?_)
    · have h := h.1 g1
      refine lv_iload_n F.x F.b dX6_floodIn_26 rfl (lv_at hl 2 rfl) ?_
      exact retI F hr C h dX6_floodIn_27
    · have h := h.2 g1
      refine lv_aload_n F.x F.b dX6_floodIn_14 rfl (lv_at hl 0 rfl) ?_
      refine lv_iload_n F.x F.b dX6_floodIn_15 rfl (lv_at hl 2 rfl) ?_
      refine kI F C hl (kX6_next  h) (by decide) (ce_M _) rfl wv_X6_109 ⟨rfl, rfl, ⟨Nat.le_of_ble_eq_true rfl, Nat.le_of_ble_eq_true rfl⟩, ⟨Nat.le_of_ble_eq_true rfl, Nat.le_of_ble_eq_true rfl⟩, Nat.le_of_ble_eq_true rfl⟩ (rest := []) rfl dX6_floodIn_16 (fun r3 S2 H locs h C => ?_)
      refine lv_istore_n (lv' := [(2, .int r3), (0, .ref (ad 117)), (1, .int v1), (3, .int v3)]) F.x F.b dX6_floodIn_19 rfl hl (by decide) rfl (fun ls hl => ?_)
      obtain ⟨x4, ex4⟩ : ∃ z : Int32, z = v3 + (1 : Int32) := ⟨_, rfl⟩
      have h := h x4 ex4
      refine lv_iinc (v := x4) (lv' := [(3, .int x4), (2, .int r3), (0, .ref (ad 117)), (1, .int v1)]) F.x F.b dX6_floodIn_20 hl (k := 3) rfl (by rw [ex4]; rfl) (by decide) rfl (fun ls hl => ?_)
      refine lv_goto (tgt := 9) F.x F.b dX6_floodIn_23 (by decide) ?_
      exact ih S2 v1 r3 x4 _ _ _ h C (lv_sub hl [2, 3, 1, 0] rfl)
set_option maxRecDepth 100000 in
set_option maxHeartbeats 4000000 in
theorem kX6_floodIn {l : Launch} {D : va_G} {ky : Nat → ClassId} {ad : Nat → Nat} {ex : Nat → Nat → Nat} {post : Int32 → Mem → Prop} {S : Mem} {v1 : Int32} (h : mX6_floodIn post S v1) : CMi l D ky ad ex yX6_floodIn cX6_floodIn 4 (some .int) rmX6_floodIn 0 0 [.ref (ad 117), .int v1] S post := by
  refine CMi.of (by decide) (Nat.le_of_ble_eq_true rfl) (fun p e s m args below meth c ls F hr C hl => ?_)
  have hl : lv_has ls 4 [(0, .ref (ad 117)), (1, .int v1)] := hl
  unfold mX6_floodIn at h
  refine lv_aload_n F.x F.b dX6_floodIn_0 rfl (lv_at hl 0 rfl) ?_
  refine getM F C 0 (by decide) q4_222 (v := .ref (ad 118)) rfl dX6_floodIn_1 ?_
  refine lv_iconst (v := 1) F.x F.b dX6_floodIn_4 (by decide) ?_
  obtain ⟨g1, h⟩ := h
  refine aldI F C (o := 118) (cq := 11) (iq := 0) (by decide) rfl rfl rfl g1 dX6_floodIn_5 ?_
  refine lv_topi (fun x2 ex2 => ?_)
  have h := h x2 ex2
  refine lv_istore_n (lv' := [(2, .int x2), (0, .ref (ad 117)), (1, .int v1)]) F.x F.b dX6_floodIn_6 rfl hl (by decide) rfl (fun ls hl => ?_)
  refine lv_iconst (v := 0) F.x F.b dX6_floodIn_7 (by decide) ?_
  refine lv_istore_n (lv' := [(3, .int (0 : Int32)), (2, .int x2), (0, .ref (ad 117)), (1, .int v1)]) F.x F.b dX6_floodIn_8 rfl hl (by decide) rfl (fun ls hl => ?_)
  obtain ⟨n3, h⟩ := h
  exact bX6_floodIn_9 F hr n3 S v1 x2 (0 : Int32) _ _ _ h C (lv_sub hl [2, 3, 1, 0] rfl)

def rmX6_flood : Room := { frames := 3, cells := 0, slots := 0, locals := 59 }
def mX6_flood (post : Int32 → Mem → Prop) (S : Mem) (v1 : Int32) : Prop := ∀ S1 : Mem, S1 = wr S 10 0 21 (0 : Int32) → mX6_in (fun (r3 : Int32) (S2 : Mem) => ((r3 = 0 → (mX6_raises (fun (r6 : Int32) (S5 : Mem) => post r6 S5) S2 (1 : Int32))) ∧ (¬ r3 = 0 → (mX6_floodIn (fun (r8 : Int32) (S7 : Mem) => post r8 S7) S2 v1)))) S1 v1 (0 : Int32) (60 : Int32)
set_option maxRecDepth 100000 in
set_option maxHeartbeats 4000000 in
theorem kX6_flood {l : Launch} {D : va_G} {ky : Nat → ClassId} {ad : Nat → Nat} {ex : Nat → Nat → Nat} {post : Int32 → Mem → Prop} {S : Mem} {v1 : Int32} (h : mX6_flood post S v1) : CMi l D ky ad ex yX6_flood cX6_flood 2 (some .int) rmX6_flood 0 0 [.ref (ad 117), .int v1] S post := by
  refine CMi.of (by decide) (Nat.le_of_ble_eq_true rfl) (fun p e s m args below meth c ls F hr C hl => ?_)
  have hl : lv_has ls 2 [(0, .ref (ad 117)), (1, .int v1)] := hl
  unfold mX6_flood at h
  refine lv_aload_n F.x F.b dX6_flood_0 rfl (lv_at hl 0 rfl) ?_
  refine lv_iconst (v := 0) F.x F.b dX6_flood_1 (by decide) ?_
  refine putM F C 21 (by decide) q5_3 rfl (tyX6_ok 21 (by decide)) rfl rfl rfl dX6_flood_2 (fun H locs C => ?_)
  obtain ⟨S1, eS1⟩ : ∃ z : Mem, z = wr S 10 0 21 (0 : Int32) := ⟨_, rfl⟩
  rw [← eS1] at C
  have h := h S1 eS1
  refine lv_iload_n F.x F.b dX6_flood_5 rfl (lv_at hl 1 rfl) ?_
  refine lv_iconst (v := 0) F.x F.b dX6_flood_6 (by decide) ?_
  refine lv_bipush (v := 60) F.x F.b dX6_flood_7 (by decide) ?_
  refine kSI F C hl (kX6_in  h) wv_X6_62 ⟨rfl, rfl, ⟨Nat.le_of_ble_eq_true rfl, Nat.le_of_ble_eq_true rfl⟩, ⟨Nat.le_of_ble_eq_true rfl, Nat.le_of_ble_eq_true rfl⟩, Nat.le_of_ble_eq_true rfl⟩ (rest := []) rfl dX6_flood_9 (fun r3 S2 H locs h C => ?_)
  refine lv_if_eq (tgt := 23) F.x F.b dX6_flood_12 (by decide) (fun g4 => ?_) (fun g4 => ?_)
  · have h := h.1 g4
    refine lv_aload_n F.x F.b dX6_flood_23 rfl (lv_at hl 0 rfl) ?_
    refine lv_iconst (v := 1) F.x F.b dX6_flood_24 (by decide) ?_
    refine kI F C hl (kX6_raises  h) (by decide) (ce_M _) rfl wv_X6_58 ⟨rfl, rfl, ⟨Nat.le_of_ble_eq_true rfl, Nat.le_of_ble_eq_true rfl⟩, ⟨Nat.le_of_ble_eq_true rfl, Nat.le_of_ble_eq_true rfl⟩, Nat.le_of_ble_eq_true rfl⟩ (rest := []) rfl dX6_flood_25 (fun r6 S5 H locs h C => ?_)
    exact retI F hr C h dX6_flood_28
  · have h := h.2 g4
    refine lv_aload_n F.x F.b dX6_flood_15 rfl (lv_at hl 0 rfl) ?_
    refine lv_iload_n F.x F.b dX6_flood_16 rfl (lv_at hl 1 rfl) ?_
    refine kI F C hl (kX6_floodIn  h) (by decide) (ce_M _) rfl wv_X6_112 ⟨rfl, rfl, ⟨Nat.le_of_ble_eq_true rfl, Nat.le_of_ble_eq_true rfl⟩, ⟨Nat.le_of_ble_eq_true rfl, Nat.le_of_ble_eq_true rfl⟩, Nat.le_of_ble_eq_true rfl⟩ (rest := []) rfl dX6_flood_17 (fun r8 S7 H locs h C => ?_)
    refine lv_goto (tgt := 28) F.x F.b dX6_flood_20 (by decide) ?_
    exact retI F hr C h dX6_flood_28

def rmX6_floodAgain : Room := { frames := 4, cells := 0, slots := 0, locals := 80 }
def mX6_floodAgain (post : Int32 → Mem → Prop) (S : Mem) (v1 : Int32) : Prop := mX6_flood (fun (r2 : Int32) (S1 : Mem) => post r2 S1) S v1
set_option maxRecDepth 100000 in
set_option maxHeartbeats 4000000 in
theorem kX6_floodAgain {l : Launch} {D : va_G} {ky : Nat → ClassId} {ad : Nat → Nat} {ex : Nat → Nat → Nat} {post : Int32 → Mem → Prop} {S : Mem} {v1 : Int32} (h : mX6_floodAgain post S v1) : CMi l D ky ad ex yX6_floodAgain cX6_floodAgain 2 (some .int) rmX6_floodAgain 0 0 [.ref (ad 117), .int v1] S post := by
  refine CMi.of (by decide) (Nat.le_of_ble_eq_true rfl) (fun p e s m args below meth c ls F hr C hl => ?_)
  have hl : lv_has ls 2 [(0, .ref (ad 117)), (1, .int v1)] := hl
  unfold mX6_floodAgain at h
  refine lv_aload_n F.x F.b dX6_floodAgain_0 rfl (lv_at hl 0 rfl) ?_
  refine lv_iload_n F.x F.b dX6_floodAgain_1 rfl (lv_at hl 1 rfl) ?_
  refine kI F C hl (kX6_flood  h) (by decide) (ce_M _) rfl wv_X6_115 ⟨rfl, rfl, ⟨Nat.le_of_ble_eq_true rfl, Nat.le_of_ble_eq_true rfl⟩, ⟨Nat.le_of_ble_eq_true rfl, Nat.le_of_ble_eq_true rfl⟩, Nat.le_of_ble_eq_true rfl⟩ (rest := []) rfl dX6_floodAgain_2 (fun r2 S1 H locs h C => ?_)
  exact retI F hr C h dX6_floodAgain_5

def rmX6_clearIn : Room := { frames := 3, cells := 0, slots := 0, locals := 59 }
def mX6_clearIn_b38 (post : Int32 → Mem → Prop) : Nat → Mem → Int32 → Int32 → Prop
  | 0, _, _, _ => False
  | n + 1, S, v1, v2 => (((60 : Int32) < v2 → (mX6_raises (fun (r3 : Int32) (S2 : Mem) => post r3 S2) S (1 : Int32))) ∧ (¬ (60 : Int32) < v2 → (mX6_floodIn (fun (r5 : Int32) (S4 : Mem) => ((v1 < r5 → (∀ x7 : Int32, x7 = v2 + (1 : Int32) → mX6_clearIn_b38 post n S4 v1 x7)) ∧ (¬ v1 < r5 → (post v2 S4)))) S v2)))
def mX6_clearIn_b10 (post : Int32 → Mem → Prop) : Nat → Mem → Int32 → Int32 → Prop
  | 0, _, _, _ => False
  | n + 1, S, v1, v2 => (((10 : Int32) ≤ v2 → (∃ fu : Nat, mX6_clearIn_b38 post fu S v1 (0 : Int32))) ∧ (¬ (10 : Int32) ≤ v2 → (vp_in ((10 : Int32) + v2) 84 ∧ ∀ x4 : Int32, x4 = (if (S 11 0 (((10 : Int32) + v2)).toNatClampNeg) < v1 then (S 11 0 (((10 : Int32) + v2)).toNatClampNeg) else v1) → ∀ x5 : Int32, x5 = v2 + (1 : Int32) → mX6_clearIn_b10 post n S x4 x5)))
def mX6_clearIn (post : Int32 → Mem → Prop) (S : Mem) : Prop := ∀ S1 : Mem, S1 = wr S 10 0 21 (0 : Int32) → ∃ fu : Nat, mX6_clearIn_b10 post fu S1 (30 : Int32) (0 : Int32)
set_option maxRecDepth 100000 in
set_option maxHeartbeats 4000000 in
theorem bX6_clearIn_38 {p : Program} {l : Launch} {e : Env} {s : State} {m : MethodId} {args : Array Value} {below : List Frame} {meth : Method} {c : Code} {D : va_G} {ky : Nat → ClassId} {ad : Nat → Nat} {ex : Nat → Nat → Nat} (F : Fx p s m args meth c D ky ad ex cX6_clearIn 3 yX6_clearIn.cls) (hr : meth.sig.returnType = (some .int)) {post : Int32 → Mem → Prop} : ∀ (n : Nat) (S : Mem) (v1 : Int32) (v2 : Int32) (H : Heap) (locs : List Loc) (ls : Array Slot), mX6_clearIn_b38 post n S v1 v2 → Cx D ky ad s S H locs → lv_has ls 3 [(0, .ref (ad 117)), (1, .int v1), (2, .int v2)] → W p l e rmX6_clearIn s m args below meth c H locs 0 0 (MQ below (va_Qi post (AFT D ky ad) (AW ad s.heap.size)) args s 0 0 (AW ad s.heap.size)) (F0 m 38 ls []) := by
  intro n
  induction n with
  | zero =>
    intro S v1 v2 H locs ls  h
    exact False.elim h
  | succ n ih =>
    intro S v1 v2 H locs ls  h C hl
    refine lv_iload_n F.x F.b dX6_clearIn_38 rfl (lv_at hl 2 rfl) ?_
    refine lv_bipush (v := 60) F.x F.b dX6_clearIn_39 (by decide) ?_
    refine lv_icmp_gt (tgt := 61) F.x F.b dX6_clearIn_41 (by decide) (fun g1 => ?_) (fun g1 => ?_)
    · have h := h.1 g1
      refine lv_aload_n F.x F.b dX6_clearIn_61 rfl (lv_at hl 0 rfl) ?_
      refine lv_iconst (v := 1) F.x F.b dX6_clearIn_62 (by decide) ?_
      refine kI F C hl (kX6_raises  h) (by decide) (ce_M _) rfl wv_X6_58 ⟨rfl, rfl, ⟨Nat.le_of_ble_eq_true rfl, Nat.le_of_ble_eq_true rfl⟩, ⟨Nat.le_of_ble_eq_true rfl, Nat.le_of_ble_eq_true rfl⟩, Nat.le_of_ble_eq_true rfl⟩ (rest := []) rfl dX6_clearIn_63 (fun r3 S2 H locs h C => ?_)
      exact retI F hr C h dX6_clearIn_66
    · have h := h.2 g1
      refine lv_aload_n F.x F.b dX6_clearIn_44 rfl (lv_at hl 0 rfl) ?_
      refine lv_iload_n F.x F.b dX6_clearIn_45 rfl (lv_at hl 2 rfl) ?_
      refine kI F C hl (kX6_floodIn  h) (by decide) (ce_M _) rfl wv_X6_112 ⟨rfl, rfl, ⟨Nat.le_of_ble_eq_true rfl, Nat.le_of_ble_eq_true rfl⟩, ⟨Nat.le_of_ble_eq_true rfl, Nat.le_of_ble_eq_true rfl⟩, Nat.le_of_ble_eq_true rfl⟩ (rest := []) rfl dX6_clearIn_46 (fun r5 S4 H locs h C => ?_)
      refine lv_iload_n F.x F.b dX6_clearIn_49 rfl (lv_at hl 1 rfl) ?_
      refine lv_icmp_gt (tgt := 55) F.x F.b dX6_clearIn_50 (by decide) (fun g6 => ?_) (fun g6 => ?_)
      · have h := h.1 g6
        obtain ⟨x7, ex7⟩ : ∃ z : Int32, z = v2 + (1 : Int32) := ⟨_, rfl⟩
        have h := h x7 ex7
        refine lv_iinc (v := x7) (lv' := [(2, .int x7), (0, .ref (ad 117)), (1, .int v1)]) F.x F.b dX6_clearIn_55 hl (k := 2) rfl (by rw [ex7]; rfl) (by decide) rfl (fun ls hl => ?_)
        refine lv_goto (tgt := 38) F.x F.b dX6_clearIn_58 (by decide) ?_
        exact ih S4 v1 x7 _ _ _ h C (lv_sub hl [1, 2, 0] rfl)
      · have h := h.2 g6
        refine lv_iload_n F.x F.b dX6_clearIn_53 rfl (lv_at hl 2 rfl) ?_
        exact retI F hr C h dX6_clearIn_54
set_option maxRecDepth 100000 in
set_option maxHeartbeats 4000000 in
theorem bX6_clearIn_10 {p : Program} {l : Launch} {e : Env} {s : State} {m : MethodId} {args : Array Value} {below : List Frame} {meth : Method} {c : Code} {D : va_G} {ky : Nat → ClassId} {ad : Nat → Nat} {ex : Nat → Nat → Nat} (F : Fx p s m args meth c D ky ad ex cX6_clearIn 3 yX6_clearIn.cls) (hr : meth.sig.returnType = (some .int)) {post : Int32 → Mem → Prop} : ∀ (n : Nat) (S : Mem) (v1 : Int32) (v2 : Int32) (H : Heap) (locs : List Loc) (ls : Array Slot), mX6_clearIn_b10 post n S v1 v2 → Cx D ky ad s S H locs → lv_has ls 3 [(0, .ref (ad 117)), (1, .int v1), (2, .int v2)] → W p l e rmX6_clearIn s m args below meth c H locs 0 0 (MQ below (va_Qi post (AFT D ky ad) (AW ad s.heap.size)) args s 0 0 (AW ad s.heap.size)) (F0 m 10 ls []) := by
  intro n
  induction n with
  | zero =>
    intro S v1 v2 H locs ls  h
    exact False.elim h
  | succ n ih =>
    intro S v1 v2 H locs ls  h C hl
    refine lv_iload_n F.x F.b dX6_clearIn_10 rfl (lv_at hl 2 rfl) ?_
    refine lv_bipush (v := 10) F.x F.b dX6_clearIn_11 (by decide) ?_
    refine lv_icmp_ge (tgt := 36) F.x F.b dX6_clearIn_13 (by decide) (fun g1 => ?_) (fun g1 => ?_)
    · have h := h.1 g1
      refine lv_iconst (v := 0) F.x F.b dX6_clearIn_36 (by decide) ?_
      refine lv_istore_n (lv' := [(2, .int (0 : Int32)), (0, .ref (ad 117)), (1, .int v1)]) F.x F.b dX6_clearIn_37 rfl hl (by decide) rfl (fun ls hl => ?_)
      obtain ⟨n2, h⟩ := h
      exact bX6_clearIn_38 F hr n2 S v1 (0 : Int32) _ _ _ h C (lv_sub hl [1, 2, 0] rfl)
    · have h := h.2 g1
      refine lv_iload_n F.x F.b dX6_clearIn_16 rfl (lv_at hl 1 rfl) ?_
      refine lv_aload_n F.x F.b dX6_clearIn_17 rfl (lv_at hl 0 rfl) ?_
      refine getM F C 0 (by decide) q4_222 (v := .ref (ad 118)) rfl dX6_clearIn_18 ?_
      refine lv_bipush (v := 10) F.x F.b dX6_clearIn_21 (by decide) ?_
      refine lv_iload_n F.x F.b dX6_clearIn_23 rfl (lv_at hl 2 rfl) ?_
      refine lv_iadd F.x F.b dX6_clearIn_24 ?_
      obtain ⟨g3, h⟩ := h
      refine aldI F C (o := 118) (cq := 11) (iq := 0) (by decide) rfl rfl rfl g3 dX6_clearIn_25 ?_
      refine mMin F hl q5_128 ⟨Nat.le_of_ble_eq_true rfl, Nat.le_of_ble_eq_true rfl, Nat.le_of_ble_eq_true rfl, Nat.le_of_ble_eq_true rfl⟩ dX6_clearIn_26 ?_
      refine lv_topi (fun x4 ex4 => ?_)
      have h := h x4 ex4
      refine lv_istore_n (lv' := [(1, .int x4), (0, .ref (ad 117)), (2, .int v2)]) F.x F.b dX6_clearIn_29 rfl hl (by decide) rfl (fun ls hl => ?_)
      obtain ⟨x5, ex5⟩ : ∃ z : Int32, z = v2 + (1 : Int32) := ⟨_, rfl⟩
      have h := h x5 ex5
      refine lv_iinc (v := x5) (lv' := [(2, .int x5), (1, .int x4), (0, .ref (ad 117))]) F.x F.b dX6_clearIn_30 hl (k := 2) rfl (by rw [ex5]; rfl) (by decide) rfl (fun ls hl => ?_)
      refine lv_goto (tgt := 10) F.x F.b dX6_clearIn_33 (by decide) ?_
      exact ih S x4 x5 _ _ _ h C (lv_sub hl [2, 1, 0] rfl)
set_option maxRecDepth 100000 in
set_option maxHeartbeats 4000000 in
theorem kX6_clearIn {l : Launch} {D : va_G} {ky : Nat → ClassId} {ad : Nat → Nat} {ex : Nat → Nat → Nat} {post : Int32 → Mem → Prop} {S : Mem} (h : mX6_clearIn post S ) : CMi l D ky ad ex yX6_clearIn cX6_clearIn 3 (some .int) rmX6_clearIn 0 0 [.ref (ad 117)] S post := by
  refine CMi.of (by decide) (Nat.le_of_ble_eq_true rfl) (fun p e s m args below meth c ls F hr C hl => ?_)
  have hl : lv_has ls 3 [(0, .ref (ad 117))] := hl
  unfold mX6_clearIn at h
  refine lv_aload_n F.x F.b dX6_clearIn_0 rfl (lv_at hl 0 rfl) ?_
  refine lv_iconst (v := 0) F.x F.b dX6_clearIn_1 (by decide) ?_
  refine putM F C 21 (by decide) q5_3 rfl (tyX6_ok 21 (by decide)) rfl rfl rfl dX6_clearIn_2 (fun H locs C => ?_)
  obtain ⟨S1, eS1⟩ : ∃ z : Mem, z = wr S 10 0 21 (0 : Int32) := ⟨_, rfl⟩
  rw [← eS1] at C
  have h := h S1 eS1
  refine lv_bipush (v := 30) F.x F.b dX6_clearIn_5 (by decide) ?_
  refine lv_istore_n (lv' := [(1, .int (30 : Int32)), (0, .ref (ad 117))]) F.x F.b dX6_clearIn_7 rfl hl (by decide) rfl (fun ls hl => ?_)
  refine lv_iconst (v := 0) F.x F.b dX6_clearIn_8 (by decide) ?_
  refine lv_istore_n (lv' := [(2, .int (0 : Int32)), (1, .int (30 : Int32)), (0, .ref (ad 117))]) F.x F.b dX6_clearIn_9 rfl hl (by decide) rfl (fun ls hl => ?_)
  obtain ⟨n2, h⟩ := h
  exact bX6_clearIn_10 F hr n2 S1 (30 : Int32) (0 : Int32) _ _ _ h C (lv_sub hl [2, 1, 0] rfl)

def rmX6_traveller : Room := { frames := 2, cells := 0, slots := 0, locals := 44 }
def mX6_traveller_b54 (post : Int32 → Mem → Prop) : Nat → Mem → Int32 → Int32 → Int32 → Prop
  | 0, _, _, _, _ => False
  | n + 1, S, v1, v2, v3 => (((8 : Int32) ≤ v3 → (mX6_sets (fun (S2 : Mem) => mX6_sets (fun (S4 : Mem) => mX6_sets (fun (S6 : Mem) => mX6_keeps (fun (r9 : Int32) (S8 : Mem) => post r9 S8) S6 v2) S4 v2 (4 : Int32) (1 : Int32)) S2 v2 (2 : Int32) (-1 : Int32)) S v2 (0 : Int32) v1)) ∧ (¬ (8 : Int32) ≤ v3 → (mX6_sets (fun (S10 : Mem) => ∀ x12 : Int32, x12 = v3 + (1 : Int32) → mX6_traveller_b54 post n S10 v1 v2 x12) S v2 v3 (0 : Int32))))
def mX6_traveller (post : Int32 → Mem → Prop) (S : Mem) (v1 : Int32) : Prop := mX6_tries (fun (S1 : Mem) => mX6_in (fun (r4 : Int32) (S3 : Mem) => ((¬ r4 = 0 → (vp_in (3 : Int32) 84 ∧ ((¬ (S3 11 0 (3 : Int32).toNatClampNeg) = (8 : Int32) → (vp_in (3 : Int32) 84 ∧ ∀ x9 : Int32, x9 = (S3 11 0 (3 : Int32).toNatClampNeg) → vp_in (3 : Int32) 84 ∧ ∀ S11 : Mem, S11 = wr S3 11 0 (3 : Int32).toNatClampNeg (x9 + (1 : Int32)) → ∃ fu : Nat, mX6_traveller_b54 post fu S11 v1 x9 (0 : Int32))) ∧ ((S3 11 0 (3 : Int32).toNatClampNeg) = (8 : Int32) → (mX6_refuses (fun (r14 : Int32) (S13 : Mem) => post r14 S13) S3 (2 : Int32) (1 : Int32) (8 : Int32)))))) ∧ (r4 = 0 → (mX6_raises (fun (r16 : Int32) (S15 : Mem) => post r16 S15) S3 (1 : Int32))))) S1 v1 (0 : Int32) (20 : Int32)) S 
set_option maxRecDepth 100000 in
set_option maxHeartbeats 4000000 in
theorem bX6_traveller_54 {p : Program} {l : Launch} {e : Env} {s : State} {m : MethodId} {args : Array Value} {below : List Frame} {meth : Method} {c : Code} {D : va_G} {ky : Nat → ClassId} {ad : Nat → Nat} {ex : Nat → Nat → Nat} (F : Fx p s m args meth c D ky ad ex cX6_traveller 4 yX6_traveller.cls) (hr : meth.sig.returnType = (some .int)) {post : Int32 → Mem → Prop} : ∀ (n : Nat) (S : Mem) (v1 : Int32) (v2 : Int32) (v3 : Int32) (H : Heap) (locs : List Loc) (ls : Array Slot), mX6_traveller_b54 post n S v1 v2 v3 → Cx D ky ad s S H locs → lv_has ls 4 [(0, .ref (ad 117)), (1, .int v1), (2, .int v2), (3, .int v3)] → W p l e rmX6_traveller s m args below meth c H locs 0 0 (MQ below (va_Qi post (AFT D ky ad) (AW ad s.heap.size)) args s 0 0 (AW ad s.heap.size)) (F0 m 54 ls []) := by
  intro n
  induction n with
  | zero =>
    intro S v1 v2 v3 H locs ls  h
    exact False.elim h
  | succ n ih =>
    intro S v1 v2 v3 H locs ls  h C hl
    refine lv_iload_n F.x F.b dX6_traveller_54 rfl (lv_at hl 3 rfl) ?_
    refine lv_bipush (v := 8) F.x F.b dX6_traveller_55 (by decide) ?_
    refine lv_icmp_ge (tgt := 73) F.x F.b dX6_traveller_57 (by decide) (fun g1 => ?_) (fun g1 => ?_)
    · have h := h.1 g1
      refine lv_aload_n F.x F.b dX6_traveller_73 rfl (lv_at hl 0 rfl) ?_
      refine lv_iload_n F.x F.b dX6_traveller_74 rfl (lv_at hl 2 rfl) ?_
      refine lv_iconst (v := 0) F.x F.b dX6_traveller_75 (by decide) ?_
      refine lv_iload_n F.x F.b dX6_traveller_76 rfl (lv_at hl 1 rfl) ?_
      refine kV F C hl (kX6_sets  h) (by decide) (ce_M _) rfl wv_X6_78 ⟨rfl, rfl, ⟨Nat.le_of_ble_eq_true rfl, Nat.le_of_ble_eq_true rfl⟩, ⟨Nat.le_of_ble_eq_true rfl, Nat.le_of_ble_eq_true rfl⟩, Nat.le_of_ble_eq_true rfl⟩ (rest := []) rfl dX6_traveller_77 (fun S2 H locs h C => ?_)
      refine lv_aload_n F.x F.b dX6_traveller_80 rfl (lv_at hl 0 rfl) ?_
      refine lv_iload_n F.x F.b dX6_traveller_81 rfl (lv_at hl 2 rfl) ?_
      refine lv_iconst (v := 2) F.x F.b dX6_traveller_82 (by decide) ?_
      refine lv_iconst (v := -1) F.x F.b dX6_traveller_83 (by decide) ?_
      refine kV F C hl (kX6_sets  h) (by decide) (ce_M _) rfl wv_X6_78 ⟨rfl, rfl, ⟨Nat.le_of_ble_eq_true rfl, Nat.le_of_ble_eq_true rfl⟩, ⟨Nat.le_of_ble_eq_true rfl, Nat.le_of_ble_eq_true rfl⟩, Nat.le_of_ble_eq_true rfl⟩ (rest := []) rfl dX6_traveller_84 (fun S4 H locs h C => ?_)
      refine lv_aload_n F.x F.b dX6_traveller_87 rfl (lv_at hl 0 rfl) ?_
      refine lv_iload_n F.x F.b dX6_traveller_88 rfl (lv_at hl 2 rfl) ?_
      refine lv_iconst (v := 4) F.x F.b dX6_traveller_89 (by decide) ?_
      refine lv_iconst (v := 1) F.x F.b dX6_traveller_90 (by decide) ?_
      refine kV F C hl (kX6_sets  h) (by decide) (ce_M _) rfl wv_X6_78 ⟨rfl, rfl, ⟨Nat.le_of_ble_eq_true rfl, Nat.le_of_ble_eq_true rfl⟩, ⟨Nat.le_of_ble_eq_true rfl, Nat.le_of_ble_eq_true rfl⟩, Nat.le_of_ble_eq_true rfl⟩ (rest := []) rfl dX6_traveller_91 (fun S6 H locs h C => ?_)
      refine lv_aload_n F.x F.b dX6_traveller_94 rfl (lv_at hl 0 rfl) ?_
      refine lv_iload_n F.x F.b dX6_traveller_95 rfl (lv_at hl 2 rfl) ?_
      refine kI F C hl (kX6_keeps  h) (by decide) (ce_M _) rfl wv_X6_96 ⟨rfl, rfl, ⟨Nat.le_of_ble_eq_true rfl, Nat.le_of_ble_eq_true rfl⟩, ⟨Nat.le_of_ble_eq_true rfl, Nat.le_of_ble_eq_true rfl⟩, Nat.le_of_ble_eq_true rfl⟩ (rest := []) rfl dX6_traveller_96 (fun r9 S8 H locs h C => ?_)
      exact retI F hr C h dX6_traveller_99
    · have h := h.2 g1
      refine lv_aload_n F.x F.b dX6_traveller_60 rfl (lv_at hl 0 rfl) ?_
      refine lv_iload_n F.x F.b dX6_traveller_61 rfl (lv_at hl 2 rfl) ?_
      refine lv_iload_n F.x F.b dX6_traveller_62 rfl (lv_at hl 3 rfl) ?_
      refine lv_iconst (v := 0) F.x F.b dX6_traveller_63 (by decide) ?_
      refine kV F C hl (kX6_sets  h) (by decide) (ce_M _) rfl wv_X6_78 ⟨rfl, rfl, ⟨Nat.le_of_ble_eq_true rfl, Nat.le_of_ble_eq_true rfl⟩, ⟨Nat.le_of_ble_eq_true rfl, Nat.le_of_ble_eq_true rfl⟩, Nat.le_of_ble_eq_true rfl⟩ (rest := []) rfl dX6_traveller_64 (fun S10 H locs h C => ?_)
      obtain ⟨x12, ex12⟩ : ∃ z : Int32, z = v3 + (1 : Int32) := ⟨_, rfl⟩
      have h := h x12 ex12
      refine lv_iinc (v := x12) (lv' := [(3, .int x12), (0, .ref (ad 117)), (1, .int v1), (2, .int v2)]) F.x F.b dX6_traveller_67 hl (k := 3) rfl (by rw [ex12]; rfl) (by decide) rfl (fun ls hl => ?_)
      refine lv_goto (tgt := 54) F.x F.b dX6_traveller_70 (by decide) ?_
      exact ih S10 v1 v2 x12 _ _ _ h C (lv_sub hl [1, 2, 3, 0] rfl)
set_option maxRecDepth 100000 in
set_option maxHeartbeats 4000000 in
theorem kX6_traveller {l : Launch} {D : va_G} {ky : Nat → ClassId} {ad : Nat → Nat} {ex : Nat → Nat → Nat} {post : Int32 → Mem → Prop} {S : Mem} {v1 : Int32} (h : mX6_traveller post S v1) : CMi l D ky ad ex yX6_traveller cX6_traveller 4 (some .int) rmX6_traveller 0 0 [.ref (ad 117), .int v1] S post := by
  refine CMi.of (by decide) (Nat.le_of_ble_eq_true rfl) (fun p e s m args below meth c ls F hr C hl => ?_)
  have hl : lv_has ls 4 [(0, .ref (ad 117)), (1, .int v1)] := hl
  unfold mX6_traveller at h
  refine lv_aload_n F.x F.b dX6_traveller_0 rfl (lv_at hl 0 rfl) ?_
  refine kV F C hl (kX6_tries  h) (by decide) (ce_M _) rfl wv_X6_82 ⟨rfl, rfl, ⟨Nat.le_of_ble_eq_true rfl, Nat.le_of_ble_eq_true rfl⟩, ⟨Nat.le_of_ble_eq_true rfl, Nat.le_of_ble_eq_true rfl⟩, Nat.le_of_ble_eq_true rfl⟩ (rest := []) rfl dX6_traveller_1 (fun S1 H locs h C => ?_)
  refine lv_iload_n F.x F.b dX6_traveller_4 rfl (lv_at hl 1 rfl) ?_
  refine lv_iconst (v := 0) F.x F.b dX6_traveller_5 (by decide) ?_
  refine lv_bipush (v := 20) F.x F.b dX6_traveller_6 (by decide) ?_
  refine kSI F C hl (kX6_in  h) wv_X6_62 ⟨rfl, rfl, ⟨Nat.le_of_ble_eq_true rfl, Nat.le_of_ble_eq_true rfl⟩, ⟨Nat.le_of_ble_eq_true rfl, Nat.le_of_ble_eq_true rfl⟩, Nat.le_of_ble_eq_true rfl⟩ (rest := []) rfl dX6_traveller_8 (fun r4 S3 H locs h C => ?_)
  refine lv_if_ne (tgt := 20) F.x F.b dX6_traveller_11 (by decide) (fun g5 => ?_) (fun g5 => ?_)
  · have h := h.1 g5
    refine lv_aload_n F.x F.b dX6_traveller_20 rfl (lv_at hl 0 rfl) ?_
    refine getM F C 0 (by decide) q4_222 (v := .ref (ad 118)) rfl dX6_traveller_21 ?_
    refine lv_iconst (v := 3) F.x F.b dX6_traveller_24 (by decide) ?_
    obtain ⟨g6, h⟩ := h
    refine aldI F C (o := 118) (cq := 11) (iq := 0) (by decide) rfl rfl rfl g6 dX6_traveller_25 ?_
    refine lv_bipush (v := 8) F.x F.b dX6_traveller_26 (by decide) ?_
    refine lv_icmp_ne (tgt := 40) F.x F.b dX6_traveller_28 (by decide) (fun g7 => ?_) (fun g7 => ?_)
    · have h := h.1 g7
      refine lv_aload_n F.x F.b dX6_traveller_40 rfl (lv_at hl 0 rfl) ?_
      refine getM F C 0 (by decide) q4_222 (v := .ref (ad 118)) rfl dX6_traveller_41 ?_
      refine lv_iconst (v := 3) F.x F.b dX6_traveller_44 (by decide) ?_
      refine lv_dup2_11 F.x F.b dX6_traveller_45 rfl rfl ?_
      obtain ⟨g8, h⟩ := h
      refine aldI F C (o := 118) (cq := 11) (iq := 0) (by decide) rfl rfl rfl g8 dX6_traveller_46 ?_
      refine lv_topi (fun x9 ex9 => ?_)
      have h := h x9 ex9
      refine lv_dup_x2 F.x F.b dX6_traveller_47 rfl rfl rfl ?_
      refine lv_iconst (v := 1) F.x F.b dX6_traveller_48 (by decide) ?_
      refine lv_iadd F.x F.b dX6_traveller_49 ?_
      obtain ⟨g10, h⟩ := h
      refine astI F C (o := 118) (cq := 11) (iq := 0) (by decide) rfl rfl (fun _ => rfl) g10 dX6_traveller_50 (fun H locs C => ?_)
      obtain ⟨S11, eS11⟩ : ∃ z : Mem, z = wr S3 11 0 (3 : Int32).toNatClampNeg (x9 + (1 : Int32)) := ⟨_, rfl⟩
      rw [← eS11] at C
      have h := h S11 eS11
      refine lv_istore_n (lv' := [(2, .int x9), (0, .ref (ad 117)), (1, .int v1)]) F.x F.b dX6_traveller_51 rfl hl (by decide) rfl (fun ls hl => ?_)
      refine lv_iconst (v := 0) F.x F.b dX6_traveller_52 (by decide) ?_
      refine lv_istore_n (lv' := [(3, .int (0 : Int32)), (2, .int x9), (0, .ref (ad 117)), (1, .int v1)]) F.x F.b dX6_traveller_53 rfl hl (by decide) rfl (fun ls hl => ?_)
      obtain ⟨n12, h⟩ := h
      exact bX6_traveller_54 F hr n12 S11 v1 x9 (0 : Int32) _ _ _ h C (lv_sub hl [2, 3, 1, 0] rfl)
    · have h := h.2 g7
      refine lv_aload_n F.x F.b dX6_traveller_31 rfl (lv_at hl 0 rfl) ?_
      refine lv_iconst (v := 2) F.x F.b dX6_traveller_32 (by decide) ?_
      refine lv_iconst (v := 1) F.x F.b dX6_traveller_33 (by decide) ?_
      refine lv_bipush (v := 8) F.x F.b dX6_traveller_34 (by decide) ?_
      refine kI F C hl (kX6_refuses  h) (by decide) (ce_M _) rfl wv_X6_92 ⟨rfl, rfl, ⟨Nat.le_of_ble_eq_true rfl, Nat.le_of_ble_eq_true rfl⟩, ⟨Nat.le_of_ble_eq_true rfl, Nat.le_of_ble_eq_true rfl⟩, Nat.le_of_ble_eq_true rfl⟩ (rest := []) rfl dX6_traveller_36 (fun r14 S13 H locs h C => ?_)
      exact retI F hr C h dX6_traveller_39
  · have h := h.2 g5
    refine lv_aload_n F.x F.b dX6_traveller_14 rfl (lv_at hl 0 rfl) ?_
    refine lv_iconst (v := 1) F.x F.b dX6_traveller_15 (by decide) ?_
    refine kI F C hl (kX6_raises  h) (by decide) (ce_M _) rfl wv_X6_58 ⟨rfl, rfl, ⟨Nat.le_of_ble_eq_true rfl, Nat.le_of_ble_eq_true rfl⟩, ⟨Nat.le_of_ble_eq_true rfl, Nat.le_of_ble_eq_true rfl⟩, Nat.le_of_ble_eq_true rfl⟩ (rest := []) rfl dX6_traveller_16 (fun r16 S15 H locs h C => ?_)
    exact retI F hr C h dX6_traveller_19

def rmX6_travellerOf : Room := { frames := 2, cells := 0, slots := 0, locals := 44 }
def mX6_travellerOf_b62 (post : Int32 → Mem → Prop) (S : Mem) (v1 : Int32) (v2 : Int32) : Prop := mX6_in (fun (r2 : Int32) (S1 : Mem) => ((r2 = 0 → (mX6_raises (fun (r5 : Int32) (S4 : Mem) => post r5 S4) S1 (2 : Int32))) ∧ (¬ r2 = 0 → (mX6_of (fun (r7 : Int32) (S6 : Mem) => post r7 S6) S1 v1 ((v2 - (1 : Int32))))))) S v2 (1 : Int32) (8 : Int32)
def mX6_travellerOf (post : Int32 → Mem → Prop) (S : Mem) (v1 : Int32) (v2 : Int32) : Prop := ∀ S1 : Mem, S1 = wr S 10 0 21 (0 : Int32) → mX6_isTraveller (fun (r3 : Int32) (S2 : Mem) => ((¬ r3 = 0 → (((¬ v2 = 0 → (((¬ v2 = (5 : Int32) → (mX6_travellerOf_b62 post S2 v1 v2)) ∧ (v2 = (5 : Int32) → (mX6_of (fun (r8 : Int32) (S7 : Mem) => mX6_isStone (fun (r10 : Int32) (S9 : Mem) => ((¬ r10 = 0 → (mX6_travellerOf_b62 post S9 v1 v2)) ∧ (r10 = 0 → (mX6_of (fun (r13 : Int32) (S12 : Mem) => ((¬ r13 = (-1 : Int32) → (post (0 : Int32) S12)) ∧ (r13 = (-1 : Int32) → (post (1 : Int32) S12)))) S9 v1 (2 : Int32))))) S7 r8) S2 v1 (2 : Int32)))))) ∧ (v2 = 0 → (mX6_kind (fun (r16 : Int32) (S15 : Mem) => post r16 S15) S2 v1))))) ∧ (r3 = 0 → (mX6_raises (fun (r18 : Int32) (S17 : Mem) => post r18 S17) S2 (1 : Int32))))) S1 v1
set_option maxRecDepth 100000 in
set_option maxHeartbeats 4000000 in
theorem bX6_travellerOf_62 {p : Program} {l : Launch} {e : Env} {s : State} {m : MethodId} {args : Array Value} {below : List Frame} {meth : Method} {c : Code} {D : va_G} {ky : Nat → ClassId} {ad : Nat → Nat} {ex : Nat → Nat → Nat} (F : Fx p s m args meth c D ky ad ex cX6_travellerOf 3 yX6_travellerOf.cls) (hr : meth.sig.returnType = (some .int)) {post : Int32 → Mem → Prop} : ∀ (S : Mem) (v1 : Int32) (v2 : Int32) (H : Heap) (locs : List Loc) (ls : Array Slot), mX6_travellerOf_b62 post S v1 v2 → Cx D ky ad s S H locs → lv_has ls 3 [(0, .ref (ad 117)), (1, .int v1), (2, .int v2)] → W p l e rmX6_travellerOf s m args below meth c H locs 0 0 (MQ below (va_Qi post (AFT D ky ad) (AW ad s.heap.size)) args s 0 0 (AW ad s.heap.size)) (F0 m 62 ls []) := by
  intro S v1 v2 H locs ls  h C hl
  unfold mX6_travellerOf_b62 at h
  refine lv_iload_n F.x F.b dX6_travellerOf_62 rfl (lv_at hl 2 rfl) ?_
  refine lv_iconst (v := 1) F.x F.b dX6_travellerOf_63 (by decide) ?_
  refine lv_bipush (v := 8) F.x F.b dX6_travellerOf_64 (by decide) ?_
  refine kSI F C hl (kX6_in  h) wv_X6_62 ⟨rfl, rfl, ⟨Nat.le_of_ble_eq_true rfl, Nat.le_of_ble_eq_true rfl⟩, ⟨Nat.le_of_ble_eq_true rfl, Nat.le_of_ble_eq_true rfl⟩, Nat.le_of_ble_eq_true rfl⟩ (rest := []) rfl dX6_travellerOf_66 (fun r2 S1 H locs h C => ?_)
  refine lv_if_eq (tgt := 83) F.x F.b dX6_travellerOf_69 (by decide) (fun g3 => ?_) (fun g3 => ?_)
  · have h := h.1 g3
    refine lv_aload_n F.x F.b dX6_travellerOf_83 rfl (lv_at hl 0 rfl) ?_
    refine lv_iconst (v := 2) F.x F.b dX6_travellerOf_84 (by decide) ?_
    refine kI F C hl (kX6_raises  h) (by decide) (ce_M _) rfl wv_X6_58 ⟨rfl, rfl, ⟨Nat.le_of_ble_eq_true rfl, Nat.le_of_ble_eq_true rfl⟩, ⟨Nat.le_of_ble_eq_true rfl, Nat.le_of_ble_eq_true rfl⟩, Nat.le_of_ble_eq_true rfl⟩ (rest := []) rfl dX6_travellerOf_85 (fun r5 S4 H locs h C => ?_)
    exact retI F hr C h dX6_travellerOf_88
  · have h := h.2 g3
    refine lv_aload_n F.x F.b dX6_travellerOf_72 rfl (lv_at hl 0 rfl) ?_
    refine lv_iload_n F.x F.b dX6_travellerOf_73 rfl (lv_at hl 1 rfl) ?_
    refine lv_iload_n F.x F.b dX6_travellerOf_74 rfl (lv_at hl 2 rfl) ?_
    refine lv_iconst (v := 1) F.x F.b dX6_travellerOf_75 (by decide) ?_
    refine lv_isub F.x F.b dX6_travellerOf_76 ?_
    refine kI F C hl (kX6_of  h) (by decide) (ce_M _) rfl wv_X6_66 ⟨rfl, rfl, ⟨Nat.le_of_ble_eq_true rfl, Nat.le_of_ble_eq_true rfl⟩, ⟨Nat.le_of_ble_eq_true rfl, Nat.le_of_ble_eq_true rfl⟩, Nat.le_of_ble_eq_true rfl⟩ (rest := []) rfl dX6_travellerOf_77 (fun r7 S6 H locs h C => ?_)
    refine lv_goto (tgt := 88) F.x F.b dX6_travellerOf_80 (by decide) ?_
    exact retI F hr C h dX6_travellerOf_88
set_option maxRecDepth 100000 in
set_option maxHeartbeats 4000000 in
theorem kX6_travellerOf {l : Launch} {D : va_G} {ky : Nat → ClassId} {ad : Nat → Nat} {ex : Nat → Nat → Nat} {post : Int32 → Mem → Prop} {S : Mem} {v1 : Int32} {v2 : Int32} (h : mX6_travellerOf post S v1 v2) : CMi l D ky ad ex yX6_travellerOf cX6_travellerOf 3 (some .int) rmX6_travellerOf 0 0 [.ref (ad 117), .int v1, .int v2] S post := by
  refine CMi.of (by decide) (Nat.le_of_ble_eq_true rfl) (fun p e s m args below meth c ls F hr C hl => ?_)
  have hl : lv_has ls 3 [(0, .ref (ad 117)), (1, .int v1), (2, .int v2)] := hl
  unfold mX6_travellerOf at h
  refine lv_aload_n F.x F.b dX6_travellerOf_0 rfl (lv_at hl 0 rfl) ?_
  refine lv_iconst (v := 0) F.x F.b dX6_travellerOf_1 (by decide) ?_
  refine putM F C 21 (by decide) q5_3 rfl (tyX6_ok 21 (by decide)) rfl rfl rfl dX6_travellerOf_2 (fun H locs C => ?_)
  obtain ⟨S1, eS1⟩ : ∃ z : Mem, z = wr S 10 0 21 (0 : Int32) := ⟨_, rfl⟩
  rw [← eS1] at C
  have h := h S1 eS1
  refine lv_aload_n F.x F.b dX6_travellerOf_5 rfl (lv_at hl 0 rfl) ?_
  refine lv_iload_n F.x F.b dX6_travellerOf_6 rfl (lv_at hl 1 rfl) ?_
  refine kI F C hl (kX6_isTraveller  h) (by decide) (ce_M _) rfl wv_X6_118 ⟨rfl, rfl, ⟨Nat.le_of_ble_eq_true rfl, Nat.le_of_ble_eq_true rfl⟩, ⟨Nat.le_of_ble_eq_true rfl, Nat.le_of_ble_eq_true rfl⟩, Nat.le_of_ble_eq_true rfl⟩ (rest := []) rfl dX6_travellerOf_7 (fun r3 S2 H locs h C => ?_)
  refine lv_if_ne (tgt := 19) F.x F.b dX6_travellerOf_10 (by decide) (fun g4 => ?_) (fun g4 => ?_)
  · have h := h.1 g4
    refine lv_iload_n F.x F.b dX6_travellerOf_19 rfl (lv_at hl 2 rfl) ?_
    refine lv_if_ne (tgt := 29) F.x F.b dX6_travellerOf_20 (by decide) (fun g5 => ?_) (fun g5 => ?_)
    · have h := h.1 g5
      refine lv_iload_n F.x F.b dX6_travellerOf_29 rfl (lv_at hl 2 rfl) ?_
      refine lv_iconst (v := 5) F.x F.b dX6_travellerOf_30 (by decide) ?_
      refine lv_icmp_ne (tgt := 62) F.x F.b dX6_travellerOf_31 (by decide) (fun g6 => ?_) (fun g6 => ?_)
      · have h := h.1 g6
        exact bX6_travellerOf_62 F hr S2 v1 v2 _ _ _ h C (lv_sub hl [0, 1, 2] rfl)
      · have h := h.2 g6
        refine lv_aload_n F.x F.b dX6_travellerOf_34 rfl (lv_at hl 0 rfl) ?_
        refine lv_iload_n F.x F.b dX6_travellerOf_35 rfl (lv_at hl 1 rfl) ?_
        refine lv_iconst (v := 2) F.x F.b dX6_travellerOf_36 (by decide) ?_
        refine kI F C hl (kX6_of  h) (by decide) (ce_M _) rfl wv_X6_66 ⟨rfl, rfl, ⟨Nat.le_of_ble_eq_true rfl, Nat.le_of_ble_eq_true rfl⟩, ⟨Nat.le_of_ble_eq_true rfl, Nat.le_of_ble_eq_true rfl⟩, Nat.le_of_ble_eq_true rfl⟩ (rest := []) rfl dX6_travellerOf_37 (fun r8 S7 H locs h C => ?_)
        refine kSI F C hl (kX6_isStone  h) wv_X6_85 ⟨rfl, rfl, ⟨Nat.le_of_ble_eq_true rfl, Nat.le_of_ble_eq_true rfl⟩, ⟨Nat.le_of_ble_eq_true rfl, Nat.le_of_ble_eq_true rfl⟩, Nat.le_of_ble_eq_true rfl⟩ (rest := []) rfl dX6_travellerOf_40 (fun r10 S9 H locs h C => ?_)
        refine lv_if_ne (tgt := 62) F.x F.b dX6_travellerOf_43 (by decide) (fun g11 => ?_) (fun g11 => ?_)
        · have h := h.1 g11
          exact bX6_travellerOf_62 F hr S9 v1 v2 _ _ _ h C (lv_sub hl [0, 1, 2] rfl)
        · have h := h.2 g11
          refine lv_aload_n F.x F.b dX6_travellerOf_46 rfl (lv_at hl 0 rfl) ?_
          refine lv_iload_n F.x F.b dX6_travellerOf_47 rfl (lv_at hl 1 rfl) ?_
          refine lv_iconst (v := 2) F.x F.b dX6_travellerOf_48 (by decide) ?_
          refine kI F C hl (kX6_of  h) (by decide) (ce_M _) rfl wv_X6_66 ⟨rfl, rfl, ⟨Nat.le_of_ble_eq_true rfl, Nat.le_of_ble_eq_true rfl⟩, ⟨Nat.le_of_ble_eq_true rfl, Nat.le_of_ble_eq_true rfl⟩, Nat.le_of_ble_eq_true rfl⟩ (rest := []) rfl dX6_travellerOf_49 (fun r13 S12 H locs h C => ?_)
          refine lv_iconst (v := -1) F.x F.b dX6_travellerOf_52 (by decide) ?_
          refine lv_icmp_ne (tgt := 60) F.x F.b dX6_travellerOf_53 (by decide) (fun g14 => ?_) (fun g14 => ?_)
          · have h := h.1 g14
            refine lv_iconst (v := 0) F.x F.b dX6_travellerOf_60 (by decide) ?_
            exact retI F hr C h dX6_travellerOf_61
          · have h := h.2 g14
            refine lv_iconst (v := 1) F.x F.b dX6_travellerOf_56 (by decide) ?_
            refine lv_goto (tgt := 61) F.x F.b dX6_travellerOf_57 (by decide) ?_
            exact retI F hr C h dX6_travellerOf_61
    · have h := h.2 g5
      refine lv_aload_n F.x F.b dX6_travellerOf_23 rfl (lv_at hl 0 rfl) ?_
      refine lv_iload_n F.x F.b dX6_travellerOf_24 rfl (lv_at hl 1 rfl) ?_
      refine kI F C hl (kX6_kind  h) (by decide) (ce_M _) rfl wv_X6_121 ⟨rfl, rfl, ⟨Nat.le_of_ble_eq_true rfl, Nat.le_of_ble_eq_true rfl⟩, ⟨Nat.le_of_ble_eq_true rfl, Nat.le_of_ble_eq_true rfl⟩, Nat.le_of_ble_eq_true rfl⟩ (rest := []) rfl dX6_travellerOf_25 (fun r16 S15 H locs h C => ?_)
      exact retI F hr C h dX6_travellerOf_28
  · have h := h.2 g4
    refine lv_aload_n F.x F.b dX6_travellerOf_13 rfl (lv_at hl 0 rfl) ?_
    refine lv_iconst (v := 1) F.x F.b dX6_travellerOf_14 (by decide) ?_
    refine kI F C hl (kX6_raises  h) (by decide) (ce_M _) rfl wv_X6_58 ⟨rfl, rfl, ⟨Nat.le_of_ble_eq_true rfl, Nat.le_of_ble_eq_true rfl⟩, ⟨Nat.le_of_ble_eq_true rfl, Nat.le_of_ble_eq_true rfl⟩, Nat.le_of_ble_eq_true rfl⟩ (rest := []) rfl dX6_travellerOf_15 (fun r18 S17 H locs h C => ?_)
    exact retI F hr C h dX6_travellerOf_18

def rmX6_feeOf : Room := { frames := 2, cells := 0, slots := 0, locals := 44 }
def mX6_feeOf_b14 (post : Int32 → Mem → Prop) (S : Mem) (v1 : Int32) (vt0 : Int32) : Prop := mX6_of (fun (r2 : Int32) (S1 : Mem) => post ((vt0 + (r2 / (5 : Int32)))) S1) S v1 (0 : Int32)
def mX6_feeOf (post : Int32 → Mem → Prop) (S : Mem) (v1 : Int32) : Prop := mX6_kind (fun (r2 : Int32) (S1 : Mem) => ((¬ r2 = (2 : Int32) → (mX6_feeOf_b14 post S1 v1 (2 : Int32))) ∧ (r2 = (2 : Int32) → (mX6_feeOf_b14 post S1 v1 (4 : Int32))))) S v1
set_option maxRecDepth 100000 in
set_option maxHeartbeats 4000000 in
theorem bX6_feeOf_14 {p : Program} {l : Launch} {e : Env} {s : State} {m : MethodId} {args : Array Value} {below : List Frame} {meth : Method} {c : Code} {D : va_G} {ky : Nat → ClassId} {ad : Nat → Nat} {ex : Nat → Nat → Nat} (F : Fx p s m args meth c D ky ad ex cX6_feeOf 2 yX6_feeOf.cls) (hr : meth.sig.returnType = (some .int)) {post : Int32 → Mem → Prop} : ∀ (S : Mem) (v1 : Int32) (vt0 : Int32) (H : Heap) (locs : List Loc) (ls : Array Slot), mX6_feeOf_b14 post S v1 vt0 → Cx D ky ad s S H locs → lv_has ls 2 [(0, .ref (ad 117)), (1, .int v1)] → W p l e rmX6_feeOf s m args below meth c H locs 0 0 (MQ below (va_Qi post (AFT D ky ad) (AW ad s.heap.size)) args s 0 0 (AW ad s.heap.size)) (F0 m 14 ls [.int vt0]) := by
  intro S v1 vt0 H locs ls  h C hl
  unfold mX6_feeOf_b14 at h
  refine lv_aload_n F.x F.b dX6_feeOf_14 rfl (lv_at hl 0 rfl) ?_
  refine lv_iload_n F.x F.b dX6_feeOf_15 rfl (lv_at hl 1 rfl) ?_
  refine lv_iconst (v := 0) F.x F.b dX6_feeOf_16 (by decide) ?_
  refine kI F C hl (kX6_of  h) (by decide) (ce_M _) rfl wv_X6_66 ⟨rfl, rfl, ⟨Nat.le_of_ble_eq_true rfl, Nat.le_of_ble_eq_true rfl⟩, ⟨Nat.le_of_ble_eq_true rfl, Nat.le_of_ble_eq_true rfl⟩, Nat.le_of_ble_eq_true rfl⟩ (rest := [.int vt0]) rfl dX6_feeOf_17 (fun r2 S1 H locs h C => ?_)
  refine lv_iconst (v := 5) F.x F.b dX6_feeOf_20 (by decide) ?_
  refine lv_idiv F.x F.b dX6_feeOf_21 (by decide) ?_
  refine lv_iadd F.x F.b dX6_feeOf_22 ?_
  exact retI F hr C h dX6_feeOf_23
set_option maxRecDepth 100000 in
set_option maxHeartbeats 4000000 in
theorem kX6_feeOf {l : Launch} {D : va_G} {ky : Nat → ClassId} {ad : Nat → Nat} {ex : Nat → Nat → Nat} {post : Int32 → Mem → Prop} {S : Mem} {v1 : Int32} (h : mX6_feeOf post S v1) : CMi l D ky ad ex yX6_feeOf cX6_feeOf 2 (some .int) rmX6_feeOf 0 0 [.ref (ad 117), .int v1] S post := by
  refine CMi.of (by decide) (Nat.le_of_ble_eq_true rfl) (fun p e s m args below meth c ls F hr C hl => ?_)
  have hl : lv_has ls 2 [(0, .ref (ad 117)), (1, .int v1)] := hl
  unfold mX6_feeOf at h
  refine lv_aload_n F.x F.b dX6_feeOf_0 rfl (lv_at hl 0 rfl) ?_
  refine lv_iload_n F.x F.b dX6_feeOf_1 rfl (lv_at hl 1 rfl) ?_
  refine kI F C hl (kX6_kind  h) (by decide) (ce_M _) rfl wv_X6_121 ⟨rfl, rfl, ⟨Nat.le_of_ble_eq_true rfl, Nat.le_of_ble_eq_true rfl⟩, ⟨Nat.le_of_ble_eq_true rfl, Nat.le_of_ble_eq_true rfl⟩, Nat.le_of_ble_eq_true rfl⟩ (rest := []) rfl dX6_feeOf_2 (fun r2 S1 H locs h C => ?_)
  refine lv_iconst (v := 2) F.x F.b dX6_feeOf_5 (by decide) ?_
  refine lv_icmp_ne (tgt := 13) F.x F.b dX6_feeOf_6 (by decide) (fun g3 => ?_) (fun g3 => ?_)
  · have h := h.1 g3
    refine lv_iconst (v := 2) F.x F.b dX6_feeOf_13 (by decide) ?_
    exact bX6_feeOf_14 F hr S1 v1 (2 : Int32) _ _ _ h C (lv_sub hl [0, 1] rfl)
  · have h := h.2 g3
    refine lv_iconst (v := 4) F.x F.b dX6_feeOf_9 (by decide) ?_
    refine lv_goto (tgt := 14) F.x F.b dX6_feeOf_10 (by decide) ?_
    exact bX6_feeOf_14 F hr S1 v1 (4 : Int32) _ _ _ h C (lv_sub hl [0, 1] rfl)

def rmX6_fee : Room := { frames := 3, cells := 0, slots := 0, locals := 65 }
def mX6_fee (post : Int32 → Mem → Prop) (S : Mem) (v1 : Int32) : Prop := ∀ S1 : Mem, S1 = wr S 10 0 21 (0 : Int32) → mX6_isTraveller (fun (r3 : Int32) (S2 : Mem) => ((r3 = 0 → (mX6_raises (fun (r6 : Int32) (S5 : Mem) => post r6 S5) S2 (1 : Int32))) ∧ (¬ r3 = 0 → (mX6_feeOf (fun (r8 : Int32) (S7 : Mem) => post r8 S7) S2 v1)))) S1 v1
set_option maxRecDepth 100000 in
set_option maxHeartbeats 4000000 in
theorem kX6_fee {l : Launch} {D : va_G} {ky : Nat → ClassId} {ad : Nat → Nat} {ex : Nat → Nat → Nat} {post : Int32 → Mem → Prop} {S : Mem} {v1 : Int32} (h : mX6_fee post S v1) : CMi l D ky ad ex yX6_fee cX6_fee 2 (some .int) rmX6_fee 0 0 [.ref (ad 117), .int v1] S post := by
  refine CMi.of (by decide) (Nat.le_of_ble_eq_true rfl) (fun p e s m args below meth c ls F hr C hl => ?_)
  have hl : lv_has ls 2 [(0, .ref (ad 117)), (1, .int v1)] := hl
  unfold mX6_fee at h
  refine lv_aload_n F.x F.b dX6_fee_0 rfl (lv_at hl 0 rfl) ?_
  refine lv_iconst (v := 0) F.x F.b dX6_fee_1 (by decide) ?_
  refine putM F C 21 (by decide) q5_3 rfl (tyX6_ok 21 (by decide)) rfl rfl rfl dX6_fee_2 (fun H locs C => ?_)
  obtain ⟨S1, eS1⟩ : ∃ z : Mem, z = wr S 10 0 21 (0 : Int32) := ⟨_, rfl⟩
  rw [← eS1] at C
  have h := h S1 eS1
  refine lv_aload_n F.x F.b dX6_fee_5 rfl (lv_at hl 0 rfl) ?_
  refine lv_iload_n F.x F.b dX6_fee_6 rfl (lv_at hl 1 rfl) ?_
  refine kI F C hl (kX6_isTraveller  h) (by decide) (ce_M _) rfl wv_X6_118 ⟨rfl, rfl, ⟨Nat.le_of_ble_eq_true rfl, Nat.le_of_ble_eq_true rfl⟩, ⟨Nat.le_of_ble_eq_true rfl, Nat.le_of_ble_eq_true rfl⟩, Nat.le_of_ble_eq_true rfl⟩ (rest := []) rfl dX6_fee_7 (fun r3 S2 H locs h C => ?_)
  refine lv_if_eq (tgt := 21) F.x F.b dX6_fee_10 (by decide) (fun g4 => ?_) (fun g4 => ?_)
  · have h := h.1 g4
    refine lv_aload_n F.x F.b dX6_fee_21 rfl (lv_at hl 0 rfl) ?_
    refine lv_iconst (v := 1) F.x F.b dX6_fee_22 (by decide) ?_
    refine kI F C hl (kX6_raises  h) (by decide) (ce_M _) rfl wv_X6_58 ⟨rfl, rfl, ⟨Nat.le_of_ble_eq_true rfl, Nat.le_of_ble_eq_true rfl⟩, ⟨Nat.le_of_ble_eq_true rfl, Nat.le_of_ble_eq_true rfl⟩, Nat.le_of_ble_eq_true rfl⟩ (rest := []) rfl dX6_fee_23 (fun r6 S5 H locs h C => ?_)
    exact retI F hr C h dX6_fee_26
  · have h := h.2 g4
    refine lv_aload_n F.x F.b dX6_fee_13 rfl (lv_at hl 0 rfl) ?_
    refine lv_iload_n F.x F.b dX6_fee_14 rfl (lv_at hl 1 rfl) ?_
    refine kI F C hl (kX6_feeOf  h) (by decide) (ce_M _) rfl wv_X6_124 ⟨rfl, rfl, ⟨Nat.le_of_ble_eq_true rfl, Nat.le_of_ble_eq_true rfl⟩, ⟨Nat.le_of_ble_eq_true rfl, Nat.le_of_ble_eq_true rfl⟩, Nat.le_of_ble_eq_true rfl⟩ (rest := []) rfl dX6_fee_15 (fun r8 S7 H locs h C => ?_)
    refine lv_goto (tgt := 26) F.x F.b dX6_fee_18 (by decide) ?_
    exact retI F hr C h dX6_fee_26

def rmX6_setOut : Room := { frames := 3, cells := 0, slots := 0, locals := 65 }
def mX6_setOut_b97 (post : Int32 → Mem → Prop) (S : Mem) (v1 : Int32) (vt0 : Int32) (vt1 : Int32) (vt2 : Int32) : Prop := mX6_sets (fun (S1 : Mem) => vp_in (7 : Int32) 84 ∧ mX6_feeOf (fun (r5 : Int32) (S4 : Mem) => vp_in (7 : Int32) 84 ∧ ∀ S7 : Mem, S7 = wr S4 11 0 (7 : Int32).toNatClampNeg ((S1 11 0 (7 : Int32).toNatClampNeg) + r5) → mX6_kind (fun (r9 : Int32) (S8 : Mem) => ((¬ r9 = 0 → (mX6_feeOf (fun (r12 : Int32) (S11 : Mem) => mX6_keeps (fun (r14 : Int32) (S13 : Mem) => post r14 S13) S11 r12) S8 v1)) ∧ (r9 = 0 → (mX6_of (fun (r16 : Int32) (S15 : Mem) => ((¬ r16 = (-1 : Int32) → (mX6_feeOf (fun (r19 : Int32) (S18 : Mem) => mX6_keeps (fun (r21 : Int32) (S20 : Mem) => post r21 S20) S18 r19) S15 v1)) ∧ (r16 = (-1 : Int32) → (vp_in (4 : Int32) 84 ∧ mX6_of (fun (r24 : Int32) (S23 : Mem) => ∀ x25 : Int32, x25 = (if ((12 : Int32) - ((3 : Int32) * r24)) < (S15 11 0 (4 : Int32).toNatClampNeg) then ((12 : Int32) - ((3 : Int32) * r24)) else (S15 11 0 (4 : Int32).toNatClampNeg)) → vp_in (4 : Int32) 84 ∧ vp_in (4 : Int32) 84 ∧ ∀ S28 : Mem, S28 = wr S23 11 0 (4 : Int32).toNatClampNeg ((S23 11 0 (4 : Int32).toNatClampNeg) - x25) → mX6_sets (fun (S29 : Mem) => mX6_feeOf (fun (r32 : Int32) (S31 : Mem) => mX6_keeps (fun (r34 : Int32) (S33 : Mem) => post r34 S33) S31 r32) S29 v1) S28 v1 (7 : Int32) x25) S15 v1 (0 : Int32))))) S8 v1 (2 : Int32))))) S7 v1) S1 v1) S vt2 vt1 vt0
def mX6_setOut (post : Int32 → Mem → Prop) (S : Mem) (v1 : Int32) : Prop := mX6_tries (fun (S1 : Mem) => mX6_isTraveller (fun (r4 : Int32) (S3 : Mem) => ((¬ r4 = 0 → (mX6_of (fun (r7 : Int32) (S6 : Mem) => ((¬ r7 = (1 : Int32) → (mX6_of (fun (r10 : Int32) (S9 : Mem) => ((r10 < (12 : Int32) → (mX6_sets (fun (S12 : Mem) => mX6_sets (fun (S14 : Mem) => mX6_of (fun (r17 : Int32) (S16 : Mem) => ((¬ r17 = (-1 : Int32) → (mX6_setOut_b97 post S16 v1 (0 : Int32) (4 : Int32) v1)) ∧ (r17 = (-1 : Int32) → (mX6_setOut_b97 post S16 v1 (1 : Int32) (4 : Int32) v1)))) S14 v1 (2 : Int32)) S12 v1 (5 : Int32) (0 : Int32)) S9 v1 (3 : Int32) (1 : Int32))) ∧ (¬ r10 < (12 : Int32) → (mX6_of (fun (r20 : Int32) (S19 : Mem) => mX6_refuses (fun (r22 : Int32) (S21 : Mem) => post r22 S21) S19 (2 : Int32) (4 : Int32) r20) S9 v1 (1 : Int32))))) S6 v1 (1 : Int32))) ∧ (r7 = (1 : Int32) → (mX6_of (fun (r24 : Int32) (S23 : Mem) => mX6_refuses (fun (r26 : Int32) (S25 : Mem) => post r26 S25) S23 (2 : Int32) (2 : Int32) r24) S6 v1 (2 : Int32))))) S3 v1 (3 : Int32))) ∧ (r4 = 0 → (mX6_raises (fun (r28 : Int32) (S27 : Mem) => post r28 S27) S3 (1 : Int32))))) S1 v1) S 
set_option maxRecDepth 100000 in
set_option maxHeartbeats 4000000 in
theorem bX6_setOut_97 {p : Program} {l : Launch} {e : Env} {s : State} {m : MethodId} {args : Array Value} {below : List Frame} {meth : Method} {c : Code} {D : va_G} {ky : Nat → ClassId} {ad : Nat → Nat} {ex : Nat → Nat → Nat} (F : Fx p s m args meth c D ky ad ex cX6_setOut 3 yX6_setOut.cls) (hr : meth.sig.returnType = (some .int)) {post : Int32 → Mem → Prop} : ∀ (S : Mem) (v1 : Int32) (vt0 : Int32) (vt1 : Int32) (vt2 : Int32) (H : Heap) (locs : List Loc) (ls : Array Slot), mX6_setOut_b97 post S v1 vt0 vt1 vt2 → Cx D ky ad s S H locs → lv_has ls 3 [(0, .ref (ad 117)), (1, .int v1)] → W p l e rmX6_setOut s m args below meth c H locs 0 0 (MQ below (va_Qi post (AFT D ky ad) (AW ad s.heap.size)) args s 0 0 (AW ad s.heap.size)) (F0 m 97 ls [.int vt0, .int vt1, .int vt2, .ref (ad 117)]) := by
  intro S v1 vt0 vt1 vt2 H locs ls  h C hl
  unfold mX6_setOut_b97 at h
  refine kV F C hl (kX6_sets  h) (by decide) (ce_M _) rfl wv_X6_78 ⟨rfl, rfl, ⟨Nat.le_of_ble_eq_true rfl, Nat.le_of_ble_eq_true rfl⟩, ⟨Nat.le_of_ble_eq_true rfl, Nat.le_of_ble_eq_true rfl⟩, Nat.le_of_ble_eq_true rfl⟩ (rest := []) rfl dX6_setOut_97 (fun S1 H locs h C => ?_)
  refine lv_aload_n F.x F.b dX6_setOut_100 rfl (lv_at hl 0 rfl) ?_
  refine getM F C 0 (by decide) q4_222 (v := .ref (ad 118)) rfl dX6_setOut_101 ?_
  refine lv_bipush (v := 7) F.x F.b dX6_setOut_104 (by decide) ?_
  refine lv_dup2_11 F.x F.b dX6_setOut_106 rfl rfl ?_
  obtain ⟨g3, h⟩ := h
  refine aldI F C (o := 118) (cq := 11) (iq := 0) (by decide) rfl rfl rfl g3 dX6_setOut_107 ?_
  refine lv_aload_n F.x F.b dX6_setOut_108 rfl (lv_at hl 0 rfl) ?_
  refine lv_iload_n F.x F.b dX6_setOut_109 rfl (lv_at hl 1 rfl) ?_
  refine kI F C hl (kX6_feeOf  h) (by decide) (ce_M _) rfl wv_X6_124 ⟨rfl, rfl, ⟨Nat.le_of_ble_eq_true rfl, Nat.le_of_ble_eq_true rfl⟩, ⟨Nat.le_of_ble_eq_true rfl, Nat.le_of_ble_eq_true rfl⟩, Nat.le_of_ble_eq_true rfl⟩ (rest := [.int (S1 11 0 (7 : Int32).toNatClampNeg), .int (7 : Int32), .ref (ad 118)]) rfl dX6_setOut_110 (fun r5 S4 H locs h C => ?_)
  refine lv_iadd F.x F.b dX6_setOut_113 ?_
  obtain ⟨g6, h⟩ := h
  refine astI F C (o := 118) (cq := 11) (iq := 0) (by decide) rfl rfl (fun _ => rfl) g6 dX6_setOut_114 (fun H locs C => ?_)
  obtain ⟨S7, eS7⟩ : ∃ z : Mem, z = wr S4 11 0 (7 : Int32).toNatClampNeg ((S1 11 0 (7 : Int32).toNatClampNeg) + r5) := ⟨_, rfl⟩
  rw [← eS7] at C
  have h := h S7 eS7
  refine lv_aload_n F.x F.b dX6_setOut_115 rfl (lv_at hl 0 rfl) ?_
  refine lv_iload_n F.x F.b dX6_setOut_116 rfl (lv_at hl 1 rfl) ?_
  refine kI F C hl (kX6_kind  h) (by decide) (ce_M _) rfl wv_X6_121 ⟨rfl, rfl, ⟨Nat.le_of_ble_eq_true rfl, Nat.le_of_ble_eq_true rfl⟩, ⟨Nat.le_of_ble_eq_true rfl, Nat.le_of_ble_eq_true rfl⟩, Nat.le_of_ble_eq_true rfl⟩ (rest := []) rfl dX6_setOut_117 (fun r9 S8 H locs h C => ?_)
  refine lv_if_ne (tgt := 172) F.x F.b dX6_setOut_120 (by decide) (fun g10 => ?_) (fun g10 => ?_)
  · have h := h.1 g10
    refine lv_aload_n F.x F.b dX6_setOut_172 rfl (lv_at hl 0 rfl) ?_
    refine lv_aload_n F.x F.b dX6_setOut_173 rfl (lv_at hl 0 rfl) ?_
    refine lv_iload_n F.x F.b dX6_setOut_174 rfl (lv_at hl 1 rfl) ?_
    refine kI F C hl (kX6_feeOf  h) (by decide) (ce_M _) rfl wv_X6_124 ⟨rfl, rfl, ⟨Nat.le_of_ble_eq_true rfl, Nat.le_of_ble_eq_true rfl⟩, ⟨Nat.le_of_ble_eq_true rfl, Nat.le_of_ble_eq_true rfl⟩, Nat.le_of_ble_eq_true rfl⟩ (rest := [.ref (ad 117)]) rfl dX6_setOut_175 (fun r12 S11 H locs h C => ?_)
    refine kI F C hl (kX6_keeps  h) (by decide) (ce_M _) rfl wv_X6_96 ⟨rfl, rfl, ⟨Nat.le_of_ble_eq_true rfl, Nat.le_of_ble_eq_true rfl⟩, ⟨Nat.le_of_ble_eq_true rfl, Nat.le_of_ble_eq_true rfl⟩, Nat.le_of_ble_eq_true rfl⟩ (rest := []) rfl dX6_setOut_178 (fun r14 S13 H locs h C => ?_)
    exact retI F hr C h dX6_setOut_181
  · have h := h.2 g10
    refine lv_aload_n F.x F.b dX6_setOut_123 rfl (lv_at hl 0 rfl) ?_
    refine lv_iload_n F.x F.b dX6_setOut_124 rfl (lv_at hl 1 rfl) ?_
    refine lv_iconst (v := 2) F.x F.b dX6_setOut_125 (by decide) ?_
    refine kI F C hl (kX6_of  h) (by decide) (ce_M _) rfl wv_X6_66 ⟨rfl, rfl, ⟨Nat.le_of_ble_eq_true rfl, Nat.le_of_ble_eq_true rfl⟩, ⟨Nat.le_of_ble_eq_true rfl, Nat.le_of_ble_eq_true rfl⟩, Nat.le_of_ble_eq_true rfl⟩ (rest := []) rfl dX6_setOut_126 (fun r16 S15 H locs h C => ?_)
    refine lv_iconst (v := -1) F.x F.b dX6_setOut_129 (by decide) ?_
    refine lv_icmp_ne (tgt := 172) F.x F.b dX6_setOut_130 (by decide) (fun g17 => ?_) (fun g17 => ?_)
    · have h := h.1 g17
      refine lv_aload_n F.x F.b dX6_setOut_172 rfl (lv_at hl 0 rfl) ?_
      refine lv_aload_n F.x F.b dX6_setOut_173 rfl (lv_at hl 0 rfl) ?_
      refine lv_iload_n F.x F.b dX6_setOut_174 rfl (lv_at hl 1 rfl) ?_
      refine kI F C hl (kX6_feeOf  h) (by decide) (ce_M _) rfl wv_X6_124 ⟨rfl, rfl, ⟨Nat.le_of_ble_eq_true rfl, Nat.le_of_ble_eq_true rfl⟩, ⟨Nat.le_of_ble_eq_true rfl, Nat.le_of_ble_eq_true rfl⟩, Nat.le_of_ble_eq_true rfl⟩ (rest := [.ref (ad 117)]) rfl dX6_setOut_175 (fun r19 S18 H locs h C => ?_)
      refine kI F C hl (kX6_keeps  h) (by decide) (ce_M _) rfl wv_X6_96 ⟨rfl, rfl, ⟨Nat.le_of_ble_eq_true rfl, Nat.le_of_ble_eq_true rfl⟩, ⟨Nat.le_of_ble_eq_true rfl, Nat.le_of_ble_eq_true rfl⟩, Nat.le_of_ble_eq_true rfl⟩ (rest := []) rfl dX6_setOut_178 (fun r21 S20 H locs h C => ?_)
      exact retI F hr C h dX6_setOut_181
    · have h := h.2 g17
      refine lv_aload_n F.x F.b dX6_setOut_133 rfl (lv_at hl 0 rfl) ?_
      refine getM F C 0 (by decide) q4_222 (v := .ref (ad 118)) rfl dX6_setOut_134 ?_
      refine lv_iconst (v := 4) F.x F.b dX6_setOut_137 (by decide) ?_
      obtain ⟨g22, h⟩ := h
      refine aldI F C (o := 118) (cq := 11) (iq := 0) (by decide) rfl rfl rfl g22 dX6_setOut_138 ?_
      refine lv_bipush (v := 12) F.x F.b dX6_setOut_139 (by decide) ?_
      refine lv_iconst (v := 3) F.x F.b dX6_setOut_141 (by decide) ?_
      refine lv_aload_n F.x F.b dX6_setOut_142 rfl (lv_at hl 0 rfl) ?_
      refine lv_iload_n F.x F.b dX6_setOut_143 rfl (lv_at hl 1 rfl) ?_
      refine lv_iconst (v := 0) F.x F.b dX6_setOut_144 (by decide) ?_
      refine kI F C hl (kX6_of  h) (by decide) (ce_M _) rfl wv_X6_66 ⟨rfl, rfl, ⟨Nat.le_of_ble_eq_true rfl, Nat.le_of_ble_eq_true rfl⟩, ⟨Nat.le_of_ble_eq_true rfl, Nat.le_of_ble_eq_true rfl⟩, Nat.le_of_ble_eq_true rfl⟩ (rest := [.int (3 : Int32), .int (12 : Int32), .int (S15 11 0 (4 : Int32).toNatClampNeg)]) rfl dX6_setOut_145 (fun r24 S23 H locs h C => ?_)
      refine lv_imul F.x F.b dX6_setOut_148 ?_
      refine lv_isub F.x F.b dX6_setOut_149 ?_
      refine mMin F hl q5_128 ⟨Nat.le_of_ble_eq_true rfl, Nat.le_of_ble_eq_true rfl, Nat.le_of_ble_eq_true rfl, Nat.le_of_ble_eq_true rfl⟩ dX6_setOut_150 ?_
      refine lv_topi (fun x25 ex25 => ?_)
      have h := h x25 ex25
      refine lv_istore_n (lv' := [(2, .int x25), (0, .ref (ad 117)), (1, .int v1)]) F.x F.b dX6_setOut_153 rfl hl (by decide) rfl (fun ls hl => ?_)
      refine lv_aload_n F.x F.b dX6_setOut_154 rfl (lv_at hl 1 rfl) ?_
      refine getM F C 0 (by decide) q4_222 (v := .ref (ad 118)) rfl dX6_setOut_155 ?_
      refine lv_iconst (v := 4) F.x F.b dX6_setOut_158 (by decide) ?_
      refine lv_dup2_11 F.x F.b dX6_setOut_159 rfl rfl ?_
      obtain ⟨g26, h⟩ := h
      refine aldI F C (o := 118) (cq := 11) (iq := 0) (by decide) rfl rfl rfl g26 dX6_setOut_160 ?_
      refine lv_iload_n F.x F.b dX6_setOut_161 rfl (lv_at hl 0 rfl) ?_
      refine lv_isub F.x F.b dX6_setOut_162 ?_
      obtain ⟨g27, h⟩ := h
      refine astI F C (o := 118) (cq := 11) (iq := 0) (by decide) rfl rfl (fun _ => rfl) g27 dX6_setOut_163 (fun H locs C => ?_)
      obtain ⟨S28, eS28⟩ : ∃ z : Mem, z = wr S23 11 0 (4 : Int32).toNatClampNeg ((S23 11 0 (4 : Int32).toNatClampNeg) - x25) := ⟨_, rfl⟩
      rw [← eS28] at C
      have h := h S28 eS28
      refine lv_aload_n F.x F.b dX6_setOut_164 rfl (lv_at hl 1 rfl) ?_
      refine lv_iload_n F.x F.b dX6_setOut_165 rfl (lv_at hl 2 rfl) ?_
      refine lv_bipush (v := 7) F.x F.b dX6_setOut_166 (by decide) ?_
      refine lv_iload_n F.x F.b dX6_setOut_168 rfl (lv_at hl 0 rfl) ?_
      refine kV F C hl (kX6_sets  h) (by decide) (ce_M _) rfl wv_X6_78 ⟨rfl, rfl, ⟨Nat.le_of_ble_eq_true rfl, Nat.le_of_ble_eq_true rfl⟩, ⟨Nat.le_of_ble_eq_true rfl, Nat.le_of_ble_eq_true rfl⟩, Nat.le_of_ble_eq_true rfl⟩ (rest := []) rfl dX6_setOut_169 (fun S29 H locs h C => ?_)
      refine lv_aload_n F.x F.b dX6_setOut_172 rfl (lv_at hl 1 rfl) ?_
      refine lv_aload_n F.x F.b dX6_setOut_173 rfl (lv_at hl 1 rfl) ?_
      refine lv_iload_n F.x F.b dX6_setOut_174 rfl (lv_at hl 2 rfl) ?_
      refine kI F C hl (kX6_feeOf  h) (by decide) (ce_M _) rfl wv_X6_124 ⟨rfl, rfl, ⟨Nat.le_of_ble_eq_true rfl, Nat.le_of_ble_eq_true rfl⟩, ⟨Nat.le_of_ble_eq_true rfl, Nat.le_of_ble_eq_true rfl⟩, Nat.le_of_ble_eq_true rfl⟩ (rest := [.ref (ad 117)]) rfl dX6_setOut_175 (fun r32 S31 H locs h C => ?_)
      refine kI F C hl (kX6_keeps  h) (by decide) (ce_M _) rfl wv_X6_96 ⟨rfl, rfl, ⟨Nat.le_of_ble_eq_true rfl, Nat.le_of_ble_eq_true rfl⟩, ⟨Nat.le_of_ble_eq_true rfl, Nat.le_of_ble_eq_true rfl⟩, Nat.le_of_ble_eq_true rfl⟩ (rest := []) rfl dX6_setOut_178 (fun r34 S33 H locs h C => ?_)
      exact retI F hr C h dX6_setOut_181
set_option maxRecDepth 100000 in
set_option maxHeartbeats 4000000 in
theorem kX6_setOut {l : Launch} {D : va_G} {ky : Nat → ClassId} {ad : Nat → Nat} {ex : Nat → Nat → Nat} {post : Int32 → Mem → Prop} {S : Mem} {v1 : Int32} (h : mX6_setOut post S v1) : CMi l D ky ad ex yX6_setOut cX6_setOut 3 (some .int) rmX6_setOut 0 0 [.ref (ad 117), .int v1] S post := by
  refine CMi.of (by decide) (Nat.le_of_ble_eq_true rfl) (fun p e s m args below meth c ls F hr C hl => ?_)
  have hl : lv_has ls 3 [(0, .ref (ad 117)), (1, .int v1)] := hl
  unfold mX6_setOut at h
  refine lv_aload_n F.x F.b dX6_setOut_0 rfl (lv_at hl 0 rfl) ?_
  refine kV F C hl (kX6_tries  h) (by decide) (ce_M _) rfl wv_X6_82 ⟨rfl, rfl, ⟨Nat.le_of_ble_eq_true rfl, Nat.le_of_ble_eq_true rfl⟩, ⟨Nat.le_of_ble_eq_true rfl, Nat.le_of_ble_eq_true rfl⟩, Nat.le_of_ble_eq_true rfl⟩ (rest := []) rfl dX6_setOut_1 (fun S1 H locs h C => ?_)
  refine lv_aload_n F.x F.b dX6_setOut_4 rfl (lv_at hl 0 rfl) ?_
  refine lv_iload_n F.x F.b dX6_setOut_5 rfl (lv_at hl 1 rfl) ?_
  refine kI F C hl (kX6_isTraveller  h) (by decide) (ce_M _) rfl wv_X6_118 ⟨rfl, rfl, ⟨Nat.le_of_ble_eq_true rfl, Nat.le_of_ble_eq_true rfl⟩, ⟨Nat.le_of_ble_eq_true rfl, Nat.le_of_ble_eq_true rfl⟩, Nat.le_of_ble_eq_true rfl⟩ (rest := []) rfl dX6_setOut_6 (fun r4 S3 H locs h C => ?_)
  refine lv_if_ne (tgt := 18) F.x F.b dX6_setOut_9 (by decide) (fun g5 => ?_) (fun g5 => ?_)
  · have h := h.1 g5
    refine lv_aload_n F.x F.b dX6_setOut_18 rfl (lv_at hl 0 rfl) ?_
    refine lv_iload_n F.x F.b dX6_setOut_19 rfl (lv_at hl 1 rfl) ?_
    refine lv_iconst (v := 3) F.x F.b dX6_setOut_20 (by decide) ?_
    refine kI F C hl (kX6_of  h) (by decide) (ce_M _) rfl wv_X6_66 ⟨rfl, rfl, ⟨Nat.le_of_ble_eq_true rfl, Nat.le_of_ble_eq_true rfl⟩, ⟨Nat.le_of_ble_eq_true rfl, Nat.le_of_ble_eq_true rfl⟩, Nat.le_of_ble_eq_true rfl⟩ (rest := []) rfl dX6_setOut_21 (fun r7 S6 H locs h C => ?_)
    refine lv_iconst (v := 1) F.x F.b dX6_setOut_24 (by decide) ?_
    refine lv_icmp_ne (tgt := 41) F.x F.b dX6_setOut_25 (by decide) (fun g8 => ?_) (fun g8 => ?_)
    · have h := h.1 g8
      refine lv_aload_n F.x F.b dX6_setOut_41 rfl (lv_at hl 0 rfl) ?_
      refine lv_iload_n F.x F.b dX6_setOut_42 rfl (lv_at hl 1 rfl) ?_
      refine lv_iconst (v := 1) F.x F.b dX6_setOut_43 (by decide) ?_
      refine kI F C hl (kX6_of  h) (by decide) (ce_M _) rfl wv_X6_66 ⟨rfl, rfl, ⟨Nat.le_of_ble_eq_true rfl, Nat.le_of_ble_eq_true rfl⟩, ⟨Nat.le_of_ble_eq_true rfl, Nat.le_of_ble_eq_true rfl⟩, Nat.le_of_ble_eq_true rfl⟩ (rest := []) rfl dX6_setOut_44 (fun r10 S9 H locs h C => ?_)
      refine lv_bipush (v := 12) F.x F.b dX6_setOut_47 (by decide) ?_
      refine lv_icmp_lt (tgt := 65) F.x F.b dX6_setOut_49 (by decide) (fun g11 => ?_) (fun g11 => ?_)
      · have h := h.1 g11
        refine lv_aload_n F.x F.b dX6_setOut_65 rfl (lv_at hl 0 rfl) ?_
        refine lv_iload_n F.x F.b dX6_setOut_66 rfl (lv_at hl 1 rfl) ?_
        refine lv_iconst (v := 3) F.x F.b dX6_setOut_67 (by decide) ?_
        refine lv_iconst (v := 1) F.x F.b dX6_setOut_68 (by decide) ?_
        refine kV F C hl (kX6_sets  h) (by decide) (ce_M _) rfl wv_X6_78 ⟨rfl, rfl, ⟨Nat.le_of_ble_eq_true rfl, Nat.le_of_ble_eq_true rfl⟩, ⟨Nat.le_of_ble_eq_true rfl, Nat.le_of_ble_eq_true rfl⟩, Nat.le_of_ble_eq_true rfl⟩ (rest := []) rfl dX6_setOut_69 (fun S12 H locs h C => ?_)
        refine lv_aload_n F.x F.b dX6_setOut_72 rfl (lv_at hl 0 rfl) ?_
        refine lv_iload_n F.x F.b dX6_setOut_73 rfl (lv_at hl 1 rfl) ?_
        refine lv_iconst (v := 5) F.x F.b dX6_setOut_74 (by decide) ?_
        refine lv_iconst (v := 0) F.x F.b dX6_setOut_75 (by decide) ?_
        refine kV F C hl (kX6_sets  h) (by decide) (ce_M _) rfl wv_X6_78 ⟨rfl, rfl, ⟨Nat.le_of_ble_eq_true rfl, Nat.le_of_ble_eq_true rfl⟩, ⟨Nat.le_of_ble_eq_true rfl, Nat.le_of_ble_eq_true rfl⟩, Nat.le_of_ble_eq_true rfl⟩ (rest := []) rfl dX6_setOut_76 (fun S14 H locs h C => ?_)
        refine lv_aload_n F.x F.b dX6_setOut_79 rfl (lv_at hl 0 rfl) ?_
        refine lv_iload_n F.x F.b dX6_setOut_80 rfl (lv_at hl 1 rfl) ?_
        refine lv_iconst (v := 4) F.x F.b dX6_setOut_81 (by decide) ?_
        refine lv_aload_n F.x F.b dX6_setOut_82 rfl (lv_at hl 0 rfl) ?_
        refine lv_iload_n F.x F.b dX6_setOut_83 rfl (lv_at hl 1 rfl) ?_
        refine lv_iconst (v := 2) F.x F.b dX6_setOut_84 (by decide) ?_
        refine kI F C hl (kX6_of  h) (by decide) (ce_M _) rfl wv_X6_66 ⟨rfl, rfl, ⟨Nat.le_of_ble_eq_true rfl, Nat.le_of_ble_eq_true rfl⟩, ⟨Nat.le_of_ble_eq_true rfl, Nat.le_of_ble_eq_true rfl⟩, Nat.le_of_ble_eq_true rfl⟩ (rest := [.int (4 : Int32), .int v1, .ref (ad 117)]) rfl dX6_setOut_85 (fun r17 S16 H locs h C => ?_)
        refine lv_iconst (v := -1) F.x F.b dX6_setOut_88 (by decide) ?_
        refine lv_icmp_ne (tgt := 96) F.x F.b dX6_setOut_89 (by decide) (fun g18 => ?_) (fun g18 => ?_)
        · have h := h.1 g18
          refine lv_iconst (v := 0) F.x F.b dX6_setOut_96 (by decide) ?_
          exact bX6_setOut_97 F hr S16 v1 (0 : Int32) (4 : Int32) v1 _ _ _ h C (lv_sub hl [0, 1] rfl)
        · have h := h.2 g18
          refine lv_iconst (v := 1) F.x F.b dX6_setOut_92 (by decide) ?_
          refine lv_goto (tgt := 97) F.x F.b dX6_setOut_93 (by decide) ?_
          exact bX6_setOut_97 F hr S16 v1 (1 : Int32) (4 : Int32) v1 _ _ _ h C (lv_sub hl [0, 1] rfl)
      · have h := h.2 g11
        refine lv_aload_n F.x F.b dX6_setOut_52 rfl (lv_at hl 0 rfl) ?_
        refine lv_iconst (v := 2) F.x F.b dX6_setOut_53 (by decide) ?_
        refine lv_iconst (v := 4) F.x F.b dX6_setOut_54 (by decide) ?_
        refine lv_aload_n F.x F.b dX6_setOut_55 rfl (lv_at hl 0 rfl) ?_
        refine lv_iload_n F.x F.b dX6_setOut_56 rfl (lv_at hl 1 rfl) ?_
        refine lv_iconst (v := 1) F.x F.b dX6_setOut_57 (by decide) ?_
        refine kI F C hl (kX6_of  h) (by decide) (ce_M _) rfl wv_X6_66 ⟨rfl, rfl, ⟨Nat.le_of_ble_eq_true rfl, Nat.le_of_ble_eq_true rfl⟩, ⟨Nat.le_of_ble_eq_true rfl, Nat.le_of_ble_eq_true rfl⟩, Nat.le_of_ble_eq_true rfl⟩ (rest := [.int (4 : Int32), .int (2 : Int32), .ref (ad 117)]) rfl dX6_setOut_58 (fun r20 S19 H locs h C => ?_)
        refine kI F C hl (kX6_refuses  h) (by decide) (ce_M _) rfl wv_X6_92 ⟨rfl, rfl, ⟨Nat.le_of_ble_eq_true rfl, Nat.le_of_ble_eq_true rfl⟩, ⟨Nat.le_of_ble_eq_true rfl, Nat.le_of_ble_eq_true rfl⟩, Nat.le_of_ble_eq_true rfl⟩ (rest := []) rfl dX6_setOut_61 (fun r22 S21 H locs h C => ?_)
        exact retI F hr C h dX6_setOut_64
    · have h := h.2 g8
      refine lv_aload_n F.x F.b dX6_setOut_28 rfl (lv_at hl 0 rfl) ?_
      refine lv_iconst (v := 2) F.x F.b dX6_setOut_29 (by decide) ?_
      refine lv_iconst (v := 2) F.x F.b dX6_setOut_30 (by decide) ?_
      refine lv_aload_n F.x F.b dX6_setOut_31 rfl (lv_at hl 0 rfl) ?_
      refine lv_iload_n F.x F.b dX6_setOut_32 rfl (lv_at hl 1 rfl) ?_
      refine lv_iconst (v := 2) F.x F.b dX6_setOut_33 (by decide) ?_
      refine kI F C hl (kX6_of  h) (by decide) (ce_M _) rfl wv_X6_66 ⟨rfl, rfl, ⟨Nat.le_of_ble_eq_true rfl, Nat.le_of_ble_eq_true rfl⟩, ⟨Nat.le_of_ble_eq_true rfl, Nat.le_of_ble_eq_true rfl⟩, Nat.le_of_ble_eq_true rfl⟩ (rest := [.int (2 : Int32), .int (2 : Int32), .ref (ad 117)]) rfl dX6_setOut_34 (fun r24 S23 H locs h C => ?_)
      refine kI F C hl (kX6_refuses  h) (by decide) (ce_M _) rfl wv_X6_92 ⟨rfl, rfl, ⟨Nat.le_of_ble_eq_true rfl, Nat.le_of_ble_eq_true rfl⟩, ⟨Nat.le_of_ble_eq_true rfl, Nat.le_of_ble_eq_true rfl⟩, Nat.le_of_ble_eq_true rfl⟩ (rest := []) rfl dX6_setOut_37 (fun r26 S25 H locs h C => ?_)
      exact retI F hr C h dX6_setOut_40
  · have h := h.2 g5
    refine lv_aload_n F.x F.b dX6_setOut_12 rfl (lv_at hl 0 rfl) ?_
    refine lv_iconst (v := 1) F.x F.b dX6_setOut_13 (by decide) ?_
    refine kI F C hl (kX6_raises  h) (by decide) (ce_M _) rfl wv_X6_58 ⟨rfl, rfl, ⟨Nat.le_of_ble_eq_true rfl, Nat.le_of_ble_eq_true rfl⟩, ⟨Nat.le_of_ble_eq_true rfl, Nat.le_of_ble_eq_true rfl⟩, Nat.le_of_ble_eq_true rfl⟩ (rest := []) rfl dX6_setOut_14 (fun r28 S27 H locs h C => ?_)
    exact retI F hr C h dX6_setOut_17

def rmX6_halts : Room := { frames := 2, cells := 0, slots := 0, locals := 44 }
def mX6_halts (post : Int32 → Mem → Prop) (S : Mem) (v1 : Int32) (v2 : Int32) : Prop := mX6_tries (fun (S1 : Mem) => mX6_isTraveller (fun (r4 : Int32) (S3 : Mem) => ((¬ r4 = 0 → (mX6_of (fun (r7 : Int32) (S6 : Mem) => ((¬ r7 = 0 → (mX6_of (fun (r10 : Int32) (S9 : Mem) => ((¬ r10 = v2 → (mX6_sets (fun (S12 : Mem) => mX6_of (fun (r15 : Int32) (S14 : Mem) => mX6_keeps (fun (r17 : Int32) (S16 : Mem) => post r17 S16) S14 r15) S12 v1 (2 : Int32)) S9 v1 (5 : Int32) v2)) ∧ (r10 = v2 → (mX6_refuses (fun (r19 : Int32) (S18 : Mem) => post r19 S18) S9 (2 : Int32) (7 : Int32) v1)))) S6 v1 (5 : Int32))) ∧ (r7 = 0 → (mX6_of (fun (r21 : Int32) (S20 : Mem) => mX6_refuses (fun (r23 : Int32) (S22 : Mem) => post r23 S22) S20 (2 : Int32) (3 : Int32) r21) S6 v1 (2 : Int32))))) S3 v1 (3 : Int32))) ∧ (r4 = 0 → (mX6_raises (fun (r25 : Int32) (S24 : Mem) => post r25 S24) S3 (1 : Int32))))) S1 v1) S 
set_option maxRecDepth 100000 in
set_option maxHeartbeats 4000000 in
theorem kX6_halts {l : Launch} {D : va_G} {ky : Nat → ClassId} {ad : Nat → Nat} {ex : Nat → Nat → Nat} {post : Int32 → Mem → Prop} {S : Mem} {v1 : Int32} {v2 : Int32} (h : mX6_halts post S v1 v2) : CMi l D ky ad ex yX6_halts cX6_halts 3 (some .int) rmX6_halts 0 0 [.ref (ad 117), .int v1, .int v2] S post := by
  refine CMi.of (by decide) (Nat.le_of_ble_eq_true rfl) (fun p e s m args below meth c ls F hr C hl => ?_)
  have hl : lv_has ls 3 [(0, .ref (ad 117)), (1, .int v1), (2, .int v2)] := hl
  unfold mX6_halts at h
  refine lv_aload_n F.x F.b dX6_halts_0 rfl (lv_at hl 0 rfl) ?_
  refine kV F C hl (kX6_tries  h) (by decide) (ce_M _) rfl wv_X6_82 ⟨rfl, rfl, ⟨Nat.le_of_ble_eq_true rfl, Nat.le_of_ble_eq_true rfl⟩, ⟨Nat.le_of_ble_eq_true rfl, Nat.le_of_ble_eq_true rfl⟩, Nat.le_of_ble_eq_true rfl⟩ (rest := []) rfl dX6_halts_1 (fun S1 H locs h C => ?_)
  refine lv_aload_n F.x F.b dX6_halts_4 rfl (lv_at hl 0 rfl) ?_
  refine lv_iload_n F.x F.b dX6_halts_5 rfl (lv_at hl 1 rfl) ?_
  refine kI F C hl (kX6_isTraveller  h) (by decide) (ce_M _) rfl wv_X6_118 ⟨rfl, rfl, ⟨Nat.le_of_ble_eq_true rfl, Nat.le_of_ble_eq_true rfl⟩, ⟨Nat.le_of_ble_eq_true rfl, Nat.le_of_ble_eq_true rfl⟩, Nat.le_of_ble_eq_true rfl⟩ (rest := []) rfl dX6_halts_6 (fun r4 S3 H locs h C => ?_)
  refine lv_if_ne (tgt := 18) F.x F.b dX6_halts_9 (by decide) (fun g5 => ?_) (fun g5 => ?_)
  · have h := h.1 g5
    refine lv_aload_n F.x F.b dX6_halts_18 rfl (lv_at hl 0 rfl) ?_
    refine lv_iload_n F.x F.b dX6_halts_19 rfl (lv_at hl 1 rfl) ?_
    refine lv_iconst (v := 3) F.x F.b dX6_halts_20 (by decide) ?_
    refine kI F C hl (kX6_of  h) (by decide) (ce_M _) rfl wv_X6_66 ⟨rfl, rfl, ⟨Nat.le_of_ble_eq_true rfl, Nat.le_of_ble_eq_true rfl⟩, ⟨Nat.le_of_ble_eq_true rfl, Nat.le_of_ble_eq_true rfl⟩, Nat.le_of_ble_eq_true rfl⟩ (rest := []) rfl dX6_halts_21 (fun r7 S6 H locs h C => ?_)
    refine lv_if_ne (tgt := 40) F.x F.b dX6_halts_24 (by decide) (fun g8 => ?_) (fun g8 => ?_)
    · have h := h.1 g8
      refine lv_aload_n F.x F.b dX6_halts_40 rfl (lv_at hl 0 rfl) ?_
      refine lv_iload_n F.x F.b dX6_halts_41 rfl (lv_at hl 1 rfl) ?_
      refine lv_iconst (v := 5) F.x F.b dX6_halts_42 (by decide) ?_
      refine kI F C hl (kX6_of  h) (by decide) (ce_M _) rfl wv_X6_66 ⟨rfl, rfl, ⟨Nat.le_of_ble_eq_true rfl, Nat.le_of_ble_eq_true rfl⟩, ⟨Nat.le_of_ble_eq_true rfl, Nat.le_of_ble_eq_true rfl⟩, Nat.le_of_ble_eq_true rfl⟩ (rest := []) rfl dX6_halts_43 (fun r10 S9 H locs h C => ?_)
      refine lv_iload_n F.x F.b dX6_halts_46 rfl (lv_at hl 2 rfl) ?_
      refine lv_icmp_ne (tgt := 59) F.x F.b dX6_halts_47 (by decide) (fun g11 => ?_) (fun g11 => ?_)
      · have h := h.1 g11
        refine lv_aload_n F.x F.b dX6_halts_59 rfl (lv_at hl 0 rfl) ?_
        refine lv_iload_n F.x F.b dX6_halts_60 rfl (lv_at hl 1 rfl) ?_
        refine lv_iconst (v := 5) F.x F.b dX6_halts_61 (by decide) ?_
        refine lv_iload_n F.x F.b dX6_halts_62 rfl (lv_at hl 2 rfl) ?_
        refine kV F C hl (kX6_sets  h) (by decide) (ce_M _) rfl wv_X6_78 ⟨rfl, rfl, ⟨Nat.le_of_ble_eq_true rfl, Nat.le_of_ble_eq_true rfl⟩, ⟨Nat.le_of_ble_eq_true rfl, Nat.le_of_ble_eq_true rfl⟩, Nat.le_of_ble_eq_true rfl⟩ (rest := []) rfl dX6_halts_63 (fun S12 H locs h C => ?_)
        refine lv_aload_n F.x F.b dX6_halts_66 rfl (lv_at hl 0 rfl) ?_
        refine lv_aload_n F.x F.b dX6_halts_67 rfl (lv_at hl 0 rfl) ?_
        refine lv_iload_n F.x F.b dX6_halts_68 rfl (lv_at hl 1 rfl) ?_
        refine lv_iconst (v := 2) F.x F.b dX6_halts_69 (by decide) ?_
        refine kI F C hl (kX6_of  h) (by decide) (ce_M _) rfl wv_X6_66 ⟨rfl, rfl, ⟨Nat.le_of_ble_eq_true rfl, Nat.le_of_ble_eq_true rfl⟩, ⟨Nat.le_of_ble_eq_true rfl, Nat.le_of_ble_eq_true rfl⟩, Nat.le_of_ble_eq_true rfl⟩ (rest := [.ref (ad 117)]) rfl dX6_halts_70 (fun r15 S14 H locs h C => ?_)
        refine kI F C hl (kX6_keeps  h) (by decide) (ce_M _) rfl wv_X6_96 ⟨rfl, rfl, ⟨Nat.le_of_ble_eq_true rfl, Nat.le_of_ble_eq_true rfl⟩, ⟨Nat.le_of_ble_eq_true rfl, Nat.le_of_ble_eq_true rfl⟩, Nat.le_of_ble_eq_true rfl⟩ (rest := []) rfl dX6_halts_73 (fun r17 S16 H locs h C => ?_)
        exact retI F hr C h dX6_halts_76
      · have h := h.2 g11
        refine lv_aload_n F.x F.b dX6_halts_50 rfl (lv_at hl 0 rfl) ?_
        refine lv_iconst (v := 2) F.x F.b dX6_halts_51 (by decide) ?_
        refine lv_bipush (v := 7) F.x F.b dX6_halts_52 (by decide) ?_
        refine lv_iload_n F.x F.b dX6_halts_54 rfl (lv_at hl 1 rfl) ?_
        refine kI F C hl (kX6_refuses  h) (by decide) (ce_M _) rfl wv_X6_92 ⟨rfl, rfl, ⟨Nat.le_of_ble_eq_true rfl, Nat.le_of_ble_eq_true rfl⟩, ⟨Nat.le_of_ble_eq_true rfl, Nat.le_of_ble_eq_true rfl⟩, Nat.le_of_ble_eq_true rfl⟩ (rest := []) rfl dX6_halts_55 (fun r19 S18 H locs h C => ?_)
        exact retI F hr C h dX6_halts_58
    · have h := h.2 g8
      refine lv_aload_n F.x F.b dX6_halts_27 rfl (lv_at hl 0 rfl) ?_
      refine lv_iconst (v := 2) F.x F.b dX6_halts_28 (by decide) ?_
      refine lv_iconst (v := 3) F.x F.b dX6_halts_29 (by decide) ?_
      refine lv_aload_n F.x F.b dX6_halts_30 rfl (lv_at hl 0 rfl) ?_
      refine lv_iload_n F.x F.b dX6_halts_31 rfl (lv_at hl 1 rfl) ?_
      refine lv_iconst (v := 2) F.x F.b dX6_halts_32 (by decide) ?_
      refine kI F C hl (kX6_of  h) (by decide) (ce_M _) rfl wv_X6_66 ⟨rfl, rfl, ⟨Nat.le_of_ble_eq_true rfl, Nat.le_of_ble_eq_true rfl⟩, ⟨Nat.le_of_ble_eq_true rfl, Nat.le_of_ble_eq_true rfl⟩, Nat.le_of_ble_eq_true rfl⟩ (rest := [.int (3 : Int32), .int (2 : Int32), .ref (ad 117)]) rfl dX6_halts_33 (fun r21 S20 H locs h C => ?_)
      refine kI F C hl (kX6_refuses  h) (by decide) (ce_M _) rfl wv_X6_92 ⟨rfl, rfl, ⟨Nat.le_of_ble_eq_true rfl, Nat.le_of_ble_eq_true rfl⟩, ⟨Nat.le_of_ble_eq_true rfl, Nat.le_of_ble_eq_true rfl⟩, Nat.le_of_ble_eq_true rfl⟩ (rest := []) rfl dX6_halts_36 (fun r23 S22 H locs h C => ?_)
      exact retI F hr C h dX6_halts_39
  · have h := h.2 g5
    refine lv_aload_n F.x F.b dX6_halts_12 rfl (lv_at hl 0 rfl) ?_
    refine lv_iconst (v := 1) F.x F.b dX6_halts_13 (by decide) ?_
    refine kI F C hl (kX6_raises  h) (by decide) (ce_M _) rfl wv_X6_58 ⟨rfl, rfl, ⟨Nat.le_of_ble_eq_true rfl, Nat.le_of_ble_eq_true rfl⟩, ⟨Nat.le_of_ble_eq_true rfl, Nat.le_of_ble_eq_true rfl⟩, Nat.le_of_ble_eq_true rfl⟩ (rest := []) rfl dX6_halts_14 (fun r25 S24 H locs h C => ?_)
    exact retI F hr C h dX6_halts_17

def rmX6_stop : Room := { frames := 3, cells := 0, slots := 0, locals := 66 }
def mX6_stop (post : Int32 → Mem → Prop) (S : Mem) (v1 : Int32) : Prop := mX6_halts (fun (r2 : Int32) (S1 : Mem) => post r2 S1) S v1 (1 : Int32)
set_option maxRecDepth 100000 in
set_option maxHeartbeats 4000000 in
theorem kX6_stop {l : Launch} {D : va_G} {ky : Nat → ClassId} {ad : Nat → Nat} {ex : Nat → Nat → Nat} {post : Int32 → Mem → Prop} {S : Mem} {v1 : Int32} (h : mX6_stop post S v1) : CMi l D ky ad ex yX6_stop cX6_stop 2 (some .int) rmX6_stop 0 0 [.ref (ad 117), .int v1] S post := by
  refine CMi.of (by decide) (Nat.le_of_ble_eq_true rfl) (fun p e s m args below meth c ls F hr C hl => ?_)
  have hl : lv_has ls 2 [(0, .ref (ad 117)), (1, .int v1)] := hl
  unfold mX6_stop at h
  refine lv_aload_n F.x F.b dX6_stop_0 rfl (lv_at hl 0 rfl) ?_
  refine lv_iload_n F.x F.b dX6_stop_1 rfl (lv_at hl 1 rfl) ?_
  refine lv_iconst (v := 1) F.x F.b dX6_stop_2 (by decide) ?_
  refine kI F C hl (kX6_halts  h) (by decide) (ce_M _) rfl wv_X6_127 ⟨rfl, rfl, ⟨Nat.le_of_ble_eq_true rfl, Nat.le_of_ble_eq_true rfl⟩, ⟨Nat.le_of_ble_eq_true rfl, Nat.le_of_ble_eq_true rfl⟩, Nat.le_of_ble_eq_true rfl⟩ (rest := []) rfl dX6_stop_3 (fun r2 S1 H locs h C => ?_)
  exact retI F hr C h dX6_stop_6

def rmX6_go : Room := { frames := 3, cells := 0, slots := 0, locals := 66 }
def mX6_go (post : Int32 → Mem → Prop) (S : Mem) (v1 : Int32) : Prop := mX6_halts (fun (r2 : Int32) (S1 : Mem) => post r2 S1) S v1 (0 : Int32)
set_option maxRecDepth 100000 in
set_option maxHeartbeats 4000000 in
theorem kX6_go {l : Launch} {D : va_G} {ky : Nat → ClassId} {ad : Nat → Nat} {ex : Nat → Nat → Nat} {post : Int32 → Mem → Prop} {S : Mem} {v1 : Int32} (h : mX6_go post S v1) : CMi l D ky ad ex yX6_go cX6_go 2 (some .int) rmX6_go 0 0 [.ref (ad 117), .int v1] S post := by
  refine CMi.of (by decide) (Nat.le_of_ble_eq_true rfl) (fun p e s m args below meth c ls F hr C hl => ?_)
  have hl : lv_has ls 2 [(0, .ref (ad 117)), (1, .int v1)] := hl
  unfold mX6_go at h
  refine lv_aload_n F.x F.b dX6_go_0 rfl (lv_at hl 0 rfl) ?_
  refine lv_iload_n F.x F.b dX6_go_1 rfl (lv_at hl 1 rfl) ?_
  refine lv_iconst (v := 0) F.x F.b dX6_go_2 (by decide) ?_
  refine kI F C hl (kX6_halts  h) (by decide) (ce_M _) rfl wv_X6_127 ⟨rfl, rfl, ⟨Nat.le_of_ble_eq_true rfl, Nat.le_of_ble_eq_true rfl⟩, ⟨Nat.le_of_ble_eq_true rfl, Nat.le_of_ble_eq_true rfl⟩, Nat.le_of_ble_eq_true rfl⟩ (rest := []) rfl dX6_go_3 (fun r2 S1 H locs h C => ?_)
  exact retI F hr C h dX6_go_6

def rmX6_leave : Room := { frames := 2, cells := 0, slots := 0, locals := 44 }
def mX6_leave_b67 (post : Int32 → Mem → Prop) : Nat → Mem → Int32 → Int32 → Prop
  | 0, _, _, _ => False
  | n + 1, S, v2, v3 => vp_in (3 : Int32) 84 ∧ ((((20 : Int32) + ((8 : Int32) * (S 11 0 (3 : Int32).toNatClampNeg))) ≤ v3 → (mX6_keeps (fun (r4 : Int32) (S3 : Mem) => post r4 S3) S v2)) ∧ (¬ ((20 : Int32) + ((8 : Int32) * (S 11 0 (3 : Int32).toNatClampNeg))) ≤ v3 → (vp_in (v3 + (8 : Int32)) 84 ∧ vp_in v3 84 ∧ ∀ S7 : Mem, S7 = wr S 11 0 v3.toNatClampNeg (S 11 0 ((v3 + (8 : Int32))).toNatClampNeg) → ∀ x8 : Int32, x8 = v3 + (1 : Int32) → mX6_leave_b67 post n S7 v2 x8)))
def mX6_leave (post : Int32 → Mem → Prop) (S : Mem) (v1 : Int32) : Prop := mX6_tries (fun (S1 : Mem) => mX6_isTraveller (fun (r4 : Int32) (S3 : Mem) => ((¬ r4 = 0 → (mX6_of (fun (r7 : Int32) (S6 : Mem) => ((¬ r7 = (1 : Int32) → (mX6_of (fun (r10 : Int32) (S9 : Mem) => vp_in (3 : Int32) 84 ∧ vp_in (3 : Int32) 84 ∧ ∀ S13 : Mem, S13 = wr S9 11 0 (3 : Int32).toNatClampNeg ((S9 11 0 (3 : Int32).toNatClampNeg) - (1 : Int32)) → ∀ x14 : Int32, x14 = ((20 : Int32) + ((8 : Int32) * v1)) → ∃ fu : Nat, mX6_leave_b67 post fu S13 r10 x14) S6 v1 (6 : Int32))) ∧ (r7 = (1 : Int32) → (mX6_of (fun (r17 : Int32) (S16 : Mem) => mX6_refuses (fun (r19 : Int32) (S18 : Mem) => post r19 S18) S16 (2 : Int32) (2 : Int32) r17) S6 v1 (2 : Int32))))) S3 v1 (3 : Int32))) ∧ (r4 = 0 → (mX6_raises (fun (r21 : Int32) (S20 : Mem) => post r21 S20) S3 (1 : Int32))))) S1 v1) S 
set_option maxRecDepth 100000 in
set_option maxHeartbeats 4000000 in
theorem bX6_leave_67 {p : Program} {l : Launch} {e : Env} {s : State} {m : MethodId} {args : Array Value} {below : List Frame} {meth : Method} {c : Code} {D : va_G} {ky : Nat → ClassId} {ad : Nat → Nat} {ex : Nat → Nat → Nat} (F : Fx p s m args meth c D ky ad ex cX6_leave 4 yX6_leave.cls) (hr : meth.sig.returnType = (some .int)) {post : Int32 → Mem → Prop} : ∀ (n : Nat) (S : Mem) (v2 : Int32) (v3 : Int32) (H : Heap) (locs : List Loc) (ls : Array Slot), mX6_leave_b67 post n S v2 v3 → Cx D ky ad s S H locs → lv_has ls 4 [(0, .ref (ad 117)), (2, .int v2), (3, .int v3)] → W p l e rmX6_leave s m args below meth c H locs 0 0 (MQ below (va_Qi post (AFT D ky ad) (AW ad s.heap.size)) args s 0 0 (AW ad s.heap.size)) (F0 m 67 ls []) := by
  intro n
  induction n with
  | zero =>
    intro S v2 v3 H locs ls  h
    exact False.elim h
  | succ n ih =>
    intro S v2 v3 H locs ls  h C hl
    refine lv_iload_n F.x F.b dX6_leave_67 rfl (lv_at hl 2 rfl) ?_
    refine lv_bipush (v := 20) F.x F.b dX6_leave_68 (by decide) ?_
    refine lv_bipush (v := 8) F.x F.b dX6_leave_70 (by decide) ?_
    refine lv_aload_n F.x F.b dX6_leave_72 rfl (lv_at hl 0 rfl) ?_
    refine getM F C 0 (by decide) q4_222 (v := .ref (ad 118)) rfl dX6_leave_73 ?_
    refine lv_iconst (v := 3) F.x F.b dX6_leave_76 (by decide) ?_
    obtain ⟨g1, h⟩ := h
    refine aldI F C (o := 118) (cq := 11) (iq := 0) (by decide) rfl rfl rfl g1 dX6_leave_77 ?_
    refine lv_imul F.x F.b dX6_leave_78 ?_
    refine lv_iadd F.x F.b dX6_leave_79 ?_
    refine lv_icmp_ge (tgt := 104) F.x F.b dX6_leave_80 (by decide) (fun g2 => ?_) (fun g2 => ?_)
    · have h := h.1 g2
      refine lv_aload_n F.x F.b dX6_leave_104 rfl (lv_at hl 0 rfl) ?_
      refine lv_iload_n F.x F.b dX6_leave_105 rfl (lv_at hl 1 rfl) ?_
      refine kI F C hl (kX6_keeps  h) (by decide) (ce_M _) rfl wv_X6_96 ⟨rfl, rfl, ⟨Nat.le_of_ble_eq_true rfl, Nat.le_of_ble_eq_true rfl⟩, ⟨Nat.le_of_ble_eq_true rfl, Nat.le_of_ble_eq_true rfl⟩, Nat.le_of_ble_eq_true rfl⟩ (rest := []) rfl dX6_leave_106 (fun r4 S3 H locs h C => ?_)
      exact retI F hr C h dX6_leave_109
    · have h := h.2 g2
      refine lv_aload_n F.x F.b dX6_leave_83 rfl (lv_at hl 0 rfl) ?_
      refine getM F C 0 (by decide) q4_222 (v := .ref (ad 118)) rfl dX6_leave_84 ?_
      refine lv_iload_n F.x F.b dX6_leave_87 rfl (lv_at hl 2 rfl) ?_
      refine lv_aload_n F.x F.b dX6_leave_88 rfl (lv_at hl 0 rfl) ?_
      refine getM F C 0 (by decide) q4_222 (v := .ref (ad 118)) rfl dX6_leave_89 ?_
      refine lv_iload_n F.x F.b dX6_leave_92 rfl (lv_at hl 2 rfl) ?_
      refine lv_bipush (v := 8) F.x F.b dX6_leave_93 (by decide) ?_
      refine lv_iadd F.x F.b dX6_leave_95 ?_
      obtain ⟨g5, h⟩ := h
      refine aldI F C (o := 118) (cq := 11) (iq := 0) (by decide) rfl rfl rfl g5 dX6_leave_96 ?_
      obtain ⟨g6, h⟩ := h
      refine astI F C (o := 118) (cq := 11) (iq := 0) (by decide) rfl rfl (fun _ => rfl) g6 dX6_leave_97 (fun H locs C => ?_)
      obtain ⟨S7, eS7⟩ : ∃ z : Mem, z = wr S 11 0 v3.toNatClampNeg (S 11 0 ((v3 + (8 : Int32))).toNatClampNeg) := ⟨_, rfl⟩
      rw [← eS7] at C
      have h := h S7 eS7
      obtain ⟨x8, ex8⟩ : ∃ z : Int32, z = v3 + (1 : Int32) := ⟨_, rfl⟩
      have h := h x8 ex8
      refine lv_iinc (v := x8) (lv' := [(3, .int x8), (0, .ref (ad 117)), (2, .int v2)]) F.x F.b dX6_leave_98 hl (k := 2) rfl (by rw [ex8]; rfl) (by decide) rfl (fun ls hl => ?_)
      refine lv_goto (tgt := 67) F.x F.b dX6_leave_101 (by decide) ?_
      exact ih S7 v2 x8 _ _ _ h C (lv_sub hl [1, 2, 0] rfl)
set_option maxRecDepth 100000 in
set_option maxHeartbeats 4000000 in
theorem kX6_leave {l : Launch} {D : va_G} {ky : Nat → ClassId} {ad : Nat → Nat} {ex : Nat → Nat → Nat} {post : Int32 → Mem → Prop} {S : Mem} {v1 : Int32} (h : mX6_leave post S v1) : CMi l D ky ad ex yX6_leave cX6_leave 4 (some .int) rmX6_leave 0 0 [.ref (ad 117), .int v1] S post := by
  refine CMi.of (by decide) (Nat.le_of_ble_eq_true rfl) (fun p e s m args below meth c ls F hr C hl => ?_)
  have hl : lv_has ls 4 [(0, .ref (ad 117)), (1, .int v1)] := hl
  unfold mX6_leave at h
  refine lv_aload_n F.x F.b dX6_leave_0 rfl (lv_at hl 0 rfl) ?_
  refine kV F C hl (kX6_tries  h) (by decide) (ce_M _) rfl wv_X6_82 ⟨rfl, rfl, ⟨Nat.le_of_ble_eq_true rfl, Nat.le_of_ble_eq_true rfl⟩, ⟨Nat.le_of_ble_eq_true rfl, Nat.le_of_ble_eq_true rfl⟩, Nat.le_of_ble_eq_true rfl⟩ (rest := []) rfl dX6_leave_1 (fun S1 H locs h C => ?_)
  refine lv_aload_n F.x F.b dX6_leave_4 rfl (lv_at hl 0 rfl) ?_
  refine lv_iload_n F.x F.b dX6_leave_5 rfl (lv_at hl 1 rfl) ?_
  refine kI F C hl (kX6_isTraveller  h) (by decide) (ce_M _) rfl wv_X6_118 ⟨rfl, rfl, ⟨Nat.le_of_ble_eq_true rfl, Nat.le_of_ble_eq_true rfl⟩, ⟨Nat.le_of_ble_eq_true rfl, Nat.le_of_ble_eq_true rfl⟩, Nat.le_of_ble_eq_true rfl⟩ (rest := []) rfl dX6_leave_6 (fun r4 S3 H locs h C => ?_)
  refine lv_if_ne (tgt := 18) F.x F.b dX6_leave_9 (by decide) (fun g5 => ?_) (fun g5 => ?_)
  · have h := h.1 g5
    refine lv_aload_n F.x F.b dX6_leave_18 rfl (lv_at hl 0 rfl) ?_
    refine lv_iload_n F.x F.b dX6_leave_19 rfl (lv_at hl 1 rfl) ?_
    refine lv_iconst (v := 3) F.x F.b dX6_leave_20 (by decide) ?_
    refine kI F C hl (kX6_of  h) (by decide) (ce_M _) rfl wv_X6_66 ⟨rfl, rfl, ⟨Nat.le_of_ble_eq_true rfl, Nat.le_of_ble_eq_true rfl⟩, ⟨Nat.le_of_ble_eq_true rfl, Nat.le_of_ble_eq_true rfl⟩, Nat.le_of_ble_eq_true rfl⟩ (rest := []) rfl dX6_leave_21 (fun r7 S6 H locs h C => ?_)
    refine lv_iconst (v := 1) F.x F.b dX6_leave_24 (by decide) ?_
    refine lv_icmp_ne (tgt := 41) F.x F.b dX6_leave_25 (by decide) (fun g8 => ?_) (fun g8 => ?_)
    · have h := h.1 g8
      refine lv_aload_n F.x F.b dX6_leave_41 rfl (lv_at hl 0 rfl) ?_
      refine lv_iload_n F.x F.b dX6_leave_42 rfl (lv_at hl 1 rfl) ?_
      refine lv_bipush (v := 6) F.x F.b dX6_leave_43 (by decide) ?_
      refine kI F C hl (kX6_of  h) (by decide) (ce_M _) rfl wv_X6_66 ⟨rfl, rfl, ⟨Nat.le_of_ble_eq_true rfl, Nat.le_of_ble_eq_true rfl⟩, ⟨Nat.le_of_ble_eq_true rfl, Nat.le_of_ble_eq_true rfl⟩, Nat.le_of_ble_eq_true rfl⟩ (rest := []) rfl dX6_leave_45 (fun r10 S9 H locs h C => ?_)
      refine lv_istore_n (lv' := [(2, .int r10), (0, .ref (ad 117)), (1, .int v1)]) F.x F.b dX6_leave_48 rfl hl (by decide) rfl (fun ls hl => ?_)
      refine lv_aload_n F.x F.b dX6_leave_49 rfl (lv_at hl 1 rfl) ?_
      refine getM F C 0 (by decide) q4_222 (v := .ref (ad 118)) rfl dX6_leave_50 ?_
      refine lv_iconst (v := 3) F.x F.b dX6_leave_53 (by decide) ?_
      refine lv_dup2_11 F.x F.b dX6_leave_54 rfl rfl ?_
      obtain ⟨g11, h⟩ := h
      refine aldI F C (o := 118) (cq := 11) (iq := 0) (by decide) rfl rfl rfl g11 dX6_leave_55 ?_
      refine lv_iconst (v := 1) F.x F.b dX6_leave_56 (by decide) ?_
      refine lv_isub F.x F.b dX6_leave_57 ?_
      obtain ⟨g12, h⟩ := h
      refine astI F C (o := 118) (cq := 11) (iq := 0) (by decide) rfl rfl (fun _ => rfl) g12 dX6_leave_58 (fun H locs C => ?_)
      obtain ⟨S13, eS13⟩ : ∃ z : Mem, z = wr S9 11 0 (3 : Int32).toNatClampNeg ((S9 11 0 (3 : Int32).toNatClampNeg) - (1 : Int32)) := ⟨_, rfl⟩
      rw [← eS13] at C
      have h := h S13 eS13
      refine lv_bipush (v := 20) F.x F.b dX6_leave_59 (by decide) ?_
      refine lv_bipush (v := 8) F.x F.b dX6_leave_61 (by decide) ?_
      refine lv_iload_n F.x F.b dX6_leave_63 rfl (lv_at hl 2 rfl) ?_
      refine lv_imul F.x F.b dX6_leave_64 ?_
      refine lv_iadd F.x F.b dX6_leave_65 ?_
      refine lv_topi (fun x14 ex14 => ?_)
      have h := h x14 ex14
      refine lv_istore_n (lv' := [(3, .int x14), (2, .int r10), (0, .ref (ad 117)), (1, .int v1)]) F.x F.b dX6_leave_66 rfl hl (by decide) rfl (fun ls hl => ?_)
      obtain ⟨n15, h⟩ := h
      exact bX6_leave_67 F hr n15 S13 r10 x14 _ _ _ h C (lv_sub hl [2, 1, 0] rfl)
    · have h := h.2 g8
      refine lv_aload_n F.x F.b dX6_leave_28 rfl (lv_at hl 0 rfl) ?_
      refine lv_iconst (v := 2) F.x F.b dX6_leave_29 (by decide) ?_
      refine lv_iconst (v := 2) F.x F.b dX6_leave_30 (by decide) ?_
      refine lv_aload_n F.x F.b dX6_leave_31 rfl (lv_at hl 0 rfl) ?_
      refine lv_iload_n F.x F.b dX6_leave_32 rfl (lv_at hl 1 rfl) ?_
      refine lv_iconst (v := 2) F.x F.b dX6_leave_33 (by decide) ?_
      refine kI F C hl (kX6_of  h) (by decide) (ce_M _) rfl wv_X6_66 ⟨rfl, rfl, ⟨Nat.le_of_ble_eq_true rfl, Nat.le_of_ble_eq_true rfl⟩, ⟨Nat.le_of_ble_eq_true rfl, Nat.le_of_ble_eq_true rfl⟩, Nat.le_of_ble_eq_true rfl⟩ (rest := [.int (2 : Int32), .int (2 : Int32), .ref (ad 117)]) rfl dX6_leave_34 (fun r17 S16 H locs h C => ?_)
      refine kI F C hl (kX6_refuses  h) (by decide) (ce_M _) rfl wv_X6_92 ⟨rfl, rfl, ⟨Nat.le_of_ble_eq_true rfl, Nat.le_of_ble_eq_true rfl⟩, ⟨Nat.le_of_ble_eq_true rfl, Nat.le_of_ble_eq_true rfl⟩, Nat.le_of_ble_eq_true rfl⟩ (rest := []) rfl dX6_leave_37 (fun r19 S18 H locs h C => ?_)
      exact retI F hr C h dX6_leave_40
  · have h := h.2 g5
    refine lv_aload_n F.x F.b dX6_leave_12 rfl (lv_at hl 0 rfl) ?_
    refine lv_iconst (v := 1) F.x F.b dX6_leave_13 (by decide) ?_
    refine kI F C hl (kX6_raises  h) (by decide) (ce_M _) rfl wv_X6_58 ⟨rfl, rfl, ⟨Nat.le_of_ble_eq_true rfl, Nat.le_of_ble_eq_true rfl⟩, ⟨Nat.le_of_ble_eq_true rfl, Nat.le_of_ble_eq_true rfl⟩, Nat.le_of_ble_eq_true rfl⟩ (rest := []) rfl dX6_leave_14 (fun r21 S20 H locs h C => ?_)
    exact retI F hr C h dX6_leave_17

def rmX6_comesToBank : Room := { frames := 1, cells := 0, slots := 0, locals := 23 }
def mX6_comesToBank (post : Mem → Prop) (S : Mem) (v1 : Int32) (v2 : Int32) : Prop := mX6_sets (fun (S1 : Mem) => mX6_sets (fun (S3 : Mem) => mX6_sets (fun (S5 : Mem) => ((¬ v2 = (-1 : Int32) → (vp_in (5 : Int32) 84 ∧ mX6_of (fun (r10 : Int32) (S9 : Mem) => vp_in (5 : Int32) 84 ∧ ∀ S12 : Mem, S12 = wr S9 11 0 (5 : Int32).toNatClampNeg ((S5 11 0 (5 : Int32).toNatClampNeg) + r10) → mX6_sets (fun (S13 : Mem) => post S13) S12 v1 (7 : Int32) (0 : Int32)) S5 v1 (7 : Int32))) ∧ (v2 = (-1 : Int32) → (vp_in (4 : Int32) 84 ∧ mX6_of (fun (r17 : Int32) (S16 : Mem) => vp_in (4 : Int32) 84 ∧ ∀ S19 : Mem, S19 = wr S16 11 0 (4 : Int32).toNatClampNeg ((S5 11 0 (4 : Int32).toNatClampNeg) + r17) → mX6_sets (fun (S20 : Mem) => post S20) S19 v1 (7 : Int32) (0 : Int32)) S5 v1 (7 : Int32))))) S3 v1 (5 : Int32) (0 : Int32)) S1 v1 (3 : Int32) (0 : Int32)) S v1 (2 : Int32) v2
set_option maxRecDepth 100000 in
set_option maxHeartbeats 4000000 in
theorem kX6_comesToBank {l : Launch} {D : va_G} {ky : Nat → ClassId} {ad : Nat → Nat} {ex : Nat → Nat → Nat} {post : Mem → Prop} {S : Mem} {v1 : Int32} {v2 : Int32} (h : mX6_comesToBank post S v1 v2) : CMv l D ky ad ex yX6_comesToBank cX6_comesToBank 3 none rmX6_comesToBank 0 0 [.ref (ad 117), .int v1, .int v2] S post := by
  refine CMv.of (by decide) (Nat.le_of_ble_eq_true rfl) (fun p e s m args below meth c ls F hr C hl => ?_)
  have hl : lv_has ls 3 [(0, .ref (ad 117)), (1, .int v1), (2, .int v2)] := hl
  unfold mX6_comesToBank at h
  refine lv_aload_n F.x F.b dX6_comesToBank_0 rfl (lv_at hl 0 rfl) ?_
  refine lv_iload_n F.x F.b dX6_comesToBank_1 rfl (lv_at hl 1 rfl) ?_
  refine lv_iconst (v := 2) F.x F.b dX6_comesToBank_2 (by decide) ?_
  refine lv_iload_n F.x F.b dX6_comesToBank_3 rfl (lv_at hl 2 rfl) ?_
  refine kV F C hl (kX6_sets  h) (by decide) (ce_M _) rfl wv_X6_78 ⟨rfl, rfl, ⟨Nat.le_of_ble_eq_true rfl, Nat.le_of_ble_eq_true rfl⟩, ⟨Nat.le_of_ble_eq_true rfl, Nat.le_of_ble_eq_true rfl⟩, Nat.le_of_ble_eq_true rfl⟩ (rest := []) rfl dX6_comesToBank_4 (fun S1 H locs h C => ?_)
  refine lv_aload_n F.x F.b dX6_comesToBank_7 rfl (lv_at hl 0 rfl) ?_
  refine lv_iload_n F.x F.b dX6_comesToBank_8 rfl (lv_at hl 1 rfl) ?_
  refine lv_iconst (v := 3) F.x F.b dX6_comesToBank_9 (by decide) ?_
  refine lv_iconst (v := 0) F.x F.b dX6_comesToBank_10 (by decide) ?_
  refine kV F C hl (kX6_sets  h) (by decide) (ce_M _) rfl wv_X6_78 ⟨rfl, rfl, ⟨Nat.le_of_ble_eq_true rfl, Nat.le_of_ble_eq_true rfl⟩, ⟨Nat.le_of_ble_eq_true rfl, Nat.le_of_ble_eq_true rfl⟩, Nat.le_of_ble_eq_true rfl⟩ (rest := []) rfl dX6_comesToBank_11 (fun S3 H locs h C => ?_)
  refine lv_aload_n F.x F.b dX6_comesToBank_14 rfl (lv_at hl 0 rfl) ?_
  refine lv_iload_n F.x F.b dX6_comesToBank_15 rfl (lv_at hl 1 rfl) ?_
  refine lv_iconst (v := 5) F.x F.b dX6_comesToBank_16 (by decide) ?_
  refine lv_iconst (v := 0) F.x F.b dX6_comesToBank_17 (by decide) ?_
  refine kV F C hl (kX6_sets  h) (by decide) (ce_M _) rfl wv_X6_78 ⟨rfl, rfl, ⟨Nat.le_of_ble_eq_true rfl, Nat.le_of_ble_eq_true rfl⟩, ⟨Nat.le_of_ble_eq_true rfl, Nat.le_of_ble_eq_true rfl⟩, Nat.le_of_ble_eq_true rfl⟩ (rest := []) rfl dX6_comesToBank_18 (fun S5 H locs h C => ?_)
  refine lv_iload_n F.x F.b dX6_comesToBank_21 rfl (lv_at hl 2 rfl) ?_
  refine lv_iconst (v := -1) F.x F.b dX6_comesToBank_22 (by decide) ?_
  refine lv_icmp_ne (tgt := 45) F.x F.b dX6_comesToBank_23 (by decide) (fun g7 => ?_) (fun g7 => ?_)
  · have h := h.1 g7
    refine lv_aload_n F.x F.b dX6_comesToBank_45 rfl (lv_at hl 0 rfl) ?_
    refine getM F C 0 (by decide) q4_222 (v := .ref (ad 118)) rfl dX6_comesToBank_46 ?_
    refine lv_iconst (v := 5) F.x F.b dX6_comesToBank_49 (by decide) ?_
    refine lv_dup2_11 F.x F.b dX6_comesToBank_50 rfl rfl ?_
    obtain ⟨g8, h⟩ := h
    refine aldI F C (o := 118) (cq := 11) (iq := 0) (by decide) rfl rfl rfl g8 dX6_comesToBank_51 ?_
    refine lv_aload_n F.x F.b dX6_comesToBank_52 rfl (lv_at hl 0 rfl) ?_
    refine lv_iload_n F.x F.b dX6_comesToBank_53 rfl (lv_at hl 1 rfl) ?_
    refine lv_bipush (v := 7) F.x F.b dX6_comesToBank_54 (by decide) ?_
    refine kI F C hl (kX6_of  h) (by decide) (ce_M _) rfl wv_X6_66 ⟨rfl, rfl, ⟨Nat.le_of_ble_eq_true rfl, Nat.le_of_ble_eq_true rfl⟩, ⟨Nat.le_of_ble_eq_true rfl, Nat.le_of_ble_eq_true rfl⟩, Nat.le_of_ble_eq_true rfl⟩ (rest := [.int (S5 11 0 (5 : Int32).toNatClampNeg), .int (5 : Int32), .ref (ad 118)]) rfl dX6_comesToBank_56 (fun r10 S9 H locs h C => ?_)
    refine lv_iadd F.x F.b dX6_comesToBank_59 ?_
    obtain ⟨g11, h⟩ := h
    refine astI F C (o := 118) (cq := 11) (iq := 0) (by decide) rfl rfl (fun _ => rfl) g11 dX6_comesToBank_60 (fun H locs C => ?_)
    obtain ⟨S12, eS12⟩ : ∃ z : Mem, z = wr S9 11 0 (5 : Int32).toNatClampNeg ((S5 11 0 (5 : Int32).toNatClampNeg) + r10) := ⟨_, rfl⟩
    rw [← eS12] at C
    have h := h S12 eS12
    refine lv_aload_n F.x F.b dX6_comesToBank_61 rfl (lv_at hl 0 rfl) ?_
    refine lv_iload_n F.x F.b dX6_comesToBank_62 rfl (lv_at hl 1 rfl) ?_
    refine lv_bipush (v := 7) F.x F.b dX6_comesToBank_63 (by decide) ?_
    refine lv_iconst (v := 0) F.x F.b dX6_comesToBank_65 (by decide) ?_
    refine kV F C hl (kX6_sets  h) (by decide) (ce_M _) rfl wv_X6_78 ⟨rfl, rfl, ⟨Nat.le_of_ble_eq_true rfl, Nat.le_of_ble_eq_true rfl⟩, ⟨Nat.le_of_ble_eq_true rfl, Nat.le_of_ble_eq_true rfl⟩, Nat.le_of_ble_eq_true rfl⟩ (rest := []) rfl dX6_comesToBank_66 (fun S13 H locs h C => ?_)
    exact retV F hr C h dX6_comesToBank_69
  · have h := h.2 g7
    refine lv_aload_n F.x F.b dX6_comesToBank_26 rfl (lv_at hl 0 rfl) ?_
    refine getM F C 0 (by decide) q4_222 (v := .ref (ad 118)) rfl dX6_comesToBank_27 ?_
    refine lv_iconst (v := 4) F.x F.b dX6_comesToBank_30 (by decide) ?_
    refine lv_dup2_11 F.x F.b dX6_comesToBank_31 rfl rfl ?_
    obtain ⟨g15, h⟩ := h
    refine aldI F C (o := 118) (cq := 11) (iq := 0) (by decide) rfl rfl rfl g15 dX6_comesToBank_32 ?_
    refine lv_aload_n F.x F.b dX6_comesToBank_33 rfl (lv_at hl 0 rfl) ?_
    refine lv_iload_n F.x F.b dX6_comesToBank_34 rfl (lv_at hl 1 rfl) ?_
    refine lv_bipush (v := 7) F.x F.b dX6_comesToBank_35 (by decide) ?_
    refine kI F C hl (kX6_of  h) (by decide) (ce_M _) rfl wv_X6_66 ⟨rfl, rfl, ⟨Nat.le_of_ble_eq_true rfl, Nat.le_of_ble_eq_true rfl⟩, ⟨Nat.le_of_ble_eq_true rfl, Nat.le_of_ble_eq_true rfl⟩, Nat.le_of_ble_eq_true rfl⟩ (rest := [.int (S5 11 0 (4 : Int32).toNatClampNeg), .int (4 : Int32), .ref (ad 118)]) rfl dX6_comesToBank_37 (fun r17 S16 H locs h C => ?_)
    refine lv_iadd F.x F.b dX6_comesToBank_40 ?_
    obtain ⟨g18, h⟩ := h
    refine astI F C (o := 118) (cq := 11) (iq := 0) (by decide) rfl rfl (fun _ => rfl) g18 dX6_comesToBank_41 (fun H locs C => ?_)
    obtain ⟨S19, eS19⟩ : ∃ z : Mem, z = wr S16 11 0 (4 : Int32).toNatClampNeg ((S5 11 0 (4 : Int32).toNatClampNeg) + r17) := ⟨_, rfl⟩
    rw [← eS19] at C
    have h := h S19 eS19
    refine lv_goto (tgt := 61) F.x F.b dX6_comesToBank_42 (by decide) ?_
    refine lv_aload_n F.x F.b dX6_comesToBank_61 rfl (lv_at hl 0 rfl) ?_
    refine lv_iload_n F.x F.b dX6_comesToBank_62 rfl (lv_at hl 1 rfl) ?_
    refine lv_bipush (v := 7) F.x F.b dX6_comesToBank_63 (by decide) ?_
    refine lv_iconst (v := 0) F.x F.b dX6_comesToBank_65 (by decide) ?_
    refine kV F C hl (kX6_sets  h) (by decide) (ce_M _) rfl wv_X6_78 ⟨rfl, rfl, ⟨Nat.le_of_ble_eq_true rfl, Nat.le_of_ble_eq_true rfl⟩, ⟨Nat.le_of_ble_eq_true rfl, Nat.le_of_ble_eq_true rfl⟩, Nat.le_of_ble_eq_true rfl⟩ (rest := []) rfl dX6_comesToBank_66 (fun S20 H locs h C => ?_)
    exact retV F hr C h dX6_comesToBank_69

def rmX6_goesBack : Room := { frames := 2, cells := 0, slots := 0, locals := 45 }
def mX6_goesBack_b46 (post : Mem → Prop) (S : Mem) (v1 : Int32) (v3 : Int32) : Prop := mX6_wets (fun (S1 : Mem) => vp_in (9 : Int32) 84 ∧ vp_in (9 : Int32) 84 ∧ ∀ S5 : Mem, S5 = wr S1 11 0 (9 : Int32).toNatClampNeg ((S1 11 0 (9 : Int32).toNatClampNeg) + (1 : Int32)) → mX6_isStone (fun (r7 : Int32) (S6 : Mem) => ((r7 = 0 → (mX6_comesToBank (fun (S9 : Mem) => post S9) S6 v1 v3)) ∧ (¬ r7 = 0 → (mX6_sets (fun (S11 : Mem) => post S11) S6 v1 (2 : Int32) v3)))) S5 v3) S v1 (5 : Int32)
def mX6_goesBack_b23 (post : Mem → Prop) : Nat → Mem → Int32 → Int32 → Int32 → Prop
  | 0, _, _, _, _ => False
  | n + 1, S, v1, v2, v3 => mX6_isStone (fun (r2 : Int32) (S1 : Mem) => ((r2 = 0 → (mX6_goesBack_b46 post S1 v1 v3)) ∧ (¬ r2 = 0 → (mX6_state (fun (r5 : Int32) (S4 : Mem) => ((¬ r5 = (2 : Int32) → (mX6_goesBack_b46 post S4 v1 v3)) ∧ (r5 = (2 : Int32) → (∀ x7 : Int32, x7 = (v3 + v2) → mX6_goesBack_b23 post n S4 v1 v2 x7)))) S1 v3)))) S v3
def mX6_goesBack_b15 (post : Mem → Prop) (S : Mem) (v1 : Int32) (vt0 : Int32) : Prop := mX6_of (fun (r2 : Int32) (S1 : Mem) => ∃ fu : Nat, mX6_goesBack_b23 post fu S1 v1 vt0 r2) S v1 (2 : Int32)
def mX6_goesBack (post : Mem → Prop) (S : Mem) (v1 : Int32) : Prop := mX6_of (fun (r2 : Int32) (S1 : Mem) => ((¬ r2 = (1 : Int32) → (mX6_goesBack_b15 post S1 v1 (1 : Int32))) ∧ (r2 = (1 : Int32) → (mX6_goesBack_b15 post S1 v1 (-1 : Int32))))) S v1 (4 : Int32)
set_option maxRecDepth 100000 in
set_option maxHeartbeats 4000000 in
theorem bX6_goesBack_46 {p : Program} {l : Launch} {e : Env} {s : State} {m : MethodId} {args : Array Value} {below : List Frame} {meth : Method} {c : Code} {D : va_G} {ky : Nat → ClassId} {ad : Nat → Nat} {ex : Nat → Nat → Nat} (F : Fx p s m args meth c D ky ad ex cX6_goesBack 4 yX6_goesBack.cls) (hr : meth.sig.returnType = none) {post : Mem → Prop} : ∀ (S : Mem) (v1 : Int32) (v3 : Int32) (H : Heap) (locs : List Loc) (ls : Array Slot), mX6_goesBack_b46 post S v1 v3 → Cx D ky ad s S H locs → lv_has ls 4 [(0, .ref (ad 117)), (1, .int v1), (3, .int v3)] → W p l e rmX6_goesBack s m args below meth c H locs 0 0 (MQ below (va_Qv post (AFT D ky ad) (AW ad s.heap.size)) args s 0 0 (AW ad s.heap.size)) (F0 m 46 ls []) := by
  intro S v1 v3 H locs ls  h C hl
  unfold mX6_goesBack_b46 at h
  refine lv_aload_n F.x F.b dX6_goesBack_46 rfl (lv_at hl 0 rfl) ?_
  refine lv_iload_n F.x F.b dX6_goesBack_47 rfl (lv_at hl 1 rfl) ?_
  refine lv_iconst (v := 5) F.x F.b dX6_goesBack_48 (by decide) ?_
  refine kV F C hl (kX6_wets  h) (by decide) (ce_M _) rfl wv_X6_130 ⟨rfl, rfl, ⟨Nat.le_of_ble_eq_true rfl, Nat.le_of_ble_eq_true rfl⟩, ⟨Nat.le_of_ble_eq_true rfl, Nat.le_of_ble_eq_true rfl⟩, Nat.le_of_ble_eq_true rfl⟩ (rest := []) rfl dX6_goesBack_49 (fun S1 H locs h C => ?_)
  refine lv_aload_n F.x F.b dX6_goesBack_52 rfl (lv_at hl 0 rfl) ?_
  refine getM F C 0 (by decide) q4_222 (v := .ref (ad 118)) rfl dX6_goesBack_53 ?_
  refine lv_bipush (v := 9) F.x F.b dX6_goesBack_56 (by decide) ?_
  refine lv_dup2_11 F.x F.b dX6_goesBack_58 rfl rfl ?_
  obtain ⟨g3, h⟩ := h
  refine aldI F C (o := 118) (cq := 11) (iq := 0) (by decide) rfl rfl rfl g3 dX6_goesBack_59 ?_
  refine lv_iconst (v := 1) F.x F.b dX6_goesBack_60 (by decide) ?_
  refine lv_iadd F.x F.b dX6_goesBack_61 ?_
  obtain ⟨g4, h⟩ := h
  refine astI F C (o := 118) (cq := 11) (iq := 0) (by decide) rfl rfl (fun _ => rfl) g4 dX6_goesBack_62 (fun H locs C => ?_)
  obtain ⟨S5, eS5⟩ : ∃ z : Mem, z = wr S1 11 0 (9 : Int32).toNatClampNeg ((S1 11 0 (9 : Int32).toNatClampNeg) + (1 : Int32)) := ⟨_, rfl⟩
  rw [← eS5] at C
  have h := h S5 eS5
  refine lv_iload_n F.x F.b dX6_goesBack_63 rfl (lv_at hl 2 rfl) ?_
  refine kSI F C hl (kX6_isStone  h) wv_X6_85 ⟨rfl, rfl, ⟨Nat.le_of_ble_eq_true rfl, Nat.le_of_ble_eq_true rfl⟩, ⟨Nat.le_of_ble_eq_true rfl, Nat.le_of_ble_eq_true rfl⟩, Nat.le_of_ble_eq_true rfl⟩ (rest := []) rfl dX6_goesBack_64 (fun r7 S6 H locs h C => ?_)
  refine lv_if_eq (tgt := 80) F.x F.b dX6_goesBack_67 (by decide) (fun g8 => ?_) (fun g8 => ?_)
  · have h := h.1 g8
    refine lv_aload_n F.x F.b dX6_goesBack_80 rfl (lv_at hl 0 rfl) ?_
    refine lv_iload_n F.x F.b dX6_goesBack_81 rfl (lv_at hl 1 rfl) ?_
    refine lv_iload_n F.x F.b dX6_goesBack_82 rfl (lv_at hl 2 rfl) ?_
    refine kV F C hl (kX6_comesToBank  h) (by decide) (ce_M _) rfl wv_X6_134 ⟨rfl, rfl, ⟨Nat.le_of_ble_eq_true rfl, Nat.le_of_ble_eq_true rfl⟩, ⟨Nat.le_of_ble_eq_true rfl, Nat.le_of_ble_eq_true rfl⟩, Nat.le_of_ble_eq_true rfl⟩ (rest := []) rfl dX6_goesBack_83 (fun S9 H locs h C => ?_)
    exact retV F hr C h dX6_goesBack_86
  · have h := h.2 g8
    refine lv_aload_n F.x F.b dX6_goesBack_70 rfl (lv_at hl 0 rfl) ?_
    refine lv_iload_n F.x F.b dX6_goesBack_71 rfl (lv_at hl 1 rfl) ?_
    refine lv_iconst (v := 2) F.x F.b dX6_goesBack_72 (by decide) ?_
    refine lv_iload_n F.x F.b dX6_goesBack_73 rfl (lv_at hl 2 rfl) ?_
    refine kV F C hl (kX6_sets  h) (by decide) (ce_M _) rfl wv_X6_78 ⟨rfl, rfl, ⟨Nat.le_of_ble_eq_true rfl, Nat.le_of_ble_eq_true rfl⟩, ⟨Nat.le_of_ble_eq_true rfl, Nat.le_of_ble_eq_true rfl⟩, Nat.le_of_ble_eq_true rfl⟩ (rest := []) rfl dX6_goesBack_74 (fun S11 H locs h C => ?_)
    refine lv_goto (tgt := 86) F.x F.b dX6_goesBack_77 (by decide) ?_
    exact retV F hr C h dX6_goesBack_86
set_option maxRecDepth 100000 in
set_option maxHeartbeats 4000000 in
theorem bX6_goesBack_23 {p : Program} {l : Launch} {e : Env} {s : State} {m : MethodId} {args : Array Value} {below : List Frame} {meth : Method} {c : Code} {D : va_G} {ky : Nat → ClassId} {ad : Nat → Nat} {ex : Nat → Nat → Nat} (F : Fx p s m args meth c D ky ad ex cX6_goesBack 4 yX6_goesBack.cls) (hr : meth.sig.returnType = none) {post : Mem → Prop} : ∀ (n : Nat) (S : Mem) (v1 : Int32) (v2 : Int32) (v3 : Int32) (H : Heap) (locs : List Loc) (ls : Array Slot), mX6_goesBack_b23 post n S v1 v2 v3 → Cx D ky ad s S H locs → lv_has ls 4 [(0, .ref (ad 117)), (1, .int v1), (2, .int v2), (3, .int v3)] → W p l e rmX6_goesBack s m args below meth c H locs 0 0 (MQ below (va_Qv post (AFT D ky ad) (AW ad s.heap.size)) args s 0 0 (AW ad s.heap.size)) (F0 m 23 ls []) := by
  intro n
  induction n with
  | zero =>
    intro S v1 v2 v3 H locs ls  h
    exact False.elim h
  | succ n ih =>
    intro S v1 v2 v3 H locs ls  h C hl
    refine lv_iload_n F.x F.b dX6_goesBack_23 rfl (lv_at hl 3 rfl) ?_
    refine kSI F C hl (kX6_isStone  h) wv_X6_85 ⟨rfl, rfl, ⟨Nat.le_of_ble_eq_true rfl, Nat.le_of_ble_eq_true rfl⟩, ⟨Nat.le_of_ble_eq_true rfl, Nat.le_of_ble_eq_true rfl⟩, Nat.le_of_ble_eq_true rfl⟩ (rest := []) rfl dX6_goesBack_24 (fun r2 S1 H locs h C => ?_)
    refine lv_if_eq (tgt := 46) F.x F.b dX6_goesBack_27 (by decide) (fun g3 => ?_) (fun g3 => ?_)
    · have h := h.1 g3
      exact bX6_goesBack_46 F hr S1 v1 v3 _ _ _ h C (lv_sub hl [0, 1, 3] rfl)
    · have h := h.2 g3
      refine lv_aload_n F.x F.b dX6_goesBack_30 rfl (lv_at hl 0 rfl) ?_
      refine lv_iload_n F.x F.b dX6_goesBack_31 rfl (lv_at hl 3 rfl) ?_
      refine kI F C hl (kX6_state  h) (by decide) (ce_M _) rfl wv_X6_99 ⟨rfl, rfl, ⟨Nat.le_of_ble_eq_true rfl, Nat.le_of_ble_eq_true rfl⟩, ⟨Nat.le_of_ble_eq_true rfl, Nat.le_of_ble_eq_true rfl⟩, Nat.le_of_ble_eq_true rfl⟩ (rest := []) rfl dX6_goesBack_32 (fun r5 S4 H locs h C => ?_)
      refine lv_iconst (v := 2) F.x F.b dX6_goesBack_35 (by decide) ?_
      refine lv_icmp_ne (tgt := 46) F.x F.b dX6_goesBack_36 (by decide) (fun g6 => ?_) (fun g6 => ?_)
      · have h := h.1 g6
        exact bX6_goesBack_46 F hr S4 v1 v3 _ _ _ h C (lv_sub hl [0, 1, 3] rfl)
      · have h := h.2 g6
        refine lv_iload_n F.x F.b dX6_goesBack_39 rfl (lv_at hl 3 rfl) ?_
        refine lv_iload_n F.x F.b dX6_goesBack_40 rfl (lv_at hl 2 rfl) ?_
        refine lv_iadd F.x F.b dX6_goesBack_41 ?_
        refine lv_topi (fun x7 ex7 => ?_)
        have h := h x7 ex7
        refine lv_istore_n (lv' := [(3, .int x7), (0, .ref (ad 117)), (1, .int v1), (2, .int v2)]) F.x F.b dX6_goesBack_42 rfl hl (by decide) rfl (fun ls hl => ?_)
        refine lv_goto (tgt := 23) F.x F.b dX6_goesBack_43 (by decide) ?_
        exact ih S4 v1 v2 x7 _ _ _ h C (lv_sub hl [1, 2, 3, 0] rfl)
set_option maxRecDepth 100000 in
set_option maxHeartbeats 4000000 in
theorem bX6_goesBack_15 {p : Program} {l : Launch} {e : Env} {s : State} {m : MethodId} {args : Array Value} {below : List Frame} {meth : Method} {c : Code} {D : va_G} {ky : Nat → ClassId} {ad : Nat → Nat} {ex : Nat → Nat → Nat} (F : Fx p s m args meth c D ky ad ex cX6_goesBack 4 yX6_goesBack.cls) (hr : meth.sig.returnType = none) {post : Mem → Prop} : ∀ (S : Mem) (v1 : Int32) (vt0 : Int32) (H : Heap) (locs : List Loc) (ls : Array Slot), mX6_goesBack_b15 post S v1 vt0 → Cx D ky ad s S H locs → lv_has ls 4 [(0, .ref (ad 117)), (1, .int v1)] → W p l e rmX6_goesBack s m args below meth c H locs 0 0 (MQ below (va_Qv post (AFT D ky ad) (AW ad s.heap.size)) args s 0 0 (AW ad s.heap.size)) (F0 m 15 ls [.int vt0]) := by
  intro S v1 vt0 H locs ls  h C hl
  unfold mX6_goesBack_b15 at h
  refine lv_istore_n (lv' := [(2, .int vt0), (0, .ref (ad 117)), (1, .int v1)]) F.x F.b dX6_goesBack_15 rfl hl (by decide) rfl (fun ls hl => ?_)
  refine lv_aload_n F.x F.b dX6_goesBack_16 rfl (lv_at hl 1 rfl) ?_
  refine lv_iload_n F.x F.b dX6_goesBack_17 rfl (lv_at hl 2 rfl) ?_
  refine lv_iconst (v := 2) F.x F.b dX6_goesBack_18 (by decide) ?_
  refine kI F C hl (kX6_of  h) (by decide) (ce_M _) rfl wv_X6_66 ⟨rfl, rfl, ⟨Nat.le_of_ble_eq_true rfl, Nat.le_of_ble_eq_true rfl⟩, ⟨Nat.le_of_ble_eq_true rfl, Nat.le_of_ble_eq_true rfl⟩, Nat.le_of_ble_eq_true rfl⟩ (rest := []) rfl dX6_goesBack_19 (fun r2 S1 H locs h C => ?_)
  refine lv_istore_n (lv' := [(3, .int r2), (2, .int vt0), (0, .ref (ad 117)), (1, .int v1)]) F.x F.b dX6_goesBack_22 rfl hl (by decide) rfl (fun ls hl => ?_)
  obtain ⟨n3, h⟩ := h
  exact bX6_goesBack_23 F hr n3 S1 v1 vt0 r2 _ _ _ h C (lv_sub hl [2, 3, 1, 0] rfl)
set_option maxRecDepth 100000 in
set_option maxHeartbeats 4000000 in
theorem kX6_goesBack {l : Launch} {D : va_G} {ky : Nat → ClassId} {ad : Nat → Nat} {ex : Nat → Nat → Nat} {post : Mem → Prop} {S : Mem} {v1 : Int32} (h : mX6_goesBack post S v1) : CMv l D ky ad ex yX6_goesBack cX6_goesBack 4 none rmX6_goesBack 0 0 [.ref (ad 117), .int v1] S post := by
  refine CMv.of (by decide) (Nat.le_of_ble_eq_true rfl) (fun p e s m args below meth c ls F hr C hl => ?_)
  have hl : lv_has ls 4 [(0, .ref (ad 117)), (1, .int v1)] := hl
  unfold mX6_goesBack at h
  refine lv_aload_n F.x F.b dX6_goesBack_0 rfl (lv_at hl 0 rfl) ?_
  refine lv_iload_n F.x F.b dX6_goesBack_1 rfl (lv_at hl 1 rfl) ?_
  refine lv_iconst (v := 4) F.x F.b dX6_goesBack_2 (by decide) ?_
  refine kI F C hl (kX6_of  h) (by decide) (ce_M _) rfl wv_X6_66 ⟨rfl, rfl, ⟨Nat.le_of_ble_eq_true rfl, Nat.le_of_ble_eq_true rfl⟩, ⟨Nat.le_of_ble_eq_true rfl, Nat.le_of_ble_eq_true rfl⟩, Nat.le_of_ble_eq_true rfl⟩ (rest := []) rfl dX6_goesBack_3 (fun r2 S1 H locs h C => ?_)
  refine lv_iconst (v := 1) F.x F.b dX6_goesBack_6 (by decide) ?_
  refine lv_icmp_ne (tgt := 14) F.x F.b dX6_goesBack_7 (by decide) (fun g3 => ?_) (fun g3 => ?_)
  · have h := h.1 g3
    refine lv_iconst (v := 1) F.x F.b dX6_goesBack_14 (by decide) ?_
    exact bX6_goesBack_15 F hr S1 v1 (1 : Int32) _ _ _ h C (lv_sub hl [0, 1] rfl)
  · have h := h.2 g3
    refine lv_iconst (v := -1) F.x F.b dX6_goesBack_10 (by decide) ?_
    refine lv_goto (tgt := 15) F.x F.b dX6_goesBack_11 (by decide) ?_
    exact bX6_goesBack_15 F hr S1 v1 (-1 : Int32) _ _ _ h C (lv_sub hl [0, 1] rfl)

def rmX6_can : Room := { frames := 2, cells := 0, slots := 0, locals := 42 }
def mX6_can (post : Int32 → Mem → Prop) (S : Mem) (v1 : Int32) (v2 : Int32) (v3 : Int32) : Prop := mX6_state (fun (r2 : Int32) (S1 : Mem) => ((¬ r2 = (2 : Int32) → (((¬ v1 = (2 : Int32) → (((v1 = 0 → (post (1 : Int32) S1)) ∧ (¬ v1 = 0 → (((r2 = 0 → (post (1 : Int32) S1)) ∧ (¬ r2 = 0 → (mX6_isStone (fun (r8 : Int32) (S7 : Mem) => ((r8 = 0 → (post (1 : Int32) S7)) ∧ (¬ r8 = 0 → (vp_in ((10 : Int32) + v3) 84 ∧ vp_in ((10 : Int32) + v2) 84 ∧ (((S7 11 0 (((10 : Int32) + v3)).toNatClampNeg) < (S7 11 0 (((10 : Int32) + v2)).toNatClampNeg) → (post (0 : Int32) S7)) ∧ (¬ (S7 11 0 (((10 : Int32) + v3)).toNatClampNeg) < (S7 11 0 (((10 : Int32) + v2)).toNatClampNeg) → (post (1 : Int32) S7))))))) S1 v2)))))))) ∧ (v1 = (2 : Int32) → (((¬ r2 = 0 → (post (0 : Int32) S1)) ∧ (r2 = 0 → (post (1 : Int32) S1)))))))) ∧ (r2 = (2 : Int32) → (post (0 : Int32) S1)))) S v3
set_option maxRecDepth 100000 in
set_option maxHeartbeats 4000000 in
theorem kX6_can {l : Launch} {D : va_G} {ky : Nat → ClassId} {ad : Nat → Nat} {ex : Nat → Nat → Nat} {post : Int32 → Mem → Prop} {S : Mem} {v1 : Int32} {v2 : Int32} {v3 : Int32} (h : mX6_can post S v1 v2 v3) : CMi l D ky ad ex yX6_can cX6_can 5 (some .boolean) rmX6_can 0 0 [.ref (ad 117), .int v1, .int v2, .int v3] S post := by
  refine CMi.of (by decide) (Nat.le_of_ble_eq_true rfl) (fun p e s m args below meth c ls F hr C hl => ?_)
  have hl : lv_has ls 5 [(0, .ref (ad 117)), (1, .int v1), (2, .int v2), (3, .int v3)] := hl
  unfold mX6_can at h
  refine lv_aload_n F.x F.b dX6_can_0 rfl (lv_at hl 0 rfl) ?_
  refine lv_iload_n F.x F.b dX6_can_1 rfl (lv_at hl 3 rfl) ?_
  refine kI F C hl (kX6_state  h) (by decide) (ce_M _) rfl wv_X6_99 ⟨rfl, rfl, ⟨Nat.le_of_ble_eq_true rfl, Nat.le_of_ble_eq_true rfl⟩, ⟨Nat.le_of_ble_eq_true rfl, Nat.le_of_ble_eq_true rfl⟩, Nat.le_of_ble_eq_true rfl⟩ (rest := []) rfl dX6_can_2 (fun r2 S1 H locs h C => ?_)
  refine lv_istore (lv' := [(4, .int r2), (0, .ref (ad 117)), (1, .int v1), (2, .int v2), (3, .int v3)]) F.x F.b dX6_can_5 hl (by decide) rfl (fun ls hl => ?_)
  refine lv_iload F.x F.b dX6_can_7 (lv_at hl 0 rfl) ?_
  refine lv_iconst (v := 2) F.x F.b dX6_can_9 (by decide) ?_
  refine lv_icmp_ne (tgt := 15) F.x F.b dX6_can_10 (by decide) (fun g3 => ?_) (fun g3 => ?_)
  · have h := h.1 g3
    refine lv_iload_n F.x F.b dX6_can_15 rfl (lv_at hl 2 rfl) ?_
    refine lv_iconst (v := 2) F.x F.b dX6_can_16 (by decide) ?_
    refine lv_icmp_ne (tgt := 31) F.x F.b dX6_can_17 (by decide) (fun g4 => ?_) (fun g4 => ?_)
    · have h := h.1 g4
      refine lv_iload_n F.x F.b dX6_can_31 rfl (lv_at hl 2 rfl) ?_
      refine lv_if_eq (tgt := 68) F.x F.b dX6_can_32 (by decide) (fun g5 => ?_) (fun g5 => ?_)
      · have h := h.1 g5
        refine lv_iconst (v := 1) F.x F.b dX6_can_68 (by decide) ?_
        refine lv_goto (tgt := 73) F.x F.b dX6_can_69 (by decide) ?_
        exact retZ F hr C rfl h dX6_can_73
      · have h := h.2 g5
        refine lv_iload F.x F.b dX6_can_35 (lv_at hl 0 rfl) ?_
        refine lv_if_eq (tgt := 68) F.x F.b dX6_can_37 (by decide) (fun g6 => ?_) (fun g6 => ?_)
        · have h := h.1 g6
          refine lv_iconst (v := 1) F.x F.b dX6_can_68 (by decide) ?_
          refine lv_goto (tgt := 73) F.x F.b dX6_can_69 (by decide) ?_
          exact retZ F hr C rfl h dX6_can_73
        · have h := h.2 g6
          refine lv_iload_n F.x F.b dX6_can_40 rfl (lv_at hl 3 rfl) ?_
          refine kSI F C hl (kX6_isStone  h) wv_X6_85 ⟨rfl, rfl, ⟨Nat.le_of_ble_eq_true rfl, Nat.le_of_ble_eq_true rfl⟩, ⟨Nat.le_of_ble_eq_true rfl, Nat.le_of_ble_eq_true rfl⟩, Nat.le_of_ble_eq_true rfl⟩ (rest := []) rfl dX6_can_41 (fun r8 S7 H locs h C => ?_)
          refine lv_if_eq (tgt := 68) F.x F.b dX6_can_44 (by decide) (fun g9 => ?_) (fun g9 => ?_)
          · have h := h.1 g9
            refine lv_iconst (v := 1) F.x F.b dX6_can_68 (by decide) ?_
            refine lv_goto (tgt := 73) F.x F.b dX6_can_69 (by decide) ?_
            exact retZ F hr C rfl h dX6_can_73
          · have h := h.2 g9
            refine lv_aload_n F.x F.b dX6_can_47 rfl (lv_at hl 1 rfl) ?_
            refine getM F C 0 (by decide) q4_222 (v := .ref (ad 118)) rfl dX6_can_48 ?_
            refine lv_bipush (v := 10) F.x F.b dX6_can_51 (by decide) ?_
            refine lv_iload_n F.x F.b dX6_can_53 rfl (lv_at hl 4 rfl) ?_
            refine lv_iadd F.x F.b dX6_can_54 ?_
            obtain ⟨g10, h⟩ := h
            refine aldI F C (o := 118) (cq := 11) (iq := 0) (by decide) rfl rfl rfl g10 dX6_can_55 ?_
            refine lv_aload_n F.x F.b dX6_can_56 rfl (lv_at hl 1 rfl) ?_
            refine getM F C 0 (by decide) q4_222 (v := .ref (ad 118)) rfl dX6_can_57 ?_
            refine lv_bipush (v := 10) F.x F.b dX6_can_60 (by decide) ?_
            refine lv_iload_n F.x F.b dX6_can_62 rfl (lv_at hl 3 rfl) ?_
            refine lv_iadd F.x F.b dX6_can_63 ?_
            obtain ⟨g11, h⟩ := h
            refine aldI F C (o := 118) (cq := 11) (iq := 0) (by decide) rfl rfl rfl g11 dX6_can_64 ?_
            refine lv_icmp_lt (tgt := 72) F.x F.b dX6_can_65 (by decide) (fun g12 => ?_) (fun g12 => ?_)
            · have h := h.1 g12
              refine lv_iconst (v := 0) F.x F.b dX6_can_72 (by decide) ?_
              exact retZ F hr C rfl h dX6_can_73
            · have h := h.2 g12
              refine lv_iconst (v := 1) F.x F.b dX6_can_68 (by decide) ?_
              refine lv_goto (tgt := 73) F.x F.b dX6_can_69 (by decide) ?_
              exact retZ F hr C rfl h dX6_can_73
    · have h := h.2 g4
      refine lv_iload F.x F.b dX6_can_20 (lv_at hl 0 rfl) ?_
      refine lv_if_ne (tgt := 29) F.x F.b dX6_can_22 (by decide) (fun g13 => ?_) (fun g13 => ?_)
      · have h := h.1 g13
        refine lv_iconst (v := 0) F.x F.b dX6_can_29 (by decide) ?_
        exact retZ F hr C rfl h dX6_can_30
      · have h := h.2 g13
        refine lv_iconst (v := 1) F.x F.b dX6_can_25 (by decide) ?_
        refine lv_goto (tgt := 30) F.x F.b dX6_can_26 (by decide) ?_
        exact retZ F hr C rfl h dX6_can_30
  · have h := h.2 g3
    refine lv_iconst (v := 0) F.x F.b dX6_can_13 (by decide) ?_
    exact retZ F hr C rfl h dX6_can_14

def rmX6_steps : Room := { frames := 3, cells := 0, slots := 0, locals := 66 }
def mX6_steps_b23 (post : Int32 → Mem → Prop) (S : Mem) (v1 : Int32) (v2 : Int32) (vt0 : Int32) (vt1 : Int32) : Prop := ∀ x1 : Int32, x1 = (vt1 + vt0) → mX6_isStone (fun (r3 : Int32) (S2 : Mem) => ((¬ r3 = 0 → (mX6_kind (fun (r6 : Int32) (S5 : Mem) => mX6_can (fun (r8 : Int32) (S7 : Mem) => ((¬ r8 = 0 → (mX6_sets (fun (S10 : Mem) => post (0 : Int32) S10) S7 v1 (2 : Int32) x1)) ∧ (r8 = 0 → (post (0 : Int32) S7)))) S5 r6 v2 x1) S2 v1)) ∧ (r3 = 0 → (mX6_of (fun (r13 : Int32) (S12 : Mem) => mX6_sets (fun (S14 : Mem) => vp_in (8 : Int32) 84 ∧ vp_in (8 : Int32) 84 ∧ ∀ S18 : Mem, S18 = wr S14 11 0 (8 : Int32).toNatClampNeg ((S14 11 0 (8 : Int32).toNatClampNeg) + (1 : Int32)) → mX6_comesToBank (fun (S19 : Mem) => post (1 : Int32) S19) S18 v1 x1) S12 v1 (6 : Int32) ((r13 + (1 : Int32)))) S2 v1 (6 : Int32))))) S x1
def mX6_steps (post : Int32 → Mem → Prop) (S : Mem) (v1 : Int32) : Prop := mX6_of (fun (r2 : Int32) (S1 : Mem) => mX6_of (fun (r4 : Int32) (S3 : Mem) => ((¬ r4 = (1 : Int32) → (mX6_steps_b23 post S3 v1 r2 (-1 : Int32) r2)) ∧ (r4 = (1 : Int32) → (mX6_steps_b23 post S3 v1 r2 (1 : Int32) r2)))) S1 v1 (4 : Int32)) S v1 (2 : Int32)
set_option maxRecDepth 100000 in
set_option maxHeartbeats 4000000 in
theorem bX6_steps_23 {p : Program} {l : Launch} {e : Env} {s : State} {m : MethodId} {args : Array Value} {below : List Frame} {meth : Method} {c : Code} {D : va_G} {ky : Nat → ClassId} {ad : Nat → Nat} {ex : Nat → Nat → Nat} (F : Fx p s m args meth c D ky ad ex cX6_steps 4 yX6_steps.cls) (hr : meth.sig.returnType = (some .boolean)) {post : Int32 → Mem → Prop} : ∀ (S : Mem) (v1 : Int32) (v2 : Int32) (vt0 : Int32) (vt1 : Int32) (H : Heap) (locs : List Loc) (ls : Array Slot), mX6_steps_b23 post S v1 v2 vt0 vt1 → Cx D ky ad s S H locs → lv_has ls 4 [(0, .ref (ad 117)), (1, .int v1), (2, .int v2)] → W p l e rmX6_steps s m args below meth c H locs 0 0 (MQ below (va_Qi post (AFT D ky ad) (AW ad s.heap.size)) args s 0 0 (AW ad s.heap.size)) (F0 m 23 ls [.int vt0, .int vt1]) := by
  intro S v1 v2 vt0 vt1 H locs ls  h C hl
  unfold mX6_steps_b23 at h
  refine lv_iadd F.x F.b dX6_steps_23 ?_
  refine lv_topi (fun x1 ex1 => ?_)
  have h := h x1 ex1
  refine lv_istore_n (lv' := [(3, .int x1), (0, .ref (ad 117)), (1, .int v1), (2, .int v2)]) F.x F.b dX6_steps_24 rfl hl (by decide) rfl (fun ls hl => ?_)
  refine lv_iload_n F.x F.b dX6_steps_25 rfl (lv_at hl 0 rfl) ?_
  refine kSI F C hl (kX6_isStone  h) wv_X6_85 ⟨rfl, rfl, ⟨Nat.le_of_ble_eq_true rfl, Nat.le_of_ble_eq_true rfl⟩, ⟨Nat.le_of_ble_eq_true rfl, Nat.le_of_ble_eq_true rfl⟩, Nat.le_of_ble_eq_true rfl⟩ (rest := []) rfl dX6_steps_26 (fun r3 S2 H locs h C => ?_)
  refine lv_if_ne (tgt := 67) F.x F.b dX6_steps_29 (by decide) (fun g4 => ?_) (fun g4 => ?_)
  · have h := h.1 g4
    refine lv_aload_n F.x F.b dX6_steps_67 rfl (lv_at hl 1 rfl) ?_
    refine lv_aload_n F.x F.b dX6_steps_68 rfl (lv_at hl 1 rfl) ?_
    refine lv_iload_n F.x F.b dX6_steps_69 rfl (lv_at hl 2 rfl) ?_
    refine kI F C hl (kX6_kind  h) (by decide) (ce_M _) rfl wv_X6_121 ⟨rfl, rfl, ⟨Nat.le_of_ble_eq_true rfl, Nat.le_of_ble_eq_true rfl⟩, ⟨Nat.le_of_ble_eq_true rfl, Nat.le_of_ble_eq_true rfl⟩, Nat.le_of_ble_eq_true rfl⟩ (rest := [.ref (ad 117)]) rfl dX6_steps_70 (fun r6 S5 H locs h C => ?_)
    refine lv_iload_n F.x F.b dX6_steps_73 rfl (lv_at hl 3 rfl) ?_
    refine lv_iload_n F.x F.b dX6_steps_74 rfl (lv_at hl 0 rfl) ?_
    refine kI F C hl (kX6_can  h) (by decide) (ce_M _) rfl wv_X6_137 ⟨rfl, rfl, ⟨Nat.le_of_ble_eq_true rfl, Nat.le_of_ble_eq_true rfl⟩, ⟨Nat.le_of_ble_eq_true rfl, Nat.le_of_ble_eq_true rfl⟩, Nat.le_of_ble_eq_true rfl⟩ (rest := []) rfl dX6_steps_75 (fun r8 S7 H locs h C => ?_)
    refine lv_if_ne (tgt := 83) F.x F.b dX6_steps_78 (by decide) (fun g9 => ?_) (fun g9 => ?_)
    · have h := h.1 g9
      refine lv_aload_n F.x F.b dX6_steps_83 rfl (lv_at hl 1 rfl) ?_
      refine lv_iload_n F.x F.b dX6_steps_84 rfl (lv_at hl 2 rfl) ?_
      refine lv_iconst (v := 2) F.x F.b dX6_steps_85 (by decide) ?_
      refine lv_iload_n F.x F.b dX6_steps_86 rfl (lv_at hl 0 rfl) ?_
      refine kV F C hl (kX6_sets  h) (by decide) (ce_M _) rfl wv_X6_78 ⟨rfl, rfl, ⟨Nat.le_of_ble_eq_true rfl, Nat.le_of_ble_eq_true rfl⟩, ⟨Nat.le_of_ble_eq_true rfl, Nat.le_of_ble_eq_true rfl⟩, Nat.le_of_ble_eq_true rfl⟩ (rest := []) rfl dX6_steps_87 (fun S10 H locs h C => ?_)
      refine lv_iconst (v := 0) F.x F.b dX6_steps_90 (by decide) ?_
      exact retZ F hr C rfl h dX6_steps_91
    · have h := h.2 g9
      refine lv_iconst (v := 0) F.x F.b dX6_steps_81 (by decide) ?_
      exact retZ F hr C rfl h dX6_steps_82
  · have h := h.2 g4
    refine lv_aload_n F.x F.b dX6_steps_32 rfl (lv_at hl 1 rfl) ?_
    refine lv_iload_n F.x F.b dX6_steps_33 rfl (lv_at hl 2 rfl) ?_
    refine lv_bipush (v := 6) F.x F.b dX6_steps_34 (by decide) ?_
    refine lv_aload_n F.x F.b dX6_steps_36 rfl (lv_at hl 1 rfl) ?_
    refine lv_iload_n F.x F.b dX6_steps_37 rfl (lv_at hl 2 rfl) ?_
    refine lv_bipush (v := 6) F.x F.b dX6_steps_38 (by decide) ?_
    refine kI F C hl (kX6_of  h) (by decide) (ce_M _) rfl wv_X6_66 ⟨rfl, rfl, ⟨Nat.le_of_ble_eq_true rfl, Nat.le_of_ble_eq_true rfl⟩, ⟨Nat.le_of_ble_eq_true rfl, Nat.le_of_ble_eq_true rfl⟩, Nat.le_of_ble_eq_true rfl⟩ (rest := [.int (6 : Int32), .int v1, .ref (ad 117)]) rfl dX6_steps_40 (fun r13 S12 H locs h C => ?_)
    refine lv_iconst (v := 1) F.x F.b dX6_steps_43 (by decide) ?_
    refine lv_iadd F.x F.b dX6_steps_44 ?_
    refine kV F C hl (kX6_sets  h) (by decide) (ce_M _) rfl wv_X6_78 ⟨rfl, rfl, ⟨Nat.le_of_ble_eq_true rfl, Nat.le_of_ble_eq_true rfl⟩, ⟨Nat.le_of_ble_eq_true rfl, Nat.le_of_ble_eq_true rfl⟩, Nat.le_of_ble_eq_true rfl⟩ (rest := []) rfl dX6_steps_45 (fun S14 H locs h C => ?_)
    refine lv_aload_n F.x F.b dX6_steps_48 rfl (lv_at hl 1 rfl) ?_
    refine getM F C 0 (by decide) q4_222 (v := .ref (ad 118)) rfl dX6_steps_49 ?_
    refine lv_bipush (v := 8) F.x F.b dX6_steps_52 (by decide) ?_
    refine lv_dup2_11 F.x F.b dX6_steps_54 rfl rfl ?_
    obtain ⟨g16, h⟩ := h
    refine aldI F C (o := 118) (cq := 11) (iq := 0) (by decide) rfl rfl rfl g16 dX6_steps_55 ?_
    refine lv_iconst (v := 1) F.x F.b dX6_steps_56 (by decide) ?_
    refine lv_iadd F.x F.b dX6_steps_57 ?_
    obtain ⟨g17, h⟩ := h
    refine astI F C (o := 118) (cq := 11) (iq := 0) (by decide) rfl rfl (fun _ => rfl) g17 dX6_steps_58 (fun H locs C => ?_)
    obtain ⟨S18, eS18⟩ : ∃ z : Mem, z = wr S14 11 0 (8 : Int32).toNatClampNeg ((S14 11 0 (8 : Int32).toNatClampNeg) + (1 : Int32)) := ⟨_, rfl⟩
    rw [← eS18] at C
    have h := h S18 eS18
    refine lv_aload_n F.x F.b dX6_steps_59 rfl (lv_at hl 1 rfl) ?_
    refine lv_iload_n F.x F.b dX6_steps_60 rfl (lv_at hl 2 rfl) ?_
    refine lv_iload_n F.x F.b dX6_steps_61 rfl (lv_at hl 0 rfl) ?_
    refine kV F C hl (kX6_comesToBank  h) (by decide) (ce_M _) rfl wv_X6_134 ⟨rfl, rfl, ⟨Nat.le_of_ble_eq_true rfl, Nat.le_of_ble_eq_true rfl⟩, ⟨Nat.le_of_ble_eq_true rfl, Nat.le_of_ble_eq_true rfl⟩, Nat.le_of_ble_eq_true rfl⟩ (rest := []) rfl dX6_steps_62 (fun S19 H locs h C => ?_)
    refine lv_iconst (v := 1) F.x F.b dX6_steps_65 (by decide) ?_
    exact retZ F hr C rfl h dX6_steps_66
set_option maxRecDepth 100000 in
set_option maxHeartbeats 4000000 in
theorem kX6_steps {l : Launch} {D : va_G} {ky : Nat → ClassId} {ad : Nat → Nat} {ex : Nat → Nat → Nat} {post : Int32 → Mem → Prop} {S : Mem} {v1 : Int32} (h : mX6_steps post S v1) : CMi l D ky ad ex yX6_steps cX6_steps 4 (some .boolean) rmX6_steps 0 0 [.ref (ad 117), .int v1] S post := by
  refine CMi.of (by decide) (Nat.le_of_ble_eq_true rfl) (fun p e s m args below meth c ls F hr C hl => ?_)
  have hl : lv_has ls 4 [(0, .ref (ad 117)), (1, .int v1)] := hl
  unfold mX6_steps at h
  refine lv_aload_n F.x F.b dX6_steps_0 rfl (lv_at hl 0 rfl) ?_
  refine lv_iload_n F.x F.b dX6_steps_1 rfl (lv_at hl 1 rfl) ?_
  refine lv_iconst (v := 2) F.x F.b dX6_steps_2 (by decide) ?_
  refine kI F C hl (kX6_of  h) (by decide) (ce_M _) rfl wv_X6_66 ⟨rfl, rfl, ⟨Nat.le_of_ble_eq_true rfl, Nat.le_of_ble_eq_true rfl⟩, ⟨Nat.le_of_ble_eq_true rfl, Nat.le_of_ble_eq_true rfl⟩, Nat.le_of_ble_eq_true rfl⟩ (rest := []) rfl dX6_steps_3 (fun r2 S1 H locs h C => ?_)
  refine lv_istore_n (lv' := [(2, .int r2), (0, .ref (ad 117)), (1, .int v1)]) F.x F.b dX6_steps_6 rfl hl (by decide) rfl (fun ls hl => ?_)
  refine lv_iload_n F.x F.b dX6_steps_7 rfl (lv_at hl 0 rfl) ?_
  refine lv_aload_n F.x F.b dX6_steps_8 rfl (lv_at hl 1 rfl) ?_
  refine lv_iload_n F.x F.b dX6_steps_9 rfl (lv_at hl 2 rfl) ?_
  refine lv_iconst (v := 4) F.x F.b dX6_steps_10 (by decide) ?_
  refine kI F C hl (kX6_of  h) (by decide) (ce_M _) rfl wv_X6_66 ⟨rfl, rfl, ⟨Nat.le_of_ble_eq_true rfl, Nat.le_of_ble_eq_true rfl⟩, ⟨Nat.le_of_ble_eq_true rfl, Nat.le_of_ble_eq_true rfl⟩, Nat.le_of_ble_eq_true rfl⟩ (rest := [.int r2]) rfl dX6_steps_11 (fun r4 S3 H locs h C => ?_)
  refine lv_iconst (v := 1) F.x F.b dX6_steps_14 (by decide) ?_
  refine lv_icmp_ne (tgt := 22) F.x F.b dX6_steps_15 (by decide) (fun g5 => ?_) (fun g5 => ?_)
  · have h := h.1 g5
    refine lv_iconst (v := -1) F.x F.b dX6_steps_22 (by decide) ?_
    exact bX6_steps_23 F hr S3 v1 r2 (-1 : Int32) r2 _ _ _ h C (lv_sub hl [1, 2, 0] rfl)
  · have h := h.2 g5
    refine lv_iconst (v := 1) F.x F.b dX6_steps_18 (by decide) ?_
    refine lv_goto (tgt := 23) F.x F.b dX6_steps_19 (by decide) ?_
    exact bX6_steps_23 F hr S3 v1 r2 (1 : Int32) r2 _ _ _ h C (lv_sub hl [1, 2, 0] rfl)

def rmX6_dries : Room := { frames := 2, cells := 0, slots := 0, locals := 45 }
def mX6_dries_b76 (post : Mem → Prop) (K15 : Mem → Int32 → Int32 → Int32 → Int32 → Int32 → Prop) (S : Mem) (v1 : Int32) (v2 : Int32) (v3 : Int32) (v4 : Int32) (v5 : Int32) (vt0 : Int32) (vt1 : Int32) : Prop := ((vt1 ≤ vt0 → (∀ x2 : Int32, x2 = v5 + (1 : Int32) → K15 S v1 v2 v3 v4 x2)) ∧ (¬ vt1 ≤ vt0 → (∀ x3 : Int32, x3 = v5 + (1 : Int32) → K15 S v1 v2 v3 v5 x3)))
def mX6_dries_b15 (post : Mem → Prop) (K4 : Mem → Int32 → Int32 → Int32 → Prop) : Nat → Mem → Int32 → Int32 → Int32 → Int32 → Int32 → Prop
  | 0, _, _, _, _, _, _ => False
  | n + 1, S, v1, v2, v3, v4, v5 => vp_in (3 : Int32) 84 ∧ (((S 11 0 (3 : Int32).toNatClampNeg) ≤ v5 → (((0 ≤ v4 → (mX6_wets (fun (S4 : Mem) => ∀ x6 : Int32, x6 = v3 + (1 : Int32) → K4 S4 v1 v4 x6) S v4 (-3 : Int32))) ∧ (¬ 0 ≤ v4 → (post S))))) ∧ (¬ (S 11 0 (3 : Int32).toNatClampNeg) ≤ v5 → (((v5 = v2 → (∀ x8 : Int32, x8 = v5 + (1 : Int32) → mX6_dries_b15 post K4 n S v1 v2 v3 v4 x8)) ∧ (¬ v5 = v2 → (mX6_of (fun (r10 : Int32) (S9 : Mem) => ((¬ r10 = v1 → (∀ x12 : Int32, x12 = v5 + (1 : Int32) → mX6_dries_b15 post K4 n S9 v1 v2 v3 v4 x12)) ∧ (r10 = v1 → (mX6_of (fun (r14 : Int32) (S13 : Mem) => ((¬ r14 = 0 → (∀ x16 : Int32, x16 = v5 + (1 : Int32) → mX6_dries_b15 post K4 n S13 v1 v2 v3 v4 x16)) ∧ (r14 = 0 → (mX6_of (fun (r18 : Int32) (S17 : Mem) => ((0 ≤ v4 → (mX6_of (fun (r21 : Int32) (S20 : Mem) => mX6_dries_b76 post (fun S v1 v2 v3 v4 v5 => mX6_dries_b15 post K4 n S v1 v2 v3 v4 v5) S20 v1 v2 v3 v4 v5 r21 r18) S17 v4 (1 : Int32))) ∧ (¬ 0 ≤ v4 → (mX6_dries_b76 post (fun S v1 v2 v3 v4 v5 => mX6_dries_b15 post K4 n S v1 v2 v3 v4 v5) S17 v1 v2 v3 v4 v5 (0 : Int32) r18)))) S13 v5 (1 : Int32))))) S9 v5 (3 : Int32))))) S v5 (2 : Int32)))))))
def mX6_dries_b4 (post : Mem → Prop) : Nat → Mem → Int32 → Int32 → Int32 → Prop
  | 0, _, _, _, _ => False
  | n + 1, S, v1, v2, v3 => (((2 : Int32) ≤ v3 → (post S)) ∧ (¬ (2 : Int32) ≤ v3 → (∃ fu : Nat, mX6_dries_b15 post (fun S v1 v2 v3 => mX6_dries_b4 post n S v1 v2 v3) fu S v1 v2 v3 (-1 : Int32) (0 : Int32))))
def mX6_dries (post : Mem → Prop) (S : Mem) (v1 : Int32) : Prop := ∃ fu : Nat, mX6_dries_b4 post fu S v1 (-1 : Int32) (0 : Int32)
set_option maxRecDepth 100000 in
set_option maxHeartbeats 4000000 in
theorem bX6_dries_76 {p : Program} {l : Launch} {e : Env} {s : State} {m : MethodId} {args : Array Value} {below : List Frame} {meth : Method} {c : Code} {D : va_G} {ky : Nat → ClassId} {ad : Nat → Nat} {ex : Nat → Nat → Nat} (F : Fx p s m args meth c D ky ad ex cX6_dries 6 yX6_dries.cls) (hr : meth.sig.returnType = none) {post : Mem → Prop} {K15 : Mem → Int32 → Int32 → Int32 → Int32 → Int32 → Prop} (hK15 : ∀ (S : Mem) (v1 : Int32) (v2 : Int32) (v3 : Int32) (v4 : Int32) (v5 : Int32) (H : Heap) (locs : List Loc) (ls : Array Slot), K15 S v1 v2 v3 v4 v5 → Cx D ky ad s S H locs → lv_has ls 6 [(0, .ref (ad 117)), (1, .int v1), (2, .int v2), (3, .int v3), (4, .int v4), (5, .int v5)] → W p l e rmX6_dries s m args below meth c H locs 0 0 (MQ below (va_Qv post (AFT D ky ad) (AW ad s.heap.size)) args s 0 0 (AW ad s.heap.size)) (F0 m 15 ls [])) : ∀ (S : Mem) (v1 : Int32) (v2 : Int32) (v3 : Int32) (v4 : Int32) (v5 : Int32) (vt0 : Int32) (vt1 : Int32) (H : Heap) (locs : List Loc) (ls : Array Slot), mX6_dries_b76 post K15 S v1 v2 v3 v4 v5 vt0 vt1 → Cx D ky ad s S H locs → lv_has ls 6 [(0, .ref (ad 117)), (1, .int v1), (2, .int v2), (3, .int v3), (4, .int v4), (5, .int v5)] → W p l e rmX6_dries s m args below meth c H locs 0 0 (MQ below (va_Qv post (AFT D ky ad) (AW ad s.heap.size)) args s 0 0 (AW ad s.heap.size)) (F0 m 76 ls [.int vt0, .int vt1]) := by
  intro S v1 v2 v3 v4 v5 vt0 vt1 H locs ls  h C hl
  unfold mX6_dries_b76 at h
  refine lv_icmp_le (tgt := 83) F.x F.b dX6_dries_76 (by decide) (fun g1 => ?_) (fun g1 => ?_)
  · have h := h.1 g1
    obtain ⟨x2, ex2⟩ : ∃ z : Int32, z = v5 + (1 : Int32) := ⟨_, rfl⟩
    have h := h x2 ex2
    refine lv_iinc (v := x2) (lv' := [(5, .int x2), (0, .ref (ad 117)), (1, .int v1), (2, .int v2), (3, .int v3), (4, .int v4)]) F.x F.b dX6_dries_83 hl (k := 5) rfl (by rw [ex2]; rfl) (by decide) rfl (fun ls hl => ?_)
    refine lv_goto (tgt := 15) F.x F.b dX6_dries_86 (by decide) ?_
    exact hK15 S v1 v2 v3 v4 x2 _ _ _ h C (lv_sub hl [1, 2, 3, 4, 5, 0] rfl)
  · have h := h.2 g1
    refine lv_iload F.x F.b dX6_dries_79 (lv_at hl 5 rfl) ?_
    refine lv_istore (lv' := [(4, .int v5), (0, .ref (ad 117)), (1, .int v1), (2, .int v2), (3, .int v3), (5, .int v5)]) F.x F.b dX6_dries_81 hl (by decide) rfl (fun ls hl => ?_)
    obtain ⟨x3, ex3⟩ : ∃ z : Int32, z = v5 + (1 : Int32) := ⟨_, rfl⟩
    have h := h x3 ex3
    refine lv_iinc (v := x3) (lv' := [(5, .int x3), (4, .int v5), (0, .ref (ad 117)), (1, .int v1), (2, .int v2), (3, .int v3)]) F.x F.b dX6_dries_83 hl (k := 5) rfl (by rw [ex3]; rfl) (by decide) rfl (fun ls hl => ?_)
    refine lv_goto (tgt := 15) F.x F.b dX6_dries_86 (by decide) ?_
    exact hK15 S v1 v2 v3 v5 x3 _ _ _ h C (lv_sub hl [2, 3, 4, 5, 1, 0] rfl)
set_option maxRecDepth 100000 in
set_option maxHeartbeats 4000000 in
theorem bX6_dries_15 {p : Program} {l : Launch} {e : Env} {s : State} {m : MethodId} {args : Array Value} {below : List Frame} {meth : Method} {c : Code} {D : va_G} {ky : Nat → ClassId} {ad : Nat → Nat} {ex : Nat → Nat → Nat} (F : Fx p s m args meth c D ky ad ex cX6_dries 6 yX6_dries.cls) (hr : meth.sig.returnType = none) {post : Mem → Prop} {K4 : Mem → Int32 → Int32 → Int32 → Prop} (hK4 : ∀ (S : Mem) (v1 : Int32) (v2 : Int32) (v3 : Int32) (H : Heap) (locs : List Loc) (ls : Array Slot), K4 S v1 v2 v3 → Cx D ky ad s S H locs → lv_has ls 6 [(0, .ref (ad 117)), (1, .int v1), (2, .int v2), (3, .int v3)] → W p l e rmX6_dries s m args below meth c H locs 0 0 (MQ below (va_Qv post (AFT D ky ad) (AW ad s.heap.size)) args s 0 0 (AW ad s.heap.size)) (F0 m 4 ls [])) : ∀ (n : Nat) (S : Mem) (v1 : Int32) (v2 : Int32) (v3 : Int32) (v4 : Int32) (v5 : Int32) (H : Heap) (locs : List Loc) (ls : Array Slot), mX6_dries_b15 post K4 n S v1 v2 v3 v4 v5 → Cx D ky ad s S H locs → lv_has ls 6 [(0, .ref (ad 117)), (1, .int v1), (2, .int v2), (3, .int v3), (4, .int v4), (5, .int v5)] → W p l e rmX6_dries s m args below meth c H locs 0 0 (MQ below (va_Qv post (AFT D ky ad) (AW ad s.heap.size)) args s 0 0 (AW ad s.heap.size)) (F0 m 15 ls []) := by
  intro n
  induction n with
  | zero =>
    intro S v1 v2 v3 v4 v5 H locs ls  h
    exact False.elim h
  | succ n ih =>
    intro S v1 v2 v3 v4 v5 H locs ls  h C hl
    refine lv_iload F.x F.b dX6_dries_15 (lv_at hl 5 rfl) ?_
    refine lv_aload_n F.x F.b dX6_dries_17 rfl (lv_at hl 0 rfl) ?_
    refine getM F C 0 (by decide) q4_222 (v := .ref (ad 118)) rfl dX6_dries_18 ?_
    refine lv_iconst (v := 3) F.x F.b dX6_dries_21 (by decide) ?_
    obtain ⟨g1, h⟩ := h
    refine aldI F C (o := 118) (cq := 11) (iq := 0) (by decide) rfl rfl rfl g1 dX6_dries_22 ?_
    refine lv_icmp_ge (tgt := 89) F.x F.b dX6_dries_23 (by decide) (fun g2 => ?_) (fun g2 => ?_)
    · have h := h.1 g2
      refine lv_iload F.x F.b dX6_dries_89 (lv_at hl 4 rfl) ?_
      refine lv_if_ge (tgt := 95) F.x F.b dX6_dries_91 (by decide) (fun g3 => ?_) (fun g3 => ?_)
      · have h := h.1 g3
        refine lv_aload_n F.x F.b dX6_dries_95 rfl (lv_at hl 0 rfl) ?_
        refine lv_iload F.x F.b dX6_dries_96 (lv_at hl 4 rfl) ?_
        refine lv_bipush (v := -3) F.x F.b dX6_dries_98 (by decide) ?_
        refine kV F C hl (kX6_wets  h) (by decide) (ce_M _) rfl wv_X6_130 ⟨rfl, rfl, ⟨Nat.le_of_ble_eq_true rfl, Nat.le_of_ble_eq_true rfl⟩, ⟨Nat.le_of_ble_eq_true rfl, Nat.le_of_ble_eq_true rfl⟩, Nat.le_of_ble_eq_true rfl⟩ (rest := []) rfl dX6_dries_100 (fun S4 H locs h C => ?_)
        refine lv_iload F.x F.b dX6_dries_103 (lv_at hl 4 rfl) ?_
        refine lv_istore_n (lv' := [(2, .int v4), (0, .ref (ad 117)), (1, .int v1), (3, .int v3), (4, .int v4), (5, .int v5)]) F.x F.b dX6_dries_105 rfl hl (by decide) rfl (fun ls hl => ?_)
        obtain ⟨x6, ex6⟩ : ∃ z : Int32, z = v3 + (1 : Int32) := ⟨_, rfl⟩
        have h := h x6 ex6
        refine lv_iinc (v := x6) (lv' := [(3, .int x6), (2, .int v4), (0, .ref (ad 117)), (1, .int v1), (4, .int v4), (5, .int v5)]) F.x F.b dX6_dries_106 hl (k := 3) rfl (by rw [ex6]; rfl) (by decide) rfl (fun ls hl => ?_)
        refine lv_goto (tgt := 4) F.x F.b dX6_dries_109 (by decide) ?_
        exact hK4 S4 v1 v4 x6 _ _ _ h C (lv_sub hl [2, 3, 1, 0] rfl)
      · have h := h.2 g3
        exact retV F hr C h dX6_dries_94
    · have h := h.2 g2
      refine lv_iload F.x F.b dX6_dries_26 (lv_at hl 5 rfl) ?_
      refine lv_iload_n F.x F.b dX6_dries_28 rfl (lv_at hl 2 rfl) ?_
      refine lv_icmp_eq (tgt := 83) F.x F.b dX6_dries_29 (by decide) (fun g7 => ?_) (fun g7 => ?_)
      · have h := h.1 g7
        obtain ⟨x8, ex8⟩ : ∃ z : Int32, z = v5 + (1 : Int32) := ⟨_, rfl⟩
        have h := h x8 ex8
        refine lv_iinc (v := x8) (lv' := [(5, .int x8), (0, .ref (ad 117)), (1, .int v1), (2, .int v2), (3, .int v3), (4, .int v4)]) F.x F.b dX6_dries_83 hl (k := 5) rfl (by rw [ex8]; rfl) (by decide) rfl (fun ls hl => ?_)
        refine lv_goto (tgt := 15) F.x F.b dX6_dries_86 (by decide) ?_
        exact ih S v1 v2 v3 v4 x8 _ _ _ h C (lv_sub hl [1, 2, 3, 4, 5, 0] rfl)
      · have h := h.2 g7
        refine lv_aload_n F.x F.b dX6_dries_32 rfl (lv_at hl 0 rfl) ?_
        refine lv_iload F.x F.b dX6_dries_33 (lv_at hl 5 rfl) ?_
        refine lv_iconst (v := 2) F.x F.b dX6_dries_35 (by decide) ?_
        refine kI F C hl (kX6_of  h) (by decide) (ce_M _) rfl wv_X6_66 ⟨rfl, rfl, ⟨Nat.le_of_ble_eq_true rfl, Nat.le_of_ble_eq_true rfl⟩, ⟨Nat.le_of_ble_eq_true rfl, Nat.le_of_ble_eq_true rfl⟩, Nat.le_of_ble_eq_true rfl⟩ (rest := []) rfl dX6_dries_36 (fun r10 S9 H locs h C => ?_)
        refine lv_iload_n F.x F.b dX6_dries_39 rfl (lv_at hl 1 rfl) ?_
        refine lv_icmp_ne (tgt := 83) F.x F.b dX6_dries_40 (by decide) (fun g11 => ?_) (fun g11 => ?_)
        · have h := h.1 g11
          obtain ⟨x12, ex12⟩ : ∃ z : Int32, z = v5 + (1 : Int32) := ⟨_, rfl⟩
          have h := h x12 ex12
          refine lv_iinc (v := x12) (lv' := [(5, .int x12), (0, .ref (ad 117)), (1, .int v1), (2, .int v2), (3, .int v3), (4, .int v4)]) F.x F.b dX6_dries_83 hl (k := 5) rfl (by rw [ex12]; rfl) (by decide) rfl (fun ls hl => ?_)
          refine lv_goto (tgt := 15) F.x F.b dX6_dries_86 (by decide) ?_
          exact ih S9 v1 v2 v3 v4 x12 _ _ _ h C (lv_sub hl [1, 2, 3, 4, 5, 0] rfl)
        · have h := h.2 g11
          refine lv_aload_n F.x F.b dX6_dries_43 rfl (lv_at hl 0 rfl) ?_
          refine lv_iload F.x F.b dX6_dries_44 (lv_at hl 5 rfl) ?_
          refine lv_iconst (v := 3) F.x F.b dX6_dries_46 (by decide) ?_
          refine kI F C hl (kX6_of  h) (by decide) (ce_M _) rfl wv_X6_66 ⟨rfl, rfl, ⟨Nat.le_of_ble_eq_true rfl, Nat.le_of_ble_eq_true rfl⟩, ⟨Nat.le_of_ble_eq_true rfl, Nat.le_of_ble_eq_true rfl⟩, Nat.le_of_ble_eq_true rfl⟩ (rest := []) rfl dX6_dries_47 (fun r14 S13 H locs h C => ?_)
          refine lv_if_ne (tgt := 83) F.x F.b dX6_dries_50 (by decide) (fun g15 => ?_) (fun g15 => ?_)
          · have h := h.1 g15
            obtain ⟨x16, ex16⟩ : ∃ z : Int32, z = v5 + (1 : Int32) := ⟨_, rfl⟩
            have h := h x16 ex16
            refine lv_iinc (v := x16) (lv' := [(5, .int x16), (0, .ref (ad 117)), (1, .int v1), (2, .int v2), (3, .int v3), (4, .int v4)]) F.x F.b dX6_dries_83 hl (k := 5) rfl (by rw [ex16]; rfl) (by decide) rfl (fun ls hl => ?_)
            refine lv_goto (tgt := 15) F.x F.b dX6_dries_86 (by decide) ?_
            exact ih S13 v1 v2 v3 v4 x16 _ _ _ h C (lv_sub hl [1, 2, 3, 4, 5, 0] rfl)
          · have h := h.2 g15
            refine lv_aload_n F.x F.b dX6_dries_53 rfl (lv_at hl 0 rfl) ?_
            refine lv_iload F.x F.b dX6_dries_54 (lv_at hl 5 rfl) ?_
            refine lv_iconst (v := 1) F.x F.b dX6_dries_56 (by decide) ?_
            refine kI F C hl (kX6_of  h) (by decide) (ce_M _) rfl wv_X6_66 ⟨rfl, rfl, ⟨Nat.le_of_ble_eq_true rfl, Nat.le_of_ble_eq_true rfl⟩, ⟨Nat.le_of_ble_eq_true rfl, Nat.le_of_ble_eq_true rfl⟩, Nat.le_of_ble_eq_true rfl⟩ (rest := []) rfl dX6_dries_57 (fun r18 S17 H locs h C => ?_)
            refine lv_iload F.x F.b dX6_dries_60 (lv_at hl 4 rfl) ?_
            refine lv_if_ge (tgt := 69) F.x F.b dX6_dries_62 (by decide) (fun g19 => ?_) (fun g19 => ?_)
            · have h := h.1 g19
              refine lv_aload_n F.x F.b dX6_dries_69 rfl (lv_at hl 0 rfl) ?_
              refine lv_iload F.x F.b dX6_dries_70 (lv_at hl 4 rfl) ?_
              refine lv_iconst (v := 1) F.x F.b dX6_dries_72 (by decide) ?_
              refine kI F C hl (kX6_of  h) (by decide) (ce_M _) rfl wv_X6_66 ⟨rfl, rfl, ⟨Nat.le_of_ble_eq_true rfl, Nat.le_of_ble_eq_true rfl⟩, ⟨Nat.le_of_ble_eq_true rfl, Nat.le_of_ble_eq_true rfl⟩, Nat.le_of_ble_eq_true rfl⟩ (rest := [.int r18]) rfl dX6_dries_73 (fun r21 S20 H locs h C => ?_)
              exact bX6_dries_76 F hr ih S20 v1 v2 v3 v4 v5 r21 r18 _ _ _ h C (lv_sub hl [0, 1, 2, 3, 4, 5] rfl)
            · have h := h.2 g19
              refine lv_iconst (v := 0) F.x F.b dX6_dries_65 (by decide) ?_
              refine lv_goto (tgt := 76) F.x F.b dX6_dries_66 (by decide) ?_
              exact bX6_dries_76 F hr ih S17 v1 v2 v3 v4 v5 (0 : Int32) r18 _ _ _ h C (lv_sub hl [0, 1, 2, 3, 4, 5] rfl)
set_option maxRecDepth 100000 in
set_option maxHeartbeats 4000000 in
theorem bX6_dries_4 {p : Program} {l : Launch} {e : Env} {s : State} {m : MethodId} {args : Array Value} {below : List Frame} {meth : Method} {c : Code} {D : va_G} {ky : Nat → ClassId} {ad : Nat → Nat} {ex : Nat → Nat → Nat} (F : Fx p s m args meth c D ky ad ex cX6_dries 6 yX6_dries.cls) (hr : meth.sig.returnType = none) {post : Mem → Prop} : ∀ (n : Nat) (S : Mem) (v1 : Int32) (v2 : Int32) (v3 : Int32) (H : Heap) (locs : List Loc) (ls : Array Slot), mX6_dries_b4 post n S v1 v2 v3 → Cx D ky ad s S H locs → lv_has ls 6 [(0, .ref (ad 117)), (1, .int v1), (2, .int v2), (3, .int v3)] → W p l e rmX6_dries s m args below meth c H locs 0 0 (MQ below (va_Qv post (AFT D ky ad) (AW ad s.heap.size)) args s 0 0 (AW ad s.heap.size)) (F0 m 4 ls []) := by
  intro n
  induction n with
  | zero =>
    intro S v1 v2 v3 H locs ls  h
    exact False.elim h
  | succ n ih =>
    intro S v1 v2 v3 H locs ls  h C hl
    refine lv_iload_n F.x F.b dX6_dries_4 rfl (lv_at hl 3 rfl) ?_
    refine lv_iconst (v := 2) F.x F.b dX6_dries_5 (by decide) ?_
    refine lv_icmp_ge (tgt := 112) F.x F.b dX6_dries_6 (by decide) (fun g1 => ?_) (fun g1 => ?_)
    · have h := h.1 g1
      exact retV F hr C h dX6_dries_112
    · have h := h.2 g1
      refine lv_iconst (v := -1) F.x F.b dX6_dries_9 (by decide) ?_
      refine lv_istore (lv' := [(4, .int (-1 : Int32)), (0, .ref (ad 117)), (1, .int v1), (2, .int v2), (3, .int v3)]) F.x F.b dX6_dries_10 hl (by decide) rfl (fun ls hl => ?_)
      refine lv_iconst (v := 0) F.x F.b dX6_dries_12 (by decide) ?_
      refine lv_istore (lv' := [(5, .int (0 : Int32)), (4, .int (-1 : Int32)), (0, .ref (ad 117)), (1, .int v1), (2, .int v2), (3, .int v3)]) F.x F.b dX6_dries_13 hl (by decide) rfl (fun ls hl => ?_)
      obtain ⟨n2, h⟩ := h
      exact bX6_dries_15 F hr ih n2 S v1 v2 v3 (-1 : Int32) (0 : Int32) _ _ _ h C (lv_sub hl [2, 3, 4, 5, 1, 0] rfl)
set_option maxRecDepth 100000 in
set_option maxHeartbeats 4000000 in
theorem kX6_dries {l : Launch} {D : va_G} {ky : Nat → ClassId} {ad : Nat → Nat} {ex : Nat → Nat → Nat} {post : Mem → Prop} {S : Mem} {v1 : Int32} (h : mX6_dries post S v1) : CMv l D ky ad ex yX6_dries cX6_dries 6 none rmX6_dries 0 0 [.ref (ad 117), .int v1] S post := by
  refine CMv.of (by decide) (Nat.le_of_ble_eq_true rfl) (fun p e s m args below meth c ls F hr C hl => ?_)
  have hl : lv_has ls 6 [(0, .ref (ad 117)), (1, .int v1)] := hl
  unfold mX6_dries at h
  refine lv_iconst (v := -1) F.x F.b dX6_dries_0 (by decide) ?_
  refine lv_istore_n (lv' := [(2, .int (-1 : Int32)), (0, .ref (ad 117)), (1, .int v1)]) F.x F.b dX6_dries_1 rfl hl (by decide) rfl (fun ls hl => ?_)
  refine lv_iconst (v := 0) F.x F.b dX6_dries_2 (by decide) ?_
  refine lv_istore_n (lv' := [(3, .int (0 : Int32)), (2, .int (-1 : Int32)), (0, .ref (ad 117)), (1, .int v1)]) F.x F.b dX6_dries_3 rfl hl (by decide) rfl (fun ls hl => ?_)
  obtain ⟨n1, h⟩ := h
  exact bX6_dries_4 F hr n1 S v1 (-1 : Int32) (0 : Int32) _ _ _ h C (lv_sub hl [2, 3, 1, 0] rfl)

def rmX6_goes : Room := { frames := 4, cells := 0, slots := 0, locals := 89 }
def mX6_goes_b117 (post : Int32 → Mem → Prop) : Nat → Mem → Int32 → Int32 → Prop
  | 0, _, _, _ => False
  | n + 1, S, v1, v2 => vp_in (3 : Int32) 84 ∧ (((S 11 0 (3 : Int32).toNatClampNeg) ≤ v2 → (mX6_dries (fun (S3 : Mem) => mX6_dries (fun (S5 : Mem) => vp_in (0 : Int32) 84 ∧ vp_in (0 : Int32) 84 ∧ ∀ S9 : Mem, S9 = wr S5 11 0 (0 : Int32).toNatClampNeg ((S5 11 0 (0 : Int32).toNatClampNeg) + (1 : Int32)) → post v1 S9) S3 (10 : Int32)) S (-1 : Int32))) ∧ (¬ (S 11 0 (3 : Int32).toNatClampNeg) ≤ v2 → (mX6_of (fun (r11 : Int32) (S10 : Mem) => mX6_isStone (fun (r13 : Int32) (S12 : Mem) => ((r13 = 0 → (∀ x15 : Int32, x15 = v2 + (1 : Int32) → mX6_goes_b117 post n S12 v1 x15)) ∧ (¬ r13 = 0 → (mX6_of (fun (r17 : Int32) (S16 : Mem) => mX6_state (fun (r19 : Int32) (S18 : Mem) => ((¬ r19 = (1 : Int32) → (mX6_wets (fun (S21 : Mem) => ∀ x23 : Int32, x23 = v2 + (1 : Int32) → mX6_goes_b117 post n S21 v1 x23) S18 v2 (-1 : Int32))) ∧ (r19 = (1 : Int32) → (mX6_wets (fun (S24 : Mem) => ∀ x26 : Int32, x26 = v2 + (1 : Int32) → mX6_goes_b117 post n S24 v1 x26) S18 v2 (2 : Int32))))) S16 r17) S12 v2 (2 : Int32))))) S10 r11) S v2 (2 : Int32))))
def mX6_goes_b69 (post : Int32 → Mem → Prop) : Nat → Mem → Int32 → Int32 → Prop
  | 0, _, _, _ => False
  | n + 1, S, v1, v2 => vp_in (3 : Int32) 84 ∧ (((S 11 0 (3 : Int32).toNatClampNeg) ≤ v2 → (∃ fu : Nat, mX6_goes_b117 post fu S v1 (0 : Int32))) ∧ (¬ (S 11 0 (3 : Int32).toNatClampNeg) ≤ v2 → (mX6_of (fun (r5 : Int32) (S4 : Mem) => ((¬ r5 = (1 : Int32) → (∀ x7 : Int32, x7 = v2 + (1 : Int32) → mX6_goes_b69 post n S4 v1 x7)) ∧ (r5 = (1 : Int32) → (mX6_of (fun (r9 : Int32) (S8 : Mem) => ((¬ r9 = 0 → (∀ x11 : Int32, x11 = v2 + (1 : Int32) → mX6_goes_b69 post n S8 v1 x11)) ∧ (r9 = 0 → (mX6_steps (fun (r13 : Int32) (S12 : Mem) => ((r13 = 0 → (∀ x15 : Int32, x15 = v2 + (1 : Int32) → mX6_goes_b69 post n S12 v1 x15)) ∧ (¬ r13 = 0 → (∀ x16 : Int32, x16 = v1 + (1 : Int32) → ∀ x17 : Int32, x17 = v2 + (1 : Int32) → mX6_goes_b69 post n S12 x16 x17)))) S8 v2)))) S4 v2 (5 : Int32))))) S v2 (3 : Int32))))
def mX6_goes_b18 (post : Int32 → Mem → Prop) : Nat → Mem → Int32 → Prop
  | 0, _, _ => False
  | n + 1, S, v1 => vp_in (3 : Int32) 84 ∧ (((S 11 0 (3 : Int32).toNatClampNeg) ≤ v1 → (∃ fu : Nat, mX6_goes_b69 post fu S (0 : Int32) (0 : Int32))) ∧ (¬ (S 11 0 (3 : Int32).toNatClampNeg) ≤ v1 → (mX6_of (fun (r5 : Int32) (S4 : Mem) => mX6_isStone (fun (r7 : Int32) (S6 : Mem) => ((r7 = 0 → (∀ x9 : Int32, x9 = v1 + (1 : Int32) → mX6_goes_b18 post n S6 x9)) ∧ (¬ r7 = 0 → (mX6_of (fun (r11 : Int32) (S10 : Mem) => mX6_state (fun (r13 : Int32) (S12 : Mem) => ((¬ r13 = (2 : Int32) → (∀ x15 : Int32, x15 = v1 + (1 : Int32) → mX6_goes_b18 post n S12 x15)) ∧ (r13 = (2 : Int32) → (mX6_goesBack (fun (S16 : Mem) => ∀ x18 : Int32, x18 = v1 + (1 : Int32) → mX6_goes_b18 post n S16 x18) S12 v1)))) S10 r11) S6 v1 (2 : Int32))))) S4 r5) S v1 (2 : Int32))))
def mX6_goes (post : Int32 → Mem → Prop) (S : Mem) : Prop := vp_in (1 : Int32) 84 ∧ mX6_next (fun (r3 : Int32) (S2 : Mem) => vp_in (1 : Int32) 84 ∧ ∀ S5 : Mem, S5 = wr S2 11 0 (1 : Int32).toNatClampNeg r3 → ∃ fu : Nat, mX6_goes_b18 post fu S5 (0 : Int32)) S ((S 11 0 (1 : Int32).toNatClampNeg))
set_option maxRecDepth 100000 in
set_option maxHeartbeats 4000000 in
theorem bX6_goes_117 {p : Program} {l : Launch} {e : Env} {s : State} {m : MethodId} {args : Array Value} {below : List Frame} {meth : Method} {c : Code} {D : va_G} {ky : Nat → ClassId} {ad : Nat → Nat} {ex : Nat → Nat → Nat} (F : Fx p s m args meth c D ky ad ex cX6_goes 3 yX6_goes.cls) (hr : meth.sig.returnType = (some .int)) {post : Int32 → Mem → Prop} : ∀ (n : Nat) (S : Mem) (v1 : Int32) (v2 : Int32) (H : Heap) (locs : List Loc) (ls : Array Slot), mX6_goes_b117 post n S v1 v2 → Cx D ky ad s S H locs → lv_has ls 3 [(0, .ref (ad 117)), (1, .int v1), (2, .int v2)] → W p l e rmX6_goes s m args below meth c H locs 0 0 (MQ below (va_Qi post (AFT D ky ad) (AW ad s.heap.size)) args s 0 0 (AW ad s.heap.size)) (F0 m 117 ls []) := by
  intro n
  induction n with
  | zero =>
    intro S v1 v2 H locs ls  h
    exact False.elim h
  | succ n ih =>
    intro S v1 v2 H locs ls  h C hl
    refine lv_iload_n F.x F.b dX6_goes_117 rfl (lv_at hl 2 rfl) ?_
    refine lv_aload_n F.x F.b dX6_goes_118 rfl (lv_at hl 0 rfl) ?_
    refine getM F C 0 (by decide) q4_222 (v := .ref (ad 118)) rfl dX6_goes_119 ?_
    refine lv_iconst (v := 3) F.x F.b dX6_goes_122 (by decide) ?_
    obtain ⟨g1, h⟩ := h
    refine aldI F C (o := 118) (cq := 11) (iq := 0) (by decide) rfl rfl rfl g1 dX6_goes_123 ?_
    refine lv_icmp_ge (tgt := 169) F.x F.b dX6_goes_124 (by decide) (fun g2 => ?_) (fun g2 => ?_)
    · have h := h.1 g2
      refine lv_aload_n F.x F.b dX6_goes_169 rfl (lv_at hl 0 rfl) ?_
      refine lv_iconst (v := -1) F.x F.b dX6_goes_170 (by decide) ?_
      refine kV F C hl (kX6_dries  h) (by decide) (ce_M _) rfl wv_X6_147 ⟨rfl, rfl, ⟨Nat.le_of_ble_eq_true rfl, Nat.le_of_ble_eq_true rfl⟩, ⟨Nat.le_of_ble_eq_true rfl, Nat.le_of_ble_eq_true rfl⟩, Nat.le_of_ble_eq_true rfl⟩ (rest := []) rfl dX6_goes_171 (fun S3 H locs h C => ?_)
      refine lv_aload_n F.x F.b dX6_goes_174 rfl (lv_at hl 0 rfl) ?_
      refine lv_bipush (v := 10) F.x F.b dX6_goes_175 (by decide) ?_
      refine kV F C hl (kX6_dries  h) (by decide) (ce_M _) rfl wv_X6_147 ⟨rfl, rfl, ⟨Nat.le_of_ble_eq_true rfl, Nat.le_of_ble_eq_true rfl⟩, ⟨Nat.le_of_ble_eq_true rfl, Nat.le_of_ble_eq_true rfl⟩, Nat.le_of_ble_eq_true rfl⟩ (rest := []) rfl dX6_goes_177 (fun S5 H locs h C => ?_)
      refine lv_aload_n F.x F.b dX6_goes_180 rfl (lv_at hl 0 rfl) ?_
      refine getM F C 0 (by decide) q4_222 (v := .ref (ad 118)) rfl dX6_goes_181 ?_
      refine lv_iconst (v := 0) F.x F.b dX6_goes_184 (by decide) ?_
      refine lv_dup2_11 F.x F.b dX6_goes_185 rfl rfl ?_
      obtain ⟨g7, h⟩ := h
      refine aldI F C (o := 118) (cq := 11) (iq := 0) (by decide) rfl rfl rfl g7 dX6_goes_186 ?_
      refine lv_iconst (v := 1) F.x F.b dX6_goes_187 (by decide) ?_
      refine lv_iadd F.x F.b dX6_goes_188 ?_
      obtain ⟨g8, h⟩ := h
      refine astI F C (o := 118) (cq := 11) (iq := 0) (by decide) rfl rfl (fun _ => rfl) g8 dX6_goes_189 (fun H locs C => ?_)
      obtain ⟨S9, eS9⟩ : ∃ z : Mem, z = wr S5 11 0 (0 : Int32).toNatClampNeg ((S5 11 0 (0 : Int32).toNatClampNeg) + (1 : Int32)) := ⟨_, rfl⟩
      rw [← eS9] at C
      have h := h S9 eS9
      refine lv_iload_n F.x F.b dX6_goes_190 rfl (lv_at hl 1 rfl) ?_
      exact retI F hr C h dX6_goes_191
    · have h := h.2 g2
      refine lv_aload_n F.x F.b dX6_goes_127 rfl (lv_at hl 0 rfl) ?_
      refine lv_iload_n F.x F.b dX6_goes_128 rfl (lv_at hl 2 rfl) ?_
      refine lv_iconst (v := 2) F.x F.b dX6_goes_129 (by decide) ?_
      refine kI F C hl (kX6_of  h) (by decide) (ce_M _) rfl wv_X6_66 ⟨rfl, rfl, ⟨Nat.le_of_ble_eq_true rfl, Nat.le_of_ble_eq_true rfl⟩, ⟨Nat.le_of_ble_eq_true rfl, Nat.le_of_ble_eq_true rfl⟩, Nat.le_of_ble_eq_true rfl⟩ (rest := []) rfl dX6_goes_130 (fun r11 S10 H locs h C => ?_)
      refine kSI F C hl (kX6_isStone  h) wv_X6_85 ⟨rfl, rfl, ⟨Nat.le_of_ble_eq_true rfl, Nat.le_of_ble_eq_true rfl⟩, ⟨Nat.le_of_ble_eq_true rfl, Nat.le_of_ble_eq_true rfl⟩, Nat.le_of_ble_eq_true rfl⟩ (rest := []) rfl dX6_goes_133 (fun r13 S12 H locs h C => ?_)
      refine lv_if_eq (tgt := 163) F.x F.b dX6_goes_136 (by decide) (fun g14 => ?_) (fun g14 => ?_)
      · have h := h.1 g14
        obtain ⟨x15, ex15⟩ : ∃ z : Int32, z = v2 + (1 : Int32) := ⟨_, rfl⟩
        have h := h x15 ex15
        refine lv_iinc (v := x15) (lv' := [(2, .int x15), (0, .ref (ad 117)), (1, .int v1)]) F.x F.b dX6_goes_163 hl (k := 2) rfl (by rw [ex15]; rfl) (by decide) rfl (fun ls hl => ?_)
        refine lv_goto (tgt := 117) F.x F.b dX6_goes_166 (by decide) ?_
        exact ih S12 v1 x15 _ _ _ h C (lv_sub hl [1, 2, 0] rfl)
      · have h := h.2 g14
        refine lv_aload_n F.x F.b dX6_goes_139 rfl (lv_at hl 0 rfl) ?_
        refine lv_iload_n F.x F.b dX6_goes_140 rfl (lv_at hl 2 rfl) ?_
        refine lv_aload_n F.x F.b dX6_goes_141 rfl (lv_at hl 0 rfl) ?_
        refine lv_aload_n F.x F.b dX6_goes_142 rfl (lv_at hl 0 rfl) ?_
        refine lv_iload_n F.x F.b dX6_goes_143 rfl (lv_at hl 2 rfl) ?_
        refine lv_iconst (v := 2) F.x F.b dX6_goes_144 (by decide) ?_
        refine kI F C hl (kX6_of  h) (by decide) (ce_M _) rfl wv_X6_66 ⟨rfl, rfl, ⟨Nat.le_of_ble_eq_true rfl, Nat.le_of_ble_eq_true rfl⟩, ⟨Nat.le_of_ble_eq_true rfl, Nat.le_of_ble_eq_true rfl⟩, Nat.le_of_ble_eq_true rfl⟩ (rest := [.ref (ad 117), .int v2, .ref (ad 117)]) rfl dX6_goes_145 (fun r17 S16 H locs h C => ?_)
        refine kI F C hl (kX6_state  h) (by decide) (ce_M _) rfl wv_X6_99 ⟨rfl, rfl, ⟨Nat.le_of_ble_eq_true rfl, Nat.le_of_ble_eq_true rfl⟩, ⟨Nat.le_of_ble_eq_true rfl, Nat.le_of_ble_eq_true rfl⟩, Nat.le_of_ble_eq_true rfl⟩ (rest := [.int v2, .ref (ad 117)]) rfl dX6_goes_148 (fun r19 S18 H locs h C => ?_)
        refine lv_iconst (v := 1) F.x F.b dX6_goes_151 (by decide) ?_
        refine lv_icmp_ne (tgt := 159) F.x F.b dX6_goes_152 (by decide) (fun g20 => ?_) (fun g20 => ?_)
        · have h := h.1 g20
          refine lv_iconst (v := -1) F.x F.b dX6_goes_159 (by decide) ?_
          refine kV F C hl (kX6_wets  h) (by decide) (ce_M _) rfl wv_X6_130 ⟨rfl, rfl, ⟨Nat.le_of_ble_eq_true rfl, Nat.le_of_ble_eq_true rfl⟩, ⟨Nat.le_of_ble_eq_true rfl, Nat.le_of_ble_eq_true rfl⟩, Nat.le_of_ble_eq_true rfl⟩ (rest := []) rfl dX6_goes_160 (fun S21 H locs h C => ?_)
          obtain ⟨x23, ex23⟩ : ∃ z : Int32, z = v2 + (1 : Int32) := ⟨_, rfl⟩
          have h := h x23 ex23
          refine lv_iinc (v := x23) (lv' := [(2, .int x23), (0, .ref (ad 117)), (1, .int v1)]) F.x F.b dX6_goes_163 hl (k := 2) rfl (by rw [ex23]; rfl) (by decide) rfl (fun ls hl => ?_)
          refine lv_goto (tgt := 117) F.x F.b dX6_goes_166 (by decide) ?_
          exact ih S21 v1 x23 _ _ _ h C (lv_sub hl [1, 2, 0] rfl)
        · have h := h.2 g20
          refine lv_iconst (v := 2) F.x F.b dX6_goes_155 (by decide) ?_
          refine lv_goto (tgt := 160) F.x F.b dX6_goes_156 (by decide) ?_
          refine kV F C hl (kX6_wets  h) (by decide) (ce_M _) rfl wv_X6_130 ⟨rfl, rfl, ⟨Nat.le_of_ble_eq_true rfl, Nat.le_of_ble_eq_true rfl⟩, ⟨Nat.le_of_ble_eq_true rfl, Nat.le_of_ble_eq_true rfl⟩, Nat.le_of_ble_eq_true rfl⟩ (rest := []) rfl dX6_goes_160 (fun S24 H locs h C => ?_)
          obtain ⟨x26, ex26⟩ : ∃ z : Int32, z = v2 + (1 : Int32) := ⟨_, rfl⟩
          have h := h x26 ex26
          refine lv_iinc (v := x26) (lv' := [(2, .int x26), (0, .ref (ad 117)), (1, .int v1)]) F.x F.b dX6_goes_163 hl (k := 2) rfl (by rw [ex26]; rfl) (by decide) rfl (fun ls hl => ?_)
          refine lv_goto (tgt := 117) F.x F.b dX6_goes_166 (by decide) ?_
          exact ih S24 v1 x26 _ _ _ h C (lv_sub hl [1, 2, 0] rfl)
set_option maxRecDepth 100000 in
set_option maxHeartbeats 4000000 in
theorem bX6_goes_69 {p : Program} {l : Launch} {e : Env} {s : State} {m : MethodId} {args : Array Value} {below : List Frame} {meth : Method} {c : Code} {D : va_G} {ky : Nat → ClassId} {ad : Nat → Nat} {ex : Nat → Nat → Nat} (F : Fx p s m args meth c D ky ad ex cX6_goes 3 yX6_goes.cls) (hr : meth.sig.returnType = (some .int)) {post : Int32 → Mem → Prop} : ∀ (n : Nat) (S : Mem) (v1 : Int32) (v2 : Int32) (H : Heap) (locs : List Loc) (ls : Array Slot), mX6_goes_b69 post n S v1 v2 → Cx D ky ad s S H locs → lv_has ls 3 [(0, .ref (ad 117)), (1, .int v1), (2, .int v2)] → W p l e rmX6_goes s m args below meth c H locs 0 0 (MQ below (va_Qi post (AFT D ky ad) (AW ad s.heap.size)) args s 0 0 (AW ad s.heap.size)) (F0 m 69 ls []) := by
  intro n
  induction n with
  | zero =>
    intro S v1 v2 H locs ls  h
    exact False.elim h
  | succ n ih =>
    intro S v1 v2 H locs ls  h C hl
    refine lv_iload_n F.x F.b dX6_goes_69 rfl (lv_at hl 2 rfl) ?_
    refine lv_aload_n F.x F.b dX6_goes_70 rfl (lv_at hl 0 rfl) ?_
    refine getM F C 0 (by decide) q4_222 (v := .ref (ad 118)) rfl dX6_goes_71 ?_
    refine lv_iconst (v := 3) F.x F.b dX6_goes_74 (by decide) ?_
    obtain ⟨g1, h⟩ := h
    refine aldI F C (o := 118) (cq := 11) (iq := 0) (by decide) rfl rfl rfl g1 dX6_goes_75 ?_
    refine lv_icmp_ge (tgt := 115) F.x F.b dX6_goes_76 (by decide) (fun g2 => ?_) (fun g2 => ?_)
    · have h := h.1 g2
      refine lv_iconst (v := 0) F.x F.b dX6_goes_115 (by decide) ?_
      refine lv_istore_n (lv' := [(2, .int (0 : Int32)), (0, .ref (ad 117)), (1, .int v1)]) F.x F.b dX6_goes_116 rfl hl (by decide) rfl (fun ls hl => ?_)
      obtain ⟨n3, h⟩ := h
      exact bX6_goes_117 F hr n3 S v1 (0 : Int32) _ _ _ h C (lv_sub hl [1, 2, 0] rfl)
    · have h := h.2 g2
      refine lv_aload_n F.x F.b dX6_goes_79 rfl (lv_at hl 0 rfl) ?_
      refine lv_iload_n F.x F.b dX6_goes_80 rfl (lv_at hl 2 rfl) ?_
      refine lv_iconst (v := 3) F.x F.b dX6_goes_81 (by decide) ?_
      refine kI F C hl (kX6_of  h) (by decide) (ce_M _) rfl wv_X6_66 ⟨rfl, rfl, ⟨Nat.le_of_ble_eq_true rfl, Nat.le_of_ble_eq_true rfl⟩, ⟨Nat.le_of_ble_eq_true rfl, Nat.le_of_ble_eq_true rfl⟩, Nat.le_of_ble_eq_true rfl⟩ (rest := []) rfl dX6_goes_82 (fun r5 S4 H locs h C => ?_)
      refine lv_iconst (v := 1) F.x F.b dX6_goes_85 (by decide) ?_
      refine lv_icmp_ne (tgt := 109) F.x F.b dX6_goes_86 (by decide) (fun g6 => ?_) (fun g6 => ?_)
      · have h := h.1 g6
        obtain ⟨x7, ex7⟩ : ∃ z : Int32, z = v2 + (1 : Int32) := ⟨_, rfl⟩
        have h := h x7 ex7
        refine lv_iinc (v := x7) (lv' := [(2, .int x7), (0, .ref (ad 117)), (1, .int v1)]) F.x F.b dX6_goes_109 hl (k := 2) rfl (by rw [ex7]; rfl) (by decide) rfl (fun ls hl => ?_)
        refine lv_goto (tgt := 69) F.x F.b dX6_goes_112 (by decide) ?_
        exact ih S4 v1 x7 _ _ _ h C (lv_sub hl [1, 2, 0] rfl)
      · have h := h.2 g6
        refine lv_aload_n F.x F.b dX6_goes_89 rfl (lv_at hl 0 rfl) ?_
        refine lv_iload_n F.x F.b dX6_goes_90 rfl (lv_at hl 2 rfl) ?_
        refine lv_iconst (v := 5) F.x F.b dX6_goes_91 (by decide) ?_
        refine kI F C hl (kX6_of  h) (by decide) (ce_M _) rfl wv_X6_66 ⟨rfl, rfl, ⟨Nat.le_of_ble_eq_true rfl, Nat.le_of_ble_eq_true rfl⟩, ⟨Nat.le_of_ble_eq_true rfl, Nat.le_of_ble_eq_true rfl⟩, Nat.le_of_ble_eq_true rfl⟩ (rest := []) rfl dX6_goes_92 (fun r9 S8 H locs h C => ?_)
        refine lv_if_ne (tgt := 109) F.x F.b dX6_goes_95 (by decide) (fun g10 => ?_) (fun g10 => ?_)
        · have h := h.1 g10
          obtain ⟨x11, ex11⟩ : ∃ z : Int32, z = v2 + (1 : Int32) := ⟨_, rfl⟩
          have h := h x11 ex11
          refine lv_iinc (v := x11) (lv' := [(2, .int x11), (0, .ref (ad 117)), (1, .int v1)]) F.x F.b dX6_goes_109 hl (k := 2) rfl (by rw [ex11]; rfl) (by decide) rfl (fun ls hl => ?_)
          refine lv_goto (tgt := 69) F.x F.b dX6_goes_112 (by decide) ?_
          exact ih S8 v1 x11 _ _ _ h C (lv_sub hl [1, 2, 0] rfl)
        · have h := h.2 g10
          refine lv_aload_n F.x F.b dX6_goes_98 rfl (lv_at hl 0 rfl) ?_
          refine lv_iload_n F.x F.b dX6_goes_99 rfl (lv_at hl 2 rfl) ?_
          refine kI F C hl (kX6_steps  h) (by decide) (ce_M _) rfl wv_X6_144 ⟨rfl, rfl, ⟨Nat.le_of_ble_eq_true rfl, Nat.le_of_ble_eq_true rfl⟩, ⟨Nat.le_of_ble_eq_true rfl, Nat.le_of_ble_eq_true rfl⟩, Nat.le_of_ble_eq_true rfl⟩ (rest := []) rfl dX6_goes_100 (fun r13 S12 H locs h C => ?_)
          refine lv_if_eq (tgt := 109) F.x F.b dX6_goes_103 (by decide) (fun g14 => ?_) (fun g14 => ?_)
          · have h := h.1 g14
            obtain ⟨x15, ex15⟩ : ∃ z : Int32, z = v2 + (1 : Int32) := ⟨_, rfl⟩
            have h := h x15 ex15
            refine lv_iinc (v := x15) (lv' := [(2, .int x15), (0, .ref (ad 117)), (1, .int v1)]) F.x F.b dX6_goes_109 hl (k := 2) rfl (by rw [ex15]; rfl) (by decide) rfl (fun ls hl => ?_)
            refine lv_goto (tgt := 69) F.x F.b dX6_goes_112 (by decide) ?_
            exact ih S12 v1 x15 _ _ _ h C (lv_sub hl [1, 2, 0] rfl)
          · have h := h.2 g14
            obtain ⟨x16, ex16⟩ : ∃ z : Int32, z = v1 + (1 : Int32) := ⟨_, rfl⟩
            have h := h x16 ex16
            refine lv_iinc (v := x16) (lv' := [(1, .int x16), (0, .ref (ad 117)), (2, .int v2)]) F.x F.b dX6_goes_106 hl (k := 1) rfl (by rw [ex16]; rfl) (by decide) rfl (fun ls hl => ?_)
            obtain ⟨x17, ex17⟩ : ∃ z : Int32, z = v2 + (1 : Int32) := ⟨_, rfl⟩
            have h := h x17 ex17
            refine lv_iinc (v := x17) (lv' := [(2, .int x17), (1, .int x16), (0, .ref (ad 117))]) F.x F.b dX6_goes_109 hl (k := 2) rfl (by rw [ex17]; rfl) (by decide) rfl (fun ls hl => ?_)
            refine lv_goto (tgt := 69) F.x F.b dX6_goes_112 (by decide) ?_
            exact ih S12 x16 x17 _ _ _ h C (lv_sub hl [2, 1, 0] rfl)
set_option maxRecDepth 100000 in
set_option maxHeartbeats 4000000 in
theorem bX6_goes_18 {p : Program} {l : Launch} {e : Env} {s : State} {m : MethodId} {args : Array Value} {below : List Frame} {meth : Method} {c : Code} {D : va_G} {ky : Nat → ClassId} {ad : Nat → Nat} {ex : Nat → Nat → Nat} (F : Fx p s m args meth c D ky ad ex cX6_goes 3 yX6_goes.cls) (hr : meth.sig.returnType = (some .int)) {post : Int32 → Mem → Prop} : ∀ (n : Nat) (S : Mem) (v1 : Int32) (H : Heap) (locs : List Loc) (ls : Array Slot), mX6_goes_b18 post n S v1 → Cx D ky ad s S H locs → lv_has ls 3 [(0, .ref (ad 117)), (1, .int v1)] → W p l e rmX6_goes s m args below meth c H locs 0 0 (MQ below (va_Qi post (AFT D ky ad) (AW ad s.heap.size)) args s 0 0 (AW ad s.heap.size)) (F0 m 18 ls []) := by
  intro n
  induction n with
  | zero =>
    intro S v1 H locs ls  h
    exact False.elim h
  | succ n ih =>
    intro S v1 H locs ls  h C hl
    refine lv_iload_n F.x F.b dX6_goes_18 rfl (lv_at hl 1 rfl) ?_
    refine lv_aload_n F.x F.b dX6_goes_19 rfl (lv_at hl 0 rfl) ?_
    refine getM F C 0 (by decide) q4_222 (v := .ref (ad 118)) rfl dX6_goes_20 ?_
    refine lv_iconst (v := 3) F.x F.b dX6_goes_23 (by decide) ?_
    obtain ⟨g1, h⟩ := h
    refine aldI F C (o := 118) (cq := 11) (iq := 0) (by decide) rfl rfl rfl g1 dX6_goes_24 ?_
    refine lv_icmp_ge (tgt := 65) F.x F.b dX6_goes_25 (by decide) (fun g2 => ?_) (fun g2 => ?_)
    · have h := h.1 g2
      refine lv_iconst (v := 0) F.x F.b dX6_goes_65 (by decide) ?_
      refine lv_istore_n (lv' := [(1, .int (0 : Int32)), (0, .ref (ad 117))]) F.x F.b dX6_goes_66 rfl hl (by decide) rfl (fun ls hl => ?_)
      refine lv_iconst (v := 0) F.x F.b dX6_goes_67 (by decide) ?_
      refine lv_istore_n (lv' := [(2, .int (0 : Int32)), (1, .int (0 : Int32)), (0, .ref (ad 117))]) F.x F.b dX6_goes_68 rfl hl (by decide) rfl (fun ls hl => ?_)
      obtain ⟨n3, h⟩ := h
      exact bX6_goes_69 F hr n3 S (0 : Int32) (0 : Int32) _ _ _ h C (lv_sub hl [2, 1, 0] rfl)
    · have h := h.2 g2
      refine lv_aload_n F.x F.b dX6_goes_28 rfl (lv_at hl 0 rfl) ?_
      refine lv_iload_n F.x F.b dX6_goes_29 rfl (lv_at hl 1 rfl) ?_
      refine lv_iconst (v := 2) F.x F.b dX6_goes_30 (by decide) ?_
      refine kI F C hl (kX6_of  h) (by decide) (ce_M _) rfl wv_X6_66 ⟨rfl, rfl, ⟨Nat.le_of_ble_eq_true rfl, Nat.le_of_ble_eq_true rfl⟩, ⟨Nat.le_of_ble_eq_true rfl, Nat.le_of_ble_eq_true rfl⟩, Nat.le_of_ble_eq_true rfl⟩ (rest := []) rfl dX6_goes_31 (fun r5 S4 H locs h C => ?_)
      refine kSI F C hl (kX6_isStone  h) wv_X6_85 ⟨rfl, rfl, ⟨Nat.le_of_ble_eq_true rfl, Nat.le_of_ble_eq_true rfl⟩, ⟨Nat.le_of_ble_eq_true rfl, Nat.le_of_ble_eq_true rfl⟩, Nat.le_of_ble_eq_true rfl⟩ (rest := []) rfl dX6_goes_34 (fun r7 S6 H locs h C => ?_)
      refine lv_if_eq (tgt := 59) F.x F.b dX6_goes_37 (by decide) (fun g8 => ?_) (fun g8 => ?_)
      · have h := h.1 g8
        obtain ⟨x9, ex9⟩ : ∃ z : Int32, z = v1 + (1 : Int32) := ⟨_, rfl⟩
        have h := h x9 ex9
        refine lv_iinc (v := x9) (lv' := [(1, .int x9), (0, .ref (ad 117))]) F.x F.b dX6_goes_59 hl (k := 1) rfl (by rw [ex9]; rfl) (by decide) rfl (fun ls hl => ?_)
        refine lv_goto (tgt := 18) F.x F.b dX6_goes_62 (by decide) ?_
        exact ih S6 x9 _ _ _ h C (lv_sub hl [1, 0] rfl)
      · have h := h.2 g8
        refine lv_aload_n F.x F.b dX6_goes_40 rfl (lv_at hl 0 rfl) ?_
        refine lv_aload_n F.x F.b dX6_goes_41 rfl (lv_at hl 0 rfl) ?_
        refine lv_iload_n F.x F.b dX6_goes_42 rfl (lv_at hl 1 rfl) ?_
        refine lv_iconst (v := 2) F.x F.b dX6_goes_43 (by decide) ?_
        refine kI F C hl (kX6_of  h) (by decide) (ce_M _) rfl wv_X6_66 ⟨rfl, rfl, ⟨Nat.le_of_ble_eq_true rfl, Nat.le_of_ble_eq_true rfl⟩, ⟨Nat.le_of_ble_eq_true rfl, Nat.le_of_ble_eq_true rfl⟩, Nat.le_of_ble_eq_true rfl⟩ (rest := [.ref (ad 117)]) rfl dX6_goes_44 (fun r11 S10 H locs h C => ?_)
        refine kI F C hl (kX6_state  h) (by decide) (ce_M _) rfl wv_X6_99 ⟨rfl, rfl, ⟨Nat.le_of_ble_eq_true rfl, Nat.le_of_ble_eq_true rfl⟩, ⟨Nat.le_of_ble_eq_true rfl, Nat.le_of_ble_eq_true rfl⟩, Nat.le_of_ble_eq_true rfl⟩ (rest := []) rfl dX6_goes_47 (fun r13 S12 H locs h C => ?_)
        refine lv_iconst (v := 2) F.x F.b dX6_goes_50 (by decide) ?_
        refine lv_icmp_ne (tgt := 59) F.x F.b dX6_goes_51 (by decide) (fun g14 => ?_) (fun g14 => ?_)
        · have h := h.1 g14
          obtain ⟨x15, ex15⟩ : ∃ z : Int32, z = v1 + (1 : Int32) := ⟨_, rfl⟩
          have h := h x15 ex15
          refine lv_iinc (v := x15) (lv' := [(1, .int x15), (0, .ref (ad 117))]) F.x F.b dX6_goes_59 hl (k := 1) rfl (by rw [ex15]; rfl) (by decide) rfl (fun ls hl => ?_)
          refine lv_goto (tgt := 18) F.x F.b dX6_goes_62 (by decide) ?_
          exact ih S12 x15 _ _ _ h C (lv_sub hl [1, 0] rfl)
        · have h := h.2 g14
          refine lv_aload_n F.x F.b dX6_goes_54 rfl (lv_at hl 0 rfl) ?_
          refine lv_iload_n F.x F.b dX6_goes_55 rfl (lv_at hl 1 rfl) ?_
          refine kV F C hl (kX6_goesBack  h) (by decide) (ce_M _) rfl wv_X6_140 ⟨rfl, rfl, ⟨Nat.le_of_ble_eq_true rfl, Nat.le_of_ble_eq_true rfl⟩, ⟨Nat.le_of_ble_eq_true rfl, Nat.le_of_ble_eq_true rfl⟩, Nat.le_of_ble_eq_true rfl⟩ (rest := []) rfl dX6_goes_56 (fun S16 H locs h C => ?_)
          obtain ⟨x18, ex18⟩ : ∃ z : Int32, z = v1 + (1 : Int32) := ⟨_, rfl⟩
          have h := h x18 ex18
          refine lv_iinc (v := x18) (lv' := [(1, .int x18), (0, .ref (ad 117))]) F.x F.b dX6_goes_59 hl (k := 1) rfl (by rw [ex18]; rfl) (by decide) rfl (fun ls hl => ?_)
          refine lv_goto (tgt := 18) F.x F.b dX6_goes_62 (by decide) ?_
          exact ih S16 x18 _ _ _ h C (lv_sub hl [1, 0] rfl)
set_option maxRecDepth 100000 in
set_option maxHeartbeats 4000000 in
theorem kX6_goes {l : Launch} {D : va_G} {ky : Nat → ClassId} {ad : Nat → Nat} {ex : Nat → Nat → Nat} {post : Int32 → Mem → Prop} {S : Mem} (h : mX6_goes post S ) : CMi l D ky ad ex yX6_goes cX6_goes 3 (some .int) rmX6_goes 0 0 [.ref (ad 117)] S post := by
  refine CMi.of (by decide) (Nat.le_of_ble_eq_true rfl) (fun p e s m args below meth c ls F hr C hl => ?_)
  have hl : lv_has ls 3 [(0, .ref (ad 117))] := hl
  unfold mX6_goes at h
  refine lv_aload_n F.x F.b dX6_goes_0 rfl (lv_at hl 0 rfl) ?_
  refine getM F C 0 (by decide) q4_222 (v := .ref (ad 118)) rfl dX6_goes_1 ?_
  refine lv_iconst (v := 1) F.x F.b dX6_goes_4 (by decide) ?_
  refine lv_aload_n F.x F.b dX6_goes_5 rfl (lv_at hl 0 rfl) ?_
  refine lv_aload_n F.x F.b dX6_goes_6 rfl (lv_at hl 0 rfl) ?_
  refine getM F C 0 (by decide) q4_222 (v := .ref (ad 118)) rfl dX6_goes_7 ?_
  refine lv_iconst (v := 1) F.x F.b dX6_goes_10 (by decide) ?_
  obtain ⟨g1, h⟩ := h
  refine aldI F C (o := 118) (cq := 11) (iq := 0) (by decide) rfl rfl rfl g1 dX6_goes_11 ?_
  refine kI F C hl (kX6_next  h) (by decide) (ce_M _) rfl wv_X6_109 ⟨rfl, rfl, ⟨Nat.le_of_ble_eq_true rfl, Nat.le_of_ble_eq_true rfl⟩, ⟨Nat.le_of_ble_eq_true rfl, Nat.le_of_ble_eq_true rfl⟩, Nat.le_of_ble_eq_true rfl⟩ (rest := [.int (1 : Int32), .ref (ad 118)]) rfl dX6_goes_12 (fun r3 S2 H locs h C => ?_)
  obtain ⟨g4, h⟩ := h
  refine astI F C (o := 118) (cq := 11) (iq := 0) (by decide) rfl rfl (fun _ => rfl) g4 dX6_goes_15 (fun H locs C => ?_)
  obtain ⟨S5, eS5⟩ : ∃ z : Mem, z = wr S2 11 0 (1 : Int32).toNatClampNeg r3 := ⟨_, rfl⟩
  rw [← eS5] at C
  have h := h S5 eS5
  refine lv_iconst (v := 0) F.x F.b dX6_goes_16 (by decide) ?_
  refine lv_istore_n (lv' := [(1, .int (0 : Int32)), (0, .ref (ad 117))]) F.x F.b dX6_goes_17 rfl hl (by decide) rfl (fun ls hl => ?_)
  obtain ⟨n6, h⟩ := h
  exact bX6_goes_18 F hr n6 S5 (0 : Int32) _ _ _ h C (lv_sub hl [1, 0] rfl)

def rmX6_pass : Room := { frames := 5, cells := 0, slots := 0, locals := 111 }
def mX6_pass_b24 (post : Int32 → Mem → Prop) : Nat → Mem → Int32 → Int32 → Int32 → Prop
  | 0, _, _, _, _ => False
  | n + 1, S, v1, v2, v3 => ((v1 ≤ v3 → (mX6_keeps (fun (r3 : Int32) (S2 : Mem) => post r3 S2) S v2)) ∧ (¬ v1 ≤ v3 → (mX6_goes (fun (r5 : Int32) (S4 : Mem) => ∀ x6 : Int32, x6 = (v2 + r5) → ∀ x7 : Int32, x7 = v3 + (1 : Int32) → mX6_pass_b24 post n S4 v1 x6 x7) S )))
def mX6_pass (post : Int32 → Mem → Prop) (S : Mem) (v1 : Int32) : Prop := mX6_tries (fun (S1 : Mem) => mX6_in (fun (r4 : Int32) (S3 : Mem) => ((¬ r4 = 0 → (∃ fu : Nat, mX6_pass_b24 post fu S3 v1 (0 : Int32) (0 : Int32))) ∧ (r4 = 0 → (mX6_raises (fun (r8 : Int32) (S7 : Mem) => post r8 S7) S3 (1 : Int32))))) S1 v1 (1 : Int32) (24 : Int32)) S 
set_option maxRecDepth 100000 in
set_option maxHeartbeats 4000000 in
theorem bX6_pass_24 {p : Program} {l : Launch} {e : Env} {s : State} {m : MethodId} {args : Array Value} {below : List Frame} {meth : Method} {c : Code} {D : va_G} {ky : Nat → ClassId} {ad : Nat → Nat} {ex : Nat → Nat → Nat} (F : Fx p s m args meth c D ky ad ex cX6_pass 4 yX6_pass.cls) (hr : meth.sig.returnType = (some .int)) {post : Int32 → Mem → Prop} : ∀ (n : Nat) (S : Mem) (v1 : Int32) (v2 : Int32) (v3 : Int32) (H : Heap) (locs : List Loc) (ls : Array Slot), mX6_pass_b24 post n S v1 v2 v3 → Cx D ky ad s S H locs → lv_has ls 4 [(0, .ref (ad 117)), (1, .int v1), (2, .int v2), (3, .int v3)] → W p l e rmX6_pass s m args below meth c H locs 0 0 (MQ below (va_Qi post (AFT D ky ad) (AW ad s.heap.size)) args s 0 0 (AW ad s.heap.size)) (F0 m 24 ls []) := by
  intro n
  induction n with
  | zero =>
    intro S v1 v2 v3 H locs ls  h
    exact False.elim h
  | succ n ih =>
    intro S v1 v2 v3 H locs ls  h C hl
    refine lv_iload_n F.x F.b dX6_pass_24 rfl (lv_at hl 3 rfl) ?_
    refine lv_iload_n F.x F.b dX6_pass_25 rfl (lv_at hl 1 rfl) ?_
    refine lv_icmp_ge (tgt := 42) F.x F.b dX6_pass_26 (by decide) (fun g1 => ?_) (fun g1 => ?_)
    · have h := h.1 g1
      refine lv_aload_n F.x F.b dX6_pass_42 rfl (lv_at hl 0 rfl) ?_
      refine lv_iload_n F.x F.b dX6_pass_43 rfl (lv_at hl 2 rfl) ?_
      refine kI F C hl (kX6_keeps  h) (by decide) (ce_M _) rfl wv_X6_96 ⟨rfl, rfl, ⟨Nat.le_of_ble_eq_true rfl, Nat.le_of_ble_eq_true rfl⟩, ⟨Nat.le_of_ble_eq_true rfl, Nat.le_of_ble_eq_true rfl⟩, Nat.le_of_ble_eq_true rfl⟩ (rest := []) rfl dX6_pass_44 (fun r3 S2 H locs h C => ?_)
      exact retI F hr C h dX6_pass_47
    · have h := h.2 g1
      refine lv_iload_n F.x F.b dX6_pass_29 rfl (lv_at hl 2 rfl) ?_
      refine lv_aload_n F.x F.b dX6_pass_30 rfl (lv_at hl 0 rfl) ?_
      refine kI F C hl (kX6_goes  h) (by decide) (ce_M _) rfl wv_X6_150 ⟨rfl, rfl, ⟨Nat.le_of_ble_eq_true rfl, Nat.le_of_ble_eq_true rfl⟩, ⟨Nat.le_of_ble_eq_true rfl, Nat.le_of_ble_eq_true rfl⟩, Nat.le_of_ble_eq_true rfl⟩ (rest := [.int v2]) rfl dX6_pass_31 (fun r5 S4 H locs h C => ?_)
      refine lv_iadd F.x F.b dX6_pass_34 ?_
      refine lv_topi (fun x6 ex6 => ?_)
      have h := h x6 ex6
      refine lv_istore_n (lv' := [(2, .int x6), (0, .ref (ad 117)), (1, .int v1), (3, .int v3)]) F.x F.b dX6_pass_35 rfl hl (by decide) rfl (fun ls hl => ?_)
      obtain ⟨x7, ex7⟩ : ∃ z : Int32, z = v3 + (1 : Int32) := ⟨_, rfl⟩
      have h := h x7 ex7
      refine lv_iinc (v := x7) (lv' := [(3, .int x7), (2, .int x6), (0, .ref (ad 117)), (1, .int v1)]) F.x F.b dX6_pass_36 hl (k := 3) rfl (by rw [ex7]; rfl) (by decide) rfl (fun ls hl => ?_)
      refine lv_goto (tgt := 24) F.x F.b dX6_pass_39 (by decide) ?_
      exact ih S4 v1 x6 x7 _ _ _ h C (lv_sub hl [2, 3, 1, 0] rfl)
set_option maxRecDepth 100000 in
set_option maxHeartbeats 4000000 in
theorem kX6_pass {l : Launch} {D : va_G} {ky : Nat → ClassId} {ad : Nat → Nat} {ex : Nat → Nat → Nat} {post : Int32 → Mem → Prop} {S : Mem} {v1 : Int32} (h : mX6_pass post S v1) : CMi l D ky ad ex yX6_pass cX6_pass 4 (some .int) rmX6_pass 0 0 [.ref (ad 117), .int v1] S post := by
  refine CMi.of (by decide) (Nat.le_of_ble_eq_true rfl) (fun p e s m args below meth c ls F hr C hl => ?_)
  have hl : lv_has ls 4 [(0, .ref (ad 117)), (1, .int v1)] := hl
  unfold mX6_pass at h
  refine lv_aload_n F.x F.b dX6_pass_0 rfl (lv_at hl 0 rfl) ?_
  refine kV F C hl (kX6_tries  h) (by decide) (ce_M _) rfl wv_X6_82 ⟨rfl, rfl, ⟨Nat.le_of_ble_eq_true rfl, Nat.le_of_ble_eq_true rfl⟩, ⟨Nat.le_of_ble_eq_true rfl, Nat.le_of_ble_eq_true rfl⟩, Nat.le_of_ble_eq_true rfl⟩ (rest := []) rfl dX6_pass_1 (fun S1 H locs h C => ?_)
  refine lv_iload_n F.x F.b dX6_pass_4 rfl (lv_at hl 1 rfl) ?_
  refine lv_iconst (v := 1) F.x F.b dX6_pass_5 (by decide) ?_
  refine lv_bipush (v := 24) F.x F.b dX6_pass_6 (by decide) ?_
  refine kSI F C hl (kX6_in  h) wv_X6_62 ⟨rfl, rfl, ⟨Nat.le_of_ble_eq_true rfl, Nat.le_of_ble_eq_true rfl⟩, ⟨Nat.le_of_ble_eq_true rfl, Nat.le_of_ble_eq_true rfl⟩, Nat.le_of_ble_eq_true rfl⟩ (rest := []) rfl dX6_pass_8 (fun r4 S3 H locs h C => ?_)
  refine lv_if_ne (tgt := 20) F.x F.b dX6_pass_11 (by decide) (fun g5 => ?_) (fun g5 => ?_)
  · have h := h.1 g5
    refine lv_iconst (v := 0) F.x F.b dX6_pass_20 (by decide) ?_
    refine lv_istore_n (lv' := [(2, .int (0 : Int32)), (0, .ref (ad 117)), (1, .int v1)]) F.x F.b dX6_pass_21 rfl hl (by decide) rfl (fun ls hl => ?_)
    refine lv_iconst (v := 0) F.x F.b dX6_pass_22 (by decide) ?_
    refine lv_istore_n (lv' := [(3, .int (0 : Int32)), (2, .int (0 : Int32)), (0, .ref (ad 117)), (1, .int v1)]) F.x F.b dX6_pass_23 rfl hl (by decide) rfl (fun ls hl => ?_)
    obtain ⟨n6, h⟩ := h
    exact bX6_pass_24 F hr n6 S3 v1 (0 : Int32) (0 : Int32) _ _ _ h C (lv_sub hl [2, 3, 1, 0] rfl)
  · have h := h.2 g5
    refine lv_aload_n F.x F.b dX6_pass_14 rfl (lv_at hl 0 rfl) ?_
    refine lv_iconst (v := 1) F.x F.b dX6_pass_15 (by decide) ?_
    refine kI F C hl (kX6_raises  h) (by decide) (ce_M _) rfl wv_X6_58 ⟨rfl, rfl, ⟨Nat.le_of_ble_eq_true rfl, Nat.le_of_ble_eq_true rfl⟩, ⟨Nat.le_of_ble_eq_true rfl, Nat.le_of_ble_eq_true rfl⟩, Nat.le_of_ble_eq_true rfl⟩ (rest := []) rfl dX6_pass_16 (fun r8 S7 H locs h C => ?_)
    exact retI F hr C h dX6_pass_19

def rmX6_crossedIn : Room := { frames := 5, cells := 0, slots := 0, locals := 111 }
def mX6_crossedIn_b85 (post : Int32 → Mem → Prop) (S : Mem) (v3 : Int32) : Prop := mX6_thinksNoMore (fun (S1 : Mem) => ((v3 ≤ (60 : Int32) → (post v3 S1)) ∧ (¬ v3 ≤ (60 : Int32) → (mX6_raises (fun (r5 : Int32) (S4 : Mem) => post r5 S4) S1 (2 : Int32))))) S 
def mX6_crossedIn_b57 (post : Int32 → Mem → Prop) : Nat → Mem → Int32 → Int32 → Int32 → Prop
  | 0, _, _, _, _ => False
  | n + 1, S, v1, v2, v3 => (((60 : Int32) < v3 → (mX6_crossedIn_b85 post S v3)) ∧ (¬ (60 : Int32) < v3 → (mX6_of (fun (r3 : Int32) (S2 : Mem) => ((r3 = v2 → (mX6_crossedIn_b85 post S2 v3)) ∧ (¬ r3 = v2 → (mX6_goes (fun (r6 : Int32) (S5 : Mem) => ∀ x7 : Int32, x7 = v3 + (1 : Int32) → mX6_crossedIn_b57 post n S5 v1 v2 x7) S2 )))) S v1 (2 : Int32))))
def mX6_crossedIn (post : Int32 → Mem → Prop) (S : Mem) (v1 : Int32) : Prop := ∀ S1 : Mem, S1 = wr S 10 0 21 (0 : Int32) → mX6_isTraveller (fun (r3 : Int32) (S2 : Mem) => ((¬ r3 = 0 → (mX6_of (fun (r6 : Int32) (S5 : Mem) => ((¬ r6 = 0 → (mX6_of (fun (r9 : Int32) (S8 : Mem) => ((¬ r9 = (1 : Int32) → (mX6_thinks (fun (S11 : Mem) => ∃ fu : Nat, mX6_crossedIn_b57 post fu S11 v1 (-1 : Int32) (0 : Int32)) S8 )) ∧ (r9 = (1 : Int32) → (mX6_thinks (fun (S14 : Mem) => ∃ fu : Nat, mX6_crossedIn_b57 post fu S14 v1 (10 : Int32) (0 : Int32)) S8 )))) S5 v1 (4 : Int32))) ∧ (r6 = 0 → (mX6_raises (fun (r18 : Int32) (S17 : Mem) => post r18 S17) S5 (2 : Int32))))) S2 v1 (3 : Int32))) ∧ (r3 = 0 → (mX6_raises (fun (r20 : Int32) (S19 : Mem) => post r20 S19) S2 (1 : Int32))))) S1 v1
set_option maxRecDepth 100000 in
set_option maxHeartbeats 4000000 in
theorem bX6_crossedIn_85 {p : Program} {l : Launch} {e : Env} {s : State} {m : MethodId} {args : Array Value} {below : List Frame} {meth : Method} {c : Code} {D : va_G} {ky : Nat → ClassId} {ad : Nat → Nat} {ex : Nat → Nat → Nat} (F : Fx p s m args meth c D ky ad ex cX6_crossedIn 5 yX6_crossedIn.cls) (hr : meth.sig.returnType = (some .int)) {post : Int32 → Mem → Prop} : ∀ (S : Mem) (v3 : Int32) (H : Heap) (locs : List Loc) (ls : Array Slot), mX6_crossedIn_b85 post S v3 → Cx D ky ad s S H locs → lv_has ls 5 [(0, .ref (ad 117)), (3, .int v3)] → W p l e rmX6_crossedIn s m args below meth c H locs 0 0 (MQ below (va_Qi post (AFT D ky ad) (AW ad s.heap.size)) args s 0 0 (AW ad s.heap.size)) (F0 m 85 ls []) := by
  intro S v3 H locs ls  h C hl
  unfold mX6_crossedIn_b85 at h
  refine lv_aload_n F.x F.b dX6_crossedIn_85 rfl (lv_at hl 0 rfl) ?_
  refine kV F C hl (kX6_thinksNoMore  h) (by decide) (ce_M _) rfl wv_X6_156 ⟨rfl, rfl, ⟨Nat.le_of_ble_eq_true rfl, Nat.le_of_ble_eq_true rfl⟩, ⟨Nat.le_of_ble_eq_true rfl, Nat.le_of_ble_eq_true rfl⟩, Nat.le_of_ble_eq_true rfl⟩ (rest := []) rfl dX6_crossedIn_86 (fun S1 H locs h C => ?_)
  refine lv_iload_n F.x F.b dX6_crossedIn_89 rfl (lv_at hl 1 rfl) ?_
  refine lv_bipush (v := 60) F.x F.b dX6_crossedIn_90 (by decide) ?_
  refine lv_icmp_le (tgt := 103) F.x F.b dX6_crossedIn_92 (by decide) (fun g3 => ?_) (fun g3 => ?_)
  · have h := h.1 g3
    refine lv_iload_n F.x F.b dX6_crossedIn_103 rfl (lv_at hl 1 rfl) ?_
    exact retI F hr C h dX6_crossedIn_104
  · have h := h.2 g3
    refine lv_aload_n F.x F.b dX6_crossedIn_95 rfl (lv_at hl 0 rfl) ?_
    refine lv_iconst (v := 2) F.x F.b dX6_crossedIn_96 (by decide) ?_
    refine kI F C hl (kX6_raises  h) (by decide) (ce_M _) rfl wv_X6_58 ⟨rfl, rfl, ⟨Nat.le_of_ble_eq_true rfl, Nat.le_of_ble_eq_true rfl⟩, ⟨Nat.le_of_ble_eq_true rfl, Nat.le_of_ble_eq_true rfl⟩, Nat.le_of_ble_eq_true rfl⟩ (rest := []) rfl dX6_crossedIn_97 (fun r5 S4 H locs h C => ?_)
    refine lv_goto (tgt := 104) F.x F.b dX6_crossedIn_100 (by decide) ?_
    exact retI F hr C h dX6_crossedIn_104
set_option maxRecDepth 100000 in
set_option maxHeartbeats 4000000 in
theorem bX6_crossedIn_57 {p : Program} {l : Launch} {e : Env} {s : State} {m : MethodId} {args : Array Value} {below : List Frame} {meth : Method} {c : Code} {D : va_G} {ky : Nat → ClassId} {ad : Nat → Nat} {ex : Nat → Nat → Nat} (F : Fx p s m args meth c D ky ad ex cX6_crossedIn 5 yX6_crossedIn.cls) (hr : meth.sig.returnType = (some .int)) {post : Int32 → Mem → Prop} : ∀ (n : Nat) (S : Mem) (v1 : Int32) (v2 : Int32) (v3 : Int32) (H : Heap) (locs : List Loc) (ls : Array Slot), mX6_crossedIn_b57 post n S v1 v2 v3 → Cx D ky ad s S H locs → lv_has ls 5 [(0, .ref (ad 117)), (1, .int v1), (2, .int v2), (3, .int v3)] → W p l e rmX6_crossedIn s m args below meth c H locs 0 0 (MQ below (va_Qi post (AFT D ky ad) (AW ad s.heap.size)) args s 0 0 (AW ad s.heap.size)) (F0 m 57 ls []) := by
  intro n
  induction n with
  | zero =>
    intro S v1 v2 v3 H locs ls  h
    exact False.elim h
  | succ n ih =>
    intro S v1 v2 v3 H locs ls  h C hl
    refine lv_iload_n F.x F.b dX6_crossedIn_57 rfl (lv_at hl 3 rfl) ?_
    refine lv_bipush (v := 60) F.x F.b dX6_crossedIn_58 (by decide) ?_
    refine lv_icmp_gt (tgt := 85) F.x F.b dX6_crossedIn_60 (by decide) (fun g1 => ?_) (fun g1 => ?_)
    · have h := h.1 g1
      exact bX6_crossedIn_85 F hr S v3 _ _ _ h C (lv_sub hl [0, 3] rfl)
    · have h := h.2 g1
      refine lv_aload_n F.x F.b dX6_crossedIn_63 rfl (lv_at hl 0 rfl) ?_
      refine lv_iload_n F.x F.b dX6_crossedIn_64 rfl (lv_at hl 1 rfl) ?_
      refine lv_iconst (v := 2) F.x F.b dX6_crossedIn_65 (by decide) ?_
      refine kI F C hl (kX6_of  h) (by decide) (ce_M _) rfl wv_X6_66 ⟨rfl, rfl, ⟨Nat.le_of_ble_eq_true rfl, Nat.le_of_ble_eq_true rfl⟩, ⟨Nat.le_of_ble_eq_true rfl, Nat.le_of_ble_eq_true rfl⟩, Nat.le_of_ble_eq_true rfl⟩ (rest := []) rfl dX6_crossedIn_66 (fun r3 S2 H locs h C => ?_)
      refine lv_iload_n F.x F.b dX6_crossedIn_69 rfl (lv_at hl 2 rfl) ?_
      refine lv_icmp_eq (tgt := 85) F.x F.b dX6_crossedIn_70 (by decide) (fun g4 => ?_) (fun g4 => ?_)
      · have h := h.1 g4
        exact bX6_crossedIn_85 F hr S2 v3 _ _ _ h C (lv_sub hl [0, 3] rfl)
      · have h := h.2 g4
        refine lv_aload_n F.x F.b dX6_crossedIn_73 rfl (lv_at hl 0 rfl) ?_
        refine kI F C hl (kX6_goes  h) (by decide) (ce_M _) rfl wv_X6_150 ⟨rfl, rfl, ⟨Nat.le_of_ble_eq_true rfl, Nat.le_of_ble_eq_true rfl⟩, ⟨Nat.le_of_ble_eq_true rfl, Nat.le_of_ble_eq_true rfl⟩, Nat.le_of_ble_eq_true rfl⟩ (rest := []) rfl dX6_crossedIn_74 (fun r6 S5 H locs h C => ?_)
        refine lv_istore (lv' := [(4, .int r6), (0, .ref (ad 117)), (1, .int v1), (2, .int v2), (3, .int v3)]) F.x F.b dX6_crossedIn_77 hl (by decide) rfl (fun ls hl => ?_)
        obtain ⟨x7, ex7⟩ : ∃ z : Int32, z = v3 + (1 : Int32) := ⟨_, rfl⟩
        have h := h x7 ex7
        refine lv_iinc (v := x7) (lv' := [(3, .int x7), (4, .int r6), (0, .ref (ad 117)), (1, .int v1), (2, .int v2)]) F.x F.b dX6_crossedIn_79 hl (k := 4) rfl (by rw [ex7]; rfl) (by decide) rfl (fun ls hl => ?_)
        refine lv_goto (tgt := 57) F.x F.b dX6_crossedIn_82 (by decide) ?_
        exact ih S5 v1 v2 x7 _ _ _ h C (lv_sub hl [2, 3, 4, 0] rfl)
set_option maxRecDepth 100000 in
set_option maxHeartbeats 4000000 in
theorem kX6_crossedIn {l : Launch} {D : va_G} {ky : Nat → ClassId} {ad : Nat → Nat} {ex : Nat → Nat → Nat} {post : Int32 → Mem → Prop} {S : Mem} {v1 : Int32} (h : mX6_crossedIn post S v1) : CMi l D ky ad ex yX6_crossedIn cX6_crossedIn 5 (some .int) rmX6_crossedIn 0 0 [.ref (ad 117), .int v1] S post := by
  refine CMi.of (by decide) (Nat.le_of_ble_eq_true rfl) (fun p e s m args below meth c ls F hr C hl => ?_)
  have hl : lv_has ls 5 [(0, .ref (ad 117)), (1, .int v1)] := hl
  unfold mX6_crossedIn at h
  refine lv_aload_n F.x F.b dX6_crossedIn_0 rfl (lv_at hl 0 rfl) ?_
  refine lv_iconst (v := 0) F.x F.b dX6_crossedIn_1 (by decide) ?_
  refine putM F C 21 (by decide) q5_3 rfl (tyX6_ok 21 (by decide)) rfl rfl rfl dX6_crossedIn_2 (fun H locs C => ?_)
  obtain ⟨S1, eS1⟩ : ∃ z : Mem, z = wr S 10 0 21 (0 : Int32) := ⟨_, rfl⟩
  rw [← eS1] at C
  have h := h S1 eS1
  refine lv_aload_n F.x F.b dX6_crossedIn_5 rfl (lv_at hl 0 rfl) ?_
  refine lv_iload_n F.x F.b dX6_crossedIn_6 rfl (lv_at hl 1 rfl) ?_
  refine kI F C hl (kX6_isTraveller  h) (by decide) (ce_M _) rfl wv_X6_118 ⟨rfl, rfl, ⟨Nat.le_of_ble_eq_true rfl, Nat.le_of_ble_eq_true rfl⟩, ⟨Nat.le_of_ble_eq_true rfl, Nat.le_of_ble_eq_true rfl⟩, Nat.le_of_ble_eq_true rfl⟩ (rest := []) rfl dX6_crossedIn_7 (fun r3 S2 H locs h C => ?_)
  refine lv_if_ne (tgt := 19) F.x F.b dX6_crossedIn_10 (by decide) (fun g4 => ?_) (fun g4 => ?_)
  · have h := h.1 g4
    refine lv_aload_n F.x F.b dX6_crossedIn_19 rfl (lv_at hl 0 rfl) ?_
    refine lv_iload_n F.x F.b dX6_crossedIn_20 rfl (lv_at hl 1 rfl) ?_
    refine lv_iconst (v := 3) F.x F.b dX6_crossedIn_21 (by decide) ?_
    refine kI F C hl (kX6_of  h) (by decide) (ce_M _) rfl wv_X6_66 ⟨rfl, rfl, ⟨Nat.le_of_ble_eq_true rfl, Nat.le_of_ble_eq_true rfl⟩, ⟨Nat.le_of_ble_eq_true rfl, Nat.le_of_ble_eq_true rfl⟩, Nat.le_of_ble_eq_true rfl⟩ (rest := []) rfl dX6_crossedIn_22 (fun r6 S5 H locs h C => ?_)
    refine lv_if_ne (tgt := 34) F.x F.b dX6_crossedIn_25 (by decide) (fun g7 => ?_) (fun g7 => ?_)
    · have h := h.1 g7
      refine lv_aload_n F.x F.b dX6_crossedIn_34 rfl (lv_at hl 0 rfl) ?_
      refine lv_iload_n F.x F.b dX6_crossedIn_35 rfl (lv_at hl 1 rfl) ?_
      refine lv_iconst (v := 4) F.x F.b dX6_crossedIn_36 (by decide) ?_
      refine kI F C hl (kX6_of  h) (by decide) (ce_M _) rfl wv_X6_66 ⟨rfl, rfl, ⟨Nat.le_of_ble_eq_true rfl, Nat.le_of_ble_eq_true rfl⟩, ⟨Nat.le_of_ble_eq_true rfl, Nat.le_of_ble_eq_true rfl⟩, Nat.le_of_ble_eq_true rfl⟩ (rest := []) rfl dX6_crossedIn_37 (fun r9 S8 H locs h C => ?_)
      refine lv_iconst (v := 1) F.x F.b dX6_crossedIn_40 (by decide) ?_
      refine lv_icmp_ne (tgt := 49) F.x F.b dX6_crossedIn_41 (by decide) (fun g10 => ?_) (fun g10 => ?_)
      · have h := h.1 g10
        refine lv_iconst (v := -1) F.x F.b dX6_crossedIn_49 (by decide) ?_
        refine lv_istore_n (lv' := [(2, .int (-1 : Int32)), (0, .ref (ad 117)), (1, .int v1)]) F.x F.b dX6_crossedIn_50 rfl hl (by decide) rfl (fun ls hl => ?_)
        refine lv_aload_n F.x F.b dX6_crossedIn_51 rfl (lv_at hl 1 rfl) ?_
        refine kV F C hl (kX6_thinks  h) (by decide) (ce_M _) rfl wv_X6_153 ⟨rfl, rfl, ⟨Nat.le_of_ble_eq_true rfl, Nat.le_of_ble_eq_true rfl⟩, ⟨Nat.le_of_ble_eq_true rfl, Nat.le_of_ble_eq_true rfl⟩, Nat.le_of_ble_eq_true rfl⟩ (rest := []) rfl dX6_crossedIn_52 (fun S11 H locs h C => ?_)
        refine lv_iconst (v := 0) F.x F.b dX6_crossedIn_55 (by decide) ?_
        refine lv_istore_n (lv' := [(3, .int (0 : Int32)), (2, .int (-1 : Int32)), (0, .ref (ad 117)), (1, .int v1)]) F.x F.b dX6_crossedIn_56 rfl hl (by decide) rfl (fun ls hl => ?_)
        obtain ⟨n13, h⟩ := h
        exact bX6_crossedIn_57 F hr n13 S11 v1 (-1 : Int32) (0 : Int32) _ _ _ h C (lv_sub hl [2, 3, 1, 0] rfl)
      · have h := h.2 g10
        refine lv_bipush (v := 10) F.x F.b dX6_crossedIn_44 (by decide) ?_
        refine lv_goto (tgt := 50) F.x F.b dX6_crossedIn_46 (by decide) ?_
        refine lv_istore_n (lv' := [(2, .int (10 : Int32)), (0, .ref (ad 117)), (1, .int v1)]) F.x F.b dX6_crossedIn_50 rfl hl (by decide) rfl (fun ls hl => ?_)
        refine lv_aload_n F.x F.b dX6_crossedIn_51 rfl (lv_at hl 1 rfl) ?_
        refine kV F C hl (kX6_thinks  h) (by decide) (ce_M _) rfl wv_X6_153 ⟨rfl, rfl, ⟨Nat.le_of_ble_eq_true rfl, Nat.le_of_ble_eq_true rfl⟩, ⟨Nat.le_of_ble_eq_true rfl, Nat.le_of_ble_eq_true rfl⟩, Nat.le_of_ble_eq_true rfl⟩ (rest := []) rfl dX6_crossedIn_52 (fun S14 H locs h C => ?_)
        refine lv_iconst (v := 0) F.x F.b dX6_crossedIn_55 (by decide) ?_
        refine lv_istore_n (lv' := [(3, .int (0 : Int32)), (2, .int (10 : Int32)), (0, .ref (ad 117)), (1, .int v1)]) F.x F.b dX6_crossedIn_56 rfl hl (by decide) rfl (fun ls hl => ?_)
        obtain ⟨n16, h⟩ := h
        exact bX6_crossedIn_57 F hr n16 S14 v1 (10 : Int32) (0 : Int32) _ _ _ h C (lv_sub hl [2, 3, 1, 0] rfl)
    · have h := h.2 g7
      refine lv_aload_n F.x F.b dX6_crossedIn_28 rfl (lv_at hl 0 rfl) ?_
      refine lv_iconst (v := 2) F.x F.b dX6_crossedIn_29 (by decide) ?_
      refine kI F C hl (kX6_raises  h) (by decide) (ce_M _) rfl wv_X6_58 ⟨rfl, rfl, ⟨Nat.le_of_ble_eq_true rfl, Nat.le_of_ble_eq_true rfl⟩, ⟨Nat.le_of_ble_eq_true rfl, Nat.le_of_ble_eq_true rfl⟩, Nat.le_of_ble_eq_true rfl⟩ (rest := []) rfl dX6_crossedIn_30 (fun r18 S17 H locs h C => ?_)
      exact retI F hr C h dX6_crossedIn_33
  · have h := h.2 g4
    refine lv_aload_n F.x F.b dX6_crossedIn_13 rfl (lv_at hl 0 rfl) ?_
    refine lv_iconst (v := 1) F.x F.b dX6_crossedIn_14 (by decide) ?_
    refine kI F C hl (kX6_raises  h) (by decide) (ce_M _) rfl wv_X6_58 ⟨rfl, rfl, ⟨Nat.le_of_ble_eq_true rfl, Nat.le_of_ble_eq_true rfl⟩, ⟨Nat.le_of_ble_eq_true rfl, Nat.le_of_ble_eq_true rfl⟩, Nat.le_of_ble_eq_true rfl⟩ (rest := []) rfl dX6_crossedIn_15 (fun r20 S19 H locs h C => ?_)
    exact retI F hr C h dX6_crossedIn_18

def rmX6_awashFor : Room := { frames := 3, cells := 0, slots := 0, locals := 66 }
def mX6_awashFor_b4 (post : Int32 → Mem → Prop) : Nat → Mem → Int32 → Int32 → Int32 → Prop
  | 0, _, _, _, _ => False
  | n + 1, S, v1, v2, v3 => (((10 : Int32) ≤ v3 → (post v2 S)) ∧ (¬ (10 : Int32) ≤ v3 → (mX6_can (fun (r3 : Int32) (S2 : Mem) => ((¬ r3 = 0 → (mX6_state (fun (r6 : Int32) (S5 : Mem) => ((¬ r6 = (1 : Int32) → (∀ x8 : Int32, x8 = v3 + (1 : Int32) → mX6_awashFor_b4 post n S5 v1 v2 x8)) ∧ (r6 = (1 : Int32) → (∀ x9 : Int32, x9 = v2 + (1 : Int32) → ∀ x10 : Int32, x10 = v3 + (1 : Int32) → mX6_awashFor_b4 post n S5 v1 x9 x10)))) S2 v3)) ∧ (r3 = 0 → (post (-1 : Int32) S2)))) S v1 ((v3 - (1 : Int32))) v3)))
def mX6_awashFor (post : Int32 → Mem → Prop) (S : Mem) (v1 : Int32) : Prop := ∃ fu : Nat, mX6_awashFor_b4 post fu S v1 (0 : Int32) (0 : Int32)
set_option maxRecDepth 100000 in
set_option maxHeartbeats 4000000 in
theorem bX6_awashFor_4 {p : Program} {l : Launch} {e : Env} {s : State} {m : MethodId} {args : Array Value} {below : List Frame} {meth : Method} {c : Code} {D : va_G} {ky : Nat → ClassId} {ad : Nat → Nat} {ex : Nat → Nat → Nat} (F : Fx p s m args meth c D ky ad ex cX6_awashFor 4 yX6_awashFor.cls) (hr : meth.sig.returnType = (some .int)) {post : Int32 → Mem → Prop} : ∀ (n : Nat) (S : Mem) (v1 : Int32) (v2 : Int32) (v3 : Int32) (H : Heap) (locs : List Loc) (ls : Array Slot), mX6_awashFor_b4 post n S v1 v2 v3 → Cx D ky ad s S H locs → lv_has ls 4 [(0, .ref (ad 117)), (1, .int v1), (2, .int v2), (3, .int v3)] → W p l e rmX6_awashFor s m args below meth c H locs 0 0 (MQ below (va_Qi post (AFT D ky ad) (AW ad s.heap.size)) args s 0 0 (AW ad s.heap.size)) (F0 m 4 ls []) := by
  intro n
  induction n with
  | zero =>
    intro S v1 v2 v3 H locs ls  h
    exact False.elim h
  | succ n ih =>
    intro S v1 v2 v3 H locs ls  h C hl
    refine lv_iload_n F.x F.b dX6_awashFor_4 rfl (lv_at hl 3 rfl) ?_
    refine lv_bipush (v := 10) F.x F.b dX6_awashFor_5 (by decide) ?_
    refine lv_icmp_ge (tgt := 42) F.x F.b dX6_awashFor_7 (by decide) (fun g1 => ?_) (fun g1 => ?_)
    · have h := h.1 g1
      refine lv_iload_n F.x F.b dX6_awashFor_42 rfl (lv_at hl 2 rfl) ?_
      exact retI F hr C h dX6_awashFor_43
    · have h := h.2 g1
      refine lv_aload_n F.x F.b dX6_awashFor_10 rfl (lv_at hl 0 rfl) ?_
      refine lv_iload_n F.x F.b dX6_awashFor_11 rfl (lv_at hl 1 rfl) ?_
      refine lv_iload_n F.x F.b dX6_awashFor_12 rfl (lv_at hl 3 rfl) ?_
      refine lv_iconst (v := 1) F.x F.b dX6_awashFor_13 (by decide) ?_
      refine lv_isub F.x F.b dX6_awashFor_14 ?_
      refine lv_iload_n F.x F.b dX6_awashFor_15 rfl (lv_at hl 3 rfl) ?_
      refine kI F C hl (kX6_can  h) (by decide) (ce_M _) rfl wv_X6_137 ⟨rfl, rfl, ⟨Nat.le_of_ble_eq_true rfl, Nat.le_of_ble_eq_true rfl⟩, ⟨Nat.le_of_ble_eq_true rfl, Nat.le_of_ble_eq_true rfl⟩, Nat.le_of_ble_eq_true rfl⟩ (rest := []) rfl dX6_awashFor_16 (fun r3 S2 H locs h C => ?_)
      refine lv_if_ne (tgt := 24) F.x F.b dX6_awashFor_19 (by decide) (fun g4 => ?_) (fun g4 => ?_)
      · have h := h.1 g4
        refine lv_aload_n F.x F.b dX6_awashFor_24 rfl (lv_at hl 0 rfl) ?_
        refine lv_iload_n F.x F.b dX6_awashFor_25 rfl (lv_at hl 3 rfl) ?_
        refine kI F C hl (kX6_state  h) (by decide) (ce_M _) rfl wv_X6_99 ⟨rfl, rfl, ⟨Nat.le_of_ble_eq_true rfl, Nat.le_of_ble_eq_true rfl⟩, ⟨Nat.le_of_ble_eq_true rfl, Nat.le_of_ble_eq_true rfl⟩, Nat.le_of_ble_eq_true rfl⟩ (rest := []) rfl dX6_awashFor_26 (fun r6 S5 H locs h C => ?_)
        refine lv_iconst (v := 1) F.x F.b dX6_awashFor_29 (by decide) ?_
        refine lv_icmp_ne (tgt := 36) F.x F.b dX6_awashFor_30 (by decide) (fun g7 => ?_) (fun g7 => ?_)
        · have h := h.1 g7
          obtain ⟨x8, ex8⟩ : ∃ z : Int32, z = v3 + (1 : Int32) := ⟨_, rfl⟩
          have h := h x8 ex8
          refine lv_iinc (v := x8) (lv' := [(3, .int x8), (0, .ref (ad 117)), (1, .int v1), (2, .int v2)]) F.x F.b dX6_awashFor_36 hl (k := 3) rfl (by rw [ex8]; rfl) (by decide) rfl (fun ls hl => ?_)
          refine lv_goto (tgt := 4) F.x F.b dX6_awashFor_39 (by decide) ?_
          exact ih S5 v1 v2 x8 _ _ _ h C (lv_sub hl [1, 2, 3, 0] rfl)
        · have h := h.2 g7
          obtain ⟨x9, ex9⟩ : ∃ z : Int32, z = v2 + (1 : Int32) := ⟨_, rfl⟩
          have h := h x9 ex9
          refine lv_iinc (v := x9) (lv' := [(2, .int x9), (0, .ref (ad 117)), (1, .int v1), (3, .int v3)]) F.x F.b dX6_awashFor_33 hl (k := 2) rfl (by rw [ex9]; rfl) (by decide) rfl (fun ls hl => ?_)
          obtain ⟨x10, ex10⟩ : ∃ z : Int32, z = v3 + (1 : Int32) := ⟨_, rfl⟩
          have h := h x10 ex10
          refine lv_iinc (v := x10) (lv' := [(3, .int x10), (2, .int x9), (0, .ref (ad 117)), (1, .int v1)]) F.x F.b dX6_awashFor_36 hl (k := 3) rfl (by rw [ex10]; rfl) (by decide) rfl (fun ls hl => ?_)
          refine lv_goto (tgt := 4) F.x F.b dX6_awashFor_39 (by decide) ?_
          exact ih S5 v1 x9 x10 _ _ _ h C (lv_sub hl [2, 3, 1, 0] rfl)
      · have h := h.2 g4
        refine lv_iconst (v := -1) F.x F.b dX6_awashFor_22 (by decide) ?_
        exact retI F hr C h dX6_awashFor_23
set_option maxRecDepth 100000 in
set_option maxHeartbeats 4000000 in
theorem kX6_awashFor {l : Launch} {D : va_G} {ky : Nat → ClassId} {ad : Nat → Nat} {ex : Nat → Nat → Nat} {post : Int32 → Mem → Prop} {S : Mem} {v1 : Int32} (h : mX6_awashFor post S v1) : CMi l D ky ad ex yX6_awashFor cX6_awashFor 4 (some .int) rmX6_awashFor 0 0 [.ref (ad 117), .int v1] S post := by
  refine CMi.of (by decide) (Nat.le_of_ble_eq_true rfl) (fun p e s m args below meth c ls F hr C hl => ?_)
  have hl : lv_has ls 4 [(0, .ref (ad 117)), (1, .int v1)] := hl
  unfold mX6_awashFor at h
  refine lv_iconst (v := 0) F.x F.b dX6_awashFor_0 (by decide) ?_
  refine lv_istore_n (lv' := [(2, .int (0 : Int32)), (0, .ref (ad 117)), (1, .int v1)]) F.x F.b dX6_awashFor_1 rfl hl (by decide) rfl (fun ls hl => ?_)
  refine lv_iconst (v := 0) F.x F.b dX6_awashFor_2 (by decide) ?_
  refine lv_istore_n (lv' := [(3, .int (0 : Int32)), (2, .int (0 : Int32)), (0, .ref (ad 117)), (1, .int v1)]) F.x F.b dX6_awashFor_3 rfl hl (by decide) rfl (fun ls hl => ?_)
  obtain ⟨n1, h⟩ := h
  exact bX6_awashFor_4 F hr n1 S v1 (0 : Int32) (0 : Int32) _ _ _ h C (lv_sub hl [2, 3, 1, 0] rfl)

def rmX6_wetSteps : Room := { frames := 4, cells := 0, slots := 0, locals := 89 }
def mX6_wetSteps (post : Int32 → Mem → Prop) (S : Mem) (v1 : Int32) : Prop := ∀ S1 : Mem, S1 = wr S 10 0 21 (0 : Int32) → mX6_in (fun (r3 : Int32) (S2 : Mem) => ((¬ r3 = 0 → (mX6_awashFor (fun (r6 : Int32) (S5 : Mem) => ((0 ≤ r6 → (post r6 S5)) ∧ (¬ 0 ≤ r6 → (mX6_raises (fun (r9 : Int32) (S8 : Mem) => post r9 S8) S5 (2 : Int32))))) S2 v1)) ∧ (r3 = 0 → (mX6_raises (fun (r11 : Int32) (S10 : Mem) => post r11 S10) S2 (1 : Int32))))) S1 v1 (0 : Int32) (2 : Int32)
set_option maxRecDepth 100000 in
set_option maxHeartbeats 4000000 in
theorem kX6_wetSteps {l : Launch} {D : va_G} {ky : Nat → ClassId} {ad : Nat → Nat} {ex : Nat → Nat → Nat} {post : Int32 → Mem → Prop} {S : Mem} {v1 : Int32} (h : mX6_wetSteps post S v1) : CMi l D ky ad ex yX6_wetSteps cX6_wetSteps 3 (some .int) rmX6_wetSteps 0 0 [.ref (ad 117), .int v1] S post := by
  refine CMi.of (by decide) (Nat.le_of_ble_eq_true rfl) (fun p e s m args below meth c ls F hr C hl => ?_)
  have hl : lv_has ls 3 [(0, .ref (ad 117)), (1, .int v1)] := hl
  unfold mX6_wetSteps at h
  refine lv_aload_n F.x F.b dX6_wetSteps_0 rfl (lv_at hl 0 rfl) ?_
  refine lv_iconst (v := 0) F.x F.b dX6_wetSteps_1 (by decide) ?_
  refine putM F C 21 (by decide) q5_3 rfl (tyX6_ok 21 (by decide)) rfl rfl rfl dX6_wetSteps_2 (fun H locs C => ?_)
  obtain ⟨S1, eS1⟩ : ∃ z : Mem, z = wr S 10 0 21 (0 : Int32) := ⟨_, rfl⟩
  rw [← eS1] at C
  have h := h S1 eS1
  refine lv_iload_n F.x F.b dX6_wetSteps_5 rfl (lv_at hl 1 rfl) ?_
  refine lv_iconst (v := 0) F.x F.b dX6_wetSteps_6 (by decide) ?_
  refine lv_iconst (v := 2) F.x F.b dX6_wetSteps_7 (by decide) ?_
  refine kSI F C hl (kX6_in  h) wv_X6_62 ⟨rfl, rfl, ⟨Nat.le_of_ble_eq_true rfl, Nat.le_of_ble_eq_true rfl⟩, ⟨Nat.le_of_ble_eq_true rfl, Nat.le_of_ble_eq_true rfl⟩, Nat.le_of_ble_eq_true rfl⟩ (rest := []) rfl dX6_wetSteps_8 (fun r3 S2 H locs h C => ?_)
  refine lv_if_ne (tgt := 20) F.x F.b dX6_wetSteps_11 (by decide) (fun g4 => ?_) (fun g4 => ?_)
  · have h := h.1 g4
    refine lv_aload_n F.x F.b dX6_wetSteps_20 rfl (lv_at hl 0 rfl) ?_
    refine lv_iload_n F.x F.b dX6_wetSteps_21 rfl (lv_at hl 1 rfl) ?_
    refine kI F C hl (kX6_awashFor  h) (by decide) (ce_M _) rfl wv_X6_159 ⟨rfl, rfl, ⟨Nat.le_of_ble_eq_true rfl, Nat.le_of_ble_eq_true rfl⟩, ⟨Nat.le_of_ble_eq_true rfl, Nat.le_of_ble_eq_true rfl⟩, Nat.le_of_ble_eq_true rfl⟩ (rest := []) rfl dX6_wetSteps_22 (fun r6 S5 H locs h C => ?_)
    refine lv_istore_n (lv' := [(2, .int r6), (0, .ref (ad 117)), (1, .int v1)]) F.x F.b dX6_wetSteps_25 rfl hl (by decide) rfl (fun ls hl => ?_)
    refine lv_iload_n F.x F.b dX6_wetSteps_26 rfl (lv_at hl 0 rfl) ?_
    refine lv_if_ge (tgt := 38) F.x F.b dX6_wetSteps_27 (by decide) (fun g7 => ?_) (fun g7 => ?_)
    · have h := h.1 g7
      refine lv_iload_n F.x F.b dX6_wetSteps_38 rfl (lv_at hl 0 rfl) ?_
      exact retI F hr C h dX6_wetSteps_39
    · have h := h.2 g7
      refine lv_aload_n F.x F.b dX6_wetSteps_30 rfl (lv_at hl 1 rfl) ?_
      refine lv_iconst (v := 2) F.x F.b dX6_wetSteps_31 (by decide) ?_
      refine kI F C hl (kX6_raises  h) (by decide) (ce_M _) rfl wv_X6_58 ⟨rfl, rfl, ⟨Nat.le_of_ble_eq_true rfl, Nat.le_of_ble_eq_true rfl⟩, ⟨Nat.le_of_ble_eq_true rfl, Nat.le_of_ble_eq_true rfl⟩, Nat.le_of_ble_eq_true rfl⟩ (rest := []) rfl dX6_wetSteps_32 (fun r9 S8 H locs h C => ?_)
      refine lv_goto (tgt := 39) F.x F.b dX6_wetSteps_35 (by decide) ?_
      exact retI F hr C h dX6_wetSteps_39
  · have h := h.2 g4
    refine lv_aload_n F.x F.b dX6_wetSteps_14 rfl (lv_at hl 0 rfl) ?_
    refine lv_iconst (v := 1) F.x F.b dX6_wetSteps_15 (by decide) ?_
    refine kI F C hl (kX6_raises  h) (by decide) (ce_M _) rfl wv_X6_58 ⟨rfl, rfl, ⟨Nat.le_of_ble_eq_true rfl, Nat.le_of_ble_eq_true rfl⟩, ⟨Nat.le_of_ble_eq_true rfl, Nat.le_of_ble_eq_true rfl⟩, Nat.le_of_ble_eq_true rfl⟩ (rest := []) rfl dX6_wetSteps_16 (fun r11 S10 H locs h C => ?_)
    exact retI F hr C h dX6_wetSteps_19

def rmX6_kinds : Room := { frames := 4, cells := 0, slots := 0, locals := 89 }
def mX6_kinds_b9 (post : Int32 → Mem → Prop) : Nat → Mem → Int32 → Int32 → Prop
  | 0, _, _, _ => False
  | n + 1, S, v1, v2 => (((3 : Int32) ≤ v2 → (post v1 S)) ∧ (¬ (3 : Int32) ≤ v2 → (mX6_awashFor (fun (r3 : Int32) (S2 : Mem) => ((r3 < 0 → (∀ x5 : Int32, x5 = v2 + (1 : Int32) → mX6_kinds_b9 post n S2 v1 x5)) ∧ (¬ r3 < 0 → (∀ x6 : Int32, x6 = (v1 ||| ((1 : Int32) <<< (v2 &&& 31))) → ∀ x7 : Int32, x7 = v2 + (1 : Int32) → mX6_kinds_b9 post n S2 x6 x7)))) S v2)))
def mX6_kinds (post : Int32 → Mem → Prop) (S : Mem) : Prop := ∀ S1 : Mem, S1 = wr S 10 0 21 (0 : Int32) → ∃ fu : Nat, mX6_kinds_b9 post fu S1 (0 : Int32) (0 : Int32)
set_option maxRecDepth 100000 in
set_option maxHeartbeats 4000000 in
theorem bX6_kinds_9 {p : Program} {l : Launch} {e : Env} {s : State} {m : MethodId} {args : Array Value} {below : List Frame} {meth : Method} {c : Code} {D : va_G} {ky : Nat → ClassId} {ad : Nat → Nat} {ex : Nat → Nat → Nat} (F : Fx p s m args meth c D ky ad ex cX6_kinds 3 yX6_kinds.cls) (hr : meth.sig.returnType = (some .int)) {post : Int32 → Mem → Prop} : ∀ (n : Nat) (S : Mem) (v1 : Int32) (v2 : Int32) (H : Heap) (locs : List Loc) (ls : Array Slot), mX6_kinds_b9 post n S v1 v2 → Cx D ky ad s S H locs → lv_has ls 3 [(0, .ref (ad 117)), (1, .int v1), (2, .int v2)] → W p l e rmX6_kinds s m args below meth c H locs 0 0 (MQ below (va_Qi post (AFT D ky ad) (AW ad s.heap.size)) args s 0 0 (AW ad s.heap.size)) (F0 m 9 ls []) := by
  intro n
  induction n with
  | zero =>
    intro S v1 v2 H locs ls  h
    exact False.elim h
  | succ n ih =>
    intro S v1 v2 H locs ls  h C hl
    refine lv_iload_n F.x F.b dX6_kinds_9 rfl (lv_at hl 2 rfl) ?_
    refine lv_iconst (v := 3) F.x F.b dX6_kinds_10 (by decide) ?_
    refine lv_icmp_ge (tgt := 34) F.x F.b dX6_kinds_11 (by decide) (fun g1 => ?_) (fun g1 => ?_)
    · have h := h.1 g1
      refine lv_iload_n F.x F.b dX6_kinds_34 rfl (lv_at hl 1 rfl) ?_
      exact retI F hr C h dX6_kinds_35
    · have h := h.2 g1
      refine lv_aload_n F.x F.b dX6_kinds_14 rfl (lv_at hl 0 rfl) ?_
      refine lv_iload_n F.x F.b dX6_kinds_15 rfl (lv_at hl 2 rfl) ?_
      refine kI F C hl (kX6_awashFor  h) (by decide) (ce_M _) rfl wv_X6_159 ⟨rfl, rfl, ⟨Nat.le_of_ble_eq_true rfl, Nat.le_of_ble_eq_true rfl⟩, ⟨Nat.le_of_ble_eq_true rfl, Nat.le_of_ble_eq_true rfl⟩, Nat.le_of_ble_eq_true rfl⟩ (rest := []) rfl dX6_kinds_16 (fun r3 S2 H locs h C => ?_)
      refine lv_if_lt (tgt := 28) F.x F.b dX6_kinds_19 (by decide) (fun g4 => ?_) (fun g4 => ?_)
      · have h := h.1 g4
        obtain ⟨x5, ex5⟩ : ∃ z : Int32, z = v2 + (1 : Int32) := ⟨_, rfl⟩
        have h := h x5 ex5
        refine lv_iinc (v := x5) (lv' := [(2, .int x5), (0, .ref (ad 117)), (1, .int v1)]) F.x F.b dX6_kinds_28 hl (k := 2) rfl (by rw [ex5]; rfl) (by decide) rfl (fun ls hl => ?_)
        refine lv_goto (tgt := 9) F.x F.b dX6_kinds_31 (by decide) ?_
        exact ih S2 v1 x5 _ _ _ h C (lv_sub hl [1, 2, 0] rfl)
      · have h := h.2 g4
        refine lv_iload_n F.x F.b dX6_kinds_22 rfl (lv_at hl 1 rfl) ?_
        refine lv_iconst (v := 1) F.x F.b dX6_kinds_23 (by decide) ?_
        refine lv_iload_n F.x F.b dX6_kinds_24 rfl (lv_at hl 2 rfl) ?_
        refine lv_ishl F.x F.b dX6_kinds_25 ?_
        refine lv_ior F.x F.b dX6_kinds_26 ?_
        refine lv_topi (fun x6 ex6 => ?_)
        have h := h x6 ex6
        refine lv_istore_n (lv' := [(1, .int x6), (0, .ref (ad 117)), (2, .int v2)]) F.x F.b dX6_kinds_27 rfl hl (by decide) rfl (fun ls hl => ?_)
        obtain ⟨x7, ex7⟩ : ∃ z : Int32, z = v2 + (1 : Int32) := ⟨_, rfl⟩
        have h := h x7 ex7
        refine lv_iinc (v := x7) (lv' := [(2, .int x7), (1, .int x6), (0, .ref (ad 117))]) F.x F.b dX6_kinds_28 hl (k := 2) rfl (by rw [ex7]; rfl) (by decide) rfl (fun ls hl => ?_)
        refine lv_goto (tgt := 9) F.x F.b dX6_kinds_31 (by decide) ?_
        exact ih S2 x6 x7 _ _ _ h C (lv_sub hl [2, 1, 0] rfl)
set_option maxRecDepth 100000 in
set_option maxHeartbeats 4000000 in
theorem kX6_kinds {l : Launch} {D : va_G} {ky : Nat → ClassId} {ad : Nat → Nat} {ex : Nat → Nat → Nat} {post : Int32 → Mem → Prop} {S : Mem} (h : mX6_kinds post S ) : CMi l D ky ad ex yX6_kinds cX6_kinds 3 (some .int) rmX6_kinds 0 0 [.ref (ad 117)] S post := by
  refine CMi.of (by decide) (Nat.le_of_ble_eq_true rfl) (fun p e s m args below meth c ls F hr C hl => ?_)
  have hl : lv_has ls 3 [(0, .ref (ad 117))] := hl
  unfold mX6_kinds at h
  refine lv_aload_n F.x F.b dX6_kinds_0 rfl (lv_at hl 0 rfl) ?_
  refine lv_iconst (v := 0) F.x F.b dX6_kinds_1 (by decide) ?_
  refine putM F C 21 (by decide) q5_3 rfl (tyX6_ok 21 (by decide)) rfl rfl rfl dX6_kinds_2 (fun H locs C => ?_)
  obtain ⟨S1, eS1⟩ : ∃ z : Mem, z = wr S 10 0 21 (0 : Int32) := ⟨_, rfl⟩
  rw [← eS1] at C
  have h := h S1 eS1
  refine lv_iconst (v := 0) F.x F.b dX6_kinds_5 (by decide) ?_
  refine lv_istore_n (lv' := [(1, .int (0 : Int32)), (0, .ref (ad 117))]) F.x F.b dX6_kinds_6 rfl hl (by decide) rfl (fun ls hl => ?_)
  refine lv_iconst (v := 0) F.x F.b dX6_kinds_7 (by decide) ?_
  refine lv_istore_n (lv' := [(2, .int (0 : Int32)), (1, .int (0 : Int32)), (0, .ref (ad 117))]) F.x F.b dX6_kinds_8 rfl hl (by decide) rfl (fun ls hl => ?_)
  obtain ⟨n2, h⟩ := h
  exact bX6_kinds_9 F hr n2 S1 (0 : Int32) (0 : Int32) _ _ _ h C (lv_sub hl [2, 1, 0] rfl)

def rmX6_type : Room := { frames := 1, cells := 0, slots := 0, locals := 21 }
def mX6_type (post : Int32 → Mem → Prop) (S : Mem) (v1 : Int32) : Prop := ∀ S1 : Mem, S1 = wr S 10 0 21 (0 : Int32) → ((¬ (S1 10 0 10) = (60 : Int32) → (∀ x3 : Int32, x3 = (S1 10 0 10) → ∀ S4 : Mem, S4 = wr S1 10 0 10 (x3 + (1 : Int32)) → vp_in x3 60 ∧ isC v1 ∧ ∀ S7 : Mem, S7 = wr S4 17 0 x3.toNatClampNeg v1 → post (S7 10 0 10) S7)) ∧ ((S1 10 0 10) = (60 : Int32) → (mX6_raises (fun (r9 : Int32) (S8 : Mem) => post r9 S8) S1 (1 : Int32))))
set_option maxRecDepth 100000 in
set_option maxHeartbeats 4000000 in
theorem kX6_type {l : Launch} {D : va_G} {ky : Nat → ClassId} {ad : Nat → Nat} {ex : Nat → Nat → Nat} {post : Int32 → Mem → Prop} {S : Mem} {v1 : Int32} (h : mX6_type post S v1) : CMi l D ky ad ex yX6_type cX6_type 2 (some .int) rmX6_type 0 0 [.ref (ad 117), .int v1] S post := by
  refine CMi.of (by decide) (Nat.le_of_ble_eq_true rfl) (fun p e s m args below meth c ls F hr C hl => ?_)
  have hl : lv_has ls 2 [(0, .ref (ad 117)), (1, .int v1)] := hl
  unfold mX6_type at h
  refine lv_aload_n F.x F.b dX6_type_0 rfl (lv_at hl 0 rfl) ?_
  refine lv_iconst (v := 0) F.x F.b dX6_type_1 (by decide) ?_
  refine putM F C 21 (by decide) q5_3 rfl (tyX6_ok 21 (by decide)) rfl rfl rfl dX6_type_2 (fun H locs C => ?_)
  obtain ⟨S1, eS1⟩ : ∃ z : Mem, z = wr S 10 0 21 (0 : Int32) := ⟨_, rfl⟩
  rw [← eS1] at C
  have h := h S1 eS1
  refine lv_aload_n F.x F.b dX6_type_5 rfl (lv_at hl 0 rfl) ?_
  refine getM F C 10 (by decide) q4_232 (v := .int (S1 10 0 10)) rfl dX6_type_6 ?_
  refine lv_bipush (v := 60) F.x F.b dX6_type_9 (by decide) ?_
  refine lv_icmp_ne (tgt := 20) F.x F.b dX6_type_11 (by decide) (fun g2 => ?_) (fun g2 => ?_)
  · have h := h.1 g2
    refine lv_aload_n F.x F.b dX6_type_20 rfl (lv_at hl 0 rfl) ?_
    refine getM F C 9 (by decide) q4_231 (v := .ref (ad 124)) rfl dX6_type_21 ?_
    refine lv_aload_n F.x F.b dX6_type_24 rfl (lv_at hl 0 rfl) ?_
    refine lv_dup F.x F.b dX6_type_25 rfl ?_
    refine getM F C 10 (by decide) q4_232 (v := .int (S1 10 0 10)) rfl dX6_type_26 ?_
    refine lv_topi (fun x3 ex3 => ?_)
    have h := h x3 ex3
    refine lv_dup_x1 F.x F.b dX6_type_29 rfl rfl ?_
    refine lv_iconst (v := 1) F.x F.b dX6_type_30 (by decide) ?_
    refine lv_iadd F.x F.b dX6_type_31 ?_
    refine putM F C 10 (by decide) q4_232 rfl (tyX6_ok 10 (by decide)) rfl rfl rfl dX6_type_32 (fun H locs C => ?_)
    obtain ⟨S4, eS4⟩ : ∃ z : Mem, z = wr S1 10 0 10 (x3 + (1 : Int32)) := ⟨_, rfl⟩
    rw [← eS4] at C
    have h := h S4 eS4
    refine lv_iload_n F.x F.b dX6_type_35 rfl (lv_at hl 1 rfl) ?_
    obtain ⟨g5, h⟩ := h
    obtain ⟨g6, h⟩ := h
    refine astC F C (o := 124) (cq := 17) (iq := 0) (by decide) rfl rfl (fun _ => rfl) g5 g6 dX6_type_36 (fun H locs C => ?_)
    obtain ⟨S7, eS7⟩ : ∃ z : Mem, z = wr S4 17 0 x3.toNatClampNeg v1 := ⟨_, rfl⟩
    rw [← eS7] at C
    have h := h S7 eS7
    refine lv_aload_n F.x F.b dX6_type_37 rfl (lv_at hl 0 rfl) ?_
    refine getM F C 10 (by decide) q4_232 (v := .int (S7 10 0 10)) rfl dX6_type_38 ?_
    exact retI F hr C h dX6_type_41
  · have h := h.2 g2
    refine lv_aload_n F.x F.b dX6_type_14 rfl (lv_at hl 0 rfl) ?_
    refine lv_iconst (v := 1) F.x F.b dX6_type_15 (by decide) ?_
    refine kI F C hl (kX6_raises  h) (by decide) (ce_M _) rfl wv_X6_58 ⟨rfl, rfl, ⟨Nat.le_of_ble_eq_true rfl, Nat.le_of_ble_eq_true rfl⟩, ⟨Nat.le_of_ble_eq_true rfl, Nat.le_of_ble_eq_true rfl⟩, Nat.le_of_ble_eq_true rfl⟩ (rest := []) rfl dX6_type_16 (fun r9 S8 H locs h C => ?_)
    exact retI F hr C h dX6_type_19

def rmX6_isNext : Room := { frames := 0, cells := 0, slots := 0, locals := 0 }
def mX6_isNext (post : Int32 → Mem → Prop) (S : Mem) (v1 : Int32) : Prop := (((S 10 0 10) ≤ (S 10 0 11) → (post (0 : Int32) S)) ∧ (¬ (S 10 0 10) ≤ (S 10 0 11) → (vp_in (S 10 0 11) 60 ∧ ((¬ (S 17 0 (S 10 0 11).toNatClampNeg) = v1 → (post (0 : Int32) S)) ∧ ((S 17 0 (S 10 0 11).toNatClampNeg) = v1 → (post (1 : Int32) S))))))
set_option maxRecDepth 100000 in
set_option maxHeartbeats 4000000 in
theorem kX6_isNext {l : Launch} {D : va_G} {ky : Nat → ClassId} {ad : Nat → Nat} {ex : Nat → Nat → Nat} {post : Int32 → Mem → Prop} {S : Mem} {v1 : Int32} (h : mX6_isNext post S v1) : CMi l D ky ad ex yX6_isNext cX6_isNext 2 (some .boolean) rmX6_isNext 0 0 [.ref (ad 117), .int v1] S post := by
  refine CMi.of (by decide) (Nat.le_of_ble_eq_true rfl) (fun p e s m args below meth c ls F hr C hl => ?_)
  have hl : lv_has ls 2 [(0, .ref (ad 117)), (1, .int v1)] := hl
  unfold mX6_isNext at h
  refine lv_aload_n F.x F.b dX6_isNext_0 rfl (lv_at hl 0 rfl) ?_
  refine getM F C 11 (by decide) q4_233 (v := .int (S 10 0 11)) rfl dX6_isNext_1 ?_
  refine lv_aload_n F.x F.b dX6_isNext_4 rfl (lv_at hl 0 rfl) ?_
  refine getM F C 10 (by decide) q4_232 (v := .int (S 10 0 10)) rfl dX6_isNext_5 ?_
  refine lv_icmp_ge (tgt := 28) F.x F.b dX6_isNext_8 (by decide) (fun g1 => ?_) (fun g1 => ?_)
  · have h := h.1 g1
    refine lv_iconst (v := 0) F.x F.b dX6_isNext_28 (by decide) ?_
    exact retZ F hr C rfl h dX6_isNext_29
  · have h := h.2 g1
    refine lv_aload_n F.x F.b dX6_isNext_11 rfl (lv_at hl 0 rfl) ?_
    refine getM F C 9 (by decide) q4_231 (v := .ref (ad 124)) rfl dX6_isNext_12 ?_
    refine lv_aload_n F.x F.b dX6_isNext_15 rfl (lv_at hl 0 rfl) ?_
    refine getM F C 11 (by decide) q4_233 (v := .int (S 10 0 11)) rfl dX6_isNext_16 ?_
    obtain ⟨g2, h⟩ := h
    refine aldC F C (o := 124) (cq := 17) (iq := 0) (by decide) rfl rfl rfl g2 dX6_isNext_19 ?_
    refine lv_iload_n F.x F.b dX6_isNext_20 rfl (lv_at hl 1 rfl) ?_
    refine lv_icmp_ne (tgt := 28) F.x F.b dX6_isNext_21 (by decide) (fun g3 => ?_) (fun g3 => ?_)
    · have h := h.1 g3
      refine lv_iconst (v := 0) F.x F.b dX6_isNext_28 (by decide) ?_
      exact retZ F hr C rfl h dX6_isNext_29
    · have h := h.2 g3
      refine lv_iconst (v := 1) F.x F.b dX6_isNext_24 (by decide) ?_
      refine lv_goto (tgt := 29) F.x F.b dX6_isNext_25 (by decide) ?_
      exact retZ F hr C rfl h dX6_isNext_29

def rmX6_takes : Room := { frames := 1, cells := 0, slots := 0, locals := 21 }
def mX6_takes (post : Int32 → Mem → Prop) (S : Mem) (v1 : Int32) : Prop := mX6_isNext (fun (r2 : Int32) (S1 : Mem) => ((¬ r2 = 0 → (∀ S4 : Mem, S4 = wr S1 10 0 11 ((S1 10 0 11) + (1 : Int32)) → post (1 : Int32) S4)) ∧ (r2 = 0 → (post (0 : Int32) S1)))) S v1
set_option maxRecDepth 100000 in
set_option maxHeartbeats 4000000 in
theorem kX6_takes {l : Launch} {D : va_G} {ky : Nat → ClassId} {ad : Nat → Nat} {ex : Nat → Nat → Nat} {post : Int32 → Mem → Prop} {S : Mem} {v1 : Int32} (h : mX6_takes post S v1) : CMi l D ky ad ex yX6_takes cX6_takes 2 (some .boolean) rmX6_takes 0 0 [.ref (ad 117), .int v1] S post := by
  refine CMi.of (by decide) (Nat.le_of_ble_eq_true rfl) (fun p e s m args below meth c ls F hr C hl => ?_)
  have hl : lv_has ls 2 [(0, .ref (ad 117)), (1, .int v1)] := hl
  unfold mX6_takes at h
  refine lv_aload_n F.x F.b dX6_takes_0 rfl (lv_at hl 0 rfl) ?_
  refine lv_iload_n F.x F.b dX6_takes_1 rfl (lv_at hl 1 rfl) ?_
  refine kI F C hl (kX6_isNext  h) (by decide) (ce_M _) rfl wv_X6_168 ⟨rfl, rfl, ⟨Nat.le_of_ble_eq_true rfl, Nat.le_of_ble_eq_true rfl⟩, ⟨Nat.le_of_ble_eq_true rfl, Nat.le_of_ble_eq_true rfl⟩, Nat.le_of_ble_eq_true rfl⟩ (rest := []) rfl dX6_takes_2 (fun r2 S1 H locs h C => ?_)
  refine lv_if_ne (tgt := 10) F.x F.b dX6_takes_5 (by decide) (fun g3 => ?_) (fun g3 => ?_)
  · have h := h.1 g3
    refine lv_aload_n F.x F.b dX6_takes_10 rfl (lv_at hl 0 rfl) ?_
    refine lv_dup F.x F.b dX6_takes_11 rfl ?_
    refine getM F C 11 (by decide) q4_233 (v := .int (S1 10 0 11)) rfl dX6_takes_12 ?_
    refine lv_iconst (v := 1) F.x F.b dX6_takes_15 (by decide) ?_
    refine lv_iadd F.x F.b dX6_takes_16 ?_
    refine putM F C 11 (by decide) q4_233 rfl (tyX6_ok 11 (by decide)) rfl rfl rfl dX6_takes_17 (fun H locs C => ?_)
    obtain ⟨S4, eS4⟩ : ∃ z : Mem, z = wr S1 10 0 11 ((S1 10 0 11) + (1 : Int32)) := ⟨_, rfl⟩
    rw [← eS4] at C
    have h := h S4 eS4
    refine lv_iconst (v := 1) F.x F.b dX6_takes_20 (by decide) ?_
    exact retZ F hr C rfl h dX6_takes_21
  · have h := h.2 g3
    refine lv_iconst (v := 0) F.x F.b dX6_takes_8 (by decide) ?_
    exact retZ F hr C rfl h dX6_takes_9

def rmX6_codes : Room := { frames := 0, cells := 0, slots := 0, locals := 0 }
def mX6_codes (post : Int32 → Mem → Prop) (S : Mem) (v1 : Int32) : Prop := ∀ x1 : Int32, x1 = (S 10 0 14) → ∀ S2 : Mem, S2 = wr S 10 0 14 (x1 + (1 : Int32)) → vp_in x1 64 ∧ ∀ S4 : Mem, S4 = wr S2 18 0 x1.toNatClampNeg v1 → post (1 : Int32) S4
set_option maxRecDepth 100000 in
set_option maxHeartbeats 4000000 in
theorem kX6_codes {l : Launch} {D : va_G} {ky : Nat → ClassId} {ad : Nat → Nat} {ex : Nat → Nat → Nat} {post : Int32 → Mem → Prop} {S : Mem} {v1 : Int32} (h : mX6_codes post S v1) : CMi l D ky ad ex yX6_codes cX6_codes 2 (some .boolean) rmX6_codes 0 0 [.ref (ad 117), .int v1] S post := by
  refine CMi.of (by decide) (Nat.le_of_ble_eq_true rfl) (fun p e s m args below meth c ls F hr C hl => ?_)
  have hl : lv_has ls 2 [(0, .ref (ad 117)), (1, .int v1)] := hl
  unfold mX6_codes at h
  refine lv_aload_n F.x F.b dX6_codes_0 rfl (lv_at hl 0 rfl) ?_
  refine getM F C 13 (by decide) q4_235 (v := .ref (ad 125)) rfl dX6_codes_1 ?_
  refine lv_aload_n F.x F.b dX6_codes_4 rfl (lv_at hl 0 rfl) ?_
  refine lv_dup F.x F.b dX6_codes_5 rfl ?_
  refine getM F C 14 (by decide) q4_236 (v := .int (S 10 0 14)) rfl dX6_codes_6 ?_
  refine lv_topi (fun x1 ex1 => ?_)
  have h := h x1 ex1
  refine lv_dup_x1 F.x F.b dX6_codes_9 rfl rfl ?_
  refine lv_iconst (v := 1) F.x F.b dX6_codes_10 (by decide) ?_
  refine lv_iadd F.x F.b dX6_codes_11 ?_
  refine putM F C 14 (by decide) q4_236 rfl (tyX6_ok 14 (by decide)) rfl rfl rfl dX6_codes_12 (fun H locs C => ?_)
  obtain ⟨S2, eS2⟩ : ∃ z : Mem, z = wr S 10 0 14 (x1 + (1 : Int32)) := ⟨_, rfl⟩
  rw [← eS2] at C
  have h := h S2 eS2
  refine lv_iload_n F.x F.b dX6_codes_15 rfl (lv_at hl 1 rfl) ?_
  obtain ⟨g3, h⟩ := h
  refine astI F C (o := 125) (cq := 18) (iq := 0) (by decide) rfl rfl (fun _ => rfl) g3 dX6_codes_16 (fun H locs C => ?_)
  obtain ⟨S4, eS4⟩ : ∃ z : Mem, z = wr S2 18 0 x1.toNatClampNeg v1 := ⟨_, rfl⟩
  rw [← eS4] at C
  have h := h S4 eS4
  refine lv_iconst (v := 1) F.x F.b dX6_codes_17 (by decide) ?_
  exact retZ F hr C rfl h dX6_codes_18

def rmX6_holds : Room := { frames := 2, cells := 0, slots := 0, locals := 44 }
def mX6_holds (post : Int32 → Mem → Prop) (S : Mem) (v1 : Int32) (v2 : Int32) : Prop := ((v1 < (10000 : Int32) → (((v1 = (0 : Int32) → (mX6_kind (fun (r4 : Int32) (S3 : Mem) => ((¬ r4 = v1 → (post (0 : Int32) S3)) ∧ (r4 = v1 → (post (1 : Int32) S3)))) S v2)) ∧ (v1 = (1 : Int32) → (mX6_kind (fun (r7 : Int32) (S6 : Mem) => ((¬ r7 = v1 → (post (0 : Int32) S6)) ∧ (r7 = v1 → (post (1 : Int32) S6)))) S v2)) ∧ (v1 = (2 : Int32) → (mX6_kind (fun (r10 : Int32) (S9 : Mem) => ((¬ r10 = v1 → (post (0 : Int32) S9)) ∧ (r10 = v1 → (post (1 : Int32) S9)))) S v2)) ∧ (v1 = (3 : Int32) → (mX6_of (fun (r13 : Int32) (S12 : Mem) => ((¬ r13 = (-1 : Int32) → (post (0 : Int32) S12)) ∧ (r13 = (-1 : Int32) → (post (1 : Int32) S12)))) S v2 (2 : Int32))) ∧ (v1 = (4 : Int32) → (mX6_of (fun (r16 : Int32) (S15 : Mem) => ((¬ r16 = (10 : Int32) → (post (0 : Int32) S15)) ∧ (r16 = (10 : Int32) → (post (1 : Int32) S15)))) S v2 (2 : Int32))) ∧ (v1 = (5 : Int32) → (mX6_of (fun (r19 : Int32) (S18 : Mem) => mX6_isStone (fun (r21 : Int32) (S20 : Mem) => isB r21 ∧ post r21 S20) S18 r19) S v2 (2 : Int32))) ∧ (¬ v1 = (0 : Int32) ∧ ¬ v1 = (1 : Int32) ∧ ¬ v1 = (2 : Int32) ∧ ¬ v1 = (3 : Int32) ∧ ¬ v1 = (4 : Int32) ∧ ¬ v1 = (5 : Int32) → (mX6_of (fun (r23 : Int32) (S22 : Mem) => ((¬ r23 = (1 : Int32) → (post (0 : Int32) S22)) ∧ (r23 = (1 : Int32) → (post (1 : Int32) S22)))) S v2 (3 : Int32)))))) ∧ (¬ v1 < (10000 : Int32) → (mX6_of (fun (r26 : Int32) (S25 : Mem) => ∀ x27 : Int32, x27 = (v1 - v1 / (100 : Int32) * (100 : Int32)) → ∀ x28 : Int32, x28 = ((v1 / (100 : Int32)) - (v1 / (100 : Int32)) / (10 : Int32) * (10 : Int32)) → ((¬ x28 = 0 → (((¬ x28 = (1 : Int32) → (((r26 ≤ x27 → (post (0 : Int32) S25)) ∧ (¬ r26 ≤ x27 → (post (1 : Int32) S25))))) ∧ (x28 = (1 : Int32) → (((¬ r26 = x27 → (post (0 : Int32) S25)) ∧ (r26 = x27 → (post (1 : Int32) S25)))))))) ∧ (x28 = 0 → (((x27 ≤ r26 → (post (0 : Int32) S25)) ∧ (¬ x27 ≤ r26 → (post (1 : Int32) S25))))))) S v2 (((v1 / (1000 : Int32)) - (v1 / (1000 : Int32)) / (10 : Int32) * (10 : Int32))))))
set_option maxRecDepth 100000 in
set_option maxHeartbeats 4000000 in
theorem kX6_holds {l : Launch} {D : va_G} {ky : Nat → ClassId} {ad : Nat → Nat} {ex : Nat → Nat → Nat} {post : Int32 → Mem → Prop} {S : Mem} {v1 : Int32} {v2 : Int32} (h : mX6_holds post S v1 v2) : CMi l D ky ad ex yX6_holds cX6_holds 6 (some .boolean) rmX6_holds 0 0 [.ref (ad 117), .int v1, .int v2] S post := by
  refine CMi.of (by decide) (Nat.le_of_ble_eq_true rfl) (fun p e s m args below meth c ls F hr C hl => ?_)
  have hl : lv_has ls 6 [(0, .ref (ad 117)), (1, .int v1), (2, .int v2)] := hl
  unfold mX6_holds at h
  refine lv_iload_n F.x F.b dX6_holds_0 rfl (lv_at hl 1 rfl) ?_
  refine lv_sipush (v := 10000) F.x F.b dX6_holds_1 (by decide) ?_
  refine lv_icmp_lt (tgt := 87) F.x F.b dX6_holds_4 (by decide) (fun g1 => ?_) (fun g1 => ?_)
  · have h := h.1 g1
    refine lv_iload_n F.x F.b dX6_holds_87 rfl (lv_at hl 1 rfl) ?_
    by_cases g2 : v1 = (0 : Int32)
    · have h := h.1 g2
      refine lv_tableIn (tgt := 128) F.x F.b dX6_holds_88 (by rw [g2]; decide) (by rw [g2]; decide) (by rw [g2]; rfl) (by decide) ?_
      refine lv_aload_n F.x F.b dX6_holds_128 rfl (lv_at hl 0 rfl) ?_
      refine lv_iload_n F.x F.b dX6_holds_129 rfl (lv_at hl 2 rfl) ?_
      refine kI F C hl (kX6_kind  h) (by decide) (ce_M _) rfl wv_X6_121 ⟨rfl, rfl, ⟨Nat.le_of_ble_eq_true rfl, Nat.le_of_ble_eq_true rfl⟩, ⟨Nat.le_of_ble_eq_true rfl, Nat.le_of_ble_eq_true rfl⟩, Nat.le_of_ble_eq_true rfl⟩ (rest := []) rfl dX6_holds_130 (fun r4 S3 H locs h C => ?_)
      refine lv_iload_n F.x F.b dX6_holds_133 rfl (lv_at hl 1 rfl) ?_
      refine lv_icmp_ne (tgt := 141) F.x F.b dX6_holds_134 (by decide) (fun g5 => ?_) (fun g5 => ?_)
      · have h := h.1 g5
        refine lv_iconst (v := 0) F.x F.b dX6_holds_141 (by decide) ?_
        exact retZ F hr C rfl h dX6_holds_142
      · have h := h.2 g5
        refine lv_iconst (v := 1) F.x F.b dX6_holds_137 (by decide) ?_
        refine lv_goto (tgt := 142) F.x F.b dX6_holds_138 (by decide) ?_
        exact retZ F hr C rfl h dX6_holds_142
    · have ng2_0 := g2
      by_cases g2 : v1 = (1 : Int32)
      · have h := h.2.1 g2
        refine lv_tableIn (tgt := 128) F.x F.b dX6_holds_88 (by rw [g2]; decide) (by rw [g2]; decide) (by rw [g2]; rfl) (by decide) ?_
        refine lv_aload_n F.x F.b dX6_holds_128 rfl (lv_at hl 0 rfl) ?_
        refine lv_iload_n F.x F.b dX6_holds_129 rfl (lv_at hl 2 rfl) ?_
        refine kI F C hl (kX6_kind  h) (by decide) (ce_M _) rfl wv_X6_121 ⟨rfl, rfl, ⟨Nat.le_of_ble_eq_true rfl, Nat.le_of_ble_eq_true rfl⟩, ⟨Nat.le_of_ble_eq_true rfl, Nat.le_of_ble_eq_true rfl⟩, Nat.le_of_ble_eq_true rfl⟩ (rest := []) rfl dX6_holds_130 (fun r7 S6 H locs h C => ?_)
        refine lv_iload_n F.x F.b dX6_holds_133 rfl (lv_at hl 1 rfl) ?_
        refine lv_icmp_ne (tgt := 141) F.x F.b dX6_holds_134 (by decide) (fun g8 => ?_) (fun g8 => ?_)
        · have h := h.1 g8
          refine lv_iconst (v := 0) F.x F.b dX6_holds_141 (by decide) ?_
          exact retZ F hr C rfl h dX6_holds_142
        · have h := h.2 g8
          refine lv_iconst (v := 1) F.x F.b dX6_holds_137 (by decide) ?_
          refine lv_goto (tgt := 142) F.x F.b dX6_holds_138 (by decide) ?_
          exact retZ F hr C rfl h dX6_holds_142
      · have ng2_1 := g2
        by_cases g2 : v1 = (2 : Int32)
        · have h := h.2.2.1 g2
          refine lv_tableIn (tgt := 128) F.x F.b dX6_holds_88 (by rw [g2]; decide) (by rw [g2]; decide) (by rw [g2]; rfl) (by decide) ?_
          refine lv_aload_n F.x F.b dX6_holds_128 rfl (lv_at hl 0 rfl) ?_
          refine lv_iload_n F.x F.b dX6_holds_129 rfl (lv_at hl 2 rfl) ?_
          refine kI F C hl (kX6_kind  h) (by decide) (ce_M _) rfl wv_X6_121 ⟨rfl, rfl, ⟨Nat.le_of_ble_eq_true rfl, Nat.le_of_ble_eq_true rfl⟩, ⟨Nat.le_of_ble_eq_true rfl, Nat.le_of_ble_eq_true rfl⟩, Nat.le_of_ble_eq_true rfl⟩ (rest := []) rfl dX6_holds_130 (fun r10 S9 H locs h C => ?_)
          refine lv_iload_n F.x F.b dX6_holds_133 rfl (lv_at hl 1 rfl) ?_
          refine lv_icmp_ne (tgt := 141) F.x F.b dX6_holds_134 (by decide) (fun g11 => ?_) (fun g11 => ?_)
          · have h := h.1 g11
            refine lv_iconst (v := 0) F.x F.b dX6_holds_141 (by decide) ?_
            exact retZ F hr C rfl h dX6_holds_142
          · have h := h.2 g11
            refine lv_iconst (v := 1) F.x F.b dX6_holds_137 (by decide) ?_
            refine lv_goto (tgt := 142) F.x F.b dX6_holds_138 (by decide) ?_
            exact retZ F hr C rfl h dX6_holds_142
        · have ng2_2 := g2
          by_cases g2 : v1 = (3 : Int32)
          · have h := h.2.2.2.1 g2
            refine lv_tableIn (tgt := 143) F.x F.b dX6_holds_88 (by rw [g2]; decide) (by rw [g2]; decide) (by rw [g2]; rfl) (by decide) ?_
            refine lv_aload_n F.x F.b dX6_holds_143 rfl (lv_at hl 0 rfl) ?_
            refine lv_iload_n F.x F.b dX6_holds_144 rfl (lv_at hl 2 rfl) ?_
            refine lv_iconst (v := 2) F.x F.b dX6_holds_145 (by decide) ?_
            refine kI F C hl (kX6_of  h) (by decide) (ce_M _) rfl wv_X6_66 ⟨rfl, rfl, ⟨Nat.le_of_ble_eq_true rfl, Nat.le_of_ble_eq_true rfl⟩, ⟨Nat.le_of_ble_eq_true rfl, Nat.le_of_ble_eq_true rfl⟩, Nat.le_of_ble_eq_true rfl⟩ (rest := []) rfl dX6_holds_146 (fun r13 S12 H locs h C => ?_)
            refine lv_iconst (v := -1) F.x F.b dX6_holds_149 (by decide) ?_
            refine lv_icmp_ne (tgt := 157) F.x F.b dX6_holds_150 (by decide) (fun g14 => ?_) (fun g14 => ?_)
            · have h := h.1 g14
              refine lv_iconst (v := 0) F.x F.b dX6_holds_157 (by decide) ?_
              exact retZ F hr C rfl h dX6_holds_158
            · have h := h.2 g14
              refine lv_iconst (v := 1) F.x F.b dX6_holds_153 (by decide) ?_
              refine lv_goto (tgt := 158) F.x F.b dX6_holds_154 (by decide) ?_
              exact retZ F hr C rfl h dX6_holds_158
          · have ng2_3 := g2
            by_cases g2 : v1 = (4 : Int32)
            · have h := h.2.2.2.2.1 g2
              refine lv_tableIn (tgt := 159) F.x F.b dX6_holds_88 (by rw [g2]; decide) (by rw [g2]; decide) (by rw [g2]; rfl) (by decide) ?_
              refine lv_aload_n F.x F.b dX6_holds_159 rfl (lv_at hl 0 rfl) ?_
              refine lv_iload_n F.x F.b dX6_holds_160 rfl (lv_at hl 2 rfl) ?_
              refine lv_iconst (v := 2) F.x F.b dX6_holds_161 (by decide) ?_
              refine kI F C hl (kX6_of  h) (by decide) (ce_M _) rfl wv_X6_66 ⟨rfl, rfl, ⟨Nat.le_of_ble_eq_true rfl, Nat.le_of_ble_eq_true rfl⟩, ⟨Nat.le_of_ble_eq_true rfl, Nat.le_of_ble_eq_true rfl⟩, Nat.le_of_ble_eq_true rfl⟩ (rest := []) rfl dX6_holds_162 (fun r16 S15 H locs h C => ?_)
              refine lv_bipush (v := 10) F.x F.b dX6_holds_165 (by decide) ?_
              refine lv_icmp_ne (tgt := 174) F.x F.b dX6_holds_167 (by decide) (fun g17 => ?_) (fun g17 => ?_)
              · have h := h.1 g17
                refine lv_iconst (v := 0) F.x F.b dX6_holds_174 (by decide) ?_
                exact retZ F hr C rfl h dX6_holds_175
              · have h := h.2 g17
                refine lv_iconst (v := 1) F.x F.b dX6_holds_170 (by decide) ?_
                refine lv_goto (tgt := 175) F.x F.b dX6_holds_171 (by decide) ?_
                exact retZ F hr C rfl h dX6_holds_175
            · have ng2_4 := g2
              by_cases g2 : v1 = (5 : Int32)
              · have h := h.2.2.2.2.2.1 g2
                refine lv_tableIn (tgt := 176) F.x F.b dX6_holds_88 (by rw [g2]; decide) (by rw [g2]; decide) (by rw [g2]; rfl) (by decide) ?_
                refine lv_aload_n F.x F.b dX6_holds_176 rfl (lv_at hl 0 rfl) ?_
                refine lv_iload_n F.x F.b dX6_holds_177 rfl (lv_at hl 2 rfl) ?_
                refine lv_iconst (v := 2) F.x F.b dX6_holds_178 (by decide) ?_
                refine kI F C hl (kX6_of  h) (by decide) (ce_M _) rfl wv_X6_66 ⟨rfl, rfl, ⟨Nat.le_of_ble_eq_true rfl, Nat.le_of_ble_eq_true rfl⟩, ⟨Nat.le_of_ble_eq_true rfl, Nat.le_of_ble_eq_true rfl⟩, Nat.le_of_ble_eq_true rfl⟩ (rest := []) rfl dX6_holds_179 (fun r19 S18 H locs h C => ?_)
                refine kSI F C hl (kX6_isStone  h) wv_X6_85 ⟨rfl, rfl, ⟨Nat.le_of_ble_eq_true rfl, Nat.le_of_ble_eq_true rfl⟩, ⟨Nat.le_of_ble_eq_true rfl, Nat.le_of_ble_eq_true rfl⟩, Nat.le_of_ble_eq_true rfl⟩ (rest := []) rfl dX6_holds_182 (fun r21 S20 H locs h C => ?_)
                exact retZ F hr C h.1.n h.2 dX6_holds_185
              · have ng2_5 := g2
                have h := h.2.2.2.2.2.2 ⟨ng2_0, ng2_1, ng2_2, ng2_3, ng2_4, ng2_5⟩
                refine lv_tableOut (tgt := 186) F.x F.b dX6_holds_88 (sw_out v1 0 5 (by decide) (by decide) (fun z h1 h2 => ?_)) (by decide) ?_
                · rcases (show z = 0 ∨ z = 1 ∨ z = 2 ∨ z = 3 ∨ z = 4 ∨ z = 5 by omega) with rfl | rfl | rfl | rfl | rfl | rfl
                  · exact ng2_0
                  · exact ng2_1
                  · exact ng2_2
                  · exact ng2_3
                  · exact ng2_4
                  · exact ng2_5
                · refine lv_aload_n F.x F.b dX6_holds_186 rfl (lv_at hl 0 rfl) ?_
                  refine lv_iload_n F.x F.b dX6_holds_187 rfl (lv_at hl 2 rfl) ?_
                  refine lv_iconst (v := 3) F.x F.b dX6_holds_188 (by decide) ?_
                  refine kI F C hl (kX6_of  h) (by decide) (ce_M _) rfl wv_X6_66 ⟨rfl, rfl, ⟨Nat.le_of_ble_eq_true rfl, Nat.le_of_ble_eq_true rfl⟩, ⟨Nat.le_of_ble_eq_true rfl, Nat.le_of_ble_eq_true rfl⟩, Nat.le_of_ble_eq_true rfl⟩ (rest := []) rfl dX6_holds_189 (fun r23 S22 H locs h C => ?_)
                  refine lv_iconst (v := 1) F.x F.b dX6_holds_192 (by decide) ?_
                  refine lv_icmp_ne (tgt := 200) F.x F.b dX6_holds_193 (by decide) (fun g24 => ?_) (fun g24 => ?_)
                  · have h := h.1 g24
                    refine lv_iconst (v := 0) F.x F.b dX6_holds_200 (by decide) ?_
                    exact retZ F hr C rfl h dX6_holds_201
                  · have h := h.2 g24
                    refine lv_iconst (v := 1) F.x F.b dX6_holds_196 (by decide) ?_
                    refine lv_goto (tgt := 201) F.x F.b dX6_holds_197 (by decide) ?_
                    exact retZ F hr C rfl h dX6_holds_201
  · have h := h.2 g1
    refine lv_aload_n F.x F.b dX6_holds_7 rfl (lv_at hl 0 rfl) ?_
    refine lv_iload_n F.x F.b dX6_holds_8 rfl (lv_at hl 2 rfl) ?_
    refine lv_iload_n F.x F.b dX6_holds_9 rfl (lv_at hl 1 rfl) ?_
    refine lv_sipush (v := 1000) F.x F.b dX6_holds_10 (by decide) ?_
    refine lv_idiv F.x F.b dX6_holds_13 (by decide) ?_
    refine lv_bipush (v := 10) F.x F.b dX6_holds_14 (by decide) ?_
    refine lv_irem F.x F.b dX6_holds_16 (by decide) ?_
    refine kI F C hl (kX6_of  h) (by decide) (ce_M _) rfl wv_X6_66 ⟨rfl, rfl, ⟨Nat.le_of_ble_eq_true rfl, Nat.le_of_ble_eq_true rfl⟩, ⟨Nat.le_of_ble_eq_true rfl, Nat.le_of_ble_eq_true rfl⟩, Nat.le_of_ble_eq_true rfl⟩ (rest := []) rfl dX6_holds_17 (fun r26 S25 H locs h C => ?_)
    refine lv_istore_n (lv' := [(3, .int r26), (0, .ref (ad 117)), (1, .int v1), (2, .int v2)]) F.x F.b dX6_holds_20 rfl hl (by decide) rfl (fun ls hl => ?_)
    refine lv_iload_n F.x F.b dX6_holds_21 rfl (lv_at hl 2 rfl) ?_
    refine lv_bipush (v := 100) F.x F.b dX6_holds_22 (by decide) ?_
    refine lv_irem F.x F.b dX6_holds_24 (by decide) ?_
    refine lv_topi (fun x27 ex27 => ?_)
    have h := h x27 ex27
    refine lv_istore (lv' := [(4, .int x27), (3, .int r26), (0, .ref (ad 117)), (1, .int v1), (2, .int v2)]) F.x F.b dX6_holds_25 hl (by decide) rfl (fun ls hl => ?_)
    refine lv_iload_n F.x F.b dX6_holds_27 rfl (lv_at hl 3 rfl) ?_
    refine lv_bipush (v := 100) F.x F.b dX6_holds_28 (by decide) ?_
    refine lv_idiv F.x F.b dX6_holds_30 (by decide) ?_
    refine lv_bipush (v := 10) F.x F.b dX6_holds_31 (by decide) ?_
    refine lv_irem F.x F.b dX6_holds_33 (by decide) ?_
    refine lv_topi (fun x28 ex28 => ?_)
    have h := h x28 ex28
    refine lv_istore (lv' := [(5, .int x28), (4, .int x27), (3, .int r26), (0, .ref (ad 117)), (1, .int v1), (2, .int v2)]) F.x F.b dX6_holds_34 hl (by decide) rfl (fun ls hl => ?_)
    refine lv_iload F.x F.b dX6_holds_36 (lv_at hl 0 rfl) ?_
    refine lv_if_ne (tgt := 55) F.x F.b dX6_holds_38 (by decide) (fun g29 => ?_) (fun g29 => ?_)
    · have h := h.1 g29
      refine lv_iload F.x F.b dX6_holds_55 (lv_at hl 0 rfl) ?_
      refine lv_iconst (v := 1) F.x F.b dX6_holds_57 (by decide) ?_
      refine lv_icmp_ne (tgt := 75) F.x F.b dX6_holds_58 (by decide) (fun g30 => ?_) (fun g30 => ?_)
      · have h := h.1 g30
        refine lv_iload_n F.x F.b dX6_holds_75 rfl (lv_at hl 2 rfl) ?_
        refine lv_iload F.x F.b dX6_holds_76 (lv_at hl 1 rfl) ?_
        refine lv_icmp_le (tgt := 85) F.x F.b dX6_holds_78 (by decide) (fun g31 => ?_) (fun g31 => ?_)
        · have h := h.1 g31
          refine lv_iconst (v := 0) F.x F.b dX6_holds_85 (by decide) ?_
          exact retZ F hr C rfl h dX6_holds_86
        · have h := h.2 g31
          refine lv_iconst (v := 1) F.x F.b dX6_holds_81 (by decide) ?_
          refine lv_goto (tgt := 86) F.x F.b dX6_holds_82 (by decide) ?_
          exact retZ F hr C rfl h dX6_holds_86
      · have h := h.2 g30
        refine lv_iload_n F.x F.b dX6_holds_61 rfl (lv_at hl 2 rfl) ?_
        refine lv_iload F.x F.b dX6_holds_62 (lv_at hl 1 rfl) ?_
        refine lv_icmp_ne (tgt := 71) F.x F.b dX6_holds_64 (by decide) (fun g32 => ?_) (fun g32 => ?_)
        · have h := h.1 g32
          refine lv_iconst (v := 0) F.x F.b dX6_holds_71 (by decide) ?_
          refine lv_goto (tgt := 86) F.x F.b dX6_holds_72 (by decide) ?_
          exact retZ F hr C rfl h dX6_holds_86
        · have h := h.2 g32
          refine lv_iconst (v := 1) F.x F.b dX6_holds_67 (by decide) ?_
          refine lv_goto (tgt := 86) F.x F.b dX6_holds_68 (by decide) ?_
          exact retZ F hr C rfl h dX6_holds_86
    · have h := h.2 g29
      refine lv_iload_n F.x F.b dX6_holds_41 rfl (lv_at hl 2 rfl) ?_
      refine lv_iload F.x F.b dX6_holds_42 (lv_at hl 1 rfl) ?_
      refine lv_icmp_ge (tgt := 51) F.x F.b dX6_holds_44 (by decide) (fun g33 => ?_) (fun g33 => ?_)
      · have h := h.1 g33
        refine lv_iconst (v := 0) F.x F.b dX6_holds_51 (by decide) ?_
        refine lv_goto (tgt := 86) F.x F.b dX6_holds_52 (by decide) ?_
        exact retZ F hr C rfl h dX6_holds_86
      · have h := h.2 g33
        refine lv_iconst (v := 1) F.x F.b dX6_holds_47 (by decide) ?_
        refine lv_goto (tgt := 86) F.x F.b dX6_holds_48 (by decide) ?_
        exact retZ F hr C rfl h dX6_holds_86

def rmX6_fulfils : Room := { frames := 3, cells := 0, slots := 0, locals := 69 }
def mX6_fulfils_b141 (post : Int32 → Mem → Prop) (K4 : Mem → Int32 → Int32 → Int32 → Prop) (S : Mem) (v1 : Int32) (v2 : Int32) (v3 : Int32) (vt0 : Int32) : Prop := vp_in vt0 64 ∧ isB (1 : Int32) ∧ ∀ S3 : Mem, S3 = wr S 19 0 vt0.toNatClampNeg (1 : Int32) → ∀ x4 : Int32, x4 = v3 + (1 : Int32) → K4 S3 v1 v2 x4
def mX6_fulfils_b117 (post : Int32 → Mem → Prop) (K4 : Mem → Int32 → Int32 → Int32 → Prop) (S : Mem) (v1 : Int32) (v2 : Int32) (v3 : Int32) (vt0 : Int32) : Prop := vp_in vt0 64 ∧ isB (0 : Int32) ∧ ∀ S3 : Mem, S3 = wr S 19 0 vt0.toNatClampNeg (0 : Int32) → ∀ x4 : Int32, x4 = v3 + (1 : Int32) → K4 S3 v1 v2 x4
def mX6_fulfils_b72 (post : Int32 → Mem → Prop) (K4 : Mem → Int32 → Int32 → Int32 → Prop) (S : Mem) (v1 : Int32) (v2 : Int32) (v3 : Int32) : Prop := ∀ x1 : Int32, x1 = v2 + (-1 : Int32) → vp_in v3 64 ∧ ((¬ (S 18 0 v3.toNatClampNeg) = (101 : Int32) → (vp_in (x1 - (1 : Int32)) 64 ∧ ((¬ (S 19 0 ((x1 - (1 : Int32))).toNatClampNeg) = 0 → (mX6_fulfils_b141 post K4 S v1 x1 v3 (x1 - (1 : Int32)))) ∧ ((S 19 0 ((x1 - (1 : Int32))).toNatClampNeg) = 0 → (vp_in x1 64 ∧ (((S 19 0 x1.toNatClampNeg) = 0 → (vp_in (x1 - (1 : Int32)) 64 ∧ isB (0 : Int32) ∧ ∀ S10 : Mem, S10 = wr S 19 0 ((x1 - (1 : Int32))).toNatClampNeg (0 : Int32) → ∀ x11 : Int32, x11 = v3 + (1 : Int32) → K4 S10 v1 x1 x11)) ∧ (¬ (S 19 0 x1.toNatClampNeg) = 0 → (mX6_fulfils_b141 post K4 S v1 x1 v3 (x1 - (1 : Int32)))))))))) ∧ ((S 18 0 v3.toNatClampNeg) = (101 : Int32) → (vp_in (x1 - (1 : Int32)) 64 ∧ (((S 19 0 ((x1 - (1 : Int32))).toNatClampNeg) = 0 → (mX6_fulfils_b117 post K4 S v1 x1 v3 (x1 - (1 : Int32)))) ∧ (¬ (S 19 0 ((x1 - (1 : Int32))).toNatClampNeg) = 0 → (vp_in x1 64 ∧ (((S 19 0 x1.toNatClampNeg) = 0 → (mX6_fulfils_b117 post K4 S v1 x1 v3 (x1 - (1 : Int32)))) ∧ (¬ (S 19 0 x1.toNatClampNeg) = 0 → (vp_in (x1 - (1 : Int32)) 64 ∧ isB (1 : Int32) ∧ ∀ S18 : Mem, S18 = wr S 19 0 ((x1 - (1 : Int32))).toNatClampNeg (1 : Int32) → ∀ x19 : Int32, x19 = v3 + (1 : Int32) → K4 S18 v1 x1 x19)))))))))
def mX6_fulfils_b4 (post : Int32 → Mem → Prop) : Nat → Mem → Int32 → Int32 → Int32 → Prop
  | 0, _, _, _, _ => False
  | n + 1, S, v1, v2, v3 => (((S 10 0 14) ≤ v3 → (vp_in (0 : Int32) 64 ∧ isB (S 19 0 (0 : Int32).toNatClampNeg) ∧ post ((S 19 0 (0 : Int32).toNatClampNeg)) S)) ∧ (¬ (S 10 0 14) ≤ v3 → (vp_in v3 64 ∧ ((¬ (S 18 0 v3.toNatClampNeg) = (100 : Int32) → (vp_in v3 64 ∧ (((S 18 0 v3.toNatClampNeg) = (101 : Int32) → (mX6_fulfils_b72 post (fun S v1 v2 v3 => mX6_fulfils_b4 post n S v1 v2 v3) S v1 v2 v3)) ∧ (¬ (S 18 0 v3.toNatClampNeg) = (101 : Int32) → (vp_in v3 64 ∧ ((¬ (S 18 0 v3.toNatClampNeg) = (102 : Int32) → (∀ x9 : Int32, x9 = v2 + (1 : Int32) → vp_in v3 64 ∧ mX6_holds (fun (r12 : Int32) (S11 : Mem) => vp_in v2 64 ∧ isB r12 ∧ ∀ S15 : Mem, S15 = wr S11 19 0 v2.toNatClampNeg r12 → ∀ x16 : Int32, x16 = v3 + (1 : Int32) → mX6_fulfils_b4 post n S15 v1 x9 x16) S (S 18 0 v3.toNatClampNeg) v1)) ∧ ((S 18 0 v3.toNatClampNeg) = (102 : Int32) → (mX6_fulfils_b72 post (fun S v1 v2 v3 => mX6_fulfils_b4 post n S v1 v2 v3) S v1 v2 v3)))))))) ∧ ((S 18 0 v3.toNatClampNeg) = (100 : Int32) → (vp_in (v2 - (1 : Int32)) 64 ∧ ((¬ (S 19 0 ((v2 - (1 : Int32))).toNatClampNeg) = 0 → (vp_in (v2 - (1 : Int32)) 64 ∧ isB (0 : Int32) ∧ ∀ S21 : Mem, S21 = wr S 19 0 ((v2 - (1 : Int32))).toNatClampNeg (0 : Int32) → ∀ x22 : Int32, x22 = v3 + (1 : Int32) → mX6_fulfils_b4 post n S21 v1 v2 x22)) ∧ ((S 19 0 ((v2 - (1 : Int32))).toNatClampNeg) = 0 → (vp_in (v2 - (1 : Int32)) 64 ∧ isB (1 : Int32) ∧ ∀ S25 : Mem, S25 = wr S 19 0 ((v2 - (1 : Int32))).toNatClampNeg (1 : Int32) → ∀ x26 : Int32, x26 = v3 + (1 : Int32) → mX6_fulfils_b4 post n S25 v1 v2 x26)))))))))
def mX6_fulfils (post : Int32 → Mem → Prop) (S : Mem) (v1 : Int32) : Prop := ∃ fu : Nat, mX6_fulfils_b4 post fu S v1 (0 : Int32) (0 : Int32)
set_option maxRecDepth 100000 in
set_option maxHeartbeats 4000000 in
theorem bX6_fulfils_141 {p : Program} {l : Launch} {e : Env} {s : State} {m : MethodId} {args : Array Value} {below : List Frame} {meth : Method} {c : Code} {D : va_G} {ky : Nat → ClassId} {ad : Nat → Nat} {ex : Nat → Nat → Nat} (F : Fx p s m args meth c D ky ad ex cX6_fulfils 4 yX6_fulfils.cls) (hr : meth.sig.returnType = (some .boolean)) {post : Int32 → Mem → Prop} {K4 : Mem → Int32 → Int32 → Int32 → Prop} (hK4 : ∀ (S : Mem) (v1 : Int32) (v2 : Int32) (v3 : Int32) (H : Heap) (locs : List Loc) (ls : Array Slot), K4 S v1 v2 v3 → Cx D ky ad s S H locs → lv_has ls 4 [(0, .ref (ad 117)), (1, .int v1), (2, .int v2), (3, .int v3)] → W p l e rmX6_fulfils s m args below meth c H locs 0 0 (MQ below (va_Qi post (AFT D ky ad) (AW ad s.heap.size)) args s 0 0 (AW ad s.heap.size)) (F0 m 4 ls [])) : ∀ (S : Mem) (v1 : Int32) (v2 : Int32) (v3 : Int32) (vt0 : Int32) (H : Heap) (locs : List Loc) (ls : Array Slot), mX6_fulfils_b141 post K4 S v1 v2 v3 vt0 → Cx D ky ad s S H locs → lv_has ls 4 [(0, .ref (ad 117)), (1, .int v1), (2, .int v2), (3, .int v3)] → W p l e rmX6_fulfils s m args below meth c H locs 0 0 (MQ below (va_Qi post (AFT D ky ad) (AW ad s.heap.size)) args s 0 0 (AW ad s.heap.size)) (F0 m 141 ls [.int vt0, .ref (ad 126)]) := by
  intro S v1 v2 v3 vt0 H locs ls  h C hl
  unfold mX6_fulfils_b141 at h
  refine lv_iconst (v := 1) F.x F.b dX6_fulfils_141 (by decide) ?_
  refine lv_goto (tgt := 146) F.x F.b dX6_fulfils_142 (by decide) ?_
  obtain ⟨g1, h⟩ := h
  obtain ⟨g2, h⟩ := h
  refine astZ F C (o := 126) (cq := 19) (iq := 0) (by decide) rfl rfl (fun _ => rfl) g1 g2 dX6_fulfils_146 (fun H locs C => ?_)
  obtain ⟨S3, eS3⟩ : ∃ z : Mem, z = wr S 19 0 vt0.toNatClampNeg (1 : Int32) := ⟨_, rfl⟩
  rw [← eS3] at C
  have h := h S3 eS3
  refine lv_goto (tgt := 170) F.x F.b dX6_fulfils_147 (by decide) ?_
  obtain ⟨x4, ex4⟩ : ∃ z : Int32, z = v3 + (1 : Int32) := ⟨_, rfl⟩
  have h := h x4 ex4
  refine lv_iinc (v := x4) (lv' := [(3, .int x4), (0, .ref (ad 117)), (1, .int v1), (2, .int v2)]) F.x F.b dX6_fulfils_170 hl (k := 3) rfl (by rw [ex4]; rfl) (by decide) rfl (fun ls hl => ?_)
  refine lv_goto (tgt := 4) F.x F.b dX6_fulfils_173 (by decide) ?_
  exact hK4 S3 v1 v2 x4 _ _ _ h C (lv_sub hl [1, 2, 3, 0] rfl)
set_option maxRecDepth 100000 in
set_option maxHeartbeats 4000000 in
theorem bX6_fulfils_117 {p : Program} {l : Launch} {e : Env} {s : State} {m : MethodId} {args : Array Value} {below : List Frame} {meth : Method} {c : Code} {D : va_G} {ky : Nat → ClassId} {ad : Nat → Nat} {ex : Nat → Nat → Nat} (F : Fx p s m args meth c D ky ad ex cX6_fulfils 4 yX6_fulfils.cls) (hr : meth.sig.returnType = (some .boolean)) {post : Int32 → Mem → Prop} {K4 : Mem → Int32 → Int32 → Int32 → Prop} (hK4 : ∀ (S : Mem) (v1 : Int32) (v2 : Int32) (v3 : Int32) (H : Heap) (locs : List Loc) (ls : Array Slot), K4 S v1 v2 v3 → Cx D ky ad s S H locs → lv_has ls 4 [(0, .ref (ad 117)), (1, .int v1), (2, .int v2), (3, .int v3)] → W p l e rmX6_fulfils s m args below meth c H locs 0 0 (MQ below (va_Qi post (AFT D ky ad) (AW ad s.heap.size)) args s 0 0 (AW ad s.heap.size)) (F0 m 4 ls [])) : ∀ (S : Mem) (v1 : Int32) (v2 : Int32) (v3 : Int32) (vt0 : Int32) (H : Heap) (locs : List Loc) (ls : Array Slot), mX6_fulfils_b117 post K4 S v1 v2 v3 vt0 → Cx D ky ad s S H locs → lv_has ls 4 [(0, .ref (ad 117)), (1, .int v1), (2, .int v2), (3, .int v3)] → W p l e rmX6_fulfils s m args below meth c H locs 0 0 (MQ below (va_Qi post (AFT D ky ad) (AW ad s.heap.size)) args s 0 0 (AW ad s.heap.size)) (F0 m 117 ls [.int vt0, .ref (ad 126)]) := by
  intro S v1 v2 v3 vt0 H locs ls  h C hl
  unfold mX6_fulfils_b117 at h
  refine lv_iconst (v := 0) F.x F.b dX6_fulfils_117 (by decide) ?_
  refine lv_goto (tgt := 146) F.x F.b dX6_fulfils_118 (by decide) ?_
  obtain ⟨g1, h⟩ := h
  obtain ⟨g2, h⟩ := h
  refine astZ F C (o := 126) (cq := 19) (iq := 0) (by decide) rfl rfl (fun _ => rfl) g1 g2 dX6_fulfils_146 (fun H locs C => ?_)
  obtain ⟨S3, eS3⟩ : ∃ z : Mem, z = wr S 19 0 vt0.toNatClampNeg (0 : Int32) := ⟨_, rfl⟩
  rw [← eS3] at C
  have h := h S3 eS3
  refine lv_goto (tgt := 170) F.x F.b dX6_fulfils_147 (by decide) ?_
  obtain ⟨x4, ex4⟩ : ∃ z : Int32, z = v3 + (1 : Int32) := ⟨_, rfl⟩
  have h := h x4 ex4
  refine lv_iinc (v := x4) (lv' := [(3, .int x4), (0, .ref (ad 117)), (1, .int v1), (2, .int v2)]) F.x F.b dX6_fulfils_170 hl (k := 3) rfl (by rw [ex4]; rfl) (by decide) rfl (fun ls hl => ?_)
  refine lv_goto (tgt := 4) F.x F.b dX6_fulfils_173 (by decide) ?_
  exact hK4 S3 v1 v2 x4 _ _ _ h C (lv_sub hl [1, 2, 3, 0] rfl)
set_option maxRecDepth 100000 in
set_option maxHeartbeats 4000000 in
theorem bX6_fulfils_72 {p : Program} {l : Launch} {e : Env} {s : State} {m : MethodId} {args : Array Value} {below : List Frame} {meth : Method} {c : Code} {D : va_G} {ky : Nat → ClassId} {ad : Nat → Nat} {ex : Nat → Nat → Nat} (F : Fx p s m args meth c D ky ad ex cX6_fulfils 4 yX6_fulfils.cls) (hr : meth.sig.returnType = (some .boolean)) {post : Int32 → Mem → Prop} {K4 : Mem → Int32 → Int32 → Int32 → Prop} (hK4 : ∀ (S : Mem) (v1 : Int32) (v2 : Int32) (v3 : Int32) (H : Heap) (locs : List Loc) (ls : Array Slot), K4 S v1 v2 v3 → Cx D ky ad s S H locs → lv_has ls 4 [(0, .ref (ad 117)), (1, .int v1), (2, .int v2), (3, .int v3)] → W p l e rmX6_fulfils s m args below meth c H locs 0 0 (MQ below (va_Qi post (AFT D ky ad) (AW ad s.heap.size)) args s 0 0 (AW ad s.heap.size)) (F0 m 4 ls [])) : ∀ (S : Mem) (v1 : Int32) (v2 : Int32) (v3 : Int32) (H : Heap) (locs : List Loc) (ls : Array Slot), mX6_fulfils_b72 post K4 S v1 v2 v3 → Cx D ky ad s S H locs → lv_has ls 4 [(0, .ref (ad 117)), (1, .int v1), (2, .int v2), (3, .int v3)] → W p l e rmX6_fulfils s m args below meth c H locs 0 0 (MQ below (va_Qi post (AFT D ky ad) (AW ad s.heap.size)) args s 0 0 (AW ad s.heap.size)) (F0 m 72 ls []) := by
  intro S v1 v2 v3 H locs ls  h C hl
  unfold mX6_fulfils_b72 at h
  obtain ⟨x1, ex1⟩ : ∃ z : Int32, z = v2 + (-1 : Int32) := ⟨_, rfl⟩
  have h := h x1 ex1
  refine lv_iinc (v := x1) (lv' := [(2, .int x1), (0, .ref (ad 117)), (1, .int v1), (3, .int v3)]) F.x F.b dX6_fulfils_72 hl (k := 2) rfl (by rw [ex1]; rfl) (by decide) rfl (fun ls hl => ?_)
  refine lv_aload_n F.x F.b dX6_fulfils_75 rfl (lv_at hl 1 rfl) ?_
  refine getM F C 15 (by decide) q4_237 (v := .ref (ad 126)) rfl dX6_fulfils_76 ?_
  refine lv_iload_n F.x F.b dX6_fulfils_79 rfl (lv_at hl 0 rfl) ?_
  refine lv_iconst (v := 1) F.x F.b dX6_fulfils_80 (by decide) ?_
  refine lv_isub F.x F.b dX6_fulfils_81 ?_
  refine lv_aload_n F.x F.b dX6_fulfils_82 rfl (lv_at hl 1 rfl) ?_
  refine getM F C 13 (by decide) q4_235 (v := .ref (ad 125)) rfl dX6_fulfils_83 ?_
  refine lv_iload_n F.x F.b dX6_fulfils_86 rfl (lv_at hl 3 rfl) ?_
  obtain ⟨g2, h⟩ := h
  refine aldI F C (o := 125) (cq := 18) (iq := 0) (by decide) rfl rfl rfl g2 dX6_fulfils_87 ?_
  refine lv_bipush (v := 101) F.x F.b dX6_fulfils_88 (by decide) ?_
  refine lv_icmp_ne (tgt := 121) F.x F.b dX6_fulfils_90 (by decide) (fun g3 => ?_) (fun g3 => ?_)
  · have h := h.1 g3
    refine lv_aload_n F.x F.b dX6_fulfils_121 rfl (lv_at hl 1 rfl) ?_
    refine getM F C 15 (by decide) q4_237 (v := .ref (ad 126)) rfl dX6_fulfils_122 ?_
    refine lv_iload_n F.x F.b dX6_fulfils_125 rfl (lv_at hl 0 rfl) ?_
    refine lv_iconst (v := 1) F.x F.b dX6_fulfils_126 (by decide) ?_
    refine lv_isub F.x F.b dX6_fulfils_127 ?_
    obtain ⟨g4, h⟩ := h
    refine aldZ F C (o := 126) (cq := 19) (iq := 0) (by decide) rfl rfl rfl g4 dX6_fulfils_128 ?_
    refine lv_if_ne (tgt := 141) F.x F.b dX6_fulfils_129 (by decide) (fun g5 => ?_) (fun g5 => ?_)
    · have h := h.1 g5
      exact bX6_fulfils_141 F hr hK4 S v1 x1 v3 (x1 - (1 : Int32)) _ _ _ h C (lv_sub hl [1, 2, 0, 3] rfl)
    · have h := h.2 g5
      refine lv_aload_n F.x F.b dX6_fulfils_132 rfl (lv_at hl 1 rfl) ?_
      refine getM F C 15 (by decide) q4_237 (v := .ref (ad 126)) rfl dX6_fulfils_133 ?_
      refine lv_iload_n F.x F.b dX6_fulfils_136 rfl (lv_at hl 0 rfl) ?_
      obtain ⟨g6, h⟩ := h
      refine aldZ F C (o := 126) (cq := 19) (iq := 0) (by decide) rfl rfl rfl g6 dX6_fulfils_137 ?_
      refine lv_if_eq (tgt := 145) F.x F.b dX6_fulfils_138 (by decide) (fun g7 => ?_) (fun g7 => ?_)
      · have h := h.1 g7
        refine lv_iconst (v := 0) F.x F.b dX6_fulfils_145 (by decide) ?_
        obtain ⟨g8, h⟩ := h
        obtain ⟨g9, h⟩ := h
        refine astZ F C (o := 126) (cq := 19) (iq := 0) (by decide) rfl rfl (fun _ => rfl) g8 g9 dX6_fulfils_146 (fun H locs C => ?_)
        obtain ⟨S10, eS10⟩ : ∃ z : Mem, z = wr S 19 0 ((x1 - (1 : Int32))).toNatClampNeg (0 : Int32) := ⟨_, rfl⟩
        rw [← eS10] at C
        have h := h S10 eS10
        refine lv_goto (tgt := 170) F.x F.b dX6_fulfils_147 (by decide) ?_
        obtain ⟨x11, ex11⟩ : ∃ z : Int32, z = v3 + (1 : Int32) := ⟨_, rfl⟩
        have h := h x11 ex11
        refine lv_iinc (v := x11) (lv' := [(3, .int x11), (2, .int x1), (0, .ref (ad 117)), (1, .int v1)]) F.x F.b dX6_fulfils_170 hl (k := 3) rfl (by rw [ex11]; rfl) (by decide) rfl (fun ls hl => ?_)
        refine lv_goto (tgt := 4) F.x F.b dX6_fulfils_173 (by decide) ?_
        exact hK4 S10 v1 x1 x11 _ _ _ h C (lv_sub hl [2, 3, 1, 0] rfl)
      · have h := h.2 g7
        exact bX6_fulfils_141 F hr hK4 S v1 x1 v3 (x1 - (1 : Int32)) _ _ _ h C (lv_sub hl [1, 2, 0, 3] rfl)
  · have h := h.2 g3
    refine lv_aload_n F.x F.b dX6_fulfils_93 rfl (lv_at hl 1 rfl) ?_
    refine getM F C 15 (by decide) q4_237 (v := .ref (ad 126)) rfl dX6_fulfils_94 ?_
    refine lv_iload_n F.x F.b dX6_fulfils_97 rfl (lv_at hl 0 rfl) ?_
    refine lv_iconst (v := 1) F.x F.b dX6_fulfils_98 (by decide) ?_
    refine lv_isub F.x F.b dX6_fulfils_99 ?_
    obtain ⟨g12, h⟩ := h
    refine aldZ F C (o := 126) (cq := 19) (iq := 0) (by decide) rfl rfl rfl g12 dX6_fulfils_100 ?_
    refine lv_if_eq (tgt := 117) F.x F.b dX6_fulfils_101 (by decide) (fun g13 => ?_) (fun g13 => ?_)
    · have h := h.1 g13
      exact bX6_fulfils_117 F hr hK4 S v1 x1 v3 (x1 - (1 : Int32)) _ _ _ h C (lv_sub hl [1, 2, 0, 3] rfl)
    · have h := h.2 g13
      refine lv_aload_n F.x F.b dX6_fulfils_104 rfl (lv_at hl 1 rfl) ?_
      refine getM F C 15 (by decide) q4_237 (v := .ref (ad 126)) rfl dX6_fulfils_105 ?_
      refine lv_iload_n F.x F.b dX6_fulfils_108 rfl (lv_at hl 0 rfl) ?_
      obtain ⟨g14, h⟩ := h
      refine aldZ F C (o := 126) (cq := 19) (iq := 0) (by decide) rfl rfl rfl g14 dX6_fulfils_109 ?_
      refine lv_if_eq (tgt := 117) F.x F.b dX6_fulfils_110 (by decide) (fun g15 => ?_) (fun g15 => ?_)
      · have h := h.1 g15
        exact bX6_fulfils_117 F hr hK4 S v1 x1 v3 (x1 - (1 : Int32)) _ _ _ h C (lv_sub hl [1, 2, 0, 3] rfl)
      · have h := h.2 g15
        refine lv_iconst (v := 1) F.x F.b dX6_fulfils_113 (by decide) ?_
        refine lv_goto (tgt := 146) F.x F.b dX6_fulfils_114 (by decide) ?_
        obtain ⟨g16, h⟩ := h
        obtain ⟨g17, h⟩ := h
        refine astZ F C (o := 126) (cq := 19) (iq := 0) (by decide) rfl rfl (fun _ => rfl) g16 g17 dX6_fulfils_146 (fun H locs C => ?_)
        obtain ⟨S18, eS18⟩ : ∃ z : Mem, z = wr S 19 0 ((x1 - (1 : Int32))).toNatClampNeg (1 : Int32) := ⟨_, rfl⟩
        rw [← eS18] at C
        have h := h S18 eS18
        refine lv_goto (tgt := 170) F.x F.b dX6_fulfils_147 (by decide) ?_
        obtain ⟨x19, ex19⟩ : ∃ z : Int32, z = v3 + (1 : Int32) := ⟨_, rfl⟩
        have h := h x19 ex19
        refine lv_iinc (v := x19) (lv' := [(3, .int x19), (2, .int x1), (0, .ref (ad 117)), (1, .int v1)]) F.x F.b dX6_fulfils_170 hl (k := 3) rfl (by rw [ex19]; rfl) (by decide) rfl (fun ls hl => ?_)
        refine lv_goto (tgt := 4) F.x F.b dX6_fulfils_173 (by decide) ?_
        exact hK4 S18 v1 x1 x19 _ _ _ h C (lv_sub hl [2, 3, 1, 0] rfl)
set_option maxRecDepth 100000 in
set_option maxHeartbeats 4000000 in
theorem bX6_fulfils_4 {p : Program} {l : Launch} {e : Env} {s : State} {m : MethodId} {args : Array Value} {below : List Frame} {meth : Method} {c : Code} {D : va_G} {ky : Nat → ClassId} {ad : Nat → Nat} {ex : Nat → Nat → Nat} (F : Fx p s m args meth c D ky ad ex cX6_fulfils 4 yX6_fulfils.cls) (hr : meth.sig.returnType = (some .boolean)) {post : Int32 → Mem → Prop} : ∀ (n : Nat) (S : Mem) (v1 : Int32) (v2 : Int32) (v3 : Int32) (H : Heap) (locs : List Loc) (ls : Array Slot), mX6_fulfils_b4 post n S v1 v2 v3 → Cx D ky ad s S H locs → lv_has ls 4 [(0, .ref (ad 117)), (1, .int v1), (2, .int v2), (3, .int v3)] → W p l e rmX6_fulfils s m args below meth c H locs 0 0 (MQ below (va_Qi post (AFT D ky ad) (AW ad s.heap.size)) args s 0 0 (AW ad s.heap.size)) (F0 m 4 ls []) := by
  intro n
  induction n with
  | zero =>
    intro S v1 v2 v3 H locs ls  h
    exact False.elim h
  | succ n ih =>
    intro S v1 v2 v3 H locs ls  h C hl
    refine lv_iload_n F.x F.b dX6_fulfils_4 rfl (lv_at hl 3 rfl) ?_
    refine lv_aload_n F.x F.b dX6_fulfils_5 rfl (lv_at hl 0 rfl) ?_
    refine getM F C 14 (by decide) q4_236 (v := .int (S 10 0 14)) rfl dX6_fulfils_6 ?_
    refine lv_icmp_ge (tgt := 176) F.x F.b dX6_fulfils_9 (by decide) (fun g1 => ?_) (fun g1 => ?_)
    · have h := h.1 g1
      refine lv_aload_n F.x F.b dX6_fulfils_176 rfl (lv_at hl 0 rfl) ?_
      refine getM F C 15 (by decide) q4_237 (v := .ref (ad 126)) rfl dX6_fulfils_177 ?_
      refine lv_iconst (v := 0) F.x F.b dX6_fulfils_180 (by decide) ?_
      obtain ⟨g2, h⟩ := h
      refine aldZ F C (o := 126) (cq := 19) (iq := 0) (by decide) rfl rfl rfl g2 dX6_fulfils_181 ?_
      exact retZ F hr C h.1.n h.2 dX6_fulfils_182
    · have h := h.2 g1
      refine lv_aload_n F.x F.b dX6_fulfils_12 rfl (lv_at hl 0 rfl) ?_
      refine getM F C 13 (by decide) q4_235 (v := .ref (ad 125)) rfl dX6_fulfils_13 ?_
      refine lv_iload_n F.x F.b dX6_fulfils_16 rfl (lv_at hl 3 rfl) ?_
      obtain ⟨g3, h⟩ := h
      refine aldI F C (o := 125) (cq := 18) (iq := 0) (by decide) rfl rfl rfl g3 dX6_fulfils_17 ?_
      refine lv_bipush (v := 100) F.x F.b dX6_fulfils_18 (by decide) ?_
      refine lv_icmp_ne (tgt := 50) F.x F.b dX6_fulfils_20 (by decide) (fun g4 => ?_) (fun g4 => ?_)
      · have h := h.1 g4
        refine lv_aload_n F.x F.b dX6_fulfils_50 rfl (lv_at hl 0 rfl) ?_
        refine getM F C 13 (by decide) q4_235 (v := .ref (ad 125)) rfl dX6_fulfils_51 ?_
        refine lv_iload_n F.x F.b dX6_fulfils_54 rfl (lv_at hl 3 rfl) ?_
        obtain ⟨g5, h⟩ := h
        refine aldI F C (o := 125) (cq := 18) (iq := 0) (by decide) rfl rfl rfl g5 dX6_fulfils_55 ?_
        refine lv_bipush (v := 101) F.x F.b dX6_fulfils_56 (by decide) ?_
        refine lv_icmp_eq (tgt := 72) F.x F.b dX6_fulfils_58 (by decide) (fun g6 => ?_) (fun g6 => ?_)
        · have h := h.1 g6
          exact bX6_fulfils_72 F hr ih S v1 v2 v3 _ _ _ h C (lv_sub hl [0, 1, 2, 3] rfl)
        · have h := h.2 g6
          refine lv_aload_n F.x F.b dX6_fulfils_61 rfl (lv_at hl 0 rfl) ?_
          refine getM F C 13 (by decide) q4_235 (v := .ref (ad 125)) rfl dX6_fulfils_62 ?_
          refine lv_iload_n F.x F.b dX6_fulfils_65 rfl (lv_at hl 3 rfl) ?_
          obtain ⟨g7, h⟩ := h
          refine aldI F C (o := 125) (cq := 18) (iq := 0) (by decide) rfl rfl rfl g7 dX6_fulfils_66 ?_
          refine lv_bipush (v := 102) F.x F.b dX6_fulfils_67 (by decide) ?_
          refine lv_icmp_ne (tgt := 150) F.x F.b dX6_fulfils_69 (by decide) (fun g8 => ?_) (fun g8 => ?_)
          · have h := h.1 g8
            refine lv_aload_n F.x F.b dX6_fulfils_150 rfl (lv_at hl 0 rfl) ?_
            refine getM F C 15 (by decide) q4_237 (v := .ref (ad 126)) rfl dX6_fulfils_151 ?_
            refine lv_iload_n F.x F.b dX6_fulfils_154 rfl (lv_at hl 2 rfl) ?_
            obtain ⟨x9, ex9⟩ : ∃ z : Int32, z = v2 + (1 : Int32) := ⟨_, rfl⟩
            have h := h x9 ex9
            refine lv_iinc (v := x9) (lv' := [(2, .int x9), (0, .ref (ad 117)), (1, .int v1), (3, .int v3)]) F.x F.b dX6_fulfils_155 hl (k := 2) rfl (by rw [ex9]; rfl) (by decide) rfl (fun ls hl => ?_)
            refine lv_aload_n F.x F.b dX6_fulfils_158 rfl (lv_at hl 1 rfl) ?_
            refine lv_aload_n F.x F.b dX6_fulfils_159 rfl (lv_at hl 1 rfl) ?_
            refine getM F C 13 (by decide) q4_235 (v := .ref (ad 125)) rfl dX6_fulfils_160 ?_
            refine lv_iload_n F.x F.b dX6_fulfils_163 rfl (lv_at hl 3 rfl) ?_
            obtain ⟨g10, h⟩ := h
            refine aldI F C (o := 125) (cq := 18) (iq := 0) (by decide) rfl rfl rfl g10 dX6_fulfils_164 ?_
            refine lv_iload_n F.x F.b dX6_fulfils_165 rfl (lv_at hl 2 rfl) ?_
            refine kI F C hl (kX6_holds  h) (by decide) (ce_M _) rfl wv_X6_229 ⟨rfl, rfl, ⟨Nat.le_of_ble_eq_true rfl, Nat.le_of_ble_eq_true rfl⟩, ⟨Nat.le_of_ble_eq_true rfl, Nat.le_of_ble_eq_true rfl⟩, Nat.le_of_ble_eq_true rfl⟩ (rest := [.int v2, .ref (ad 126)]) rfl dX6_fulfils_166 (fun r12 S11 H locs h C => ?_)
            obtain ⟨g13, h⟩ := h
            obtain ⟨g14, h⟩ := h
            refine astZ F C (o := 126) (cq := 19) (iq := 0) (by decide) rfl rfl (fun _ => rfl) g13 g14 dX6_fulfils_169 (fun H locs C => ?_)
            obtain ⟨S15, eS15⟩ : ∃ z : Mem, z = wr S11 19 0 v2.toNatClampNeg r12 := ⟨_, rfl⟩
            rw [← eS15] at C
            have h := h S15 eS15
            obtain ⟨x16, ex16⟩ : ∃ z : Int32, z = v3 + (1 : Int32) := ⟨_, rfl⟩
            have h := h x16 ex16
            refine lv_iinc (v := x16) (lv' := [(3, .int x16), (2, .int x9), (0, .ref (ad 117)), (1, .int v1)]) F.x F.b dX6_fulfils_170 hl (k := 3) rfl (by rw [ex16]; rfl) (by decide) rfl (fun ls hl => ?_)
            refine lv_goto (tgt := 4) F.x F.b dX6_fulfils_173 (by decide) ?_
            exact ih S15 v1 x9 x16 _ _ _ h C (lv_sub hl [2, 3, 1, 0] rfl)
          · have h := h.2 g8
            exact bX6_fulfils_72 F hr ih S v1 v2 v3 _ _ _ h C (lv_sub hl [0, 1, 2, 3] rfl)
      · have h := h.2 g4
        refine lv_aload_n F.x F.b dX6_fulfils_23 rfl (lv_at hl 0 rfl) ?_
        refine getM F C 15 (by decide) q4_237 (v := .ref (ad 126)) rfl dX6_fulfils_24 ?_
        refine lv_iload_n F.x F.b dX6_fulfils_27 rfl (lv_at hl 2 rfl) ?_
        refine lv_iconst (v := 1) F.x F.b dX6_fulfils_28 (by decide) ?_
        refine lv_isub F.x F.b dX6_fulfils_29 ?_
        refine lv_aload_n F.x F.b dX6_fulfils_30 rfl (lv_at hl 0 rfl) ?_
        refine getM F C 15 (by decide) q4_237 (v := .ref (ad 126)) rfl dX6_fulfils_31 ?_
        refine lv_iload_n F.x F.b dX6_fulfils_34 rfl (lv_at hl 2 rfl) ?_
        refine lv_iconst (v := 1) F.x F.b dX6_fulfils_35 (by decide) ?_
        refine lv_isub F.x F.b dX6_fulfils_36 ?_
        obtain ⟨g17, h⟩ := h
        refine aldZ F C (o := 126) (cq := 19) (iq := 0) (by decide) rfl rfl rfl g17 dX6_fulfils_37 ?_
        refine lv_if_ne (tgt := 45) F.x F.b dX6_fulfils_38 (by decide) (fun g18 => ?_) (fun g18 => ?_)
        · have h := h.1 g18
          refine lv_iconst (v := 0) F.x F.b dX6_fulfils_45 (by decide) ?_
          obtain ⟨g19, h⟩ := h
          obtain ⟨g20, h⟩ := h
          refine astZ F C (o := 126) (cq := 19) (iq := 0) (by decide) rfl rfl (fun _ => rfl) g19 g20 dX6_fulfils_46 (fun H locs C => ?_)
          obtain ⟨S21, eS21⟩ : ∃ z : Mem, z = wr S 19 0 ((v2 - (1 : Int32))).toNatClampNeg (0 : Int32) := ⟨_, rfl⟩
          rw [← eS21] at C
          have h := h S21 eS21
          refine lv_goto (tgt := 170) F.x F.b dX6_fulfils_47 (by decide) ?_
          obtain ⟨x22, ex22⟩ : ∃ z : Int32, z = v3 + (1 : Int32) := ⟨_, rfl⟩
          have h := h x22 ex22
          refine lv_iinc (v := x22) (lv' := [(3, .int x22), (0, .ref (ad 117)), (1, .int v1), (2, .int v2)]) F.x F.b dX6_fulfils_170 hl (k := 3) rfl (by rw [ex22]; rfl) (by decide) rfl (fun ls hl => ?_)
          refine lv_goto (tgt := 4) F.x F.b dX6_fulfils_173 (by decide) ?_
          exact ih S21 v1 v2 x22 _ _ _ h C (lv_sub hl [1, 2, 3, 0] rfl)
        · have h := h.2 g18
          refine lv_iconst (v := 1) F.x F.b dX6_fulfils_41 (by decide) ?_
          refine lv_goto (tgt := 46) F.x F.b dX6_fulfils_42 (by decide) ?_
          obtain ⟨g23, h⟩ := h
          obtain ⟨g24, h⟩ := h
          refine astZ F C (o := 126) (cq := 19) (iq := 0) (by decide) rfl rfl (fun _ => rfl) g23 g24 dX6_fulfils_46 (fun H locs C => ?_)
          obtain ⟨S25, eS25⟩ : ∃ z : Mem, z = wr S 19 0 ((v2 - (1 : Int32))).toNatClampNeg (1 : Int32) := ⟨_, rfl⟩
          rw [← eS25] at C
          have h := h S25 eS25
          refine lv_goto (tgt := 170) F.x F.b dX6_fulfils_47 (by decide) ?_
          obtain ⟨x26, ex26⟩ : ∃ z : Int32, z = v3 + (1 : Int32) := ⟨_, rfl⟩
          have h := h x26 ex26
          refine lv_iinc (v := x26) (lv' := [(3, .int x26), (0, .ref (ad 117)), (1, .int v1), (2, .int v2)]) F.x F.b dX6_fulfils_170 hl (k := 3) rfl (by rw [ex26]; rfl) (by decide) rfl (fun ls hl => ?_)
          refine lv_goto (tgt := 4) F.x F.b dX6_fulfils_173 (by decide) ?_
          exact ih S25 v1 v2 x26 _ _ _ h C (lv_sub hl [1, 2, 3, 0] rfl)
set_option maxRecDepth 100000 in
set_option maxHeartbeats 4000000 in
theorem kX6_fulfils {l : Launch} {D : va_G} {ky : Nat → ClassId} {ad : Nat → Nat} {ex : Nat → Nat → Nat} {post : Int32 → Mem → Prop} {S : Mem} {v1 : Int32} (h : mX6_fulfils post S v1) : CMi l D ky ad ex yX6_fulfils cX6_fulfils 4 (some .boolean) rmX6_fulfils 0 0 [.ref (ad 117), .int v1] S post := by
  refine CMi.of (by decide) (Nat.le_of_ble_eq_true rfl) (fun p e s m args below meth c ls F hr C hl => ?_)
  have hl : lv_has ls 4 [(0, .ref (ad 117)), (1, .int v1)] := hl
  unfold mX6_fulfils at h
  refine lv_iconst (v := 0) F.x F.b dX6_fulfils_0 (by decide) ?_
  refine lv_istore_n (lv' := [(2, .int (0 : Int32)), (0, .ref (ad 117)), (1, .int v1)]) F.x F.b dX6_fulfils_1 rfl hl (by decide) rfl (fun ls hl => ?_)
  refine lv_iconst (v := 0) F.x F.b dX6_fulfils_2 (by decide) ?_
  refine lv_istore_n (lv' := [(3, .int (0 : Int32)), (2, .int (0 : Int32)), (0, .ref (ad 117)), (1, .int v1)]) F.x F.b dX6_fulfils_3 rfl hl (by decide) rfl (fun ls hl => ?_)
  obtain ⟨n1, h⟩ := h
  exact bX6_fulfils_4 F hr n1 S v1 (0 : Int32) (0 : Int32) _ _ _ h C (lv_sub hl [2, 3, 1, 0] rfl)

def rmX6_answer : Room := { frames := 1, cells := 0, slots := 0, locals := 22 }
def mX6_answer (post : Int32 → Mem → Prop) (S : Mem) (v1 : Int32) : Prop := ∀ S1 : Mem, S1 = wr S 10 0 21 (0 : Int32) → mX6_in (fun (r3 : Int32) (S2 : Mem) => ((r3 = 0 → (mX6_raises (fun (r6 : Int32) (S5 : Mem) => post r6 S5) S2 (1 : Int32))) ∧ (¬ r3 = 0 → (vp_in v1 8 ∧ post (S2 20 0 v1.toNatClampNeg) S2)))) S1 v1 (0 : Int32) (((S1 10 0 17) - (1 : Int32)))
set_option maxRecDepth 100000 in
set_option maxHeartbeats 4000000 in
theorem kX6_answer {l : Launch} {D : va_G} {ky : Nat → ClassId} {ad : Nat → Nat} {ex : Nat → Nat → Nat} {post : Int32 → Mem → Prop} {S : Mem} {v1 : Int32} (h : mX6_answer post S v1) : CMi l D ky ad ex yX6_answer cX6_answer 2 (some .int) rmX6_answer 0 0 [.ref (ad 117), .int v1] S post := by
  refine CMi.of (by decide) (Nat.le_of_ble_eq_true rfl) (fun p e s m args below meth c ls F hr C hl => ?_)
  have hl : lv_has ls 2 [(0, .ref (ad 117)), (1, .int v1)] := hl
  unfold mX6_answer at h
  refine lv_aload_n F.x F.b dX6_answer_0 rfl (lv_at hl 0 rfl) ?_
  refine lv_iconst (v := 0) F.x F.b dX6_answer_1 (by decide) ?_
  refine putM F C 21 (by decide) q5_3 rfl (tyX6_ok 21 (by decide)) rfl rfl rfl dX6_answer_2 (fun H locs C => ?_)
  obtain ⟨S1, eS1⟩ : ∃ z : Mem, z = wr S 10 0 21 (0 : Int32) := ⟨_, rfl⟩
  rw [← eS1] at C
  have h := h S1 eS1
  refine lv_iload_n F.x F.b dX6_answer_5 rfl (lv_at hl 1 rfl) ?_
  refine lv_iconst (v := 0) F.x F.b dX6_answer_6 (by decide) ?_
  refine lv_aload_n F.x F.b dX6_answer_7 rfl (lv_at hl 0 rfl) ?_
  refine getM F C 17 (by decide) q4_239 (v := .int (S1 10 0 17)) rfl dX6_answer_8 ?_
  refine lv_iconst (v := 1) F.x F.b dX6_answer_11 (by decide) ?_
  refine lv_isub F.x F.b dX6_answer_12 ?_
  refine kSI F C hl (kX6_in  h) wv_X6_62 ⟨rfl, rfl, ⟨Nat.le_of_ble_eq_true rfl, Nat.le_of_ble_eq_true rfl⟩, ⟨Nat.le_of_ble_eq_true rfl, Nat.le_of_ble_eq_true rfl⟩, Nat.le_of_ble_eq_true rfl⟩ (rest := []) rfl dX6_answer_13 (fun r3 S2 H locs h C => ?_)
  refine lv_if_eq (tgt := 28) F.x F.b dX6_answer_16 (by decide) (fun g4 => ?_) (fun g4 => ?_)
  · have h := h.1 g4
    refine lv_aload_n F.x F.b dX6_answer_28 rfl (lv_at hl 0 rfl) ?_
    refine lv_iconst (v := 1) F.x F.b dX6_answer_29 (by decide) ?_
    refine kI F C hl (kX6_raises  h) (by decide) (ce_M _) rfl wv_X6_58 ⟨rfl, rfl, ⟨Nat.le_of_ble_eq_true rfl, Nat.le_of_ble_eq_true rfl⟩, ⟨Nat.le_of_ble_eq_true rfl, Nat.le_of_ble_eq_true rfl⟩, Nat.le_of_ble_eq_true rfl⟩ (rest := []) rfl dX6_answer_30 (fun r6 S5 H locs h C => ?_)
    exact retI F hr C h dX6_answer_33
  · have h := h.2 g4
    refine lv_aload_n F.x F.b dX6_answer_19 rfl (lv_at hl 0 rfl) ?_
    refine getM F C 16 (by decide) q4_238 (v := .ref (ad 127)) rfl dX6_answer_20 ?_
    refine lv_iload_n F.x F.b dX6_answer_23 rfl (lv_at hl 1 rfl) ?_
    obtain ⟨g7, h⟩ := h
    refine aldI F C (o := 127) (cq := 20) (iq := 0) (by decide) rfl rfl rfl g7 dX6_answer_24 ?_
    refine lv_goto (tgt := 33) F.x F.b dX6_answer_25 (by decide) ?_
    exact retI F hr C h dX6_answer_33

def rmX6_errorPosition : Room := { frames := 1, cells := 0, slots := 0, locals := 21 }
def mX6_errorPosition (post : Int32 → Mem → Prop) (S : Mem) : Prop := ∀ S1 : Mem, S1 = wr S 10 0 21 (0 : Int32) → ((0 ≤ (S1 10 0 18) → (post (S1 10 0 18) S1)) ∧ (¬ 0 ≤ (S1 10 0 18) → (mX6_raises (fun (r4 : Int32) (S3 : Mem) => post r4 S3) S1 (1 : Int32))))
set_option maxRecDepth 100000 in
set_option maxHeartbeats 4000000 in
theorem kX6_errorPosition {l : Launch} {D : va_G} {ky : Nat → ClassId} {ad : Nat → Nat} {ex : Nat → Nat → Nat} {post : Int32 → Mem → Prop} {S : Mem} (h : mX6_errorPosition post S ) : CMi l D ky ad ex yX6_errorPosition cX6_errorPosition 1 (some .int) rmX6_errorPosition 0 0 [.ref (ad 117)] S post := by
  refine CMi.of (by decide) (Nat.le_of_ble_eq_true rfl) (fun p e s m args below meth c ls F hr C hl => ?_)
  have hl : lv_has ls 1 [(0, .ref (ad 117))] := hl
  unfold mX6_errorPosition at h
  refine lv_aload_n F.x F.b dX6_errorPosition_0 rfl (lv_at hl 0 rfl) ?_
  refine lv_iconst (v := 0) F.x F.b dX6_errorPosition_1 (by decide) ?_
  refine putM F C 21 (by decide) q5_3 rfl (tyX6_ok 21 (by decide)) rfl rfl rfl dX6_errorPosition_2 (fun H locs C => ?_)
  obtain ⟨S1, eS1⟩ : ∃ z : Mem, z = wr S 10 0 21 (0 : Int32) := ⟨_, rfl⟩
  rw [← eS1] at C
  have h := h S1 eS1
  refine lv_aload_n F.x F.b dX6_errorPosition_5 rfl (lv_at hl 0 rfl) ?_
  refine getM F C 18 (by decide) q5_0 (v := .int (S1 10 0 18)) rfl dX6_errorPosition_6 ?_
  refine lv_if_ge (tgt := 20) F.x F.b dX6_errorPosition_9 (by decide) (fun g2 => ?_) (fun g2 => ?_)
  · have h := h.1 g2
    refine lv_aload_n F.x F.b dX6_errorPosition_20 rfl (lv_at hl 0 rfl) ?_
    refine getM F C 18 (by decide) q5_0 (v := .int (S1 10 0 18)) rfl dX6_errorPosition_21 ?_
    exact retI F hr C h dX6_errorPosition_24
  · have h := h.2 g2
    refine lv_aload_n F.x F.b dX6_errorPosition_12 rfl (lv_at hl 0 rfl) ?_
    refine lv_iconst (v := 1) F.x F.b dX6_errorPosition_13 (by decide) ?_
    refine kI F C hl (kX6_raises  h) (by decide) (ce_M _) rfl wv_X6_58 ⟨rfl, rfl, ⟨Nat.le_of_ble_eq_true rfl, Nat.le_of_ble_eq_true rfl⟩, ⟨Nat.le_of_ble_eq_true rfl, Nat.le_of_ble_eq_true rfl⟩, Nat.le_of_ble_eq_true rfl⟩ (rest := []) rfl dX6_errorPosition_14 (fun r4 S3 H locs h C => ?_)
    refine lv_goto (tgt := 24) F.x F.b dX6_errorPosition_17 (by decide) ?_
    exact retI F hr C h dX6_errorPosition_24

def rmX6_refusal : Room := { frames := 1, cells := 0, slots := 0, locals := 21 }
def mX6_refusal (post : Int32 → Mem → Prop) (S : Mem) (v1 : Int32) : Prop := ∀ S1 : Mem, S1 = wr S 10 0 21 (0 : Int32) → ((¬ (S1 10 0 19) = 0 → (((v1 = 0 → (post (S1 10 0 19) S1)) ∧ (¬ v1 = 0 → (post (S1 10 0 20) S1))))) ∧ ((S1 10 0 19) = 0 → (mX6_raises (fun (r5 : Int32) (S4 : Mem) => post r5 S4) S1 (1 : Int32))))
set_option maxRecDepth 100000 in
set_option maxHeartbeats 4000000 in
theorem kX6_refusal {l : Launch} {D : va_G} {ky : Nat → ClassId} {ad : Nat → Nat} {ex : Nat → Nat → Nat} {post : Int32 → Mem → Prop} {S : Mem} {v1 : Int32} (h : mX6_refusal post S v1) : CMi l D ky ad ex yX6_refusal cX6_refusal 2 (some .int) rmX6_refusal 0 0 [.ref (ad 117), .int v1] S post := by
  refine CMi.of (by decide) (Nat.le_of_ble_eq_true rfl) (fun p e s m args below meth c ls F hr C hl => ?_)
  have hl : lv_has ls 2 [(0, .ref (ad 117)), (1, .int v1)] := hl
  unfold mX6_refusal at h
  refine lv_aload_n F.x F.b dX6_refusal_0 rfl (lv_at hl 0 rfl) ?_
  refine lv_iconst (v := 0) F.x F.b dX6_refusal_1 (by decide) ?_
  refine putM F C 21 (by decide) q5_3 rfl (tyX6_ok 21 (by decide)) rfl rfl rfl dX6_refusal_2 (fun H locs C => ?_)
  obtain ⟨S1, eS1⟩ : ∃ z : Mem, z = wr S 10 0 21 (0 : Int32) := ⟨_, rfl⟩
  rw [← eS1] at C
  have h := h S1 eS1
  refine lv_aload_n F.x F.b dX6_refusal_5 rfl (lv_at hl 0 rfl) ?_
  refine getM F C 19 (by decide) q5_1 (v := .int (S1 10 0 19)) rfl dX6_refusal_6 ?_
  refine lv_if_ne (tgt := 18) F.x F.b dX6_refusal_9 (by decide) (fun g2 => ?_) (fun g2 => ?_)
  · have h := h.1 g2
    refine lv_iload_n F.x F.b dX6_refusal_18 rfl (lv_at hl 1 rfl) ?_
    refine lv_if_eq (tgt := 29) F.x F.b dX6_refusal_19 (by decide) (fun g3 => ?_) (fun g3 => ?_)
    · have h := h.1 g3
      refine lv_aload_n F.x F.b dX6_refusal_29 rfl (lv_at hl 0 rfl) ?_
      refine getM F C 19 (by decide) q5_1 (v := .int (S1 10 0 19)) rfl dX6_refusal_30 ?_
      exact retI F hr C h dX6_refusal_33
    · have h := h.2 g3
      refine lv_aload_n F.x F.b dX6_refusal_22 rfl (lv_at hl 0 rfl) ?_
      refine getM F C 20 (by decide) q5_2 (v := .int (S1 10 0 20)) rfl dX6_refusal_23 ?_
      refine lv_goto (tgt := 33) F.x F.b dX6_refusal_26 (by decide) ?_
      exact retI F hr C h dX6_refusal_33
  · have h := h.2 g2
    refine lv_aload_n F.x F.b dX6_refusal_12 rfl (lv_at hl 0 rfl) ?_
    refine lv_iconst (v := 1) F.x F.b dX6_refusal_13 (by decide) ?_
    refine kI F C hl (kX6_raises  h) (by decide) (ce_M _) rfl wv_X6_58 ⟨rfl, rfl, ⟨Nat.le_of_ble_eq_true rfl, Nat.le_of_ble_eq_true rfl⟩, ⟨Nat.le_of_ble_eq_true rfl, Nat.le_of_ble_eq_true rfl⟩, Nat.le_of_ble_eq_true rfl⟩ (rest := []) rfl dX6_refusal_14 (fun r5 S4 H locs h C => ?_)
    exact retI F hr C h dX6_refusal_17

def rmX6_written : Room := { frames := 1, cells := 0, slots := 0, locals := 22 }
def mX6_written (post : Int32 → Mem → Prop) (S : Mem) (v1 : Int32) : Prop := ∀ S1 : Mem, S1 = wr S 10 0 21 (0 : Int32) → mX6_in (fun (r3 : Int32) (S2 : Mem) => ((r3 = 0 → (mX6_raises (fun (r6 : Int32) (S5 : Mem) => isC (r6.toUInt32 % 65536).toInt32 ∧ post ((r6.toUInt32 % 65536).toInt32) S5) S2 (1 : Int32))) ∧ (¬ r3 = 0 → (vp_in v1 13 ∧ isC (S2 16 0 v1.toNatClampNeg) ∧ post (S2 16 0 v1.toNatClampNeg) S2)))) S1 v1 (0 : Int32) (((S1 10 0 8) - (1 : Int32)))
set_option maxRecDepth 100000 in
set_option maxHeartbeats 4000000 in
theorem kX6_written {l : Launch} {D : va_G} {ky : Nat → ClassId} {ad : Nat → Nat} {ex : Nat → Nat → Nat} {post : Int32 → Mem → Prop} {S : Mem} {v1 : Int32} (h : mX6_written post S v1) : CMi l D ky ad ex yX6_written cX6_written 2 (some .char) rmX6_written 0 0 [.ref (ad 117), .int v1] S post := by
  refine CMi.of (by decide) (Nat.le_of_ble_eq_true rfl) (fun p e s m args below meth c ls F hr C hl => ?_)
  have hl : lv_has ls 2 [(0, .ref (ad 117)), (1, .int v1)] := hl
  unfold mX6_written at h
  refine lv_aload_n F.x F.b dX6_written_0 rfl (lv_at hl 0 rfl) ?_
  refine lv_iconst (v := 0) F.x F.b dX6_written_1 (by decide) ?_
  refine putM F C 21 (by decide) q5_3 rfl (tyX6_ok 21 (by decide)) rfl rfl rfl dX6_written_2 (fun H locs C => ?_)
  obtain ⟨S1, eS1⟩ : ∃ z : Mem, z = wr S 10 0 21 (0 : Int32) := ⟨_, rfl⟩
  rw [← eS1] at C
  have h := h S1 eS1
  refine lv_iload_n F.x F.b dX6_written_5 rfl (lv_at hl 1 rfl) ?_
  refine lv_iconst (v := 0) F.x F.b dX6_written_6 (by decide) ?_
  refine lv_aload_n F.x F.b dX6_written_7 rfl (lv_at hl 0 rfl) ?_
  refine getM F C 8 (by decide) q4_230 (v := .int (S1 10 0 8)) rfl dX6_written_8 ?_
  refine lv_iconst (v := 1) F.x F.b dX6_written_11 (by decide) ?_
  refine lv_isub F.x F.b dX6_written_12 ?_
  refine kSI F C hl (kX6_in  h) wv_X6_62 ⟨rfl, rfl, ⟨Nat.le_of_ble_eq_true rfl, Nat.le_of_ble_eq_true rfl⟩, ⟨Nat.le_of_ble_eq_true rfl, Nat.le_of_ble_eq_true rfl⟩, Nat.le_of_ble_eq_true rfl⟩ (rest := []) rfl dX6_written_13 (fun r3 S2 H locs h C => ?_)
  refine lv_if_eq (tgt := 28) F.x F.b dX6_written_16 (by decide) (fun g4 => ?_) (fun g4 => ?_)
  · have h := h.1 g4
    refine lv_aload_n F.x F.b dX6_written_28 rfl (lv_at hl 0 rfl) ?_
    refine lv_iconst (v := 1) F.x F.b dX6_written_29 (by decide) ?_
    refine kI F C hl (kX6_raises  h) (by decide) (ce_M _) rfl wv_X6_58 ⟨rfl, rfl, ⟨Nat.le_of_ble_eq_true rfl, Nat.le_of_ble_eq_true rfl⟩, ⟨Nat.le_of_ble_eq_true rfl, Nat.le_of_ble_eq_true rfl⟩, Nat.le_of_ble_eq_true rfl⟩ (rest := []) rfl dX6_written_30 (fun r6 S5 H locs h C => ?_)
    refine lv_i2c F.x F.b dX6_written_33 rfl ?_
    exact retZ F hr C h.1 h.2 dX6_written_34
  · have h := h.2 g4
    refine lv_aload_n F.x F.b dX6_written_19 rfl (lv_at hl 0 rfl) ?_
    refine getM F C 7 (by decide) q4_229 (v := .ref (ad 123)) rfl dX6_written_20 ?_
    refine lv_iload_n F.x F.b dX6_written_23 rfl (lv_at hl 1 rfl) ?_
    obtain ⟨g7, h⟩ := h
    refine aldC F C (o := 123) (cq := 16) (iq := 0) (by decide) rfl rfl rfl g7 dX6_written_24 ?_
    refine lv_goto (tgt := 34) F.x F.b dX6_written_25 (by decide) ?_
    exact retZ F hr C h.1 h.2 dX6_written_34

def rmX6_account : Room := { frames := 2, cells := 0, slots := 0, locals := 46 }
def mX6_account (post : Int32 → Mem → Prop) (S : Mem) (v1 : Int32) : Prop := ∀ S1 : Mem, S1 = wr S 10 0 21 (0 : Int32) → ((v1 = (0 : Int32) → (vp_in (0 : Int32) 84 ∧ post ((S1 11 0 (0 : Int32).toNatClampNeg)) S1)) ∧ (v1 = (1 : Int32) → (vp_in (1 : Int32) 84 ∧ post ((S1 11 0 (1 : Int32).toNatClampNeg)) S1)) ∧ (v1 = (2 : Int32) → (vp_in (2 : Int32) 84 ∧ post ((S1 11 0 (2 : Int32).toNatClampNeg)) S1)) ∧ (v1 = (3 : Int32) → (vp_in (3 : Int32) 84 ∧ post ((S1 11 0 (3 : Int32).toNatClampNeg)) S1)) ∧ (v1 = (4 : Int32) → (mX6_countAt (fun (r8 : Int32) (S7 : Mem) => post r8 S7) S1 (-1 : Int32) (-1 : Int32))) ∧ (v1 = (5 : Int32) → (mX6_countAt (fun (r10 : Int32) (S9 : Mem) => post r10 S9) S1 (0 : Int32) (9 : Int32))) ∧ (v1 = (6 : Int32) → (mX6_countAt (fun (r12 : Int32) (S11 : Mem) => post r12 S11) S1 (10 : Int32) (10 : Int32))) ∧ (v1 = (7 : Int32) → (mX6_sum (fun (r14 : Int32) (S13 : Mem) => post r14 S13) S1 (3 : Int32))) ∧ (v1 = (8 : Int32) → (vp_in (4 : Int32) 84 ∧ post ((S1 11 0 (4 : Int32).toNatClampNeg)) S1)) ∧ (v1 = (9 : Int32) → (mX6_sum (fun (r17 : Int32) (S16 : Mem) => post r17 S16) S1 (7 : Int32))) ∧ (v1 = (10 : Int32) → (vp_in (5 : Int32) 84 ∧ post ((S1 11 0 (5 : Int32).toNatClampNeg)) S1)) ∧ (v1 = (11 : Int32) → (vp_in (6 : Int32) 84 ∧ post ((S1 11 0 (6 : Int32).toNatClampNeg)) S1)) ∧ (v1 = (12 : Int32) → (vp_in (7 : Int32) 84 ∧ post ((S1 11 0 (7 : Int32).toNatClampNeg)) S1)) ∧ (v1 = (13 : Int32) → (vp_in (8 : Int32) 84 ∧ post ((S1 11 0 (8 : Int32).toNatClampNeg)) S1)) ∧ (v1 = (14 : Int32) → (vp_in (9 : Int32) 84 ∧ post ((S1 11 0 (9 : Int32).toNatClampNeg)) S1)) ∧ (v1 = (15 : Int32) → (mX6_sum (fun (r24 : Int32) (S23 : Mem) => post r24 S23) S1 (1 : Int32))) ∧ (v1 = (16 : Int32) → (post (S1 10 0 17) S1)) ∧ (v1 = (17 : Int32) → (post (S1 10 0 10) S1)) ∧ (v1 = (18 : Int32) → (post (S1 10 0 4) S1)) ∧ (¬ v1 = (0 : Int32) ∧ ¬ v1 = (1 : Int32) ∧ ¬ v1 = (2 : Int32) ∧ ¬ v1 = (3 : Int32) ∧ ¬ v1 = (4 : Int32) ∧ ¬ v1 = (5 : Int32) ∧ ¬ v1 = (6 : Int32) ∧ ¬ v1 = (7 : Int32) ∧ ¬ v1 = (8 : Int32) ∧ ¬ v1 = (9 : Int32) ∧ ¬ v1 = (10 : Int32) ∧ ¬ v1 = (11 : Int32) ∧ ¬ v1 = (12 : Int32) ∧ ¬ v1 = (13 : Int32) ∧ ¬ v1 = (14 : Int32) ∧ ¬ v1 = (15 : Int32) ∧ ¬ v1 = (16 : Int32) ∧ ¬ v1 = (17 : Int32) ∧ ¬ v1 = (18 : Int32) → (mX6_raises (fun (r26 : Int32) (S25 : Mem) => post r26 S25) S1 (1 : Int32))))
set_option maxRecDepth 100000 in
set_option maxHeartbeats 4000000 in
theorem kX6_account {l : Launch} {D : va_G} {ky : Nat → ClassId} {ad : Nat → Nat} {ex : Nat → Nat → Nat} {post : Int32 → Mem → Prop} {S : Mem} {v1 : Int32} (h : mX6_account post S v1) : CMi l D ky ad ex yX6_account cX6_account 2 (some .int) rmX6_account 0 0 [.ref (ad 117), .int v1] S post := by
  refine CMi.of (by decide) (Nat.le_of_ble_eq_true rfl) (fun p e s m args below meth c ls F hr C hl => ?_)
  have hl : lv_has ls 2 [(0, .ref (ad 117)), (1, .int v1)] := hl
  unfold mX6_account at h
  refine lv_aload_n F.x F.b dX6_account_0 rfl (lv_at hl 0 rfl) ?_
  refine lv_iconst (v := 0) F.x F.b dX6_account_1 (by decide) ?_
  refine putM F C 21 (by decide) q5_3 rfl (tyX6_ok 21 (by decide)) rfl rfl rfl dX6_account_2 (fun H locs C => ?_)
  obtain ⟨S1, eS1⟩ : ∃ z : Mem, z = wr S 10 0 21 (0 : Int32) := ⟨_, rfl⟩
  rw [← eS1] at C
  have h := h S1 eS1
  refine lv_iload_n F.x F.b dX6_account_5 rfl (lv_at hl 1 rfl) ?_
  by_cases g2 : v1 = (0 : Int32)
  · have h := h.1 g2
    refine lv_tableIn (tgt := 96) F.x F.b dX6_account_6 (by rw [g2]; decide) (by rw [g2]; decide) (by rw [g2]; rfl) (by decide) ?_
    refine lv_aload_n F.x F.b dX6_account_96 rfl (lv_at hl 0 rfl) ?_
    refine getM F C 0 (by decide) q4_222 (v := .ref (ad 118)) rfl dX6_account_97 ?_
    refine lv_iconst (v := 0) F.x F.b dX6_account_100 (by decide) ?_
    obtain ⟨g3, h⟩ := h
    refine aldI F C (o := 118) (cq := 11) (iq := 0) (by decide) rfl rfl rfl g3 dX6_account_101 ?_
    exact retI F hr C h dX6_account_102
  · have ng2_0 := g2
    by_cases g2 : v1 = (1 : Int32)
    · have h := h.2.1 g2
      refine lv_tableIn (tgt := 103) F.x F.b dX6_account_6 (by rw [g2]; decide) (by rw [g2]; decide) (by rw [g2]; rfl) (by decide) ?_
      refine lv_aload_n F.x F.b dX6_account_103 rfl (lv_at hl 0 rfl) ?_
      refine getM F C 0 (by decide) q4_222 (v := .ref (ad 118)) rfl dX6_account_104 ?_
      refine lv_iconst (v := 1) F.x F.b dX6_account_107 (by decide) ?_
      obtain ⟨g4, h⟩ := h
      refine aldI F C (o := 118) (cq := 11) (iq := 0) (by decide) rfl rfl rfl g4 dX6_account_108 ?_
      exact retI F hr C h dX6_account_109
    · have ng2_1 := g2
      by_cases g2 : v1 = (2 : Int32)
      · have h := h.2.2.1 g2
        refine lv_tableIn (tgt := 110) F.x F.b dX6_account_6 (by rw [g2]; decide) (by rw [g2]; decide) (by rw [g2]; rfl) (by decide) ?_
        refine lv_aload_n F.x F.b dX6_account_110 rfl (lv_at hl 0 rfl) ?_
        refine getM F C 0 (by decide) q4_222 (v := .ref (ad 118)) rfl dX6_account_111 ?_
        refine lv_iconst (v := 2) F.x F.b dX6_account_114 (by decide) ?_
        obtain ⟨g5, h⟩ := h
        refine aldI F C (o := 118) (cq := 11) (iq := 0) (by decide) rfl rfl rfl g5 dX6_account_115 ?_
        exact retI F hr C h dX6_account_116
      · have ng2_2 := g2
        by_cases g2 : v1 = (3 : Int32)
        · have h := h.2.2.2.1 g2
          refine lv_tableIn (tgt := 117) F.x F.b dX6_account_6 (by rw [g2]; decide) (by rw [g2]; decide) (by rw [g2]; rfl) (by decide) ?_
          refine lv_aload_n F.x F.b dX6_account_117 rfl (lv_at hl 0 rfl) ?_
          refine getM F C 0 (by decide) q4_222 (v := .ref (ad 118)) rfl dX6_account_118 ?_
          refine lv_iconst (v := 3) F.x F.b dX6_account_121 (by decide) ?_
          obtain ⟨g6, h⟩ := h
          refine aldI F C (o := 118) (cq := 11) (iq := 0) (by decide) rfl rfl rfl g6 dX6_account_122 ?_
          exact retI F hr C h dX6_account_123
        · have ng2_3 := g2
          by_cases g2 : v1 = (4 : Int32)
          · have h := h.2.2.2.2.1 g2
            refine lv_tableIn (tgt := 124) F.x F.b dX6_account_6 (by rw [g2]; decide) (by rw [g2]; decide) (by rw [g2]; rfl) (by decide) ?_
            refine lv_aload_n F.x F.b dX6_account_124 rfl (lv_at hl 0 rfl) ?_
            refine lv_iconst (v := -1) F.x F.b dX6_account_125 (by decide) ?_
            refine lv_iconst (v := -1) F.x F.b dX6_account_126 (by decide) ?_
            refine kI F C hl (kX6_countAt  h) (by decide) (ce_M _) rfl wv_X6_102 ⟨rfl, rfl, ⟨Nat.le_of_ble_eq_true rfl, Nat.le_of_ble_eq_true rfl⟩, ⟨Nat.le_of_ble_eq_true rfl, Nat.le_of_ble_eq_true rfl⟩, Nat.le_of_ble_eq_true rfl⟩ (rest := []) rfl dX6_account_127 (fun r8 S7 H locs h C => ?_)
            exact retI F hr C h dX6_account_130
          · have ng2_4 := g2
            by_cases g2 : v1 = (5 : Int32)
            · have h := h.2.2.2.2.2.1 g2
              refine lv_tableIn (tgt := 131) F.x F.b dX6_account_6 (by rw [g2]; decide) (by rw [g2]; decide) (by rw [g2]; rfl) (by decide) ?_
              refine lv_aload_n F.x F.b dX6_account_131 rfl (lv_at hl 0 rfl) ?_
              refine lv_iconst (v := 0) F.x F.b dX6_account_132 (by decide) ?_
              refine lv_bipush (v := 9) F.x F.b dX6_account_133 (by decide) ?_
              refine kI F C hl (kX6_countAt  h) (by decide) (ce_M _) rfl wv_X6_102 ⟨rfl, rfl, ⟨Nat.le_of_ble_eq_true rfl, Nat.le_of_ble_eq_true rfl⟩, ⟨Nat.le_of_ble_eq_true rfl, Nat.le_of_ble_eq_true rfl⟩, Nat.le_of_ble_eq_true rfl⟩ (rest := []) rfl dX6_account_135 (fun r10 S9 H locs h C => ?_)
              exact retI F hr C h dX6_account_138
            · have ng2_5 := g2
              by_cases g2 : v1 = (6 : Int32)
              · have h := h.2.2.2.2.2.2.1 g2
                refine lv_tableIn (tgt := 139) F.x F.b dX6_account_6 (by rw [g2]; decide) (by rw [g2]; decide) (by rw [g2]; rfl) (by decide) ?_
                refine lv_aload_n F.x F.b dX6_account_139 rfl (lv_at hl 0 rfl) ?_
                refine lv_bipush (v := 10) F.x F.b dX6_account_140 (by decide) ?_
                refine lv_bipush (v := 10) F.x F.b dX6_account_142 (by decide) ?_
                refine kI F C hl (kX6_countAt  h) (by decide) (ce_M _) rfl wv_X6_102 ⟨rfl, rfl, ⟨Nat.le_of_ble_eq_true rfl, Nat.le_of_ble_eq_true rfl⟩, ⟨Nat.le_of_ble_eq_true rfl, Nat.le_of_ble_eq_true rfl⟩, Nat.le_of_ble_eq_true rfl⟩ (rest := []) rfl dX6_account_144 (fun r12 S11 H locs h C => ?_)
                exact retI F hr C h dX6_account_147
              · have ng2_6 := g2
                by_cases g2 : v1 = (7 : Int32)
                · have h := h.2.2.2.2.2.2.2.1 g2
                  refine lv_tableIn (tgt := 148) F.x F.b dX6_account_6 (by rw [g2]; decide) (by rw [g2]; decide) (by rw [g2]; rfl) (by decide) ?_
                  refine lv_aload_n F.x F.b dX6_account_148 rfl (lv_at hl 0 rfl) ?_
                  refine lv_iconst (v := 3) F.x F.b dX6_account_149 (by decide) ?_
                  refine kI F C hl (kX6_sum  h) (by decide) (ce_M _) rfl wv_X6_244 ⟨rfl, rfl, ⟨Nat.le_of_ble_eq_true rfl, Nat.le_of_ble_eq_true rfl⟩, ⟨Nat.le_of_ble_eq_true rfl, Nat.le_of_ble_eq_true rfl⟩, Nat.le_of_ble_eq_true rfl⟩ (rest := []) rfl dX6_account_150 (fun r14 S13 H locs h C => ?_)
                  exact retI F hr C h dX6_account_153
                · have ng2_7 := g2
                  by_cases g2 : v1 = (8 : Int32)
                  · have h := h.2.2.2.2.2.2.2.2.1 g2
                    refine lv_tableIn (tgt := 154) F.x F.b dX6_account_6 (by rw [g2]; decide) (by rw [g2]; decide) (by rw [g2]; rfl) (by decide) ?_
                    refine lv_aload_n F.x F.b dX6_account_154 rfl (lv_at hl 0 rfl) ?_
                    refine getM F C 0 (by decide) q4_222 (v := .ref (ad 118)) rfl dX6_account_155 ?_
                    refine lv_iconst (v := 4) F.x F.b dX6_account_158 (by decide) ?_
                    obtain ⟨g15, h⟩ := h
                    refine aldI F C (o := 118) (cq := 11) (iq := 0) (by decide) rfl rfl rfl g15 dX6_account_159 ?_
                    exact retI F hr C h dX6_account_160
                  · have ng2_8 := g2
                    by_cases g2 : v1 = (9 : Int32)
                    · have h := h.2.2.2.2.2.2.2.2.2.1 g2
                      refine lv_tableIn (tgt := 161) F.x F.b dX6_account_6 (by rw [g2]; decide) (by rw [g2]; decide) (by rw [g2]; rfl) (by decide) ?_
                      refine lv_aload_n F.x F.b dX6_account_161 rfl (lv_at hl 0 rfl) ?_
                      refine lv_bipush (v := 7) F.x F.b dX6_account_162 (by decide) ?_
                      refine kI F C hl (kX6_sum  h) (by decide) (ce_M _) rfl wv_X6_244 ⟨rfl, rfl, ⟨Nat.le_of_ble_eq_true rfl, Nat.le_of_ble_eq_true rfl⟩, ⟨Nat.le_of_ble_eq_true rfl, Nat.le_of_ble_eq_true rfl⟩, Nat.le_of_ble_eq_true rfl⟩ (rest := []) rfl dX6_account_164 (fun r17 S16 H locs h C => ?_)
                      exact retI F hr C h dX6_account_167
                    · have ng2_9 := g2
                      by_cases g2 : v1 = (10 : Int32)
                      · have h := h.2.2.2.2.2.2.2.2.2.2.1 g2
                        refine lv_tableIn (tgt := 168) F.x F.b dX6_account_6 (by rw [g2]; decide) (by rw [g2]; decide) (by rw [g2]; rfl) (by decide) ?_
                        refine lv_aload_n F.x F.b dX6_account_168 rfl (lv_at hl 0 rfl) ?_
                        refine getM F C 0 (by decide) q4_222 (v := .ref (ad 118)) rfl dX6_account_169 ?_
                        refine lv_iconst (v := 5) F.x F.b dX6_account_172 (by decide) ?_
                        obtain ⟨g18, h⟩ := h
                        refine aldI F C (o := 118) (cq := 11) (iq := 0) (by decide) rfl rfl rfl g18 dX6_account_173 ?_
                        exact retI F hr C h dX6_account_174
                      · have ng2_10 := g2
                        by_cases g2 : v1 = (11 : Int32)
                        · have h := h.2.2.2.2.2.2.2.2.2.2.2.1 g2
                          refine lv_tableIn (tgt := 175) F.x F.b dX6_account_6 (by rw [g2]; decide) (by rw [g2]; decide) (by rw [g2]; rfl) (by decide) ?_
                          refine lv_aload_n F.x F.b dX6_account_175 rfl (lv_at hl 0 rfl) ?_
                          refine getM F C 0 (by decide) q4_222 (v := .ref (ad 118)) rfl dX6_account_176 ?_
                          refine lv_bipush (v := 6) F.x F.b dX6_account_179 (by decide) ?_
                          obtain ⟨g19, h⟩ := h
                          refine aldI F C (o := 118) (cq := 11) (iq := 0) (by decide) rfl rfl rfl g19 dX6_account_181 ?_
                          exact retI F hr C h dX6_account_182
                        · have ng2_11 := g2
                          by_cases g2 : v1 = (12 : Int32)
                          · have h := h.2.2.2.2.2.2.2.2.2.2.2.2.1 g2
                            refine lv_tableIn (tgt := 183) F.x F.b dX6_account_6 (by rw [g2]; decide) (by rw [g2]; decide) (by rw [g2]; rfl) (by decide) ?_
                            refine lv_aload_n F.x F.b dX6_account_183 rfl (lv_at hl 0 rfl) ?_
                            refine getM F C 0 (by decide) q4_222 (v := .ref (ad 118)) rfl dX6_account_184 ?_
                            refine lv_bipush (v := 7) F.x F.b dX6_account_187 (by decide) ?_
                            obtain ⟨g20, h⟩ := h
                            refine aldI F C (o := 118) (cq := 11) (iq := 0) (by decide) rfl rfl rfl g20 dX6_account_189 ?_
                            exact retI F hr C h dX6_account_190
                          · have ng2_12 := g2
                            by_cases g2 : v1 = (13 : Int32)
                            · have h := h.2.2.2.2.2.2.2.2.2.2.2.2.2.1 g2
                              refine lv_tableIn (tgt := 191) F.x F.b dX6_account_6 (by rw [g2]; decide) (by rw [g2]; decide) (by rw [g2]; rfl) (by decide) ?_
                              refine lv_aload_n F.x F.b dX6_account_191 rfl (lv_at hl 0 rfl) ?_
                              refine getM F C 0 (by decide) q4_222 (v := .ref (ad 118)) rfl dX6_account_192 ?_
                              refine lv_bipush (v := 8) F.x F.b dX6_account_195 (by decide) ?_
                              obtain ⟨g21, h⟩ := h
                              refine aldI F C (o := 118) (cq := 11) (iq := 0) (by decide) rfl rfl rfl g21 dX6_account_197 ?_
                              exact retI F hr C h dX6_account_198
                            · have ng2_13 := g2
                              by_cases g2 : v1 = (14 : Int32)
                              · have h := h.2.2.2.2.2.2.2.2.2.2.2.2.2.2.1 g2
                                refine lv_tableIn (tgt := 199) F.x F.b dX6_account_6 (by rw [g2]; decide) (by rw [g2]; decide) (by rw [g2]; rfl) (by decide) ?_
                                refine lv_aload_n F.x F.b dX6_account_199 rfl (lv_at hl 0 rfl) ?_
                                refine getM F C 0 (by decide) q4_222 (v := .ref (ad 118)) rfl dX6_account_200 ?_
                                refine lv_bipush (v := 9) F.x F.b dX6_account_203 (by decide) ?_
                                obtain ⟨g22, h⟩ := h
                                refine aldI F C (o := 118) (cq := 11) (iq := 0) (by decide) rfl rfl rfl g22 dX6_account_205 ?_
                                exact retI F hr C h dX6_account_206
                              · have ng2_14 := g2
                                by_cases g2 : v1 = (15 : Int32)
                                · have h := h.2.2.2.2.2.2.2.2.2.2.2.2.2.2.2.1 g2
                                  refine lv_tableIn (tgt := 207) F.x F.b dX6_account_6 (by rw [g2]; decide) (by rw [g2]; decide) (by rw [g2]; rfl) (by decide) ?_
                                  refine lv_aload_n F.x F.b dX6_account_207 rfl (lv_at hl 0 rfl) ?_
                                  refine lv_iconst (v := 1) F.x F.b dX6_account_208 (by decide) ?_
                                  refine kI F C hl (kX6_sum  h) (by decide) (ce_M _) rfl wv_X6_244 ⟨rfl, rfl, ⟨Nat.le_of_ble_eq_true rfl, Nat.le_of_ble_eq_true rfl⟩, ⟨Nat.le_of_ble_eq_true rfl, Nat.le_of_ble_eq_true rfl⟩, Nat.le_of_ble_eq_true rfl⟩ (rest := []) rfl dX6_account_209 (fun r24 S23 H locs h C => ?_)
                                  exact retI F hr C h dX6_account_212
                                · have ng2_15 := g2
                                  by_cases g2 : v1 = (16 : Int32)
                                  · have h := h.2.2.2.2.2.2.2.2.2.2.2.2.2.2.2.2.1 g2
                                    refine lv_tableIn (tgt := 213) F.x F.b dX6_account_6 (by rw [g2]; decide) (by rw [g2]; decide) (by rw [g2]; rfl) (by decide) ?_
                                    refine lv_aload_n F.x F.b dX6_account_213 rfl (lv_at hl 0 rfl) ?_
                                    refine getM F C 17 (by decide) q4_239 (v := .int (S1 10 0 17)) rfl dX6_account_214 ?_
                                    exact retI F hr C h dX6_account_217
                                  · have ng2_16 := g2
                                    by_cases g2 : v1 = (17 : Int32)
                                    · have h := h.2.2.2.2.2.2.2.2.2.2.2.2.2.2.2.2.2.1 g2
                                      refine lv_tableIn (tgt := 218) F.x F.b dX6_account_6 (by rw [g2]; decide) (by rw [g2]; decide) (by rw [g2]; rfl) (by decide) ?_
                                      refine lv_aload_n F.x F.b dX6_account_218 rfl (lv_at hl 0 rfl) ?_
                                      refine getM F C 10 (by decide) q4_232 (v := .int (S1 10 0 10)) rfl dX6_account_219 ?_
                                      exact retI F hr C h dX6_account_222
                                    · have ng2_17 := g2
                                      by_cases g2 : v1 = (18 : Int32)
                                      · have h := h.2.2.2.2.2.2.2.2.2.2.2.2.2.2.2.2.2.2.1 g2
                                        refine lv_tableIn (tgt := 223) F.x F.b dX6_account_6 (by rw [g2]; decide) (by rw [g2]; decide) (by rw [g2]; rfl) (by decide) ?_
                                        refine lv_aload_n F.x F.b dX6_account_223 rfl (lv_at hl 0 rfl) ?_
                                        refine getM F C 4 (by decide) q4_226 (v := .int (S1 10 0 4)) rfl dX6_account_224 ?_
                                        exact retI F hr C h dX6_account_227
                                      · have ng2_18 := g2
                                        have h := h.2.2.2.2.2.2.2.2.2.2.2.2.2.2.2.2.2.2.2 ⟨ng2_0, ng2_1, ng2_2, ng2_3, ng2_4, ng2_5, ng2_6, ng2_7, ng2_8, ng2_9, ng2_10, ng2_11, ng2_12, ng2_13, ng2_14, ng2_15, ng2_16, ng2_17, ng2_18⟩
                                        refine lv_tableOut (tgt := 228) F.x F.b dX6_account_6 (sw_out v1 0 18 (by decide) (by decide) (fun z h1 h2 => ?_)) (by decide) ?_
                                        · rcases (show z = 0 ∨ z = 1 ∨ z = 2 ∨ z = 3 ∨ z = 4 ∨ z = 5 ∨ z = 6 ∨ z = 7 ∨ z = 8 ∨ z = 9 ∨ z = 10 ∨ z = 11 ∨ z = 12 ∨ z = 13 ∨ z = 14 ∨ z = 15 ∨ z = 16 ∨ z = 17 ∨ z = 18 by omega) with rfl | rfl | rfl | rfl | rfl | rfl | rfl | rfl | rfl | rfl | rfl | rfl | rfl | rfl | rfl | rfl | rfl | rfl | rfl
                                          · exact ng2_0
                                          · exact ng2_1
                                          · exact ng2_2
                                          · exact ng2_3
                                          · exact ng2_4
                                          · exact ng2_5
                                          · exact ng2_6
                                          · exact ng2_7
                                          · exact ng2_8
                                          · exact ng2_9
                                          · exact ng2_10
                                          · exact ng2_11
                                          · exact ng2_12
                                          · exact ng2_13
                                          · exact ng2_14
                                          · exact ng2_15
                                          · exact ng2_16
                                          · exact ng2_17
                                          · exact ng2_18
                                        · refine lv_aload_n F.x F.b dX6_account_228 rfl (lv_at hl 0 rfl) ?_
                                          refine lv_iconst (v := 1) F.x F.b dX6_account_229 (by decide) ?_
                                          refine kI F C hl (kX6_raises  h) (by decide) (ce_M _) rfl wv_X6_58 ⟨rfl, rfl, ⟨Nat.le_of_ble_eq_true rfl, Nat.le_of_ble_eq_true rfl⟩, ⟨Nat.le_of_ble_eq_true rfl, Nat.le_of_ble_eq_true rfl⟩, Nat.le_of_ble_eq_true rfl⟩ (rest := []) rfl dX6_account_230 (fun r26 S25 H locs h C => ?_)
                                          exact retI F hr C h dX6_account_233

def rmX6_lettersAgain : Room := { frames := 2, cells := 0, slots := 0, locals := 45 }
def mX6_lettersAgain (post : Int32 → Mem → Prop) (S : Mem) : Prop := ∀ S1 : Mem, S1 = wr S 10 0 21 (0 : Int32) → vp_in (6 : Int32) 84 ∧ vp_in (5 : Int32) 84 ∧ mX6_sum (fun (r5 : Int32) (S4 : Mem) => post ((((S1 11 0 (6 : Int32).toNatClampNeg) - (S1 11 0 (5 : Int32).toNatClampNeg)) - r5)) S4) S1 (7 : Int32)
set_option maxRecDepth 100000 in
set_option maxHeartbeats 4000000 in
theorem kX6_lettersAgain {l : Launch} {D : va_G} {ky : Nat → ClassId} {ad : Nat → Nat} {ex : Nat → Nat → Nat} {post : Int32 → Mem → Prop} {S : Mem} (h : mX6_lettersAgain post S ) : CMi l D ky ad ex yX6_lettersAgain cX6_lettersAgain 1 (some .int) rmX6_lettersAgain 0 0 [.ref (ad 117)] S post := by
  refine CMi.of (by decide) (Nat.le_of_ble_eq_true rfl) (fun p e s m args below meth c ls F hr C hl => ?_)
  have hl : lv_has ls 1 [(0, .ref (ad 117))] := hl
  unfold mX6_lettersAgain at h
  refine lv_aload_n F.x F.b dX6_lettersAgain_0 rfl (lv_at hl 0 rfl) ?_
  refine lv_iconst (v := 0) F.x F.b dX6_lettersAgain_1 (by decide) ?_
  refine putM F C 21 (by decide) q5_3 rfl (tyX6_ok 21 (by decide)) rfl rfl rfl dX6_lettersAgain_2 (fun H locs C => ?_)
  obtain ⟨S1, eS1⟩ : ∃ z : Mem, z = wr S 10 0 21 (0 : Int32) := ⟨_, rfl⟩
  rw [← eS1] at C
  have h := h S1 eS1
  refine lv_aload_n F.x F.b dX6_lettersAgain_5 rfl (lv_at hl 0 rfl) ?_
  refine getM F C 0 (by decide) q4_222 (v := .ref (ad 118)) rfl dX6_lettersAgain_6 ?_
  refine lv_bipush (v := 6) F.x F.b dX6_lettersAgain_9 (by decide) ?_
  obtain ⟨g2, h⟩ := h
  refine aldI F C (o := 118) (cq := 11) (iq := 0) (by decide) rfl rfl rfl g2 dX6_lettersAgain_11 ?_
  refine lv_aload_n F.x F.b dX6_lettersAgain_12 rfl (lv_at hl 0 rfl) ?_
  refine getM F C 0 (by decide) q4_222 (v := .ref (ad 118)) rfl dX6_lettersAgain_13 ?_
  refine lv_iconst (v := 5) F.x F.b dX6_lettersAgain_16 (by decide) ?_
  obtain ⟨g3, h⟩ := h
  refine aldI F C (o := 118) (cq := 11) (iq := 0) (by decide) rfl rfl rfl g3 dX6_lettersAgain_17 ?_
  refine lv_isub F.x F.b dX6_lettersAgain_18 ?_
  refine lv_aload_n F.x F.b dX6_lettersAgain_19 rfl (lv_at hl 0 rfl) ?_
  refine lv_bipush (v := 7) F.x F.b dX6_lettersAgain_20 (by decide) ?_
  refine kI F C hl (kX6_sum  h) (by decide) (ce_M _) rfl wv_X6_244 ⟨rfl, rfl, ⟨Nat.le_of_ble_eq_true rfl, Nat.le_of_ble_eq_true rfl⟩, ⟨Nat.le_of_ble_eq_true rfl, Nat.le_of_ble_eq_true rfl⟩, Nat.le_of_ble_eq_true rfl⟩ (rest := [.int ((S1 11 0 (6 : Int32).toNatClampNeg) - (S1 11 0 (5 : Int32).toNatClampNeg))]) rfl dX6_lettersAgain_22 (fun r5 S4 H locs h C => ?_)
  refine lv_isub F.x F.b dX6_lettersAgain_25 ?_
  exact retI F hr C h dX6_lettersAgain_26

def rmX6_undo : Room := { frames := 1, cells := 0, slots := 0, locals := 21 }
def mX6_undo_b30 (post : Int32 → Mem → Prop) : Nat → Mem → Int32 → Prop
  | 0, _, _ => False
  | n + 1, S, v1 => (((84 : Int32) ≤ v1 → (post (S 10 0 4) S)) ∧ (¬ (84 : Int32) ≤ v1 → (vp_in (((84 : Int32) * (S 10 0 4)) + v1) 672 ∧ vp_in v1 84 ∧ ∀ S4 : Mem, S4 = wr S 11 0 v1.toNatClampNeg (S 14 0 ((((84 : Int32) * (S 10 0 4)) + v1)).toNatClampNeg) → ∀ x5 : Int32, x5 = v1 + (1 : Int32) → mX6_undo_b30 post n S4 x5)))
def mX6_undo (post : Int32 → Mem → Prop) (S : Mem) : Prop := ∀ S1 : Mem, S1 = wr S 10 0 21 (0 : Int32) → ((¬ (S1 10 0 4) = 0 → (∀ S3 : Mem, S3 = wr S1 10 0 4 ((S1 10 0 4) - (1 : Int32)) → ∃ fu : Nat, mX6_undo_b30 post fu S3 (0 : Int32))) ∧ ((S1 10 0 4) = 0 → (mX6_raises (fun (r6 : Int32) (S5 : Mem) => post r6 S5) S1 (1 : Int32))))
set_option maxRecDepth 100000 in
set_option maxHeartbeats 4000000 in
theorem bX6_undo_30 {p : Program} {l : Launch} {e : Env} {s : State} {m : MethodId} {args : Array Value} {below : List Frame} {meth : Method} {c : Code} {D : va_G} {ky : Nat → ClassId} {ad : Nat → Nat} {ex : Nat → Nat → Nat} (F : Fx p s m args meth c D ky ad ex cX6_undo 2 yX6_undo.cls) (hr : meth.sig.returnType = (some .int)) {post : Int32 → Mem → Prop} : ∀ (n : Nat) (S : Mem) (v1 : Int32) (H : Heap) (locs : List Loc) (ls : Array Slot), mX6_undo_b30 post n S v1 → Cx D ky ad s S H locs → lv_has ls 2 [(0, .ref (ad 117)), (1, .int v1)] → W p l e rmX6_undo s m args below meth c H locs 0 0 (MQ below (va_Qi post (AFT D ky ad) (AW ad s.heap.size)) args s 0 0 (AW ad s.heap.size)) (F0 m 30 ls []) := by
  intro n
  induction n with
  | zero =>
    intro S v1 H locs ls  h
    exact False.elim h
  | succ n ih =>
    intro S v1 H locs ls  h C hl
    refine lv_iload_n F.x F.b dX6_undo_30 rfl (lv_at hl 1 rfl) ?_
    refine lv_bipush (v := 84) F.x F.b dX6_undo_31 (by decide) ?_
    refine lv_icmp_ge (tgt := 62) F.x F.b dX6_undo_33 (by decide) (fun g1 => ?_) (fun g1 => ?_)
    · have h := h.1 g1
      refine lv_aload_n F.x F.b dX6_undo_62 rfl (lv_at hl 0 rfl) ?_
      refine getM F C 4 (by decide) q4_226 (v := .int (S 10 0 4)) rfl dX6_undo_63 ?_
      exact retI F hr C h dX6_undo_66
    · have h := h.2 g1
      refine lv_aload_n F.x F.b dX6_undo_36 rfl (lv_at hl 0 rfl) ?_
      refine getM F C 0 (by decide) q4_222 (v := .ref (ad 118)) rfl dX6_undo_37 ?_
      refine lv_iload_n F.x F.b dX6_undo_40 rfl (lv_at hl 1 rfl) ?_
      refine lv_aload_n F.x F.b dX6_undo_41 rfl (lv_at hl 0 rfl) ?_
      refine getM F C 3 (by decide) q4_225 (v := .ref (ad 121)) rfl dX6_undo_42 ?_
      refine lv_bipush (v := 84) F.x F.b dX6_undo_45 (by decide) ?_
      refine lv_aload_n F.x F.b dX6_undo_47 rfl (lv_at hl 0 rfl) ?_
      refine getM F C 4 (by decide) q4_226 (v := .int (S 10 0 4)) rfl dX6_undo_48 ?_
      refine lv_imul F.x F.b dX6_undo_51 ?_
      refine lv_iload_n F.x F.b dX6_undo_52 rfl (lv_at hl 1 rfl) ?_
      refine lv_iadd F.x F.b dX6_undo_53 ?_
      obtain ⟨g2, h⟩ := h
      refine aldI F C (o := 121) (cq := 14) (iq := 0) (by decide) rfl rfl rfl g2 dX6_undo_54 ?_
      obtain ⟨g3, h⟩ := h
      refine astI F C (o := 118) (cq := 11) (iq := 0) (by decide) rfl rfl (fun _ => rfl) g3 dX6_undo_55 (fun H locs C => ?_)
      obtain ⟨S4, eS4⟩ : ∃ z : Mem, z = wr S 11 0 v1.toNatClampNeg (S 14 0 ((((84 : Int32) * (S 10 0 4)) + v1)).toNatClampNeg) := ⟨_, rfl⟩
      rw [← eS4] at C
      have h := h S4 eS4
      obtain ⟨x5, ex5⟩ : ∃ z : Int32, z = v1 + (1 : Int32) := ⟨_, rfl⟩
      have h := h x5 ex5
      refine lv_iinc (v := x5) (lv' := [(1, .int x5), (0, .ref (ad 117))]) F.x F.b dX6_undo_56 hl (k := 1) rfl (by rw [ex5]; rfl) (by decide) rfl (fun ls hl => ?_)
      refine lv_goto (tgt := 30) F.x F.b dX6_undo_59 (by decide) ?_
      exact ih S4 x5 _ _ _ h C (lv_sub hl [1, 0] rfl)
set_option maxRecDepth 100000 in
set_option maxHeartbeats 4000000 in
theorem kX6_undo {l : Launch} {D : va_G} {ky : Nat → ClassId} {ad : Nat → Nat} {ex : Nat → Nat → Nat} {post : Int32 → Mem → Prop} {S : Mem} (h : mX6_undo post S ) : CMi l D ky ad ex yX6_undo cX6_undo 2 (some .int) rmX6_undo 0 0 [.ref (ad 117)] S post := by
  refine CMi.of (by decide) (Nat.le_of_ble_eq_true rfl) (fun p e s m args below meth c ls F hr C hl => ?_)
  have hl : lv_has ls 2 [(0, .ref (ad 117))] := hl
  unfold mX6_undo at h
  refine lv_aload_n F.x F.b dX6_undo_0 rfl (lv_at hl 0 rfl) ?_
  refine lv_iconst (v := 0) F.x F.b dX6_undo_1 (by decide) ?_
  refine putM F C 21 (by decide) q5_3 rfl (tyX6_ok 21 (by decide)) rfl rfl rfl dX6_undo_2 (fun H locs C => ?_)
  obtain ⟨S1, eS1⟩ : ∃ z : Mem, z = wr S 10 0 21 (0 : Int32) := ⟨_, rfl⟩
  rw [← eS1] at C
  have h := h S1 eS1
  refine lv_aload_n F.x F.b dX6_undo_5 rfl (lv_at hl 0 rfl) ?_
  refine getM F C 4 (by decide) q4_226 (v := .int (S1 10 0 4)) rfl dX6_undo_6 ?_
  refine lv_if_ne (tgt := 18) F.x F.b dX6_undo_9 (by decide) (fun g2 => ?_) (fun g2 => ?_)
  · have h := h.1 g2
    refine lv_aload_n F.x F.b dX6_undo_18 rfl (lv_at hl 0 rfl) ?_
    refine lv_dup F.x F.b dX6_undo_19 rfl ?_
    refine getM F C 4 (by decide) q4_226 (v := .int (S1 10 0 4)) rfl dX6_undo_20 ?_
    refine lv_iconst (v := 1) F.x F.b dX6_undo_23 (by decide) ?_
    refine lv_isub F.x F.b dX6_undo_24 ?_
    refine putM F C 4 (by decide) q4_226 rfl (tyX6_ok 4 (by decide)) rfl rfl rfl dX6_undo_25 (fun H locs C => ?_)
    obtain ⟨S3, eS3⟩ : ∃ z : Mem, z = wr S1 10 0 4 ((S1 10 0 4) - (1 : Int32)) := ⟨_, rfl⟩
    rw [← eS3] at C
    have h := h S3 eS3
    refine lv_iconst (v := 0) F.x F.b dX6_undo_28 (by decide) ?_
    refine lv_istore_n (lv' := [(1, .int (0 : Int32)), (0, .ref (ad 117))]) F.x F.b dX6_undo_29 rfl hl (by decide) rfl (fun ls hl => ?_)
    obtain ⟨n4, h⟩ := h
    exact bX6_undo_30 F hr n4 S3 (0 : Int32) _ _ _ h C (lv_sub hl [1, 0] rfl)
  · have h := h.2 g2
    refine lv_aload_n F.x F.b dX6_undo_12 rfl (lv_at hl 0 rfl) ?_
    refine lv_iconst (v := 1) F.x F.b dX6_undo_13 (by decide) ?_
    refine kI F C hl (kX6_raises  h) (by decide) (ce_M _) rfl wv_X6_58 ⟨rfl, rfl, ⟨Nat.le_of_ble_eq_true rfl, Nat.le_of_ble_eq_true rfl⟩, ⟨Nat.le_of_ble_eq_true rfl, Nat.le_of_ble_eq_true rfl⟩, Nat.le_of_ble_eq_true rfl⟩ (rest := []) rfl dX6_undo_14 (fun r6 S5 H locs h C => ?_)
    exact retI F hr C h dX6_undo_17

def rmX6_save : Room := { frames := 0, cells := 0, slots := 0, locals := 0 }
def mX6_save_b12 (post : Int32 → Mem → Prop) : Nat → Mem → Int32 → Prop
  | 0, _, _ => False
  | n + 1, S, v1 => (((84 : Int32) ≤ v1 → (vp_in (0 : Int32) 84 ∧ post ((S 11 0 (0 : Int32).toNatClampNeg)) S)) ∧ (¬ (84 : Int32) ≤ v1 → (vp_in v1 84 ∧ vp_in v1 84 ∧ ∀ S5 : Mem, S5 = wr S 15 0 v1.toNatClampNeg (S 11 0 v1.toNatClampNeg) → ∀ x6 : Int32, x6 = v1 + (1 : Int32) → mX6_save_b12 post n S5 x6)))
def mX6_save (post : Int32 → Mem → Prop) (S : Mem) : Prop := ∀ S1 : Mem, S1 = wr S 10 0 21 (0 : Int32) → ∀ S2 : Mem, S2 = wr S1 10 0 6 (1 : Int32) → ∃ fu : Nat, mX6_save_b12 post fu S2 (0 : Int32)
set_option maxRecDepth 100000 in
set_option maxHeartbeats 4000000 in
theorem bX6_save_12 {p : Program} {l : Launch} {e : Env} {s : State} {m : MethodId} {args : Array Value} {below : List Frame} {meth : Method} {c : Code} {D : va_G} {ky : Nat → ClassId} {ad : Nat → Nat} {ex : Nat → Nat → Nat} (F : Fx p s m args meth c D ky ad ex cX6_save 2 yX6_save.cls) (hr : meth.sig.returnType = (some .int)) {post : Int32 → Mem → Prop} : ∀ (n : Nat) (S : Mem) (v1 : Int32) (H : Heap) (locs : List Loc) (ls : Array Slot), mX6_save_b12 post n S v1 → Cx D ky ad s S H locs → lv_has ls 2 [(0, .ref (ad 117)), (1, .int v1)] → W p l e rmX6_save s m args below meth c H locs 0 0 (MQ below (va_Qi post (AFT D ky ad) (AW ad s.heap.size)) args s 0 0 (AW ad s.heap.size)) (F0 m 12 ls []) := by
  intro n
  induction n with
  | zero =>
    intro S v1 H locs ls  h
    exact False.elim h
  | succ n ih =>
    intro S v1 H locs ls  h C hl
    refine lv_iload_n F.x F.b dX6_save_12 rfl (lv_at hl 1 rfl) ?_
    refine lv_bipush (v := 84) F.x F.b dX6_save_13 (by decide) ?_
    refine lv_icmp_ge (tgt := 36) F.x F.b dX6_save_15 (by decide) (fun g1 => ?_) (fun g1 => ?_)
    · have h := h.1 g1
      refine lv_aload_n F.x F.b dX6_save_36 rfl (lv_at hl 0 rfl) ?_
      refine getM F C 0 (by decide) q4_222 (v := .ref (ad 118)) rfl dX6_save_37 ?_
      refine lv_iconst (v := 0) F.x F.b dX6_save_40 (by decide) ?_
      obtain ⟨g2, h⟩ := h
      refine aldI F C (o := 118) (cq := 11) (iq := 0) (by decide) rfl rfl rfl g2 dX6_save_41 ?_
      exact retI F hr C h dX6_save_42
    · have h := h.2 g1
      refine lv_aload_n F.x F.b dX6_save_18 rfl (lv_at hl 0 rfl) ?_
      refine getM F C 5 (by decide) q4_227 (v := .ref (ad 122)) rfl dX6_save_19 ?_
      refine lv_iload_n F.x F.b dX6_save_22 rfl (lv_at hl 1 rfl) ?_
      refine lv_aload_n F.x F.b dX6_save_23 rfl (lv_at hl 0 rfl) ?_
      refine getM F C 0 (by decide) q4_222 (v := .ref (ad 118)) rfl dX6_save_24 ?_
      refine lv_iload_n F.x F.b dX6_save_27 rfl (lv_at hl 1 rfl) ?_
      obtain ⟨g3, h⟩ := h
      refine aldI F C (o := 118) (cq := 11) (iq := 0) (by decide) rfl rfl rfl g3 dX6_save_28 ?_
      obtain ⟨g4, h⟩ := h
      refine astI F C (o := 122) (cq := 15) (iq := 0) (by decide) rfl rfl (fun _ => rfl) g4 dX6_save_29 (fun H locs C => ?_)
      obtain ⟨S5, eS5⟩ : ∃ z : Mem, z = wr S 15 0 v1.toNatClampNeg (S 11 0 v1.toNatClampNeg) := ⟨_, rfl⟩
      rw [← eS5] at C
      have h := h S5 eS5
      obtain ⟨x6, ex6⟩ : ∃ z : Int32, z = v1 + (1 : Int32) := ⟨_, rfl⟩
      have h := h x6 ex6
      refine lv_iinc (v := x6) (lv' := [(1, .int x6), (0, .ref (ad 117))]) F.x F.b dX6_save_30 hl (k := 1) rfl (by rw [ex6]; rfl) (by decide) rfl (fun ls hl => ?_)
      refine lv_goto (tgt := 12) F.x F.b dX6_save_33 (by decide) ?_
      exact ih S5 x6 _ _ _ h C (lv_sub hl [1, 0] rfl)
set_option maxRecDepth 100000 in
set_option maxHeartbeats 4000000 in
theorem kX6_save {l : Launch} {D : va_G} {ky : Nat → ClassId} {ad : Nat → Nat} {ex : Nat → Nat → Nat} {post : Int32 → Mem → Prop} {S : Mem} (h : mX6_save post S ) : CMi l D ky ad ex yX6_save cX6_save 2 (some .int) rmX6_save 0 0 [.ref (ad 117)] S post := by
  refine CMi.of (by decide) (Nat.le_of_ble_eq_true rfl) (fun p e s m args below meth c ls F hr C hl => ?_)
  have hl : lv_has ls 2 [(0, .ref (ad 117))] := hl
  unfold mX6_save at h
  refine lv_aload_n F.x F.b dX6_save_0 rfl (lv_at hl 0 rfl) ?_
  refine lv_iconst (v := 0) F.x F.b dX6_save_1 (by decide) ?_
  refine putM F C 21 (by decide) q5_3 rfl (tyX6_ok 21 (by decide)) rfl rfl rfl dX6_save_2 (fun H locs C => ?_)
  obtain ⟨S1, eS1⟩ : ∃ z : Mem, z = wr S 10 0 21 (0 : Int32) := ⟨_, rfl⟩
  rw [← eS1] at C
  have h := h S1 eS1
  refine lv_aload_n F.x F.b dX6_save_5 rfl (lv_at hl 0 rfl) ?_
  refine lv_iconst (v := 1) F.x F.b dX6_save_6 (by decide) ?_
  refine putM F C 6 (by decide) q4_228 rfl (tyX6_ok 6 (by decide)) rfl rfl rfl dX6_save_7 (fun H locs C => ?_)
  obtain ⟨S2, eS2⟩ : ∃ z : Mem, z = wr S1 10 0 6 (1 : Int32) := ⟨_, rfl⟩
  rw [← eS2] at C
  have h := h S2 eS2
  refine lv_iconst (v := 0) F.x F.b dX6_save_10 (by decide) ?_
  refine lv_istore_n (lv' := [(1, .int (0 : Int32)), (0, .ref (ad 117))]) F.x F.b dX6_save_11 rfl hl (by decide) rfl (fun ls hl => ?_)
  obtain ⟨n3, h⟩ := h
  exact bX6_save_12 F hr n3 S2 (0 : Int32) _ _ _ h C (lv_sub hl [1, 0] rfl)

def rmX6_restore : Room := { frames := 1, cells := 0, slots := 0, locals := 21 }
def mX6_restore_b20 (post : Int32 → Mem → Prop) : Nat → Mem → Int32 → Prop
  | 0, _, _ => False
  | n + 1, S, v1 => (((84 : Int32) ≤ v1 → (∀ S2 : Mem, S2 = wr S 10 0 4 (0 : Int32) → vp_in (0 : Int32) 84 ∧ post ((S2 11 0 (0 : Int32).toNatClampNeg)) S2)) ∧ (¬ (84 : Int32) ≤ v1 → (vp_in v1 84 ∧ vp_in v1 84 ∧ ∀ S6 : Mem, S6 = wr S 11 0 v1.toNatClampNeg (S 15 0 v1.toNatClampNeg) → ∀ x7 : Int32, x7 = v1 + (1 : Int32) → mX6_restore_b20 post n S6 x7)))
def mX6_restore (post : Int32 → Mem → Prop) (S : Mem) : Prop := ∀ S1 : Mem, S1 = wr S 10 0 21 (0 : Int32) → ((¬ (S1 10 0 6) = 0 → (∃ fu : Nat, mX6_restore_b20 post fu S1 (0 : Int32))) ∧ ((S1 10 0 6) = 0 → (mX6_raises (fun (r5 : Int32) (S4 : Mem) => post r5 S4) S1 (1 : Int32))))
set_option maxRecDepth 100000 in
set_option maxHeartbeats 4000000 in
theorem bX6_restore_20 {p : Program} {l : Launch} {e : Env} {s : State} {m : MethodId} {args : Array Value} {below : List Frame} {meth : Method} {c : Code} {D : va_G} {ky : Nat → ClassId} {ad : Nat → Nat} {ex : Nat → Nat → Nat} (F : Fx p s m args meth c D ky ad ex cX6_restore 2 yX6_restore.cls) (hr : meth.sig.returnType = (some .int)) {post : Int32 → Mem → Prop} : ∀ (n : Nat) (S : Mem) (v1 : Int32) (H : Heap) (locs : List Loc) (ls : Array Slot), mX6_restore_b20 post n S v1 → Cx D ky ad s S H locs → lv_has ls 2 [(0, .ref (ad 117)), (1, .int v1)] → W p l e rmX6_restore s m args below meth c H locs 0 0 (MQ below (va_Qi post (AFT D ky ad) (AW ad s.heap.size)) args s 0 0 (AW ad s.heap.size)) (F0 m 20 ls []) := by
  intro n
  induction n with
  | zero =>
    intro S v1 H locs ls  h
    exact False.elim h
  | succ n ih =>
    intro S v1 H locs ls  h C hl
    refine lv_iload_n F.x F.b dX6_restore_20 rfl (lv_at hl 1 rfl) ?_
    refine lv_bipush (v := 84) F.x F.b dX6_restore_21 (by decide) ?_
    refine lv_icmp_ge (tgt := 44) F.x F.b dX6_restore_23 (by decide) (fun g1 => ?_) (fun g1 => ?_)
    · have h := h.1 g1
      refine lv_aload_n F.x F.b dX6_restore_44 rfl (lv_at hl 0 rfl) ?_
      refine lv_iconst (v := 0) F.x F.b dX6_restore_45 (by decide) ?_
      refine putM F C 4 (by decide) q4_226 rfl (tyX6_ok 4 (by decide)) rfl rfl rfl dX6_restore_46 (fun H locs C => ?_)
      obtain ⟨S2, eS2⟩ : ∃ z : Mem, z = wr S 10 0 4 (0 : Int32) := ⟨_, rfl⟩
      rw [← eS2] at C
      have h := h S2 eS2
      refine lv_aload_n F.x F.b dX6_restore_49 rfl (lv_at hl 0 rfl) ?_
      refine getM F C 0 (by decide) q4_222 (v := .ref (ad 118)) rfl dX6_restore_50 ?_
      refine lv_iconst (v := 0) F.x F.b dX6_restore_53 (by decide) ?_
      obtain ⟨g3, h⟩ := h
      refine aldI F C (o := 118) (cq := 11) (iq := 0) (by decide) rfl rfl rfl g3 dX6_restore_54 ?_
      exact retI F hr C h dX6_restore_55
    · have h := h.2 g1
      refine lv_aload_n F.x F.b dX6_restore_26 rfl (lv_at hl 0 rfl) ?_
      refine getM F C 0 (by decide) q4_222 (v := .ref (ad 118)) rfl dX6_restore_27 ?_
      refine lv_iload_n F.x F.b dX6_restore_30 rfl (lv_at hl 1 rfl) ?_
      refine lv_aload_n F.x F.b dX6_restore_31 rfl (lv_at hl 0 rfl) ?_
      refine getM F C 5 (by decide) q4_227 (v := .ref (ad 122)) rfl dX6_restore_32 ?_
      refine lv_iload_n F.x F.b dX6_restore_35 rfl (lv_at hl 1 rfl) ?_
      obtain ⟨g4, h⟩ := h
      refine aldI F C (o := 122) (cq := 15) (iq := 0) (by decide) rfl rfl rfl g4 dX6_restore_36 ?_
      obtain ⟨g5, h⟩ := h
      refine astI F C (o := 118) (cq := 11) (iq := 0) (by decide) rfl rfl (fun _ => rfl) g5 dX6_restore_37 (fun H locs C => ?_)
      obtain ⟨S6, eS6⟩ : ∃ z : Mem, z = wr S 11 0 v1.toNatClampNeg (S 15 0 v1.toNatClampNeg) := ⟨_, rfl⟩
      rw [← eS6] at C
      have h := h S6 eS6
      obtain ⟨x7, ex7⟩ : ∃ z : Int32, z = v1 + (1 : Int32) := ⟨_, rfl⟩
      have h := h x7 ex7
      refine lv_iinc (v := x7) (lv' := [(1, .int x7), (0, .ref (ad 117))]) F.x F.b dX6_restore_38 hl (k := 1) rfl (by rw [ex7]; rfl) (by decide) rfl (fun ls hl => ?_)
      refine lv_goto (tgt := 20) F.x F.b dX6_restore_41 (by decide) ?_
      exact ih S6 x7 _ _ _ h C (lv_sub hl [1, 0] rfl)
set_option maxRecDepth 100000 in
set_option maxHeartbeats 4000000 in
theorem kX6_restore {l : Launch} {D : va_G} {ky : Nat → ClassId} {ad : Nat → Nat} {ex : Nat → Nat → Nat} {post : Int32 → Mem → Prop} {S : Mem} (h : mX6_restore post S ) : CMi l D ky ad ex yX6_restore cX6_restore 2 (some .int) rmX6_restore 0 0 [.ref (ad 117)] S post := by
  refine CMi.of (by decide) (Nat.le_of_ble_eq_true rfl) (fun p e s m args below meth c ls F hr C hl => ?_)
  have hl : lv_has ls 2 [(0, .ref (ad 117))] := hl
  unfold mX6_restore at h
  refine lv_aload_n F.x F.b dX6_restore_0 rfl (lv_at hl 0 rfl) ?_
  refine lv_iconst (v := 0) F.x F.b dX6_restore_1 (by decide) ?_
  refine putM F C 21 (by decide) q5_3 rfl (tyX6_ok 21 (by decide)) rfl rfl rfl dX6_restore_2 (fun H locs C => ?_)
  obtain ⟨S1, eS1⟩ : ∃ z : Mem, z = wr S 10 0 21 (0 : Int32) := ⟨_, rfl⟩
  rw [← eS1] at C
  have h := h S1 eS1
  refine lv_aload_n F.x F.b dX6_restore_5 rfl (lv_at hl 0 rfl) ?_
  refine getM F C 6 (by decide) q4_228 (v := .int (S1 10 0 6)) rfl dX6_restore_6 ?_
  refine lv_if_ne (tgt := 18) F.x F.b dX6_restore_9 (by decide) (fun g2 => ?_) (fun g2 => ?_)
  · have h := h.1 g2
    refine lv_iconst (v := 0) F.x F.b dX6_restore_18 (by decide) ?_
    refine lv_istore_n (lv' := [(1, .int (0 : Int32)), (0, .ref (ad 117))]) F.x F.b dX6_restore_19 rfl hl (by decide) rfl (fun ls hl => ?_)
    obtain ⟨n3, h⟩ := h
    exact bX6_restore_20 F hr n3 S1 (0 : Int32) _ _ _ h C (lv_sub hl [1, 0] rfl)
  · have h := h.2 g2
    refine lv_aload_n F.x F.b dX6_restore_12 rfl (lv_at hl 0 rfl) ?_
    refine lv_iconst (v := 1) F.x F.b dX6_restore_13 (by decide) ?_
    refine kI F C hl (kX6_raises  h) (by decide) (ce_M _) rfl wv_X6_58 ⟨rfl, rfl, ⟨Nat.le_of_ble_eq_true rfl, Nat.le_of_ble_eq_true rfl⟩, ⟨Nat.le_of_ble_eq_true rfl, Nat.le_of_ble_eq_true rfl⟩, Nat.le_of_ble_eq_true rfl⟩ (rest := []) rfl dX6_restore_14 (fun r5 S4 H locs h C => ?_)
    exact retI F hr C h dX6_restore_17
