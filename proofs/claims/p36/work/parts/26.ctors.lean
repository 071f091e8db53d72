def shT (q : Nat) : va_W → Prop := fun sh => sh = [(q, (.inr (3, [.int 0, .int 0, .int (-1), .int 0, .int 1, .int 0, .int 0, .int 0]) : va_E))]
def rmX3_init : Room := { frames := 1, cells := 0, slots := 0, locals := 12 }
set_option maxRecDepth 100000 in
set_option maxHeartbeats 4000000 in
theorem kX3_init (l : Launch) (D : va_G) (ky : Nat → ClassId) (q : Nat) : CC l D ky yX3_init cX3_init 1 rmX3_init 0 0 q (.inr (3, [.int 0, .int 0, .int 0, .int 0, .int 0, .int 0, .int 0, .int 0])) (shT q) := by
  refine CC.of (by decide) rfl (Nat.le_of_ble_eq_true rfl) (fun p e s m args below meth c ls H locs F hin hr C hl => ?_)
  have hl : lv_has ls 1 [(0, .ref q)] := hl
  refine lv_aload_n F.x F.b dX3_init_0 rfl (lv_at hl 0 rfl) ?_
  refine W.objInit F.x F.b F.ow (F.ts _ q1_44) (F.ts _ q1_30) (F.ts _ q1_31) rfl (by rw [F.ml]; exact hl.1) rfl dX3_init_1 (Nat.le_of_ble_eq_true rfl) (Nat.le_of_ble_eq_true rfl) ?_
  refine W.eq (g2 := F0 m 4 ls []) rfl ?_
  refine lv_aload_n F.x F.b dX3_init_4 rfl (lv_at hl 0 rfl) ?_
  refine lv_iconst (v := 0) F.x F.b dX3_init_5 (by decide) ?_
  refine cPut F C rfl rfl inA3 tyX3_ok nmX3 0 (by decide) q1_45 rfl rfl (ty := .int) (v := .int 0) (by decide +kernel) rfl rfl (Nat.le_of_ble_eq_true rfl) dX3_init_6 (fun H locs C => ?_)
  have C : Ck D s (va_A [(q, .inr (3, [.int 0, .int 0, .int 0, .int 0, .int 0, .int 0, .int 0, .int 0]))] s.heap.size) ([(q, (.inr (3, [.int 0, .int 0, .int 0, .int 0, .int 0, .int 0, .int 0, .int 0]) : va_E))]) H locs := C
  refine lv_aload_n F.x F.b dX3_init_9 rfl (lv_at hl 0 rfl) ?_
  refine lv_iconst (v := 0) F.x F.b dX3_init_10 (by decide) ?_
  refine cPut F C rfl rfl inA3 tyX3_ok nmX3 1 (by decide) q1_47 rfl rfl (ty := .int) (v := .int 0) (by decide +kernel) rfl rfl (Nat.le_of_ble_eq_true rfl) dX3_init_11 (fun H locs C => ?_)
  have C : Ck D s (va_A [(q, .inr (3, [.int 0, .int 0, .int 0, .int 0, .int 0, .int 0, .int 0, .int 0]))] s.heap.size) ([(q, (.inr (3, [.int 0, .int 0, .int 0, .int 0, .int 0, .int 0, .int 0, .int 0]) : va_E))]) H locs := C
  refine lv_aload_n F.x F.b dX3_init_14 rfl (lv_at hl 0 rfl) ?_
  refine lv_iconst (v := -1) F.x F.b dX3_init_15 (by decide) ?_
  refine cPut F C rfl rfl inA3 tyX3_ok nmX3 2 (by decide) q1_50 rfl rfl (ty := .int) (v := .int (-1)) (by decide +kernel) rfl rfl (Nat.le_of_ble_eq_true rfl) dX3_init_16 (fun H locs C => ?_)
  have C : Ck D s (va_A [(q, .inr (3, [.int 0, .int 0, .int 0, .int 0, .int 0, .int 0, .int 0, .int 0]))] s.heap.size) ([(q, (.inr (3, [.int 0, .int 0, .int (-1), .int 0, .int 0, .int 0, .int 0, .int 0]) : va_E))]) H locs := C
  refine lv_aload_n F.x F.b dX3_init_19 rfl (lv_at hl 0 rfl) ?_
  refine lv_iconst (v := 0) F.x F.b dX3_init_20 (by decide) ?_
  refine cPut F C rfl rfl inA3 tyX3_ok nmX3 3 (by decide) q1_53 rfl rfl (ty := .boolean) (v := .int 0) (by decide +kernel) rfl rfl (Nat.le_of_ble_eq_true rfl) dX3_init_21 (fun H locs C => ?_)
  have C : Ck D s (va_A [(q, .inr (3, [.int 0, .int 0, .int 0, .int 0, .int 0, .int 0, .int 0, .int 0]))] s.heap.size) ([(q, (.inr (3, [.int 0, .int 0, .int (-1), .int 0, .int 0, .int 0, .int 0, .int 0]) : va_E))]) H locs := C
  refine lv_aload_n F.x F.b dX3_init_24 rfl (lv_at hl 0 rfl) ?_
  refine lv_iconst (v := 1) F.x F.b dX3_init_25 (by decide) ?_
  refine cPut F C rfl rfl inA3 tyX3_ok nmX3 4 (by decide) q1_56 rfl rfl (ty := .boolean) (v := .int 1) (by decide +kernel) rfl rfl (Nat.le_of_ble_eq_true rfl) dX3_init_26 (fun H locs C => ?_)
  have C : Ck D s (va_A [(q, .inr (3, [.int 0, .int 0, .int 0, .int 0, .int 0, .int 0, .int 0, .int 0]))] s.heap.size) ([(q, (.inr (3, [.int 0, .int 0, .int (-1), .int 0, .int 1, .int 0, .int 0, .int 0]) : va_E))]) H locs := C
  refine lv_aload_n F.x F.b dX3_init_29 rfl (lv_at hl 0 rfl) ?_
  refine lv_iconst (v := 0) F.x F.b dX3_init_30 (by decide) ?_
  refine cPut F C rfl rfl inA3 tyX3_ok nmX3 5 (by decide) q1_58 rfl rfl (ty := .boolean) (v := .int 0) (by decide +kernel) rfl rfl (Nat.le_of_ble_eq_true rfl) dX3_init_31 (fun H locs C => ?_)
  have C : Ck D s (va_A [(q, .inr (3, [.int 0, .int 0, .int 0, .int 0, .int 0, .int 0, .int 0, .int 0]))] s.heap.size) ([(q, (.inr (3, [.int 0, .int 0, .int (-1), .int 0, .int 1, .int 0, .int 0, .int 0]) : va_E))]) H locs := C
  refine lv_aload_n F.x F.b dX3_init_34 rfl (lv_at hl 0 rfl) ?_
  refine lv_iconst (v := 0) F.x F.b dX3_init_35 (by decide) ?_
  refine cPut F C rfl rfl inA3 tyX3_ok nmX3 6 (by decide) q1_61 rfl rfl (ty := .int) (v := .int 0) (by decide +kernel) rfl rfl (Nat.le_of_ble_eq_true rfl) dX3_init_36 (fun H locs C => ?_)
  have C : Ck D s (va_A [(q, .inr (3, [.int 0, .int 0, .int 0, .int 0, .int 0, .int 0, .int 0, .int 0]))] s.heap.size) ([(q, (.inr (3, [.int 0, .int 0, .int (-1), .int 0, .int 1, .int 0, .int 0, .int 0]) : va_E))]) H locs := C
  refine lv_aload_n F.x F.b dX3_init_39 rfl (lv_at hl 0 rfl) ?_
  refine lv_iconst (v := 0) F.x F.b dX3_init_40 (by decide) ?_
  refine cPut F C rfl rfl inA3 tyX3_ok nmX3 7 (by decide) q1_64 rfl rfl (ty := .int) (v := .int 0) (by decide +kernel) rfl rfl (Nat.le_of_ble_eq_true rfl) dX3_init_41 (fun H locs C => ?_)
  have C : Ck D s (va_A [(q, .inr (3, [.int 0, .int 0, .int 0, .int 0, .int 0, .int 0, .int 0, .int 0]))] s.heap.size) ([(q, (.inr (3, [.int 0, .int 0, .int (-1), .int 0, .int 1, .int 0, .int 0, .int 0]) : va_E))]) H locs := C
  refine W.widen (k := 0) (n := 0) (Nat.le_of_ble_eq_true rfl) (Nat.le_of_ble_eq_true rfl) ?_
  exact cRet F hr C rfl dX3_init_44
def shF (ky : Nat → ClassId) (q : Nat) : va_W → Prop := fun sh => ∃ (h t : Nat) (tr : Nat → Nat) (f : Nat → Int32), (∀ k, k < 10 → f k = 10) ∧ sh = [(q, (.inr (0, [.ref h, .ref t, .int 0, .int 0, .int 4, .int 0, .int 0, .int 0, .int 0, .int 0, .int 0, .int 0]) : va_E)), (h, .inl (ky 1, 10, .inl f)), (t, .inl (ky 4, 8, .inr (.inr (.inr (.inr (fun k => some (tr k))))))), (tr 0, (.inr (3, [.int 0, .int 0, .int (-1), .int 0, .int 1, .int 0, .int 0, .int 0]) : va_E)), (tr 1, (.inr (3, [.int 0, .int 0, .int (-1), .int 0, .int 1, .int 0, .int 0, .int 0]) : va_E)), (tr 2, (.inr (3, [.int 0, .int 0, .int (-1), .int 0, .int 1, .int 0, .int 0, .int 0]) : va_E)), (tr 3, (.inr (3, [.int 0, .int 0, .int (-1), .int 0, .int 1, .int 0, .int 0, .int 0]) : va_E)), (tr 4, (.inr (3, [.int 0, .int 0, .int (-1), .int 0, .int 1, .int 0, .int 0, .int 0]) : va_E)), (tr 5, (.inr (3, [.int 0, .int 0, .int (-1), .int 0, .int 1, .int 0, .int 0, .int 0]) : va_E)), (tr 6, (.inr (3, [.int 0, .int 0, .int (-1), .int 0, .int 1, .int 0, .int 0, .int 0]) : va_E)), (tr 7, (.inr (3, [.int 0, .int 0, .int (-1), .int 0, .int 1, .int 0, .int 0, .int 0]) : va_E))]
theorem shF_mem {ky : Nat → ClassId} {q : Nat} {u : va_W} (h : shF ky q u) : ∃ vs : List Value, (q, (.inr (0, vs) : va_E)) ∈ u := by
  obtain ⟨h1, t, tr, f, -, rfl⟩ := h
  exact ⟨_, List.mem_cons_self⟩
def rmX0_init : Room := { frames := 2, cells := 10, slots := 82, locals := 32 }
set_option maxRecDepth 100000 in
set_option maxHeartbeats 4000000 in
theorem kX0_init (l : Launch) (D : va_G) (ky : Nat → ClassId) (q : Nat) : CC l D ky yX0_init cX0_init 2 rmX0_init 10 82 q (.inr (0, [.null, .null, .int 0, .int 0, .int 0, .int 0, .int 0, .int 0, .int 0, .int 0, .int 0, .int 0])) (shF ky q) := by
  refine CC.of (by decide) rfl (Nat.le_of_ble_eq_true rfl) (fun p e s m args below meth c ls H locs F hin hr C hl => ?_)
  have hl : lv_has ls 2 [(0, .ref q)] := hl
  refine lv_aload_n F.x F.b dX0_init_0 rfl (lv_at hl 0 rfl) ?_
  refine W.objInit F.x F.b F.ow (F.ts _ q1_37) (F.ts _ q1_30) (F.ts _ q1_31) rfl (by rw [F.ml]; exact hl.1) rfl dX0_init_1 (Nat.le_of_ble_eq_true rfl) (Nat.le_of_ble_eq_true rfl) ?_
  refine W.eq (g2 := F0 m 4 ls []) rfl ?_
  refine lv_aload_n F.x F.b dX0_init_4 rfl (lv_at hl 0 rfl) ?_
  refine lv_bipush (v := 10) F.x F.b dX0_init_5 (by decide) ?_
  refine cNewa F C (atype := .int) (ty := .int) rfl q1_83 1 rfl (fun cA cB h1 h2 => Option.some.inj (h1.symm.trans h2)) (a0 := (10, .inl (fun _ => 0))) (fun _ => rfl) (N' := 10) (by decide) (by decide) (Nat.le_of_ble_eq_true rfl) (Nat.le_of_ble_eq_true rfl) (Nat.le_of_ble_eq_true rfl) dX0_init_7 (fun a1 H C => ?_)
  have C : Ck D s (va_A [(q, .inr (0, [.null, .null, .int 0, .int 0, .int 0, .int 0, .int 0, .int 0, .int 0, .int 0, .int 0, .int 0]))] s.heap.size) ([(q, (.inr (0, [.null, .null, .int 0, .int 0, .int 0, .int 0, .int 0, .int 0, .int 0, .int 0, .int 0, .int 0]) : va_E)), (a1, (.inl (ky 1, 10, .inl (fun _ => 0)) : va_E))]) H locs := C
  refine cPutF F hin C rfl rfl inA0 tyX0_ok nmX0 0 (by decide) q1_84 rfl rfl rfl (ty := .array .int) (v := .ref a1) (by decide +kernel) rfl rfl (Nat.le_of_ble_eq_true rfl) dX0_init_9 (fun H locs C => ?_)
  have C : Ck D s (va_A [(q, .inr (0, [.null, .null, .int 0, .int 0, .int 0, .int 0, .int 0, .int 0, .int 0, .int 0, .int 0, .int 0]))] s.heap.size) ([(q, (.inr (0, [.ref a1, .null, .int 0, .int 0, .int 0, .int 0, .int 0, .int 0, .int 0, .int 0, .int 0, .int 0]) : va_E)), (a1, (.inl (ky 1, 10, .inl (fun _ => 0)) : va_E))]) H locs := C
  refine lv_aload_n F.x F.b dX0_init_12 rfl (lv_at hl 0 rfl) ?_
  refine lv_bipush (v := 8) F.x F.b dX0_init_13 (by decide) ?_
  refine cNewq F C q1_38 F.a1 4 rfl (N' := 8) (by decide) (by decide) (Nat.le_of_ble_eq_true rfl) (Nat.le_of_ble_eq_true rfl) (Nat.le_of_ble_eq_true rfl) dX0_init_15 (fun a2 H C => ?_)
  have C : Ck D s (va_A [(q, .inr (0, [.null, .null, .int 0, .int 0, .int 0, .int 0, .int 0, .int 0, .int 0, .int 0, .int 0, .int 0]))] s.heap.size) ([(q, (.inr (0, [.ref a1, .null, .int 0, .int 0, .int 0, .int 0, .int 0, .int 0, .int 0, .int 0, .int 0, .int 0]) : va_E)), (a1, (.inl (ky 1, 10, .inl (fun _ => 0)) : va_E)), (a2, (.inl (ky 4, 8, .inr (.inr (.inr (.inr (fun _ => none))))) : va_E))]) H locs := C
  refine cPutF F hin C rfl rfl inA0 tyX0_ok nmX0 1 (by decide) q1_86 rfl rfl rfl (ty := .array (.object "FordToll$Traveller")) (v := .ref a2) (by decide +kernel) rfl rfl (Nat.le_of_ble_eq_true rfl) dX0_init_18 (fun H locs C => ?_)
  have C : Ck D s (va_A [(q, .inr (0, [.null, .null, .int 0, .int 0, .int 0, .int 0, .int 0, .int 0, .int 0, .int 0, .int 0, .int 0]))] s.heap.size) ([(q, (.inr (0, [.ref a1, .ref a2, .int 0, .int 0, .int 0, .int 0, .int 0, .int 0, .int 0, .int 0, .int 0, .int 0]) : va_E)), (a1, (.inl (ky 1, 10, .inl (fun _ => 0)) : va_E)), (a2, (.inl (ky 4, 8, .inr (.inr (.inr (.inr (fun _ => none))))) : va_E))]) H locs := C
  refine lv_aload_n F.x F.b dX0_init_21 rfl (lv_at hl 0 rfl) ?_
  refine lv_iconst (v := 0) F.x F.b dX0_init_22 (by decide) ?_
  refine cPut F C rfl rfl inA0 tyX0_ok nmX0 2 (by decide) q1_89 rfl rfl (ty := .int) (v := .int 0) (by decide +kernel) rfl rfl (Nat.le_of_ble_eq_true rfl) dX0_init_23 (fun H locs C => ?_)
  have C : Ck D s (va_A [(q, .inr (0, [.null, .null, .int 0, .int 0, .int 0, .int 0, .int 0, .int 0, .int 0, .int 0, .int 0, .int 0]))] s.heap.size) ([(q, (.inr (0, [.ref a1, .ref a2, .int 0, .int 0, .int 0, .int 0, .int 0, .int 0, .int 0, .int 0, .int 0, .int 0]) : va_E)), (a1, (.inl (ky 1, 10, .inl (fun _ => 0)) : va_E)), (a2, (.inl (ky 4, 8, .inr (.inr (.inr (.inr (fun _ => none))))) : va_E))]) H locs := C
  refine lv_aload_n F.x F.b dX0_init_26 rfl (lv_at hl 0 rfl) ?_
  refine lv_iconst (v := 0) F.x F.b dX0_init_27 (by decide) ?_
  refine cPut F C rfl rfl inA0 tyX0_ok nmX0 3 (by decide) q1_92 rfl rfl (ty := .int) (v := .int 0) (by decide +kernel) rfl rfl (Nat.le_of_ble_eq_true rfl) dX0_init_28 (fun H locs C => ?_)
  have C : Ck D s (va_A [(q, .inr (0, [.null, .null, .int 0, .int 0, .int 0, .int 0, .int 0, .int 0, .int 0, .int 0, .int 0, .int 0]))] s.heap.size) ([(q, (.inr (0, [.ref a1, .ref a2, .int 0, .int 0, .int 0, .int 0, .int 0, .int 0, .int 0, .int 0, .int 0, .int 0]) : va_E)), (a1, (.inl (ky 1, 10, .inl (fun _ => 0)) : va_E)), (a2, (.inl (ky 4, 8, .inr (.inr (.inr (.inr (fun _ => none))))) : va_E))]) H locs := C
  refine lv_aload_n F.x F.b dX0_init_31 rfl (lv_at hl 0 rfl) ?_
  refine lv_iconst (v := 4) F.x F.b dX0_init_32 (by decide) ?_
  refine cPut F C rfl rfl inA0 tyX0_ok nmX0 4 (by decide) q1_94 rfl rfl (ty := .int) (v := .int 4) (by decide +kernel) rfl rfl (Nat.le_of_ble_eq_true rfl) dX0_init_33 (fun H locs C => ?_)
  have C : Ck D s (va_A [(q, .inr (0, [.null, .null, .int 0, .int 0, .int 0, .int 0, .int 0, .int 0, .int 0, .int 0, .int 0, .int 0]))] s.heap.size) ([(q, (.inr (0, [.ref a1, .ref a2, .int 0, .int 0, .int 4, .int 0, .int 0, .int 0, .int 0, .int 0, .int 0, .int 0]) : va_E)), (a1, (.inl (ky 1, 10, .inl (fun _ => 0)) : va_E)), (a2, (.inl (ky 4, 8, .inr (.inr (.inr (.inr (fun _ => none))))) : va_E))]) H locs := C
  refine lv_aload_n F.x F.b dX0_init_36 rfl (lv_at hl 0 rfl) ?_
  refine lv_iconst (v := 0) F.x F.b dX0_init_37 (by decide) ?_
  refine cPut F C rfl rfl inA0 tyX0_ok nmX0 5 (by decide) q1_96 rfl rfl (ty := .int) (v := .int 0) (by decide +kernel) rfl rfl (Nat.le_of_ble_eq_true rfl) dX0_init_38 (fun H locs C => ?_)
  have C : Ck D s (va_A [(q, .inr (0, [.null, .null, .int 0, .int 0, .int 0, .int 0, .int 0, .int 0, .int 0, .int 0, .int 0, .int 0]))] s.heap.size) ([(q, (.inr (0, [.ref a1, .ref a2, .int 0, .int 0, .int 4, .int 0, .int 0, .int 0, .int 0, .int 0, .int 0, .int 0]) : va_E)), (a1, (.inl (ky 1, 10, .inl (fun _ => 0)) : va_E)), (a2, (.inl (ky 4, 8, .inr (.inr (.inr (.inr (fun _ => none))))) : va_E))]) H locs := C
  refine lv_aload_n F.x F.b dX0_init_41 rfl (lv_at hl 0 rfl) ?_
  refine lv_iconst (v := 0) F.x F.b dX0_init_42 (by decide) ?_
  refine cPut F C rfl rfl inA0 tyX0_ok nmX0 6 (by decide) q1_98 rfl rfl (ty := .int) (v := .int 0) (by decide +kernel) rfl rfl (Nat.le_of_ble_eq_true rfl) dX0_init_43 (fun H locs C => ?_)
  have C : Ck D s (va_A [(q, .inr (0, [.null, .null, .int 0, .int 0, .int 0, .int 0, .int 0, .int 0, .int 0, .int 0, .int 0, .int 0]))] s.heap.size) ([(q, (.inr (0, [.ref a1, .ref a2, .int 0, .int 0, .int 4, .int 0, .int 0, .int 0, .int 0, .int 0, .int 0, .int 0]) : va_E)), (a1, (.inl (ky 1, 10, .inl (fun _ => 0)) : va_E)), (a2, (.inl (ky 4, 8, .inr (.inr (.inr (.inr (fun _ => none))))) : va_E))]) H locs := C
  refine lv_aload_n F.x F.b dX0_init_46 rfl (lv_at hl 0 rfl) ?_
  refine lv_iconst (v := 0) F.x F.b dX0_init_47 (by decide) ?_
  refine cPut F C rfl rfl inA0 tyX0_ok nmX0 7 (by decide) q1_100 rfl rfl (ty := .int) (v := .int 0) (by decide +kernel) rfl rfl (Nat.le_of_ble_eq_true rfl) dX0_init_48 (fun H locs C => ?_)
  have C : Ck D s (va_A [(q, .inr (0, [.null, .null, .int 0, .int 0, .int 0, .int 0, .int 0, .int 0, .int 0, .int 0, .int 0, .int 0]))] s.heap.size) ([(q, (.inr (0, [.ref a1, .ref a2, .int 0, .int 0, .int 4, .int 0, .int 0, .int 0, .int 0, .int 0, .int 0, .int 0]) : va_E)), (a1, (.inl (ky 1, 10, .inl (fun _ => 0)) : va_E)), (a2, (.inl (ky 4, 8, .inr (.inr (.inr (.inr (fun _ => none))))) : va_E))]) H locs := C
  refine lv_aload_n F.x F.b dX0_init_51 rfl (lv_at hl 0 rfl) ?_
  refine lv_iconst (v := 0) F.x F.b dX0_init_52 (by decide) ?_
  refine cPut F C rfl rfl inA0 tyX0_ok nmX0 8 (by decide) q1_102 rfl rfl (ty := .int) (v := .int 0) (by decide +kernel) rfl rfl (Nat.le_of_ble_eq_true rfl) dX0_init_53 (fun H locs C => ?_)
  have C : Ck D s (va_A [(q, .inr (0, [.null, .null, .int 0, .int 0, .int 0, .int 0, .int 0, .int 0, .int 0, .int 0, .int 0, .int 0]))] s.heap.size) ([(q, (.inr (0, [.ref a1, .ref a2, .int 0, .int 0, .int 4, .int 0, .int 0, .int 0, .int 0, .int 0, .int 0, .int 0]) : va_E)), (a1, (.inl (ky 1, 10, .inl (fun _ => 0)) : va_E)), (a2, (.inl (ky 4, 8, .inr (.inr (.inr (.inr (fun _ => none))))) : va_E))]) H locs := C
  refine lv_aload_n F.x F.b dX0_init_56 rfl (lv_at hl 0 rfl) ?_
  refine lv_iconst (v := 0) F.x F.b dX0_init_57 (by decide) ?_
  refine cPut F C rfl rfl inA0 tyX0_ok nmX0 9 (by decide) q1_104 rfl rfl (ty := .int) (v := .int 0) (by decide +kernel) rfl rfl (Nat.le_of_ble_eq_true rfl) dX0_init_58 (fun H locs C => ?_)
  have C : Ck D s (va_A [(q, .inr (0, [.null, .null, .int 0, .int 0, .int 0, .int 0, .int 0, .int 0, .int 0, .int 0, .int 0, .int 0]))] s.heap.size) ([(q, (.inr (0, [.ref a1, .ref a2, .int 0, .int 0, .int 4, .int 0, .int 0, .int 0, .int 0, .int 0, .int 0, .int 0]) : va_E)), (a1, (.inl (ky 1, 10, .inl (fun _ => 0)) : va_E)), (a2, (.inl (ky 4, 8, .inr (.inr (.inr (.inr (fun _ => none))))) : va_E))]) H locs := C
  refine lv_aload_n F.x F.b dX0_init_61 rfl (lv_at hl 0 rfl) ?_
  refine lv_iconst (v := 0) F.x F.b dX0_init_62 (by decide) ?_
  refine cPut F C rfl rfl inA0 tyX0_ok nmX0 10 (by decide) q1_106 rfl rfl (ty := .int) (v := .int 0) (by decide +kernel) rfl rfl (Nat.le_of_ble_eq_true rfl) dX0_init_63 (fun H locs C => ?_)
  have C : Ck D s (va_A [(q, .inr (0, [.null, .null, .int 0, .int 0, .int 0, .int 0, .int 0, .int 0, .int 0, .int 0, .int 0, .int 0]))] s.heap.size) ([(q, (.inr (0, [.ref a1, .ref a2, .int 0, .int 0, .int 4, .int 0, .int 0, .int 0, .int 0, .int 0, .int 0, .int 0]) : va_E)), (a1, (.inl (ky 1, 10, .inl (fun _ => 0)) : va_E)), (a2, (.inl (ky 4, 8, .inr (.inr (.inr (.inr (fun _ => none))))) : va_E))]) H locs := C
  refine lv_aload_n F.x F.b dX0_init_66 rfl (lv_at hl 0 rfl) ?_
  refine lv_iconst (v := 0) F.x F.b dX0_init_67 (by decide) ?_
  refine cPut F C rfl rfl inA0 tyX0_ok nmX0 11 (by decide) q1_108 rfl rfl (ty := .int) (v := .int 0) (by decide +kernel) rfl rfl (Nat.le_of_ble_eq_true rfl) dX0_init_68 (fun H locs C => ?_)
  have C : Ck D s (va_A [(q, .inr (0, [.null, .null, .int 0, .int 0, .int 0, .int 0, .int 0, .int 0, .int 0, .int 0, .int 0, .int 0]))] s.heap.size) ([(q, (.inr (0, [.ref a1, .ref a2, .int 0, .int 0, .int 4, .int 0, .int 0, .int 0, .int 0, .int 0, .int 0, .int 0]) : va_E)), (a1, (.inl (ky 1, 10, .inl (fun _ => 0)) : va_E)), (a2, (.inl (ky 4, 8, .inr (.inr (.inr (.inr (fun _ => none))))) : va_E))]) H locs := C
  refine lv_iconst (v := 0) F.x F.b dX0_init_71 (by decide) ?_
  refine lv_istore_n (lv' := [(1, .int 0), (0, .ref q)]) F.x F.b dX0_init_72 rfl hl (by decide) rfl (fun ls hl => ?_)
  refine lv_iload_n F.x F.b dX0_init_73 rfl (lv_at hl 0 rfl) ?_
  refine lv_bipush (v := 10) F.x F.b dX0_init_74 (by decide) ?_
  refine lv_icmp_ge (tgt := 93) F.x F.b dX0_init_76 (by decide) (fun h9 => absurd h9 (by decide)) (fun _ => ?_)
  refine lv_aload_n F.x F.b dX0_init_79 rfl (lv_at hl 1 rfl) ?_
  refine cGet F C rfl rfl inA0 0 (by decide) q1_84 rfl (v := .ref a1) rfl dX0_init_80 ?_
  refine lv_iload_n F.x F.b dX0_init_83 rfl (lv_at hl 0 rfl) ?_
  refine lv_bipush (v := 10) F.x F.b dX0_init_84 (by decide) ?_
  refine cAsti F C 1 rfl (by unfold vp_in; decide) dX0_init_86 (fun H locs C => ?_)
  have C : Ck D s (va_A [(q, .inr (0, [.null, .null, .int 0, .int 0, .int 0, .int 0, .int 0, .int 0, .int 0, .int 0, .int 0, .int 0]))] s.heap.size) ([(q, (.inr (0, [.ref a1, .ref a2, .int 0, .int 0, .int 4, .int 0, .int 0, .int 0, .int 0, .int 0, .int 0, .int 0]) : va_E)), (a1, (.inl (ky 1, 10, .inl (upd (fun _ => 0) 0 10)) : va_E)), (a2, (.inl (ky 4, 8, .inr (.inr (.inr (.inr (fun _ => none))))) : va_E))]) H locs := C
  refine lv_iinc (v := 1) (lv' := [(1, .int 1), (0, .ref q)]) F.x F.b dX0_init_87 hl (k := 0) rfl (by decide) (by decide) rfl (fun ls hl => ?_)
  refine lv_goto (tgt := 73) F.x F.b dX0_init_90 (by decide) ?_
  refine lv_iload_n F.x F.b dX0_init_73 rfl (lv_at hl 0 rfl) ?_
  refine lv_bipush (v := 10) F.x F.b dX0_init_74 (by decide) ?_
  refine lv_icmp_ge (tgt := 93) F.x F.b dX0_init_76 (by decide) (fun h9 => absurd h9 (by decide)) (fun _ => ?_)
  refine lv_aload_n F.x F.b dX0_init_79 rfl (lv_at hl 1 rfl) ?_
  refine cGet F C rfl rfl inA0 0 (by decide) q1_84 rfl (v := .ref a1) rfl dX0_init_80 ?_
  refine lv_iload_n F.x F.b dX0_init_83 rfl (lv_at hl 0 rfl) ?_
  refine lv_bipush (v := 10) F.x F.b dX0_init_84 (by decide) ?_
  refine cAsti F C 1 rfl (by unfold vp_in; decide) dX0_init_86 (fun H locs C => ?_)
  have C : Ck D s (va_A [(q, .inr (0, [.null, .null, .int 0, .int 0, .int 0, .int 0, .int 0, .int 0, .int 0, .int 0, .int 0, .int 0]))] s.heap.size) ([(q, (.inr (0, [.ref a1, .ref a2, .int 0, .int 0, .int 4, .int 0, .int 0, .int 0, .int 0, .int 0, .int 0, .int 0]) : va_E)), (a1, (.inl (ky 1, 10, .inl (upd (upd (fun _ => 0) 0 10) 1 10)) : va_E)), (a2, (.inl (ky 4, 8, .inr (.inr (.inr (.inr (fun _ => none))))) : va_E))]) H locs := C
  refine lv_iinc (v := 2) (lv' := [(1, .int 2), (0, .ref q)]) F.x F.b dX0_init_87 hl (k := 0) rfl (by decide) (by decide) rfl (fun ls hl => ?_)
  refine lv_goto (tgt := 73) F.x F.b dX0_init_90 (by decide) ?_
  refine lv_iload_n F.x F.b dX0_init_73 rfl (lv_at hl 0 rfl) ?_
  refine lv_bipush (v := 10) F.x F.b dX0_init_74 (by decide) ?_
  refine lv_icmp_ge (tgt := 93) F.x F.b dX0_init_76 (by decide) (fun h9 => absurd h9 (by decide)) (fun _ => ?_)
  refine lv_aload_n F.x F.b dX0_init_79 rfl (lv_at hl 1 rfl) ?_
  refine cGet F C rfl rfl inA0 0 (by decide) q1_84 rfl (v := .ref a1) rfl dX0_init_80 ?_
  refine lv_iload_n F.x F.b dX0_init_83 rfl (lv_at hl 0 rfl) ?_
  refine lv_bipush (v := 10) F.x F.b dX0_init_84 (by decide) ?_
  refine cAsti F C 1 rfl (by unfold vp_in; decide) dX0_init_86 (fun H locs C => ?_)
  have C : Ck D s (va_A [(q, .inr (0, [.null, .null, .int 0, .int 0, .int 0, .int 0, .int 0, .int 0, .int 0, .int 0, .int 0, .int 0]))] s.heap.size) ([(q, (.inr (0, [.ref a1, .ref a2, .int 0, .int 0, .int 4, .int 0, .int 0, .int 0, .int 0, .int 0, .int 0, .int 0]) : va_E)), (a1, (.inl (ky 1, 10, .inl (upd (upd (upd (fun _ => 0) 0 10) 1 10) 2 10)) : va_E)), (a2, (.inl (ky 4, 8, .inr (.inr (.inr (.inr (fun _ => none))))) : va_E))]) H locs := C
  refine lv_iinc (v := 3) (lv' := [(1, .int 3), (0, .ref q)]) F.x F.b dX0_init_87 hl (k := 0) rfl (by decide) (by decide) rfl (fun ls hl => ?_)
  refine lv_goto (tgt := 73) F.x F.b dX0_init_90 (by decide) ?_
  refine lv_iload_n F.x F.b dX0_init_73 rfl (lv_at hl 0 rfl) ?_
  refine lv_bipush (v := 10) F.x F.b dX0_init_74 (by decide) ?_
  refine lv_icmp_ge (tgt := 93) F.x F.b dX0_init_76 (by decide) (fun h9 => absurd h9 (by decide)) (fun _ => ?_)
  refine lv_aload_n F.x F.b dX0_init_79 rfl (lv_at hl 1 rfl) ?_
  refine cGet F C rfl rfl inA0 0 (by decide) q1_84 rfl (v := .ref a1) rfl dX0_init_80 ?_
  refine lv_iload_n F.x F.b dX0_init_83 rfl (lv_at hl 0 rfl) ?_
  refine lv_bipush (v := 10) F.x F.b dX0_init_84 (by decide) ?_
  refine cAsti F C 1 rfl (by unfold vp_in; decide) dX0_init_86 (fun H locs C => ?_)
  have C : Ck D s (va_A [(q, .inr (0, [.null, .null, .int 0, .int 0, .int 0, .int 0, .int 0, .int 0, .int 0, .int 0, .int 0, .int 0]))] s.heap.size) ([(q, (.inr (0, [.ref a1, .ref a2, .int 0, .int 0, .int 4, .int 0, .int 0, .int 0, .int 0, .int 0, .int 0, .int 0]) : va_E)), (a1, (.inl (ky 1, 10, .inl (upd (upd (upd (upd (fun _ => 0) 0 10) 1 10) 2 10) 3 10)) : va_E)), (a2, (.inl (ky 4, 8, .inr (.inr (.inr (.inr (fun _ => none))))) : va_E))]) H locs := C
  refine lv_iinc (v := 4) (lv' := [(1, .int 4), (0, .ref q)]) F.x F.b dX0_init_87 hl (k := 0) rfl (by decide) (by decide) rfl (fun ls hl => ?_)
  refine lv_goto (tgt := 73) F.x F.b dX0_init_90 (by decide) ?_
  refine lv_iload_n F.x F.b dX0_init_73 rfl (lv_at hl 0 rfl) ?_
  refine lv_bipush (v := 10) F.x F.b dX0_init_74 (by decide) ?_
  refine lv_icmp_ge (tgt := 93) F.x F.b dX0_init_76 (by decide) (fun h9 => absurd h9 (by decide)) (fun _ => ?_)
  refine lv_aload_n F.x F.b dX0_init_79 rfl (lv_at hl 1 rfl) ?_
  refine cGet F C rfl rfl inA0 0 (by decide) q1_84 rfl (v := .ref a1) rfl dX0_init_80 ?_
  refine lv_iload_n F.x F.b dX0_init_83 rfl (lv_at hl 0 rfl) ?_
  refine lv_bipush (v := 10) F.x F.b dX0_init_84 (by decide) ?_
  refine cAsti F C 1 rfl (by unfold vp_in; decide) dX0_init_86 (fun H locs C => ?_)
  have C : Ck D s (va_A [(q, .inr (0, [.null, .null, .int 0, .int 0, .int 0, .int 0, .int 0, .int 0, .int 0, .int 0, .int 0, .int 0]))] s.heap.size) ([(q, (.inr (0, [.ref a1, .ref a2, .int 0, .int 0, .int 4, .int 0, .int 0, .int 0, .int 0, .int 0, .int 0, .int 0]) : va_E)), (a1, (.inl (ky 1, 10, .inl (upd (upd (upd (upd (upd (fun _ => 0) 0 10) 1 10) 2 10) 3 10) 4 10)) : va_E)), (a2, (.inl (ky 4, 8, .inr (.inr (.inr (.inr (fun _ => none))))) : va_E))]) H locs := C
  refine lv_iinc (v := 5) (lv' := [(1, .int 5), (0, .ref q)]) F.x F.b dX0_init_87 hl (k := 0) rfl (by decide) (by decide) rfl (fun ls hl => ?_)
  refine lv_goto (tgt := 73) F.x F.b dX0_init_90 (by decide) ?_
  refine lv_iload_n F.x F.b dX0_init_73 rfl (lv_at hl 0 rfl) ?_
  refine lv_bipush (v := 10) F.x F.b dX0_init_74 (by decide) ?_
  refine lv_icmp_ge (tgt := 93) F.x F.b dX0_init_76 (by decide) (fun h9 => absurd h9 (by decide)) (fun _ => ?_)
  refine lv_aload_n F.x F.b dX0_init_79 rfl (lv_at hl 1 rfl) ?_
  refine cGet F C rfl rfl inA0 0 (by decide) q1_84 rfl (v := .ref a1) rfl dX0_init_80 ?_
  refine lv_iload_n F.x F.b dX0_init_83 rfl (lv_at hl 0 rfl) ?_
  refine lv_bipush (v := 10) F.x F.b dX0_init_84 (by decide) ?_
  refine cAsti F C 1 rfl (by unfold vp_in; decide) dX0_init_86 (fun H locs C => ?_)
  have C : Ck D s (va_A [(q, .inr (0, [.null, .null, .int 0, .int 0, .int 0, .int 0, .int 0, .int 0, .int 0, .int 0, .int 0, .int 0]))] s.heap.size) ([(q, (.inr (0, [.ref a1, .ref a2, .int 0, .int 0, .int 4, .int 0, .int 0, .int 0, .int 0, .int 0, .int 0, .int 0]) : va_E)), (a1, (.inl (ky 1, 10, .inl (upd (upd (upd (upd (upd (upd (fun _ => 0) 0 10) 1 10) 2 10) 3 10) 4 10) 5 10)) : va_E)), (a2, (.inl (ky 4, 8, .inr (.inr (.inr (.inr (fun _ => none))))) : va_E))]) H locs := C
  refine lv_iinc (v := 6) (lv' := [(1, .int 6), (0, .ref q)]) F.x F.b dX0_init_87 hl (k := 0) rfl (by decide) (by decide) rfl (fun ls hl => ?_)
  refine lv_goto (tgt := 73) F.x F.b dX0_init_90 (by decide) ?_
  refine lv_iload_n F.x F.b dX0_init_73 rfl (lv_at hl 0 rfl) ?_
  refine lv_bipush (v := 10) F.x F.b dX0_init_74 (by decide) ?_
  refine lv_icmp_ge (tgt := 93) F.x F.b dX0_init_76 (by decide) (fun h9 => absurd h9 (by decide)) (fun _ => ?_)
  refine lv_aload_n F.x F.b dX0_init_79 rfl (lv_at hl 1 rfl) ?_
  refine cGet F C rfl rfl inA0 0 (by decide) q1_84 rfl (v := .ref a1) rfl dX0_init_80 ?_
  refine lv_iload_n F.x F.b dX0_init_83 rfl (lv_at hl 0 rfl) ?_
  refine lv_bipush (v := 10) F.x F.b dX0_init_84 (by decide) ?_
  refine cAsti F C 1 rfl (by unfold vp_in; decide) dX0_init_86 (fun H locs C => ?_)
  have C : Ck D s (va_A [(q, .inr (0, [.null, .null, .int 0, .int 0, .int 0, .int 0, .int 0, .int 0, .int 0, .int 0, .int 0, .int 0]))] s.heap.size) ([(q, (.inr (0, [.ref a1, .ref a2, .int 0, .int 0, .int 4, .int 0, .int 0, .int 0, .int 0, .int 0, .int 0, .int 0]) : va_E)), (a1, (.inl (ky 1, 10, .inl (upd (upd (upd (upd (upd (upd (upd (fun _ => 0) 0 10) 1 10) 2 10) 3 10) 4 10) 5 10) 6 10)) : va_E)), (a2, (.inl (ky 4, 8, .inr (.inr (.inr (.inr (fun _ => none))))) : va_E))]) H locs := C
  refine lv_iinc (v := 7) (lv' := [(1, .int 7), (0, .ref q)]) F.x F.b dX0_init_87 hl (k := 0) rfl (by decide) (by decide) rfl (fun ls hl => ?_)
  refine lv_goto (tgt := 73) F.x F.b dX0_init_90 (by decide) ?_
  refine lv_iload_n F.x F.b dX0_init_73 rfl (lv_at hl 0 rfl) ?_
  refine lv_bipush (v := 10) F.x F.b dX0_init_74 (by decide) ?_
  refine lv_icmp_ge (tgt := 93) F.x F.b dX0_init_76 (by decide) (fun h9 => absurd h9 (by decide)) (fun _ => ?_)
  refine lv_aload_n F.x F.b dX0_init_79 rfl (lv_at hl 1 rfl) ?_
  refine cGet F C rfl rfl inA0 0 (by decide) q1_84 rfl (v := .ref a1) rfl dX0_init_80 ?_
  refine lv_iload_n F.x F.b dX0_init_83 rfl (lv_at hl 0 rfl) ?_
  refine lv_bipush (v := 10) F.x F.b dX0_init_84 (by decide) ?_
  refine cAsti F C 1 rfl (by unfold vp_in; decide) dX0_init_86 (fun H locs C => ?_)
  have C : Ck D s (va_A [(q, .inr (0, [.null, .null, .int 0, .int 0, .int 0, .int 0, .int 0, .int 0, .int 0, .int 0, .int 0, .int 0]))] s.heap.size) ([(q, (.inr (0, [.ref a1, .ref a2, .int 0, .int 0, .int 4, .int 0, .int 0, .int 0, .int 0, .int 0, .int 0, .int 0]) : va_E)), (a1, (.inl (ky 1, 10, .inl (upd (upd (upd (upd (upd (upd (upd (upd (fun _ => 0) 0 10) 1 10) 2 10) 3 10) 4 10) 5 10) 6 10) 7 10)) : va_E)), (a2, (.inl (ky 4, 8, .inr (.inr (.inr (.inr (fun _ => none))))) : va_E))]) H locs := C
  refine lv_iinc (v := 8) (lv' := [(1, .int 8), (0, .ref q)]) F.x F.b dX0_init_87 hl (k := 0) rfl (by decide) (by decide) rfl (fun ls hl => ?_)
  refine lv_goto (tgt := 73) F.x F.b dX0_init_90 (by decide) ?_
  refine lv_iload_n F.x F.b dX0_init_73 rfl (lv_at hl 0 rfl) ?_
  refine lv_bipush (v := 10) F.x F.b dX0_init_74 (by decide) ?_
  refine lv_icmp_ge (tgt := 93) F.x F.b dX0_init_76 (by decide) (fun h9 => absurd h9 (by decide)) (fun _ => ?_)
  refine lv_aload_n F.x F.b dX0_init_79 rfl (lv_at hl 1 rfl) ?_
  refine cGet F C rfl rfl inA0 0 (by decide) q1_84 rfl (v := .ref a1) rfl dX0_init_80 ?_
  refine lv_iload_n F.x F.b dX0_init_83 rfl (lv_at hl 0 rfl) ?_
  refine lv_bipush (v := 10) F.x F.b dX0_init_84 (by decide) ?_
  refine cAsti F C 1 rfl (by unfold vp_in; decide) dX0_init_86 (fun H locs C => ?_)
  have C : Ck D s (va_A [(q, .inr (0, [.null, .null, .int 0, .int 0, .int 0, .int 0, .int 0, .int 0, .int 0, .int 0, .int 0, .int 0]))] s.heap.size) ([(q, (.inr (0, [.ref a1, .ref a2, .int 0, .int 0, .int 4, .int 0, .int 0, .int 0, .int 0, .int 0, .int 0, .int 0]) : va_E)), (a1, (.inl (ky 1, 10, .inl (upd (upd (upd (upd (upd (upd (upd (upd (upd (fun _ => 0) 0 10) 1 10) 2 10) 3 10) 4 10) 5 10) 6 10) 7 10) 8 10)) : va_E)), (a2, (.inl (ky 4, 8, .inr (.inr (.inr (.inr (fun _ => none))))) : va_E))]) H locs := C
  refine lv_iinc (v := 9) (lv' := [(1, .int 9), (0, .ref q)]) F.x F.b dX0_init_87 hl (k := 0) rfl (by decide) (by decide) rfl (fun ls hl => ?_)
  refine lv_goto (tgt := 73) F.x F.b dX0_init_90 (by decide) ?_
  refine lv_iload_n F.x F.b dX0_init_73 rfl (lv_at hl 0 rfl) ?_
  refine lv_bipush (v := 10) F.x F.b dX0_init_74 (by decide) ?_
  refine lv_icmp_ge (tgt := 93) F.x F.b dX0_init_76 (by decide) (fun h9 => absurd h9 (by decide)) (fun _ => ?_)
  refine lv_aload_n F.x F.b dX0_init_79 rfl (lv_at hl 1 rfl) ?_
  refine cGet F C rfl rfl inA0 0 (by decide) q1_84 rfl (v := .ref a1) rfl dX0_init_80 ?_
  refine lv_iload_n F.x F.b dX0_init_83 rfl (lv_at hl 0 rfl) ?_
  refine lv_bipush (v := 10) F.x F.b dX0_init_84 (by decide) ?_
  refine cAsti F C 1 rfl (by unfold vp_in; decide) dX0_init_86 (fun H locs C => ?_)
  have C : Ck D s (va_A [(q, .inr (0, [.null, .null, .int 0, .int 0, .int 0, .int 0, .int 0, .int 0, .int 0, .int 0, .int 0, .int 0]))] s.heap.size) ([(q, (.inr (0, [.ref a1, .ref a2, .int 0, .int 0, .int 4, .int 0, .int 0, .int 0, .int 0, .int 0, .int 0, .int 0]) : va_E)), (a1, (.inl (ky 1, 10, .inl (upd (upd (upd (upd (upd (upd (upd (upd (upd (upd (fun _ => 0) 0 10) 1 10) 2 10) 3 10) 4 10) 5 10) 6 10) 7 10) 8 10) 9 10)) : va_E)), (a2, (.inl (ky 4, 8, .inr (.inr (.inr (.inr (fun _ => none))))) : va_E))]) H locs := C
  refine lv_iinc (v := 10) (lv' := [(1, .int 10), (0, .ref q)]) F.x F.b dX0_init_87 hl (k := 0) rfl (by decide) (by decide) rfl (fun ls hl => ?_)
  refine lv_goto (tgt := 73) F.x F.b dX0_init_90 (by decide) ?_
  refine lv_iload_n F.x F.b dX0_init_73 rfl (lv_at hl 0 rfl) ?_
  refine lv_bipush (v := 10) F.x F.b dX0_init_74 (by decide) ?_
  refine lv_icmp_ge (tgt := 93) F.x F.b dX0_init_76 (by decide) (fun _ => ?_) (fun h9 => absurd (by decide) h9)
  refine lv_iconst (v := 0) F.x F.b dX0_init_93 (by decide) ?_
  refine lv_istore_n (lv' := [(1, .int 0), (0, .ref q)]) F.x F.b dX0_init_94 rfl hl (by decide) rfl (fun ls hl => ?_)
  refine lv_iload_n F.x F.b dX0_init_95 rfl (lv_at hl 0 rfl) ?_
  refine lv_bipush (v := 8) F.x F.b dX0_init_96 (by decide) ?_
  refine lv_icmp_ge (tgt := 120) F.x F.b dX0_init_98 (by decide) (fun h9 => absurd h9 (by decide)) (fun _ => ?_)
  refine lv_aload_n F.x F.b dX0_init_101 rfl (lv_at hl 1 rfl) ?_
  refine cGet F C rfl rfl inA0 1 (by decide) q1_86 rfl (v := .ref a2) rfl dX0_init_102 ?_
  refine lv_iload_n F.x F.b dX0_init_105 rfl (lv_at hl 0 rfl) ?_
  refine cNew (ci := 3) F C inA3 tyX3_ok q1_38 q1_40 q1_3 rfl (fs := [.int 0, .int 0, .int 0, .int 0, .int 0, .int 0, .int 0, .int 0]) (fun j hj => by rcases (show j = 0 ∨ j = 1 ∨ j = 2 ∨ j = 3 ∨ j = 4 ∨ j = 5 ∨ j = 6 ∨ j = 7 by omega) with rfl | rfl | rfl | rfl | rfl | rfl | rfl | rfl <;> rfl) (Nat.le_of_ble_eq_true rfl) (Nat.le_of_ble_eq_true rfl) dX0_init_106 (fun b3 H C => ?_)
  refine lv_dup F.x F.b dX0_init_109 rfl ?_
  refine cCallN F C hl (kX3_init l D ky b3) ⟨q1_41, q1_42, q1_3, q1_43⟩ ⟨rfl, by decide, by decide, by decide +kernel⟩ ⟨rfl, rfl, ⟨Nat.le_of_ble_eq_true rfl, Nat.le_of_ble_eq_true rfl⟩, ⟨Nat.le_of_ble_eq_true rfl, Nat.le_of_ble_eq_true rfl⟩, Nat.le_of_ble_eq_true rfl⟩ (rest := [.ref b3, .int 0, .ref a2]) dX0_init_110 (fun u4 H locs hu5 C => ?_)
  obtain rfl := hu5
  have C : Ck D s (va_A [(q, .inr (0, [.null, .null, .int 0, .int 0, .int 0, .int 0, .int 0, .int 0, .int 0, .int 0, .int 0, .int 0]))] s.heap.size) ([(q, (.inr (0, [.ref a1, .ref a2, .int 0, .int 0, .int 4, .int 0, .int 0, .int 0, .int 0, .int 0, .int 0, .int 0]) : va_E)), (a1, (.inl (ky 1, 10, .inl (upd (upd (upd (upd (upd (upd (upd (upd (upd (upd (fun _ => 0) 0 10) 1 10) 2 10) 3 10) 4 10) 5 10) 6 10) 7 10) 8 10) 9 10)) : va_E)), (a2, (.inl (ky 4, 8, .inr (.inr (.inr (.inr (fun _ => none))))) : va_E)), (b3, (.inr (3, [.int 0, .int 0, .int (-1), .int 0, .int 1, .int 0, .int 0, .int 0]) : va_E))]) H locs := C
  refine cAstq F C 2 4 (ci := 3) (vs := [.int 0, .int 0, .int (-1), .int 0, .int 1, .int 0, .int 0, .int 0]) rfl rfl (List.mem_of_getElem? (i := 3) rfl) rfl (by unfold vp_in; decide) dX0_init_113 (fun H locs C => ?_)
  have C : Ck D s (va_A [(q, .inr (0, [.null, .null, .int 0, .int 0, .int 0, .int 0, .int 0, .int 0, .int 0, .int 0, .int 0, .int 0]))] s.heap.size) ([(q, (.inr (0, [.ref a1, .ref a2, .int 0, .int 0, .int 4, .int 0, .int 0, .int 0, .int 0, .int 0, .int 0, .int 0]) : va_E)), (a1, (.inl (ky 1, 10, .inl (upd (upd (upd (upd (upd (upd (upd (upd (upd (upd (fun _ => 0) 0 10) 1 10) 2 10) 3 10) 4 10) 5 10) 6 10) 7 10) 8 10) 9 10)) : va_E)), (a2, (.inl (ky 4, 8, .inr (.inr (.inr (.inr (va_up (fun _ => none) 0 (some b3)))))) : va_E)), (b3, (.inr (3, [.int 0, .int 0, .int (-1), .int 0, .int 1, .int 0, .int 0, .int 0]) : va_E))]) H locs := C
  refine lv_iinc (v := 1) (lv' := [(1, .int 1), (0, .ref q)]) F.x F.b dX0_init_114 hl (k := 0) rfl (by decide) (by decide) rfl (fun ls hl => ?_)
  refine lv_goto (tgt := 95) F.x F.b dX0_init_117 (by decide) ?_
  refine lv_iload_n F.x F.b dX0_init_95 rfl (lv_at hl 0 rfl) ?_
  refine lv_bipush (v := 8) F.x F.b dX0_init_96 (by decide) ?_
  refine lv_icmp_ge (tgt := 120) F.x F.b dX0_init_98 (by decide) (fun h9 => absurd h9 (by decide)) (fun _ => ?_)
  refine lv_aload_n F.x F.b dX0_init_101 rfl (lv_at hl 1 rfl) ?_
  refine cGet F C rfl rfl inA0 1 (by decide) q1_86 rfl (v := .ref a2) rfl dX0_init_102 ?_
  refine lv_iload_n F.x F.b dX0_init_105 rfl (lv_at hl 0 rfl) ?_
  refine cNew (ci := 3) F C inA3 tyX3_ok q1_38 q1_40 q1_3 rfl (fs := [.int 0, .int 0, .int 0, .int 0, .int 0, .int 0, .int 0, .int 0]) (fun j hj => by rcases (show j = 0 ∨ j = 1 ∨ j = 2 ∨ j = 3 ∨ j = 4 ∨ j = 5 ∨ j = 6 ∨ j = 7 by omega) with rfl | rfl | rfl | rfl | rfl | rfl | rfl | rfl <;> rfl) (Nat.le_of_ble_eq_true rfl) (Nat.le_of_ble_eq_true rfl) dX0_init_106 (fun b6 H C => ?_)
  refine lv_dup F.x F.b dX0_init_109 rfl ?_
  refine cCallN F C hl (kX3_init l D ky b6) ⟨q1_41, q1_42, q1_3, q1_43⟩ ⟨rfl, by decide, by decide, by decide +kernel⟩ ⟨rfl, rfl, ⟨Nat.le_of_ble_eq_true rfl, Nat.le_of_ble_eq_true rfl⟩, ⟨Nat.le_of_ble_eq_true rfl, Nat.le_of_ble_eq_true rfl⟩, Nat.le_of_ble_eq_true rfl⟩ (rest := [.ref b6, .int 1, .ref a2]) dX0_init_110 (fun u7 H locs hu8 C => ?_)
  obtain rfl := hu8
  have C : Ck D s (va_A [(q, .inr (0, [.null, .null, .int 0, .int 0, .int 0, .int 0, .int 0, .int 0, .int 0, .int 0, .int 0, .int 0]))] s.heap.size) ([(q, (.inr (0, [.ref a1, .ref a2, .int 0, .int 0, .int 4, .int 0, .int 0, .int 0, .int 0, .int 0, .int 0, .int 0]) : va_E)), (a1, (.inl (ky 1, 10, .inl (upd (upd (upd (upd (upd (upd (upd (upd (upd (upd (fun _ => 0) 0 10) 1 10) 2 10) 3 10) 4 10) 5 10) 6 10) 7 10) 8 10) 9 10)) : va_E)), (a2, (.inl (ky 4, 8, .inr (.inr (.inr (.inr (va_up (fun _ => none) 0 (some b3)))))) : va_E)), (b3, (.inr (3, [.int 0, .int 0, .int (-1), .int 0, .int 1, .int 0, .int 0, .int 0]) : va_E)), (b6, (.inr (3, [.int 0, .int 0, .int (-1), .int 0, .int 1, .int 0, .int 0, .int 0]) : va_E))]) H locs := C
  refine cAstq F C 2 4 (ci := 3) (vs := [.int 0, .int 0, .int (-1), .int 0, .int 1, .int 0, .int 0, .int 0]) rfl rfl (List.mem_of_getElem? (i := 4) rfl) rfl (by unfold vp_in; decide) dX0_init_113 (fun H locs C => ?_)
  have C : Ck D s (va_A [(q, .inr (0, [.null, .null, .int 0, .int 0, .int 0, .int 0, .int 0, .int 0, .int 0, .int 0, .int 0, .int 0]))] s.heap.size) ([(q, (.inr (0, [.ref a1, .ref a2, .int 0, .int 0, .int 4, .int 0, .int 0, .int 0, .int 0, .int 0, .int 0, .int 0]) : va_E)), (a1, (.inl (ky 1, 10, .inl (upd (upd (upd (upd (upd (upd (upd (upd (upd (upd (fun _ => 0) 0 10) 1 10) 2 10) 3 10) 4 10) 5 10) 6 10) 7 10) 8 10) 9 10)) : va_E)), (a2, (.inl (ky 4, 8, .inr (.inr (.inr (.inr (va_up (va_up (fun _ => none) 0 (some b3)) 1 (some b6)))))) : va_E)), (b3, (.inr (3, [.int 0, .int 0, .int (-1), .int 0, .int 1, .int 0, .int 0, .int 0]) : va_E)), (b6, (.inr (3, [.int 0, .int 0, .int (-1), .int 0, .int 1, .int 0, .int 0, .int 0]) : va_E))]) H locs := C
  refine lv_iinc (v := 2) (lv' := [(1, .int 2), (0, .ref q)]) F.x F.b dX0_init_114 hl (k := 0) rfl (by decide) (by decide) rfl (fun ls hl => ?_)
  refine lv_goto (tgt := 95) F.x F.b dX0_init_117 (by decide) ?_
  refine lv_iload_n F.x F.b dX0_init_95 rfl (lv_at hl 0 rfl) ?_
  refine lv_bipush (v := 8) F.x F.b dX0_init_96 (by decide) ?_
  refine lv_icmp_ge (tgt := 120) F.x F.b dX0_init_98 (by decide) (fun h9 => absurd h9 (by decide)) (fun _ => ?_)
  refine lv_aload_n F.x F.b dX0_init_101 rfl (lv_at hl 1 rfl) ?_
  refine cGet F C rfl rfl inA0 1 (by decide) q1_86 rfl (v := .ref a2) rfl dX0_init_102 ?_
  refine lv_iload_n F.x F.b dX0_init_105 rfl (lv_at hl 0 rfl) ?_
  refine cNew (ci := 3) F C inA3 tyX3_ok q1_38 q1_40 q1_3 rfl (fs := [.int 0, .int 0, .int 0, .int 0, .int 0, .int 0, .int 0, .int 0]) (fun j hj => by rcases (show j = 0 ∨ j = 1 ∨ j = 2 ∨ j = 3 ∨ j = 4 ∨ j = 5 ∨ j = 6 ∨ j = 7 by omega) with rfl | rfl | rfl | rfl | rfl | rfl | rfl | rfl <;> rfl) (Nat.le_of_ble_eq_true rfl) (Nat.le_of_ble_eq_true rfl) dX0_init_106 (fun b9 H C => ?_)
  refine lv_dup F.x F.b dX0_init_109 rfl ?_
  refine cCallN F C hl (kX3_init l D ky b9) ⟨q1_41, q1_42, q1_3, q1_43⟩ ⟨rfl, by decide, by decide, by decide +kernel⟩ ⟨rfl, rfl, ⟨Nat.le_of_ble_eq_true rfl, Nat.le_of_ble_eq_true rfl⟩, ⟨Nat.le_of_ble_eq_true rfl, Nat.le_of_ble_eq_true rfl⟩, Nat.le_of_ble_eq_true rfl⟩ (rest := [.ref b9, .int 2, .ref a2]) dX0_init_110 (fun u10 H locs hu11 C => ?_)
  obtain rfl := hu11
  have C : Ck D s (va_A [(q, .inr (0, [.null, .null, .int 0, .int 0, .int 0, .int 0, .int 0, .int 0, .int 0, .int 0, .int 0, .int 0]))] s.heap.size) ([(q, (.inr (0, [.ref a1, .ref a2, .int 0, .int 0, .int 4, .int 0, .int 0, .int 0, .int 0, .int 0, .int 0, .int 0]) : va_E)), (a1, (.inl (ky 1, 10, .inl (upd (upd (upd (upd (upd (upd (upd (upd (upd (upd (fun _ => 0) 0 10) 1 10) 2 10) 3 10) 4 10) 5 10) 6 10) 7 10) 8 10) 9 10)) : va_E)), (a2, (.inl (ky 4, 8, .inr (.inr (.inr (.inr (va_up (va_up (fun _ => none) 0 (some b3)) 1 (some b6)))))) : va_E)), (b3, (.inr (3, [.int 0, .int 0, .int (-1), .int 0, .int 1, .int 0, .int 0, .int 0]) : va_E)), (b6, (.inr (3, [.int 0, .int 0, .int (-1), .int 0, .int 1, .int 0, .int 0, .int 0]) : va_E)), (b9, (.inr (3, [.int 0, .int 0, .int (-1), .int 0, .int 1, .int 0, .int 0, .int 0]) : va_E))]) H locs := C
  refine cAstq F C 2 4 (ci := 3) (vs := [.int 0, .int 0, .int (-1), .int 0, .int 1, .int 0, .int 0, .int 0]) rfl rfl (List.mem_of_getElem? (i := 5) rfl) rfl (by unfold vp_in; decide) dX0_init_113 (fun H locs C => ?_)
  have C : Ck D s (va_A [(q, .inr (0, [.null, .null, .int 0, .int 0, .int 0, .int 0, .int 0, .int 0, .int 0, .int 0, .int 0, .int 0]))] s.heap.size) ([(q, (.inr (0, [.ref a1, .ref a2, .int 0, .int 0, .int 4, .int 0, .int 0, .int 0, .int 0, .int 0, .int 0, .int 0]) : va_E)), (a1, (.inl (ky 1, 10, .inl (upd (upd (upd (upd (upd (upd (upd (upd (upd (upd (fun _ => 0) 0 10) 1 10) 2 10) 3 10) 4 10) 5 10) 6 10) 7 10) 8 10) 9 10)) : va_E)), (a2, (.inl (ky 4, 8, .inr (.inr (.inr (.inr (va_up (va_up (va_up (fun _ => none) 0 (some b3)) 1 (some b6)) 2 (some b9)))))) : va_E)), (b3, (.inr (3, [.int 0, .int 0, .int (-1), .int 0, .int 1, .int 0, .int 0, .int 0]) : va_E)), (b6, (.inr (3, [.int 0, .int 0, .int (-1), .int 0, .int 1, .int 0, .int 0, .int 0]) : va_E)), (b9, (.inr (3, [.int 0, .int 0, .int (-1), .int 0, .int 1, .int 0, .int 0, .int 0]) : va_E))]) H locs := C
  refine lv_iinc (v := 3) (lv' := [(1, .int 3), (0, .ref q)]) F.x F.b dX0_init_114 hl (k := 0) rfl (by decide) (by decide) rfl (fun ls hl => ?_)
  refine lv_goto (tgt := 95) F.x F.b dX0_init_117 (by decide) ?_
  refine lv_iload_n F.x F.b dX0_init_95 rfl (lv_at hl 0 rfl) ?_
  refine lv_bipush (v := 8) F.x F.b dX0_init_96 (by decide) ?_
  refine lv_icmp_ge (tgt := 120) F.x F.b dX0_init_98 (by decide) (fun h9 => absurd h9 (by decide)) (fun _ => ?_)
  refine lv_aload_n F.x F.b dX0_init_101 rfl (lv_at hl 1 rfl) ?_
  refine cGet F C rfl rfl inA0 1 (by decide) q1_86 rfl (v := .ref a2) rfl dX0_init_102 ?_
  refine lv_iload_n F.x F.b dX0_init_105 rfl (lv_at hl 0 rfl) ?_
  refine cNew (ci := 3) F C inA3 tyX3_ok q1_38 q1_40 q1_3 rfl (fs := [.int 0, .int 0, .int 0, .int 0, .int 0, .int 0, .int 0, .int 0]) (fun j hj => by rcases (show j = 0 ∨ j = 1 ∨ j = 2 ∨ j = 3 ∨ j = 4 ∨ j = 5 ∨ j = 6 ∨ j = 7 by omega) with rfl | rfl | rfl | rfl | rfl | rfl | rfl | rfl <;> rfl) (Nat.le_of_ble_eq_true rfl) (Nat.le_of_ble_eq_true rfl) dX0_init_106 (fun b12 H C => ?_)
  refine lv_dup F.x F.b dX0_init_109 rfl ?_
  refine cCallN F C hl (kX3_init l D ky b12) ⟨q1_41, q1_42, q1_3, q1_43⟩ ⟨rfl, by decide, by decide, by decide +kernel⟩ ⟨rfl, rfl, ⟨Nat.le_of_ble_eq_true rfl, Nat.le_of_ble_eq_true rfl⟩, ⟨Nat.le_of_ble_eq_true rfl, Nat.le_of_ble_eq_true rfl⟩, Nat.le_of_ble_eq_true rfl⟩ (rest := [.ref b12, .int 3, .ref a2]) dX0_init_110 (fun u13 H locs hu14 C => ?_)
  obtain rfl := hu14
  have C : Ck D s (va_A [(q, .inr (0, [.null, .null, .int 0, .int 0, .int 0, .int 0, .int 0, .int 0, .int 0, .int 0, .int 0, .int 0]))] s.heap.size) ([(q, (.inr (0, [.ref a1, .ref a2, .int 0, .int 0, .int 4, .int 0, .int 0, .int 0, .int 0, .int 0, .int 0, .int 0]) : va_E)), (a1, (.inl (ky 1, 10, .inl (upd (upd (upd (upd (upd (upd (upd (upd (upd (upd (fun _ => 0) 0 10) 1 10) 2 10) 3 10) 4 10) 5 10) 6 10) 7 10) 8 10) 9 10)) : va_E)), (a2, (.inl (ky 4, 8, .inr (.inr (.inr (.inr (va_up (va_up (va_up (fun _ => none) 0 (some b3)) 1 (some b6)) 2 (some b9)))))) : va_E)), (b3, (.inr (3, [.int 0, .int 0, .int (-1), .int 0, .int 1, .int 0, .int 0, .int 0]) : va_E)), (b6, (.inr (3, [.int 0, .int 0, .int (-1), .int 0, .int 1, .int 0, .int 0, .int 0]) : va_E)), (b9, (.inr (3, [.int 0, .int 0, .int (-1), .int 0, .int 1, .int 0, .int 0, .int 0]) : va_E)), (b12, (.inr (3, [.int 0, .int 0, .int (-1), .int 0, .int 1, .int 0, .int 0, .int 0]) : va_E))]) H locs := C
  refine cAstq F C 2 4 (ci := 3) (vs := [.int 0, .int 0, .int (-1), .int 0, .int 1, .int 0, .int 0, .int 0]) rfl rfl (List.mem_of_getElem? (i := 6) rfl) rfl (by unfold vp_in; decide) dX0_init_113 (fun H locs C => ?_)
  have C : Ck D s (va_A [(q, .inr (0, [.null, .null, .int 0, .int 0, .int 0, .int 0, .int 0, .int 0, .int 0, .int 0, .int 0, .int 0]))] s.heap.size) ([(q, (.inr (0, [.ref a1, .ref a2, .int 0, .int 0, .int 4, .int 0, .int 0, .int 0, .int 0, .int 0, .int 0, .int 0]) : va_E)), (a1, (.inl (ky 1, 10, .inl (upd (upd (upd (upd (upd (upd (upd (upd (upd (upd (fun _ => 0) 0 10) 1 10) 2 10) 3 10) 4 10) 5 10) 6 10) 7 10) 8 10) 9 10)) : va_E)), (a2, (.inl (ky 4, 8, .inr (.inr (.inr (.inr (va_up (va_up (va_up (va_up (fun _ => none) 0 (some b3)) 1 (some b6)) 2 (some b9)) 3 (some b12)))))) : va_E)), (b3, (.inr (3, [.int 0, .int 0, .int (-1), .int 0, .int 1, .int 0, .int 0, .int 0]) : va_E)), (b6, (.inr (3, [.int 0, .int 0, .int (-1), .int 0, .int 1, .int 0, .int 0, .int 0]) : va_E)), (b9, (.inr (3, [.int 0, .int 0, .int (-1), .int 0, .int 1, .int 0, .int 0, .int 0]) : va_E)), (b12, (.inr (3, [.int 0, .int 0, .int (-1), .int 0, .int 1, .int 0, .int 0, .int 0]) : va_E))]) H locs := C
  refine lv_iinc (v := 4) (lv' := [(1, .int 4), (0, .ref q)]) F.x F.b dX0_init_114 hl (k := 0) rfl (by decide) (by decide) rfl (fun ls hl => ?_)
  refine lv_goto (tgt := 95) F.x F.b dX0_init_117 (by decide) ?_
  refine lv_iload_n F.x F.b dX0_init_95 rfl (lv_at hl 0 rfl) ?_
  refine lv_bipush (v := 8) F.x F.b dX0_init_96 (by decide) ?_
  refine lv_icmp_ge (tgt := 120) F.x F.b dX0_init_98 (by decide) (fun h9 => absurd h9 (by decide)) (fun _ => ?_)
  refine lv_aload_n F.x F.b dX0_init_101 rfl (lv_at hl 1 rfl) ?_
  refine cGet F C rfl rfl inA0 1 (by decide) q1_86 rfl (v := .ref a2) rfl dX0_init_102 ?_
  refine lv_iload_n F.x F.b dX0_init_105 rfl (lv_at hl 0 rfl) ?_
  refine cNew (ci := 3) F C inA3 tyX3_ok q1_38 q1_40 q1_3 rfl (fs := [.int 0, .int 0, .int 0, .int 0, .int 0, .int 0, .int 0, .int 0]) (fun j hj => by rcases (show j = 0 ∨ j = 1 ∨ j = 2 ∨ j = 3 ∨ j = 4 ∨ j = 5 ∨ j = 6 ∨ j = 7 by omega) with rfl | rfl | rfl | rfl | rfl | rfl | rfl | rfl <;> rfl) (Nat.le_of_ble_eq_true rfl) (Nat.le_of_ble_eq_true rfl) dX0_init_106 (fun b15 H C => ?_)
  refine lv_dup F.x F.b dX0_init_109 rfl ?_
  refine cCallN F C hl (kX3_init l D ky b15) ⟨q1_41, q1_42, q1_3, q1_43⟩ ⟨rfl, by decide, by decide, by decide +kernel⟩ ⟨rfl, rfl, ⟨Nat.le_of_ble_eq_true rfl, Nat.le_of_ble_eq_true rfl⟩, ⟨Nat.le_of_ble_eq_true rfl, Nat.le_of_ble_eq_true rfl⟩, Nat.le_of_ble_eq_true rfl⟩ (rest := [.ref b15, .int 4, .ref a2]) dX0_init_110 (fun u16 H locs hu17 C => ?_)
  obtain rfl := hu17
  have C : Ck D s (va_A [(q, .inr (0, [.null, .null, .int 0, .int 0, .int 0, .int 0, .int 0, .int 0, .int 0, .int 0, .int 0, .int 0]))] s.heap.size) ([(q, (.inr (0, [.ref a1, .ref a2, .int 0, .int 0, .int 4, .int 0, .int 0, .int 0, .int 0, .int 0, .int 0, .int 0]) : va_E)), (a1, (.inl (ky 1, 10, .inl (upd (upd (upd (upd (upd (upd (upd (upd (upd (upd (fun _ => 0) 0 10) 1 10) 2 10) 3 10) 4 10) 5 10) 6 10) 7 10) 8 10) 9 10)) : va_E)), (a2, (.inl (ky 4, 8, .inr (.inr (.inr (.inr (va_up (va_up (va_up (va_up (fun _ => none) 0 (some b3)) 1 (some b6)) 2 (some b9)) 3 (some b12)))))) : va_E)), (b3, (.inr (3, [.int 0, .int 0, .int (-1), .int 0, .int 1, .int 0, .int 0, .int 0]) : va_E)), (b6, (.inr (3, [.int 0, .int 0, .int (-1), .int 0, .int 1, .int 0, .int 0, .int 0]) : va_E)), (b9, (.inr (3, [.int 0, .int 0, .int (-1), .int 0, .int 1, .int 0, .int 0, .int 0]) : va_E)), (b12, (.inr (3, [.int 0, .int 0, .int (-1), .int 0, .int 1, .int 0, .int 0, .int 0]) : va_E)), (b15, (.inr (3, [.int 0, .int 0, .int (-1), .int 0, .int 1, .int 0, .int 0, .int 0]) : va_E))]) H locs := C
  refine cAstq F C 2 4 (ci := 3) (vs := [.int 0, .int 0, .int (-1), .int 0, .int 1, .int 0, .int 0, .int 0]) rfl rfl (List.mem_of_getElem? (i := 7) rfl) rfl (by unfold vp_in; decide) dX0_init_113 (fun H locs C => ?_)
  have C : Ck D s (va_A [(q, .inr (0, [.null, .null, .int 0, .int 0, .int 0, .int 0, .int 0, .int 0, .int 0, .int 0, .int 0, .int 0]))] s.heap.size) ([(q, (.inr (0, [.ref a1, .ref a2, .int 0, .int 0, .int 4, .int 0, .int 0, .int 0, .int 0, .int 0, .int 0, .int 0]) : va_E)), (a1, (.inl (ky 1, 10, .inl (upd (upd (upd (upd (upd (upd (upd (upd (upd (upd (fun _ => 0) 0 10) 1 10) 2 10) 3 10) 4 10) 5 10) 6 10) 7 10) 8 10) 9 10)) : va_E)), (a2, (.inl (ky 4, 8, .inr (.inr (.inr (.inr (va_up (va_up (va_up (va_up (va_up (fun _ => none) 0 (some b3)) 1 (some b6)) 2 (some b9)) 3 (some b12)) 4 (some b15)))))) : va_E)), (b3, (.inr (3, [.int 0, .int 0, .int (-1), .int 0, .int 1, .int 0, .int 0, .int 0]) : va_E)), (b6, (.inr (3, [.int 0, .int 0, .int (-1), .int 0, .int 1, .int 0, .int 0, .int 0]) : va_E)), (b9, (.inr (3, [.int 0, .int 0, .int (-1), .int 0, .int 1, .int 0, .int 0, .int 0]) : va_E)), (b12, (.inr (3, [.int 0, .int 0, .int (-1), .int 0, .int 1, .int 0, .int 0, .int 0]) : va_E)), (b15, (.inr (3, [.int 0, .int 0, .int (-1), .int 0, .int 1, .int 0, .int 0, .int 0]) : va_E))]) H locs := C
  refine lv_iinc (v := 5) (lv' := [(1, .int 5), (0, .ref q)]) F.x F.b dX0_init_114 hl (k := 0) rfl (by decide) (by decide) rfl (fun ls hl => ?_)
  refine lv_goto (tgt := 95) F.x F.b dX0_init_117 (by decide) ?_
  refine lv_iload_n F.x F.b dX0_init_95 rfl (lv_at hl 0 rfl) ?_
  refine lv_bipush (v := 8) F.x F.b dX0_init_96 (by decide) ?_
  refine lv_icmp_ge (tgt := 120) F.x F.b dX0_init_98 (by decide) (fun h9 => absurd h9 (by decide)) (fun _ => ?_)
  refine lv_aload_n F.x F.b dX0_init_101 rfl (lv_at hl 1 rfl) ?_
  refine cGet F C rfl rfl inA0 1 (by decide) q1_86 rfl (v := .ref a2) rfl dX0_init_102 ?_
  refine lv_iload_n F.x F.b dX0_init_105 rfl (lv_at hl 0 rfl) ?_
  refine cNew (ci := 3) F C inA3 tyX3_ok q1_38 q1_40 q1_3 rfl (fs := [.int 0, .int 0, .int 0, .int 0, .int 0, .int 0, .int 0, .int 0]) (fun j hj => by rcases (show j = 0 ∨ j = 1 ∨ j = 2 ∨ j = 3 ∨ j = 4 ∨ j = 5 ∨ j = 6 ∨ j = 7 by omega) with rfl | rfl | rfl | rfl | rfl | rfl | rfl | rfl <;> rfl) (Nat.le_of_ble_eq_true rfl) (Nat.le_of_ble_eq_true rfl) dX0_init_106 (fun b18 H C => ?_)
  refine lv_dup F.x F.b dX0_init_109 rfl ?_
  refine cCallN F C hl (kX3_init l D ky b18) ⟨q1_41, q1_42, q1_3, q1_43⟩ ⟨rfl, by decide, by decide, by decide +kernel⟩ ⟨rfl, rfl, ⟨Nat.le_of_ble_eq_true rfl, Nat.le_of_ble_eq_true rfl⟩, ⟨Nat.le_of_ble_eq_true rfl, Nat.le_of_ble_eq_true rfl⟩, Nat.le_of_ble_eq_true rfl⟩ (rest := [.ref b18, .int 5, .ref a2]) dX0_init_110 (fun u19 H locs hu20 C => ?_)
  obtain rfl := hu20
  have C : Ck D s (va_A [(q, .inr (0, [.null, .null, .int 0, .int 0, .int 0, .int 0, .int 0, .int 0, .int 0, .int 0, .int 0, .int 0]))] s.heap.size) ([(q, (.inr (0, [.ref a1, .ref a2, .int 0, .int 0, .int 4, .int 0, .int 0, .int 0, .int 0, .int 0, .int 0, .int 0]) : va_E)), (a1, (.inl (ky 1, 10, .inl (upd (upd (upd (upd (upd (upd (upd (upd (upd (upd (fun _ => 0) 0 10) 1 10) 2 10) 3 10) 4 10) 5 10) 6 10) 7 10) 8 10) 9 10)) : va_E)), (a2, (.inl (ky 4, 8, .inr (.inr (.inr (.inr (va_up (va_up (va_up (va_up (va_up (fun _ => none) 0 (some b3)) 1 (some b6)) 2 (some b9)) 3 (some b12)) 4 (some b15)))))) : va_E)), (b3, (.inr (3, [.int 0, .int 0, .int (-1), .int 0, .int 1, .int 0, .int 0, .int 0]) : va_E)), (b6, (.inr (3, [.int 0, .int 0, .int (-1), .int 0, .int 1, .int 0, .int 0, .int 0]) : va_E)), (b9, (.inr (3, [.int 0, .int 0, .int (-1), .int 0, .int 1, .int 0, .int 0, .int 0]) : va_E)), (b12, (.inr (3, [.int 0, .int 0, .int (-1), .int 0, .int 1, .int 0, .int 0, .int 0]) : va_E)), (b15, (.inr (3, [.int 0, .int 0, .int (-1), .int 0, .int 1, .int 0, .int 0, .int 0]) : va_E)), (b18, (.inr (3, [.int 0, .int 0, .int (-1), .int 0, .int 1, .int 0, .int 0, .int 0]) : va_E))]) H locs := C
  refine cAstq F C 2 4 (ci := 3) (vs := [.int 0, .int 0, .int (-1), .int 0, .int 1, .int 0, .int 0, .int 0]) rfl rfl (List.mem_of_getElem? (i := 8) rfl) rfl (by unfold vp_in; decide) dX0_init_113 (fun H locs C => ?_)
  have C : Ck D s (va_A [(q, .inr (0, [.null, .null, .int 0, .int 0, .int 0, .int 0, .int 0, .int 0, .int 0, .int 0, .int 0, .int 0]))] s.heap.size) ([(q, (.inr (0, [.ref a1, .ref a2, .int 0, .int 0, .int 4, .int 0, .int 0, .int 0, .int 0, .int 0, .int 0, .int 0]) : va_E)), (a1, (.inl (ky 1, 10, .inl (upd (upd (upd (upd (upd (upd (upd (upd (upd (upd (fun _ => 0) 0 10) 1 10) 2 10) 3 10) 4 10) 5 10) 6 10) 7 10) 8 10) 9 10)) : va_E)), (a2, (.inl (ky 4, 8, .inr (.inr (.inr (.inr (va_up (va_up (va_up (va_up (va_up (va_up (fun _ => none) 0 (some b3)) 1 (some b6)) 2 (some b9)) 3 (some b12)) 4 (some b15)) 5 (some b18)))))) : va_E)), (b3, (.inr (3, [.int 0, .int 0, .int (-1), .int 0, .int 1, .int 0, .int 0, .int 0]) : va_E)), (b6, (.inr (3, [.int 0, .int 0, .int (-1), .int 0, .int 1, .int 0, .int 0, .int 0]) : va_E)), (b9, (.inr (3, [.int 0, .int 0, .int (-1), .int 0, .int 1, .int 0, .int 0, .int 0]) : va_E)), (b12, (.inr (3, [.int 0, .int 0, .int (-1), .int 0, .int 1, .int 0, .int 0, .int 0]) : va_E)), (b15, (.inr (3, [.int 0, .int 0, .int (-1), .int 0, .int 1, .int 0, .int 0, .int 0]) : va_E)), (b18, (.inr (3, [.int 0, .int 0, .int (-1), .int 0, .int 1, .int 0, .int 0, .int 0]) : va_E))]) H locs := C
  refine lv_iinc (v := 6) (lv' := [(1, .int 6), (0, .ref q)]) F.x F.b dX0_init_114 hl (k := 0) rfl (by decide) (by decide) rfl (fun ls hl => ?_)
  refine lv_goto (tgt := 95) F.x F.b dX0_init_117 (by decide) ?_
  refine lv_iload_n F.x F.b dX0_init_95 rfl (lv_at hl 0 rfl) ?_
  refine lv_bipush (v := 8) F.x F.b dX0_init_96 (by decide) ?_
  refine lv_icmp_ge (tgt := 120) F.x F.b dX0_init_98 (by decide) (fun h9 => absurd h9 (by decide)) (fun _ => ?_)
  refine lv_aload_n F.x F.b dX0_init_101 rfl (lv_at hl 1 rfl) ?_
  refine cGet F C rfl rfl inA0 1 (by decide) q1_86 rfl (v := .ref a2) rfl dX0_init_102 ?_
  refine lv_iload_n F.x F.b dX0_init_105 rfl (lv_at hl 0 rfl) ?_
  refine cNew (ci := 3) F C inA3 tyX3_ok q1_38 q1_40 q1_3 rfl (fs := [.int 0, .int 0, .int 0, .int 0, .int 0, .int 0, .int 0, .int 0]) (fun j hj => by rcases (show j = 0 ∨ j = 1 ∨ j = 2 ∨ j = 3 ∨ j = 4 ∨ j = 5 ∨ j = 6 ∨ j = 7 by omega) with rfl | rfl | rfl | rfl | rfl | rfl | rfl | rfl <;> rfl) (Nat.le_of_ble_eq_true rfl) (Nat.le_of_ble_eq_true rfl) dX0_init_106 (fun b21 H C => ?_)
  refine lv_dup F.x F.b dX0_init_109 rfl ?_
  refine cCallN F C hl (kX3_init l D ky b21) ⟨q1_41, q1_42, q1_3, q1_43⟩ ⟨rfl, by decide, by decide, by decide +kernel⟩ ⟨rfl, rfl, ⟨Nat.le_of_ble_eq_true rfl, Nat.le_of_ble_eq_true rfl⟩, ⟨Nat.le_of_ble_eq_true rfl, Nat.le_of_ble_eq_true rfl⟩, Nat.le_of_ble_eq_true rfl⟩ (rest := [.ref b21, .int 6, .ref a2]) dX0_init_110 (fun u22 H locs hu23 C => ?_)
  obtain rfl := hu23
  have C : Ck D s (va_A [(q, .inr (0, [.null, .null, .int 0, .int 0, .int 0, .int 0, .int 0, .int 0, .int 0, .int 0, .int 0, .int 0]))] s.heap.size) ([(q, (.inr (0, [.ref a1, .ref a2, .int 0, .int 0, .int 4, .int 0, .int 0, .int 0, .int 0, .int 0, .int 0, .int 0]) : va_E)), (a1, (.inl (ky 1, 10, .inl (upd (upd (upd (upd (upd (upd (upd (upd (upd (upd (fun _ => 0) 0 10) 1 10) 2 10) 3 10) 4 10) 5 10) 6 10) 7 10) 8 10) 9 10)) : va_E)), (a2, (.inl (ky 4, 8, .inr (.inr (.inr (.inr (va_up (va_up (va_up (va_up (va_up (va_up (fun _ => none) 0 (some b3)) 1 (some b6)) 2 (some b9)) 3 (some b12)) 4 (some b15)) 5 (some b18)))))) : va_E)), (b3, (.inr (3, [.int 0, .int 0, .int (-1), .int 0, .int 1, .int 0, .int 0, .int 0]) : va_E)), (b6, (.inr (3, [.int 0, .int 0, .int (-1), .int 0, .int 1, .int 0, .int 0, .int 0]) : va_E)), (b9, (.inr (3, [.int 0, .int 0, .int (-1), .int 0, .int 1, .int 0, .int 0, .int 0]) : va_E)), (b12, (.inr (3, [.int 0, .int 0, .int (-1), .int 0, .int 1, .int 0, .int 0, .int 0]) : va_E)), (b15, (.inr (3, [.int 0, .int 0, .int (-1), .int 0, .int 1, .int 0, .int 0, .int 0]) : va_E)), (b18, (.inr (3, [.int 0, .int 0, .int (-1), .int 0, .int 1, .int 0, .int 0, .int 0]) : va_E)), (b21, (.inr (3, [.int 0, .int 0, .int (-1), .int 0, .int 1, .int 0, .int 0, .int 0]) : va_E))]) H locs := C
  refine cAstq F C 2 4 (ci := 3) (vs := [.int 0, .int 0, .int (-1), .int 0, .int 1, .int 0, .int 0, .int 0]) rfl rfl (List.mem_of_getElem? (i := 9) rfl) rfl (by unfold vp_in; decide) dX0_init_113 (fun H locs C => ?_)
  have C : Ck D s (va_A [(q, .inr (0, [.null, .null, .int 0, .int 0, .int 0, .int 0, .int 0, .int 0, .int 0, .int 0, .int 0, .int 0]))] s.heap.size) ([(q, (.inr (0, [.ref a1, .ref a2, .int 0, .int 0, .int 4, .int 0, .int 0, .int 0, .int 0, .int 0, .int 0, .int 0]) : va_E)), (a1, (.inl (ky 1, 10, .inl (upd (upd (upd (upd (upd (upd (upd (upd (upd (upd (fun _ => 0) 0 10) 1 10) 2 10) 3 10) 4 10) 5 10) 6 10) 7 10) 8 10) 9 10)) : va_E)), (a2, (.inl (ky 4, 8, .inr (.inr (.inr (.inr (va_up (va_up (va_up (va_up (va_up (va_up (va_up (fun _ => none) 0 (some b3)) 1 (some b6)) 2 (some b9)) 3 (some b12)) 4 (some b15)) 5 (some b18)) 6 (some b21)))))) : va_E)), (b3, (.inr (3, [.int 0, .int 0, .int (-1), .int 0, .int 1, .int 0, .int 0, .int 0]) : va_E)), (b6, (.inr (3, [.int 0, .int 0, .int (-1), .int 0, .int 1, .int 0, .int 0, .int 0]) : va_E)), (b9, (.inr (3, [.int 0, .int 0, .int (-1), .int 0, .int 1, .int 0, .int 0, .int 0]) : va_E)), (b12, (.inr (3, [.int 0, .int 0, .int (-1), .int 0, .int 1, .int 0, .int 0, .int 0]) : va_E)), (b15, (.inr (3, [.int 0, .int 0, .int (-1), .int 0, .int 1, .int 0, .int 0, .int 0]) : va_E)), (b18, (.inr (3, [.int 0, .int 0, .int (-1), .int 0, .int 1, .int 0, .int 0, .int 0]) : va_E)), (b21, (.inr (3, [.int 0, .int 0, .int (-1), .int 0, .int 1, .int 0, .int 0, .int 0]) : va_E))]) H locs := C
  refine lv_iinc (v := 7) (lv' := [(1, .int 7), (0, .ref q)]) F.x F.b dX0_init_114 hl (k := 0) rfl (by decide) (by decide) rfl (fun ls hl => ?_)
  refine lv_goto (tgt := 95) F.x F.b dX0_init_117 (by decide) ?_
  refine lv_iload_n F.x F.b dX0_init_95 rfl (lv_at hl 0 rfl) ?_
  refine lv_bipush (v := 8) F.x F.b dX0_init_96 (by decide) ?_
  refine lv_icmp_ge (tgt := 120) F.x F.b dX0_init_98 (by decide) (fun h9 => absurd h9 (by decide)) (fun _ => ?_)
  refine lv_aload_n F.x F.b dX0_init_101 rfl (lv_at hl 1 rfl) ?_
  refine cGet F C rfl rfl inA0 1 (by decide) q1_86 rfl (v := .ref a2) rfl dX0_init_102 ?_
  refine lv_iload_n F.x F.b dX0_init_105 rfl (lv_at hl 0 rfl) ?_
  refine cNew (ci := 3) F C inA3 tyX3_ok q1_38 q1_40 q1_3 rfl (fs := [.int 0, .int 0, .int 0, .int 0, .int 0, .int 0, .int 0, .int 0]) (fun j hj => by rcases (show j = 0 ∨ j = 1 ∨ j = 2 ∨ j = 3 ∨ j = 4 ∨ j = 5 ∨ j = 6 ∨ j = 7 by omega) with rfl | rfl | rfl | rfl | rfl | rfl | rfl | rfl <;> rfl) (Nat.le_of_ble_eq_true rfl) (Nat.le_of_ble_eq_true rfl) dX0_init_106 (fun b24 H C => ?_)
  refine lv_dup F.x F.b dX0_init_109 rfl ?_
  refine cCallN F C hl (kX3_init l D ky b24) ⟨q1_41, q1_42, q1_3, q1_43⟩ ⟨rfl, by decide, by decide, by decide +kernel⟩ ⟨rfl, rfl, ⟨Nat.le_of_ble_eq_true rfl, Nat.le_of_ble_eq_true rfl⟩, ⟨Nat.le_of_ble_eq_true rfl, Nat.le_of_ble_eq_true rfl⟩, Nat.le_of_ble_eq_true rfl⟩ (rest := [.ref b24, .int 7, .ref a2]) dX0_init_110 (fun u25 H locs hu26 C => ?_)
  obtain rfl := hu26
  have C : Ck D s (va_A [(q, .inr (0, [.null, .null, .int 0, .int 0, .int 0, .int 0, .int 0, .int 0, .int 0, .int 0, .int 0, .int 0]))] s.heap.size) ([(q, (.inr (0, [.ref a1, .ref a2, .int 0, .int 0, .int 4, .int 0, .int 0, .int 0, .int 0, .int 0, .int 0, .int 0]) : va_E)), (a1, (.inl (ky 1, 10, .inl (upd (upd (upd (upd (upd (upd (upd (upd (upd (upd (fun _ => 0) 0 10) 1 10) 2 10) 3 10) 4 10) 5 10) 6 10) 7 10) 8 10) 9 10)) : va_E)), (a2, (.inl (ky 4, 8, .inr (.inr (.inr (.inr (va_up (va_up (va_up (va_up (va_up (va_up (va_up (fun _ => none) 0 (some b3)) 1 (some b6)) 2 (some b9)) 3 (some b12)) 4 (some b15)) 5 (some b18)) 6 (some b21)))))) : va_E)), (b3, (.inr (3, [.int 0, .int 0, .int (-1), .int 0, .int 1, .int 0, .int 0, .int 0]) : va_E)), (b6, (.inr (3, [.int 0, .int 0, .int (-1), .int 0, .int 1, .int 0, .int 0, .int 0]) : va_E)), (b9, (.inr (3, [.int 0, .int 0, .int (-1), .int 0, .int 1, .int 0, .int 0, .int 0]) : va_E)), (b12, (.inr (3, [.int 0, .int 0, .int (-1), .int 0, .int 1, .int 0, .int 0, .int 0]) : va_E)), (b15, (.inr (3, [.int 0, .int 0, .int (-1), .int 0, .int 1, .int 0, .int 0, .int 0]) : va_E)), (b18, (.inr (3, [.int 0, .int 0, .int (-1), .int 0, .int 1, .int 0, .int 0, .int 0]) : va_E)), (b21, (.inr (3, [.int 0, .int 0, .int (-1), .int 0, .int 1, .int 0, .int 0, .int 0]) : va_E)), (b24, (.inr (3, [.int 0, .int 0, .int (-1), .int 0, .int 1, .int 0, .int 0, .int 0]) : va_E))]) H locs := C
  refine cAstq F C 2 4 (ci := 3) (vs := [.int 0, .int 0, .int (-1), .int 0, .int 1, .int 0, .int 0, .int 0]) rfl rfl (List.mem_of_getElem? (i := 10) rfl) rfl (by unfold vp_in; decide) dX0_init_113 (fun H locs C => ?_)
  have C : Ck D s (va_A [(q, .inr (0, [.null, .null, .int 0, .int 0, .int 0, .int 0, .int 0, .int 0, .int 0, .int 0, .int 0, .int 0]))] s.heap.size) ([(q, (.inr (0, [.ref a1, .ref a2, .int 0, .int 0, .int 4, .int 0, .int 0, .int 0, .int 0, .int 0, .int 0, .int 0]) : va_E)), (a1, (.inl (ky 1, 10, .inl (upd (upd (upd (upd (upd (upd (upd (upd (upd (upd (fun _ => 0) 0 10) 1 10) 2 10) 3 10) 4 10) 5 10) 6 10) 7 10) 8 10) 9 10)) : va_E)), (a2, (.inl (ky 4, 8, .inr (.inr (.inr (.inr (va_up (va_up (va_up (va_up (va_up (va_up (va_up (va_up (fun _ => none) 0 (some b3)) 1 (some b6)) 2 (some b9)) 3 (some b12)) 4 (some b15)) 5 (some b18)) 6 (some b21)) 7 (some b24)))))) : va_E)), (b3, (.inr (3, [.int 0, .int 0, .int (-1), .int 0, .int 1, .int 0, .int 0, .int 0]) : va_E)), (b6, (.inr (3, [.int 0, .int 0, .int (-1), .int 0, .int 1, .int 0, .int 0, .int 0]) : va_E)), (b9, (.inr (3, [.int 0, .int 0, .int (-1), .int 0, .int 1, .int 0, .int 0, .int 0]) : va_E)), (b12, (.inr (3, [.int 0, .int 0, .int (-1), .int 0, .int 1, .int 0, .int 0, .int 0]) : va_E)), (b15, (.inr (3, [.int 0, .int 0, .int (-1), .int 0, .int 1, .int 0, .int 0, .int 0]) : va_E)), (b18, (.inr (3, [.int 0, .int 0, .int (-1), .int 0, .int 1, .int 0, .int 0, .int 0]) : va_E)), (b21, (.inr (3, [.int 0, .int 0, .int (-1), .int 0, .int 1, .int 0, .int 0, .int 0]) : va_E)), (b24, (.inr (3, [.int 0, .int 0, .int (-1), .int 0, .int 1, .int 0, .int 0, .int 0]) : va_E))]) H locs := C
  refine lv_iinc (v := 8) (lv' := [(1, .int 8), (0, .ref q)]) F.x F.b dX0_init_114 hl (k := 0) rfl (by decide) (by decide) rfl (fun ls hl => ?_)
  refine lv_goto (tgt := 95) F.x F.b dX0_init_117 (by decide) ?_
  refine lv_iload_n F.x F.b dX0_init_95 rfl (lv_at hl 0 rfl) ?_
  refine lv_bipush (v := 8) F.x F.b dX0_init_96 (by decide) ?_
  refine lv_icmp_ge (tgt := 120) F.x F.b dX0_init_98 (by decide) (fun _ => ?_) (fun h9 => absurd (by decide) h9)
  refine W.widen (k := 10) (n := 82) (Nat.le_of_ble_eq_true rfl) (Nat.le_of_ble_eq_true rfl) ?_
  obtain ⟨tr, etr⟩ : ∃ tr : Nat → Nat, tr = (fun k => match k with | 0 => b3 | 1 => b6 | 2 => b9 | 3 => b12 | 4 => b15 | 5 => b18 | 6 => b21 | _ => b24) := ⟨_, rfl⟩
  have hP := P_setat C.1 2 (q := (a2, .inl (ky 4, 8, .inr (.inr (.inr (.inr (fun k => some (tr k)))))))) (at_congq (fun k hk => ?_) (C.1 2 _ rfl))
  · have hD := C.2.1.set (e := .inl (ky 4, 8, .inr (.inr (.inr (.inr (fun k => some (tr k))))))) (p := 2) rfl
    exact cRet F hr ⟨hP, hD, C.2.2⟩ ⟨a1, a2, tr, (upd (upd (upd (upd (upd (upd (upd (upd (upd (upd (fun _ => 0) 0 10) 1 10) 2 10) 3 10) 4 10) 5 10) 6 10) 7 10) 8 10) 9 10), fun k hk => by rcases (show k = 0 ∨ k = 1 ∨ k = 2 ∨ k = 3 ∨ k = 4 ∨ k = 5 ∨ k = 6 ∨ k = 7 ∨ k = 8 ∨ k = 9 by omega) with rfl | rfl | rfl | rfl | rfl | rfl | rfl | rfl | rfl | rfl <;> rfl, by rw [etr]; rfl⟩ dX0_init_120
  · rw [etr]
    rcases (show k = 0 ∨ k = 1 ∨ k = 2 ∨ k = 3 ∨ k = 4 ∨ k = 5 ∨ k = 6 ∨ k = 7 by omega) with rfl | rfl | rfl | rfl | rfl | rfl | rfl | rfl <;> rfl
def shQ (ky : Nat → ClassId) (q : Nat) : va_W → Prop := fun sh => ∃ tx : Nat, sh = [(q, .inr (2, [.ref tx, .int 0, .int 0, .int (-1)])), (tx, .inl (ky 0, 60, .inl (fun _ => 0)))]
def rmX2_init : Room := { frames := 1, cells := 1, slots := 60, locals := 12 }
set_option maxRecDepth 100000 in
set_option maxHeartbeats 4000000 in
theorem kX2_init (l : Launch) (D : va_G) (ky : Nat → ClassId) (q : Nat) : CC l D ky yX2_init cX2_init 1 rmX2_init 1 60 q (.inr (2, [.null, .int 0, .int 0, .int 0])) (shQ ky q) := by
  refine CC.of (by decide) rfl (Nat.le_of_ble_eq_true rfl) (fun p e s m args below meth c ls H locs F hin hr C hl => ?_)
  have hl : lv_has ls 1 [(0, .ref q)] := hl
  refine lv_aload_n F.x F.b dX2_init_0 rfl (lv_at hl 0 rfl) ?_
  refine W.objInit F.x F.b F.ow (F.ts _ q1_160) (F.ts _ q1_30) (F.ts _ q1_31) rfl (by rw [F.ml]; exact hl.1) rfl dX2_init_1 (Nat.le_of_ble_eq_true rfl) (Nat.le_of_ble_eq_true rfl) ?_
  refine W.eq (g2 := F0 m 4 ls []) rfl ?_
  refine lv_aload_n F.x F.b dX2_init_4 rfl (lv_at hl 0 rfl) ?_
  refine lv_bipush (v := 60) F.x F.b dX2_init_5 (by decide) ?_
  refine cNewa F C (atype := .char) (ty := .char) rfl q1_176 0 rfl (fun cA cB h1 h2 => Option.some.inj (h1.symm.trans h2)) (a0 := (60, .inl (fun _ => 0))) (fun _ => rfl) (N' := 60) (by decide) (by decide) (Nat.le_of_ble_eq_true rfl) (Nat.le_of_ble_eq_true rfl) (Nat.le_of_ble_eq_true rfl) dX2_init_7 (fun a1 H C => ?_)
  have C : Ck D s (va_A [(q, .inr (2, [.null, .int 0, .int 0, .int 0]))] s.heap.size) ([(q, (.inr (2, [.null, .int 0, .int 0, .int 0]) : va_E)), (a1, (.inl (ky 0, 60, .inl (fun _ => 0)) : va_E))]) H locs := C
  refine cPutF F hin C rfl rfl inA2 tyX2_ok nmX2 0 (by decide) q1_161 rfl rfl rfl (ty := .array .char) (v := .ref a1) (by decide +kernel) rfl rfl (Nat.le_of_ble_eq_true rfl) dX2_init_9 (fun H locs C => ?_)
  have C : Ck D s (va_A [(q, .inr (2, [.null, .int 0, .int 0, .int 0]))] s.heap.size) ([(q, (.inr (2, [.ref a1, .int 0, .int 0, .int 0]) : va_E)), (a1, (.inl (ky 0, 60, .inl (fun _ => 0)) : va_E))]) H locs := C
  refine lv_aload_n F.x F.b dX2_init_12 rfl (lv_at hl 0 rfl) ?_
  refine lv_iconst (v := 0) F.x F.b dX2_init_13 (by decide) ?_
  refine cPut F C rfl rfl inA2 tyX2_ok nmX2 1 (by decide) q1_162 rfl rfl (ty := .int) (v := .int 0) (by decide +kernel) rfl rfl (Nat.le_of_ble_eq_true rfl) dX2_init_14 (fun H locs C => ?_)
  have C : Ck D s (va_A [(q, .inr (2, [.null, .int 0, .int 0, .int 0]))] s.heap.size) ([(q, (.inr (2, [.ref a1, .int 0, .int 0, .int 0]) : va_E)), (a1, (.inl (ky 0, 60, .inl (fun _ => 0)) : va_E))]) H locs := C
  refine lv_aload_n F.x F.b dX2_init_17 rfl (lv_at hl 0 rfl) ?_
  refine lv_iconst (v := 0) F.x F.b dX2_init_18 (by decide) ?_
  refine cPut F C rfl rfl inA2 tyX2_ok nmX2 2 (by decide) q1_164 rfl rfl (ty := .int) (v := .int 0) (by decide +kernel) rfl rfl (Nat.le_of_ble_eq_true rfl) dX2_init_19 (fun H locs C => ?_)
  have C : Ck D s (va_A [(q, .inr (2, [.null, .int 0, .int 0, .int 0]))] s.heap.size) ([(q, (.inr (2, [.ref a1, .int 0, .int 0, .int 0]) : va_E)), (a1, (.inl (ky 0, 60, .inl (fun _ => 0)) : va_E))]) H locs := C
  refine lv_aload_n F.x F.b dX2_init_22 rfl (lv_at hl 0 rfl) ?_
  refine lv_iconst (v := -1) F.x F.b dX2_init_23 (by decide) ?_
  refine cPut F C rfl rfl inA2 tyX2_ok nmX2 3 (by decide) q1_165 rfl rfl (ty := .int) (v := .int (-1)) (by decide +kernel) rfl rfl (Nat.le_of_ble_eq_true rfl) dX2_init_24 (fun H locs C => ?_)
  have C : Ck D s (va_A [(q, .inr (2, [.null, .int 0, .int 0, .int 0]))] s.heap.size) ([(q, (.inr (2, [.ref a1, .int 0, .int 0, .int (-1)]) : va_E)), (a1, (.inl (ky 0, 60, .inl (fun _ => 0)) : va_E))]) H locs := C
  refine W.widen (k := 1) (n := 60) (Nat.le_of_ble_eq_true rfl) (Nat.le_of_ble_eq_true rfl) ?_
  exact cRet F hr C ⟨a1, rfl⟩ dX2_init_27
def shH (ky : Nat → ClassId) (q : Nat) : va_W → Prop := fun sh => ∃ (b : Nat) (fo : Nat → Nat) (u : Nat → va_W), (∀ k, k < 8 → shF ky (fo k) (u k)) ∧ sh = (q, .inr (1, [.ref b, .int 0, .int 0])) :: (b, .inl (ky 3, 8, .inr (.inr (.inr (.inr (fun k => some (fo k))))))) :: (u 0 ++ u 1 ++ u 2 ++ u 3 ++ u 4 ++ u 5 ++ u 6 ++ u 7)
def rmX1_init : Room := { frames := 3, cells := 89, slots := 760, locals := 53 }
set_option maxRecDepth 100000 in
set_option maxHeartbeats 4000000 in
theorem kX1_init (l : Launch) (D : va_G) (ky : Nat → ClassId) (q : Nat) : CC l D ky yX1_init cX1_init 2 rmX1_init 89 760 q (.inr (1, [.null, .int 0, .int 0])) (shH ky q) := by
  refine CC.of (by decide) rfl (Nat.le_of_ble_eq_true rfl) (fun p e s m args below meth c ls H locs F hin hr C hl => ?_)
  have hl : lv_has ls 2 [(0, .ref q)] := hl
  refine lv_aload_n F.x F.b dX1_init_0 rfl (lv_at hl 0 rfl) ?_
  refine W.objInit F.x F.b F.ow (F.ts _ q1_140) (F.ts _ q1_30) (F.ts _ q1_31) rfl (by rw [F.ml]; exact hl.1) rfl dX1_init_1 (Nat.le_of_ble_eq_true rfl) (Nat.le_of_ble_eq_true rfl) ?_
  refine W.eq (g2 := F0 m 4 ls []) rfl ?_
  refine lv_aload_n F.x F.b dX1_init_4 rfl (lv_at hl 0 rfl) ?_
  refine lv_bipush (v := 8) F.x F.b dX1_init_5 (by decide) ?_
  refine cNewq F C q1_141 F.a2 3 rfl (N' := 8) (by decide) (by decide) (Nat.le_of_ble_eq_true rfl) (Nat.le_of_ble_eq_true rfl) (Nat.le_of_ble_eq_true rfl) dX1_init_7 (fun a1 H C => ?_)
  have C : Ck D s (va_A [(q, .inr (1, [.null, .int 0, .int 0]))] s.heap.size) ([(q, (.inr (1, [.null, .int 0, .int 0]) : va_E)), (a1, (.inl (ky 3, 8, .inr (.inr (.inr (.inr (fun _ => none))))) : va_E))]) H locs := C
  refine cPutF F hin C rfl rfl inA1 tyX1_ok nmX1 0 (by decide) q1_144 rfl rfl rfl (ty := .array (.object "FordToll$Ford")) (v := .ref a1) (by decide +kernel) rfl rfl (Nat.le_of_ble_eq_true rfl) dX1_init_10 (fun H locs C => ?_)
  have C : Ck D s (va_A [(q, .inr (1, [.null, .int 0, .int 0]))] s.heap.size) ([(q, (.inr (1, [.ref a1, .int 0, .int 0]) : va_E)), (a1, (.inl (ky 3, 8, .inr (.inr (.inr (.inr (fun _ => none))))) : va_E))]) H locs := C
  refine lv_aload_n F.x F.b dX1_init_13 rfl (lv_at hl 0 rfl) ?_
  refine lv_iconst (v := 0) F.x F.b dX1_init_14 (by decide) ?_
  refine cPut F C rfl rfl inA1 tyX1_ok nmX1 1 (by decide) q1_145 rfl rfl (ty := .int) (v := .int 0) (by decide +kernel) rfl rfl (Nat.le_of_ble_eq_true rfl) dX1_init_15 (fun H locs C => ?_)
  have C : Ck D s (va_A [(q, .inr (1, [.null, .int 0, .int 0]))] s.heap.size) ([(q, (.inr (1, [.ref a1, .int 0, .int 0]) : va_E)), (a1, (.inl (ky 3, 8, .inr (.inr (.inr (.inr (fun _ => none))))) : va_E))]) H locs := C
  refine lv_aload_n F.x F.b dX1_init_18 rfl (lv_at hl 0 rfl) ?_
  refine lv_iconst (v := 0) F.x F.b dX1_init_19 (by decide) ?_
  refine cPut F C rfl rfl inA1 tyX1_ok nmX1 2 (by decide) q1_146 rfl rfl (ty := .int) (v := .int 0) (by decide +kernel) rfl rfl (Nat.le_of_ble_eq_true rfl) dX1_init_20 (fun H locs C => ?_)
  have C : Ck D s (va_A [(q, .inr (1, [.null, .int 0, .int 0]))] s.heap.size) ([(q, (.inr (1, [.ref a1, .int 0, .int 0]) : va_E)), (a1, (.inl (ky 3, 8, .inr (.inr (.inr (.inr (fun _ => none))))) : va_E))]) H locs := C
  refine lv_iconst (v := 0) F.x F.b dX1_init_23 (by decide) ?_
  refine lv_istore_n (lv' := [(1, .int 0), (0, .ref q)]) F.x F.b dX1_init_24 rfl hl (by decide) rfl (fun ls hl => ?_)
  refine lv_iload_n F.x F.b dX1_init_25 rfl (lv_at hl 0 rfl) ?_
  refine lv_bipush (v := 8) F.x F.b dX1_init_26 (by decide) ?_
  refine lv_icmp_ge (tgt := 50) F.x F.b dX1_init_28 (by decide) (fun h9 => absurd h9 (by decide)) (fun _ => ?_)
  refine lv_aload_n F.x F.b dX1_init_31 rfl (lv_at hl 1 rfl) ?_
  refine cGet F C rfl rfl inA1 0 (by decide) q1_144 rfl (v := .ref a1) rfl dX1_init_32 ?_
  refine lv_iload_n F.x F.b dX1_init_35 rfl (lv_at hl 0 rfl) ?_
  refine cNew (ci := 0) F C inA0 tyX0_ok q1_141 q1_33 q1_2 rfl (fs := [.null, .null, .int 0, .int 0, .int 0, .int 0, .int 0, .int 0, .int 0, .int 0, .int 0, .int 0]) (fun j hj => by rcases (show j = 0 ∨ j = 1 ∨ j = 2 ∨ j = 3 ∨ j = 4 ∨ j = 5 ∨ j = 6 ∨ j = 7 ∨ j = 8 ∨ j = 9 ∨ j = 10 ∨ j = 11 by omega) with rfl | rfl | rfl | rfl | rfl | rfl | rfl | rfl | rfl | rfl | rfl | rfl <;> rfl) (Nat.le_of_ble_eq_true rfl) (Nat.le_of_ble_eq_true rfl) dX1_init_36 (fun b2 H C => ?_)
  refine lv_dup F.x F.b dX1_init_39 rfl ?_
  refine cCall F C hl (kX0_init l D ky b2) ⟨q1_143, q1_35, q1_2, q1_36⟩ ⟨rfl, by decide, by decide, by decide +kernel⟩ ⟨rfl, rfl, ⟨Nat.le_of_ble_eq_true rfl, Nat.le_of_ble_eq_true rfl⟩, ⟨Nat.le_of_ble_eq_true rfl, Nat.le_of_ble_eq_true rfl⟩, Nat.le_of_ble_eq_true rfl⟩ (rest := [.ref b2, .int 0, .ref a1]) dX1_init_40 (fun u3 H locs hu4 C => ?_)
  have C : Ck D s (va_A [(q, .inr (1, [.null, .int 0, .int 0]))] s.heap.size) ((q, (.inr (1, [.ref a1, .int 0, .int 0]) : va_E)) :: (a1, (.inl (ky 3, 8, .inr (.inr (.inr (.inr (fun _ => none))))) : va_E)) :: u3) H locs := C
  obtain ⟨vs9, hv9⟩ := shF_mem hu4
  refine cAstq F C 1 3 (ci := 0) (vs := vs9) rfl rfl (List.mem_cons_of_mem _ (List.mem_cons_of_mem _ hv9)) rfl (by unfold vp_in; decide) dX1_init_43 (fun H locs C => ?_)
  have C : Ck D s (va_A [(q, .inr (1, [.null, .int 0, .int 0]))] s.heap.size) ((q, (.inr (1, [.ref a1, .int 0, .int 0]) : va_E)) :: (a1, (.inl (ky 3, 8, .inr (.inr (.inr (.inr (va_up (fun _ => none) 0 (some b2)))))) : va_E)) :: u3) H locs := C
  refine lv_iinc (v := 1) (lv' := [(1, .int 1), (0, .ref q)]) F.x F.b dX1_init_44 hl (k := 0) rfl (by decide) (by decide) rfl (fun ls hl => ?_)
  refine lv_goto (tgt := 25) F.x F.b dX1_init_47 (by decide) ?_
  refine lv_iload_n F.x F.b dX1_init_25 rfl (lv_at hl 0 rfl) ?_
  refine lv_bipush (v := 8) F.x F.b dX1_init_26 (by decide) ?_
  refine lv_icmp_ge (tgt := 50) F.x F.b dX1_init_28 (by decide) (fun h9 => absurd h9 (by decide)) (fun _ => ?_)
  refine lv_aload_n F.x F.b dX1_init_31 rfl (lv_at hl 1 rfl) ?_
  refine cGet F C rfl rfl inA1 0 (by decide) q1_144 rfl (v := .ref a1) rfl dX1_init_32 ?_
  refine lv_iload_n F.x F.b dX1_init_35 rfl (lv_at hl 0 rfl) ?_
  refine cNew (ci := 0) F C inA0 tyX0_ok q1_141 q1_33 q1_2 rfl (fs := [.null, .null, .int 0, .int 0, .int 0, .int 0, .int 0, .int 0, .int 0, .int 0, .int 0, .int 0]) (fun j hj => by rcases (show j = 0 ∨ j = 1 ∨ j = 2 ∨ j = 3 ∨ j = 4 ∨ j = 5 ∨ j = 6 ∨ j = 7 ∨ j = 8 ∨ j = 9 ∨ j = 10 ∨ j = 11 by omega) with rfl | rfl | rfl | rfl | rfl | rfl | rfl | rfl | rfl | rfl | rfl | rfl <;> rfl) (Nat.le_of_ble_eq_true rfl) (Nat.le_of_ble_eq_true rfl) dX1_init_36 (fun b5 H C => ?_)
  refine lv_dup F.x F.b dX1_init_39 rfl ?_
  refine cCall F C hl (kX0_init l D ky b5) ⟨q1_143, q1_35, q1_2, q1_36⟩ ⟨rfl, by decide, by decide, by decide +kernel⟩ ⟨rfl, rfl, ⟨Nat.le_of_ble_eq_true rfl, Nat.le_of_ble_eq_true rfl⟩, ⟨Nat.le_of_ble_eq_true rfl, Nat.le_of_ble_eq_true rfl⟩, Nat.le_of_ble_eq_true rfl⟩ (rest := [.ref b5, .int 1, .ref a1]) dX1_init_40 (fun u6 H locs hu7 C => ?_)
  obtain ⟨d8, ed8⟩ : ∃ z : va_W, z = u3 ++ u6 := ⟨_, rfl⟩
  have C : Ck D s (va_A [(q, .inr (1, [.null, .int 0, .int 0]))] s.heap.size) ((q, (.inr (1, [.ref a1, .int 0, .int 0]) : va_E)) :: (a1, (.inl (ky 3, 8, .inr (.inr (.inr (.inr (va_up (fun _ => none) 0 (some b2)))))) : va_E)) :: (u3 ++ u6)) H locs := C
  rw [← ed8] at C
  have C : Ck D s (va_A [(q, .inr (1, [.null, .int 0, .int 0]))] s.heap.size) ((q, (.inr (1, [.ref a1, .int 0, .int 0]) : va_E)) :: (a1, (.inl (ky 3, 8, .inr (.inr (.inr (.inr (va_up (fun _ => none) 0 (some b2)))))) : va_E)) :: d8) H locs := C
  obtain ⟨vs9, hv9⟩ := shF_mem hu7
  refine cAstq F C 1 3 (ci := 0) (vs := vs9) rfl rfl (List.mem_cons_of_mem _ (List.mem_cons_of_mem _ (by rw [ed8]; exact List.mem_append_right _ hv9))) rfl (by unfold vp_in; decide) dX1_init_43 (fun H locs C => ?_)
  have C : Ck D s (va_A [(q, .inr (1, [.null, .int 0, .int 0]))] s.heap.size) ((q, (.inr (1, [.ref a1, .int 0, .int 0]) : va_E)) :: (a1, (.inl (ky 3, 8, .inr (.inr (.inr (.inr (va_up (va_up (fun _ => none) 0 (some b2)) 1 (some b5)))))) : va_E)) :: d8) H locs := C
  refine lv_iinc (v := 2) (lv' := [(1, .int 2), (0, .ref q)]) F.x F.b dX1_init_44 hl (k := 0) rfl (by decide) (by decide) rfl (fun ls hl => ?_)
  refine lv_goto (tgt := 25) F.x F.b dX1_init_47 (by decide) ?_
  refine lv_iload_n F.x F.b dX1_init_25 rfl (lv_at hl 0 rfl) ?_
  refine lv_bipush (v := 8) F.x F.b dX1_init_26 (by decide) ?_
  refine lv_icmp_ge (tgt := 50) F.x F.b dX1_init_28 (by decide) (fun h9 => absurd h9 (by decide)) (fun _ => ?_)
  refine lv_aload_n F.x F.b dX1_init_31 rfl (lv_at hl 1 rfl) ?_
  refine cGet F C rfl rfl inA1 0 (by decide) q1_144 rfl (v := .ref a1) rfl dX1_init_32 ?_
  refine lv_iload_n F.x F.b dX1_init_35 rfl (lv_at hl 0 rfl) ?_
  refine cNew (ci := 0) F C inA0 tyX0_ok q1_141 q1_33 q1_2 rfl (fs := [.null, .null, .int 0, .int 0, .int 0, .int 0, .int 0, .int 0, .int 0, .int 0, .int 0, .int 0]) (fun j hj => by rcases (show j = 0 ∨ j = 1 ∨ j = 2 ∨ j = 3 ∨ j = 4 ∨ j = 5 ∨ j = 6 ∨ j = 7 ∨ j = 8 ∨ j = 9 ∨ j = 10 ∨ j = 11 by omega) with rfl | rfl | rfl | rfl | rfl | rfl | rfl | rfl | rfl | rfl | rfl | rfl <;> rfl) (Nat.le_of_ble_eq_true rfl) (Nat.le_of_ble_eq_true rfl) dX1_init_36 (fun b9 H C => ?_)
  refine lv_dup F.x F.b dX1_init_39 rfl ?_
  refine cCall F C hl (kX0_init l D ky b9) ⟨q1_143, q1_35, q1_2, q1_36⟩ ⟨rfl, by decide, by decide, by decide +kernel⟩ ⟨rfl, rfl, ⟨Nat.le_of_ble_eq_true rfl, Nat.le_of_ble_eq_true rfl⟩, ⟨Nat.le_of_ble_eq_true rfl, Nat.le_of_ble_eq_true rfl⟩, Nat.le_of_ble_eq_true rfl⟩ (rest := [.ref b9, .int 2, .ref a1]) dX1_init_40 (fun u10 H locs hu11 C => ?_)
  obtain ⟨d12, ed12⟩ : ∃ z : va_W, z = d8 ++ u10 := ⟨_, rfl⟩
  have C : Ck D s (va_A [(q, .inr (1, [.null, .int 0, .int 0]))] s.heap.size) ((q, (.inr (1, [.ref a1, .int 0, .int 0]) : va_E)) :: (a1, (.inl (ky 3, 8, .inr (.inr (.inr (.inr (va_up (va_up (fun _ => none) 0 (some b2)) 1 (some b5)))))) : va_E)) :: (d8 ++ u10)) H locs := C
  rw [← ed12] at C
  have C : Ck D s (va_A [(q, .inr (1, [.null, .int 0, .int 0]))] s.heap.size) ((q, (.inr (1, [.ref a1, .int 0, .int 0]) : va_E)) :: (a1, (.inl (ky 3, 8, .inr (.inr (.inr (.inr (va_up (va_up (fun _ => none) 0 (some b2)) 1 (some b5)))))) : va_E)) :: d12) H locs := C
  obtain ⟨vs9, hv9⟩ := shF_mem hu11
  refine cAstq F C 1 3 (ci := 0) (vs := vs9) rfl rfl (List.mem_cons_of_mem _ (List.mem_cons_of_mem _ (by rw [ed12]; exact List.mem_append_right _ hv9))) rfl (by unfold vp_in; decide) dX1_init_43 (fun H locs C => ?_)
  have C : Ck D s (va_A [(q, .inr (1, [.null, .int 0, .int 0]))] s.heap.size) ((q, (.inr (1, [.ref a1, .int 0, .int 0]) : va_E)) :: (a1, (.inl (ky 3, 8, .inr (.inr (.inr (.inr (va_up (va_up (va_up (fun _ => none) 0 (some b2)) 1 (some b5)) 2 (some b9)))))) : va_E)) :: d12) H locs := C
  refine lv_iinc (v := 3) (lv' := [(1, .int 3), (0, .ref q)]) F.x F.b dX1_init_44 hl (k := 0) rfl (by decide) (by decide) rfl (fun ls hl => ?_)
  refine lv_goto (tgt := 25) F.x F.b dX1_init_47 (by decide) ?_
  refine lv_iload_n F.x F.b dX1_init_25 rfl (lv_at hl 0 rfl) ?_
  refine lv_bipush (v := 8) F.x F.b dX1_init_26 (by decide) ?_
  refine lv_icmp_ge (tgt := 50) F.x F.b dX1_init_28 (by decide) (fun h9 => absurd h9 (by decide)) (fun _ => ?_)
  refine lv_aload_n F.x F.b dX1_init_31 rfl (lv_at hl 1 rfl) ?_
  refine cGet F C rfl rfl inA1 0 (by decide) q1_144 rfl (v := .ref a1) rfl dX1_init_32 ?_
  refine lv_iload_n F.x F.b dX1_init_35 rfl (lv_at hl 0 rfl) ?_
  refine cNew (ci := 0) F C inA0 tyX0_ok q1_141 q1_33 q1_2 rfl (fs := [.null, .null, .int 0, .int 0, .int 0, .int 0, .int 0, .int 0, .int 0, .int 0, .int 0, .int 0]) (fun j hj => by rcases (show j = 0 ∨ j = 1 ∨ j = 2 ∨ j = 3 ∨ j = 4 ∨ j = 5 ∨ j = 6 ∨ j = 7 ∨ j = 8 ∨ j = 9 ∨ j = 10 ∨ j = 11 by omega) with rfl | rfl | rfl | rfl | rfl | rfl | rfl | rfl | rfl | rfl | rfl | rfl <;> rfl) (Nat.le_of_ble_eq_true rfl) (Nat.le_of_ble_eq_true rfl) dX1_init_36 (fun b13 H C => ?_)
  refine lv_dup F.x F.b dX1_init_39 rfl ?_
  refine cCall F C hl (kX0_init l D ky b13) ⟨q1_143, q1_35, q1_2, q1_36⟩ ⟨rfl, by decide, by decide, by decide +kernel⟩ ⟨rfl, rfl, ⟨Nat.le_of_ble_eq_true rfl, Nat.le_of_ble_eq_true rfl⟩, ⟨Nat.le_of_ble_eq_true rfl, Nat.le_of_ble_eq_true rfl⟩, Nat.le_of_ble_eq_true rfl⟩ (rest := [.ref b13, .int 3, .ref a1]) dX1_init_40 (fun u14 H locs hu15 C => ?_)
  obtain ⟨d16, ed16⟩ : ∃ z : va_W, z = d12 ++ u14 := ⟨_, rfl⟩
  have C : Ck D s (va_A [(q, .inr (1, [.null, .int 0, .int 0]))] s.heap.size) ((q, (.inr (1, [.ref a1, .int 0, .int 0]) : va_E)) :: (a1, (.inl (ky 3, 8, .inr (.inr (.inr (.inr (va_up (va_up (va_up (fun _ => none) 0 (some b2)) 1 (some b5)) 2 (some b9)))))) : va_E)) :: (d12 ++ u14)) H locs := C
  rw [← ed16] at C
  have C : Ck D s (va_A [(q, .inr (1, [.null, .int 0, .int 0]))] s.heap.size) ((q, (.inr (1, [.ref a1, .int 0, .int 0]) : va_E)) :: (a1, (.inl (ky 3, 8, .inr (.inr (.inr (.inr (va_up (va_up (va_up (fun _ => none) 0 (some b2)) 1 (some b5)) 2 (some b9)))))) : va_E)) :: d16) H locs := C
  obtain ⟨vs9, hv9⟩ := shF_mem hu15
  refine cAstq F C 1 3 (ci := 0) (vs := vs9) rfl rfl (List.mem_cons_of_mem _ (List.mem_cons_of_mem _ (by rw [ed16]; exact List.mem_append_right _ hv9))) rfl (by unfold vp_in; decide) dX1_init_43 (fun H locs C => ?_)
  have C : Ck D s (va_A [(q, .inr (1, [.null, .int 0, .int 0]))] s.heap.size) ((q, (.inr (1, [.ref a1, .int 0, .int 0]) : va_E)) :: (a1, (.inl (ky 3, 8, .inr (.inr (.inr (.inr (va_up (va_up (va_up (va_up (fun _ => none) 0 (some b2)) 1 (some b5)) 2 (some b9)) 3 (some b13)))))) : va_E)) :: d16) H locs := C
  refine lv_iinc (v := 4) (lv' := [(1, .int 4), (0, .ref q)]) F.x F.b dX1_init_44 hl (k := 0) rfl (by decide) (by decide) rfl (fun ls hl => ?_)
  refine lv_goto (tgt := 25) F.x F.b dX1_init_47 (by decide) ?_
  refine lv_iload_n F.x F.b dX1_init_25 rfl (lv_at hl 0 rfl) ?_
  refine lv_bipush (v := 8) F.x F.b dX1_init_26 (by decide) ?_
  refine lv_icmp_ge (tgt := 50) F.x F.b dX1_init_28 (by decide) (fun h9 => absurd h9 (by decide)) (fun _ => ?_)
  refine lv_aload_n F.x F.b dX1_init_31 rfl (lv_at hl 1 rfl) ?_
  refine cGet F C rfl rfl inA1 0 (by decide) q1_144 rfl (v := .ref a1) rfl dX1_init_32 ?_
  refine lv_iload_n F.x F.b dX1_init_35 rfl (lv_at hl 0 rfl) ?_
  refine cNew (ci := 0) F C inA0 tyX0_ok q1_141 q1_33 q1_2 rfl (fs := [.null, .null, .int 0, .int 0, .int 0, .int 0, .int 0, .int 0, .int 0, .int 0, .int 0, .int 0]) (fun j hj => by rcases (show j = 0 ∨ j = 1 ∨ j = 2 ∨ j = 3 ∨ j = 4 ∨ j = 5 ∨ j = 6 ∨ j = 7 ∨ j = 8 ∨ j = 9 ∨ j = 10 ∨ j = 11 by omega) with rfl | rfl | rfl | rfl | rfl | rfl | rfl | rfl | rfl | rfl | rfl | rfl <;> rfl) (Nat.le_of_ble_eq_true rfl) (Nat.le_of_ble_eq_true rfl) dX1_init_36 (fun b17 H C => ?_)
  refine lv_dup F.x F.b dX1_init_39 rfl ?_
  refine cCall F C hl (kX0_init l D ky b17) ⟨q1_143, q1_35, q1_2, q1_36⟩ ⟨rfl, by decide, by decide, by decide +kernel⟩ ⟨rfl, rfl, ⟨Nat.le_of_ble_eq_true rfl, Nat.le_of_ble_eq_true rfl⟩, ⟨Nat.le_of_ble_eq_true rfl, Nat.le_of_ble_eq_true rfl⟩, Nat.le_of_ble_eq_true rfl⟩ (rest := [.ref b17, .int 4, .ref a1]) dX1_init_40 (fun u18 H locs hu19 C => ?_)
  obtain ⟨d20, ed20⟩ : ∃ z : va_W, z = d16 ++ u18 := ⟨_, rfl⟩
  have C : Ck D s (va_A [(q, .inr (1, [.null, .int 0, .int 0]))] s.heap.size) ((q, (.inr (1, [.ref a1, .int 0, .int 0]) : va_E)) :: (a1, (.inl (ky 3, 8, .inr (.inr (.inr (.inr (va_up (va_up (va_up (va_up (fun _ => none) 0 (some b2)) 1 (some b5)) 2 (some b9)) 3 (some b13)))))) : va_E)) :: (d16 ++ u18)) H locs := C
  rw [← ed20] at C
  have C : Ck D s (va_A [(q, .inr (1, [.null, .int 0, .int 0]))] s.heap.size) ((q, (.inr (1, [.ref a1, .int 0, .int 0]) : va_E)) :: (a1, (.inl (ky 3, 8, .inr (.inr (.inr (.inr (va_up (va_up (va_up (va_up (fun _ => none) 0 (some b2)) 1 (some b5)) 2 (some b9)) 3 (some b13)))))) : va_E)) :: d20) H locs := C
  obtain ⟨vs9, hv9⟩ := shF_mem hu19
  refine cAstq F C 1 3 (ci := 0) (vs := vs9) rfl rfl (List.mem_cons_of_mem _ (List.mem_cons_of_mem _ (by rw [ed20]; exact List.mem_append_right _ hv9))) rfl (by unfold vp_in; decide) dX1_init_43 (fun H locs C => ?_)
  have C : Ck D s (va_A [(q, .inr (1, [.null, .int 0, .int 0]))] s.heap.size) ((q, (.inr (1, [.ref a1, .int 0, .int 0]) : va_E)) :: (a1, (.inl (ky 3, 8, .inr (.inr (.inr (.inr (va_up (va_up (va_up (va_up (va_up (fun _ => none) 0 (some b2)) 1 (some b5)) 2 (some b9)) 3 (some b13)) 4 (some b17)))))) : va_E)) :: d20) H locs := C
  refine lv_iinc (v := 5) (lv' := [(1, .int 5), (0, .ref q)]) F.x F.b dX1_init_44 hl (k := 0) rfl (by decide) (by decide) rfl (fun ls hl => ?_)
  refine lv_goto (tgt := 25) F.x F.b dX1_init_47 (by decide) ?_
  refine lv_iload_n F.x F.b dX1_init_25 rfl (lv_at hl 0 rfl) ?_
  refine lv_bipush (v := 8) F.x F.b dX1_init_26 (by decide) ?_
  refine lv_icmp_ge (tgt := 50) F.x F.b dX1_init_28 (by decide) (fun h9 => absurd h9 (by decide)) (fun _ => ?_)
  refine lv_aload_n F.x F.b dX1_init_31 rfl (lv_at hl 1 rfl) ?_
  refine cGet F C rfl rfl inA1 0 (by decide) q1_144 rfl (v := .ref a1) rfl dX1_init_32 ?_
  refine lv_iload_n F.x F.b dX1_init_35 rfl (lv_at hl 0 rfl) ?_
  refine cNew (ci := 0) F C inA0 tyX0_ok q1_141 q1_33 q1_2 rfl (fs := [.null, .null, .int 0, .int 0, .int 0, .int 0, .int 0, .int 0, .int 0, .int 0, .int 0, .int 0]) (fun j hj => by rcases (show j = 0 ∨ j = 1 ∨ j = 2 ∨ j = 3 ∨ j = 4 ∨ j = 5 ∨ j = 6 ∨ j = 7 ∨ j = 8 ∨ j = 9 ∨ j = 10 ∨ j = 11 by omega) with rfl | rfl | rfl | rfl | rfl | rfl | rfl | rfl | rfl | rfl | rfl | rfl <;> rfl) (Nat.le_of_ble_eq_true rfl) (Nat.le_of_ble_eq_true rfl) dX1_init_36 (fun b21 H C => ?_)
  refine lv_dup F.x F.b dX1_init_39 rfl ?_
  refine cCall F C hl (kX0_init l D ky b21) ⟨q1_143, q1_35, q1_2, q1_36⟩ ⟨rfl, by decide, by decide, by decide +kernel⟩ ⟨rfl, rfl, ⟨Nat.le_of_ble_eq_true rfl, Nat.le_of_ble_eq_true rfl⟩, ⟨Nat.le_of_ble_eq_true rfl, Nat.le_of_ble_eq_true rfl⟩, Nat.le_of_ble_eq_true rfl⟩ (rest := [.ref b21, .int 5, .ref a1]) dX1_init_40 (fun u22 H locs hu23 C => ?_)
  obtain ⟨d24, ed24⟩ : ∃ z : va_W, z = d20 ++ u22 := ⟨_, rfl⟩
  have C : Ck D s (va_A [(q, .inr (1, [.null, .int 0, .int 0]))] s.heap.size) ((q, (.inr (1, [.ref a1, .int 0, .int 0]) : va_E)) :: (a1, (.inl (ky 3, 8, .inr (.inr (.inr (.inr (va_up (va_up (va_up (va_up (va_up (fun _ => none) 0 (some b2)) 1 (some b5)) 2 (some b9)) 3 (some b13)) 4 (some b17)))))) : va_E)) :: (d20 ++ u22)) H locs := C
  rw [← ed24] at C
  have C : Ck D s (va_A [(q, .inr (1, [.null, .int 0, .int 0]))] s.heap.size) ((q, (.inr (1, [.ref a1, .int 0, .int 0]) : va_E)) :: (a1, (.inl (ky 3, 8, .inr (.inr (.inr (.inr (va_up (va_up (va_up (va_up (va_up (fun _ => none) 0 (some b2)) 1 (some b5)) 2 (some b9)) 3 (some b13)) 4 (some b17)))))) : va_E)) :: d24) H locs := C
  obtain ⟨vs9, hv9⟩ := shF_mem hu23
  refine cAstq F C 1 3 (ci := 0) (vs := vs9) rfl rfl (List.mem_cons_of_mem _ (List.mem_cons_of_mem _ (by rw [ed24]; exact List.mem_append_right _ hv9))) rfl (by unfold vp_in; decide) dX1_init_43 (fun H locs C => ?_)
  have C : Ck D s (va_A [(q, .inr (1, [.null, .int 0, .int 0]))] s.heap.size) ((q, (.inr (1, [.ref a1, .int 0, .int 0]) : va_E)) :: (a1, (.inl (ky 3, 8, .inr (.inr (.inr (.inr (va_up (va_up (va_up (va_up (va_up (va_up (fun _ => none) 0 (some b2)) 1 (some b5)) 2 (some b9)) 3 (some b13)) 4 (some b17)) 5 (some b21)))))) : va_E)) :: d24) H locs := C
  refine lv_iinc (v := 6) (lv' := [(1, .int 6), (0, .ref q)]) F.x F.b dX1_init_44 hl (k := 0) rfl (by decide) (by decide) rfl (fun ls hl => ?_)
  refine lv_goto (tgt := 25) F.x F.b dX1_init_47 (by decide) ?_
  refine lv_iload_n F.x F.b dX1_init_25 rfl (lv_at hl 0 rfl) ?_
  refine lv_bipush (v := 8) F.x F.b dX1_init_26 (by decide) ?_
  refine lv_icmp_ge (tgt := 50) F.x F.b dX1_init_28 (by decide) (fun h9 => absurd h9 (by decide)) (fun _ => ?_)
  refine lv_aload_n F.x F.b dX1_init_31 rfl (lv_at hl 1 rfl) ?_
  refine cGet F C rfl rfl inA1 0 (by decide) q1_144 rfl (v := .ref a1) rfl dX1_init_32 ?_
  refine lv_iload_n F.x F.b dX1_init_35 rfl (lv_at hl 0 rfl) ?_
  refine cNew (ci := 0) F C inA0 tyX0_ok q1_141 q1_33 q1_2 rfl (fs := [.null, .null, .int 0, .int 0, .int 0, .int 0, .int 0, .int 0, .int 0, .int 0, .int 0, .int 0]) (fun j hj => by rcases (show j = 0 ∨ j = 1 ∨ j = 2 ∨ j = 3 ∨ j = 4 ∨ j = 5 ∨ j = 6 ∨ j = 7 ∨ j = 8 ∨ j = 9 ∨ j = 10 ∨ j = 11 by omega) with rfl | rfl | rfl | rfl | rfl | rfl | rfl | rfl | rfl | rfl | rfl | rfl <;> rfl) (Nat.le_of_ble_eq_true rfl) (Nat.le_of_ble_eq_true rfl) dX1_init_36 (fun b25 H C => ?_)
  refine lv_dup F.x F.b dX1_init_39 rfl ?_
  refine cCall F C hl (kX0_init l D ky b25) ⟨q1_143, q1_35, q1_2, q1_36⟩ ⟨rfl, by decide, by decide, by decide +kernel⟩ ⟨rfl, rfl, ⟨Nat.le_of_ble_eq_true rfl, Nat.le_of_ble_eq_true rfl⟩, ⟨Nat.le_of_ble_eq_true rfl, Nat.le_of_ble_eq_true rfl⟩, Nat.le_of_ble_eq_true rfl⟩ (rest := [.ref b25, .int 6, .ref a1]) dX1_init_40 (fun u26 H locs hu27 C => ?_)
  obtain ⟨d28, ed28⟩ : ∃ z : va_W, z = d24 ++ u26 := ⟨_, rfl⟩
  have C : Ck D s (va_A [(q, .inr (1, [.null, .int 0, .int 0]))] s.heap.size) ((q, (.inr (1, [.ref a1, .int 0, .int 0]) : va_E)) :: (a1, (.inl (ky 3, 8, .inr (.inr (.inr (.inr (va_up (va_up (va_up (va_up (va_up (va_up (fun _ => none) 0 (some b2)) 1 (some b5)) 2 (some b9)) 3 (some b13)) 4 (some b17)) 5 (some b21)))))) : va_E)) :: (d24 ++ u26)) H locs := C
  rw [← ed28] at C
  have C : Ck D s (va_A [(q, .inr (1, [.null, .int 0, .int 0]))] s.heap.size) ((q, (.inr (1, [.ref a1, .int 0, .int 0]) : va_E)) :: (a1, (.inl (ky 3, 8, .inr (.inr (.inr (.inr (va_up (va_up (va_up (va_up (va_up (va_up (fun _ => none) 0 (some b2)) 1 (some b5)) 2 (some b9)) 3 (some b13)) 4 (some b17)) 5 (some b21)))))) : va_E)) :: d28) H locs := C
  obtain ⟨vs9, hv9⟩ := shF_mem hu27
  refine cAstq F C 1 3 (ci := 0) (vs := vs9) rfl rfl (List.mem_cons_of_mem _ (List.mem_cons_of_mem _ (by rw [ed28]; exact List.mem_append_right _ hv9))) rfl (by unfold vp_in; decide) dX1_init_43 (fun H locs C => ?_)
  have C : Ck D s (va_A [(q, .inr (1, [.null, .int 0, .int 0]))] s.heap.size) ((q, (.inr (1, [.ref a1, .int 0, .int 0]) : va_E)) :: (a1, (.inl (ky 3, 8, .inr (.inr (.inr (.inr (va_up (va_up (va_up (va_up (va_up (va_up (va_up (fun _ => none) 0 (some b2)) 1 (some b5)) 2 (some b9)) 3 (some b13)) 4 (some b17)) 5 (some b21)) 6 (some b25)))))) : va_E)) :: d28) H locs := C
  refine lv_iinc (v := 7) (lv' := [(1, .int 7), (0, .ref q)]) F.x F.b dX1_init_44 hl (k := 0) rfl (by decide) (by decide) rfl (fun ls hl => ?_)
  refine lv_goto (tgt := 25) F.x F.b dX1_init_47 (by decide) ?_
  refine lv_iload_n F.x F.b dX1_init_25 rfl (lv_at hl 0 rfl) ?_
  refine lv_bipush (v := 8) F.x F.b dX1_init_26 (by decide) ?_
  refine lv_icmp_ge (tgt := 50) F.x F.b dX1_init_28 (by decide) (fun h9 => absurd h9 (by decide)) (fun _ => ?_)
  refine lv_aload_n F.x F.b dX1_init_31 rfl (lv_at hl 1 rfl) ?_
  refine cGet F C rfl rfl inA1 0 (by decide) q1_144 rfl (v := .ref a1) rfl dX1_init_32 ?_
  refine lv_iload_n F.x F.b dX1_init_35 rfl (lv_at hl 0 rfl) ?_
  refine cNew (ci := 0) F C inA0 tyX0_ok q1_141 q1_33 q1_2 rfl (fs := [.null, .null, .int 0, .int 0, .int 0, .int 0, .int 0, .int 0, .int 0, .int 0, .int 0, .int 0]) (fun j hj => by rcases (show j = 0 ∨ j = 1 ∨ j = 2 ∨ j = 3 ∨ j = 4 ∨ j = 5 ∨ j = 6 ∨ j = 7 ∨ j = 8 ∨ j = 9 ∨ j = 10 ∨ j = 11 by omega) with rfl | rfl | rfl | rfl | rfl | rfl | rfl | rfl | rfl | rfl | rfl | rfl <;> rfl) (Nat.le_of_ble_eq_true rfl) (Nat.le_of_ble_eq_true rfl) dX1_init_36 (fun b29 H C => ?_)
  refine lv_dup F.x F.b dX1_init_39 rfl ?_
  refine cCall F C hl (kX0_init l D ky b29) ⟨q1_143, q1_35, q1_2, q1_36⟩ ⟨rfl, by decide, by decide, by decide +kernel⟩ ⟨rfl, rfl, ⟨Nat.le_of_ble_eq_true rfl, Nat.le_of_ble_eq_true rfl⟩, ⟨Nat.le_of_ble_eq_true rfl, Nat.le_of_ble_eq_true rfl⟩, Nat.le_of_ble_eq_true rfl⟩ (rest := [.ref b29, .int 7, .ref a1]) dX1_init_40 (fun u30 H locs hu31 C => ?_)
  obtain ⟨d32, ed32⟩ : ∃ z : va_W, z = d28 ++ u30 := ⟨_, rfl⟩
  have C : Ck D s (va_A [(q, .inr (1, [.null, .int 0, .int 0]))] s.heap.size) ((q, (.inr (1, [.ref a1, .int 0, .int 0]) : va_E)) :: (a1, (.inl (ky 3, 8, .inr (.inr (.inr (.inr (va_up (va_up (va_up (va_up (va_up (va_up (va_up (fun _ => none) 0 (some b2)) 1 (some b5)) 2 (some b9)) 3 (some b13)) 4 (some b17)) 5 (some b21)) 6 (some b25)))))) : va_E)) :: (d28 ++ u30)) H locs := C
  rw [← ed32] at C
  have C : Ck D s (va_A [(q, .inr (1, [.null, .int 0, .int 0]))] s.heap.size) ((q, (.inr (1, [.ref a1, .int 0, .int 0]) : va_E)) :: (a1, (.inl (ky 3, 8, .inr (.inr (.inr (.inr (va_up (va_up (va_up (va_up (va_up (va_up (va_up (fun _ => none) 0 (some b2)) 1 (some b5)) 2 (some b9)) 3 (some b13)) 4 (some b17)) 5 (some b21)) 6 (some b25)))))) : va_E)) :: d32) H locs := C
  obtain ⟨vs9, hv9⟩ := shF_mem hu31
  refine cAstq F C 1 3 (ci := 0) (vs := vs9) rfl rfl (List.mem_cons_of_mem _ (List.mem_cons_of_mem _ (by rw [ed32]; exact List.mem_append_right _ hv9))) rfl (by unfold vp_in; decide) dX1_init_43 (fun H locs C => ?_)
  have C : Ck D s (va_A [(q, .inr (1, [.null, .int 0, .int 0]))] s.heap.size) ((q, (.inr (1, [.ref a1, .int 0, .int 0]) : va_E)) :: (a1, (.inl (ky 3, 8, .inr (.inr (.inr (.inr (va_up (va_up (va_up (va_up (va_up (va_up (va_up (va_up (fun _ => none) 0 (some b2)) 1 (some b5)) 2 (some b9)) 3 (some b13)) 4 (some b17)) 5 (some b21)) 6 (some b25)) 7 (some b29)))))) : va_E)) :: d32) H locs := C
  refine lv_iinc (v := 8) (lv' := [(1, .int 8), (0, .ref q)]) F.x F.b dX1_init_44 hl (k := 0) rfl (by decide) (by decide) rfl (fun ls hl => ?_)
  refine lv_goto (tgt := 25) F.x F.b dX1_init_47 (by decide) ?_
  refine lv_iload_n F.x F.b dX1_init_25 rfl (lv_at hl 0 rfl) ?_
  refine lv_bipush (v := 8) F.x F.b dX1_init_26 (by decide) ?_
  refine lv_icmp_ge (tgt := 50) F.x F.b dX1_init_28 (by decide) (fun _ => ?_) (fun h9 => absurd (by decide) h9)
  refine W.widen (k := 89) (n := 760) (Nat.le_of_ble_eq_true rfl) (Nat.le_of_ble_eq_true rfl) ?_
  subst ed32
  subst ed28
  subst ed24
  subst ed20
  subst ed16
  subst ed12
  subst ed8
  obtain ⟨fo, efo⟩ : ∃ fo : Nat → Nat, fo = (fun k => match k with | 0 => b2 | 1 => b5 | 2 => b9 | 3 => b13 | 4 => b17 | 5 => b21 | 6 => b25 | _ => b29) := ⟨_, rfl⟩
  obtain ⟨uu, euu⟩ : ∃ uu : Nat → va_W, uu = (fun k => match k with | 0 => u3 | 1 => u6 | 2 => u10 | 3 => u14 | 4 => u18 | 5 => u22 | 6 => u26 | _ => u30) := ⟨_, rfl⟩
  have hP := P_setat C.1 1 (q := (a1, .inl (ky 3, 8, .inr (.inr (.inr (.inr (fun k => some (fo k)))))))) (at_congq (fun k hk => ?_) (C.1 1 _ rfl))
  · have hD := C.2.1.set (e := .inl (ky 3, 8, .inr (.inr (.inr (.inr (fun k => some (fo k))))))) (p := 1) rfl
    refine cRet F hr ⟨hP, hD, C.2.2⟩ ⟨a1, fo, uu, fun k hk => ?_, by rw [euu]; rfl⟩ dX1_init_50
    rw [efo, euu]
    rcases (show k = 0 ∨ k = 1 ∨ k = 2 ∨ k = 3 ∨ k = 4 ∨ k = 5 ∨ k = 6 ∨ k = 7 by omega) with rfl | rfl | rfl | rfl | rfl | rfl | rfl | rfl
    · exact hu4
    · exact hu7
    · exact hu11
    · exact hu15
    · exact hu19
    · exact hu23
    · exact hu27
    · exact hu31
  · rw [efo]
    rcases (show k = 0 ∨ k = 1 ∨ k = 2 ∨ k = 3 ∨ k = 4 ∨ k = 5 ∨ k = 6 ∨ k = 7 by omega) with rfl | rfl | rfl | rfl | rfl | rfl | rfl | rfl <;> rfl
def shX (ky : Nat → ClassId) (q : Nat) : va_W → Prop := fun sh => ∃ (n hs sn qu an ln : Nat) (dn dh ds dq : va_W), shF ky n dn ∧ shH ky hs dh ∧ shF ky sn ds ∧ shQ ky qu dq ∧ sh = (q, .inr (4, [.ref n, .ref hs, .ref sn, .int 0, .ref qu, .int (-1), .ref an, .int 0, .int 0, .int 0, .ref ln, .int 0])) :: (dn ++ dh ++ ds ++ dq ++ [(an, .inl (ky 1, 8, .inl (fun _ => 0)))] ++ [(ln, .inl (ky 0, 13, .inl (fun _ => 0)))])
def rmX5_init : Room := { frames := 4, cells := 116, slots := 1036, locals := 74 }
set_option maxRecDepth 100000 in
set_option maxHeartbeats 4000000 in
theorem kX5_init (l : Launch) (D : va_G) (ky : Nat → ClassId) (q : Nat) : CC l D ky yX5_init cX5_init 1 rmX5_init 116 1036 q (.inr (4, [.null, .null, .null, .int 0, .null, .int 0, .null, .int 0, .int 0, .int 0, .null, .int 0])) (shX ky q) := by
  refine CC.of (by decide) rfl (Nat.le_of_ble_eq_true rfl) (fun p e s m args below meth c ls H locs F hin hr C hl => ?_)
  have hl : lv_has ls 1 [(0, .ref q)] := hl
  refine lv_aload_n F.x F.b dX5_init_0 rfl (lv_at hl 0 rfl) ?_
  refine W.objInit F.x F.b F.ow (F.ts _ q1_29) (F.ts _ q1_30) (F.ts _ q1_31) rfl (by rw [F.ml]; exact hl.1) rfl dX5_init_1 (Nat.le_of_ble_eq_true rfl) (Nat.le_of_ble_eq_true rfl) ?_
  refine W.eq (g2 := F0 m 4 ls []) rfl ?_
  refine lv_aload_n F.x F.b dX5_init_4 rfl (lv_at hl 0 rfl) ?_
  refine cNew (ci := 0) F C inA0 tyX0_ok q1_32 q1_33 q1_2 rfl (fs := [.null, .null, .int 0, .int 0, .int 0, .int 0, .int 0, .int 0, .int 0, .int 0, .int 0, .int 0]) (fun j hj => by rcases (show j = 0 ∨ j = 1 ∨ j = 2 ∨ j = 3 ∨ j = 4 ∨ j = 5 ∨ j = 6 ∨ j = 7 ∨ j = 8 ∨ j = 9 ∨ j = 10 ∨ j = 11 by omega) with rfl | rfl | rfl | rfl | rfl | rfl | rfl | rfl | rfl | rfl | rfl | rfl <;> rfl) (Nat.le_of_ble_eq_true rfl) (Nat.le_of_ble_eq_true rfl) dX5_init_5 (fun b1 H C => ?_)
  refine lv_dup F.x F.b dX5_init_8 rfl ?_
  refine cCall F C hl (kX0_init l D ky b1) ⟨q1_34, q1_35, q1_2, q1_36⟩ ⟨rfl, by decide, by decide, by decide +kernel⟩ ⟨rfl, rfl, ⟨Nat.le_of_ble_eq_true rfl, Nat.le_of_ble_eq_true rfl⟩, ⟨Nat.le_of_ble_eq_true rfl, Nat.le_of_ble_eq_true rfl⟩, Nat.le_of_ble_eq_true rfl⟩ (rest := [.ref b1, .ref q]) dX5_init_9 (fun u2 H locs hu3 C => ?_)
  have C : Ck D s (va_A [(q, .inr (4, [.null, .null, .null, .int 0, .null, .int 0, .null, .int 0, .int 0, .int 0, .null, .int 0]))] s.heap.size) ((q, (.inr (4, [.null, .null, .null, .int 0, .null, .int 0, .null, .int 0, .int 0, .int 0, .null, .int 0]) : va_E)) :: u2) H locs := C
  refine cPutF F hin C rfl rfl inA5 tyX5_ok nmX5 0 (by decide) q1_177 rfl rfl rfl (ty := .object "FordToll$Ford") (v := .ref b1) (by decide +kernel) rfl rfl (Nat.le_of_ble_eq_true rfl) dX5_init_12 (fun H locs C => ?_)
  have C : Ck D s (va_A [(q, .inr (4, [.null, .null, .null, .int 0, .null, .int 0, .null, .int 0, .int 0, .int 0, .null, .int 0]))] s.heap.size) ((q, (.inr (4, [.ref b1, .null, .null, .int 0, .null, .int 0, .null, .int 0, .int 0, .int 0, .null, .int 0]) : va_E)) :: u2) H locs := C
  refine lv_aload_n F.x F.b dX5_init_15 rfl (lv_at hl 0 rfl) ?_
  refine cNew (ci := 1) F C inA1 tyX1_ok q1_135 q1_136 q1_4 rfl (fs := [.null, .int 0, .int 0]) (fun j hj => by rcases (show j = 0 ∨ j = 1 ∨ j = 2 by omega) with rfl | rfl | rfl <;> rfl) (Nat.le_of_ble_eq_true rfl) (Nat.le_of_ble_eq_true rfl) dX5_init_16 (fun b4 H C => ?_)
  refine lv_dup F.x F.b dX5_init_19 rfl ?_
  refine cCall F C hl (kX1_init l D ky b4) ⟨q1_137, q1_138, q1_4, q1_139⟩ ⟨rfl, by decide, by decide, by decide +kernel⟩ ⟨rfl, rfl, ⟨Nat.le_of_ble_eq_true rfl, Nat.le_of_ble_eq_true rfl⟩, ⟨Nat.le_of_ble_eq_true rfl, Nat.le_of_ble_eq_true rfl⟩, Nat.le_of_ble_eq_true rfl⟩ (rest := [.ref b4, .ref q]) dX5_init_20 (fun u5 H locs hu6 C => ?_)
  obtain ⟨d7, ed7⟩ : ∃ z : va_W, z = u2 ++ u5 := ⟨_, rfl⟩
  have C : Ck D s (va_A [(q, .inr (4, [.null, .null, .null, .int 0, .null, .int 0, .null, .int 0, .int 0, .int 0, .null, .int 0]))] s.heap.size) ((q, (.inr (4, [.ref b1, .null, .null, .int 0, .null, .int 0, .null, .int 0, .int 0, .int 0, .null, .int 0]) : va_E)) :: (u2 ++ u5)) H locs := C
  rw [← ed7] at C
  have C : Ck D s (va_A [(q, .inr (4, [.null, .null, .null, .int 0, .null, .int 0, .null, .int 0, .int 0, .int 0, .null, .int 0]))] s.heap.size) ((q, (.inr (4, [.ref b1, .null, .null, .int 0, .null, .int 0, .null, .int 0, .int 0, .int 0, .null, .int 0]) : va_E)) :: d7) H locs := C
  refine cPutF F hin C rfl rfl inA5 tyX5_ok nmX5 1 (by decide) q1_178 rfl rfl rfl (ty := .object "FordToll$History") (v := .ref b4) (by decide +kernel) rfl rfl (Nat.le_of_ble_eq_true rfl) dX5_init_23 (fun H locs C => ?_)
  have C : Ck D s (va_A [(q, .inr (4, [.null, .null, .null, .int 0, .null, .int 0, .null, .int 0, .int 0, .int 0, .null, .int 0]))] s.heap.size) ((q, (.inr (4, [.ref b1, .ref b4, .null, .int 0, .null, .int 0, .null, .int 0, .int 0, .int 0, .null, .int 0]) : va_E)) :: d7) H locs := C
  refine lv_aload_n F.x F.b dX5_init_26 rfl (lv_at hl 0 rfl) ?_
  refine cNew (ci := 0) F C inA0 tyX0_ok q1_32 q1_33 q1_2 rfl (fs := [.null, .null, .int 0, .int 0, .int 0, .int 0, .int 0, .int 0, .int 0, .int 0, .int 0, .int 0]) (fun j hj => by rcases (show j = 0 ∨ j = 1 ∨ j = 2 ∨ j = 3 ∨ j = 4 ∨ j = 5 ∨ j = 6 ∨ j = 7 ∨ j = 8 ∨ j = 9 ∨ j = 10 ∨ j = 11 by omega) with rfl | rfl | rfl | rfl | rfl | rfl | rfl | rfl | rfl | rfl | rfl | rfl <;> rfl) (Nat.le_of_ble_eq_true rfl) (Nat.le_of_ble_eq_true rfl) dX5_init_27 (fun b8 H C => ?_)
  refine lv_dup F.x F.b dX5_init_30 rfl ?_
  refine cCall F C hl (kX0_init l D ky b8) ⟨q1_34, q1_35, q1_2, q1_36⟩ ⟨rfl, by decide, by decide, by decide +kernel⟩ ⟨rfl, rfl, ⟨Nat.le_of_ble_eq_true rfl, Nat.le_of_ble_eq_true rfl⟩, ⟨Nat.le_of_ble_eq_true rfl, Nat.le_of_ble_eq_true rfl⟩, Nat.le_of_ble_eq_true rfl⟩ (rest := [.ref b8, .ref q]) dX5_init_31 (fun u9 H locs hu10 C => ?_)
  obtain ⟨d11, ed11⟩ : ∃ z : va_W, z = d7 ++ u9 := ⟨_, rfl⟩
  have C : Ck D s (va_A [(q, .inr (4, [.null, .null, .null, .int 0, .null, .int 0, .null, .int 0, .int 0, .int 0, .null, .int 0]))] s.heap.size) ((q, (.inr (4, [.ref b1, .ref b4, .null, .int 0, .null, .int 0, .null, .int 0, .int 0, .int 0, .null, .int 0]) : va_E)) :: (d7 ++ u9)) H locs := C
  rw [← ed11] at C
  have C : Ck D s (va_A [(q, .inr (4, [.null, .null, .null, .int 0, .null, .int 0, .null, .int 0, .int 0, .int 0, .null, .int 0]))] s.heap.size) ((q, (.inr (4, [.ref b1, .ref b4, .null, .int 0, .null, .int 0, .null, .int 0, .int 0, .int 0, .null, .int 0]) : va_E)) :: d11) H locs := C
  refine cPutF F hin C rfl rfl inA5 tyX5_ok nmX5 2 (by decide) q1_179 rfl rfl rfl (ty := .object "FordToll$Ford") (v := .ref b8) (by decide +kernel) rfl rfl (Nat.le_of_ble_eq_true rfl) dX5_init_34 (fun H locs C => ?_)
  have C : Ck D s (va_A [(q, .inr (4, [.null, .null, .null, .int 0, .null, .int 0, .null, .int 0, .int 0, .int 0, .null, .int 0]))] s.heap.size) ((q, (.inr (4, [.ref b1, .ref b4, .ref b8, .int 0, .null, .int 0, .null, .int 0, .int 0, .int 0, .null, .int 0]) : va_E)) :: d11) H locs := C
  refine lv_aload_n F.x F.b dX5_init_37 rfl (lv_at hl 0 rfl) ?_
  refine lv_iconst (v := 0) F.x F.b dX5_init_38 (by decide) ?_
  refine cPut F C rfl rfl inA5 tyX5_ok nmX5 3 (by decide) q1_180 rfl rfl (ty := .boolean) (v := .int 0) (by decide +kernel) rfl rfl (Nat.le_of_ble_eq_true rfl) dX5_init_39 (fun H locs C => ?_)
  have C : Ck D s (va_A [(q, .inr (4, [.null, .null, .null, .int 0, .null, .int 0, .null, .int 0, .int 0, .int 0, .null, .int 0]))] s.heap.size) ((q, (.inr (4, [.ref b1, .ref b4, .ref b8, .int 0, .null, .int 0, .null, .int 0, .int 0, .int 0, .null, .int 0]) : va_E)) :: d11) H locs := C
  refine lv_aload_n F.x F.b dX5_init_42 rfl (lv_at hl 0 rfl) ?_
  refine cNew (ci := 2) F C inA2 tyX2_ok q1_155 q1_156 q1_5 rfl (fs := [.null, .int 0, .int 0, .int 0]) (fun j hj => by rcases (show j = 0 ∨ j = 1 ∨ j = 2 ∨ j = 3 by omega) with rfl | rfl | rfl | rfl <;> rfl) (Nat.le_of_ble_eq_true rfl) (Nat.le_of_ble_eq_true rfl) dX5_init_43 (fun b12 H C => ?_)
  refine lv_dup F.x F.b dX5_init_46 rfl ?_
  refine cCallN F C hl (kX2_init l D ky b12) ⟨q1_157, q1_158, q1_5, q1_159⟩ ⟨rfl, by decide, by decide, by decide +kernel⟩ ⟨rfl, rfl, ⟨Nat.le_of_ble_eq_true rfl, Nat.le_of_ble_eq_true rfl⟩, ⟨Nat.le_of_ble_eq_true rfl, Nat.le_of_ble_eq_true rfl⟩, Nat.le_of_ble_eq_true rfl⟩ (rest := [.ref b12, .ref q]) dX5_init_47 (fun u13 H locs hu14 C => ?_)
  obtain ⟨d15, ed15⟩ : ∃ z : va_W, z = d11 ++ u13 := ⟨_, rfl⟩
  have C : Ck D s (va_A [(q, .inr (4, [.null, .null, .null, .int 0, .null, .int 0, .null, .int 0, .int 0, .int 0, .null, .int 0]))] s.heap.size) ((q, (.inr (4, [.ref b1, .ref b4, .ref b8, .int 0, .null, .int 0, .null, .int 0, .int 0, .int 0, .null, .int 0]) : va_E)) :: (d11 ++ u13)) H locs := C
  rw [← ed15] at C
  have C : Ck D s (va_A [(q, .inr (4, [.null, .null, .null, .int 0, .null, .int 0, .null, .int 0, .int 0, .int 0, .null, .int 0]))] s.heap.size) ((q, (.inr (4, [.ref b1, .ref b4, .ref b8, .int 0, .null, .int 0, .null, .int 0, .int 0, .int 0, .null, .int 0]) : va_E)) :: d15) H locs := C
  refine cPutF F hin C rfl rfl inA5 tyX5_ok nmX5 4 (by decide) q1_181 rfl rfl rfl (ty := .object "FordToll$Question") (v := .ref b12) (by decide +kernel) rfl rfl (Nat.le_of_ble_eq_true rfl) dX5_init_50 (fun H locs C => ?_)
  have C : Ck D s (va_A [(q, .inr (4, [.null, .null, .null, .int 0, .null, .int 0, .null, .int 0, .int 0, .int 0, .null, .int 0]))] s.heap.size) ((q, (.inr (4, [.ref b1, .ref b4, .ref b8, .int 0, .ref b12, .int 0, .null, .int 0, .int 0, .int 0, .null, .int 0]) : va_E)) :: d15) H locs := C
  refine lv_aload_n F.x F.b dX5_init_53 rfl (lv_at hl 0 rfl) ?_
  refine lv_iconst (v := -1) F.x F.b dX5_init_54 (by decide) ?_
  refine cPut F C rfl rfl inA5 tyX5_ok nmX5 5 (by decide) q1_182 rfl rfl (ty := .int) (v := .int (-1)) (by decide +kernel) rfl rfl (Nat.le_of_ble_eq_true rfl) dX5_init_55 (fun H locs C => ?_)
  have C : Ck D s (va_A [(q, .inr (4, [.null, .null, .null, .int 0, .null, .int 0, .null, .int 0, .int 0, .int 0, .null, .int 0]))] s.heap.size) ((q, (.inr (4, [.ref b1, .ref b4, .ref b8, .int 0, .ref b12, .int (-1), .null, .int 0, .int 0, .int 0, .null, .int 0]) : va_E)) :: d15) H locs := C
  refine lv_aload_n F.x F.b dX5_init_58 rfl (lv_at hl 0 rfl) ?_
  refine lv_bipush (v := 8) F.x F.b dX5_init_59 (by decide) ?_
  refine cNewa F C (atype := .int) (ty := .int) rfl q1_83 1 rfl (fun cA cB h1 h2 => Option.some.inj (h1.symm.trans h2)) (a0 := (8, .inl (fun _ => 0))) (fun _ => rfl) (N' := 8) (by decide) (by decide) (Nat.le_of_ble_eq_true rfl) (Nat.le_of_ble_eq_true rfl) (Nat.le_of_ble_eq_true rfl) dX5_init_61 (fun a16 H C => ?_)
  obtain ⟨d17, ed17⟩ : ∃ z : va_W, z = d15 ++ [(a16, (.inl (ky 1, 8, .inl (fun _ => 0)) : va_E))] := ⟨_, rfl⟩
  have C : Ck D s (va_A [(q, .inr (4, [.null, .null, .null, .int 0, .null, .int 0, .null, .int 0, .int 0, .int 0, .null, .int 0]))] s.heap.size) ((q, (.inr (4, [.ref b1, .ref b4, .ref b8, .int 0, .ref b12, .int (-1), .null, .int 0, .int 0, .int 0, .null, .int 0]) : va_E)) :: (d15 ++ [(a16, (.inl (ky 1, 8, .inl (fun _ => 0)) : va_E))])) H locs := C
  rw [← ed17] at C
  have C : Ck D s (va_A [(q, .inr (4, [.null, .null, .null, .int 0, .null, .int 0, .null, .int 0, .int 0, .int 0, .null, .int 0]))] s.heap.size) ((q, (.inr (4, [.ref b1, .ref b4, .ref b8, .int 0, .ref b12, .int (-1), .null, .int 0, .int 0, .int 0, .null, .int 0]) : va_E)) :: d17) H locs := C
  refine cPutF F hin C rfl rfl inA5 tyX5_ok nmX5 6 (by decide) q1_183 rfl rfl rfl (ty := .array .int) (v := .ref a16) (by decide +kernel) rfl rfl (Nat.le_of_ble_eq_true rfl) dX5_init_63 (fun H locs C => ?_)
  have C : Ck D s (va_A [(q, .inr (4, [.null, .null, .null, .int 0, .null, .int 0, .null, .int 0, .int 0, .int 0, .null, .int 0]))] s.heap.size) ((q, (.inr (4, [.ref b1, .ref b4, .ref b8, .int 0, .ref b12, .int (-1), .ref a16, .int 0, .int 0, .int 0, .null, .int 0]) : va_E)) :: d17) H locs := C
  refine lv_aload_n F.x F.b dX5_init_66 rfl (lv_at hl 0 rfl) ?_
  refine lv_iconst (v := 0) F.x F.b dX5_init_67 (by decide) ?_
  refine cPut F C rfl rfl inA5 tyX5_ok nmX5 7 (by decide) q1_184 rfl rfl (ty := .int) (v := .int 0) (by decide +kernel) rfl rfl (Nat.le_of_ble_eq_true rfl) dX5_init_68 (fun H locs C => ?_)
  have C : Ck D s (va_A [(q, .inr (4, [.null, .null, .null, .int 0, .null, .int 0, .null, .int 0, .int 0, .int 0, .null, .int 0]))] s.heap.size) ((q, (.inr (4, [.ref b1, .ref b4, .ref b8, .int 0, .ref b12, .int (-1), .ref a16, .int 0, .int 0, .int 0, .null, .int 0]) : va_E)) :: d17) H locs := C
  refine lv_aload_n F.x F.b dX5_init_71 rfl (lv_at hl 0 rfl) ?_
  refine lv_iconst (v := 0) F.x F.b dX5_init_72 (by decide) ?_
  refine cPut F C rfl rfl inA5 tyX5_ok nmX5 8 (by decide) q1_185 rfl rfl (ty := .int) (v := .int 0) (by decide +kernel) rfl rfl (Nat.le_of_ble_eq_true rfl) dX5_init_73 (fun H locs C => ?_)
  have C : Ck D s (va_A [(q, .inr (4, [.null, .null, .null, .int 0, .null, .int 0, .null, .int 0, .int 0, .int 0, .null, .int 0]))] s.heap.size) ((q, (.inr (4, [.ref b1, .ref b4, .ref b8, .int 0, .ref b12, .int (-1), .ref a16, .int 0, .int 0, .int 0, .null, .int 0]) : va_E)) :: d17) H locs := C
  refine lv_aload_n F.x F.b dX5_init_76 rfl (lv_at hl 0 rfl) ?_
  refine lv_iconst (v := 0) F.x F.b dX5_init_77 (by decide) ?_
  refine cPut F C rfl rfl inA5 tyX5_ok nmX5 9 (by decide) q1_186 rfl rfl (ty := .int) (v := .int 0) (by decide +kernel) rfl rfl (Nat.le_of_ble_eq_true rfl) dX5_init_78 (fun H locs C => ?_)
  have C : Ck D s (va_A [(q, .inr (4, [.null, .null, .null, .int 0, .null, .int 0, .null, .int 0, .int 0, .int 0, .null, .int 0]))] s.heap.size) ((q, (.inr (4, [.ref b1, .ref b4, .ref b8, .int 0, .ref b12, .int (-1), .ref a16, .int 0, .int 0, .int 0, .null, .int 0]) : va_E)) :: d17) H locs := C
  refine lv_aload_n F.x F.b dX5_init_81 rfl (lv_at hl 0 rfl) ?_
  refine lv_bipush (v := 13) F.x F.b dX5_init_82 (by decide) ?_
  refine cNewa F C (atype := .char) (ty := .char) rfl q1_176 0 rfl (fun cA cB h1 h2 => Option.some.inj (h1.symm.trans h2)) (a0 := (13, .inl (fun _ => 0))) (fun _ => rfl) (N' := 13) (by decide) (by decide) (Nat.le_of_ble_eq_true rfl) (Nat.le_of_ble_eq_true rfl) (Nat.le_of_ble_eq_true rfl) dX5_init_84 (fun a18 H C => ?_)
  obtain ⟨d19, ed19⟩ : ∃ z : va_W, z = d17 ++ [(a18, (.inl (ky 0, 13, .inl (fun _ => 0)) : va_E))] := ⟨_, rfl⟩
  have C : Ck D s (va_A [(q, .inr (4, [.null, .null, .null, .int 0, .null, .int 0, .null, .int 0, .int 0, .int 0, .null, .int 0]))] s.heap.size) ((q, (.inr (4, [.ref b1, .ref b4, .ref b8, .int 0, .ref b12, .int (-1), .ref a16, .int 0, .int 0, .int 0, .null, .int 0]) : va_E)) :: (d17 ++ [(a18, (.inl (ky 0, 13, .inl (fun _ => 0)) : va_E))])) H locs := C
  rw [← ed19] at C
  have C : Ck D s (va_A [(q, .inr (4, [.null, .null, .null, .int 0, .null, .int 0, .null, .int 0, .int 0, .int 0, .null, .int 0]))] s.heap.size) ((q, (.inr (4, [.ref b1, .ref b4, .ref b8, .int 0, .ref b12, .int (-1), .ref a16, .int 0, .int 0, .int 0, .null, .int 0]) : va_E)) :: d19) H locs := C
  refine cPutF F hin C rfl rfl inA5 tyX5_ok nmX5 10 (by decide) q1_187 rfl rfl rfl (ty := .array .char) (v := .ref a18) (by decide +kernel) rfl rfl (Nat.le_of_ble_eq_true rfl) dX5_init_86 (fun H locs C => ?_)
  have C : Ck D s (va_A [(q, .inr (4, [.null, .null, .null, .int 0, .null, .int 0, .null, .int 0, .int 0, .int 0, .null, .int 0]))] s.heap.size) ((q, (.inr (4, [.ref b1, .ref b4, .ref b8, .int 0, .ref b12, .int (-1), .ref a16, .int 0, .int 0, .int 0, .ref a18, .int 0]) : va_E)) :: d19) H locs := C
  refine lv_aload_n F.x F.b dX5_init_89 rfl (lv_at hl 0 rfl) ?_
  refine lv_iconst (v := 0) F.x F.b dX5_init_90 (by decide) ?_
  refine cPut F C rfl rfl inA5 tyX5_ok nmX5 11 (by decide) q1_188 rfl rfl (ty := .int) (v := .int 0) (by decide +kernel) rfl rfl (Nat.le_of_ble_eq_true rfl) dX5_init_91 (fun H locs C => ?_)
  have C : Ck D s (va_A [(q, .inr (4, [.null, .null, .null, .int 0, .null, .int 0, .null, .int 0, .int 0, .int 0, .null, .int 0]))] s.heap.size) ((q, (.inr (4, [.ref b1, .ref b4, .ref b8, .int 0, .ref b12, .int (-1), .ref a16, .int 0, .int 0, .int 0, .ref a18, .int 0]) : va_E)) :: d19) H locs := C
  refine W.widen (k := 116) (n := 1036) (Nat.le_of_ble_eq_true rfl) (Nat.le_of_ble_eq_true rfl) ?_
  subst ed19
  subst ed17
  subst ed15
  subst ed11
  subst ed7
  exact cRet F hr C ⟨b1, b4, b8, b12, a16, a18, u2, u5, u9, u13, hu3, hu6, hu10, hu14, rfl⟩ dX5_init_94
