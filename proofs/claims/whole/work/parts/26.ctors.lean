def shT (q : Nat) : va_W → Prop := fun sh => sh = [(q, (.inr (3, [.int 0, .int 0, .int (-1), .int 0, .int 1, .int 0, .int 0, .int 0]) : va_E))]
def rmX3_init : Room := { frames := 1, cells := 0, slots := 0, locals := 12 }
set_option maxRecDepth 100000 in
set_option maxHeartbeats 4000000 in
theorem kX3_init (l : Launch) (D : va_G) (ky : Nat → ClassId) (q : Nat) : CC l D ky yX3_init cX3_init 1 rmX3_init 0 0 q (.inr (3, [.int 0, .int 0, .int 0, .int 0, .int 0, .int 0, .int 0, .int 0])) (shT q) := by
  refine CC.of (by decide) rfl (Nat.le_of_ble_eq_true rfl) (fun p e s m args below meth c ls H locs F hin hr C hl => ?_)
  have hl : lv_has ls 1 [(0, .ref q)] := hl
  refine lv_aload_n F.x F.b dX3_init_0 rfl (lv_at hl 0 rfl) ?_
  refine W.objInit F.x F.b F.ow (F.ts _ q1_42) (F.ts _ q1_28) (F.ts _ q1_29) rfl (by rw [F.ml]; exact hl.1) rfl dX3_init_1 (Nat.le_of_ble_eq_true rfl) (Nat.le_of_ble_eq_true rfl) ?_
  refine W.eq (g2 := F0 m 4 ls []) rfl ?_
  refine lv_aload_n F.x F.b dX3_init_4 rfl (lv_at hl 0 rfl) ?_
  refine lv_iconst (v := 0) F.x F.b dX3_init_5 (by decide) ?_
  refine cPut F C rfl rfl inA3 tyX3_ok nmX3 0 (by decide) q1_43 rfl rfl (ty := .int) (v := .int 0) (by decide +kernel) rfl rfl (Nat.le_of_ble_eq_true rfl) dX3_init_6 (fun H locs C => ?_)
  have C : Ck D s (va_A [(q, .inr (3, [.int 0, .int 0, .int 0, .int 0, .int 0, .int 0, .int 0, .int 0]))] s.heap.size) ([(q, (.inr (3, [.int 0, .int 0, .int 0, .int 0, .int 0, .int 0, .int 0, .int 0]) : va_E))]) H locs := C
  refine lv_aload_n F.x F.b dX3_init_9 rfl (lv_at hl 0 rfl) ?_
  refine lv_iconst (v := 0) F.x F.b dX3_init_10 (by decide) ?_
  refine cPut F C rfl rfl inA3 tyX3_ok nmX3 1 (by decide) q1_45 rfl rfl (ty := .int) (v := .int 0) (by decide +kernel) rfl rfl (Nat.le_of_ble_eq_true rfl) dX3_init_11 (fun H locs C => ?_)
  have C : Ck D s (va_A [(q, .inr (3, [.int 0, .int 0, .int 0, .int 0, .int 0, .int 0, .int 0, .int 0]))] s.heap.size) ([(q, (.inr (3, [.int 0, .int 0, .int 0, .int 0, .int 0, .int 0, .int 0, .int 0]) : va_E))]) H locs := C
  refine lv_aload_n F.x F.b dX3_init_14 rfl (lv_at hl 0 rfl) ?_
  refine lv_iconst (v := -1) F.x F.b dX3_init_15 (by decide) ?_
  refine cPut F C rfl rfl inA3 tyX3_ok nmX3 2 (by decide) q1_48 rfl rfl (ty := .int) (v := .int (-1)) (by decide +kernel) rfl rfl (Nat.le_of_ble_eq_true rfl) dX3_init_16 (fun H locs C => ?_)
  have C : Ck D s (va_A [(q, .inr (3, [.int 0, .int 0, .int 0, .int 0, .int 0, .int 0, .int 0, .int 0]))] s.heap.size) ([(q, (.inr (3, [.int 0, .int 0, .int (-1), .int 0, .int 0, .int 0, .int 0, .int 0]) : va_E))]) H locs := C
  refine lv_aload_n F.x F.b dX3_init_19 rfl (lv_at hl 0 rfl) ?_
  refine lv_iconst (v := 0) F.x F.b dX3_init_20 (by decide) ?_
  refine cPut F C rfl rfl inA3 tyX3_ok nmX3 3 (by decide) q1_51 rfl rfl (ty := .boolean) (v := .int 0) (by decide +kernel) rfl rfl (Nat.le_of_ble_eq_true rfl) dX3_init_21 (fun H locs C => ?_)
  have C : Ck D s (va_A [(q, .inr (3, [.int 0, .int 0, .int 0, .int 0, .int 0, .int 0, .int 0, .int 0]))] s.heap.size) ([(q, (.inr (3, [.int 0, .int 0, .int (-1), .int 0, .int 0, .int 0, .int 0, .int 0]) : va_E))]) H locs := C
  refine lv_aload_n F.x F.b dX3_init_24 rfl (lv_at hl 0 rfl) ?_
  refine lv_iconst (v := 1) F.x F.b dX3_init_25 (by decide) ?_
  refine cPut F C rfl rfl inA3 tyX3_ok nmX3 4 (by decide) q1_54 rfl rfl (ty := .boolean) (v := .int 1) (by decide +kernel) rfl rfl (Nat.le_of_ble_eq_true rfl) dX3_init_26 (fun H locs C => ?_)
  have C : Ck D s (va_A [(q, .inr (3, [.int 0, .int 0, .int 0, .int 0, .int 0, .int 0, .int 0, .int 0]))] s.heap.size) ([(q, (.inr (3, [.int 0, .int 0, .int (-1), .int 0, .int 1, .int 0, .int 0, .int 0]) : va_E))]) H locs := C
  refine lv_aload_n F.x F.b dX3_init_29 rfl (lv_at hl 0 rfl) ?_
  refine lv_iconst (v := 0) F.x F.b dX3_init_30 (by decide) ?_
  refine cPut F C rfl rfl inA3 tyX3_ok nmX3 5 (by decide) q1_56 rfl rfl (ty := .boolean) (v := .int 0) (by decide +kernel) rfl rfl (Nat.le_of_ble_eq_true rfl) dX3_init_31 (fun H locs C => ?_)
  have C : Ck D s (va_A [(q, .inr (3, [.int 0, .int 0, .int 0, .int 0, .int 0, .int 0, .int 0, .int 0]))] s.heap.size) ([(q, (.inr (3, [.int 0, .int 0, .int (-1), .int 0, .int 1, .int 0, .int 0, .int 0]) : va_E))]) H locs := C
  refine lv_aload_n F.x F.b dX3_init_34 rfl (lv_at hl 0 rfl) ?_
  refine lv_iconst (v := 0) F.x F.b dX3_init_35 (by decide) ?_
  refine cPut F C rfl rfl inA3 tyX3_ok nmX3 6 (by decide) q1_59 rfl rfl (ty := .int) (v := .int 0) (by decide +kernel) rfl rfl (Nat.le_of_ble_eq_true rfl) dX3_init_36 (fun H locs C => ?_)
  have C : Ck D s (va_A [(q, .inr (3, [.int 0, .int 0, .int 0, .int 0, .int 0, .int 0, .int 0, .int 0]))] s.heap.size) ([(q, (.inr (3, [.int 0, .int 0, .int (-1), .int 0, .int 1, .int 0, .int 0, .int 0]) : va_E))]) H locs := C
  refine lv_aload_n F.x F.b dX3_init_39 rfl (lv_at hl 0 rfl) ?_
  refine lv_iconst (v := 0) F.x F.b dX3_init_40 (by decide) ?_
  refine cPut F C rfl rfl inA3 tyX3_ok nmX3 7 (by decide) q1_62 rfl rfl (ty := .int) (v := .int 0) (by decide +kernel) rfl rfl (Nat.le_of_ble_eq_true rfl) dX3_init_41 (fun H locs C => ?_)
  have C : Ck D s (va_A [(q, .inr (3, [.int 0, .int 0, .int 0, .int 0, .int 0, .int 0, .int 0, .int 0]))] s.heap.size) ([(q, (.inr (3, [.int 0, .int 0, .int (-1), .int 0, .int 1, .int 0, .int 0, .int 0]) : va_E))]) H locs := C
  refine W.widen (k := 0) (n := 0) (Nat.le_of_ble_eq_true rfl) (Nat.le_of_ble_eq_true rfl) ?_
  exact cRet F hr C rfl dX3_init_44
def shF (ky : Nat → ClassId) (q : Nat) : va_W → Prop := fun sh => ∃ (h t : Nat) (tr : Nat → Nat) (f : Nat → Int32), (∀ k, k < 10 → f k = 10) ∧ sh = [(q, (.inr (0, [.ref h, .ref t, .int 0, .int 0, .int 4, .int 0, .int 0, .int 0, .int 0, .int 0, .int 0, .int 0]) : va_E)), (h, .inl (ky 1, 10, .inl f)), (t, .inl (ky 4, 8, .inr (.inr (.inr (.inr (fun k => some (tr k))))))), (tr 0, (.inr (3, [.int 0, .int 0, .int (-1), .int 0, .int 1, .int 0, .int 0, .int 0]) : va_E)), (tr 1, (.inr (3, [.int 0, .int 0, .int (-1), .int 0, .int 1, .int 0, .int 0, .int 0]) : va_E)), (tr 2, (.inr (3, [.int 0, .int 0, .int (-1), .int 0, .int 1, .int 0, .int 0, .int 0]) : va_E)), (tr 3, (.inr (3, [.int 0, .int 0, .int (-1), .int 0, .int 1, .int 0, .int 0, .int 0]) : va_E)), (tr 4, (.inr (3, [.int 0, .int 0, .int (-1), .int 0, .int 1, .int 0, .int 0, .int 0]) : va_E)), (tr 5, (.inr (3, [.int 0, .int 0, .int (-1), .int 0, .int 1, .int 0, .int 0, .int 0]) : va_E)), (tr 6, (.inr (3, [.int 0, .int 0, .int (-1), .int 0, .int 1, .int 0, .int 0, .int 0]) : va_E)), (tr 7, (.inr (3, [.int 0, .int 0, .int (-1), .int 0, .int 1, .int 0, .int 0, .int 0]) : va_E))]
theorem shF_mem {ky : Nat → ClassId} {q : Nat} {u : va_W} (h : shF ky q u) : ∃ vs : List Value, (q, (.inr (0, vs) : va_E)) ∈ u := by
  obtain ⟨h1, t, tr, f, -, rfl⟩ := h
  exact ⟨_, List.mem_cons_self⟩
def rmX0_init : Room := { frames := 2, cells := 10, slots := 82, locals := 32 }
set_option maxRecDepth 100000 in
set_option maxHeartbeats 4000000 in
theorem kX0_init (l : Launch) (D : va_G) (ky : Nat → ClassId) (q : Nat) : CC l D ky yX0_init cX0_init 2 rmX0_init 10 82 q (.inr (0, [.null, .null, .int 0, .int 0, .int 0, .int 0, .int 0, .int 0, .int 0, .int 0, .int 0, .int 0])) (shF ky q) := by
  refine CC.of (by decide) rfl (Nat.le_of_ble_eq_true rfl) (fun p e s m args below meth c ls H locs F hin hr C hl => ?_)
  have hl : lv_has ls 2 [(0, .ref q)] := hl
  refine lv_aload_n F.x F.b dX0_init_0 rfl (lv_at hl 0 rfl) ?_
  refine W.objInit F.x F.b F.ow (F.ts _ q1_35) (F.ts _ q1_28) (F.ts _ q1_29) rfl (by rw [F.ml]; exact hl.1) rfl dX0_init_1 (Nat.le_of_ble_eq_true rfl) (Nat.le_of_ble_eq_true rfl) ?_
  refine W.eq (g2 := F0 m 4 ls []) rfl ?_
  refine lv_aload_n F.x F.b dX0_init_4 rfl (lv_at hl 0 rfl) ?_
  refine lv_bipush (v := 10) F.x F.b dX0_init_5 (by decide) ?_
  refine cNewa F C (atype := .int) (ty := .int) rfl q1_81 1 rfl (fun cA cB h1 h2 => Option.some.inj (h1.symm.trans h2)) (a0 := (10, .inl (fun _ => 0))) (fun _ => rfl) (N' := 10) (by decide) (by decide) (Nat.le_of_ble_eq_true rfl) (Nat.le_of_ble_eq_true rfl) (Nat.le_of_ble_eq_true rfl) dX0_init_7 (fun a1 H C => ?_)
  have C : Ck D s (va_A [(q, .inr (0, [.null, .null, .int 0, .int 0, .int 0, .int 0, .int 0, .int 0, .int 0, .int 0, .int 0, .int 0]))] s.heap.size) ([(q, (.inr (0, [.null, .null, .int 0, .int 0, .int 0, .int 0, .int 0, .int 0, .int 0, .int 0, .int 0, .int 0]) : va_E)), (a1, (.inl (ky 1, 10, .inl (fun _ => 0)) : va_E))]) H locs := C
  refine cPutF F hin C rfl rfl inA0 tyX0_ok nmX0 0 (by decide) q1_82 rfl rfl rfl (ty := .array .int) (v := .ref a1) (by decide +kernel) rfl rfl (Nat.le_of_ble_eq_true rfl) dX0_init_9 (fun H locs C => ?_)
  have C : Ck D s (va_A [(q, .inr (0, [.null, .null, .int 0, .int 0, .int 0, .int 0, .int 0, .int 0, .int 0, .int 0, .int 0, .int 0]))] s.heap.size) ([(q, (.inr (0, [.ref a1, .null, .int 0, .int 0, .int 0, .int 0, .int 0, .int 0, .int 0, .int 0, .int 0, .int 0]) : va_E)), (a1, (.inl (ky 1, 10, .inl (fun _ => 0)) : va_E))]) H locs := C
  refine lv_aload_n F.x F.b dX0_init_12 rfl (lv_at hl 0 rfl) ?_
  refine lv_bipush (v := 8) F.x F.b dX0_init_13 (by decide) ?_
  refine cNewq F C q1_36 F.a1 4 rfl (N' := 8) (by decide) (by decide) (Nat.le_of_ble_eq_true rfl) (Nat.le_of_ble_eq_true rfl) (Nat.le_of_ble_eq_true rfl) dX0_init_15 (fun a2 H C => ?_)
  have C : Ck D s (va_A [(q, .inr (0, [.null, .null, .int 0, .int 0, .int 0, .int 0, .int 0, .int 0, .int 0, .int 0, .int 0, .int 0]))] s.heap.size) ([(q, (.inr (0, [.ref a1, .null, .int 0, .int 0, .int 0, .int 0, .int 0, .int 0, .int 0, .int 0, .int 0, .int 0]) : va_E)), (a1, (.inl (ky 1, 10, .inl (fun _ => 0)) : va_E)), (a2, (.inl (ky 4, 8, .inr (.inr (.inr (.inr (fun _ => none))))) : va_E))]) H locs := C
  refine cPutF F hin C rfl rfl inA0 tyX0_ok nmX0 1 (by decide) q1_84 rfl rfl rfl (ty := .array (.object "FordToll$Traveller")) (v := .ref a2) (by decide +kernel) rfl rfl (Nat.le_of_ble_eq_true rfl) dX0_init_18 (fun H locs C => ?_)
  have C : Ck D s (va_A [(q, .inr (0, [.null, .null, .int 0, .int 0, .int 0, .int 0, .int 0, .int 0, .int 0, .int 0, .int 0, .int 0]))] s.heap.size) ([(q, (.inr (0, [.ref a1, .ref a2, .int 0, .int 0, .int 0, .int 0, .int 0, .int 0, .int 0, .int 0, .int 0, .int 0]) : va_E)), (a1, (.inl (ky 1, 10, .inl (fun _ => 0)) : va_E)), (a2, (.inl (ky 4, 8, .inr (.inr (.inr (.inr (fun _ => none))))) : va_E))]) H locs := C
  refine lv_aload_n F.x F.b dX0_init_21 rfl (lv_at hl 0 rfl) ?_
  refine lv_iconst (v := 0) F.x F.b dX0_init_22 (by decide) ?_
  refine cPut F C rfl rfl inA0 tyX0_ok nmX0 2 (by decide) q1_87 rfl rfl (ty := .int) (v := .int 0) (by decide +kernel) rfl rfl (Nat.le_of_ble_eq_true rfl) dX0_init_23 (fun H locs C => ?_)
  have C : Ck D s (va_A [(q, .inr (0, [.null, .null, .int 0, .int 0, .int 0, .int 0, .int 0, .int 0, .int 0, .int 0, .int 0, .int 0]))] s.heap.size) ([(q, (.inr (0, [.ref a1, .ref a2, .int 0, .int 0, .int 0, .int 0, .int 0, .int 0, .int 0, .int 0, .int 0, .int 0]) : va_E)), (a1, (.inl (ky 1, 10, .inl (fun _ => 0)) : va_E)), (a2, (.inl (ky 4, 8, .inr (.inr (.inr (.inr (fun _ => none))))) : va_E))]) H locs := C
  refine lv_aload_n F.x F.b dX0_init_26 rfl (lv_at hl 0 rfl) ?_
  refine lv_iconst (v := 0) F.x F.b dX0_init_27 (by decide) ?_
  refine cPut F C rfl rfl inA0 tyX0_ok nmX0 3 (by decide) q1_90 rfl rfl (ty := .int) (v := .int 0) (by decide +kernel) rfl rfl (Nat.le_of_ble_eq_true rfl) dX0_init_28 (fun H locs C => ?_)
  have C : Ck D s (va_A [(q, .inr (0, [.null, .null, .int 0, .int 0, .int 0, .int 0, .int 0, .int 0, .int 0, .int 0, .int 0, .int 0]))] s.heap.size) ([(q, (.inr (0, [.ref a1, .ref a2, .int 0, .int 0, .int 0, .int 0, .int 0, .int 0, .int 0, .int 0, .int 0, .int 0]) : va_E)), (a1, (.inl (ky 1, 10, .inl (fun _ => 0)) : va_E)), (a2, (.inl (ky 4, 8, .inr (.inr (.inr (.inr (fun _ => none))))) : va_E))]) H locs := C
  refine lv_aload_n F.x F.b dX0_init_31 rfl (lv_at hl 0 rfl) ?_
  refine lv_iconst (v := 4) F.x F.b dX0_init_32 (by decide) ?_
  refine cPut F C rfl rfl inA0 tyX0_ok nmX0 4 (by decide) q1_92 rfl rfl (ty := .int) (v := .int 4) (by decide +kernel) rfl rfl (Nat.le_of_ble_eq_true rfl) dX0_init_33 (fun H locs C => ?_)
  have C : Ck D s (va_A [(q, .inr (0, [.null, .null, .int 0, .int 0, .int 0, .int 0, .int 0, .int 0, .int 0, .int 0, .int 0, .int 0]))] s.heap.size) ([(q, (.inr (0, [.ref a1, .ref a2, .int 0, .int 0, .int 4, .int 0, .int 0, .int 0, .int 0, .int 0, .int 0, .int 0]) : va_E)), (a1, (.inl (ky 1, 10, .inl (fun _ => 0)) : va_E)), (a2, (.inl (ky 4, 8, .inr (.inr (.inr (.inr (fun _ => none))))) : va_E))]) H locs := C
  refine lv_aload_n F.x F.b dX0_init_36 rfl (lv_at hl 0 rfl) ?_
  refine lv_iconst (v := 0) F.x F.b dX0_init_37 (by decide) ?_
  refine cPut F C rfl rfl inA0 tyX0_ok nmX0 5 (by decide) q1_94 rfl rfl (ty := .int) (v := .int 0) (by decide +kernel) rfl rfl (Nat.le_of_ble_eq_true rfl) dX0_init_38 (fun H locs C => ?_)
  have C : Ck D s (va_A [(q, .inr (0, [.null, .null, .int 0, .int 0, .int 0, .int 0, .int 0, .int 0, .int 0, .int 0, .int 0, .int 0]))] s.heap.size) ([(q, (.inr (0, [.ref a1, .ref a2, .int 0, .int 0, .int 4, .int 0, .int 0, .int 0, .int 0, .int 0, .int 0, .int 0]) : va_E)), (a1, (.inl (ky 1, 10, .inl (fun _ => 0)) : va_E)), (a2, (.inl (ky 4, 8, .inr (.inr (.inr (.inr (fun _ => none))))) : va_E))]) H locs := C
  refine lv_aload_n F.x F.b dX0_init_41 rfl (lv_at hl 0 rfl) ?_
  refine lv_iconst (v := 0) F.x F.b dX0_init_42 (by decide) ?_
  refine cPut F C rfl rfl inA0 tyX0_ok nmX0 6 (by decide) q1_96 rfl rfl (ty := .int) (v := .int 0) (by decide +kernel) rfl rfl (Nat.le_of_ble_eq_true rfl) dX0_init_43 (fun H locs C => ?_)
  have C : Ck D s (va_A [(q, .inr (0, [.null, .null, .int 0, .int 0, .int 0, .int 0, .int 0, .int 0, .int 0, .int 0, .int 0, .int 0]))] s.heap.size) ([(q, (.inr (0, [.ref a1, .ref a2, .int 0, .int 0, .int 4, .int 0, .int 0, .int 0, .int 0, .int 0, .int 0, .int 0]) : va_E)), (a1, (.inl (ky 1, 10, .inl (fun _ => 0)) : va_E)), (a2, (.inl (ky 4, 8, .inr (.inr (.inr (.inr (fun _ => none))))) : va_E))]) H locs := C
  refine lv_aload_n F.x F.b dX0_init_46 rfl (lv_at hl 0 rfl) ?_
  refine lv_iconst (v := 0) F.x F.b dX0_init_47 (by decide) ?_
  refine cPut F C rfl rfl inA0 tyX0_ok nmX0 7 (by decide) q1_98 rfl rfl (ty := .int) (v := .int 0) (by decide +kernel) rfl rfl (Nat.le_of_ble_eq_true rfl) dX0_init_48 (fun H locs C => ?_)
  have C : Ck D s (va_A [(q, .inr (0, [.null, .null, .int 0, .int 0, .int 0, .int 0, .int 0, .int 0, .int 0, .int 0, .int 0, .int 0]))] s.heap.size) ([(q, (.inr (0, [.ref a1, .ref a2, .int 0, .int 0, .int 4, .int 0, .int 0, .int 0, .int 0, .int 0, .int 0, .int 0]) : va_E)), (a1, (.inl (ky 1, 10, .inl (fun _ => 0)) : va_E)), (a2, (.inl (ky 4, 8, .inr (.inr (.inr (.inr (fun _ => none))))) : va_E))]) H locs := C
  refine lv_aload_n F.x F.b dX0_init_51 rfl (lv_at hl 0 rfl) ?_
  refine lv_iconst (v := 0) F.x F.b dX0_init_52 (by decide) ?_
  refine cPut F C rfl rfl inA0 tyX0_ok nmX0 8 (by decide) q1_100 rfl rfl (ty := .int) (v := .int 0) (by decide +kernel) rfl rfl (Nat.le_of_ble_eq_true rfl) dX0_init_53 (fun H locs C => ?_)
  have C : Ck D s (va_A [(q, .inr (0, [.null, .null, .int 0, .int 0, .int 0, .int 0, .int 0, .int 0, .int 0, .int 0, .int 0, .int 0]))] s.heap.size) ([(q, (.inr (0, [.ref a1, .ref a2, .int 0, .int 0, .int 4, .int 0, .int 0, .int 0, .int 0, .int 0, .int 0, .int 0]) : va_E)), (a1, (.inl (ky 1, 10, .inl (fun _ => 0)) : va_E)), (a2, (.inl (ky 4, 8, .inr (.inr (.inr (.inr (fun _ => none))))) : va_E))]) H locs := C
  refine lv_aload_n F.x F.b dX0_init_56 rfl (lv_at hl 0 rfl) ?_
  refine lv_iconst (v := 0) F.x F.b dX0_init_57 (by decide) ?_
  refine cPut F C rfl rfl inA0 tyX0_ok nmX0 9 (by decide) q1_102 rfl rfl (ty := .int) (v := .int 0) (by decide +kernel) rfl rfl (Nat.le_of_ble_eq_true rfl) dX0_init_58 (fun H locs C => ?_)
  have C : Ck D s (va_A [(q, .inr (0, [.null, .null, .int 0, .int 0, .int 0, .int 0, .int 0, .int 0, .int 0, .int 0, .int 0, .int 0]))] s.heap.size) ([(q, (.inr (0, [.ref a1, .ref a2, .int 0, .int 0, .int 4, .int 0, .int 0, .int 0, .int 0, .int 0, .int 0, .int 0]) : va_E)), (a1, (.inl (ky 1, 10, .inl (fun _ => 0)) : va_E)), (a2, (.inl (ky 4, 8, .inr (.inr (.inr (.inr (fun _ => none))))) : va_E))]) H locs := C
  refine lv_aload_n F.x F.b dX0_init_61 rfl (lv_at hl 0 rfl) ?_
  refine lv_iconst (v := 0) F.x F.b dX0_init_62 (by decide) ?_
  refine cPut F C rfl rfl inA0 tyX0_ok nmX0 10 (by decide) q1_104 rfl rfl (ty := .int) (v := .int 0) (by decide +kernel) rfl rfl (Nat.le_of_ble_eq_true rfl) dX0_init_63 (fun H locs C => ?_)
  have C : Ck D s (va_A [(q, .inr (0, [.null, .null, .int 0, .int 0, .int 0, .int 0, .int 0, .int 0, .int 0, .int 0, .int 0, .int 0]))] s.heap.size) ([(q, (.inr (0, [.ref a1, .ref a2, .int 0, .int 0, .int 4, .int 0, .int 0, .int 0, .int 0, .int 0, .int 0, .int 0]) : va_E)), (a1, (.inl (ky 1, 10, .inl (fun _ => 0)) : va_E)), (a2, (.inl (ky 4, 8, .inr (.inr (.inr (.inr (fun _ => none))))) : va_E))]) H locs := C
  refine lv_aload_n F.x F.b dX0_init_66 rfl (lv_at hl 0 rfl) ?_
  refine lv_iconst (v := 0) F.x F.b dX0_init_67 (by decide) ?_
  refine cPut F C rfl rfl inA0 tyX0_ok nmX0 11 (by decide) q1_106 rfl rfl (ty := .int) (v := .int 0) (by decide +kernel) rfl rfl (Nat.le_of_ble_eq_true rfl) dX0_init_68 (fun H locs C => ?_)
  have C : Ck D s (va_A [(q, .inr (0, [.null, .null, .int 0, .int 0, .int 0, .int 0, .int 0, .int 0, .int 0, .int 0, .int 0, .int 0]))] s.heap.size) ([(q, (.inr (0, [.ref a1, .ref a2, .int 0, .int 0, .int 4, .int 0, .int 0, .int 0, .int 0, .int 0, .int 0, .int 0]) : va_E)), (a1, (.inl (ky 1, 10, .inl (fun _ => 0)) : va_E)), (a2, (.inl (ky 4, 8, .inr (.inr (.inr (.inr (fun _ => none))))) : va_E))]) H locs := C
  refine lv_iconst (v := 0) F.x F.b dX0_init_71 (by decide) ?_
  refine lv_istore_n (lv' := [(1, .int 0), (0, .ref q)]) F.x F.b dX0_init_72 rfl hl (by decide) rfl (fun ls hl => ?_)
  refine lv_iload_n F.x F.b dX0_init_73 rfl (lv_at hl 0 rfl) ?_
  refine lv_bipush (v := 10) F.x F.b dX0_init_74 (by decide) ?_
  refine lv_icmp_ge (tgt := 93) F.x F.b dX0_init_76 (by decide) (fun h9 => absurd h9 (by decide)) (fun _ => ?_)
  refine lv_aload_n F.x F.b dX0_init_79 rfl (lv_at hl 1 rfl) ?_
  refine cGet F C rfl rfl inA0 0 (by decide) q1_82 rfl (v := .ref a1) rfl dX0_init_80 ?_
  refine lv_iload_n F.x F.b dX0_init_83 rfl (lv_at hl 0 rfl) ?_
  refine lv_bipush (v := 10) F.x F.b dX0_init_84 (by decide) ?_
  refine cAsti F C 1 rfl (by unfold vp_in; decide) dX0_init_86 (fun H locs C => ?_)
  have C : Ck D s (va_A [(q, .inr (0, [.null, .null, .int 0, .int 0, .int 0, .int 0, .int 0, .int 0, .int 0, .int 0, .int 0, .int 0]))] s.heap.size) ([(q, (.inr (0, [.ref a1, .ref a2, .int 0, .int 0, .int 4, .int 0, .int 0, .int 0, .int 0, .int 0, .int 0, .int 0]) : va_E)), (a1, (.inl (ky 1, 10, .inl (upd (fun _ => 0) 0 10)) : va_E)), (a2, (.inl (ky 4, 8, .inr (.inr (.inr (.inr (fun _ => none))))) : va_E))]) H locs := C
  refine lv_iinc (v := 1) (lv' := [(1, .int 1), (0, .ref q)]) F.x F.b dX0_init_87 hl (k := 0) rfl (by decide) (by decide) rfl (fun ls hl => ?_)
  refine lv_goto (tgt := 73) F.x F.b dX0_init_90 (by decide) ?_
  refine lv_iload_n F.x F.b dX0_init_73 rfl (lv_at hl 0 rfl) ?_
  refine lv_bipush (v := 10) F.x F.b dX0_init_74 (by decide) ?_
  refine lv_icmp_ge (tgt := 93) F.x F.b dX0_init_76 (by decide) (fun h9 => absurd h9 (by decide)) (fun _ => ?_)
  refine lv_aload_n F.x F.b dX0_init_79 rfl (lv_at hl 1 rfl) ?_
  refine cGet F C rfl rfl inA0 0 (by decide) q1_82 rfl (v := .ref a1) rfl dX0_init_80 ?_
  refine lv_iload_n F.x F.b dX0_init_83 rfl (lv_at hl 0 rfl) ?_
  refine lv_bipush (v := 10) F.x F.b dX0_init_84 (by decide) ?_
  refine cAsti F C 1 rfl (by unfold vp_in; decide) dX0_init_86 (fun H locs C => ?_)
  have C : Ck D s (va_A [(q, .inr (0, [.null, .null, .int 0, .int 0, .int 0, .int 0, .int 0, .int 0, .int 0, .int 0, .int 0, .int 0]))] s.heap.size) ([(q, (.inr (0, [.ref a1, .ref a2, .int 0, .int 0, .int 4, .int 0, .int 0, .int 0, .int 0, .int 0, .int 0, .int 0]) : va_E)), (a1, (.inl (ky 1, 10, .inl (upd (upd (fun _ => 0) 0 10) 1 10)) : va_E)), (a2, (.inl (ky 4, 8, .inr (.inr (.inr (.inr (fun _ => none))))) : va_E))]) H locs := C
  refine lv_iinc (v := 2) (lv' := [(1, .int 2), (0, .ref q)]) F.x F.b dX0_init_87 hl (k := 0) rfl (by decide) (by decide) rfl (fun ls hl => ?_)
  refine lv_goto (tgt := 73) F.x F.b dX0_init_90 (by decide) ?_
  refine lv_iload_n F.x F.b dX0_init_73 rfl (lv_at hl 0 rfl) ?_
  refine lv_bipush (v := 10) F.x F.b dX0_init_74 (by decide) ?_
  refine lv_icmp_ge (tgt := 93) F.x F.b dX0_init_76 (by decide) (fun h9 => absurd h9 (by decide)) (fun _ => ?_)
  refine lv_aload_n F.x F.b dX0_init_79 rfl (lv_at hl 1 rfl) ?_
  refine cGet F C rfl rfl inA0 0 (by decide) q1_82 rfl (v := .ref a1) rfl dX0_init_80 ?_
  refine lv_iload_n F.x F.b dX0_init_83 rfl (lv_at hl 0 rfl) ?_
  refine lv_bipush (v := 10) F.x F.b dX0_init_84 (by decide) ?_
  refine cAsti F C 1 rfl (by unfold vp_in; decide) dX0_init_86 (fun H locs C => ?_)
  have C : Ck D s (va_A [(q, .inr (0, [.null, .null, .int 0, .int 0, .int 0, .int 0, .int 0, .int 0, .int 0, .int 0, .int 0, .int 0]))] s.heap.size) ([(q, (.inr (0, [.ref a1, .ref a2, .int 0, .int 0, .int 4, .int 0, .int 0, .int 0, .int 0, .int 0, .int 0, .int 0]) : va_E)), (a1, (.inl (ky 1, 10, .inl (upd (upd (upd (fun _ => 0) 0 10) 1 10) 2 10)) : va_E)), (a2, (.inl (ky 4, 8, .inr (.inr (.inr (.inr (fun _ => none))))) : va_E))]) H locs := C
  refine lv_iinc (v := 3) (lv' := [(1, .int 3), (0, .ref q)]) F.x F.b dX0_init_87 hl (k := 0) rfl (by decide) (by decide) rfl (fun ls hl => ?_)
  refine lv_goto (tgt := 73) F.x F.b dX0_init_90 (by decide) ?_
  refine lv_iload_n F.x F.b dX0_init_73 rfl (lv_at hl 0 rfl) ?_
  refine lv_bipush (v := 10) F.x F.b dX0_init_74 (by decide) ?_
  refine lv_icmp_ge (tgt := 93) F.x F.b dX0_init_76 (by decide) (fun h9 => absurd h9 (by decide)) (fun _ => ?_)
  refine lv_aload_n F.x F.b dX0_init_79 rfl (lv_at hl 1 rfl) ?_
  refine cGet F C rfl rfl inA0 0 (by decide) q1_82 rfl (v := .ref a1) rfl dX0_init_80 ?_
  refine lv_iload_n F.x F.b dX0_init_83 rfl (lv_at hl 0 rfl) ?_
  refine lv_bipush (v := 10) F.x F.b dX0_init_84 (by decide) ?_
  refine cAsti F C 1 rfl (by unfold vp_in; decide) dX0_init_86 (fun H locs C => ?_)
  have C : Ck D s (va_A [(q, .inr (0, [.null, .null, .int 0, .int 0, .int 0, .int 0, .int 0, .int 0, .int 0, .int 0, .int 0, .int 0]))] s.heap.size) ([(q, (.inr (0, [.ref a1, .ref a2, .int 0, .int 0, .int 4, .int 0, .int 0, .int 0, .int 0, .int 0, .int 0, .int 0]) : va_E)), (a1, (.inl (ky 1, 10, .inl (upd (upd (upd (upd (fun _ => 0) 0 10) 1 10) 2 10) 3 10)) : va_E)), (a2, (.inl (ky 4, 8, .inr (.inr (.inr (.inr (fun _ => none))))) : va_E))]) H locs := C
  refine lv_iinc (v := 4) (lv' := [(1, .int 4), (0, .ref q)]) F.x F.b dX0_init_87 hl (k := 0) rfl (by decide) (by decide) rfl (fun ls hl => ?_)
  refine lv_goto (tgt := 73) F.x F.b dX0_init_90 (by decide) ?_
  refine lv_iload_n F.x F.b dX0_init_73 rfl (lv_at hl 0 rfl) ?_
  refine lv_bipush (v := 10) F.x F.b dX0_init_74 (by decide) ?_
  refine lv_icmp_ge (tgt := 93) F.x F.b dX0_init_76 (by decide) (fun h9 => absurd h9 (by decide)) (fun _ => ?_)
  refine lv_aload_n F.x F.b dX0_init_79 rfl (lv_at hl 1 rfl) ?_
  refine cGet F C rfl rfl inA0 0 (by decide) q1_82 rfl (v := .ref a1) rfl dX0_init_80 ?_
  refine lv_iload_n F.x F.b dX0_init_83 rfl (lv_at hl 0 rfl) ?_
  refine lv_bipush (v := 10) F.x F.b dX0_init_84 (by decide) ?_
  refine cAsti F C 1 rfl (by unfold vp_in; decide) dX0_init_86 (fun H locs C => ?_)
  have C : Ck D s (va_A [(q, .inr (0, [.null, .null, .int 0, .int 0, .int 0, .int 0, .int 0, .int 0, .int 0, .int 0, .int 0, .int 0]))] s.heap.size) ([(q, (.inr (0, [.ref a1, .ref a2, .int 0, .int 0, .int 4, .int 0, .int 0, .int 0, .int 0, .int 0, .int 0, .int 0]) : va_E)), (a1, (.inl (ky 1, 10, .inl (upd (upd (upd (upd (upd (fun _ => 0) 0 10) 1 10) 2 10) 3 10) 4 10)) : va_E)), (a2, (.inl (ky 4, 8, .inr (.inr (.inr (.inr (fun _ => none))))) : va_E))]) H locs := C
  refine lv_iinc (v := 5) (lv' := [(1, .int 5), (0, .ref q)]) F.x F.b dX0_init_87 hl (k := 0) rfl (by decide) (by decide) rfl (fun ls hl => ?_)
  refine lv_goto (tgt := 73) F.x F.b dX0_init_90 (by decide) ?_
  refine lv_iload_n F.x F.b dX0_init_73 rfl (lv_at hl 0 rfl) ?_
  refine lv_bipush (v := 10) F.x F.b dX0_init_74 (by decide) ?_
  refine lv_icmp_ge (tgt := 93) F.x F.b dX0_init_76 (by decide) (fun h9 => absurd h9 (by decide)) (fun _ => ?_)
  refine lv_aload_n F.x F.b dX0_init_79 rfl (lv_at hl 1 rfl) ?_
  refine cGet F C rfl rfl inA0 0 (by decide) q1_82 rfl (v := .ref a1) rfl dX0_init_80 ?_
  refine lv_iload_n F.x F.b dX0_init_83 rfl (lv_at hl 0 rfl) ?_
  refine lv_bipush (v := 10) F.x F.b dX0_init_84 (by decide) ?_
  refine cAsti F C 1 rfl (by unfold vp_in; decide) dX0_init_86 (fun H locs C => ?_)
  have C : Ck D s (va_A [(q, .inr (0, [.null, .null, .int 0, .int 0, .int 0, .int 0, .int 0, .int 0, .int 0, .int 0, .int 0, .int 0]))] s.heap.size) ([(q, (.inr (0, [.ref a1, .ref a2, .int 0, .int 0, .int 4, .int 0, .int 0, .int 0, .int 0, .int 0, .int 0, .int 0]) : va_E)), (a1, (.inl (ky 1, 10, .inl (upd (upd (upd (upd (upd (upd (fun _ => 0) 0 10) 1 10) 2 10) 3 10) 4 10) 5 10)) : va_E)), (a2, (.inl (ky 4, 8, .inr (.inr (.inr (.inr (fun _ => none))))) : va_E))]) H locs := C
  refine lv_iinc (v := 6) (lv' := [(1, .int 6), (0, .ref q)]) F.x F.b dX0_init_87 hl (k := 0) rfl (by decide) (by decide) rfl (fun ls hl => ?_)
  refine lv_goto (tgt := 73) F.x F.b dX0_init_90 (by decide) ?_
  refine lv_iload_n F.x F.b dX0_init_73 rfl (lv_at hl 0 rfl) ?_
  refine lv_bipush (v := 10) F.x F.b dX0_init_74 (by decide) ?_
  refine lv_icmp_ge (tgt := 93) F.x F.b dX0_init_76 (by decide) (fun h9 => absurd h9 (by decide)) (fun _ => ?_)
  refine lv_aload_n F.x F.b dX0_init_79 rfl (lv_at hl 1 rfl) ?_
  refine cGet F C rfl rfl inA0 0 (by decide) q1_82 rfl (v := .ref a1) rfl dX0_init_80 ?_
  refine lv_iload_n F.x F.b dX0_init_83 rfl (lv_at hl 0 rfl) ?_
  refine lv_bipush (v := 10) F.x F.b dX0_init_84 (by decide) ?_
  refine cAsti F C 1 rfl (by unfold vp_in; decide) dX0_init_86 (fun H locs C => ?_)
  have C : Ck D s (va_A [(q, .inr (0, [.null, .null, .int 0, .int 0, .int 0, .int 0, .int 0, .int 0, .int 0, .int 0, .int 0, .int 0]))] s.heap.size) ([(q, (.inr (0, [.ref a1, .ref a2, .int 0, .int 0, .int 4, .int 0, .int 0, .int 0, .int 0, .int 0, .int 0, .int 0]) : va_E)), (a1, (.inl (ky 1, 10, .inl (upd (upd (upd (upd (upd (upd (upd (fun _ => 0) 0 10) 1 10) 2 10) 3 10) 4 10) 5 10) 6 10)) : va_E)), (a2, (.inl (ky 4, 8, .inr (.inr (.inr (.inr (fun _ => none))))) : va_E))]) H locs := C
  refine lv_iinc (v := 7) (lv' := [(1, .int 7), (0, .ref q)]) F.x F.b dX0_init_87 hl (k := 0) rfl (by decide) (by decide) rfl (fun ls hl => ?_)
  refine lv_goto (tgt := 73) F.x F.b dX0_init_90 (by decide) ?_
  refine lv_iload_n F.x F.b dX0_init_73 rfl (lv_at hl 0 rfl) ?_
  refine lv_bipush (v := 10) F.x F.b dX0_init_74 (by decide) ?_
  refine lv_icmp_ge (tgt := 93) F.x F.b dX0_init_76 (by decide) (fun h9 => absurd h9 (by decide)) (fun _ => ?_)
  refine lv_aload_n F.x F.b dX0_init_79 rfl (lv_at hl 1 rfl) ?_
  refine cGet F C rfl rfl inA0 0 (by decide) q1_82 rfl (v := .ref a1) rfl dX0_init_80 ?_
  refine lv_iload_n F.x F.b dX0_init_83 rfl (lv_at hl 0 rfl) ?_
  refine lv_bipush (v := 10) F.x F.b dX0_init_84 (by decide) ?_
  refine cAsti F C 1 rfl (by unfold vp_in; decide) dX0_init_86 (fun H locs C => ?_)
  have C : Ck D s (va_A [(q, .inr (0, [.null, .null, .int 0, .int 0, .int 0, .int 0, .int 0, .int 0, .int 0, .int 0, .int 0, .int 0]))] s.heap.size) ([(q, (.inr (0, [.ref a1, .ref a2, .int 0, .int 0, .int 4, .int 0, .int 0, .int 0, .int 0, .int 0, .int 0, .int 0]) : va_E)), (a1, (.inl (ky 1, 10, .inl (upd (upd (upd (upd (upd (upd (upd (upd (fun _ => 0) 0 10) 1 10) 2 10) 3 10) 4 10) 5 10) 6 10) 7 10)) : va_E)), (a2, (.inl (ky 4, 8, .inr (.inr (.inr (.inr (fun _ => none))))) : va_E))]) H locs := C
  refine lv_iinc (v := 8) (lv' := [(1, .int 8), (0, .ref q)]) F.x F.b dX0_init_87 hl (k := 0) rfl (by decide) (by decide) rfl (fun ls hl => ?_)
  refine lv_goto (tgt := 73) F.x F.b dX0_init_90 (by decide) ?_
  refine lv_iload_n F.x F.b dX0_init_73 rfl (lv_at hl 0 rfl) ?_
  refine lv_bipush (v := 10) F.x F.b dX0_init_74 (by decide) ?_
  refine lv_icmp_ge (tgt := 93) F.x F.b dX0_init_76 (by decide) (fun h9 => absurd h9 (by decide)) (fun _ => ?_)
  refine lv_aload_n F.x F.b dX0_init_79 rfl (lv_at hl 1 rfl) ?_
  refine cGet F C rfl rfl inA0 0 (by decide) q1_82 rfl (v := .ref a1) rfl dX0_init_80 ?_
  refine lv_iload_n F.x F.b dX0_init_83 rfl (lv_at hl 0 rfl) ?_
  refine lv_bipush (v := 10) F.x F.b dX0_init_84 (by decide) ?_
  refine cAsti F C 1 rfl (by unfold vp_in; decide) dX0_init_86 (fun H locs C => ?_)
  have C : Ck D s (va_A [(q, .inr (0, [.null, .null, .int 0, .int 0, .int 0, .int 0, .int 0, .int 0, .int 0, .int 0, .int 0, .int 0]))] s.heap.size) ([(q, (.inr (0, [.ref a1, .ref a2, .int 0, .int 0, .int 4, .int 0, .int 0, .int 0, .int 0, .int 0, .int 0, .int 0]) : va_E)), (a1, (.inl (ky 1, 10, .inl (upd (upd (upd (upd (upd (upd (upd (upd (upd (fun _ => 0) 0 10) 1 10) 2 10) 3 10) 4 10) 5 10) 6 10) 7 10) 8 10)) : va_E)), (a2, (.inl (ky 4, 8, .inr (.inr (.inr (.inr (fun _ => none))))) : va_E))]) H locs := C
  refine lv_iinc (v := 9) (lv' := [(1, .int 9), (0, .ref q)]) F.x F.b dX0_init_87 hl (k := 0) rfl (by decide) (by decide) rfl (fun ls hl => ?_)
  refine lv_goto (tgt := 73) F.x F.b dX0_init_90 (by decide) ?_
  refine lv_iload_n F.x F.b dX0_init_73 rfl (lv_at hl 0 rfl) ?_
  refine lv_bipush (v := 10) F.x F.b dX0_init_74 (by decide) ?_
  refine lv_icmp_ge (tgt := 93) F.x F.b dX0_init_76 (by decide) (fun h9 => absurd h9 (by decide)) (fun _ => ?_)
  refine lv_aload_n F.x F.b dX0_init_79 rfl (lv_at hl 1 rfl) ?_
  refine cGet F C rfl rfl inA0 0 (by decide) q1_82 rfl (v := .ref a1) rfl dX0_init_80 ?_
  refine lv_iload_n F.x F.b dX0_init_83 rfl (lv_at hl 0 rfl) ?_
  refine lv_bipush (v := 10) F.x F.b dX0_init_84 (by decide) ?_
  refine cAsti F C 1 rfl (by unfold vp_in; decide) dX0_init_86 (fun H locs C => ?_)
  have C : Ck D s (va_A [(q, .inr (0, [.null, .null, .int 0, .int 0, .int 0, .int 0, .int 0, .int 0, .int 0, .int 0, .int 0, .int 0]))] s.heap.size) ([(q, (.inr (0, [.ref a1, .ref a2, .int 0, .int 0, .int 4, .int 0, .int 0, .int 0, .int 0, .int 0, .int 0, .int 0]) : va_E)), (a1, (.inl (ky 1, 10, .inl (upd (upd (upd (upd (upd (upd (upd (upd (upd (upd (fun _ => 0) 0 10) 1 10) 2 10) 3 10) 4 10) 5 10) 6 10) 7 10) 8 10) 9 10)) : va_E)), (a2, (.inl (ky 4, 8, .inr (.inr (.inr (.inr (fun _ => none))))) : va_E))]) H locs := C
  refine lv_iinc (v := 10) (lv' := [(1, .int 10), (0, .ref q)]) F.x F.b dX0_init_87 hl (k := 0) rfl (by decide) (by decide) rfl (fun ls hl => ?_)
  refine lv_goto (tgt := 73) F.x F.b dX0_init_90 (by decide) ?_
  refine lv_iload_n F.x F.b dX0_init_73 rfl (lv_at hl 0 rfl) ?_
  refine lv_bipush (v := 10) F.x F.b dX0_init_74 (by decide) ?_
  refine lv_icmp_ge (tgt := 93) F.x F.b dX0_init_76 (by decide) (fun _ => ?_) (fun h9 => absurd (by decide) h9)
  refine lv_iconst (v := 0) F.x F.b dX0_init_93 (by decide) ?_
  refine lv_istore_n (lv' := [(1, .int 0), (0, .ref q)]) F.x F.b dX0_init_94 rfl hl (by decide) rfl (fun ls hl => ?_)
  refine lv_iload_n F.x F.b dX0_init_95 rfl (lv_at hl 0 rfl) ?_
  refine lv_bipush (v := 8) F.x F.b dX0_init_96 (by decide) ?_
  refine lv_icmp_ge (tgt := 120) F.x F.b dX0_init_98 (by decide) (fun h9 => absurd h9 (by decide)) (fun _ => ?_)
  refine lv_aload_n F.x F.b dX0_init_101 rfl (lv_at hl 1 rfl) ?_
  refine cGet F C rfl rfl inA0 1 (by decide) q1_84 rfl (v := .ref a2) rfl dX0_init_102 ?_
  refine lv_iload_n F.x F.b dX0_init_105 rfl (lv_at hl 0 rfl) ?_
  refine cNew (ci := 3) F C inA3 tyX3_ok q1_36 q1_38 q1_3 rfl (fs := [.int 0, .int 0, .int 0, .int 0, .int 0, .int 0, .int 0, .int 0]) (fun j hj => by rcases (show j = 0 ∨ j = 1 ∨ j = 2 ∨ j = 3 ∨ j = 4 ∨ j = 5 ∨ j = 6 ∨ j = 7 by omega) with rfl | rfl | rfl | rfl | rfl | rfl | rfl | rfl <;> rfl) (Nat.le_of_ble_eq_true rfl) (Nat.le_of_ble_eq_true rfl) dX0_init_106 (fun b3 H C => ?_)
  refine lv_dup F.x F.b dX0_init_109 rfl ?_
  refine cCallN F C hl (kX3_init l D ky b3) ⟨q1_39, q1_40, q1_3, q1_41⟩ ⟨rfl, by decide, by decide, by decide +kernel⟩ ⟨rfl, rfl, ⟨Nat.le_of_ble_eq_true rfl, Nat.le_of_ble_eq_true rfl⟩, ⟨Nat.le_of_ble_eq_true rfl, Nat.le_of_ble_eq_true rfl⟩, Nat.le_of_ble_eq_true rfl⟩ (rest := [.ref b3, .int 0, .ref a2]) dX0_init_110 (fun u4 H locs hu5 C => ?_)
  obtain rfl := hu5
  have C : Ck D s (va_A [(q, .inr (0, [.null, .null, .int 0, .int 0, .int 0, .int 0, .int 0, .int 0, .int 0, .int 0, .int 0, .int 0]))] s.heap.size) ([(q, (.inr (0, [.ref a1, .ref a2, .int 0, .int 0, .int 4, .int 0, .int 0, .int 0, .int 0, .int 0, .int 0, .int 0]) : va_E)), (a1, (.inl (ky 1, 10, .inl (upd (upd (upd (upd (upd (upd (upd (upd (upd (upd (fun _ => 0) 0 10) 1 10) 2 10) 3 10) 4 10) 5 10) 6 10) 7 10) 8 10) 9 10)) : va_E)), (a2, (.inl (ky 4, 8, .inr (.inr (.inr (.inr (fun _ => none))))) : va_E)), (b3, (.inr (3, [.int 0, .int 0, .int (-1), .int 0, .int 1, .int 0, .int 0, .int 0]) : va_E))]) H locs := C
  refine cAstq F C 2 4 (ci := 3) (vs := [.int 0, .int 0, .int (-1), .int 0, .int 1, .int 0, .int 0, .int 0]) rfl rfl (List.mem_of_getElem? (i := 3) rfl) rfl (by unfold vp_in; decide) dX0_init_113 (fun H locs C => ?_)
  have C : Ck D s (va_A [(q, .inr (0, [.null, .null, .int 0, .int 0, .int 0, .int 0, .int 0, .int 0, .int 0, .int 0, .int 0, .int 0]))] s.heap.size) ([(q, (.inr (0, [.ref a1, .ref a2, .int 0, .int 0, .int 4, .int 0, .int 0, .int 0, .int 0, .int 0, .int 0, .int 0]) : va_E)), (a1, (.inl (ky 1, 10, .inl (upd (upd (upd (upd (upd (upd (upd (upd (upd (upd (fun _ => 0) 0 10) 1 10) 2 10) 3 10) 4 10) 5 10) 6 10) 7 10) 8 10) 9 10)) : va_E)), (a2, (.inl (ky 4, 8, .inr (.inr (.inr (.inr (va_up (fun _ => none) 0 (some b3)))))) : va_E)), (b3, (.inr (3, [.int 0, .int 0, .int (-1), .int 0, .int 1, .int 0, .int 0, .int 0]) : va_E))]) H locs := C
  refine lv_iinc (v := 1) (lv' := [(1, .int 1), (0, .ref q)]) F.x F.b dX0_init_114 hl (k := 0) rfl (by decide) (by decide) rfl (fun ls hl => ?_)
  refine lv_goto (tgt := 95) F.x F.b dX0_init_117 (by decide) ?_
  refine lv_iload_n F.x F.b dX0_init_95 rfl (lv_at hl 0 rfl) ?_
  refine lv_bipush (v := 8) F.x F.b dX0_init_96 (by decide) ?_
  refine lv_icmp_ge (tgt := 120) F.x F.b dX0_init_98 (by decide) (fun h9 => absurd h9 (by decide)) (fun _ => ?_)
  refine lv_aload_n F.x F.b dX0_init_101 rfl (lv_at hl 1 rfl) ?_
  refine cGet F C rfl rfl inA0 1 (by decide) q1_84 rfl (v := .ref a2) rfl dX0_init_102 ?_
  refine lv_iload_n F.x F.b dX0_init_105 rfl (lv_at hl 0 rfl) ?_
  refine cNew (ci := 3) F C inA3 tyX3_ok q1_36 q1_38 q1_3 rfl (fs := [.int 0, .int 0, .int 0, .int 0, .int 0, .int 0, .int 0, .int 0]) (fun j hj => by rcases (show j = 0 ∨ j = 1 ∨ j = 2 ∨ j = 3 ∨ j = 4 ∨ j = 5 ∨ j = 6 ∨ j = 7 by omega) with rfl | rfl | rfl | rfl | rfl | rfl | rfl | rfl <;> rfl) (Nat.le_of_ble_eq_true rfl) (Nat.le_of_ble_eq_true rfl) dX0_init_106 (fun b6 H C => ?_)
  refine lv_dup F.x F.b dX0_init_109 rfl ?_
  refine cCallN F C hl (kX3_init l D ky b6) ⟨q1_39, q1_40, q1_3, q1_41⟩ ⟨rfl, by decide, by decide, by decide +kernel⟩ ⟨rfl, rfl, ⟨Nat.le_of_ble_eq_true rfl, Nat.le_of_ble_eq_true rfl⟩, ⟨Nat.le_of_ble_eq_true rfl, Nat.le_of_ble_eq_true rfl⟩, Nat.le_of_ble_eq_true rfl⟩ (rest := [.ref b6, .int 1, .ref a2]) dX0_init_110 (fun u7 H locs hu8 C => ?_)
  obtain rfl := hu8
  have C : Ck D s (va_A [(q, .inr (0, [.null, .null, .int 0, .int 0, .int 0, .int 0, .int 0, .int 0, .int 0, .int 0, .int 0, .int 0]))] s.heap.size) ([(q, (.inr (0, [.ref a1, .ref a2, .int 0, .int 0, .int 4, .int 0, .int 0, .int 0, .int 0, .int 0, .int 0, .int 0]) : va_E)), (a1, (.inl (ky 1, 10, .inl (upd (upd (upd (upd (upd (upd (upd (upd (upd (upd (fun _ => 0) 0 10) 1 10) 2 10) 3 10) 4 10) 5 10) 6 10) 7 10) 8 10) 9 10)) : va_E)), (a2, (.inl (ky 4, 8, .inr (.inr (.inr (.inr (va_up (fun _ => none) 0 (some b3)))))) : va_E)), (b3, (.inr (3, [.int 0, .int 0, .int (-1), .int 0, .int 1, .int 0, .int 0, .int 0]) : va_E)), (b6, (.inr (3, [.int 0, .int 0, .int (-1), .int 0, .int 1, .int 0, .int 0, .int 0]) : va_E))]) H locs := C
  refine cAstq F C 2 4 (ci := 3) (vs := [.int 0, .int 0, .int (-1), .int 0, .int 1, .int 0, .int 0, .int 0]) rfl rfl (List.mem_of_getElem? (i := 4) rfl) rfl (by unfold vp_in; decide) dX0_init_113 (fun H locs C => ?_)
  have C : Ck D s (va_A [(q, .inr (0, [.null, .null, .int 0, .int 0, .int 0, .int 0, .int 0, .int 0, .int 0, .int 0, .int 0, .int 0]))] s.heap.size) ([(q, (.inr (0, [.ref a1, .ref a2, .int 0, .int 0, .int 4, .int 0, .int 0, .int 0, .int 0, .int 0, .int 0, .int 0]) : va_E)), (a1, (.inl (ky 1, 10, .inl (upd (upd (upd (upd (upd (upd (upd (upd (upd (upd (fun _ => 0) 0 10) 1 10) 2 10) 3 10) 4 10) 5 10) 6 10) 7 10) 8 10) 9 10)) : va_E)), (a2, (.inl (ky 4, 8, .inr (.inr (.inr (.inr (va_up (va_up (fun _ => none) 0 (some b3)) 1 (some b6)))))) : va_E)), (b3, (.inr (3, [.int 0, .int 0, .int (-1), .int 0, .int 1, .int 0, .int 0, .int 0]) : va_E)), (b6, (.inr (3, [.int 0, .int 0, .int (-1), .int 0, .int 1, .int 0, .int 0, .int 0]) : va_E))]) H locs := C
  refine lv_iinc (v := 2) (lv' := [(1, .int 2), (0, .ref q)]) F.x F.b dX0_init_114 hl (k := 0) rfl (by decide) (by decide) rfl (fun ls hl => ?_)
  refine lv_goto (tgt := 95) F.x F.b dX0_init_117 (by decide) ?_
  refine lv_iload_n F.x F.b dX0_init_95 rfl (lv_at hl 0 rfl) ?_
  refine lv_bipush (v := 8) F.x F.b dX0_init_96 (by decide) ?_
  refine lv_icmp_ge (tgt := 120) F.x F.b dX0_init_98 (by decide) (fun h9 => absurd h9 (by decide)) (fun _ => ?_)
  refine lv_aload_n F.x F.b dX0_init_101 rfl (lv_at hl 1 rfl) ?_
  refine cGet F C rfl rfl inA0 1 (by decide) q1_84 rfl (v := .ref a2) rfl dX0_init_102 ?_
  refine lv_iload_n F.x F.b dX0_init_105 rfl (lv_at hl 0 rfl) ?_
  refine cNew (ci := 3) F C inA3 tyX3_ok q1_36 q1_38 q1_3 rfl (fs := [.int 0, .int 0, .int 0, .int 0, .int 0, .int 0, .int 0, .int 0]) (fun j hj => by rcases (show j = 0 ∨ j = 1 ∨ j = 2 ∨ j = 3 ∨ j = 4 ∨ j = 5 ∨ j = 6 ∨ j = 7 by omega) with rfl | rfl | rfl | rfl | rfl | rfl | rfl | rfl <;> rfl) (Nat.le_of_ble_eq_true rfl) (Nat.le_of_ble_eq_true rfl) dX0_init_106 (fun b9 H C => ?_)
  refine lv_dup F.x F.b dX0_init_109 rfl ?_
  refine cCallN F C hl (kX3_init l D ky b9) ⟨q1_39, q1_40, q1_3, q1_41⟩ ⟨rfl, by decide, by decide, by decide +kernel⟩ ⟨rfl, rfl, ⟨Nat.le_of_ble_eq_true rfl, Nat.le_of_ble_eq_true rfl⟩, ⟨Nat.le_of_ble_eq_true rfl, Nat.le_of_ble_eq_true rfl⟩, Nat.le_of_ble_eq_true rfl⟩ (rest := [.ref b9, .int 2, .ref a2]) dX0_init_110 (fun u10 H locs hu11 C => ?_)
  obtain rfl := hu11
  have C : Ck D s (va_A [(q, .inr (0, [.null, .null, .int 0, .int 0, .int 0, .int 0, .int 0, .int 0, .int 0, .int 0, .int 0, .int 0]))] s.heap.size) ([(q, (.inr (0, [.ref a1, .ref a2, .int 0, .int 0, .int 4, .int 0, .int 0, .int 0, .int 0, .int 0, .int 0, .int 0]) : va_E)), (a1, (.inl (ky 1, 10, .inl (upd (upd (upd (upd (upd (upd (upd (upd (upd (upd (fun _ => 0) 0 10) 1 10) 2 10) 3 10) 4 10) 5 10) 6 10) 7 10) 8 10) 9 10)) : va_E)), (a2, (.inl (ky 4, 8, .inr (.inr (.inr (.inr (va_up (va_up (fun _ => none) 0 (some b3)) 1 (some b6)))))) : va_E)), (b3, (.inr (3, [.int 0, .int 0, .int (-1), .int 0, .int 1, .int 0, .int 0, .int 0]) : va_E)), (b6, (.inr (3, [.int 0, .int 0, .int (-1), .int 0, .int 1, .int 0, .int 0, .int 0]) : va_E)), (b9, (.inr (3, [.int 0, .int 0, .int (-1), .int 0, .int 1, .int 0, .int 0, .int 0]) : va_E))]) H locs := C
  refine cAstq F C 2 4 (ci := 3) (vs := [.int 0, .int 0, .int (-1), .int 0, .int 1, .int 0, .int 0, .int 0]) rfl rfl (List.mem_of_getElem? (i := 5) rfl) rfl (by unfold vp_in; decide) dX0_init_113 (fun H locs C => ?_)
  have C : Ck D s (va_A [(q, .inr (0, [.null, .null, .int 0, .int 0, .int 0, .int 0, .int 0, .int 0, .int 0, .int 0, .int 0, .int 0]))] s.heap.size) ([(q, (.inr (0, [.ref a1, .ref a2, .int 0, .int 0, .int 4, .int 0, .int 0, .int 0, .int 0, .int 0, .int 0, .int 0]) : va_E)), (a1, (.inl (ky 1, 10, .inl (upd (upd (upd (upd (upd (upd (upd (upd (upd (upd (fun _ => 0) 0 10) 1 10) 2 10) 3 10) 4 10) 5 10) 6 10) 7 10) 8 10) 9 10)) : va_E)), (a2, (.inl (ky 4, 8, .inr (.inr (.inr (.inr (va_up (va_up (va_up (fun _ => none) 0 (some b3)) 1 (some b6)) 2 (some b9)))))) : va_E)), (b3, (.inr (3, [.int 0, .int 0, .int (-1), .int 0, .int 1, .int 0, .int 0, .int 0]) : va_E)), (b6, (.inr (3, [.int 0, .int 0, .int (-1), .int 0, .int 1, .int 0, .int 0, .int 0]) : va_E)), (b9, (.inr (3, [.int 0, .int 0, .int (-1), .int 0, .int 1, .int 0, .int 0, .int 0]) : va_E))]) H locs := C
  refine lv_iinc (v := 3) (lv' := [(1, .int 3), (0, .ref q)]) F.x F.b dX0_init_114 hl (k := 0) rfl (by decide) (by decide) rfl (fun ls hl => ?_)
  refine lv_goto (tgt := 95) F.x F.b dX0_init_117 (by decide) ?_
  refine lv_iload_n F.x F.b dX0_init_95 rfl (lv_at hl 0 rfl) ?_
  refine lv_bipush (v := 8) F.x F.b dX0_init_96 (by decide) ?_
  refine lv_icmp_ge (tgt := 120) F.x F.b dX0_init_98 (by decide) (fun h9 => absurd h9 (by decide)) (fun _ => ?_)
  refine lv_aload_n F.x F.b dX0_init_101 rfl (lv_at hl 1 rfl) ?_
  refine cGet F C rfl rfl inA0 1 (by decide) q1_84 rfl (v := .ref a2) rfl dX0_init_102 ?_
  refine lv_iload_n F.x F.b dX0_init_105 rfl (lv_at hl 0 rfl) ?_
  refine cNew (ci := 3) F C inA3 tyX3_ok q1_36 q1_38 q1_3 rfl (fs := [.int 0, .int 0, .int 0, .int 0, .int 0, .int 0, .int 0, .int 0]) (fun j hj => by rcases (show j = 0 ∨ j = 1 ∨ j = 2 ∨ j = 3 ∨ j = 4 ∨ j = 5 ∨ j = 6 ∨ j = 7 by omega) with rfl | rfl | rfl | rfl | rfl | rfl | rfl | rfl <;> rfl) (Nat.le_of_ble_eq_true rfl) (Nat.le_of_ble_eq_true rfl) dX0_init_106 (fun b12 H C => ?_)
  refine lv_dup F.x F.b dX0_init_109 rfl ?_
  refine cCallN F C hl (kX3_init l D ky b12) ⟨q1_39, q1_40, q1_3, q1_41⟩ ⟨rfl, by decide, by decide, by decide +kernel⟩ ⟨rfl, rfl, ⟨Nat.le_of_ble_eq_true rfl, Nat.le_of_ble_eq_true rfl⟩, ⟨Nat.le_of_ble_eq_true rfl, Nat.le_of_ble_eq_true rfl⟩, Nat.le_of_ble_eq_true rfl⟩ (rest := [.ref b12, .int 3, .ref a2]) dX0_init_110 (fun u13 H locs hu14 C => ?_)
  obtain rfl := hu14
  have C : Ck D s (va_A [(q, .inr (0, [.null, .null, .int 0, .int 0, .int 0, .int 0, .int 0, .int 0, .int 0, .int 0, .int 0, .int 0]))] s.heap.size) ([(q, (.inr (0, [.ref a1, .ref a2, .int 0, .int 0, .int 4, .int 0, .int 0, .int 0, .int 0, .int 0, .int 0, .int 0]) : va_E)), (a1, (.inl (ky 1, 10, .inl (upd (upd (upd (upd (upd (upd (upd (upd (upd (upd (fun _ => 0) 0 10) 1 10) 2 10) 3 10) 4 10) 5 10) 6 10) 7 10) 8 10) 9 10)) : va_E)), (a2, (.inl (ky 4, 8, .inr (.inr (.inr (.inr (va_up (va_up (va_up (fun _ => none) 0 (some b3)) 1 (some b6)) 2 (some b9)))))) : va_E)), (b3, (.inr (3, [.int 0, .int 0, .int (-1), .int 0, .int 1, .int 0, .int 0, .int 0]) : va_E)), (b6, (.inr (3, [.int 0, .int 0, .int (-1), .int 0, .int 1, .int 0, .int 0, .int 0]) : va_E)), (b9, (.inr (3, [.int 0, .int 0, .int (-1), .int 0, .int 1, .int 0, .int 0, .int 0]) : va_E)), (b12, (.inr (3, [.int 0, .int 0, .int (-1), .int 0, .int 1, .int 0, .int 0, .int 0]) : va_E))]) H locs := C
  refine cAstq F C 2 4 (ci := 3) (vs := [.int 0, .int 0, .int (-1), .int 0, .int 1, .int 0, .int 0, .int 0]) rfl rfl (List.mem_of_getElem? (i := 6) rfl) rfl (by unfold vp_in; decide) dX0_init_113 (fun H locs C => ?_)
  have C : Ck D s (va_A [(q, .inr (0, [.null, .null, .int 0, .int 0, .int 0, .int 0, .int 0, .int 0, .int 0, .int 0, .int 0, .int 0]))] s.heap.size) ([(q, (.inr (0, [.ref a1, .ref a2, .int 0, .int 0, .int 4, .int 0, .int 0, .int 0, .int 0, .int 0, .int 0, .int 0]) : va_E)), (a1, (.inl (ky 1, 10, .inl (upd (upd (upd (upd (upd (upd (upd (upd (upd (upd (fun _ => 0) 0 10) 1 10) 2 10) 3 10) 4 10) 5 10) 6 10) 7 10) 8 10) 9 10)) : va_E)), (a2, (.inl (ky 4, 8, .inr (.inr (.inr (.inr (va_up (va_up (va_up (va_up (fun _ => none) 0 (some b3)) 1 (some b6)) 2 (some b9)) 3 (some b12)))))) : va_E)), (b3, (.inr (3, [.int 0, .int 0, .int (-1), .int 0, .int 1, .int 0, .int 0, .int 0]) : va_E)), (b6, (.inr (3, [.int 0, .int 0, .int (-1), .int 0, .int 1, .int 0, .int 0, .int 0]) : va_E)), (b9, (.inr (3, [.int 0, .int 0, .int (-1), .int 0, .int 1, .int 0, .int 0, .int 0]) : va_E)), (b12, (.inr (3, [.int 0, .int 0, .int (-1), .int 0, .int 1, .int 0, .int 0, .int 0]) : va_E))]) H locs := C
  refine lv_iinc (v := 4) (lv' := [(1, .int 4), (0, .ref q)]) F.x F.b dX0_init_114 hl (k := 0) rfl (by decide) (by decide) rfl (fun ls hl => ?_)
  refine lv_goto (tgt := 95) F.x F.b dX0_init_117 (by decide) ?_
  refine lv_iload_n F.x F.b dX0_init_95 rfl (lv_at hl 0 rfl) ?_
  refine lv_bipush (v := 8) F.x F.b dX0_init_96 (by decide) ?_
  refine lv_icmp_ge (tgt := 120) F.x F.b dX0_init_98 (by decide) (fun h9 => absurd h9 (by decide)) (fun _ => ?_)
  refine lv_aload_n F.x F.b dX0_init_101 rfl (lv_at hl 1 rfl) ?_
  refine cGet F C rfl rfl inA0 1 (by decide) q1_84 rfl (v := .ref a2) rfl dX0_init_102 ?_
  refine lv_iload_n F.x F.b dX0_init_105 rfl (lv_at hl 0 rfl) ?_
  refine cNew (ci := 3) F C inA3 tyX3_ok q1_36 q1_38 q1_3 rfl (fs := [.int 0, .int 0, .int 0, .int 0, .int 0, .int 0, .int 0, .int 0]) (fun j hj => by rcases (show j = 0 ∨ j = 1 ∨ j = 2 ∨ j = 3 ∨ j = 4 ∨ j = 5 ∨ j = 6 ∨ j = 7 by omega) with rfl | rfl | rfl | rfl | rfl | rfl | rfl | rfl <;> rfl) (Nat.le_of_ble_eq_true rfl) (Nat.le_of_ble_eq_true rfl) dX0_init_106 (fun b15 H C => ?_)
  refine lv_dup F.x F.b dX0_init_109 rfl ?_
  refine cCallN F C hl (kX3_init l D ky b15) ⟨q1_39, q1_40, q1_3, q1_41⟩ ⟨rfl, by decide, by decide, by decide +kernel⟩ ⟨rfl, rfl, ⟨Nat.le_of_ble_eq_true rfl, Nat.le_of_ble_eq_true rfl⟩, ⟨Nat.le_of_ble_eq_true rfl, Nat.le_of_ble_eq_true rfl⟩, Nat.le_of_ble_eq_true rfl⟩ (rest := [.ref b15, .int 4, .ref a2]) dX0_init_110 (fun u16 H locs hu17 C => ?_)
  obtain rfl := hu17
  have C : Ck D s (va_A [(q, .inr (0, [.null, .null, .int 0, .int 0, .int 0, .int 0, .int 0, .int 0, .int 0, .int 0, .int 0, .int 0]))] s.heap.size) ([(q, (.inr (0, [.ref a1, .ref a2, .int 0, .int 0, .int 4, .int 0, .int 0, .int 0, .int 0, .int 0, .int 0, .int 0]) : va_E)), (a1, (.inl (ky 1, 10, .inl (upd (upd (upd (upd (upd (upd (upd (upd (upd (upd (fun _ => 0) 0 10) 1 10) 2 10) 3 10) 4 10) 5 10) 6 10) 7 10) 8 10) 9 10)) : va_E)), (a2, (.inl (ky 4, 8, .inr (.inr (.inr (.inr (va_up (va_up (va_up (va_up (fun _ => none) 0 (some b3)) 1 (some b6)) 2 (some b9)) 3 (some b12)))))) : va_E)), (b3, (.inr (3, [.int 0, .int 0, .int (-1), .int 0, .int 1, .int 0, .int 0, .int 0]) : va_E)), (b6, (.inr (3, [.int 0, .int 0, .int (-1), .int 0, .int 1, .int 0, .int 0, .int 0]) : va_E)), (b9, (.inr (3, [.int 0, .int 0, .int (-1), .int 0, .int 1, .int 0, .int 0, .int 0]) : va_E)), (b12, (.inr (3, [.int 0, .int 0, .int (-1), .int 0, .int 1, .int 0, .int 0, .int 0]) : va_E)), (b15, (.inr (3, [.int 0, .int 0, .int (-1), .int 0, .int 1, .int 0, .int 0, .int 0]) : va_E))]) H locs := C
  refine cAstq F C 2 4 (ci := 3) (vs := [.int 0, .int 0, .int (-1), .int 0, .int 1, .int 0, .int 0, .int 0]) rfl rfl (List.mem_of_getElem? (i := 7) rfl) rfl (by unfold vp_in; decide) dX0_init_113 (fun H locs C => ?_)
  have C : Ck D s (va_A [(q, .inr (0, [.null, .null, .int 0, .int 0, .int 0, .int 0, .int 0, .int 0, .int 0, .int 0, .int 0, .int 0]))] s.heap.size) ([(q, (.inr (0, [.ref a1, .ref a2, .int 0, .int 0, .int 4, .int 0, .int 0, .int 0, .int 0, .int 0, .int 0, .int 0]) : va_E)), (a1, (.inl (ky 1, 10, .inl (upd (upd (upd (upd (upd (upd (upd (upd (upd (upd (fun _ => 0) 0 10) 1 10) 2 10) 3 10) 4 10) 5 10) 6 10) 7 10) 8 10) 9 10)) : va_E)), (a2, (.inl (ky 4, 8, .inr (.inr (.inr (.inr (va_up (va_up (va_up (va_up (va_up (fun _ => none) 0 (some b3)) 1 (some b6)) 2 (some b9)) 3 (some b12)) 4 (some b15)))))) : va_E)), (b3, (.inr (3, [.int 0, .int 0, .int (-1), .int 0, .int 1, .int 0, .int 0, .int 0]) : va_E)), (b6, (.inr (3, [.int 0, .int 0, .int (-1), .int 0, .int 1, .int 0, .int 0, .int 0]) : va_E)), (b9, (.inr (3, [.int 0, .int 0, .int (-1), .int 0, .int 1, .int 0, .int 0, .int 0]) : va_E)), (b12, (.inr (3, [.int 0, .int 0, .int (-1), .int 0, .int 1, .int 0, .int 0, .int 0]) : va_E)), (b15, (.inr (3, [.int 0, .int 0, .int (-1), .int 0, .int 1, .int 0, .int 0, .int 0]) : va_E))]) H locs := C
  refine lv_iinc (v := 5) (lv' := [(1, .int 5), (0, .ref q)]) F.x F.b dX0_init_114 hl (k := 0) rfl (by decide) (by decide) rfl (fun ls hl => ?_)
  refine lv_goto (tgt := 95) F.x F.b dX0_init_117 (by decide) ?_
  refine lv_iload_n F.x F.b dX0_init_95 rfl (lv_at hl 0 rfl) ?_
  refine lv_bipush (v := 8) F.x F.b dX0_init_96 (by decide) ?_
  refine lv_icmp_ge (tgt := 120) F.x F.b dX0_init_98 (by decide) (fun h9 => absurd h9 (by decide)) (fun _ => ?_)
  refine lv_aload_n F.x F.b dX0_init_101 rfl (lv_at hl 1 rfl) ?_
  refine cGet F C rfl rfl inA0 1 (by decide) q1_84 rfl (v := .ref a2) rfl dX0_init_102 ?_
  refine lv_iload_n F.x F.b dX0_init_105 rfl (lv_at hl 0 rfl) ?_
  refine cNew (ci := 3) F C inA3 tyX3_ok q1_36 q1_38 q1_3 rfl (fs := [.int 0, .int 0, .int 0, .int 0, .int 0, .int 0, .int 0, .int 0]) (fun j hj => by rcases (show j = 0 ∨ j = 1 ∨ j = 2 ∨ j = 3 ∨ j = 4 ∨ j = 5 ∨ j = 6 ∨ j = 7 by omega) with rfl | rfl | rfl | rfl | rfl | rfl | rfl | rfl <;> rfl) (Nat.le_of_ble_eq_true rfl) (Nat.le_of_ble_eq_true rfl) dX0_init_106 (fun b18 H C => ?_)
  refine lv_dup F.x F.b dX0_init_109 rfl ?_
  refine cCallN F C hl (kX3_init l D ky b18) ⟨q1_39, q1_40, q1_3, q1_41⟩ ⟨rfl, by decide, by decide, by decide +kernel⟩ ⟨rfl, rfl, ⟨Nat.le_of_ble_eq_true rfl, Nat.le_of_ble_eq_true rfl⟩, ⟨Nat.le_of_ble_eq_true rfl, Nat.le_of_ble_eq_true rfl⟩, Nat.le_of_ble_eq_true rfl⟩ (rest := [.ref b18, .int 5, .ref a2]) dX0_init_110 (fun u19 H locs hu20 C => ?_)
  obtain rfl := hu20
  have C : Ck D s (va_A [(q, .inr (0, [.null, .null, .int 0, .int 0, .int 0, .int 0, .int 0, .int 0, .int 0, .int 0, .int 0, .int 0]))] s.heap.size) ([(q, (.inr (0, [.ref a1, .ref a2, .int 0, .int 0, .int 4, .int 0, .int 0, .int 0, .int 0, .int 0, .int 0, .int 0]) : va_E)), (a1, (.inl (ky 1, 10, .inl (upd (upd (upd (upd (upd (upd (upd (upd (upd (upd (fun _ => 0) 0 10) 1 10) 2 10) 3 10) 4 10) 5 10) 6 10) 7 10) 8 10) 9 10)) : va_E)), (a2, (.inl (ky 4, 8, .inr (.inr (.inr (.inr (va_up (va_up (va_up (va_up (va_up (fun _ => none) 0 (some b3)) 1 (some b6)) 2 (some b9)) 3 (some b12)) 4 (some b15)))))) : va_E)), (b3, (.inr (3, [.int 0, .int 0, .int (-1), .int 0, .int 1, .int 0, .int 0, .int 0]) : va_E)), (b6, (.inr (3, [.int 0, .int 0, .int (-1), .int 0, .int 1, .int 0, .int 0, .int 0]) : va_E)), (b9, (.inr (3, [.int 0, .int 0, .int (-1), .int 0, .int 1, .int 0, .int 0, .int 0]) : va_E)), (b12, (.inr (3, [.int 0, .int 0, .int (-1), .int 0, .int 1, .int 0, .int 0, .int 0]) : va_E)), (b15, (.inr (3, [.int 0, .int 0, .int (-1), .int 0, .int 1, .int 0, .int 0, .int 0]) : va_E)), (b18, (.inr (3, [.int 0, .int 0, .int (-1), .int 0, .int 1, .int 0, .int 0, .int 0]) : va_E))]) H locs := C
  refine cAstq F C 2 4 (ci := 3) (vs := [.int 0, .int 0, .int (-1), .int 0, .int 1, .int 0, .int 0, .int 0]) rfl rfl (List.mem_of_getElem? (i := 8) rfl) rfl (by unfold vp_in; decide) dX0_init_113 (fun H locs C => ?_)
  have C : Ck D s (va_A [(q, .inr (0, [.null, .null, .int 0, .int 0, .int 0, .int 0, .int 0, .int 0, .int 0, .int 0, .int 0, .int 0]))] s.heap.size) ([(q, (.inr (0, [.ref a1, .ref a2, .int 0, .int 0, .int 4, .int 0, .int 0, .int 0, .int 0, .int 0, .int 0, .int 0]) : va_E)), (a1, (.inl (ky 1, 10, .inl (upd (upd (upd (upd (upd (upd (upd (upd (upd (upd (fun _ => 0) 0 10) 1 10) 2 10) 3 10) 4 10) 5 10) 6 10) 7 10) 8 10) 9 10)) : va_E)), (a2, (.inl (ky 4, 8, .inr (.inr (.inr (.inr (va_up (va_up (va_up (va_up (va_up (va_up (fun _ => none) 0 (some b3)) 1 (some b6)) 2 (some b9)) 3 (some b12)) 4 (some b15)) 5 (some b18)))))) : va_E)), (b3, (.inr (3, [.int 0, .int 0, .int (-1), .int 0, .int 1, .int 0, .int 0, .int 0]) : va_E)), (b6, (.inr (3, [.int 0, .int 0, .int (-1), .int 0, .int 1, .int 0, .int 0, .int 0]) : va_E)), (b9, (.inr (3, [.int 0, .int 0, .int (-1), .int 0, .int 1, .int 0, .int 0, .int 0]) : va_E)), (b12, (.inr (3, [.int 0, .int 0, .int (-1), .int 0, .int 1, .int 0, .int 0, .int 0]) : va_E)), (b15, (.inr (3, [.int 0, .int 0, .int (-1), .int 0, .int 1, .int 0, .int 0, .int 0]) : va_E)), (b18, (.inr (3, [.int 0, .int 0, .int (-1), .int 0, .int 1, .int 0, .int 0, .int 0]) : va_E))]) H locs := C
  refine lv_iinc (v := 6) (lv' := [(1, .int 6), (0, .ref q)]) F.x F.b dX0_init_114 hl (k := 0) rfl (by decide) (by decide) rfl (fun ls hl => ?_)
  refine lv_goto (tgt := 95) F.x F.b dX0_init_117 (by decide) ?_
  refine lv_iload_n F.x F.b dX0_init_95 rfl (lv_at hl 0 rfl) ?_
  refine lv_bipush (v := 8) F.x F.b dX0_init_96 (by decide) ?_
  refine lv_icmp_ge (tgt := 120) F.x F.b dX0_init_98 (by decide) (fun h9 => absurd h9 (by decide)) (fun _ => ?_)
  refine lv_aload_n F.x F.b dX0_init_101 rfl (lv_at hl 1 rfl) ?_
  refine cGet F C rfl rfl inA0 1 (by decide) q1_84 rfl (v := .ref a2) rfl dX0_init_102 ?_
  refine lv_iload_n F.x F.b dX0_init_105 rfl (lv_at hl 0 rfl) ?_
  refine cNew (ci := 3) F C inA3 tyX3_ok q1_36 q1_38 q1_3 rfl (fs := [.int 0, .int 0, .int 0, .int 0, .int 0, .int 0, .int 0, .int 0]) (fun j hj => by rcases (show j = 0 ∨ j = 1 ∨ j = 2 ∨ j = 3 ∨ j = 4 ∨ j = 5 ∨ j = 6 ∨ j = 7 by omega) with rfl | rfl | rfl | rfl | rfl | rfl | rfl | rfl <;> rfl) (Nat.le_of_ble_eq_true rfl) (Nat.le_of_ble_eq_true rfl) dX0_init_106 (fun b21 H C => ?_)
  refine lv_dup F.x F.b dX0_init_109 rfl ?_
  refine cCallN F C hl (kX3_init l D ky b21) ⟨q1_39, q1_40, q1_3, q1_41⟩ ⟨rfl, by decide, by decide, by decide +kernel⟩ ⟨rfl, rfl, ⟨Nat.le_of_ble_eq_true rfl, Nat.le_of_ble_eq_true rfl⟩, ⟨Nat.le_of_ble_eq_true rfl, Nat.le_of_ble_eq_true rfl⟩, Nat.le_of_ble_eq_true rfl⟩ (rest := [.ref b21, .int 6, .ref a2]) dX0_init_110 (fun u22 H locs hu23 C => ?_)
  obtain rfl := hu23
  have C : Ck D s (va_A [(q, .inr (0, [.null, .null, .int 0, .int 0, .int 0, .int 0, .int 0, .int 0, .int 0, .int 0, .int 0, .int 0]))] s.heap.size) ([(q, (.inr (0, [.ref a1, .ref a2, .int 0, .int 0, .int 4, .int 0, .int 0, .int 0, .int 0, .int 0, .int 0, .int 0]) : va_E)), (a1, (.inl (ky 1, 10, .inl (upd (upd (upd (upd (upd (upd (upd (upd (upd (upd (fun _ => 0) 0 10) 1 10) 2 10) 3 10) 4 10) 5 10) 6 10) 7 10) 8 10) 9 10)) : va_E)), (a2, (.inl (ky 4, 8, .inr (.inr (.inr (.inr (va_up (va_up (va_up (va_up (va_up (va_up (fun _ => none) 0 (some b3)) 1 (some b6)) 2 (some b9)) 3 (some b12)) 4 (some b15)) 5 (some b18)))))) : va_E)), (b3, (.inr (3, [.int 0, .int 0, .int (-1), .int 0, .int 1, .int 0, .int 0, .int 0]) : va_E)), (b6, (.inr (3, [.int 0, .int 0, .int (-1), .int 0, .int 1, .int 0, .int 0, .int 0]) : va_E)), (b9, (.inr (3, [.int 0, .int 0, .int (-1), .int 0, .int 1, .int 0, .int 0, .int 0]) : va_E)), (b12, (.inr (3, [.int 0, .int 0, .int (-1), .int 0, .int 1, .int 0, .int 0, .int 0]) : va_E)), (b15, (.inr (3, [.int 0, .int 0, .int (-1), .int 0, .int 1, .int 0, .int 0, .int 0]) : va_E)), (b18, (.inr (3, [.int 0, .int 0, .int (-1), .int 0, .int 1, .int 0, .int 0, .int 0]) : va_E)), (b21, (.inr (3, [.int 0, .int 0, .int (-1), .int 0, .int 1, .int 0, .int 0, .int 0]) : va_E))]) H locs := C
  refine cAstq F C 2 4 (ci := 3) (vs := [.int 0, .int 0, .int (-1), .int 0, .int 1, .int 0, .int 0, .int 0]) rfl rfl (List.mem_of_getElem? (i := 9) rfl) rfl (by unfold vp_in; decide) dX0_init_113 (fun H locs C => ?_)
  have C : Ck D s (va_A [(q, .inr (0, [.null, .null, .int 0, .int 0, .int 0, .int 0, .int 0, .int 0, .int 0, .int 0, .int 0, .int 0]))] s.heap.size) ([(q, (.inr (0, [.ref a1, .ref a2, .int 0, .int 0, .int 4, .int 0, .int 0, .int 0, .int 0, .int 0, .int 0, .int 0]) : va_E)), (a1, (.inl (ky 1, 10, .inl (upd (upd (upd (upd (upd (upd (upd (upd (upd (upd (fun _ => 0) 0 10) 1 10) 2 10) 3 10) 4 10) 5 10) 6 10) 7 10) 8 10) 9 10)) : va_E)), (a2, (.inl (ky 4, 8, .inr (.inr (.inr (.inr (va_up (va_up (va_up (va_up (va_up (va_up (va_up (fun _ => none) 0 (some b3)) 1 (some b6)) 2 (some b9)) 3 (some b12)) 4 (some b15)) 5 (some b18)) 6 (some b21)))))) : va_E)), (b3, (.inr (3, [.int 0, .int 0, .int (-1), .int 0, .int 1, .int 0, .int 0, .int 0]) : va_E)), (b6, (.inr (3, [.int 0, .int 0, .int (-1), .int 0, .int 1, .int 0, .int 0, .int 0]) : va_E)), (b9, (.inr (3, [.int 0, .int 0, .int (-1), .int 0, .int 1, .int 0, .int 0, .int 0]) : va_E)), (b12, (.inr (3, [.int 0, .int 0, .int (-1), .int 0, .int 1, .int 0, .int 0, .int 0]) : va_E)), (b15, (.inr (3, [.int 0, .int 0, .int (-1), .int 0, .int 1, .int 0, .int 0, .int 0]) : va_E)), (b18, (.inr (3, [.int 0, .int 0, .int (-1), .int 0, .int 1, .int 0, .int 0, .int 0]) : va_E)), (b21, (.inr (3, [.int 0, .int 0, .int (-1), .int 0, .int 1, .int 0, .int 0, .int 0]) : va_E))]) H locs := C
  refine lv_iinc (v := 7) (lv' := [(1, .int 7), (0, .ref q)]) F.x F.b dX0_init_114 hl (k := 0) rfl (by decide) (by decide) rfl (fun ls hl => ?_)
  refine lv_goto (tgt := 95) F.x F.b dX0_init_117 (by decide) ?_
  refine lv_iload_n F.x F.b dX0_init_95 rfl (lv_at hl 0 rfl) ?_
  refine lv_bipush (v := 8) F.x F.b dX0_init_96 (by decide) ?_
  refine lv_icmp_ge (tgt := 120) F.x F.b dX0_init_98 (by decide) (fun h9 => absurd h9 (by decide)) (fun _ => ?_)
  refine lv_aload_n F.x F.b dX0_init_101 rfl (lv_at hl 1 rfl) ?_
  refine cGet F C rfl rfl inA0 1 (by decide) q1_84 rfl (v := .ref a2) rfl dX0_init_102 ?_
  refine lv_iload_n F.x F.b dX0_init_105 rfl (lv_at hl 0 rfl) ?_
  refine cNew (ci := 3) F C inA3 tyX3_ok q1_36 q1_38 q1_3 rfl (fs := [.int 0, .int 0, .int 0, .int 0, .int 0, .int 0, .int 0, .int 0]) (fun j hj => by rcases (show j = 0 ∨ j = 1 ∨ j = 2 ∨ j = 3 ∨ j = 4 ∨ j = 5 ∨ j = 6 ∨ j = 7 by omega) with rfl | rfl | rfl | rfl | rfl | rfl | rfl | rfl <;> rfl) (Nat.le_of_ble_eq_true rfl) (Nat.le_of_ble_eq_true rfl) dX0_init_106 (fun b24 H C => ?_)
  refine lv_dup F.x F.b dX0_init_109 rfl ?_
  refine cCallN F C hl (kX3_init l D ky b24) ⟨q1_39, q1_40, q1_3, q1_41⟩ ⟨rfl, by decide, by decide, by decide +kernel⟩ ⟨rfl, rfl, ⟨Nat.le_of_ble_eq_true rfl, Nat.le_of_ble_eq_true rfl⟩, ⟨Nat.le_of_ble_eq_true rfl, Nat.le_of_ble_eq_true rfl⟩, Nat.le_of_ble_eq_true rfl⟩ (rest := [.ref b24, .int 7, .ref a2]) dX0_init_110 (fun u25 H locs hu26 C => ?_)
  obtain rfl := hu26
  have C : Ck D s (va_A [(q, .inr (0, [.null, .null, .int 0, .int 0, .int 0, .int 0, .int 0, .int 0, .int 0, .int 0, .int 0, .int 0]))] s.heap.size) ([(q, (.inr (0, [.ref a1, .ref a2, .int 0, .int 0, .int 4, .int 0, .int 0, .int 0, .int 0, .int 0, .int 0, .int 0]) : va_E)), (a1, (.inl (ky 1, 10, .inl (upd (upd (upd (upd (upd (upd (upd (upd (upd (upd (fun _ => 0) 0 10) 1 10) 2 10) 3 10) 4 10) 5 10) 6 10) 7 10) 8 10) 9 10)) : va_E)), (a2, (.inl (ky 4, 8, .inr (.inr (.inr (.inr (va_up (va_up (va_up (va_up (va_up (va_up (va_up (fun _ => none) 0 (some b3)) 1 (some b6)) 2 (some b9)) 3 (some b12)) 4 (some b15)) 5 (some b18)) 6 (some b21)))))) : va_E)), (b3, (.inr (3, [.int 0, .int 0, .int (-1), .int 0, .int 1, .int 0, .int 0, .int 0]) : va_E)), (b6, (.inr (3, [.int 0, .int 0, .int (-1), .int 0, .int 1, .int 0, .int 0, .int 0]) : va_E)), (b9, (.inr (3, [.int 0, .int 0, .int (-1), .int 0, .int 1, .int 0, .int 0, .int 0]) : va_E)), (b12, (.inr (3, [.int 0, .int 0, .int (-1), .int 0, .int 1, .int 0, .int 0, .int 0]) : va_E)), (b15, (.inr (3, [.int 0, .int 0, .int (-1), .int 0, .int 1, .int 0, .int 0, .int 0]) : va_E)), (b18, (.inr (3, [.int 0, .int 0, .int (-1), .int 0, .int 1, .int 0, .int 0, .int 0]) : va_E)), (b21, (.inr (3, [.int 0, .int 0, .int (-1), .int 0, .int 1, .int 0, .int 0, .int 0]) : va_E)), (b24, (.inr (3, [.int 0, .int 0, .int (-1), .int 0, .int 1, .int 0, .int 0, .int 0]) : va_E))]) H locs := C
  refine cAstq F C 2 4 (ci := 3) (vs := [.int 0, .int 0, .int (-1), .int 0, .int 1, .int 0, .int 0, .int 0]) rfl rfl (List.mem_of_getElem? (i := 10) rfl) rfl (by unfold vp_in; decide) dX0_init_113 (fun H locs C => ?_)
  have C : Ck D s (va_A [(q, .inr (0, [.null, .null, .int 0, .int 0, .int 0, .int 0, .int 0, .int 0, .int 0, .int 0, .int 0, .int 0]))] s.heap.size) ([(q, (.inr (0, [.ref a1, .ref a2, .int 0, .int 0, .int 4, .int 0, .int 0, .int 0, .int 0, .int 0, .int 0, .int 0]) : va_E)), (a1, (.inl (ky 1, 10, .inl (upd (upd (upd (upd (upd (upd (upd (upd (upd (upd (fun _ => 0) 0 10) 1 10) 2 10) 3 10) 4 10) 5 10) 6 10) 7 10) 8 10) 9 10)) : va_E)), (a2, (.inl (ky 4, 8, .inr (.inr (.inr (.inr (va_up (va_up (va_up (va_up (va_up (va_up (va_up (va_up (fun _ => none) 0 (some b3)) 1 (some b6)) 2 (some b9)) 3 (some b12)) 4 (some b15)) 5 (some b18)) 6 (some b21)) 7 (some b24)))))) : va_E)), (b3, (.inr (3, [.int 0, .int 0, .int (-1), .int 0, .int 1, .int 0, .int 0, .int 0]) : va_E)), (b6, (.inr (3, [.int 0, .int 0, .int (-1), .int 0, .int 1, .int 0, .int 0, .int 0]) : va_E)), (b9, (.inr (3, [.int 0, .int 0, .int (-1), .int 0, .int 1, .int 0, .int 0, .int 0]) : va_E)), (b12, (.inr (3, [.int 0, .int 0, .int (-1), .int 0, .int 1, .int 0, .int 0, .int 0]) : va_E)), (b15, (.inr (3, [.int 0, .int 0, .int (-1), .int 0, .int 1, .int 0, .int 0, .int 0]) : va_E)), (b18, (.inr (3, [.int 0, .int 0, .int (-1), .int 0, .int 1, .int 0, .int 0, .int 0]) : va_E)), (b21, (.inr (3, [.int 0, .int 0, .int (-1), .int 0, .int 1, .int 0, .int 0, .int 0]) : va_E)), (b24, (.inr (3, [.int 0, .int 0, .int (-1), .int 0, .int 1, .int 0, .int 0, .int 0]) : va_E))]) H locs := C
  refine lv_iinc (v := 8) (lv' := [(1, .int 8), (0, .ref q)]) F.x F.b dX0_init_114 hl (k := 0) rfl (by decide) (by decide) rfl (fun ls hl => ?_)
  refine lv_goto (tgt := 95) F.x F.b dX0_init_117 (by decide) ?_
  refine lv_iload_n F.x F.b dX0_init_95 rfl (lv_at hl 0 rfl) ?_
  refine lv_bipush (v := 8) F.x F.b dX0_init_96 (by decide) ?_
  refine lv_icmp_ge (tgt := 120) F.x F.b dX0_init_98 (by decide) (fun _ => ?_) (fun h9 => absurd (by decide) h9)
  refine W.widen (k := 10) (n := 82) (Nat.le_of_ble_eq_true rfl) (Nat.le_of_ble_eq_true rfl) ?_
  obtain ⟨tr, etr⟩ : ∃ tr : Nat → Nat, tr = (fun k => match k with | 0 => b3 | 1 => b6 | 2 => b9 | 3 => b12 | 4 => b15 | 5 => b18 | 6 => b21 | _ => b24) := ⟨_, rfl⟩
  have hP := P_setat C.1 2 (q := (a2, .inl (ky 4, 8, .inr (.inr (.inr (.inr (fun k => some (tr k)))))))) (at_congq (fun k hk => ?_) (C.1 2 _ rfl))
  · have hD := C.2.1.set (e := .inl (ky 4, 8, .inr (.inr (.inr (.inr (fun k => some (tr k))))))) (p := 2) rfl
    exact cRet F hr ⟨hP, hD, C.2.2⟩ ⟨a1, a2, tr, (upd (upd (upd (upd (upd (upd (upd (upd (upd (upd (fun _ => 0) 0 10) 1 10) 2 10) 3 10) 4 10) 5 10) 6 10) 7 10) 8 10) 9 10), fun k hk => by rcases (show k = 0 ∨ k = 1 ∨ k = 2 ∨ k = 3 ∨ k = 4 ∨ k = 5 ∨ k = 6 ∨ k = 7 ∨ k = 8 ∨ k = 9 by omega) with rfl | rfl | rfl | rfl | rfl | rfl | rfl | rfl | rfl | rfl <;> rfl, by rw [etr]; rfl⟩ dX0_init_120
  · rw [etr]
    rcases (show k = 0 ∨ k = 1 ∨ k = 2 ∨ k = 3 ∨ k = 4 ∨ k = 5 ∨ k = 6 ∨ k = 7 by omega) with rfl | rfl | rfl | rfl | rfl | rfl | rfl | rfl <;> rfl
