def mL_lawA_b426 (ex : Nat → Nat → Nat)  (K658 : Mem → Prop) : Nat → Mem → Int32 → Prop
  | 0, _, _ => False
  | n + 1, S, v2 => (((3 : Int32) ≤ v2 → (mL_o9 (fun (r3 : Int32) (S2 : Mem) => ((¬ r3 = (3 : Int32) → (False)) ∧ (r3 = (3 : Int32) → (mL_pass (fun (r6 : Int32) (S5 : Mem) => ((¬ r6 = 0 → (False)) ∧ (r6 = 0 → (mL_travellerOf (fun (r9 : Int32) (S8 : Mem) => ((¬ r9 = (20 : Int32) → (False)) ∧ (r9 = (20 : Int32) → (mL_travellerOf (fun (r12 : Int32) (S11 : Mem) => ((¬ r12 = (20 : Int32) → (False)) ∧ (r12 = (20 : Int32) → (mL_pass (fun (r15 : Int32) (S14 : Mem) => ((¬ r15 = (3 : Int32) → (False)) ∧ (r15 = (3 : Int32) → (mL_travellerOf (fun (r18 : Int32) (S17 : Mem) => ((¬ r18 = (17 : Int32) → (False)) ∧ (r18 = (17 : Int32) → (mL_travellerOf (fun (r21 : Int32) (S20 : Mem) => ((¬ r21 = (17 : Int32) → (False)) ∧ (r21 = (17 : Int32) → (mL_travellerOf (fun (r24 : Int32) (S23 : Mem) => ((¬ r24 = (20 : Int32) → (False)) ∧ (r24 = (20 : Int32) → (mL_setOut (fun (r27 : Int32) (S26 : Mem) => ((¬ r27 = (-1002 : Int32) → (False)) ∧ (r27 = (-1002 : Int32) → (mL_is (fun (r30 : Int32) (S29 : Mem) => ((r30 = 0 → (False)) ∧ (¬ r30 = 0 → (mL_account (fun (r33 : Int32) (S32 : Mem) => ((¬ r33 = (54 : Int32) → (False)) ∧ (r33 = (54 : Int32) → (mL_pass (fun (r36 : Int32) (S35 : Mem) => ((¬ r36 = 0 → (False)) ∧ (r36 = 0 → (mL_travellerOf (fun (r39 : Int32) (S38 : Mem) => ((¬ r39 = (17 : Int32) → (False)) ∧ (r39 = (17 : Int32) → (mL_travellerOf (fun (r42 : Int32) (S41 : Mem) => ((¬ r42 = (14 : Int32) → (False)) ∧ (r42 = (14 : Int32) → (mL_travellerOf (fun (r45 : Int32) (S44 : Mem) => ((¬ r45 = (17 : Int32) → (False)) ∧ (r45 = (17 : Int32) → (mL_crossingShare (fun (r48 : UInt32) (S47 : Mem) => Op.cmpValue (FP.fcmp r48 FP.fconst1) .l = 0 ∧ mL_account (fun (r51 : Int32) (S50 : Mem) => ((r51 = (4 : Int32) → (mL_restore (fun (r54 : Int32) (S53 : Mem) => ((¬ r54 = 0 → (False)) ∧ (r54 = 0 → (mL_account (fun (r57 : Int32) (S56 : Mem) => ((¬ r57 = 0 → (False)) ∧ (r57 = 0 → (mL_account (fun (r60 : Int32) (S59 : Mem) => ((¬ r60 = 0 → (False)) ∧ (r60 = 0 → (mL_undo (fun (r63 : Int32) (S62 : Mem) => ((r63 = (-1001 : Int32) → (K658 S62)) ∧ (¬ r63 = (-1001 : Int32) → (False)))) S59)))) S56 (3 : Int32))))) S53 (0 : Int32))))) S50)) ∧ (¬ r51 = (4 : Int32) → (False)))) S47 (13 : Int32)) S44)))) S41 (1 : Int32) (2 : Int32))))) S38 (0 : Int32) (2 : Int32))))) S35 (2 : Int32) (2 : Int32))))) S32 (1 : Int32))))) S29 (15 : Int32))))) S26 (4 : Int32) (20 : Int32))))) S23 (2 : Int32))))) S20 (2 : Int32) (2 : Int32))))) S17 (1 : Int32) (2 : Int32))))) S14 (0 : Int32) (2 : Int32))))) S11 (1 : Int32))))) S8 (2 : Int32) (2 : Int32))))) S5 (0 : Int32) (2 : Int32))))) S2 (10 : Int32))))) S)) ∧ (¬ (3 : Int32) ≤ v2 → (mL_setOut (fun (r66 : Int32) (S65 : Mem) => ((r66 = (2 : Int32) → (∀ x68 : Int32, x68 = v2 + (1 : Int32) → mL_lawA_b426 ex K658 n S65 x68)) ∧ (¬ r66 = (2 : Int32) → (False)))) S v2)))
def mL_lawA_b398 (ex : Nat → Nat → Nat)  (K658 : Mem → Prop) : Nat → Mem → Int32 → Prop
  | 0, _, _ => False
  | n + 1, S, v2 => (((10 : Int32) ≤ v2 → (∃ fu : Nat, fu ≤ 4 ∧ mL_lawA_b426 ex K658 fu S (0 : Int32))) ∧ (¬ (10 : Int32) ≤ v2 → (mL_height (fun (r4 : Int32) (S3 : Mem) => ((r4 = (10 : Int32) → (∀ x6 : Int32, x6 = v2 + (1 : Int32) → mL_lawA_b398 ex K658 n S3 x6)) ∧ (¬ r4 = (10 : Int32) → (False)))) S v2 (6 : Int32))))
def mL_lawA_b180 (ex : Nat → Nat → Nat)  (K162 : Mem → Int32 → Prop) (S : Mem) (v2 : Int32) (vt0 : Int32) : Prop := mL_traveller (fun (r2 : Int32) (S1 : Mem) => ((r2 = v2 → (∀ x4 : Int32, x4 = v2 + (1 : Int32) → K162 S1 x4)) ∧ (¬ r2 = v2 → (False)))) S vt0
def mL_lawA_b162 (ex : Nat → Nat → Nat)  (K658 : Mem → Prop) : Nat → Mem → Int32 → Prop
  | 0, _, _ => False
  | n + 1, S, v2 => (((8 : Int32) ≤ v2 → (mL_traveller (fun (r3 : Int32) (S2 : Mem) => ((¬ r3 = (-1002 : Int32) → (False)) ∧ (r3 = (-1002 : Int32) → (mL_is (fun (r6 : Int32) (S5 : Mem) => ((r6 = 0 → (False)) ∧ (¬ r6 = 0 → (mL_fee (fun (r9 : Int32) (S8 : Mem) => ((¬ r9 = (2 : Int32) → (False)) ∧ (r9 = (2 : Int32) → (mL_fee (fun (r12 : Int32) (S11 : Mem) => ((¬ r12 = (8 : Int32) → (False)) ∧ (r12 = (8 : Int32) → (mL_setOut (fun (r15 : Int32) (S14 : Mem) => ((¬ r15 = (8 : Int32) → (False)) ∧ (r15 = (8 : Int32) → (mL_travellerOf (fun (r18 : Int32) (S17 : Mem) => ((¬ r18 = 0 → (False)) ∧ (r18 = 0 → (mL_stop (fun (r21 : Int32) (S20 : Mem) => ((¬ r21 = (-1 : Int32) → (False)) ∧ (r21 = (-1 : Int32) → (mL_go (fun (r24 : Int32) (S23 : Mem) => ((¬ r24 = (-1 : Int32) → (False)) ∧ (r24 = (-1 : Int32) → (mL_leave (fun (r27 : Int32) (S26 : Mem) => ((¬ r27 = (-1002 : Int32) → (False)) ∧ (r27 = (-1002 : Int32) → (mL_is (fun (r30 : Int32) (S29 : Mem) => ((r30 = 0 → (False)) ∧ (¬ r30 = 0 → (mL_go (fun (r33 : Int32) (S32 : Mem) => ((¬ r33 = (-1002 : Int32) → (False)) ∧ (r33 = (-1002 : Int32) → (mL_is (fun (r36 : Int32) (S35 : Mem) => ((r36 = 0 → (False)) ∧ (¬ r36 = 0 → (mL_crossedIn (fun (r39 : Int32) (S38 : Mem) => ((¬ r39 = (11 : Int32) → (False)) ∧ (r39 = (11 : Int32) → (mL_pass (fun (r42 : Int32) (S41 : Mem) => ((¬ r42 = (1 : Int32) → (False)) ∧ (r42 = (1 : Int32) → (mL_travellerOf (fun (r45 : Int32) (S44 : Mem) => ((¬ r45 = (10 : Int32) → (False)) ∧ (r45 = (10 : Int32) → (mL_account (fun (r48 : Int32) (S47 : Mem) => ((¬ r48 = (8 : Int32) → (False)) ∧ (r48 = (8 : Int32) → (mL_leave (fun (r51 : Int32) (S50 : Mem) => ((¬ r51 = 0 → (False)) ∧ (r51 = 0 → (mL_travellerOf (fun (r54 : Int32) (S53 : Mem) => ((¬ r54 = (10 : Int32) → (False)) ∧ (r54 = (10 : Int32) → (mL_account (fun (r57 : Int32) (S56 : Mem) => ((r57 = (8 : Int32) → (∃ fu : Nat, fu ≤ 11 ∧ mL_lawA_b398 ex K658 fu S56 (0 : Int32))) ∧ (¬ r57 = (8 : Int32) → (False)))) S53 (18 : Int32))))) S50 (6 : Int32) (3 : Int32))))) S47 (0 : Int32))))) S44 (12 : Int32))))) S41 (7 : Int32) (3 : Int32))))) S38 (11 : Int32))))) S35 (7 : Int32))))) S32 (3 : Int32) (-1 : Int32))))) S29 (0 : Int32))))) S26 (2 : Int32) (-1 : Int32))))) S23 (7 : Int32))))) S20 (7 : Int32))))) S17 (7 : Int32))))) S14 (7 : Int32) (8 : Int32))))) S11 (7 : Int32))))) S8 (7 : Int32))))) S5 (0 : Int32))))) S2 (1 : Int32) (8 : Int32))))) S (0 : Int32))) ∧ (¬ (8 : Int32) ≤ v2 → ((((4 : Int32) ≤ v2 → (mL_lawA_b180 ex (fun S v2 => mL_lawA_b162 ex K658 n S v2) S v2 (20 : Int32))) ∧ (¬ (4 : Int32) ≤ v2 → (mL_lawA_b180 ex (fun S v2 => mL_lawA_b162 ex K658 n S v2) S v2 (0 : Int32)))))))
def mL_lawA_b90 (ex : Nat → Nat → Nat)  (K658 : Mem → Prop) : Nat → Mem → Int32 → Prop
  | 0, _, _ => False
  | n + 1, S, v2 => (((60 : Int32) ≤ v2 → (mL_type (fun (r3 : Int32) (S2 : Mem) => ((¬ r3 = (-1001 : Int32) → (False)) ∧ (r3 = (-1001 : Int32) → (mL_ask (fun (r6 : Int32) (S5 : Mem) => ((¬ r6 = (-1001 : Int32) → (False)) ∧ (r6 = (-1001 : Int32) → (mL_errorPosition (fun (r9 : Int32) (S8 : Mem) => ((¬ r9 = 0 → (False)) ∧ (r9 = 0 → (mL_account (fun (r12 : Int32) (S11 : Mem) => ((r12 = 0 → (∃ fu : Nat, fu ≤ 9 ∧ mL_lawA_b162 ex K658 fu S11 (0 : Int32))) ∧ (¬ r12 = 0 → (False)))) S8 (17 : Int32))))) S5)))) S2)))) S (119 : Int32))) ∧ (¬ (60 : Int32) ≤ v2 → (mL_type (fun (r16 : Int32) (S15 : Mem) => ((r16 = (v2 + (1 : Int32)) → (∀ x18 : Int32, x18 = v2 + (1 : Int32) → mL_lawA_b90 ex K658 n S15 x18)) ∧ (¬ r16 = (v2 + (1 : Int32)) → (False)))) S (((((300 : Int32) + v2)).toUInt32 % 65536).toInt32))))
def mL_lawA (ex : Nat → Nat → Nat)  (K658 : Mem → Prop) (S : Mem) : Prop := mL_undo (fun (r2 : Int32) (S1 : Mem) => ((¬ r2 = (-1001 : Int32) → (False)) ∧ (r2 = (-1001 : Int32) → (mL_restore (fun (r5 : Int32) (S4 : Mem) => ((¬ r5 = (-1001 : Int32) → (False)) ∧ (r5 = (-1001 : Int32) → (mX5_save (fun (r8 : Int32) (S7 : Mem) => ((¬ r8 = 0 → (False)) ∧ (r8 = 0 → (mL_pass (fun (r11 : Int32) (S10 : Mem) => ((¬ r11 = 0 → (False)) ∧ (r11 = 0 → (mL_account (fun (r14 : Int32) (S13 : Mem) => ((¬ r14 = (24 : Int32) → (False)) ∧ (r14 = (24 : Int32) → (mL_account (fun (r17 : Int32) (S16 : Mem) => ((¬ r17 = (4 : Int32) → (False)) ∧ (r17 = (4 : Int32) → (mX5_under (fun (r20 : Int32) (S19 : Mem) => ((¬ r20 = 0 → (False)) ∧ (r20 = 0 → (mL_clearIn (fun (r23 : Int32) (S22 : Mem) => ((¬ r23 = 0 → (False)) ∧ (r23 = 0 → (mX5_kinds (fun (r26 : Int32) (S25 : Mem) => ((r26 = (7 : Int32) → (∃ fu : Nat, fu ≤ 61 ∧ mL_lawA_b90 ex K658 fu S25 (0 : Int32))) ∧ (¬ r26 = (7 : Int32) → (False)))) S22)))) S19)))) S16)))) S13 (1 : Int32))))) S10 (0 : Int32))))) S7 (24 : Int32))))) S4)))) S1)))) S
set_option maxRecDepth 100000 in
set_option maxHeartbeats 4000000 in
theorem bL_lawA_426 {p : Program} {l : Launch} {e : Env} {s : State} {m : MethodId} {args : Array Value} {below : List Frame} {meth : Method} {c : Code} {D : va_G} {ky : Nat → ClassId} {ad : Nat → Nat} {ex : Nat → Nat → Nat} {Q : State → Prop} (F : Gx p s m args meth c D ky ad ex cL_law 11 "FordTollLaw" (fun q => s.heap.size ≤ q)) (hr : meth.sig.returnType = (some .boolean)) (hf : l.stackTraces = false)  (kc658 ks658 : Nat) {K658 : Mem → Prop} (hK658 : ∀ (cells slots : Nat) (S : Mem) (H : Heap) (locs : List Loc) (ls : Array Slot), cells + kc658 ≤ 671210 → slots + ks658 ≤ 7075145 → K658 S → Cg D ky ad s (fun q => s.heap.size ≤ q) S [] H locs → lv_has ls 11 [(0, .ref (ex 4 0))] → W p l e room_1 s m args below meth c H locs cells slots Q (F0 m 658 ls [])) : ∀ (n : Nat) (cells slots : Nat) (S : Mem) (v2 : Int32) (H : Heap) (locs : List Loc) (ls : Array Slot), cells + (3 * n + 31 + kc658) ≤ 671210 → slots + (18 * n + 186 + ks658) ≤ 7075145 → mL_lawA_b426 ex K658 n S v2 → Cg D ky ad s (fun q => s.heap.size ≤ q) S [] H locs → lv_has ls 11 [(0, .ref (ex 4 0)), (1, .ref (ad 110)), (2, .int v2)] → W p l e room_1 s m args below meth c H locs cells slots Q (F0 m 426 ls []) := by
  intro n
  induction n with
  | zero =>
    intro cells slots S v2 H locs ls  hc hs h
    exact False.elim h
  | succ n ih =>
    intro cells slots S v2 H locs ls  hc hs h C hl
    refine lv_iload_n F.x F.b dL_law_426 rfl (lv_at hl 2 rfl) ?_
    refine lv_iconst (v := 3) F.x F.b dL_law_427 (by decide) ?_
    refine lv_icmp_ge (tgt := 448) F.x F.b dL_law_428 (by decide) (fun g1 => ?_) (fun g1 => ?_)
    · have h := h.1 g1
      refine lv_aload_n F.x F.b dL_law_448 rfl (lv_at hl 1 rfl) ?_
      refine gSI F C hl (kL_o9 hf h) wv_L_242 ⟨rfl, rfl, ⟨Nat.le_of_ble_eq_true rfl, Nat.le_of_ble_eq_true rfl⟩, ⟨(show _ ≤ (671210 : Nat) by omega), (show _ ≤ (7075145 : Nat) by omega)⟩, Nat.le_of_ble_eq_true rfl⟩ (rest := []) rfl dL_law_449 (fun r3 S2 H locs h C => ?_)
      refine lv_iconst (v := 3) F.x F.b dL_law_452 (by decide) ?_
      refine lv_icmp_ne (tgt := 621) F.x F.b dL_law_453 (by decide) (fun g4 => ?_) (fun g4 => ?_)
      · have h := h.1 g4
        refine lv_iconst (v := 0) F.x F.b dL_law_621 (by decide) ?_
        exact h.elim
      · have h := h.2 g4
        refine lv_aload_n F.x F.b dL_law_456 rfl (lv_at hl 1 rfl) ?_
        refine lv_bipush (v := 10) F.x F.b dL_law_457 (by decide) ?_
        refine gSH F C hl (kL_pass hf h) wh_L_212 ⟨rfl, rfl, ⟨Nat.le_of_ble_eq_true rfl, Nat.le_of_ble_eq_true rfl⟩, ⟨(show _ ≤ (671210 : Nat) by omega), (show _ ≤ (7075145 : Nat) by omega)⟩, Nat.le_of_ble_eq_true rfl⟩ (rest := []) rfl dL_law_459 (fun r6 S5 H locs h C => ?_)
        refine lv_if_ne (tgt := 621) F.x F.b dL_law_462 (by decide) (fun g7 => ?_) (fun g7 => ?_)
        · have h := h.1 g7
          refine lv_iconst (v := 0) F.x F.b dL_law_621 (by decide) ?_
          exact h.elim
        · have h := h.2 g7
          refine lv_aload_n F.x F.b dL_law_465 rfl (lv_at hl 1 rfl) ?_
          refine lv_iconst (v := 0) F.x F.b dL_law_466 (by decide) ?_
          refine lv_iconst (v := 2) F.x F.b dL_law_467 (by decide) ?_
          refine gSH F C hl (kL_travellerOf hf h) wh_L_181 ⟨rfl, rfl, ⟨Nat.le_of_ble_eq_true rfl, Nat.le_of_ble_eq_true rfl⟩, ⟨(show _ ≤ (671210 : Nat) by omega), (show _ ≤ (7075145 : Nat) by omega)⟩, Nat.le_of_ble_eq_true rfl⟩ (rest := []) rfl dL_law_468 (fun r9 S8 H locs h C => ?_)
          refine lv_bipush (v := 20) F.x F.b dL_law_471 (by decide) ?_
          refine lv_icmp_ne (tgt := 621) F.x F.b dL_law_473 (by decide) (fun g10 => ?_) (fun g10 => ?_)
          · have h := h.1 g10
            refine lv_iconst (v := 0) F.x F.b dL_law_621 (by decide) ?_
            exact h.elim
          · have h := h.2 g10
            refine lv_aload_n F.x F.b dL_law_476 rfl (lv_at hl 1 rfl) ?_
            refine lv_iconst (v := 2) F.x F.b dL_law_477 (by decide) ?_
            refine lv_iconst (v := 2) F.x F.b dL_law_478 (by decide) ?_
            refine gSH F C hl (kL_travellerOf hf h) wh_L_181 ⟨rfl, rfl, ⟨Nat.le_of_ble_eq_true rfl, Nat.le_of_ble_eq_true rfl⟩, ⟨(show _ ≤ (671210 : Nat) by omega), (show _ ≤ (7075145 : Nat) by omega)⟩, Nat.le_of_ble_eq_true rfl⟩ (rest := []) rfl dL_law_479 (fun r12 S11 H locs h C => ?_)
            refine lv_bipush (v := 20) F.x F.b dL_law_482 (by decide) ?_
            refine lv_icmp_ne (tgt := 621) F.x F.b dL_law_484 (by decide) (fun g13 => ?_) (fun g13 => ?_)
            · have h := h.1 g13
              refine lv_iconst (v := 0) F.x F.b dL_law_621 (by decide) ?_
              exact h.elim
            · have h := h.2 g13
              refine lv_aload_n F.x F.b dL_law_487 rfl (lv_at hl 1 rfl) ?_
              refine lv_iconst (v := 1) F.x F.b dL_law_488 (by decide) ?_
              refine gSH F C hl (kL_pass hf h) wh_L_212 ⟨rfl, rfl, ⟨Nat.le_of_ble_eq_true rfl, Nat.le_of_ble_eq_true rfl⟩, ⟨(show _ ≤ (671210 : Nat) by omega), (show _ ≤ (7075145 : Nat) by omega)⟩, Nat.le_of_ble_eq_true rfl⟩ (rest := []) rfl dL_law_489 (fun r15 S14 H locs h C => ?_)
              refine lv_iconst (v := 3) F.x F.b dL_law_492 (by decide) ?_
              refine lv_icmp_ne (tgt := 621) F.x F.b dL_law_493 (by decide) (fun g16 => ?_) (fun g16 => ?_)
              · have h := h.1 g16
                refine lv_iconst (v := 0) F.x F.b dL_law_621 (by decide) ?_
                exact h.elim
              · have h := h.2 g16
                refine lv_aload_n F.x F.b dL_law_496 rfl (lv_at hl 1 rfl) ?_
                refine lv_iconst (v := 0) F.x F.b dL_law_497 (by decide) ?_
                refine lv_iconst (v := 2) F.x F.b dL_law_498 (by decide) ?_
                refine gSH F C hl (kL_travellerOf hf h) wh_L_181 ⟨rfl, rfl, ⟨Nat.le_of_ble_eq_true rfl, Nat.le_of_ble_eq_true rfl⟩, ⟨(show _ ≤ (671210 : Nat) by omega), (show _ ≤ (7075145 : Nat) by omega)⟩, Nat.le_of_ble_eq_true rfl⟩ (rest := []) rfl dL_law_499 (fun r18 S17 H locs h C => ?_)
                refine lv_bipush (v := 17) F.x F.b dL_law_502 (by decide) ?_
                refine lv_icmp_ne (tgt := 621) F.x F.b dL_law_504 (by decide) (fun g19 => ?_) (fun g19 => ?_)
                · have h := h.1 g19
                  refine lv_iconst (v := 0) F.x F.b dL_law_621 (by decide) ?_
                  exact h.elim
                · have h := h.2 g19
                  refine lv_aload_n F.x F.b dL_law_507 rfl (lv_at hl 1 rfl) ?_
                  refine lv_iconst (v := 1) F.x F.b dL_law_508 (by decide) ?_
                  refine lv_iconst (v := 2) F.x F.b dL_law_509 (by decide) ?_
                  refine gSH F C hl (kL_travellerOf hf h) wh_L_181 ⟨rfl, rfl, ⟨Nat.le_of_ble_eq_true rfl, Nat.le_of_ble_eq_true rfl⟩, ⟨(show _ ≤ (671210 : Nat) by omega), (show _ ≤ (7075145 : Nat) by omega)⟩, Nat.le_of_ble_eq_true rfl⟩ (rest := []) rfl dL_law_510 (fun r21 S20 H locs h C => ?_)
                  refine lv_bipush (v := 17) F.x F.b dL_law_513 (by decide) ?_
                  refine lv_icmp_ne (tgt := 621) F.x F.b dL_law_515 (by decide) (fun g22 => ?_) (fun g22 => ?_)
                  · have h := h.1 g22
                    refine lv_iconst (v := 0) F.x F.b dL_law_621 (by decide) ?_
                    exact h.elim
                  · have h := h.2 g22
                    refine lv_aload_n F.x F.b dL_law_518 rfl (lv_at hl 1 rfl) ?_
                    refine lv_iconst (v := 2) F.x F.b dL_law_519 (by decide) ?_
                    refine lv_iconst (v := 2) F.x F.b dL_law_520 (by decide) ?_
                    refine gSH F C hl (kL_travellerOf hf h) wh_L_181 ⟨rfl, rfl, ⟨Nat.le_of_ble_eq_true rfl, Nat.le_of_ble_eq_true rfl⟩, ⟨(show _ ≤ (671210 : Nat) by omega), (show _ ≤ (7075145 : Nat) by omega)⟩, Nat.le_of_ble_eq_true rfl⟩ (rest := []) rfl dL_law_521 (fun r24 S23 H locs h C => ?_)
                    refine lv_bipush (v := 20) F.x F.b dL_law_524 (by decide) ?_
                    refine lv_icmp_ne (tgt := 621) F.x F.b dL_law_526 (by decide) (fun g25 => ?_) (fun g25 => ?_)
                    · have h := h.1 g25
                      refine lv_iconst (v := 0) F.x F.b dL_law_621 (by decide) ?_
                      exact h.elim
                    · have h := h.2 g25
                      refine lv_aload_n F.x F.b dL_law_529 rfl (lv_at hl 1 rfl) ?_
                      refine lv_iconst (v := 2) F.x F.b dL_law_530 (by decide) ?_
                      refine gSH F C hl (kL_setOut hf h) wh_L_206 ⟨rfl, rfl, ⟨Nat.le_of_ble_eq_true rfl, Nat.le_of_ble_eq_true rfl⟩, ⟨(show _ ≤ (671210 : Nat) by omega), (show _ ≤ (7075145 : Nat) by omega)⟩, Nat.le_of_ble_eq_true rfl⟩ (rest := []) rfl dL_law_531 (fun r27 S26 H locs h C => ?_)
                      refine lv_sipush (v := -1002) F.x F.b dL_law_534 (by decide) ?_
                      refine lv_icmp_ne (tgt := 621) F.x F.b dL_law_537 (by decide) (fun g28 => ?_) (fun g28 => ?_)
                      · have h := h.1 g28
                        refine lv_iconst (v := 0) F.x F.b dL_law_621 (by decide) ?_
                        exact h.elim
                      · have h := h.2 g28
                        refine lv_aload_n F.x F.b dL_law_540 rfl (lv_at hl 1 rfl) ?_
                        refine lv_iconst (v := 4) F.x F.b dL_law_541 (by decide) ?_
                        refine lv_bipush (v := 20) F.x F.b dL_law_542 (by decide) ?_
                        refine gSI F C hl (kL_is hf h) wv_L_238 ⟨rfl, rfl, ⟨Nat.le_of_ble_eq_true rfl, Nat.le_of_ble_eq_true rfl⟩, ⟨(show _ ≤ (671210 : Nat) by omega), (show _ ≤ (7075145 : Nat) by omega)⟩, Nat.le_of_ble_eq_true rfl⟩ (rest := []) rfl dL_law_544 (fun r30 S29 H locs h C => ?_)
                        refine lv_if_eq (tgt := 621) F.x F.b dL_law_547 (by decide) (fun g31 => ?_) (fun g31 => ?_)
                        · have h := h.1 g31
                          refine lv_iconst (v := 0) F.x F.b dL_law_621 (by decide) ?_
                          exact h.elim
                        · have h := h.2 g31
                          refine lv_aload_n F.x F.b dL_law_550 rfl (lv_at hl 1 rfl) ?_
                          refine lv_bipush (v := 15) F.x F.b dL_law_551 (by decide) ?_
                          refine gSH F C hl (kL_account hf h) wh_L_177 ⟨rfl, rfl, ⟨Nat.le_of_ble_eq_true rfl, Nat.le_of_ble_eq_true rfl⟩, ⟨(show _ ≤ (671210 : Nat) by omega), (show _ ≤ (7075145 : Nat) by omega)⟩, Nat.le_of_ble_eq_true rfl⟩ (rest := []) rfl dL_law_553 (fun r33 S32 H locs h C => ?_)
                          refine lv_bipush (v := 54) F.x F.b dL_law_556 (by decide) ?_
                          refine lv_icmp_ne (tgt := 621) F.x F.b dL_law_558 (by decide) (fun g34 => ?_) (fun g34 => ?_)
                          · have h := h.1 g34
                            refine lv_iconst (v := 0) F.x F.b dL_law_621 (by decide) ?_
                            exact h.elim
                          · have h := h.2 g34
                            refine lv_aload_n F.x F.b dL_law_561 rfl (lv_at hl 1 rfl) ?_
                            refine lv_iconst (v := 1) F.x F.b dL_law_562 (by decide) ?_
                            refine gSH F C hl (kL_pass hf h) wh_L_212 ⟨rfl, rfl, ⟨Nat.le_of_ble_eq_true rfl, Nat.le_of_ble_eq_true rfl⟩, ⟨(show _ ≤ (671210 : Nat) by omega), (show _ ≤ (7075145 : Nat) by omega)⟩, Nat.le_of_ble_eq_true rfl⟩ (rest := []) rfl dL_law_563 (fun r36 S35 H locs h C => ?_)
                            refine lv_if_ne (tgt := 621) F.x F.b dL_law_566 (by decide) (fun g37 => ?_) (fun g37 => ?_)
                            · have h := h.1 g37
                              refine lv_iconst (v := 0) F.x F.b dL_law_621 (by decide) ?_
                              exact h.elim
                            · have h := h.2 g37
                              refine lv_aload_n F.x F.b dL_law_569 rfl (lv_at hl 1 rfl) ?_
                              refine lv_iconst (v := 2) F.x F.b dL_law_570 (by decide) ?_
                              refine lv_iconst (v := 2) F.x F.b dL_law_571 (by decide) ?_
                              refine gSH F C hl (kL_travellerOf hf h) wh_L_181 ⟨rfl, rfl, ⟨Nat.le_of_ble_eq_true rfl, Nat.le_of_ble_eq_true rfl⟩, ⟨(show _ ≤ (671210 : Nat) by omega), (show _ ≤ (7075145 : Nat) by omega)⟩, Nat.le_of_ble_eq_true rfl⟩ (rest := []) rfl dL_law_572 (fun r39 S38 H locs h C => ?_)
                              refine lv_bipush (v := 17) F.x F.b dL_law_575 (by decide) ?_
                              refine lv_icmp_ne (tgt := 621) F.x F.b dL_law_577 (by decide) (fun g40 => ?_) (fun g40 => ?_)
                              · have h := h.1 g40
                                refine lv_iconst (v := 0) F.x F.b dL_law_621 (by decide) ?_
                                exact h.elim
                              · have h := h.2 g40
                                refine lv_aload_n F.x F.b dL_law_580 rfl (lv_at hl 1 rfl) ?_
                                refine lv_iconst (v := 0) F.x F.b dL_law_581 (by decide) ?_
                                refine lv_iconst (v := 2) F.x F.b dL_law_582 (by decide) ?_
                                refine gSH F C hl (kL_travellerOf hf h) wh_L_181 ⟨rfl, rfl, ⟨Nat.le_of_ble_eq_true rfl, Nat.le_of_ble_eq_true rfl⟩, ⟨(show _ ≤ (671210 : Nat) by omega), (show _ ≤ (7075145 : Nat) by omega)⟩, Nat.le_of_ble_eq_true rfl⟩ (rest := []) rfl dL_law_583 (fun r42 S41 H locs h C => ?_)
                                refine lv_bipush (v := 14) F.x F.b dL_law_586 (by decide) ?_
                                refine lv_icmp_ne (tgt := 621) F.x F.b dL_law_588 (by decide) (fun g43 => ?_) (fun g43 => ?_)
                                · have h := h.1 g43
                                  refine lv_iconst (v := 0) F.x F.b dL_law_621 (by decide) ?_
                                  exact h.elim
                                · have h := h.2 g43
                                  refine lv_aload_n F.x F.b dL_law_591 rfl (lv_at hl 1 rfl) ?_
                                  refine lv_iconst (v := 1) F.x F.b dL_law_592 (by decide) ?_
                                  refine lv_iconst (v := 2) F.x F.b dL_law_593 (by decide) ?_
                                  refine gSH F C hl (kL_travellerOf hf h) wh_L_181 ⟨rfl, rfl, ⟨Nat.le_of_ble_eq_true rfl, Nat.le_of_ble_eq_true rfl⟩, ⟨(show _ ≤ (671210 : Nat) by omega), (show _ ≤ (7075145 : Nat) by omega)⟩, Nat.le_of_ble_eq_true rfl⟩ (rest := []) rfl dL_law_594 (fun r45 S44 H locs h C => ?_)
                                  refine lv_bipush (v := 17) F.x F.b dL_law_597 (by decide) ?_
                                  refine lv_icmp_ne (tgt := 621) F.x F.b dL_law_599 (by decide) (fun g46 => ?_) (fun g46 => ?_)
                                  · have h := h.1 g46
                                    refine lv_iconst (v := 0) F.x F.b dL_law_621 (by decide) ?_
                                    exact h.elim
                                  · have h := h.2 g46
                                    refine lv_aload_n F.x F.b dL_law_602 rfl (lv_at hl 1 rfl) ?_
                                    refine gSHf F C hl (kL_crossingShare hf h) wh_L_168 ⟨rfl, rfl, ⟨Nat.le_of_ble_eq_true rfl, Nat.le_of_ble_eq_true rfl⟩, ⟨(show _ ≤ (671210 : Nat) by omega), (show _ ≤ (7075145 : Nat) by omega)⟩, Nat.le_of_ble_eq_true rfl⟩ (rest := []) rfl dL_law_603 (fun r48 S47 H locs h C => ?_)
                                    refine lv_fconst1 F.x F.b dL_law_606 ?_
                                    obtain ⟨g49, h⟩ := h
                                    refine lv_fcmpE F.x F.b dL_law_607 g49 ?_
                                    refine lv_if_ne (tgt := 621) F.x F.b dL_law_608 (by decide) (fun g => absurd rfl g) (fun _ => ?_)
                                    refine lv_aload_n F.x F.b dL_law_611 rfl (lv_at hl 1 rfl) ?_
                                    refine lv_bipush (v := 13) F.x F.b dL_law_612 (by decide) ?_
                                    refine gSH F C hl (kL_account hf h) wh_L_177 ⟨rfl, rfl, ⟨Nat.le_of_ble_eq_true rfl, Nat.le_of_ble_eq_true rfl⟩, ⟨(show _ ≤ (671210 : Nat) by omega), (show _ ≤ (7075145 : Nat) by omega)⟩, Nat.le_of_ble_eq_true rfl⟩ (rest := []) rfl dL_law_614 (fun r51 S50 H locs h C => ?_)
                                    refine lv_iconst (v := 4) F.x F.b dL_law_617 (by decide) ?_
                                    refine lv_icmp_eq (tgt := 623) F.x F.b dL_law_618 (by decide) (fun g52 => ?_) (fun g52 => ?_)
                                    · have h := h.1 g52
                                      refine lv_aload_n F.x F.b dL_law_623 rfl (lv_at hl 1 rfl) ?_
                                      refine gSH F C hl (kL_restore hf h) wh_L_233 ⟨rfl, rfl, ⟨Nat.le_of_ble_eq_true rfl, Nat.le_of_ble_eq_true rfl⟩, ⟨(show _ ≤ (671210 : Nat) by omega), (show _ ≤ (7075145 : Nat) by omega)⟩, Nat.le_of_ble_eq_true rfl⟩ (rest := []) rfl dL_law_624 (fun r54 S53 H locs h C => ?_)
                                      refine lv_if_ne (tgt := 656) F.x F.b dL_law_627 (by decide) (fun g55 => ?_) (fun g55 => ?_)
                                      · have h := h.1 g55
                                        refine lv_iconst (v := 0) F.x F.b dL_law_656 (by decide) ?_
                                        exact h.elim
                                      · have h := h.2 g55
                                        refine lv_aload_n F.x F.b dL_law_630 rfl (lv_at hl 1 rfl) ?_
                                        refine lv_iconst (v := 0) F.x F.b dL_law_631 (by decide) ?_
                                        refine gSH F C hl (kL_account hf h) wh_L_177 ⟨rfl, rfl, ⟨Nat.le_of_ble_eq_true rfl, Nat.le_of_ble_eq_true rfl⟩, ⟨(show _ ≤ (671210 : Nat) by omega), (show _ ≤ (7075145 : Nat) by omega)⟩, Nat.le_of_ble_eq_true rfl⟩ (rest := []) rfl dL_law_632 (fun r57 S56 H locs h C => ?_)
                                        refine lv_if_ne (tgt := 656) F.x F.b dL_law_635 (by decide) (fun g58 => ?_) (fun g58 => ?_)
                                        · have h := h.1 g58
                                          refine lv_iconst (v := 0) F.x F.b dL_law_656 (by decide) ?_
                                          exact h.elim
                                        · have h := h.2 g58
                                          refine lv_aload_n F.x F.b dL_law_638 rfl (lv_at hl 1 rfl) ?_
                                          refine lv_iconst (v := 3) F.x F.b dL_law_639 (by decide) ?_
                                          refine gSH F C hl (kL_account hf h) wh_L_177 ⟨rfl, rfl, ⟨Nat.le_of_ble_eq_true rfl, Nat.le_of_ble_eq_true rfl⟩, ⟨(show _ ≤ (671210 : Nat) by omega), (show _ ≤ (7075145 : Nat) by omega)⟩, Nat.le_of_ble_eq_true rfl⟩ (rest := []) rfl dL_law_640 (fun r60 S59 H locs h C => ?_)
                                          refine lv_if_ne (tgt := 656) F.x F.b dL_law_643 (by decide) (fun g61 => ?_) (fun g61 => ?_)
                                          · have h := h.1 g61
                                            refine lv_iconst (v := 0) F.x F.b dL_law_656 (by decide) ?_
                                            exact h.elim
                                          · have h := h.2 g61
                                            refine lv_aload_n F.x F.b dL_law_646 rfl (lv_at hl 1 rfl) ?_
                                            refine gSH F C hl (kL_undo hf h) wh_L_231 ⟨rfl, rfl, ⟨Nat.le_of_ble_eq_true rfl, Nat.le_of_ble_eq_true rfl⟩, ⟨(show _ ≤ (671210 : Nat) by omega), (show _ ≤ (7075145 : Nat) by omega)⟩, Nat.le_of_ble_eq_true rfl⟩ (rest := []) rfl dL_law_647 (fun r63 S62 H locs h C => ?_)
                                            refine lv_sipush (v := -1001) F.x F.b dL_law_650 (by decide) ?_
                                            refine lv_icmp_eq (tgt := 658) F.x F.b dL_law_653 (by decide) (fun g64 => ?_) (fun g64 => ?_)
                                            · have h := h.1 g64
                                              exact hK658 _ _ S62 _ _ _ (by omega) (by omega) h C (lv_sub hl [0] rfl)
                                            · have h := h.2 g64
                                              refine lv_iconst (v := 0) F.x F.b dL_law_656 (by decide) ?_
                                              exact h.elim
                                    · have h := h.2 g52
                                      refine lv_iconst (v := 0) F.x F.b dL_law_621 (by decide) ?_
                                      exact h.elim
    · have h := h.2 g1
      refine lv_aload_n F.x F.b dL_law_431 rfl (lv_at hl 1 rfl) ?_
      refine lv_iload_n F.x F.b dL_law_432 rfl (lv_at hl 2 rfl) ?_
      refine gSH F C hl (kL_setOut hf h) wh_L_206 ⟨rfl, rfl, ⟨Nat.le_of_ble_eq_true rfl, Nat.le_of_ble_eq_true rfl⟩, ⟨(show _ ≤ (671210 : Nat) by omega), (show _ ≤ (7075145 : Nat) by omega)⟩, Nat.le_of_ble_eq_true rfl⟩ (rest := []) rfl dL_law_433 (fun r66 S65 H locs h C => ?_)
      refine lv_iconst (v := 2) F.x F.b dL_law_436 (by decide) ?_
      refine lv_icmp_eq (tgt := 442) F.x F.b dL_law_437 (by decide) (fun g67 => ?_) (fun g67 => ?_)
      · have h := h.1 g67
        obtain ⟨x68, ex68⟩ : ∃ z : Int32, z = v2 + (1 : Int32) := ⟨_, rfl⟩
        have h := h x68 ex68
        refine lv_iinc (v := x68) (lv' := [(2, .int x68), (0, .ref (ex 4 0)), (1, .ref (ad 110))]) F.x F.b dL_law_442 hl (k := 2) rfl (by rw [ex68]; rfl) (by decide) rfl (fun ls hl => ?_)
        refine lv_goto (tgt := 426) F.x F.b dL_law_445 (by decide) ?_
        exact ih _ _ S65 x68 _ _ _ (by omega) (by omega) h C (lv_sub hl [1, 2, 0] rfl)
      · have h := h.2 g67
        refine lv_iconst (v := 0) F.x F.b dL_law_440 (by decide) ?_
        exact h.elim
set_option maxRecDepth 100000 in
set_option maxHeartbeats 4000000 in
theorem bL_lawA_398 {p : Program} {l : Launch} {e : Env} {s : State} {m : MethodId} {args : Array Value} {below : List Frame} {meth : Method} {c : Code} {D : va_G} {ky : Nat → ClassId} {ad : Nat → Nat} {ex : Nat → Nat → Nat} {Q : State → Prop} (F : Gx p s m args meth c D ky ad ex cL_law 11 "FordTollLaw" (fun q => s.heap.size ≤ q)) (hr : meth.sig.returnType = (some .boolean)) (hf : l.stackTraces = false)  (kc658 ks658 : Nat) {K658 : Mem → Prop} (hK658 : ∀ (cells slots : Nat) (S : Mem) (H : Heap) (locs : List Loc) (ls : Array Slot), cells + kc658 ≤ 671210 → slots + ks658 ≤ 7075145 → K658 S → Cg D ky ad s (fun q => s.heap.size ≤ q) S [] H locs → lv_has ls 11 [(0, .ref (ex 4 0))] → W p l e room_1 s m args below meth c H locs cells slots Q (F0 m 658 ls [])) : ∀ (n : Nat) (cells slots : Nat) (S : Mem) (v2 : Int32) (H : Heap) (locs : List Loc) (ls : Array Slot), cells + (3 * n + 43 + kc658) ≤ 671210 → slots + (18 * n + 258 + ks658) ≤ 7075145 → mL_lawA_b398 ex K658 n S v2 → Cg D ky ad s (fun q => s.heap.size ≤ q) S [] H locs → lv_has ls 11 [(0, .ref (ex 4 0)), (1, .ref (ad 110)), (2, .int v2)] → W p l e room_1 s m args below meth c H locs cells slots Q (F0 m 398 ls []) := by
  intro n
  induction n with
  | zero =>
    intro cells slots S v2 H locs ls  hc hs h
    exact False.elim h
  | succ n ih =>
    intro cells slots S v2 H locs ls  hc hs h C hl
    refine lv_iload_n F.x F.b dL_law_398 rfl (lv_at hl 2 rfl) ?_
    refine lv_bipush (v := 10) F.x F.b dL_law_399 (by decide) ?_
    refine lv_icmp_ge (tgt := 424) F.x F.b dL_law_401 (by decide) (fun g1 => ?_) (fun g1 => ?_)
    · have h := h.1 g1
      refine lv_iconst (v := 0) F.x F.b dL_law_424 (by decide) ?_
      refine lv_istore_n (lv' := [(2, .int (0 : Int32)), (0, .ref (ex 4 0)), (1, .ref (ad 110))]) F.x F.b dL_law_425 rfl hl (by decide) rfl (fun ls hl => ?_)
      obtain ⟨n2, hn2, h⟩ := h
      exact bL_lawA_426 F hr hf kc658 ks658 hK658 n2 _ _ S (0 : Int32) _ _ _ (by omega) (by omega) h C (lv_sub hl [1, 2, 0] rfl)
    · have h := h.2 g1
      refine lv_aload_n F.x F.b dL_law_404 rfl (lv_at hl 1 rfl) ?_
      refine lv_iload_n F.x F.b dL_law_405 rfl (lv_at hl 2 rfl) ?_
      refine lv_bipush (v := 6) F.x F.b dL_law_406 (by decide) ?_
      refine gSH F C hl (kL_height hf h) wh_L_148 ⟨rfl, rfl, ⟨Nat.le_of_ble_eq_true rfl, Nat.le_of_ble_eq_true rfl⟩, ⟨(show _ ≤ (671210 : Nat) by omega), (show _ ≤ (7075145 : Nat) by omega)⟩, Nat.le_of_ble_eq_true rfl⟩ (rest := []) rfl dL_law_408 (fun r4 S3 H locs h C => ?_)
      refine lv_bipush (v := 10) F.x F.b dL_law_411 (by decide) ?_
      refine lv_icmp_eq (tgt := 418) F.x F.b dL_law_413 (by decide) (fun g5 => ?_) (fun g5 => ?_)
      · have h := h.1 g5
        obtain ⟨x6, ex6⟩ : ∃ z : Int32, z = v2 + (1 : Int32) := ⟨_, rfl⟩
        have h := h x6 ex6
        refine lv_iinc (v := x6) (lv' := [(2, .int x6), (0, .ref (ex 4 0)), (1, .ref (ad 110))]) F.x F.b dL_law_418 hl (k := 2) rfl (by rw [ex6]; rfl) (by decide) rfl (fun ls hl => ?_)
        refine lv_goto (tgt := 398) F.x F.b dL_law_421 (by decide) ?_
        exact ih _ _ S3 x6 _ _ _ (by omega) (by omega) h C (lv_sub hl [1, 2, 0] rfl)
      · have h := h.2 g5
        refine lv_iconst (v := 0) F.x F.b dL_law_416 (by decide) ?_
        exact h.elim
set_option maxRecDepth 100000 in
set_option maxHeartbeats 4000000 in
theorem bL_lawA_180 {p : Program} {l : Launch} {e : Env} {s : State} {m : MethodId} {args : Array Value} {below : List Frame} {meth : Method} {c : Code} {D : va_G} {ky : Nat → ClassId} {ad : Nat → Nat} {ex : Nat → Nat → Nat} {Q : State → Prop} (F : Gx p s m args meth c D ky ad ex cL_law 11 "FordTollLaw" (fun q => s.heap.size ≤ q)) (hr : meth.sig.returnType = (some .boolean)) (hf : l.stackTraces = false)  (kc162 ks162 : Nat) {K162 : Mem → Int32 → Prop} (hK162 : ∀ (cells slots : Nat) (S : Mem) (v2 : Int32) (H : Heap) (locs : List Loc) (ls : Array Slot), cells + kc162 ≤ 671210 → slots + ks162 ≤ 7075145 → K162 S v2 → Cg D ky ad s (fun q => s.heap.size ≤ q) S [] H locs → lv_has ls 11 [(0, .ref (ex 4 0)), (1, .ref (ad 110)), (2, .int v2)] → W p l e room_1 s m args below meth c H locs cells slots Q (F0 m 162 ls [])) : ∀ (cells slots : Nat) (S : Mem) (v2 : Int32) (vt0 : Int32) (H : Heap) (locs : List Loc) (ls : Array Slot), cells + (2 + kc162) ≤ 671210 → slots + (12 + ks162) ≤ 7075145 → mL_lawA_b180 ex K162 S v2 vt0 → Cg D ky ad s (fun q => s.heap.size ≤ q) S [] H locs → lv_has ls 11 [(0, .ref (ex 4 0)), (1, .ref (ad 110)), (2, .int v2)] → W p l e room_1 s m args below meth c H locs cells slots Q (F0 m 180 ls [.int vt0, .ref (ad 110)]) := by
  intro cells slots S v2 vt0 H locs ls  hc hs h C hl
  unfold mL_lawA_b180 at h
  refine gSH F C hl (kL_traveller hf h) wh_L_151 ⟨rfl, rfl, ⟨Nat.le_of_ble_eq_true rfl, Nat.le_of_ble_eq_true rfl⟩, ⟨(show _ ≤ (671210 : Nat) by omega), (show _ ≤ (7075145 : Nat) by omega)⟩, Nat.le_of_ble_eq_true rfl⟩ (rest := []) rfl dL_law_180 (fun r2 S1 H locs h C => ?_)
  refine lv_iload_n F.x F.b dL_law_183 rfl (lv_at hl 2 rfl) ?_
  refine lv_icmp_eq (tgt := 189) F.x F.b dL_law_184 (by decide) (fun g3 => ?_) (fun g3 => ?_)
  · have h := h.1 g3
    obtain ⟨x4, ex4⟩ : ∃ z : Int32, z = v2 + (1 : Int32) := ⟨_, rfl⟩
    have h := h x4 ex4
    refine lv_iinc (v := x4) (lv' := [(2, .int x4), (0, .ref (ex 4 0)), (1, .ref (ad 110))]) F.x F.b dL_law_189 hl (k := 2) rfl (by rw [ex4]; rfl) (by decide) rfl (fun ls hl => ?_)
    refine lv_goto (tgt := 162) F.x F.b dL_law_192 (by decide) ?_
    exact hK162 _ _ S1 x4 _ _ _ (by omega) (by omega) h C (lv_sub hl [1, 2, 0] rfl)
  · have h := h.2 g3
    refine lv_iconst (v := 0) F.x F.b dL_law_187 (by decide) ?_
    exact h.elim
set_option maxRecDepth 100000 in
set_option maxHeartbeats 4000000 in
theorem bL_lawA_162 {p : Program} {l : Launch} {e : Env} {s : State} {m : MethodId} {args : Array Value} {below : List Frame} {meth : Method} {c : Code} {D : va_G} {ky : Nat → ClassId} {ad : Nat → Nat} {ex : Nat → Nat → Nat} {Q : State → Prop} (F : Gx p s m args meth c D ky ad ex cL_law 11 "FordTollLaw" (fun q => s.heap.size ≤ q)) (hr : meth.sig.returnType = (some .boolean)) (hf : l.stackTraces = false)  (kc658 ks658 : Nat) {K658 : Mem → Prop} (hK658 : ∀ (cells slots : Nat) (S : Mem) (H : Heap) (locs : List Loc) (ls : Array Slot), cells + kc658 ≤ 671210 → slots + ks658 ≤ 7075145 → K658 S → Cg D ky ad s (fun q => s.heap.size ≤ q) S [] H locs → lv_has ls 11 [(0, .ref (ex 4 0))] → W p l e room_1 s m args below meth c H locs cells slots Q (F0 m 658 ls [])) : ∀ (n : Nat) (cells slots : Nat) (S : Mem) (v2 : Int32) (H : Heap) (locs : List Loc) (ls : Array Slot), cells + (2 * n + 113 + kc658) ≤ 671210 → slots + (12 * n + 678 + ks658) ≤ 7075145 → mL_lawA_b162 ex K658 n S v2 → Cg D ky ad s (fun q => s.heap.size ≤ q) S [] H locs → lv_has ls 11 [(0, .ref (ex 4 0)), (1, .ref (ad 110)), (2, .int v2)] → W p l e room_1 s m args below meth c H locs cells slots Q (F0 m 162 ls []) := by
  intro n
  induction n with
  | zero =>
    intro cells slots S v2 H locs ls  hc hs h
    exact False.elim h
  | succ n ih =>
    intro cells slots S v2 H locs ls  hc hs h C hl
    refine lv_iload_n F.x F.b dL_law_162 rfl (lv_at hl 2 rfl) ?_
    refine lv_bipush (v := 8) F.x F.b dL_law_163 (by decide) ?_
    refine lv_icmp_ge (tgt := 195) F.x F.b dL_law_165 (by decide) (fun g1 => ?_) (fun g1 => ?_)
    · have h := h.1 g1
      refine lv_aload_n F.x F.b dL_law_195 rfl (lv_at hl 1 rfl) ?_
      refine lv_iconst (v := 0) F.x F.b dL_law_196 (by decide) ?_
      refine gSH F C hl (kL_traveller hf h) wh_L_151 ⟨rfl, rfl, ⟨Nat.le_of_ble_eq_true rfl, Nat.le_of_ble_eq_true rfl⟩, ⟨(show _ ≤ (671210 : Nat) by omega), (show _ ≤ (7075145 : Nat) by omega)⟩, Nat.le_of_ble_eq_true rfl⟩ (rest := []) rfl dL_law_197 (fun r3 S2 H locs h C => ?_)
      refine lv_sipush (v := -1002) F.x F.b dL_law_200 (by decide) ?_
      refine lv_icmp_ne (tgt := 394) F.x F.b dL_law_203 (by decide) (fun g4 => ?_) (fun g4 => ?_)
      · have h := h.1 g4
        refine lv_iconst (v := 0) F.x F.b dL_law_394 (by decide) ?_
        exact h.elim
      · have h := h.2 g4
        refine lv_aload_n F.x F.b dL_law_206 rfl (lv_at hl 1 rfl) ?_
        refine lv_iconst (v := 1) F.x F.b dL_law_207 (by decide) ?_
        refine lv_bipush (v := 8) F.x F.b dL_law_208 (by decide) ?_
        refine gSI F C hl (kL_is hf h) wv_L_238 ⟨rfl, rfl, ⟨Nat.le_of_ble_eq_true rfl, Nat.le_of_ble_eq_true rfl⟩, ⟨(show _ ≤ (671210 : Nat) by omega), (show _ ≤ (7075145 : Nat) by omega)⟩, Nat.le_of_ble_eq_true rfl⟩ (rest := []) rfl dL_law_210 (fun r6 S5 H locs h C => ?_)
        refine lv_if_eq (tgt := 394) F.x F.b dL_law_213 (by decide) (fun g7 => ?_) (fun g7 => ?_)
        · have h := h.1 g7
          refine lv_iconst (v := 0) F.x F.b dL_law_394 (by decide) ?_
          exact h.elim
        · have h := h.2 g7
          refine lv_aload_n F.x F.b dL_law_216 rfl (lv_at hl 1 rfl) ?_
          refine lv_iconst (v := 0) F.x F.b dL_law_217 (by decide) ?_
          refine gSH F C hl (kL_fee hf h) wh_L_183 ⟨rfl, rfl, ⟨Nat.le_of_ble_eq_true rfl, Nat.le_of_ble_eq_true rfl⟩, ⟨(show _ ≤ (671210 : Nat) by omega), (show _ ≤ (7075145 : Nat) by omega)⟩, Nat.le_of_ble_eq_true rfl⟩ (rest := []) rfl dL_law_218 (fun r9 S8 H locs h C => ?_)
          refine lv_iconst (v := 2) F.x F.b dL_law_221 (by decide) ?_
          refine lv_icmp_ne (tgt := 394) F.x F.b dL_law_222 (by decide) (fun g10 => ?_) (fun g10 => ?_)
          · have h := h.1 g10
            refine lv_iconst (v := 0) F.x F.b dL_law_394 (by decide) ?_
            exact h.elim
          · have h := h.2 g10
            refine lv_aload_n F.x F.b dL_law_225 rfl (lv_at hl 1 rfl) ?_
            refine lv_bipush (v := 7) F.x F.b dL_law_226 (by decide) ?_
            refine gSH F C hl (kL_fee hf h) wh_L_183 ⟨rfl, rfl, ⟨Nat.le_of_ble_eq_true rfl, Nat.le_of_ble_eq_true rfl⟩, ⟨(show _ ≤ (671210 : Nat) by omega), (show _ ≤ (7075145 : Nat) by omega)⟩, Nat.le_of_ble_eq_true rfl⟩ (rest := []) rfl dL_law_228 (fun r12 S11 H locs h C => ?_)
            refine lv_bipush (v := 8) F.x F.b dL_law_231 (by decide) ?_
            refine lv_icmp_ne (tgt := 394) F.x F.b dL_law_233 (by decide) (fun g13 => ?_) (fun g13 => ?_)
            · have h := h.1 g13
              refine lv_iconst (v := 0) F.x F.b dL_law_394 (by decide) ?_
              exact h.elim
            · have h := h.2 g13
              refine lv_aload_n F.x F.b dL_law_236 rfl (lv_at hl 1 rfl) ?_
              refine lv_bipush (v := 7) F.x F.b dL_law_237 (by decide) ?_
              refine gSH F C hl (kL_setOut hf h) wh_L_206 ⟨rfl, rfl, ⟨Nat.le_of_ble_eq_true rfl, Nat.le_of_ble_eq_true rfl⟩, ⟨(show _ ≤ (671210 : Nat) by omega), (show _ ≤ (7075145 : Nat) by omega)⟩, Nat.le_of_ble_eq_true rfl⟩ (rest := []) rfl dL_law_239 (fun r15 S14 H locs h C => ?_)
              refine lv_bipush (v := 8) F.x F.b dL_law_242 (by decide) ?_
              refine lv_icmp_ne (tgt := 394) F.x F.b dL_law_244 (by decide) (fun g16 => ?_) (fun g16 => ?_)
              · have h := h.1 g16
                refine lv_iconst (v := 0) F.x F.b dL_law_394 (by decide) ?_
                exact h.elim
              · have h := h.2 g16
                refine lv_aload_n F.x F.b dL_law_247 rfl (lv_at hl 1 rfl) ?_
                refine lv_bipush (v := 7) F.x F.b dL_law_248 (by decide) ?_
                refine lv_bipush (v := 8) F.x F.b dL_law_250 (by decide) ?_
                refine gSH F C hl (kL_travellerOf hf h) wh_L_181 ⟨rfl, rfl, ⟨Nat.le_of_ble_eq_true rfl, Nat.le_of_ble_eq_true rfl⟩, ⟨(show _ ≤ (671210 : Nat) by omega), (show _ ≤ (7075145 : Nat) by omega)⟩, Nat.le_of_ble_eq_true rfl⟩ (rest := []) rfl dL_law_252 (fun r18 S17 H locs h C => ?_)
                refine lv_if_ne (tgt := 394) F.x F.b dL_law_255 (by decide) (fun g19 => ?_) (fun g19 => ?_)
                · have h := h.1 g19
                  refine lv_iconst (v := 0) F.x F.b dL_law_394 (by decide) ?_
                  exact h.elim
                · have h := h.2 g19
                  refine lv_aload_n F.x F.b dL_law_258 rfl (lv_at hl 1 rfl) ?_
                  refine lv_bipush (v := 7) F.x F.b dL_law_259 (by decide) ?_
                  refine gSH F C hl (kL_stop hf h) wh_L_208 ⟨rfl, rfl, ⟨Nat.le_of_ble_eq_true rfl, Nat.le_of_ble_eq_true rfl⟩, ⟨(show _ ≤ (671210 : Nat) by omega), (show _ ≤ (7075145 : Nat) by omega)⟩, Nat.le_of_ble_eq_true rfl⟩ (rest := []) rfl dL_law_261 (fun r21 S20 H locs h C => ?_)
                  refine lv_iconst (v := -1) F.x F.b dL_law_264 (by decide) ?_
                  refine lv_icmp_ne (tgt := 394) F.x F.b dL_law_265 (by decide) (fun g22 => ?_) (fun g22 => ?_)
                  · have h := h.1 g22
                    refine lv_iconst (v := 0) F.x F.b dL_law_394 (by decide) ?_
                    exact h.elim
                  · have h := h.2 g22
                    refine lv_aload_n F.x F.b dL_law_268 rfl (lv_at hl 1 rfl) ?_
                    refine lv_bipush (v := 7) F.x F.b dL_law_269 (by decide) ?_
                    refine gSH F C hl (kL_go hf h) wh_L_210 ⟨rfl, rfl, ⟨Nat.le_of_ble_eq_true rfl, Nat.le_of_ble_eq_true rfl⟩, ⟨(show _ ≤ (671210 : Nat) by omega), (show _ ≤ (7075145 : Nat) by omega)⟩, Nat.le_of_ble_eq_true rfl⟩ (rest := []) rfl dL_law_271 (fun r24 S23 H locs h C => ?_)
                    refine lv_iconst (v := -1) F.x F.b dL_law_274 (by decide) ?_
                    refine lv_icmp_ne (tgt := 394) F.x F.b dL_law_275 (by decide) (fun g25 => ?_) (fun g25 => ?_)
                    · have h := h.1 g25
                      refine lv_iconst (v := 0) F.x F.b dL_law_394 (by decide) ?_
                      exact h.elim
                    · have h := h.2 g25
                      refine lv_aload_n F.x F.b dL_law_278 rfl (lv_at hl 1 rfl) ?_
                      refine lv_bipush (v := 7) F.x F.b dL_law_279 (by decide) ?_
                      refine gSH F C hl (kL_leave hf h) wh_L_204 ⟨rfl, rfl, ⟨Nat.le_of_ble_eq_true rfl, Nat.le_of_ble_eq_true rfl⟩, ⟨(show _ ≤ (671210 : Nat) by omega), (show _ ≤ (7075145 : Nat) by omega)⟩, Nat.le_of_ble_eq_true rfl⟩ (rest := []) rfl dL_law_281 (fun r27 S26 H locs h C => ?_)
                      refine lv_sipush (v := -1002) F.x F.b dL_law_284 (by decide) ?_
                      refine lv_icmp_ne (tgt := 394) F.x F.b dL_law_287 (by decide) (fun g28 => ?_) (fun g28 => ?_)
                      · have h := h.1 g28
                        refine lv_iconst (v := 0) F.x F.b dL_law_394 (by decide) ?_
                        exact h.elim
                      · have h := h.2 g28
                        refine lv_aload_n F.x F.b dL_law_290 rfl (lv_at hl 1 rfl) ?_
                        refine lv_iconst (v := 2) F.x F.b dL_law_291 (by decide) ?_
                        refine lv_iconst (v := -1) F.x F.b dL_law_292 (by decide) ?_
                        refine gSI F C hl (kL_is hf h) wv_L_238 ⟨rfl, rfl, ⟨Nat.le_of_ble_eq_true rfl, Nat.le_of_ble_eq_true rfl⟩, ⟨(show _ ≤ (671210 : Nat) by omega), (show _ ≤ (7075145 : Nat) by omega)⟩, Nat.le_of_ble_eq_true rfl⟩ (rest := []) rfl dL_law_293 (fun r30 S29 H locs h C => ?_)
                        refine lv_if_eq (tgt := 394) F.x F.b dL_law_296 (by decide) (fun g31 => ?_) (fun g31 => ?_)
                        · have h := h.1 g31
                          refine lv_iconst (v := 0) F.x F.b dL_law_394 (by decide) ?_
                          exact h.elim
                        · have h := h.2 g31
                          refine lv_aload_n F.x F.b dL_law_299 rfl (lv_at hl 1 rfl) ?_
                          refine lv_iconst (v := 0) F.x F.b dL_law_300 (by decide) ?_
                          refine gSH F C hl (kL_go hf h) wh_L_210 ⟨rfl, rfl, ⟨Nat.le_of_ble_eq_true rfl, Nat.le_of_ble_eq_true rfl⟩, ⟨(show _ ≤ (671210 : Nat) by omega), (show _ ≤ (7075145 : Nat) by omega)⟩, Nat.le_of_ble_eq_true rfl⟩ (rest := []) rfl dL_law_301 (fun r33 S32 H locs h C => ?_)
                          refine lv_sipush (v := -1002) F.x F.b dL_law_304 (by decide) ?_
                          refine lv_icmp_ne (tgt := 394) F.x F.b dL_law_307 (by decide) (fun g34 => ?_) (fun g34 => ?_)
                          · have h := h.1 g34
                            refine lv_iconst (v := 0) F.x F.b dL_law_394 (by decide) ?_
                            exact h.elim
                          · have h := h.2 g34
                            refine lv_aload_n F.x F.b dL_law_310 rfl (lv_at hl 1 rfl) ?_
                            refine lv_iconst (v := 3) F.x F.b dL_law_311 (by decide) ?_
                            refine lv_iconst (v := -1) F.x F.b dL_law_312 (by decide) ?_
                            refine gSI F C hl (kL_is hf h) wv_L_238 ⟨rfl, rfl, ⟨Nat.le_of_ble_eq_true rfl, Nat.le_of_ble_eq_true rfl⟩, ⟨(show _ ≤ (671210 : Nat) by omega), (show _ ≤ (7075145 : Nat) by omega)⟩, Nat.le_of_ble_eq_true rfl⟩ (rest := []) rfl dL_law_313 (fun r36 S35 H locs h C => ?_)
                            refine lv_if_eq (tgt := 394) F.x F.b dL_law_316 (by decide) (fun g37 => ?_) (fun g37 => ?_)
                            · have h := h.1 g37
                              refine lv_iconst (v := 0) F.x F.b dL_law_394 (by decide) ?_
                              exact h.elim
                            · have h := h.2 g37
                              refine lv_aload_n F.x F.b dL_law_319 rfl (lv_at hl 1 rfl) ?_
                              refine lv_bipush (v := 7) F.x F.b dL_law_320 (by decide) ?_
                              refine gSH F C hl (kL_crossedIn hf h) wh_L_185 ⟨rfl, rfl, ⟨Nat.le_of_ble_eq_true rfl, Nat.le_of_ble_eq_true rfl⟩, ⟨(show _ ≤ (671210 : Nat) by omega), (show _ ≤ (7075145 : Nat) by omega)⟩, Nat.le_of_ble_eq_true rfl⟩ (rest := []) rfl dL_law_322 (fun r39 S38 H locs h C => ?_)
                              refine lv_bipush (v := 11) F.x F.b dL_law_325 (by decide) ?_
                              refine lv_icmp_ne (tgt := 394) F.x F.b dL_law_327 (by decide) (fun g40 => ?_) (fun g40 => ?_)
                              · have h := h.1 g40
                                refine lv_iconst (v := 0) F.x F.b dL_law_394 (by decide) ?_
                                exact h.elim
                              · have h := h.2 g40
                                refine lv_aload_n F.x F.b dL_law_330 rfl (lv_at hl 1 rfl) ?_
                                refine lv_bipush (v := 11) F.x F.b dL_law_331 (by decide) ?_
                                refine gSH F C hl (kL_pass hf h) wh_L_212 ⟨rfl, rfl, ⟨Nat.le_of_ble_eq_true rfl, Nat.le_of_ble_eq_true rfl⟩, ⟨(show _ ≤ (671210 : Nat) by omega), (show _ ≤ (7075145 : Nat) by omega)⟩, Nat.le_of_ble_eq_true rfl⟩ (rest := []) rfl dL_law_333 (fun r42 S41 H locs h C => ?_)
                                refine lv_iconst (v := 1) F.x F.b dL_law_336 (by decide) ?_
                                refine lv_icmp_ne (tgt := 394) F.x F.b dL_law_337 (by decide) (fun g43 => ?_) (fun g43 => ?_)
                                · have h := h.1 g43
                                  refine lv_iconst (v := 0) F.x F.b dL_law_394 (by decide) ?_
                                  exact h.elim
                                · have h := h.2 g43
                                  refine lv_aload_n F.x F.b dL_law_340 rfl (lv_at hl 1 rfl) ?_
                                  refine lv_bipush (v := 7) F.x F.b dL_law_341 (by decide) ?_
                                  refine lv_iconst (v := 3) F.x F.b dL_law_343 (by decide) ?_
                                  refine gSH F C hl (kL_travellerOf hf h) wh_L_181 ⟨rfl, rfl, ⟨Nat.le_of_ble_eq_true rfl, Nat.le_of_ble_eq_true rfl⟩, ⟨(show _ ≤ (671210 : Nat) by omega), (show _ ≤ (7075145 : Nat) by omega)⟩, Nat.le_of_ble_eq_true rfl⟩ (rest := []) rfl dL_law_344 (fun r45 S44 H locs h C => ?_)
                                  refine lv_bipush (v := 10) F.x F.b dL_law_347 (by decide) ?_
                                  refine lv_icmp_ne (tgt := 394) F.x F.b dL_law_349 (by decide) (fun g46 => ?_) (fun g46 => ?_)
                                  · have h := h.1 g46
                                    refine lv_iconst (v := 0) F.x F.b dL_law_394 (by decide) ?_
                                    exact h.elim
                                  · have h := h.2 g46
                                    refine lv_aload_n F.x F.b dL_law_352 rfl (lv_at hl 1 rfl) ?_
                                    refine lv_bipush (v := 12) F.x F.b dL_law_353 (by decide) ?_
                                    refine gSH F C hl (kL_account hf h) wh_L_177 ⟨rfl, rfl, ⟨Nat.le_of_ble_eq_true rfl, Nat.le_of_ble_eq_true rfl⟩, ⟨(show _ ≤ (671210 : Nat) by omega), (show _ ≤ (7075145 : Nat) by omega)⟩, Nat.le_of_ble_eq_true rfl⟩ (rest := []) rfl dL_law_355 (fun r48 S47 H locs h C => ?_)
                                    refine lv_bipush (v := 8) F.x F.b dL_law_358 (by decide) ?_
                                    refine lv_icmp_ne (tgt := 394) F.x F.b dL_law_360 (by decide) (fun g49 => ?_) (fun g49 => ?_)
                                    · have h := h.1 g49
                                      refine lv_iconst (v := 0) F.x F.b dL_law_394 (by decide) ?_
                                      exact h.elim
                                    · have h := h.2 g49
                                      refine lv_aload_n F.x F.b dL_law_363 rfl (lv_at hl 1 rfl) ?_
                                      refine lv_iconst (v := 0) F.x F.b dL_law_364 (by decide) ?_
                                      refine gSH F C hl (kL_leave hf h) wh_L_204 ⟨rfl, rfl, ⟨Nat.le_of_ble_eq_true rfl, Nat.le_of_ble_eq_true rfl⟩, ⟨(show _ ≤ (671210 : Nat) by omega), (show _ ≤ (7075145 : Nat) by omega)⟩, Nat.le_of_ble_eq_true rfl⟩ (rest := []) rfl dL_law_365 (fun r51 S50 H locs h C => ?_)
                                      refine lv_if_ne (tgt := 394) F.x F.b dL_law_368 (by decide) (fun g52 => ?_) (fun g52 => ?_)
                                      · have h := h.1 g52
                                        refine lv_iconst (v := 0) F.x F.b dL_law_394 (by decide) ?_
                                        exact h.elim
                                      · have h := h.2 g52
                                        refine lv_aload_n F.x F.b dL_law_371 rfl (lv_at hl 1 rfl) ?_
                                        refine lv_bipush (v := 6) F.x F.b dL_law_372 (by decide) ?_
                                        refine lv_iconst (v := 3) F.x F.b dL_law_374 (by decide) ?_
                                        refine gSH F C hl (kL_travellerOf hf h) wh_L_181 ⟨rfl, rfl, ⟨Nat.le_of_ble_eq_true rfl, Nat.le_of_ble_eq_true rfl⟩, ⟨(show _ ≤ (671210 : Nat) by omega), (show _ ≤ (7075145 : Nat) by omega)⟩, Nat.le_of_ble_eq_true rfl⟩ (rest := []) rfl dL_law_375 (fun r54 S53 H locs h C => ?_)
                                        refine lv_bipush (v := 10) F.x F.b dL_law_378 (by decide) ?_
                                        refine lv_icmp_ne (tgt := 394) F.x F.b dL_law_380 (by decide) (fun g55 => ?_) (fun g55 => ?_)
                                        · have h := h.1 g55
                                          refine lv_iconst (v := 0) F.x F.b dL_law_394 (by decide) ?_
                                          exact h.elim
                                        · have h := h.2 g55
                                          refine lv_aload_n F.x F.b dL_law_383 rfl (lv_at hl 1 rfl) ?_
                                          refine lv_bipush (v := 18) F.x F.b dL_law_384 (by decide) ?_
                                          refine gSH F C hl (kL_account hf h) wh_L_177 ⟨rfl, rfl, ⟨Nat.le_of_ble_eq_true rfl, Nat.le_of_ble_eq_true rfl⟩, ⟨(show _ ≤ (671210 : Nat) by omega), (show _ ≤ (7075145 : Nat) by omega)⟩, Nat.le_of_ble_eq_true rfl⟩ (rest := []) rfl dL_law_386 (fun r57 S56 H locs h C => ?_)
                                          refine lv_bipush (v := 8) F.x F.b dL_law_389 (by decide) ?_
                                          refine lv_icmp_eq (tgt := 396) F.x F.b dL_law_391 (by decide) (fun g58 => ?_) (fun g58 => ?_)
                                          · have h := h.1 g58
                                            refine lv_iconst (v := 0) F.x F.b dL_law_396 (by decide) ?_
                                            refine lv_istore_n (lv' := [(2, .int (0 : Int32)), (0, .ref (ex 4 0)), (1, .ref (ad 110))]) F.x F.b dL_law_397 rfl hl (by decide) rfl (fun ls hl => ?_)
                                            obtain ⟨n59, hn59, h⟩ := h
                                            exact bL_lawA_398 F hr hf kc658 ks658 hK658 n59 _ _ S56 (0 : Int32) _ _ _ (by omega) (by omega) h C (lv_sub hl [1, 2, 0] rfl)
                                          · have h := h.2 g58
                                            refine lv_iconst (v := 0) F.x F.b dL_law_394 (by decide) ?_
                                            exact h.elim
    · have h := h.2 g1
      refine lv_aload_n F.x F.b dL_law_168 rfl (lv_at hl 1 rfl) ?_
      refine lv_iload_n F.x F.b dL_law_169 rfl (lv_at hl 2 rfl) ?_
      refine lv_iconst (v := 4) F.x F.b dL_law_170 (by decide) ?_
      refine lv_icmp_ge (tgt := 178) F.x F.b dL_law_171 (by decide) (fun g60 => ?_) (fun g60 => ?_)
      · have h := h.1 g60
        refine lv_bipush (v := 20) F.x F.b dL_law_178 (by decide) ?_
        exact bL_lawA_180 F hr hf (2 * n + 113 + kc658) (12 * n + 678 + ks658) ih _ _ S v2 (20 : Int32) _ _ _ (by omega) (by omega) h C (lv_sub hl [0, 1, 2] rfl)
      · have h := h.2 g60
        refine lv_iconst (v := 0) F.x F.b dL_law_174 (by decide) ?_
        refine lv_goto (tgt := 180) F.x F.b dL_law_175 (by decide) ?_
        exact bL_lawA_180 F hr hf (2 * n + 113 + kc658) (12 * n + 678 + ks658) ih _ _ S v2 (0 : Int32) _ _ _ (by omega) (by omega) h C (lv_sub hl [0, 1, 2] rfl)
set_option maxRecDepth 100000 in
set_option maxHeartbeats 4000000 in
theorem bL_lawA_90 {p : Program} {l : Launch} {e : Env} {s : State} {m : MethodId} {args : Array Value} {below : List Frame} {meth : Method} {c : Code} {D : va_G} {ky : Nat → ClassId} {ad : Nat → Nat} {ex : Nat → Nat → Nat} {Q : State → Prop} (F : Gx p s m args meth c D ky ad ex cL_law 11 "FordTollLaw" (fun q => s.heap.size ≤ q)) (hr : meth.sig.returnType = (some .boolean)) (hf : l.stackTraces = false)  (kc658 ks658 : Nat) {K658 : Mem → Prop} (hK658 : ∀ (cells slots : Nat) (S : Mem) (H : Heap) (locs : List Loc) (ls : Array Slot), cells + kc658 ≤ 671210 → slots + ks658 ≤ 7075145 → K658 S → Cg D ky ad s (fun q => s.heap.size ≤ q) S [] H locs → lv_has ls 11 [(0, .ref (ex 4 0))] → W p l e room_1 s m args below meth c H locs cells slots Q (F0 m 658 ls [])) : ∀ (n : Nat) (cells slots : Nat) (S : Mem) (v2 : Int32) (H : Heap) (locs : List Loc) (ls : Array Slot), cells + (1 * n + 135 + kc658) ≤ 671210 → slots + (6 * n + 810 + ks658) ≤ 7075145 → mL_lawA_b90 ex K658 n S v2 → Cg D ky ad s (fun q => s.heap.size ≤ q) S [] H locs → lv_has ls 11 [(0, .ref (ex 4 0)), (1, .ref (ad 110)), (2, .int v2)] → W p l e room_1 s m args below meth c H locs cells slots Q (F0 m 90 ls []) := by
  intro n
  induction n with
  | zero =>
    intro cells slots S v2 H locs ls  hc hs h
    exact False.elim h
  | succ n ih =>
    intro cells slots S v2 H locs ls  hc hs h C hl
    refine lv_iload_n F.x F.b dL_law_90 rfl (lv_at hl 2 rfl) ?_
    refine lv_bipush (v := 60) F.x F.b dL_law_91 (by decide) ?_
    refine lv_icmp_ge (tgt := 120) F.x F.b dL_law_93 (by decide) (fun g1 => ?_) (fun g1 => ?_)
    · have h := h.1 g1
      refine lv_aload_n F.x F.b dL_law_120 rfl (lv_at hl 1 rfl) ?_
      refine lv_bipush (v := 119) F.x F.b dL_law_121 (by decide) ?_
      refine gSH F C hl (kL_type hf h) wh_L_124 ⟨rfl, rfl, ⟨Nat.le_of_ble_eq_true rfl, Nat.le_of_ble_eq_true rfl⟩, ⟨(show _ ≤ (671210 : Nat) by omega), (show _ ≤ (7075145 : Nat) by omega)⟩, Nat.le_of_ble_eq_true rfl⟩ (rest := []) rfl dL_law_123 (fun r3 S2 H locs h C => ?_)
      refine lv_sipush (v := -1001) F.x F.b dL_law_126 (by decide) ?_
      refine lv_icmp_ne (tgt := 158) F.x F.b dL_law_129 (by decide) (fun g4 => ?_) (fun g4 => ?_)
      · have h := h.1 g4
        refine lv_iconst (v := 0) F.x F.b dL_law_158 (by decide) ?_
        exact h.elim
      · have h := h.2 g4
        refine lv_aload_n F.x F.b dL_law_132 rfl (lv_at hl 1 rfl) ?_
        refine gSH F C hl (kL_ask hf h) wh_L_129 ⟨rfl, rfl, ⟨Nat.le_of_ble_eq_true rfl, Nat.le_of_ble_eq_true rfl⟩, ⟨(show _ ≤ (671210 : Nat) by omega), (show _ ≤ (7075145 : Nat) by omega)⟩, Nat.le_of_ble_eq_true rfl⟩ (rest := []) rfl dL_law_133 (fun r6 S5 H locs h C => ?_)
        refine lv_sipush (v := -1001) F.x F.b dL_law_136 (by decide) ?_
        refine lv_icmp_ne (tgt := 158) F.x F.b dL_law_139 (by decide) (fun g7 => ?_) (fun g7 => ?_)
        · have h := h.1 g7
          refine lv_iconst (v := 0) F.x F.b dL_law_158 (by decide) ?_
          exact h.elim
        · have h := h.2 g7
          refine lv_aload_n F.x F.b dL_law_142 rfl (lv_at hl 1 rfl) ?_
          refine gSH F C hl (kL_errorPosition hf h) wh_L_226 ⟨rfl, rfl, ⟨Nat.le_of_ble_eq_true rfl, Nat.le_of_ble_eq_true rfl⟩, ⟨(show _ ≤ (671210 : Nat) by omega), (show _ ≤ (7075145 : Nat) by omega)⟩, Nat.le_of_ble_eq_true rfl⟩ (rest := []) rfl dL_law_143 (fun r9 S8 H locs h C => ?_)
          refine lv_if_ne (tgt := 158) F.x F.b dL_law_146 (by decide) (fun g10 => ?_) (fun g10 => ?_)
          · have h := h.1 g10
            refine lv_iconst (v := 0) F.x F.b dL_law_158 (by decide) ?_
            exact h.elim
          · have h := h.2 g10
            refine lv_aload_n F.x F.b dL_law_149 rfl (lv_at hl 1 rfl) ?_
            refine lv_bipush (v := 17) F.x F.b dL_law_150 (by decide) ?_
            refine gSH F C hl (kL_account hf h) wh_L_177 ⟨rfl, rfl, ⟨Nat.le_of_ble_eq_true rfl, Nat.le_of_ble_eq_true rfl⟩, ⟨(show _ ≤ (671210 : Nat) by omega), (show _ ≤ (7075145 : Nat) by omega)⟩, Nat.le_of_ble_eq_true rfl⟩ (rest := []) rfl dL_law_152 (fun r12 S11 H locs h C => ?_)
            refine lv_if_eq (tgt := 160) F.x F.b dL_law_155 (by decide) (fun g13 => ?_) (fun g13 => ?_)
            · have h := h.1 g13
              refine lv_iconst (v := 0) F.x F.b dL_law_160 (by decide) ?_
              refine lv_istore_n (lv' := [(2, .int (0 : Int32)), (0, .ref (ex 4 0)), (1, .ref (ad 110))]) F.x F.b dL_law_161 rfl hl (by decide) rfl (fun ls hl => ?_)
              obtain ⟨n14, hn14, h⟩ := h
              exact bL_lawA_162 F hr hf kc658 ks658 hK658 n14 _ _ S11 (0 : Int32) _ _ _ (by omega) (by omega) h C (lv_sub hl [1, 2, 0] rfl)
            · have h := h.2 g13
              refine lv_iconst (v := 0) F.x F.b dL_law_158 (by decide) ?_
              exact h.elim
    · have h := h.2 g1
      refine lv_aload_n F.x F.b dL_law_96 rfl (lv_at hl 1 rfl) ?_
      refine lv_sipush (v := 300) F.x F.b dL_law_97 (by decide) ?_
      refine lv_iload_n F.x F.b dL_law_100 rfl (lv_at hl 2 rfl) ?_
      refine lv_iadd F.x F.b dL_law_101 ?_
      refine lv_i2c F.x F.b dL_law_102 rfl ?_
      refine gSH F C hl (kL_type hf h) wh_L_124 ⟨rfl, rfl, ⟨Nat.le_of_ble_eq_true rfl, Nat.le_of_ble_eq_true rfl⟩, ⟨(show _ ≤ (671210 : Nat) by omega), (show _ ≤ (7075145 : Nat) by omega)⟩, Nat.le_of_ble_eq_true rfl⟩ (rest := []) rfl dL_law_103 (fun r16 S15 H locs h C => ?_)
      refine lv_iload_n F.x F.b dL_law_106 rfl (lv_at hl 2 rfl) ?_
      refine lv_iconst (v := 1) F.x F.b dL_law_107 (by decide) ?_
      refine lv_iadd F.x F.b dL_law_108 ?_
      refine lv_icmp_eq (tgt := 114) F.x F.b dL_law_109 (by decide) (fun g17 => ?_) (fun g17 => ?_)
      · have h := h.1 g17
        obtain ⟨x18, ex18⟩ : ∃ z : Int32, z = v2 + (1 : Int32) := ⟨_, rfl⟩
        have h := h x18 ex18
        refine lv_iinc (v := x18) (lv' := [(2, .int x18), (0, .ref (ex 4 0)), (1, .ref (ad 110))]) F.x F.b dL_law_114 hl (k := 2) rfl (by rw [ex18]; rfl) (by decide) rfl (fun ls hl => ?_)
        refine lv_goto (tgt := 90) F.x F.b dL_law_117 (by decide) ?_
        exact ih _ _ S15 x18 _ _ _ (by omega) (by omega) h C (lv_sub hl [1, 2, 0] rfl)
      · have h := h.2 g17
        refine lv_iconst (v := 0) F.x F.b dL_law_112 (by decide) ?_
        exact h.elim
set_option maxRecDepth 100000 in
set_option maxHeartbeats 4000000 in
theorem bL_lawA_8 {p : Program} {l : Launch} {e : Env} {s : State} {m : MethodId} {args : Array Value} {below : List Frame} {meth : Method} {c : Code} {D : va_G} {ky : Nat → ClassId} {ad : Nat → Nat} {ex : Nat → Nat → Nat} {Q : State → Prop} (F : Gx p s m args meth c D ky ad ex cL_law 11 "FordTollLaw" (fun q => s.heap.size ≤ q)) (hr : meth.sig.returnType = (some .boolean)) (hf : l.stackTraces = false)  (kc658 ks658 : Nat) {K658 : Mem → Prop} (hK658 : ∀ (cells slots : Nat) (S : Mem) (H : Heap) (locs : List Loc) (ls : Array Slot), cells + kc658 ≤ 671210 → slots + ks658 ≤ 7075145 → K658 S → Cg D ky ad s (fun q => s.heap.size ≤ q) S [] H locs → lv_has ls 11 [(0, .ref (ex 4 0))] → W p l e room_1 s m args below meth c H locs cells slots Q (F0 m 658 ls [])) : ∀ (cells slots : Nat) (S : Mem) (H : Heap) (locs : List Loc) (ls : Array Slot), cells + (202 + kc658) ≤ 671210 → slots + (1212 + ks658) ≤ 7075145 → mL_lawA ex K658 S → Cg D ky ad s (fun q => s.heap.size ≤ q) S [] H locs → lv_has ls 11 [(1, .ref (ad 110)), (0, .ref (ex 4 0))] → W p l e room_1 s m args below meth c H locs cells slots Q (F0 m 8 ls []) := by
  intro cells slots S  H locs ls  hc hs h C hl
  unfold mL_lawA at h
  refine lv_aload_n F.x F.b dL_law_8 rfl (lv_at hl 0 rfl) ?_
  refine gSH F C hl (kL_undo hf h) wh_L_231 ⟨rfl, rfl, ⟨Nat.le_of_ble_eq_true rfl, Nat.le_of_ble_eq_true rfl⟩, ⟨(show _ ≤ (671210 : Nat) by omega), (show _ ≤ (7075145 : Nat) by omega)⟩, Nat.le_of_ble_eq_true rfl⟩ (rest := []) rfl dL_law_9 (fun r2 S1 H locs h C => ?_)
  refine lv_sipush (v := -1001) F.x F.b dL_law_12 (by decide) ?_
  refine lv_icmp_ne (tgt := 86) F.x F.b dL_law_15 (by decide) (fun g3 => ?_) (fun g3 => ?_)
  · have h := h.1 g3
    refine lv_iconst (v := 0) F.x F.b dL_law_86 (by decide) ?_
    exact h.elim
  · have h := h.2 g3
    refine lv_aload_n F.x F.b dL_law_18 rfl (lv_at hl 0 rfl) ?_
    refine gSH F C hl (kL_restore hf h) wh_L_233 ⟨rfl, rfl, ⟨Nat.le_of_ble_eq_true rfl, Nat.le_of_ble_eq_true rfl⟩, ⟨(show _ ≤ (671210 : Nat) by omega), (show _ ≤ (7075145 : Nat) by omega)⟩, Nat.le_of_ble_eq_true rfl⟩ (rest := []) rfl dL_law_19 (fun r5 S4 H locs h C => ?_)
    refine lv_sipush (v := -1001) F.x F.b dL_law_22 (by decide) ?_
    refine lv_icmp_ne (tgt := 86) F.x F.b dL_law_25 (by decide) (fun g6 => ?_) (fun g6 => ?_)
    · have h := h.1 g6
      refine lv_iconst (v := 0) F.x F.b dL_law_86 (by decide) ?_
      exact h.elim
    · have h := h.2 g6
      refine lv_aload_n F.x F.b dL_law_28 rfl (lv_at hl 0 rfl) ?_
      refine gkI F C hl (kX5_save h) (by decide) (ce_X _) rfl wv_L_235 ⟨rfl, rfl, ⟨Nat.le_of_ble_eq_true rfl, Nat.le_of_ble_eq_true rfl⟩, ⟨(show _ ≤ (671210 : Nat) by omega), (show _ ≤ (7075145 : Nat) by omega)⟩, Nat.le_of_ble_eq_true rfl⟩ (rest := []) rfl dL_law_29 (fun r8 S7 H locs h C => ?_)
      refine lv_if_ne (tgt := 86) F.x F.b dL_law_32 (by decide) (fun g9 => ?_) (fun g9 => ?_)
      · have h := h.1 g9
        refine lv_iconst (v := 0) F.x F.b dL_law_86 (by decide) ?_
        exact h.elim
      · have h := h.2 g9
        refine lv_aload_n F.x F.b dL_law_35 rfl (lv_at hl 0 rfl) ?_
        refine lv_bipush (v := 24) F.x F.b dL_law_36 (by decide) ?_
        refine gSH F C hl (kL_pass hf h) wh_L_212 ⟨rfl, rfl, ⟨Nat.le_of_ble_eq_true rfl, Nat.le_of_ble_eq_true rfl⟩, ⟨(show _ ≤ (671210 : Nat) by omega), (show _ ≤ (7075145 : Nat) by omega)⟩, Nat.le_of_ble_eq_true rfl⟩ (rest := []) rfl dL_law_38 (fun r11 S10 H locs h C => ?_)
        refine lv_if_ne (tgt := 86) F.x F.b dL_law_41 (by decide) (fun g12 => ?_) (fun g12 => ?_)
        · have h := h.1 g12
          refine lv_iconst (v := 0) F.x F.b dL_law_86 (by decide) ?_
          exact h.elim
        · have h := h.2 g12
          refine lv_aload_n F.x F.b dL_law_44 rfl (lv_at hl 0 rfl) ?_
          refine lv_iconst (v := 0) F.x F.b dL_law_45 (by decide) ?_
          refine gSH F C hl (kL_account hf h) wh_L_177 ⟨rfl, rfl, ⟨Nat.le_of_ble_eq_true rfl, Nat.le_of_ble_eq_true rfl⟩, ⟨(show _ ≤ (671210 : Nat) by omega), (show _ ≤ (7075145 : Nat) by omega)⟩, Nat.le_of_ble_eq_true rfl⟩ (rest := []) rfl dL_law_46 (fun r14 S13 H locs h C => ?_)
          refine lv_bipush (v := 24) F.x F.b dL_law_49 (by decide) ?_
          refine lv_icmp_ne (tgt := 86) F.x F.b dL_law_51 (by decide) (fun g15 => ?_) (fun g15 => ?_)
          · have h := h.1 g15
            refine lv_iconst (v := 0) F.x F.b dL_law_86 (by decide) ?_
            exact h.elim
          · have h := h.2 g15
            refine lv_aload_n F.x F.b dL_law_54 rfl (lv_at hl 0 rfl) ?_
            refine lv_iconst (v := 1) F.x F.b dL_law_55 (by decide) ?_
            refine gSH F C hl (kL_account hf h) wh_L_177 ⟨rfl, rfl, ⟨Nat.le_of_ble_eq_true rfl, Nat.le_of_ble_eq_true rfl⟩, ⟨(show _ ≤ (671210 : Nat) by omega), (show _ ≤ (7075145 : Nat) by omega)⟩, Nat.le_of_ble_eq_true rfl⟩ (rest := []) rfl dL_law_56 (fun r17 S16 H locs h C => ?_)
            refine lv_iconst (v := 4) F.x F.b dL_law_59 (by decide) ?_
            refine lv_icmp_ne (tgt := 86) F.x F.b dL_law_60 (by decide) (fun g18 => ?_) (fun g18 => ?_)
            · have h := h.1 g18
              refine lv_iconst (v := 0) F.x F.b dL_law_86 (by decide) ?_
              exact h.elim
            · have h := h.2 g18
              refine lv_aload_n F.x F.b dL_law_63 rfl (lv_at hl 0 rfl) ?_
              refine gkI F C hl (kX5_under h) (by decide) (ce_X _) rfl wv_L_189 ⟨rfl, rfl, ⟨Nat.le_of_ble_eq_true rfl, Nat.le_of_ble_eq_true rfl⟩, ⟨(show _ ≤ (671210 : Nat) by omega), (show _ ≤ (7075145 : Nat) by omega)⟩, Nat.le_of_ble_eq_true rfl⟩ (rest := []) rfl dL_law_64 (fun r20 S19 H locs h C => ?_)
              refine lv_if_ne (tgt := 86) F.x F.b dL_law_67 (by decide) (fun g21 => ?_) (fun g21 => ?_)
              · have h := h.1 g21
                refine lv_iconst (v := 0) F.x F.b dL_law_86 (by decide) ?_
                exact h.elim
              · have h := h.2 g21
                refine lv_aload_n F.x F.b dL_law_70 rfl (lv_at hl 0 rfl) ?_
                refine gSH F C hl (kL_clearIn hf h) wh_L_195 ⟨rfl, rfl, ⟨Nat.le_of_ble_eq_true rfl, Nat.le_of_ble_eq_true rfl⟩, ⟨(show _ ≤ (671210 : Nat) by omega), (show _ ≤ (7075145 : Nat) by omega)⟩, Nat.le_of_ble_eq_true rfl⟩ (rest := []) rfl dL_law_71 (fun r23 S22 H locs h C => ?_)
                refine lv_if_ne (tgt := 86) F.x F.b dL_law_74 (by decide) (fun g24 => ?_) (fun g24 => ?_)
                · have h := h.1 g24
                  refine lv_iconst (v := 0) F.x F.b dL_law_86 (by decide) ?_
                  exact h.elim
                · have h := h.2 g24
                  refine lv_aload_n F.x F.b dL_law_77 rfl (lv_at hl 0 rfl) ?_
                  refine gkI F C hl (kX5_kinds h) (by decide) (ce_X _) rfl wv_L_192 ⟨rfl, rfl, ⟨Nat.le_of_ble_eq_true rfl, Nat.le_of_ble_eq_true rfl⟩, ⟨(show _ ≤ (671210 : Nat) by omega), (show _ ≤ (7075145 : Nat) by omega)⟩, Nat.le_of_ble_eq_true rfl⟩ (rest := []) rfl dL_law_78 (fun r26 S25 H locs h C => ?_)
                  refine lv_bipush (v := 7) F.x F.b dL_law_81 (by decide) ?_
                  refine lv_icmp_eq (tgt := 88) F.x F.b dL_law_83 (by decide) (fun g27 => ?_) (fun g27 => ?_)
                  · have h := h.1 g27
                    refine lv_iconst (v := 0) F.x F.b dL_law_88 (by decide) ?_
                    refine lv_istore_n (lv' := [(2, .int (0 : Int32)), (1, .ref (ad 110)), (0, .ref (ex 4 0))]) F.x F.b dL_law_89 rfl hl (by decide) rfl (fun ls hl => ?_)
                    obtain ⟨n28, hn28, h⟩ := h
                    exact bL_lawA_90 F hr hf kc658 ks658 hK658 n28 _ _ S25 (0 : Int32) _ _ _ (by omega) (by omega) h C (lv_sub hl [2, 1, 0] rfl)
                  · have h := h.2 g27
                    refine lv_iconst (v := 0) F.x F.b dL_law_86 (by decide) ?_
                    exact h.elim
