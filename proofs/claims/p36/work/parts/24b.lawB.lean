def mL_lawB_b678 (ex : Nat → Nat → Nat)  (K771 : Mem → Int64 → Int32 → Prop) : Nat → Mem → Int32 → Prop
  | 0, _, _ => False
  | n + 1, S, v3 => (((5 : Int32) ≤ v3 → (mL_at ex (fun (r3 : Int32) (S2 : Mem) => mL_some (fun (r5 : Int32) (S4 : Mem) => mL_pass (fun (r7 : Int32) (S6 : Mem) => ((0 ≤ r7 → (mL_told (fun (r10 : Int64) (S9 : Mem) => mL_told (fun (r12 : Int64) (S11 : Mem) => r12 = r10 ∧ mL_refused (fun (r15 : Int32) (S14 : Mem) => ((¬ r15 = 0 → (mX5_save (fun (r18 : Int32) (S17 : Mem) => mL_account (fun (r20 : Int32) (S19 : Mem) => ((¬ r18 = r20 → (False)) ∧ (r18 = r20 → (mL_told (fun (r23 : Int64) (S22 : Mem) => r23 = r10 ∧ K771 S22 r10 r18) S19)))) S17 (0 : Int32)) S14)) ∧ (r15 = 0 → (False)))) S11) S9) S6)) ∧ (¬ 0 ≤ r7 → (False)))) S4 (((1 : Int32) + r5))) S2 r3 (9 : Int32)) S (12 : Int32))) ∧ (¬ (5 : Int32) ≤ v3 → (mL_setOut (fun (r26 : Int32) (S25 : Mem) => ((0 ≤ r26 → (∀ x28 : Int32, x28 = v3 + (1 : Int32) → mL_lawB_b678 ex K771 n S25 x28)) ∧ (¬ 0 ≤ r26 → (False)))) S v3)))
def mL_lawB (ex : Nat → Nat → Nat)  (K771 : Mem → Int64 → Int32 → Prop) (S : Mem) : Prop := mL_makes ex (fun (r2 : Int32) (S1 : Mem) => ((¬ r2 = 0 → (∃ fu : Nat, fu ≤ 6 ∧ mL_lawB_b678 ex K771 fu S1 (0 : Int32))) ∧ (r2 = 0 → (False)))) S
set_option maxRecDepth 100000 in
set_option maxHeartbeats 4000000 in
theorem bL_lawB_678 {p : Program} {l : Launch} {e : Env} {s : State} {m : MethodId} {args : Array Value} {below : List Frame} {meth : Method} {c : Code} {D : va_G} {ky : Nat → ClassId} {ad : Nat → Nat} {ex : Nat → Nat → Nat} {Q : State → Prop} (F : Gx p s m args meth c D ky ad ex cL_law 11 "FordTollLaw" (fun q => s.heap.size ≤ q)) (hr : meth.sig.returnType = (some .boolean)) (hf : l.stackTraces = false)  (kc771 ks771 : Nat) {K771 : Mem → Int64 → Int32 → Prop} (hK771 : ∀ (cells slots : Nat) (S : Mem) (l3 : Int64) (v5 : Int32) (H : Heap) (locs : List Loc) (ls : Array Slot), cells + kc771 ≤ 671210 → slots + ks771 ≤ 7075145 → K771 S l3 v5 → Cg D ky ad s (fun q => s.heap.size ≤ q) S [] H locs → lv_has ls 11 [(0, .ref (ex 4 0)), (2, .ref (ad 110)), (3, .long l3), (5, .int v5)] → W p l e room_1 s m args below meth c H locs cells slots Q (F0 m 771 ls [])) : ∀ (n : Nat) (cells slots : Nat) (S : Mem) (v3 : Int32) (H : Heap) (locs : List Loc) (ls : Array Slot), cells + (3 * n + 1846 + kc771) ≤ 671210 → slots + (18 * n + 11076 + ks771) ≤ 7075145 → mL_lawB_b678 ex K771 n S v3 → Cg D ky ad s (fun q => s.heap.size ≤ q) S [] H locs → lv_has ls 11 [(0, .ref (ex 4 0)), (2, .ref (ad 110)), (3, .int v3)] → W p l e room_1 s m args below meth c H locs cells slots Q (F0 m 678 ls []) := by
  intro n
  induction n with
  | zero =>
    intro cells slots S v3 H locs ls  hc hs h
    exact False.elim h
  | succ n ih =>
    intro cells slots S v3 H locs ls  hc hs h C hl
    refine lv_iload_n F.x F.b dL_law_678 rfl (lv_at hl 2 rfl) ?_
    refine lv_iconst (v := 5) F.x F.b dL_law_679 (by decide) ?_
    refine lv_icmp_ge (tgt := 699) F.x F.b dL_law_680 (by decide) (fun g1 => ?_) (fun g1 => ?_)
    · have h := h.1 g1
      refine lv_aload_n F.x F.b dL_law_699 rfl (lv_at hl 1 rfl) ?_
      refine lv_iconst (v := 1) F.x F.b dL_law_700 (by decide) ?_
      refine lv_aload_n F.x F.b dL_law_701 rfl (lv_at hl 0 rfl) ?_
      refine lv_bipush (v := 12) F.x F.b dL_law_702 (by decide) ?_
      refine gSI F C hl (kL_at hf h) wv_L_141 ⟨rfl, rfl, ⟨Nat.le_of_ble_eq_true rfl, Nat.le_of_ble_eq_true rfl⟩, ⟨(show _ ≤ (671210 : Nat) by omega), (show _ ≤ (7075145 : Nat) by omega)⟩, Nat.le_of_ble_eq_true rfl⟩ (rest := [.int (1 : Int32), .ref (ad 110)]) rfl dL_law_704 (fun r3 S2 H locs h C => ?_)
      refine lv_bipush (v := 9) F.x F.b dL_law_707 (by decide) ?_
      refine gSI F C hl (kL_some hf h) wv_L_145 ⟨rfl, rfl, ⟨Nat.le_of_ble_eq_true rfl, Nat.le_of_ble_eq_true rfl⟩, ⟨(show _ ≤ (671210 : Nat) by omega), (show _ ≤ (7075145 : Nat) by omega)⟩, Nat.le_of_ble_eq_true rfl⟩ (rest := [.int (1 : Int32), .ref (ad 110)]) rfl dL_law_709 (fun r5 S4 H locs h C => ?_)
      refine lv_iadd F.x F.b dL_law_712 ?_
      refine gSH F C hl (kL_pass hf h) wh_L_212 ⟨rfl, rfl, ⟨Nat.le_of_ble_eq_true rfl, Nat.le_of_ble_eq_true rfl⟩, ⟨(show _ ≤ (671210 : Nat) by omega), (show _ ≤ (7075145 : Nat) by omega)⟩, Nat.le_of_ble_eq_true rfl⟩ (rest := []) rfl dL_law_713 (fun r7 S6 H locs h C => ?_)
      refine lv_if_ge (tgt := 721) F.x F.b dL_law_716 (by decide) (fun g8 => ?_) (fun g8 => ?_)
      · have h := h.1 g8
        refine lv_aload_n F.x F.b dL_law_721 rfl (lv_at hl 1 rfl) ?_
        refine gSL F C hl (kL_told hf h) wv_L_214 ⟨rfl, rfl, ⟨Nat.le_of_ble_eq_true rfl, Nat.le_of_ble_eq_true rfl⟩, ⟨(show _ ≤ (671210 : Nat) by omega), (show _ ≤ (7075145 : Nat) by omega)⟩, Nat.le_of_ble_eq_true rfl⟩ (rest := []) rfl dL_law_722 (fun r10 S9 H locs h C => ?_)
        refine lv_lstore_n (lv' := [(3, .long r10), (0, .ref (ex 4 0)), (2, .ref (ad 110))]) F.x F.b dL_law_725 rfl hl (by decide) rfl (fun ls hl => ?_)
        refine lv_aload_n F.x F.b dL_law_726 rfl (lv_at hl 2 rfl) ?_
        refine gSL F C hl (kL_told hf h) wv_L_214 ⟨rfl, rfl, ⟨Nat.le_of_ble_eq_true rfl, Nat.le_of_ble_eq_true rfl⟩, ⟨(show _ ≤ (671210 : Nat) by omega), (show _ ≤ (7075145 : Nat) by omega)⟩, Nat.le_of_ble_eq_true rfl⟩ (rest := []) rfl dL_law_727 (fun r12 S11 H locs h C => ?_)
        refine lv_lload_n F.x F.b dL_law_730 rfl (lv_at hl 0 rfl) ?_
        obtain ⟨g13, h⟩ := h
        refine lv_lcmpE F.x F.b dL_law_731 g13 ?_
        refine lv_if_ne (tgt := 742) F.x F.b dL_law_732 (by decide) (fun g => absurd rfl g) (fun _ => ?_)
        refine lv_aload_n F.x F.b dL_law_735 rfl (lv_at hl 2 rfl) ?_
        refine gSI F C hl (kL_refused hf h) wv_L_249 ⟨rfl, rfl, ⟨Nat.le_of_ble_eq_true rfl, Nat.le_of_ble_eq_true rfl⟩, ⟨(show _ ≤ (671210 : Nat) by omega), (show _ ≤ (7075145 : Nat) by omega)⟩, Nat.le_of_ble_eq_true rfl⟩ (rest := []) rfl dL_law_736 (fun r15 S14 H locs h C => ?_)
        refine lv_if_ne (tgt := 744) F.x F.b dL_law_739 (by decide) (fun g16 => ?_) (fun g16 => ?_)
        · have h := h.1 g16
          refine lv_aload_n F.x F.b dL_law_744 rfl (lv_at hl 2 rfl) ?_
          refine gkI F C hl (kX5_save h) (by decide) (ce_X _) rfl wv_L_235 ⟨rfl, rfl, ⟨Nat.le_of_ble_eq_true rfl, Nat.le_of_ble_eq_true rfl⟩, ⟨(show _ ≤ (671210 : Nat) by omega), (show _ ≤ (7075145 : Nat) by omega)⟩, Nat.le_of_ble_eq_true rfl⟩ (rest := []) rfl dL_law_745 (fun r18 S17 H locs h C => ?_)
          refine lv_istore (lv' := [(5, .int r18), (3, .long r10), (0, .ref (ex 4 0)), (2, .ref (ad 110))]) F.x F.b dL_law_748 hl (by decide) rfl (fun ls hl => ?_)
          refine lv_iload F.x F.b dL_law_750 (lv_at hl 0 rfl) ?_
          refine lv_aload_n F.x F.b dL_law_752 rfl (lv_at hl 3 rfl) ?_
          refine lv_iconst (v := 0) F.x F.b dL_law_753 (by decide) ?_
          refine gSH F C hl (kL_account hf h) wh_L_177 ⟨rfl, rfl, ⟨Nat.le_of_ble_eq_true rfl, Nat.le_of_ble_eq_true rfl⟩, ⟨(show _ ≤ (671210 : Nat) by omega), (show _ ≤ (7075145 : Nat) by omega)⟩, Nat.le_of_ble_eq_true rfl⟩ (rest := [.int r18]) rfl dL_law_754 (fun r20 S19 H locs h C => ?_)
          refine lv_icmp_ne (tgt := 769) F.x F.b dL_law_757 (by decide) (fun g21 => ?_) (fun g21 => ?_)
          · have h := h.1 g21
            refine lv_iconst (v := 0) F.x F.b dL_law_769 (by decide) ?_
            exact h.elim
          · have h := h.2 g21
            refine lv_aload_n F.x F.b dL_law_760 rfl (lv_at hl 3 rfl) ?_
            refine gSL F C hl (kL_told hf h) wv_L_214 ⟨rfl, rfl, ⟨Nat.le_of_ble_eq_true rfl, Nat.le_of_ble_eq_true rfl⟩, ⟨(show _ ≤ (671210 : Nat) by omega), (show _ ≤ (7075145 : Nat) by omega)⟩, Nat.le_of_ble_eq_true rfl⟩ (rest := []) rfl dL_law_761 (fun r23 S22 H locs h C => ?_)
            refine lv_lload_n F.x F.b dL_law_764 rfl (lv_at hl 1 rfl) ?_
            obtain ⟨g24, h⟩ := h
            refine lv_lcmpE F.x F.b dL_law_765 g24 ?_
            refine lv_if_eq (tgt := 771) F.x F.b dL_law_766 (by decide) (fun _ => ?_) (fun g => absurd rfl g)
            exact hK771 _ _ S22 r10 r18 _ _ _ (by omega) (by omega) h C (lv_sub hl [2, 3, 1, 0] rfl)
        · have h := h.2 g16
          refine lv_iconst (v := 0) F.x F.b dL_law_742 (by decide) ?_
          exact h.elim
      · have h := h.2 g8
        refine lv_iconst (v := 0) F.x F.b dL_law_719 (by decide) ?_
        exact h.elim
    · have h := h.2 g1
      refine lv_aload_n F.x F.b dL_law_683 rfl (lv_at hl 1 rfl) ?_
      refine lv_iload_n F.x F.b dL_law_684 rfl (lv_at hl 2 rfl) ?_
      refine gSH F C hl (kL_setOut hf h) wh_L_206 ⟨rfl, rfl, ⟨Nat.le_of_ble_eq_true rfl, Nat.le_of_ble_eq_true rfl⟩, ⟨(show _ ≤ (671210 : Nat) by omega), (show _ ≤ (7075145 : Nat) by omega)⟩, Nat.le_of_ble_eq_true rfl⟩ (rest := []) rfl dL_law_685 (fun r26 S25 H locs h C => ?_)
      refine lv_if_ge (tgt := 693) F.x F.b dL_law_688 (by decide) (fun g27 => ?_) (fun g27 => ?_)
      · have h := h.1 g27
        obtain ⟨x28, ex28⟩ : ∃ z : Int32, z = v3 + (1 : Int32) := ⟨_, rfl⟩
        have h := h x28 ex28
        refine lv_iinc (v := x28) (lv' := [(3, .int x28), (0, .ref (ex 4 0)), (2, .ref (ad 110))]) F.x F.b dL_law_693 hl (k := 2) rfl (by rw [ex28]; rfl) (by decide) rfl (fun ls hl => ?_)
        refine lv_goto (tgt := 678) F.x F.b dL_law_696 (by decide) ?_
        exact ih _ _ S25 x28 _ _ _ (by omega) (by omega) h C (lv_sub hl [1, 2, 0] rfl)
      · have h := h.2 g27
        refine lv_iconst (v := 0) F.x F.b dL_law_691 (by decide) ?_
        exact h.elim
set_option maxRecDepth 100000 in
set_option maxHeartbeats 4000000 in
theorem bL_lawB_666 {p : Program} {l : Launch} {e : Env} {s : State} {m : MethodId} {args : Array Value} {below : List Frame} {meth : Method} {c : Code} {D : va_G} {ky : Nat → ClassId} {ad : Nat → Nat} {ex : Nat → Nat → Nat} {Q : State → Prop} (F : Gx p s m args meth c D ky ad ex cL_law 11 "FordTollLaw" (fun q => s.heap.size ≤ q)) (hr : meth.sig.returnType = (some .boolean)) (hf : l.stackTraces = false)  (kc771 ks771 : Nat) {K771 : Mem → Int64 → Int32 → Prop} (hK771 : ∀ (cells slots : Nat) (S : Mem) (l3 : Int64) (v5 : Int32) (H : Heap) (locs : List Loc) (ls : Array Slot), cells + kc771 ≤ 671210 → slots + ks771 ≤ 7075145 → K771 S l3 v5 → Cg D ky ad s (fun q => s.heap.size ≤ q) S [] H locs → lv_has ls 11 [(0, .ref (ex 4 0)), (2, .ref (ad 110)), (3, .long l3), (5, .int v5)] → W p l e room_1 s m args below meth c H locs cells slots Q (F0 m 771 ls [])) : ∀ (cells slots : Nat) (S : Mem) (H : Heap) (locs : List Loc) (ls : Array Slot), cells + (1920 + kc771) ≤ 671210 → slots + (11521 + ks771) ≤ 7075145 → mL_lawB ex K771 S → Cg D ky ad s (fun q => s.heap.size ≤ q) S [] H locs → lv_has ls 11 [(2, .ref (ad 110)), (0, .ref (ex 4 0))] → W p l e room_1 s m args below meth c H locs cells slots Q (F0 m 666 ls []) := by
  intro cells slots S  H locs ls  hc hs h C hl
  unfold mL_lawB at h
  refine lv_aload_n F.x F.b dL_law_666 rfl (lv_at hl 0 rfl) ?_
  refine lv_aload_n F.x F.b dL_law_667 rfl (lv_at hl 1 rfl) ?_
  refine gSI F C hl (kL_makes hf h) wv_L_245 ⟨rfl, rfl, ⟨Nat.le_of_ble_eq_true rfl, Nat.le_of_ble_eq_true rfl⟩, ⟨(show _ ≤ (671210 : Nat) by omega), (show _ ≤ (7075145 : Nat) by omega)⟩, Nat.le_of_ble_eq_true rfl⟩ (rest := []) rfl dL_law_668 (fun r2 S1 H locs h C => ?_)
  refine lv_if_ne (tgt := 676) F.x F.b dL_law_671 (by decide) (fun g3 => ?_) (fun g3 => ?_)
  · have h := h.1 g3
    refine lv_iconst (v := 0) F.x F.b dL_law_676 (by decide) ?_
    refine lv_istore_n (lv' := [(3, .int (0 : Int32)), (2, .ref (ad 110)), (0, .ref (ex 4 0))]) F.x F.b dL_law_677 rfl hl (by decide) rfl (fun ls hl => ?_)
    obtain ⟨n4, hn4, h⟩ := h
    exact bL_lawB_678 F hr hf kc771 ks771 hK771 n4 _ _ S1 (0 : Int32) _ _ _ (by omega) (by omega) h C (lv_sub hl [2, 1, 0] rfl)
  · have h := h.2 g3
    refine lv_iconst (v := 0) F.x F.b dL_law_674 (by decide) ?_
    exact h.elim
