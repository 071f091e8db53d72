def mL_lawC_b862 (ex : Nat → Nat → Nat)  : Nat → Mem → (Nat → Int64) → Int64 → Int32 → Int32 → Int32 → Int32 → Prop
  | 0, _, _, _, _, _, _, _ => False
  | n + 1, S, f, l3, v5, v7, v8, v9 => ((v8 < v9 → (mL_restore (fun (r3 : Int32) (S2 : Mem) => ((¬ r3 = v5 → (False)) ∧ (r3 = v5 → (mL_undo (fun (r6 : Int32) (S5 : Mem) => ((¬ r6 = (-1001 : Int32) → (False)) ∧ (r6 = (-1001 : Int32) → (mL_told (fun (r9 : Int64) (S8 : Mem) => r9 = l3 ∧ mL_restore (fun (r12 : Int32) (S11 : Mem) => ((¬ r12 = v5 → (False)) ∧ (r12 = v5 → (mL_told (fun (r15 : Int64) (S14 : Mem) => r15 = l3 ∧ True) S11)))) S8) S5)))) S2)))) S)) ∧ (¬ v8 < v9 → (mL_undo (fun (r18 : Int32) (S17 : Mem) => ((r18 < (v8 - v9) → (False)) ∧ (¬ r18 < (v8 - v9) → (((((8 : Int32) - v9) < r18 → (False)) ∧ (¬ ((8 : Int32) - v9) < r18 → (mL_told (fun (r22 : Int64) (S21 : Mem) => vp_in (v7 - v9) 13 ∧ r22 = (f (v7 - v9).toNatClampNeg) ∧ ∀ x25 : Int32, x25 = v9 + (1 : Int32) → mL_lawC_b862 ex n S21 f l3 v5 v7 v8 x25) S17))))))) S)))
def mL_lawC_b783 (ex : Nat → Nat → Nat)  : Nat → Mem → (Nat → Int64) → Int64 → Int32 → Int32 → Int32 → Prop
  | 0, _, _, _, _, _, _ => False
  | n + 1, S, f, l3, v5, v7, v8 => (((12 : Int32) ≤ v8 → (∀ x2 : Int32, x2 = (if v7 < (8 : Int32) then v7 else (8 : Int32)) → ∃ fu : Nat, fu ≤ 9 ∧ mL_lawC_b862 ex fu S f l3 v5 v7 x2 (1 : Int32))) ∧ (¬ (12 : Int32) ≤ v8 → (mL_told (fun (r5 : Int64) (S4 : Mem) => mL_at ex (fun (r7 : Int32) (S6 : Mem) => mL_changes (fun (r9 : Int32) (S8 : Mem) => ((r9 = 0 → (mL_told (fun (r12 : Int64) (S11 : Mem) => r12 = r5 ∧ ∀ x14 : Int32, x14 = v8 + (1 : Int32) → mL_lawC_b783 ex n S11 f l3 v5 v7 x14) S8)) ∧ (¬ r9 = 0 → (∀ x15 : Int32, x15 = v7 + (1 : Int32) → vp_in v7 13 ∧ ∀ f17 : Nat → Int64, f17 = vp_updL f v7.toNatClampNeg r5 → ∀ x18 : Int32, x18 = v8 + (1 : Int32) → mL_lawC_b783 ex n S8 f17 l3 v5 x15 x18)))) S6 ((r7 ^^^ (v8 * (977 : Int32))))) S4 (((20 : Int32) + v8))) S)))
def mL_lawC (ex : Nat → Nat → Nat)  (S : Mem) (f : Nat → Int64) (l3 : Int64) (v5 : Int32) : Prop := ∃ fu : Nat, fu ≤ 13 ∧ mL_lawC_b783 ex fu S f l3 v5 (0 : Int32) (0 : Int32)
set_option maxRecDepth 100000 in
set_option maxHeartbeats 4000000 in
theorem bL_lawC_862 {p : Program} {l : Launch} {e : Env} {s : State} {m : MethodId} {args : Array Value} {below : List Frame} {meth : Method} {c : Code} {D : va_G} {ky : Nat → ClassId} {ad : Nat → Nat} {ex : Nat → Nat → Nat} {ao : Nat} {Q : State → Prop} (F : Gx p s m args meth c D ky ad ex cL_law 11 "FordTollLaw" (fun q => s.heap.size ≤ q)) (hr : meth.sig.returnType = (some .boolean)) (hf : l.stackTraces = false) (hao : s.heap.size ≤ ao) (hend : ∀ (cells slots : Nat) (S : Mem) (f : Nat → Int64) (H : Heap) (locs : List Loc) (ls : Array Slot), cells ≤ 671210 → slots ≤ 7075145 → Cg D ky ad s (fun q => s.heap.size ≤ q) S [(ao, lce ky f)] H locs → W p l e room_1 s m args below meth c H locs cells slots Q (F0 m 970 ls [.int 1]))  : ∀ (n : Nat) (cells slots : Nat) (S : Mem) (f : Nat → Int64) (l3 : Int64) (v5 : Int32) (v7 : Int32) (v8 : Int32) (v9 : Int32) (H : Heap) (locs : List Loc) (ls : Array Slot), cells + (350 * n + 701) ≤ 671210 → slots + (2100 * n + 4206) ≤ 7075145 → mL_lawC_b862 ex n S f l3 v5 v7 v8 v9 → Cg D ky ad s (fun q => s.heap.size ≤ q) S [(ao, lce ky f)] H locs → lv_has ls 11 [(2, .ref (ad 110)), (3, .long l3), (5, .int v5), (6, .ref ao), (7, .int v7), (8, .int v8), (9, .int v9)] → W p l e room_1 s m args below meth c H locs cells slots Q (F0 m 862 ls []) := by
  intro n
  induction n with
  | zero =>
    intro cells slots S f l3 v5 v7 v8 v9 H locs ls  hc hs h
    exact False.elim h
  | succ n ih =>
    intro cells slots S f l3 v5 v7 v8 v9 H locs ls  hc hs h C hl
    refine lv_iload F.x F.b dL_law_862 (lv_at hl 6 rfl) ?_
    refine lv_iload F.x F.b dL_law_864 (lv_at hl 5 rfl) ?_
    refine lv_icmp_gt (tgt := 919) F.x F.b dL_law_866 (by decide) (fun g1 => ?_) (fun g1 => ?_)
    · have h := h.1 g1
      refine lv_aload_n F.x F.b dL_law_919 rfl (lv_at hl 0 rfl) ?_
      refine gSH F C hl (kL_restore hf h) wh_L_233 ⟨rfl, rfl, ⟨Nat.le_of_ble_eq_true rfl, Nat.le_of_ble_eq_true rfl⟩, ⟨(show _ ≤ (671210 : Nat) by omega), (show _ ≤ (7075145 : Nat) by omega)⟩, Nat.le_of_ble_eq_true rfl⟩ (rest := []) rfl dL_law_920 (fun r3 S2 H locs h C => ?_)
      refine lv_iload F.x F.b dL_law_923 (lv_at hl 2 rfl) ?_
      refine lv_icmp_ne (tgt := 969) F.x F.b dL_law_925 (by decide) (fun g4 => ?_) (fun g4 => ?_)
      · have h := h.1 g4
        refine lv_iconst (v := 0) F.x F.b dL_law_969 (by decide) ?_
        exact h.elim
      · have h := h.2 g4
        refine lv_aload_n F.x F.b dL_law_928 rfl (lv_at hl 0 rfl) ?_
        refine gSH F C hl (kL_undo hf h) wh_L_231 ⟨rfl, rfl, ⟨Nat.le_of_ble_eq_true rfl, Nat.le_of_ble_eq_true rfl⟩, ⟨(show _ ≤ (671210 : Nat) by omega), (show _ ≤ (7075145 : Nat) by omega)⟩, Nat.le_of_ble_eq_true rfl⟩ (rest := []) rfl dL_law_929 (fun r6 S5 H locs h C => ?_)
        refine lv_sipush (v := -1001) F.x F.b dL_law_932 (by decide) ?_
        refine lv_icmp_ne (tgt := 969) F.x F.b dL_law_935 (by decide) (fun g7 => ?_) (fun g7 => ?_)
        · have h := h.1 g7
          refine lv_iconst (v := 0) F.x F.b dL_law_969 (by decide) ?_
          exact h.elim
        · have h := h.2 g7
          refine lv_aload_n F.x F.b dL_law_938 rfl (lv_at hl 0 rfl) ?_
          refine gSL F C hl (kL_told hf h) wv_L_214 ⟨rfl, rfl, ⟨Nat.le_of_ble_eq_true rfl, Nat.le_of_ble_eq_true rfl⟩, ⟨(show _ ≤ (671210 : Nat) by omega), (show _ ≤ (7075145 : Nat) by omega)⟩, Nat.le_of_ble_eq_true rfl⟩ (rest := []) rfl dL_law_939 (fun r9 S8 H locs h C => ?_)
          refine lv_lload_n F.x F.b dL_law_942 rfl (lv_at hl 1 rfl) ?_
          obtain ⟨g10, h⟩ := h
          refine lv_lcmpE F.x F.b dL_law_943 g10 ?_
          refine lv_if_ne (tgt := 969) F.x F.b dL_law_944 (by decide) (fun g => absurd rfl g) (fun _ => ?_)
          refine lv_aload_n F.x F.b dL_law_947 rfl (lv_at hl 0 rfl) ?_
          refine gSH F C hl (kL_restore hf h) wh_L_233 ⟨rfl, rfl, ⟨Nat.le_of_ble_eq_true rfl, Nat.le_of_ble_eq_true rfl⟩, ⟨(show _ ≤ (671210 : Nat) by omega), (show _ ≤ (7075145 : Nat) by omega)⟩, Nat.le_of_ble_eq_true rfl⟩ (rest := []) rfl dL_law_948 (fun r12 S11 H locs h C => ?_)
          refine lv_iload F.x F.b dL_law_951 (lv_at hl 2 rfl) ?_
          refine lv_icmp_ne (tgt := 969) F.x F.b dL_law_953 (by decide) (fun g13 => ?_) (fun g13 => ?_)
          · have h := h.1 g13
            refine lv_iconst (v := 0) F.x F.b dL_law_969 (by decide) ?_
            exact h.elim
          · have h := h.2 g13
            refine lv_aload_n F.x F.b dL_law_956 rfl (lv_at hl 0 rfl) ?_
            refine gSL F C hl (kL_told hf h) wv_L_214 ⟨rfl, rfl, ⟨Nat.le_of_ble_eq_true rfl, Nat.le_of_ble_eq_true rfl⟩, ⟨(show _ ≤ (671210 : Nat) by omega), (show _ ≤ (7075145 : Nat) by omega)⟩, Nat.le_of_ble_eq_true rfl⟩ (rest := []) rfl dL_law_957 (fun r15 S14 H locs h C => ?_)
            refine lv_lload_n F.x F.b dL_law_960 rfl (lv_at hl 1 rfl) ?_
            obtain ⟨g16, h⟩ := h
            refine lv_lcmpE F.x F.b dL_law_961 g16 ?_
            refine lv_if_ne (tgt := 969) F.x F.b dL_law_962 (by decide) (fun g => absurd rfl g) (fun _ => ?_)
            refine lv_iconst (v := 1) F.x F.b dL_law_965 (by decide) ?_
            refine lv_goto (tgt := 970) F.x F.b dL_law_966 (by decide) ?_
            exact hend _ _ _ _ _ _ _ (by omega) (by omega) C
    · have h := h.2 g1
      refine lv_aload_n F.x F.b dL_law_869 rfl (lv_at hl 0 rfl) ?_
      refine gSH F C hl (kL_undo hf h) wh_L_231 ⟨rfl, rfl, ⟨Nat.le_of_ble_eq_true rfl, Nat.le_of_ble_eq_true rfl⟩, ⟨(show _ ≤ (671210 : Nat) by omega), (show _ ≤ (7075145 : Nat) by omega)⟩, Nat.le_of_ble_eq_true rfl⟩ (rest := []) rfl dL_law_870 (fun r18 S17 H locs h C => ?_)
      refine lv_istore (lv' := [(10, .int r18), (2, .ref (ad 110)), (3, .long l3), (5, .int v5), (6, .ref ao), (7, .int v7), (8, .int v8), (9, .int v9)]) F.x F.b dL_law_873 hl (by decide) rfl (fun ls hl => ?_)
      refine lv_iload F.x F.b dL_law_875 (lv_at hl 0 rfl) ?_
      refine lv_iload F.x F.b dL_law_877 (lv_at hl 6 rfl) ?_
      refine lv_iload F.x F.b dL_law_879 (lv_at hl 7 rfl) ?_
      refine lv_isub F.x F.b dL_law_881 ?_
      refine lv_icmp_lt (tgt := 911) F.x F.b dL_law_882 (by decide) (fun g19 => ?_) (fun g19 => ?_)
      · have h := h.1 g19
        refine lv_iconst (v := 0) F.x F.b dL_law_911 (by decide) ?_
        exact h.elim
      · have h := h.2 g19
        refine lv_iload F.x F.b dL_law_885 (lv_at hl 0 rfl) ?_
        refine lv_bipush (v := 8) F.x F.b dL_law_887 (by decide) ?_
        refine lv_iload F.x F.b dL_law_889 (lv_at hl 7 rfl) ?_
        refine lv_isub F.x F.b dL_law_891 ?_
        refine lv_icmp_gt (tgt := 911) F.x F.b dL_law_892 (by decide) (fun g20 => ?_) (fun g20 => ?_)
        · have h := h.1 g20
          refine lv_iconst (v := 0) F.x F.b dL_law_911 (by decide) ?_
          exact h.elim
        · have h := h.2 g20
          refine lv_aload_n F.x F.b dL_law_895 rfl (lv_at hl 1 rfl) ?_
          refine gSL F C hl (kL_told hf h) wv_L_214 ⟨rfl, rfl, ⟨Nat.le_of_ble_eq_true rfl, Nat.le_of_ble_eq_true rfl⟩, ⟨(show _ ≤ (671210 : Nat) by omega), (show _ ≤ (7075145 : Nat) by omega)⟩, Nat.le_of_ble_eq_true rfl⟩ (rest := []) rfl dL_law_896 (fun r22 S21 H locs h C => ?_)
          refine lv_aload F.x F.b dL_law_899 (lv_at hl 4 rfl) ?_
          refine lv_iload F.x F.b dL_law_901 (lv_at hl 5 rfl) ?_
          refine lv_iload F.x F.b dL_law_903 (lv_at hl 7 rfl) ?_
          refine lv_isub F.x F.b dL_law_905 ?_
          obtain ⟨g23, h⟩ := h
          refine eLald F C g23 dL_law_906 ?_
          obtain ⟨g24, h⟩ := h
          refine lv_lcmpE F.x F.b dL_law_907 g24 ?_
          refine lv_if_eq (tgt := 913) F.x F.b dL_law_908 (by decide) (fun _ => ?_) (fun g => absurd rfl g)
          obtain ⟨x25, ex25⟩ : ∃ z : Int32, z = v9 + (1 : Int32) := ⟨_, rfl⟩
          have h := h x25 ex25
          refine lv_iinc (v := x25) (lv' := [(9, .int x25), (10, .int r18), (2, .ref (ad 110)), (3, .long l3), (5, .int v5), (6, .ref ao), (7, .int v7), (8, .int v8)]) F.x F.b dL_law_913 hl (k := 7) rfl (by rw [ex25]; rfl) (by decide) rfl (fun ls hl => ?_)
          refine lv_goto (tgt := 862) F.x F.b dL_law_916 (by decide) ?_
          exact ih _ _ S21 f l3 v5 v7 v8 x25 _ _ _ (by omega) (by omega) h C (lv_sub hl [2, 3, 4, 5, 6, 7, 0] rfl)
set_option maxRecDepth 100000 in
set_option maxHeartbeats 4000000 in
theorem bL_lawC_783 {p : Program} {l : Launch} {e : Env} {s : State} {m : MethodId} {args : Array Value} {below : List Frame} {meth : Method} {c : Code} {D : va_G} {ky : Nat → ClassId} {ad : Nat → Nat} {ex : Nat → Nat → Nat} {ao : Nat} {Q : State → Prop} (F : Gx p s m args meth c D ky ad ex cL_law 11 "FordTollLaw" (fun q => s.heap.size ≤ q)) (hr : meth.sig.returnType = (some .boolean)) (hf : l.stackTraces = false) (hao : s.heap.size ≤ ao) (hend : ∀ (cells slots : Nat) (S : Mem) (f : Nat → Int64) (H : Heap) (locs : List Loc) (ls : Array Slot), cells ≤ 671210 → slots ≤ 7075145 → Cg D ky ad s (fun q => s.heap.size ≤ q) S [(ao, lce ky f)] H locs → W p l e room_1 s m args below meth c H locs cells slots Q (F0 m 970 ls [.int 1]))  : ∀ (n : Nat) (cells slots : Nat) (S : Mem) (f : Nat → Int64) (l3 : Int64) (v5 : Int32) (v7 : Int32) (v8 : Int32) (H : Heap) (locs : List Loc) (ls : Array Slot), cells + (702 * n + 3851) ≤ 671210 → slots + (4212 * n + 23106) ≤ 7075145 → mL_lawC_b783 ex n S f l3 v5 v7 v8 → Cg D ky ad s (fun q => s.heap.size ≤ q) S [(ao, lce ky f)] H locs → lv_has ls 11 [(0, .ref (ex 4 0)), (2, .ref (ad 110)), (3, .long l3), (5, .int v5), (6, .ref ao), (7, .int v7), (8, .int v8)] → W p l e room_1 s m args below meth c H locs cells slots Q (F0 m 783 ls []) := by
  intro n
  induction n with
  | zero =>
    intro cells slots S f l3 v5 v7 v8 H locs ls  hc hs h
    exact False.elim h
  | succ n ih =>
    intro cells slots S f l3 v5 v7 v8 H locs ls  hc hs h C hl
    refine lv_iload F.x F.b dL_law_783 (lv_at hl 6 rfl) ?_
    refine lv_bipush (v := 12) F.x F.b dL_law_785 (by decide) ?_
    refine lv_icmp_ge (tgt := 850) F.x F.b dL_law_787 (by decide) (fun g1 => ?_) (fun g1 => ?_)
    · have h := h.1 g1
      refine lv_bipush (v := 8) F.x F.b dL_law_850 (by decide) ?_
      refine lv_iload F.x F.b dL_law_852 (lv_at hl 5 rfl) ?_
      refine gMin F hl q5_32 ⟨Nat.le_of_ble_eq_true rfl, Nat.le_of_ble_eq_true rfl, (show _ ≤ (671210 : Nat) by omega), (show _ ≤ (7075145 : Nat) by omega)⟩ dL_law_854 ?_
      refine lv_topi (fun x2 ex2 => ?_)
      have h := h x2 ex2
      refine lv_istore (lv' := [(8, .int x2), (0, .ref (ex 4 0)), (2, .ref (ad 110)), (3, .long l3), (5, .int v5), (6, .ref ao), (7, .int v7)]) F.x F.b dL_law_857 hl (by decide) rfl (fun ls hl => ?_)
      refine lv_iconst (v := 1) F.x F.b dL_law_859 (by decide) ?_
      refine lv_istore (lv' := [(9, .int (1 : Int32)), (8, .int x2), (0, .ref (ex 4 0)), (2, .ref (ad 110)), (3, .long l3), (5, .int v5), (6, .ref ao), (7, .int v7)]) F.x F.b dL_law_860 hl (by decide) rfl (fun ls hl => ?_)
      obtain ⟨n3, hn3, h⟩ := h
      exact bL_lawC_862 F hr hf hao hend n3 _ _ S f l3 v5 v7 x2 (1 : Int32) _ _ _ (by omega) (by omega) h C (lv_sub hl [3, 4, 5, 6, 7, 1, 0] rfl)
    · have h := h.2 g1
      refine lv_aload_n F.x F.b dL_law_790 rfl (lv_at hl 1 rfl) ?_
      refine gSL F C hl (kL_told hf h) wv_L_214 ⟨rfl, rfl, ⟨Nat.le_of_ble_eq_true rfl, Nat.le_of_ble_eq_true rfl⟩, ⟨(show _ ≤ (671210 : Nat) by omega), (show _ ≤ (7075145 : Nat) by omega)⟩, Nat.le_of_ble_eq_true rfl⟩ (rest := []) rfl dL_law_791 (fun r5 S4 H locs h C => ?_)
      refine lv_lstore (lv' := [(9, .long r5), (0, .ref (ex 4 0)), (2, .ref (ad 110)), (3, .long l3), (5, .int v5), (6, .ref ao), (7, .int v7), (8, .int v8)]) F.x F.b dL_law_794 hl (by decide) rfl (fun ls hl => ?_)
      refine lv_aload_n F.x F.b dL_law_796 rfl (lv_at hl 2 rfl) ?_
      refine lv_aload_n F.x F.b dL_law_797 rfl (lv_at hl 1 rfl) ?_
      refine lv_bipush (v := 20) F.x F.b dL_law_798 (by decide) ?_
      refine lv_iload F.x F.b dL_law_800 (lv_at hl 7 rfl) ?_
      refine lv_iadd F.x F.b dL_law_802 ?_
      refine gSI F C hl (kL_at hf h) wv_L_141 ⟨rfl, rfl, ⟨Nat.le_of_ble_eq_true rfl, Nat.le_of_ble_eq_true rfl⟩, ⟨(show _ ≤ (671210 : Nat) by omega), (show _ ≤ (7075145 : Nat) by omega)⟩, Nat.le_of_ble_eq_true rfl⟩ (rest := [.ref (ad 110)]) rfl dL_law_803 (fun r7 S6 H locs h C => ?_)
      refine lv_iload F.x F.b dL_law_806 (lv_at hl 7 rfl) ?_
      refine lv_sipush (v := 977) F.x F.b dL_law_808 (by decide) ?_
      refine lv_imul F.x F.b dL_law_811 ?_
      refine lv_ixor F.x F.b dL_law_812 ?_
      refine gSI F C hl (kL_changes hf h) wv_L_253 ⟨rfl, rfl, ⟨Nat.le_of_ble_eq_true rfl, Nat.le_of_ble_eq_true rfl⟩, ⟨(show _ ≤ (671210 : Nat) by omega), (show _ ≤ (7075145 : Nat) by omega)⟩, Nat.le_of_ble_eq_true rfl⟩ (rest := []) rfl dL_law_813 (fun r9 S8 H locs h C => ?_)
      refine lv_if_eq (tgt := 832) F.x F.b dL_law_816 (by decide) (fun g10 => ?_) (fun g10 => ?_)
      · have h := h.1 g10
        refine lv_aload_n F.x F.b dL_law_832 rfl (lv_at hl 2 rfl) ?_
        refine gSL F C hl (kL_told hf h) wv_L_214 ⟨rfl, rfl, ⟨Nat.le_of_ble_eq_true rfl, Nat.le_of_ble_eq_true rfl⟩, ⟨(show _ ≤ (671210 : Nat) by omega), (show _ ≤ (7075145 : Nat) by omega)⟩, Nat.le_of_ble_eq_true rfl⟩ (rest := []) rfl dL_law_833 (fun r12 S11 H locs h C => ?_)
        refine lv_lload F.x F.b dL_law_836 (lv_at hl 0 rfl) ?_
        obtain ⟨g13, h⟩ := h
        refine lv_lcmpE F.x F.b dL_law_838 g13 ?_
        refine lv_if_eq (tgt := 844) F.x F.b dL_law_839 (by decide) (fun _ => ?_) (fun g => absurd rfl g)
        obtain ⟨x14, ex14⟩ : ∃ z : Int32, z = v8 + (1 : Int32) := ⟨_, rfl⟩
        have h := h x14 ex14
        refine lv_iinc (v := x14) (lv' := [(8, .int x14), (9, .long r5), (0, .ref (ex 4 0)), (2, .ref (ad 110)), (3, .long l3), (5, .int v5), (6, .ref ao), (7, .int v7)]) F.x F.b dL_law_844 hl (k := 7) rfl (by rw [ex14]; rfl) (by decide) rfl (fun ls hl => ?_)
        refine lv_goto (tgt := 783) F.x F.b dL_law_847 (by decide) ?_
        exact ih _ _ S11 f l3 v5 v7 x14 _ _ _ (by omega) (by omega) h C (lv_sub hl [2, 3, 4, 5, 6, 7, 0] rfl)
      · have h := h.2 g10
        refine lv_aload F.x F.b dL_law_819 (lv_at hl 5 rfl) ?_
        refine lv_iload F.x F.b dL_law_821 (lv_at hl 6 rfl) ?_
        obtain ⟨x15, ex15⟩ : ∃ z : Int32, z = v7 + (1 : Int32) := ⟨_, rfl⟩
        have h := h x15 ex15
        refine lv_iinc (v := x15) (lv' := [(7, .int x15), (9, .long r5), (0, .ref (ex 4 0)), (2, .ref (ad 110)), (3, .long l3), (5, .int v5), (6, .ref ao), (8, .int v8)]) F.x F.b dL_law_823 hl (k := 6) rfl (by rw [ex15]; rfl) (by decide) rfl (fun ls hl => ?_)
        refine lv_lload F.x F.b dL_law_826 (lv_at hl 1 rfl) ?_
        obtain ⟨g16, h⟩ := h
        refine eLast F hao C g16 dL_law_828 (fun H locs C => ?_)
        obtain ⟨f17, ef17⟩ : ∃ z : Nat → Int64, z = vp_updL f v7.toNatClampNeg r5 := ⟨_, rfl⟩
        rw [← ef17] at C
        have h := h f17 ef17
        refine lv_goto (tgt := 844) F.x F.b dL_law_829 (by decide) ?_
        obtain ⟨x18, ex18⟩ : ∃ z : Int32, z = v8 + (1 : Int32) := ⟨_, rfl⟩
        have h := h x18 ex18
        refine lv_iinc (v := x18) (lv' := [(8, .int x18), (7, .int x15), (9, .long r5), (0, .ref (ex 4 0)), (2, .ref (ad 110)), (3, .long l3), (5, .int v5), (6, .ref ao)]) F.x F.b dL_law_844 hl (k := 7) rfl (by rw [ex18]; rfl) (by decide) rfl (fun ls hl => ?_)
        refine lv_goto (tgt := 783) F.x F.b dL_law_847 (by decide) ?_
        exact ih _ _ S8 f17 l3 v5 x15 x18 _ _ _ (by omega) (by omega) h C (lv_sub hl [3, 4, 5, 6, 7, 1, 0] rfl)
set_option maxRecDepth 100000 in
set_option maxHeartbeats 4000000 in
theorem bL_lawC_777 {p : Program} {l : Launch} {e : Env} {s : State} {m : MethodId} {args : Array Value} {below : List Frame} {meth : Method} {c : Code} {D : va_G} {ky : Nat → ClassId} {ad : Nat → Nat} {ex : Nat → Nat → Nat} {ao : Nat} {Q : State → Prop} (F : Gx p s m args meth c D ky ad ex cL_law 11 "FordTollLaw" (fun q => s.heap.size ≤ q)) (hr : meth.sig.returnType = (some .boolean)) (hf : l.stackTraces = false) (hao : s.heap.size ≤ ao) (hend : ∀ (cells slots : Nat) (S : Mem) (f : Nat → Int64) (H : Heap) (locs : List Loc) (ls : Array Slot), cells ≤ 671210 → slots ≤ 7075145 → Cg D ky ad s (fun q => s.heap.size ≤ q) S [(ao, lce ky f)] H locs → W p l e room_1 s m args below meth c H locs cells slots Q (F0 m 970 ls [.int 1]))  : ∀ (cells slots : Nat) (S : Mem) (f : Nat → Int64) (l3 : Int64) (v5 : Int32) (H : Heap) (locs : List Loc) (ls : Array Slot), cells + (12977) ≤ 671210 → slots + (77862) ≤ 7075145 → mL_lawC ex S f l3 v5 → Cg D ky ad s (fun q => s.heap.size ≤ q) S [(ao, lce ky f)] H locs → lv_has ls 11 [(6, .ref ao), (2, .ref (ad 110)), (0, .ref (ex 4 0)), (3, .long l3), (5, .int v5)] → W p l e room_1 s m args below meth c H locs cells slots Q (F0 m 777 ls []) := by
  intro cells slots S f l3 v5 H locs ls  hc hs h C hl
  unfold mL_lawC at h
  refine lv_iconst (v := 0) F.x F.b dL_law_777 (by decide) ?_
  refine lv_istore (lv' := [(7, .int (0 : Int32)), (6, .ref ao), (2, .ref (ad 110)), (0, .ref (ex 4 0)), (3, .long l3), (5, .int v5)]) F.x F.b dL_law_778 hl (by decide) rfl (fun ls hl => ?_)
  refine lv_iconst (v := 0) F.x F.b dL_law_780 (by decide) ?_
  refine lv_istore (lv' := [(8, .int (0 : Int32)), (7, .int (0 : Int32)), (6, .ref ao), (2, .ref (ad 110)), (0, .ref (ex 4 0)), (3, .long l3), (5, .int v5)]) F.x F.b dL_law_781 hl (by decide) rfl (fun ls hl => ?_)
  obtain ⟨n1, hn1, h⟩ := h
  exact bL_lawC_783 F hr hf hao hend n1 _ _ S f l3 v5 (0 : Int32) (0 : Int32) _ _ _ (by omega) (by omega) h C (lv_sub hl [4, 3, 5, 6, 2, 1, 0] rfl)
