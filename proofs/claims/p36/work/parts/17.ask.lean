def rmX2_lettersAlike : Room := { frames := 4, cells := 0, slots := 0, locals := 85 }
def mX2_lettersAlike_b19 (post : Int32 → Mem → Prop) : Nat → Mem → Nat → Int32 → Int32 → Prop
  | 0, _, _, _, _ => False
  | n + 1, S, s1, v2, v3 => ((v2 ≤ v3 → (post ((if (0 : Int32) < v2 then v2 else (0 : Int32))) S)) ∧ (¬ v2 ≤ v3 → (vp_in ((S 6 0 2) + v3) 60 ∧ vp_in v3 (lnN s1) ∧ (((S 7 0 (((S 6 0 2) + v3)).toNatClampNeg) = (chS s1 v3) → (∀ x6 : Int32, x6 = v3 + (1 : Int32) → mX2_lettersAlike_b19 post n S s1 v2 x6)) ∧ (¬ (S 7 0 (((S 6 0 2) + v3)).toNatClampNeg) = (chS s1 v3) → (post v3 S))))))
def mX2_lettersAlike (post : Int32 → Mem → Prop) (S : Mem) (s1 : Nat) : Prop := ∀ x2 : Int32, x2 = (if ((S 6 0 1) - (S 6 0 2)) < (lnS s1) then ((S 6 0 1) - (S 6 0 2)) else (lnS s1)) → ∃ fu : Nat, mX2_lettersAlike_b19 post fu S s1 x2 (0 : Int32)
set_option maxRecDepth 100000 in
set_option maxHeartbeats 4000000 in
theorem bX2_lettersAlike_19 {p : Program} {l : Launch} {e : Env} {s : State} {m : MethodId} {args : Array Value} {below : List Frame} {meth : Method} {c : Code} {D : va_G} {ky : Nat → ClassId} {ad : Nat → Nat} {ex : Nat → Nat → Nat} (F : Fx p s m args meth c D ky ad ex cX2_lettersAlike 4 yX2_lettersAlike.cls) (hr : meth.sig.returnType = (some .int)) {post : Int32 → Mem → Prop} : ∀ (n : Nat) (S : Mem) (s1 : Nat) (v2 : Int32) (v3 : Int32) (H : Heap) (locs : List Loc) (ls : Array Slot), s1 < 12 → mX2_lettersAlike_b19 post n S s1 v2 v3 → Cx D ky ad s S H locs → lv_has ls 4 [(0, .ref (ad 113)), (1, .ref (ex 0 s1)), (2, .int v2), (3, .int v3)] → W p l e rmX2_lettersAlike s m args below meth c H locs 0 0 (MQ below (va_Qi post (AFT D ky ad) (AW ad s.heap.size)) args s 0 0 (AW ad s.heap.size)) (F0 m 19 ls []) := by
  intro n
  induction n with
  | zero =>
    intro S s1 v2 v3 H locs ls hs1 h
    exact False.elim h
  | succ n ih =>
    intro S s1 v2 v3 H locs ls hs1 h C hl
    refine lv_iload_n F.x F.b dX2_lettersAlike_19 rfl (lv_at hl 3 rfl) ?_
    refine lv_iload_n F.x F.b dX2_lettersAlike_20 rfl (lv_at hl 2 rfl) ?_
    refine lv_icmp_ge (tgt := 51) F.x F.b dX2_lettersAlike_21 (by decide) (fun g1 => ?_) (fun g1 => ?_)
    · have h := h.1 g1
      refine lv_iconst (v := 0) F.x F.b dX2_lettersAlike_51 (by decide) ?_
      refine lv_iload_n F.x F.b dX2_lettersAlike_52 rfl (lv_at hl 2 rfl) ?_
      refine mMax F hl q4_19 ⟨Nat.le_of_ble_eq_true rfl, Nat.le_of_ble_eq_true rfl, Nat.le_of_ble_eq_true rfl, Nat.le_of_ble_eq_true rfl⟩ dX2_lettersAlike_53 ?_
      exact retI F hr C h dX2_lettersAlike_56
    · have h := h.2 g1
      refine lv_aload_n F.x F.b dX2_lettersAlike_24 rfl (lv_at hl 0 rfl) ?_
      refine getQ F C 0 (by decide) q1_161 (v := .ref (ad 114)) rfl dX2_lettersAlike_25 ?_
      refine lv_aload_n F.x F.b dX2_lettersAlike_28 rfl (lv_at hl 0 rfl) ?_
      refine getQ F C 2 (by decide) q1_164 (v := .int (S 6 0 2)) rfl dX2_lettersAlike_29 ?_
      refine lv_iload_n F.x F.b dX2_lettersAlike_32 rfl (lv_at hl 3 rfl) ?_
      refine lv_iadd F.x F.b dX2_lettersAlike_33 ?_
      obtain ⟨g2, h⟩ := h
      refine aldC F C (o := 114) (cq := 7) (iq := 0) (by decide) rfl rfl rfl g2 dX2_lettersAlike_34 ?_
      refine lv_aload_n F.x F.b dX2_lettersAlike_35 rfl (lv_at hl 1 rfl) ?_
      refine lv_iload_n F.x F.b dX2_lettersAlike_36 rfl (lv_at hl 3 rfl) ?_
      obtain ⟨g3, h⟩ := h
      refine kIg F C hl (kJ0_charAt (post := fun r9z S9z => r9z = (chS s1 v3) ∧ S9z = S) hs1 g3 ⟨rfl, rfl⟩) (F.srec C hs1) wv_X2_99 ⟨rfl, rfl, ⟨Nat.le_of_ble_eq_true rfl, Nat.le_of_ble_eq_true rfl⟩, ⟨Nat.le_of_ble_eq_true rfl, Nat.le_of_ble_eq_true rfl⟩, Nat.le_of_ble_eq_true rfl⟩ (rest := [.int (S 7 0 (((S 6 0 2) + v3)).toNatClampNeg)]) rfl dX2_lettersAlike_37 (fun rf4 Sf4 H locs hf4 C => ?_)
      rw [hf4.1]
      rw [hf4.2] at C
      refine lv_icmp_eq (tgt := 45) F.x F.b dX2_lettersAlike_40 (by decide) (fun g5 => ?_) (fun g5 => ?_)
      · have h := h.1 g5
        obtain ⟨x6, ex6⟩ : ∃ z : Int32, z = v3 + (1 : Int32) := ⟨_, rfl⟩
        have h := h x6 ex6
        refine lv_iinc (v := x6) (lv' := [(3, .int x6), (0, .ref (ad 113)), (1, .ref (ex 0 s1)), (2, .int v2)]) F.x F.b dX2_lettersAlike_45 hl (k := 3) rfl (by rw [ex6]; rfl) (by decide) rfl (fun ls hl => ?_)
        refine lv_goto (tgt := 19) F.x F.b dX2_lettersAlike_48 (by decide) ?_
        exact ih S s1 v2 x6 _ _ _ hs1 h C (lv_sub hl [1, 2, 3, 0] rfl)
      · have h := h.2 g5
        refine lv_iload_n F.x F.b dX2_lettersAlike_43 rfl (lv_at hl 3 rfl) ?_
        exact retI F hr C h dX2_lettersAlike_44
set_option maxRecDepth 100000 in
set_option maxHeartbeats 4000000 in
theorem kX2_lettersAlike {l : Launch} {D : va_G} {ky : Nat → ClassId} {ad : Nat → Nat} {ex : Nat → Nat → Nat} {post : Int32 → Mem → Prop} {S : Mem} {s1 : Nat} (hs1 : s1 < 12) (h : mX2_lettersAlike post S s1) : CMi l D ky ad ex yX2_lettersAlike cX2_lettersAlike 4 (some .int) rmX2_lettersAlike 0 0 [.ref (ad 113), .ref (ex 0 s1)] S post := by
  refine CMi.of (by decide) (Nat.le_of_ble_eq_true rfl) (fun p e s m args below meth c ls F hr C hl => ?_)
  have hl : lv_has ls 4 [(0, .ref (ad 113)), (1, .ref (ex 0 s1))] := hl
  unfold mX2_lettersAlike at h
  refine lv_aload_n F.x F.b dX2_lettersAlike_0 rfl (lv_at hl 1 rfl) ?_
  refine kIg F C hl (kJ0_length (post := fun r9z S9z => r9z = (lnS s1) ∧ S9z = S) hs1 ⟨rfl, rfl⟩) (F.srec C hs1) wv_X2_86 ⟨rfl, rfl, ⟨Nat.le_of_ble_eq_true rfl, Nat.le_of_ble_eq_true rfl⟩, ⟨Nat.le_of_ble_eq_true rfl, Nat.le_of_ble_eq_true rfl⟩, Nat.le_of_ble_eq_true rfl⟩ (rest := []) rfl dX2_lettersAlike_1 (fun rf1 Sf1 H locs hf1 C => ?_)
  rw [hf1.1]
  rw [hf1.2] at C
  refine lv_aload_n F.x F.b dX2_lettersAlike_4 rfl (lv_at hl 0 rfl) ?_
  refine getQ F C 1 (by decide) q1_162 (v := .int (S 6 0 1)) rfl dX2_lettersAlike_5 ?_
  refine lv_aload_n F.x F.b dX2_lettersAlike_8 rfl (lv_at hl 0 rfl) ?_
  refine getQ F C 2 (by decide) q1_164 (v := .int (S 6 0 2)) rfl dX2_lettersAlike_9 ?_
  refine lv_isub F.x F.b dX2_lettersAlike_12 ?_
  refine mMin F hl q3_220 ⟨Nat.le_of_ble_eq_true rfl, Nat.le_of_ble_eq_true rfl, Nat.le_of_ble_eq_true rfl, Nat.le_of_ble_eq_true rfl⟩ dX2_lettersAlike_13 ?_
  refine lv_topi (fun x2 ex2 => ?_)
  have h := h x2 ex2
  refine lv_istore_n (lv' := [(2, .int x2), (0, .ref (ad 113)), (1, .ref (ex 0 s1))]) F.x F.b dX2_lettersAlike_16 rfl hl (by decide) rfl (fun ls hl => ?_)
  refine lv_iconst (v := 0) F.x F.b dX2_lettersAlike_17 (by decide) ?_
  refine lv_istore_n (lv' := [(3, .int (0 : Int32)), (2, .int x2), (0, .ref (ad 113)), (1, .ref (ex 0 s1))]) F.x F.b dX2_lettersAlike_18 rfl hl (by decide) rfl (fun ls hl => ?_)
  obtain ⟨n3, h⟩ := h
  exact bX2_lettersAlike_19 F hr n3 S s1 x2 (0 : Int32) _ _ _ hs1 h C (lv_sub hl [2, 3, 1, 0] rfl)

def rmX2_readWord : Room := { frames := 5, cells := 0, slots := 0, locals := 108 }
def mX2_readWord_b4 (pn : Mem → Prop) (pw : Nat → Mem → Prop) : Nat → Mem → Int32 → Int32 → Prop
  | 0, _, _, _ => False
  | n + 1, S, v1, v2 => (((10 : Int32) ≤ v2 → (mX2_fail (fun (S2 : Mem) => pn S2) S (((S 6 0 2) + v1)))) ∧ (¬ (10 : Int32) ≤ v2 → (vp_in v2 10 ∧ ∀ w5 : Nat, w5 = v2.toNatClampNeg → mX2_lettersAlike (fun (r7 : Int32) (S6 : Mem) => ((¬ r7 = (lnS w5) → (∀ x10 : Int32, x10 = (if v1 < r7 then r7 else v1) → ∀ x11 : Int32, x11 = v2 + (1 : Int32) → mX2_readWord_b4 pn pw n S6 x10 x11)) ∧ (r7 = (lnS w5) → (∀ S12 : Mem, S12 = wr S6 6 0 2 ((S6 6 0 2) + r7) → pw w5 S12)))) S w5)))
def mX2_readWord (pn : Mem → Prop) (pw : Nat → Mem → Prop) (S : Mem) : Prop := ∃ fu : Nat, mX2_readWord_b4 pn pw fu S (0 : Int32) (0 : Int32)
set_option maxRecDepth 100000 in
set_option maxHeartbeats 4000000 in
theorem bX2_readWord_4 {p : Program} {l : Launch} {e : Env} {s : State} {m : MethodId} {args : Array Value} {below : List Frame} {meth : Method} {c : Code} {D : va_G} {ky : Nat → ClassId} {ad : Nat → Nat} {ex : Nat → Nat → Nat} (F : Fx p s m args meth c D ky ad ex cX2_readWord 5 yX2_readWord.cls) (hr : meth.sig.returnType = (some (.object "FordToll$Word"))) {pn : Mem → Prop} {pw : Nat → Mem → Prop} : ∀ (n : Nat) (S : Mem) (v1 : Int32) (v2 : Int32) (H : Heap) (locs : List Loc) (ls : Array Slot), mX2_readWord_b4 pn pw n S v1 v2 → Cx D ky ad s S H locs → lv_has ls 5 [(0, .ref (ad 113)), (1, .int v1), (2, .int v2)] → W p l e rmX2_readWord s m args below meth c H locs 0 0 (MQ below (va_Qw (ex := ex) pn pw (AFT D ky ad) (AW ad s.heap.size)) args s 0 0 (AW ad s.heap.size)) (F0 m 4 ls []) := by
  intro n
  induction n with
  | zero =>
    intro S v1 v2 H locs ls  h
    exact False.elim h
  | succ n ih =>
    intro S v1 v2 H locs ls  h C hl
    refine lv_iload_n F.x F.b dX2_readWord_4 rfl (lv_at hl 2 rfl) ?_
    refine gWords F C q3_204 dX2_readWord_5 ?_
    refine va_tlen F.x F.b F.words C.2 (v := 10) (by decide) dX2_readWord_8 ?_
    refine lv_icmp_ge (tgt := 66) F.x F.b dX2_readWord_9 (by decide) (fun g1 => ?_) (fun g1 => ?_)
    · have h := h.1 g1
      refine lv_aload_n F.x F.b dX2_readWord_66 rfl (lv_at hl 0 rfl) ?_
      refine lv_aload_n F.x F.b dX2_readWord_67 rfl (lv_at hl 0 rfl) ?_
      refine getQ F C 2 (by decide) q1_164 (v := .int (S 6 0 2)) rfl dX2_readWord_68 ?_
      refine lv_iload_n F.x F.b dX2_readWord_71 rfl (lv_at hl 1 rfl) ?_
      refine lv_iadd F.x F.b dX2_readWord_72 ?_
      refine kV F C hl (kX2_fail  h) (by decide) (ce_Q _) rfl wv_X2_29 ⟨rfl, rfl, ⟨Nat.le_of_ble_eq_true rfl, Nat.le_of_ble_eq_true rfl⟩, ⟨Nat.le_of_ble_eq_true rfl, Nat.le_of_ble_eq_true rfl⟩, Nat.le_of_ble_eq_true rfl⟩ (rest := []) rfl dX2_readWord_73 (fun S2 H locs h C => ?_)
      refine lv_null F.x F.b dX2_readWord_76 ?_
      exact retN F hr C h dX2_readWord_77
    · have h := h.2 g1
      refine gWords F C q3_204 dX2_readWord_12 ?_
      refine lv_iload_n F.x F.b dX2_readWord_15 rfl (lv_at hl 2 rfl) ?_
      obtain ⟨g4, h⟩ := h
      refine vb_tq F.x F.b F.words C.2 g4 rfl dX2_readWord_16 ?_
      obtain ⟨w5, ew5⟩ : ∃ z : Nat, z = v2.toNatClampNeg := ⟨_, rfl⟩
      have hw5 : w5 < 10 := by rw [ew5]; exact Nat.not_le.mp (fun q => g4 (Or.inr q))
      rw [← ew5]
      have h := h w5 ew5
      refine lv_astore_n (lv' := [(3, .ref (ex 2 w5)), (0, .ref (ad 113)), (1, .int v1), (2, .int v2)]) F.x F.b dX2_readWord_17 rfl hl (by decide) rfl (fun ls hl => ?_)
      refine lv_aload_n F.x F.b dX2_readWord_18 rfl (lv_at hl 1 rfl) ?_
      refine lv_aload_n F.x F.b dX2_readWord_19 rfl (lv_at hl 0 rfl) ?_
      refine wdN F (F.wd hw5).2.1 C.2 q5_51 (fun _ h9 => h9) dX2_readWord_20 ?_
      refine kI F C hl (kX2_lettersAlike  (Nat.lt_trans hw5 (by decide)) h) (by decide) (ce_Q _) rfl wv_X2_82 ⟨rfl, rfl, ⟨Nat.le_of_ble_eq_true rfl, Nat.le_of_ble_eq_true rfl⟩, ⟨Nat.le_of_ble_eq_true rfl, Nat.le_of_ble_eq_true rfl⟩, Nat.le_of_ble_eq_true rfl⟩ (rest := []) rfl dX2_readWord_23 (fun r7 S6 H locs h C => ?_)
      refine lv_istore (lv' := [(4, .int r7), (3, .ref (ex 2 w5)), (0, .ref (ad 113)), (1, .int v1), (2, .int v2)]) F.x F.b dX2_readWord_26 hl (by decide) rfl (fun ls hl => ?_)
      refine lv_iload F.x F.b dX2_readWord_28 (lv_at hl 0 rfl) ?_
      refine lv_aload_n F.x F.b dX2_readWord_30 rfl (lv_at hl 1 rfl) ?_
      refine wdN F (F.wd hw5).2.1 C.2 q5_51 (fun _ h9 => h9) dX2_readWord_31 ?_
      refine kIg F C hl (kJ0_length (post := fun r9z S9z => r9z = (lnS w5) ∧ S9z = S6) (Nat.lt_trans hw5 (by decide)) ⟨rfl, rfl⟩) (F.srec C (Nat.lt_trans hw5 (by decide))) wv_X2_86 ⟨rfl, rfl, ⟨Nat.le_of_ble_eq_true rfl, Nat.le_of_ble_eq_true rfl⟩, ⟨Nat.le_of_ble_eq_true rfl, Nat.le_of_ble_eq_true rfl⟩, Nat.le_of_ble_eq_true rfl⟩ (rest := [.int r7]) rfl dX2_readWord_34 (fun rf8 Sf8 H locs hf8 C => ?_)
      rw [hf8.1]
      rw [hf8.2] at C
      refine lv_icmp_ne (tgt := 53) F.x F.b dX2_readWord_37 (by decide) (fun g9 => ?_) (fun g9 => ?_)
      · have h := h.1 g9
        refine lv_iload_n F.x F.b dX2_readWord_53 rfl (lv_at hl 3 rfl) ?_
        refine lv_iload F.x F.b dX2_readWord_54 (lv_at hl 0 rfl) ?_
        refine mMax F hl q4_19 ⟨Nat.le_of_ble_eq_true rfl, Nat.le_of_ble_eq_true rfl, Nat.le_of_ble_eq_true rfl, Nat.le_of_ble_eq_true rfl⟩ dX2_readWord_56 ?_
        refine lv_topi (fun x10 ex10 => ?_)
        have h := h x10 ex10
        refine lv_istore_n (lv' := [(1, .int x10), (4, .int r7), (3, .ref (ex 2 w5)), (0, .ref (ad 113)), (2, .int v2)]) F.x F.b dX2_readWord_59 rfl hl (by decide) rfl (fun ls hl => ?_)
        obtain ⟨x11, ex11⟩ : ∃ z : Int32, z = v2 + (1 : Int32) := ⟨_, rfl⟩
        have h := h x11 ex11
        refine lv_iinc (v := x11) (lv' := [(2, .int x11), (1, .int x10), (4, .int r7), (3, .ref (ex 2 w5)), (0, .ref (ad 113))]) F.x F.b dX2_readWord_60 hl (k := 4) rfl (by rw [ex11]; rfl) (by decide) rfl (fun ls hl => ?_)
        refine lv_goto (tgt := 4) F.x F.b dX2_readWord_63 (by decide) ?_
        exact ih S6 x10 x11 _ _ _ h C (lv_sub hl [4, 1, 0] rfl)
      · have h := h.2 g9
        refine lv_aload_n F.x F.b dX2_readWord_40 rfl (lv_at hl 2 rfl) ?_
        refine lv_dup F.x F.b dX2_readWord_41 rfl ?_
        refine getQ F C 2 (by decide) q1_164 (v := .int (S6 6 0 2)) rfl dX2_readWord_42 ?_
        refine lv_iload F.x F.b dX2_readWord_45 (lv_at hl 0 rfl) ?_
        refine lv_iadd F.x F.b dX2_readWord_47 ?_
        refine putQ F C 2 (by decide) q1_164 rfl (tyX2_ok 2 (by decide)) rfl rfl rfl dX2_readWord_48 (fun H locs C => ?_)
        obtain ⟨S12, eS12⟩ : ∃ z : Mem, z = wr S6 6 0 2 ((S6 6 0 2) + r7) := ⟨_, rfl⟩
        rw [← eS12] at C
        have h := h S12 eS12
        refine lv_aload_n F.x F.b dX2_readWord_51 rfl (lv_at hl 1 rfl) ?_
        exact retW F hr C hw5 h dX2_readWord_52
set_option maxRecDepth 100000 in
set_option maxHeartbeats 4000000 in
theorem kX2_readWord {l : Launch} {D : va_G} {ky : Nat → ClassId} {ad : Nat → Nat} {ex : Nat → Nat → Nat} {pn : Mem → Prop} {pw : Nat → Mem → Prop} {S : Mem} (h : mX2_readWord pn pw S ) : CMw l D ky ad ex yX2_readWord cX2_readWord 5 (some (.object "FordToll$Word")) rmX2_readWord 0 0 [.ref (ad 113)] S pn pw := by
  refine CMw.of (by decide) (Nat.le_of_ble_eq_true rfl) (fun p e s m args below meth c ls F hr C hl => ?_)
  have hl : lv_has ls 5 [(0, .ref (ad 113))] := hl
  unfold mX2_readWord at h
  refine lv_iconst (v := 0) F.x F.b dX2_readWord_0 (by decide) ?_
  refine lv_istore_n (lv' := [(1, .int (0 : Int32)), (0, .ref (ad 113))]) F.x F.b dX2_readWord_1 rfl hl (by decide) rfl (fun ls hl => ?_)
  refine lv_iconst (v := 0) F.x F.b dX2_readWord_2 (by decide) ?_
  refine lv_istore_n (lv' := [(2, .int (0 : Int32)), (1, .int (0 : Int32)), (0, .ref (ad 113))]) F.x F.b dX2_readWord_3 rfl hl (by decide) rfl (fun ls hl => ?_)
  obtain ⟨n1, h⟩ := h
  exact bX2_readWord_4 F hr n1 S (0 : Int32) (0 : Int32) _ _ _ h C (lv_sub hl [2, 1, 0] rfl)

def mX2_readPart_b10 (mo : (Int32 → Mem → Prop) → Mem → Nat → Int32 → Prop) (post : Int32 → Mem → Prop) : Nat → Mem → Nat → Int32 → Int32 → Int32 → Prop
  | 0, _, _, _, _, _ => False
  | n + 1, S, j1, v2, v3, v4 => (((60 : Int32) ≤ v4 → (post v3 S)) ∧ (¬ (60 : Int32) ≤ v4 → (mX2_takes (fun (r3 : Int32) (S2 : Mem) => ((r3 = 0 → (post v3 S2)) ∧ (¬ r3 = 0 → (mo (fun (r6 : Int32) (S5 : Mem) => ∀ x7 : Int32, x7 = (v3 &&& r6) → ∀ x8 : Int32, x8 = v4 + (1 : Int32) → mX2_readPart_b10 mo post n S5 j1 v2 x7 x8) S2 j1 v2)))) S (43 : Int32))))
def mX2_readPart (mo : (Int32 → Mem → Prop) → Mem → Nat → Int32 → Prop) (post : Int32 → Mem → Prop) (S : Mem) (j1 : Nat) (v2 : Int32) : Prop := mo (fun (r2 : Int32) (S1 : Mem) => ∃ fu : Nat, mX2_readPart_b10 mo post fu S1 j1 v2 r2 (0 : Int32)) S j1 v2
set_option maxRecDepth 100000 in
set_option maxHeartbeats 4000000 in
theorem bX2_readPart_10 {p : Program} {l : Launch} {e : Env} {s : State} {m : MethodId} {args : Array Value} {below : List Frame} {meth : Method} {c : Code} {D : va_G} {ky : Nat → ClassId} {ad : Nat → Nat} {ex : Nat → Nat → Nat} (F : Fx p s m args meth c D ky ad ex cX2_readPart 5 yX2_readPart.cls) (hr : meth.sig.returnType = (some .int)) {d : Nat} {mo : (Int32 → Mem → Prop) → Mem → Nat → Int32 → Prop} (HO : ∀ (post : Int32 → Mem → Prop) (S : Mem) (j1 : Nat) (v2 : Int32), j1 < 10 → mo post S j1 v2 → CMi l D ky ad ex yX2_readOne cX2_readOne 6 (some .int) (rO2 d) 0 0 [.ref (ad 113), .ref (ad j1), .int v2] S post) {post : Int32 → Mem → Prop} : ∀ (n : Nat) (S : Mem) (j1 : Nat) (v2 : Int32) (v3 : Int32) (v4 : Int32) (H : Heap) (locs : List Loc) (ls : Array Slot), j1 < 10 → mX2_readPart_b10 mo post n S j1 v2 v3 v4 → Cx D ky ad s S H locs → lv_has ls 5 [(0, .ref (ad 113)), (1, .ref (ad j1)), (2, .int v2), (3, .int v3), (4, .int v4)] → W p l e (rP2 d) s m args below meth c H locs 0 0 (MQ below (va_Qi post (AFT D ky ad) (AW ad s.heap.size)) args s 0 0 (AW ad s.heap.size)) (F0 m 10 ls []) := by
  intro n
  induction n with
  | zero =>
    intro S j1 v2 v3 v4 H locs ls hj1 h
    exact False.elim h
  | succ n ih =>
    intro S j1 v2 v3 v4 H locs ls hj1 h C hl
    refine lv_iload F.x F.b dX2_readPart_10 (lv_at hl 4 rfl) ?_
    refine lv_bipush (v := 60) F.x F.b dX2_readPart_12 (by decide) ?_
    refine lv_icmp_ge (tgt := 41) F.x F.b dX2_readPart_14 (by decide) (fun g1 => ?_) (fun g1 => ?_)
    · have h := h.1 g1
      refine lv_iload_n F.x F.b dX2_readPart_41 rfl (lv_at hl 3 rfl) ?_
      exact retI F hr C h dX2_readPart_42
    · have h := h.2 g1
      refine lv_aload_n F.x F.b dX2_readPart_17 rfl (lv_at hl 0 rfl) ?_
      refine lv_bipush (v := 43) F.x F.b dX2_readPart_18 (by decide) ?_
      refine kI F C hl (kX2_takes  h) (by decide) (ce_Q _) rfl wv_X2_36 ⟨rfl, rfl, ⟨(by first | exact Nat.le_of_ble_eq_true rfl | (simp only [rO2, rP2, rQ2, rmX2_takes]; omega)), (by first | exact Nat.le_of_ble_eq_true rfl | (simp only [rO2, rP2, rQ2, rmX2_takes]; omega))⟩, ⟨Nat.le_of_ble_eq_true rfl, Nat.le_of_ble_eq_true rfl⟩, Nat.le_of_ble_eq_true rfl⟩ (rest := []) rfl dX2_readPart_20 (fun r3 S2 H locs h C => ?_)
      refine lv_if_eq (tgt := 41) F.x F.b dX2_readPart_23 (by decide) (fun g4 => ?_) (fun g4 => ?_)
      · have h := h.1 g4
        refine lv_iload_n F.x F.b dX2_readPart_41 rfl (lv_at hl 3 rfl) ?_
        exact retI F hr C h dX2_readPart_42
      · have h := h.2 g4
        refine lv_iload_n F.x F.b dX2_readPart_26 rfl (lv_at hl 3 rfl) ?_
        refine lv_aload_n F.x F.b dX2_readPart_27 rfl (lv_at hl 0 rfl) ?_
        refine lv_aload_n F.x F.b dX2_readPart_28 rfl (lv_at hl 1 rfl) ?_
        refine lv_iload_n F.x F.b dX2_readPart_29 rfl (lv_at hl 2 rfl) ?_
        refine kI F C hl (HO _ _ _ _ hj1 h) (by decide) (ce_Q _) rfl wv_X2_40 ⟨rfl, rfl, ⟨(by first | exact Nat.le_of_ble_eq_true rfl | (simp only [rO2, rP2, rQ2]; omega)), (by first | exact Nat.le_of_ble_eq_true rfl | (simp only [rO2, rP2, rQ2]; omega))⟩, ⟨Nat.le_of_ble_eq_true rfl, Nat.le_of_ble_eq_true rfl⟩, Nat.le_of_ble_eq_true rfl⟩ (rest := [.int v3]) rfl dX2_readPart_30 (fun r6 S5 H locs h C => ?_)
        refine lv_iand F.x F.b dX2_readPart_33 ?_
        refine lv_topi (fun x7 ex7 => ?_)
        have h := h x7 ex7
        refine lv_istore_n (lv' := [(3, .int x7), (0, .ref (ad 113)), (1, .ref (ad j1)), (2, .int v2), (4, .int v4)]) F.x F.b dX2_readPart_34 rfl hl (by decide) rfl (fun ls hl => ?_)
        obtain ⟨x8, ex8⟩ : ∃ z : Int32, z = v4 + (1 : Int32) := ⟨_, rfl⟩
        have h := h x8 ex8
        refine lv_iinc (v := x8) (lv' := [(4, .int x8), (3, .int x7), (0, .ref (ad 113)), (1, .ref (ad j1)), (2, .int v2)]) F.x F.b dX2_readPart_35 hl (k := 4) rfl (by rw [ex8]; rfl) (by decide) rfl (fun ls hl => ?_)
        refine lv_goto (tgt := 10) F.x F.b dX2_readPart_38 (by decide) ?_
        exact ih S5 j1 v2 x7 x8 _ _ _ hj1 h C (lv_sub hl [2, 3, 4, 1, 0] rfl)
set_option maxRecDepth 100000 in
set_option maxHeartbeats 4000000 in
theorem kX2_readPart {l : Launch} {D : va_G} {ky : Nat → ClassId} {ad : Nat → Nat} {ex : Nat → Nat → Nat} {post : Int32 → Mem → Prop} {S : Mem} {j1 : Nat} {v2 : Int32} {d : Nat} {mo : (Int32 → Mem → Prop) → Mem → Nat → Int32 → Prop} (HO : ∀ (post : Int32 → Mem → Prop) (S : Mem) (j1 : Nat) (v2 : Int32), j1 < 10 → mo post S j1 v2 → CMi l D ky ad ex yX2_readOne cX2_readOne 6 (some .int) (rO2 d) 0 0 [.ref (ad 113), .ref (ad j1), .int v2] S post) (hj1 : j1 < 10) (h : mX2_readPart mo post S j1 v2) : CMi l D ky ad ex yX2_readPart cX2_readPart 5 (some .int) (rP2 d) 0 0 [.ref (ad 113), .ref (ad j1), .int v2] S post := by
  refine CMi.of (by decide) (Nat.le_of_ble_eq_true rfl) (fun p e s m args below meth c ls F hr C hl => ?_)
  have hl : lv_has ls 5 [(0, .ref (ad 113)), (1, .ref (ad j1)), (2, .int v2)] := hl
  unfold mX2_readPart at h
  refine lv_aload_n F.x F.b dX2_readPart_0 rfl (lv_at hl 0 rfl) ?_
  refine lv_aload_n F.x F.b dX2_readPart_1 rfl (lv_at hl 1 rfl) ?_
  refine lv_iload_n F.x F.b dX2_readPart_2 rfl (lv_at hl 2 rfl) ?_
  refine kI F C hl (HO _ _ _ _ hj1 h) (by decide) (ce_Q _) rfl wv_X2_40 ⟨rfl, rfl, ⟨(by first | exact Nat.le_of_ble_eq_true rfl | (simp only [rO2, rP2, rQ2]; omega)), (by first | exact Nat.le_of_ble_eq_true rfl | (simp only [rO2, rP2, rQ2]; omega))⟩, ⟨Nat.le_of_ble_eq_true rfl, Nat.le_of_ble_eq_true rfl⟩, Nat.le_of_ble_eq_true rfl⟩ (rest := []) rfl dX2_readPart_3 (fun r2 S1 H locs h C => ?_)
  refine lv_istore_n (lv' := [(3, .int r2), (0, .ref (ad 113)), (1, .ref (ad j1)), (2, .int v2)]) F.x F.b dX2_readPart_6 rfl hl (by decide) rfl (fun ls hl => ?_)
  refine lv_iconst (v := 0) F.x F.b dX2_readPart_7 (by decide) ?_
  refine lv_istore (lv' := [(4, .int (0 : Int32)), (3, .int r2), (0, .ref (ad 113)), (1, .ref (ad j1)), (2, .int v2)]) F.x F.b dX2_readPart_8 hl (by decide) rfl (fun ls hl => ?_)
  obtain ⟨n3, h⟩ := h
  exact bX2_readPart_10 F hr HO n3 S1 j1 v2 r2 (0 : Int32) _ _ _ hj1 h C (lv_sub hl [2, 3, 4, 1, 0] rfl)

def mX2_readQuestion_b10 (mo : (Int32 → Mem → Prop) → Mem → Nat → Int32 → Prop) (post : Int32 → Mem → Prop) : Nat → Mem → Nat → Int32 → Int32 → Int32 → Prop
  | 0, _, _, _, _, _ => False
  | n + 1, S, j1, v2, v3, v4 => (((60 : Int32) ≤ v4 → (post v3 S)) ∧ (¬ (60 : Int32) ≤ v4 → (mX2_takes (fun (r3 : Int32) (S2 : Mem) => ((r3 = 0 → (post v3 S2)) ∧ (¬ r3 = 0 → (mX2_readPart mo (fun (r6 : Int32) (S5 : Mem) => ∀ x7 : Int32, x7 = (v3 ||| r6) → ∀ x8 : Int32, x8 = v4 + (1 : Int32) → mX2_readQuestion_b10 mo post n S5 j1 v2 x7 x8) S2 j1 v2)))) S (47 : Int32))))
def mX2_readQuestion (mo : (Int32 → Mem → Prop) → Mem → Nat → Int32 → Prop) (post : Int32 → Mem → Prop) (S : Mem) (j1 : Nat) (v2 : Int32) : Prop := mX2_readPart mo (fun (r2 : Int32) (S1 : Mem) => ∃ fu : Nat, mX2_readQuestion_b10 mo post fu S1 j1 v2 r2 (0 : Int32)) S j1 v2
set_option maxRecDepth 100000 in
set_option maxHeartbeats 4000000 in
theorem bX2_readQuestion_10 {p : Program} {l : Launch} {e : Env} {s : State} {m : MethodId} {args : Array Value} {below : List Frame} {meth : Method} {c : Code} {D : va_G} {ky : Nat → ClassId} {ad : Nat → Nat} {ex : Nat → Nat → Nat} (F : Fx p s m args meth c D ky ad ex cX2_readQuestion 5 yX2_readQuestion.cls) (hr : meth.sig.returnType = (some .int)) {d : Nat} {mo : (Int32 → Mem → Prop) → Mem → Nat → Int32 → Prop} (HO : ∀ (post : Int32 → Mem → Prop) (S : Mem) (j1 : Nat) (v2 : Int32), j1 < 10 → mo post S j1 v2 → CMi l D ky ad ex yX2_readOne cX2_readOne 6 (some .int) (rO2 d) 0 0 [.ref (ad 113), .ref (ad j1), .int v2] S post) {post : Int32 → Mem → Prop} : ∀ (n : Nat) (S : Mem) (j1 : Nat) (v2 : Int32) (v3 : Int32) (v4 : Int32) (H : Heap) (locs : List Loc) (ls : Array Slot), j1 < 10 → mX2_readQuestion_b10 mo post n S j1 v2 v3 v4 → Cx D ky ad s S H locs → lv_has ls 5 [(0, .ref (ad 113)), (1, .ref (ad j1)), (2, .int v2), (3, .int v3), (4, .int v4)] → W p l e (rQ2 d) s m args below meth c H locs 0 0 (MQ below (va_Qi post (AFT D ky ad) (AW ad s.heap.size)) args s 0 0 (AW ad s.heap.size)) (F0 m 10 ls []) := by
  intro n
  induction n with
  | zero =>
    intro S j1 v2 v3 v4 H locs ls hj1 h
    exact False.elim h
  | succ n ih =>
    intro S j1 v2 v3 v4 H locs ls hj1 h C hl
    refine lv_iload F.x F.b dX2_readQuestion_10 (lv_at hl 4 rfl) ?_
    refine lv_bipush (v := 60) F.x F.b dX2_readQuestion_12 (by decide) ?_
    refine lv_icmp_ge (tgt := 41) F.x F.b dX2_readQuestion_14 (by decide) (fun g1 => ?_) (fun g1 => ?_)
    · have h := h.1 g1
      refine lv_iload_n F.x F.b dX2_readQuestion_41 rfl (lv_at hl 3 rfl) ?_
      exact retI F hr C h dX2_readQuestion_42
    · have h := h.2 g1
      refine lv_aload_n F.x F.b dX2_readQuestion_17 rfl (lv_at hl 0 rfl) ?_
      refine lv_bipush (v := 47) F.x F.b dX2_readQuestion_18 (by decide) ?_
      refine kI F C hl (kX2_takes  h) (by decide) (ce_Q _) rfl wv_X2_36 ⟨rfl, rfl, ⟨(by first | exact Nat.le_of_ble_eq_true rfl | (simp only [rO2, rP2, rQ2, rmX2_takes]; omega)), (by first | exact Nat.le_of_ble_eq_true rfl | (simp only [rO2, rP2, rQ2, rmX2_takes]; omega))⟩, ⟨Nat.le_of_ble_eq_true rfl, Nat.le_of_ble_eq_true rfl⟩, Nat.le_of_ble_eq_true rfl⟩ (rest := []) rfl dX2_readQuestion_20 (fun r3 S2 H locs h C => ?_)
      refine lv_if_eq (tgt := 41) F.x F.b dX2_readQuestion_23 (by decide) (fun g4 => ?_) (fun g4 => ?_)
      · have h := h.1 g4
        refine lv_iload_n F.x F.b dX2_readQuestion_41 rfl (lv_at hl 3 rfl) ?_
        exact retI F hr C h dX2_readQuestion_42
      · have h := h.2 g4
        refine lv_iload_n F.x F.b dX2_readQuestion_26 rfl (lv_at hl 3 rfl) ?_
        refine lv_aload_n F.x F.b dX2_readQuestion_27 rfl (lv_at hl 0 rfl) ?_
        refine lv_aload_n F.x F.b dX2_readQuestion_28 rfl (lv_at hl 1 rfl) ?_
        refine lv_iload_n F.x F.b dX2_readQuestion_29 rfl (lv_at hl 2 rfl) ?_
        refine kI F C hl (kX2_readPart HO hj1 h) (by decide) (ce_Q _) rfl wv_X2_33 ⟨rfl, rfl, ⟨(by first | exact Nat.le_of_ble_eq_true rfl | (simp only [rO2, rP2, rQ2]; omega)), (by first | exact Nat.le_of_ble_eq_true rfl | (simp only [rO2, rP2, rQ2]; omega))⟩, ⟨Nat.le_of_ble_eq_true rfl, Nat.le_of_ble_eq_true rfl⟩, Nat.le_of_ble_eq_true rfl⟩ (rest := [.int v3]) rfl dX2_readQuestion_30 (fun r6 S5 H locs h C => ?_)
        refine lv_ior F.x F.b dX2_readQuestion_33 ?_
        refine lv_topi (fun x7 ex7 => ?_)
        have h := h x7 ex7
        refine lv_istore_n (lv' := [(3, .int x7), (0, .ref (ad 113)), (1, .ref (ad j1)), (2, .int v2), (4, .int v4)]) F.x F.b dX2_readQuestion_34 rfl hl (by decide) rfl (fun ls hl => ?_)
        obtain ⟨x8, ex8⟩ : ∃ z : Int32, z = v4 + (1 : Int32) := ⟨_, rfl⟩
        have h := h x8 ex8
        refine lv_iinc (v := x8) (lv' := [(4, .int x8), (3, .int x7), (0, .ref (ad 113)), (1, .ref (ad j1)), (2, .int v2)]) F.x F.b dX2_readQuestion_35 hl (k := 4) rfl (by rw [ex8]; rfl) (by decide) rfl (fun ls hl => ?_)
        refine lv_goto (tgt := 10) F.x F.b dX2_readQuestion_38 (by decide) ?_
        exact ih S5 j1 v2 x7 x8 _ _ _ hj1 h C (lv_sub hl [2, 3, 4, 1, 0] rfl)
set_option maxRecDepth 100000 in
set_option maxHeartbeats 4000000 in
theorem kX2_readQuestion {l : Launch} {D : va_G} {ky : Nat → ClassId} {ad : Nat → Nat} {ex : Nat → Nat → Nat} {post : Int32 → Mem → Prop} {S : Mem} {j1 : Nat} {v2 : Int32} {d : Nat} {mo : (Int32 → Mem → Prop) → Mem → Nat → Int32 → Prop} (HO : ∀ (post : Int32 → Mem → Prop) (S : Mem) (j1 : Nat) (v2 : Int32), j1 < 10 → mo post S j1 v2 → CMi l D ky ad ex yX2_readOne cX2_readOne 6 (some .int) (rO2 d) 0 0 [.ref (ad 113), .ref (ad j1), .int v2] S post) (hj1 : j1 < 10) (h : mX2_readQuestion mo post S j1 v2) : CMi l D ky ad ex yX2_readQuestion cX2_readQuestion 5 (some .int) (rQ2 d) 0 0 [.ref (ad 113), .ref (ad j1), .int v2] S post := by
  refine CMi.of (by decide) (Nat.le_of_ble_eq_true rfl) (fun p e s m args below meth c ls F hr C hl => ?_)
  have hl : lv_has ls 5 [(0, .ref (ad 113)), (1, .ref (ad j1)), (2, .int v2)] := hl
  unfold mX2_readQuestion at h
  refine lv_aload_n F.x F.b dX2_readQuestion_0 rfl (lv_at hl 0 rfl) ?_
  refine lv_aload_n F.x F.b dX2_readQuestion_1 rfl (lv_at hl 1 rfl) ?_
  refine lv_iload_n F.x F.b dX2_readQuestion_2 rfl (lv_at hl 2 rfl) ?_
  refine kI F C hl (kX2_readPart HO hj1 h) (by decide) (ce_Q _) rfl wv_X2_33 ⟨rfl, rfl, ⟨(by first | exact Nat.le_of_ble_eq_true rfl | (simp only [rO2, rP2, rQ2]; omega)), (by first | exact Nat.le_of_ble_eq_true rfl | (simp only [rO2, rP2, rQ2]; omega))⟩, ⟨Nat.le_of_ble_eq_true rfl, Nat.le_of_ble_eq_true rfl⟩, Nat.le_of_ble_eq_true rfl⟩ (rest := []) rfl dX2_readQuestion_3 (fun r2 S1 H locs h C => ?_)
  refine lv_istore_n (lv' := [(3, .int r2), (0, .ref (ad 113)), (1, .ref (ad j1)), (2, .int v2)]) F.x F.b dX2_readQuestion_6 rfl hl (by decide) rfl (fun ls hl => ?_)
  refine lv_iconst (v := 0) F.x F.b dX2_readQuestion_7 (by decide) ?_
  refine lv_istore (lv' := [(4, .int (0 : Int32)), (3, .int r2), (0, .ref (ad 113)), (1, .ref (ad j1)), (2, .int v2)]) F.x F.b dX2_readQuestion_8 hl (by decide) rfl (fun ls hl => ?_)
  obtain ⟨n3, h⟩ := h
  exact bX2_readQuestion_10 F hr HO n3 S1 j1 v2 r2 (0 : Int32) _ _ _ hj1 h C (lv_sub hl [2, 3, 4, 1, 0] rfl)

def mX2_readOne_b33 (mo : (Int32 → Mem → Prop) → Mem → Nat → Int32 → Prop) (post : Int32 → Mem → Prop) (S : Mem) (j1 : Nat) (v2 : Int32) : Prop := mX2_takes (fun (r2 : Int32) (S1 : Mem) => ((r2 = 0 → (mX2_takes (fun (r5 : Int32) (S4 : Mem) => ((r5 = 0 → (mX2_readWord (fun (S7 : Mem) => post (0 : Int32) S7) (fun (w9 : Nat) (S7 : Mem) => (((nuW.getD w9 0) = (-1 : Int32) → (mX2_readSign (fun (r12 : Int32) (S11 : Mem) => mX2_readNumber (fun (r14 : Int32) (S13 : Mem) => mX2_thoseWith (fun (r16 : Int32) (S15 : Mem) => post r16 S15) S13 j1 (whW.getD w9 0) r12 r14) S11 ) S7 )) ∧ (¬ (nuW.getD w9 0) = (-1 : Int32) → (mX2_thoseWith (fun (r18 : Int32) (S17 : Mem) => post r18 S17) S7 j1 (whW.getD w9 0) (61 : Int32) (nuW.getD w9 0))))) S4 )) ∧ (¬ r5 = 0 → (mX2_readQuestion mo (fun (r20 : Int32) (S19 : Mem) => mX2_takes (fun (r22 : Int32) (S21 : Mem) => ((¬ r22 = 0 → (post r20 S21)) ∧ (r22 = 0 → (mX2_fail (fun (S24 : Mem) => post r20 S24) S21 (S21 6 0 2))))) S19 (93 : Int32)) S4 j1 ((v2 + (1 : Int32))))))) S1 (91 : Int32))) ∧ (¬ r2 = 0 → (mX2_everyone (fun (r27 : Int32) (S26 : Mem) => mo (fun (r29 : Int32) (S28 : Mem) => post ((r27 &&& (r29 ^^^ (-1 : Int32)))) S28) S26 j1 ((v2 + (1 : Int32)))) S1 j1)))) S (45 : Int32)
def mX2_readOne : Nat → (Int32 → Mem → Prop) → Mem → Nat → Int32 → Prop
  | 0, _, _, _, _ => False
  | d + 1, post, S, j1, v2 => ((v2 < (4 : Int32) → (mX2_readOne_b33 (mX2_readOne d) post S j1 v2)) ∧ (¬ v2 < (4 : Int32) → (mX2_isNext (fun (r3 : Int32) (S2 : Mem) => ((¬ r3 = 0 → (mX2_fail (fun (S5 : Mem) => post (0 : Int32) S5) S2 (S2 6 0 2))) ∧ (r3 = 0 → (mX2_isNext (fun (r8 : Int32) (S7 : Mem) => ((r8 = 0 → (mX2_readOne_b33 (mX2_readOne d) post S7 j1 v2)) ∧ (¬ r8 = 0 → (mX2_fail (fun (S10 : Mem) => post (0 : Int32) S10) S7 (S7 6 0 2))))) S2 (91 : Int32))))) S (45 : Int32))))
set_option maxRecDepth 100000 in
set_option maxHeartbeats 4000000 in
theorem bX2_readOne_33 {p : Program} {l : Launch} {e : Env} {s : State} {m : MethodId} {args : Array Value} {below : List Frame} {meth : Method} {c : Code} {D : va_G} {ky : Nat → ClassId} {ad : Nat → Nat} {ex : Nat → Nat → Nat} (F : Fx p s m args meth c D ky ad ex cX2_readOne 6 yX2_readOne.cls) (hr : meth.sig.returnType = (some .int)) {d : Nat} {mo : (Int32 → Mem → Prop) → Mem → Nat → Int32 → Prop} (HO : ∀ (post : Int32 → Mem → Prop) (S : Mem) (j1 : Nat) (v2 : Int32), j1 < 10 → mo post S j1 v2 → CMi l D ky ad ex yX2_readOne cX2_readOne 6 (some .int) (rO2 d) 0 0 [.ref (ad 113), .ref (ad j1), .int v2] S post) {post : Int32 → Mem → Prop} : ∀ (S : Mem) (j1 : Nat) (v2 : Int32) (H : Heap) (locs : List Loc) (ls : Array Slot), j1 < 10 → mX2_readOne_b33 mo post S j1 v2 → Cx D ky ad s S H locs → lv_has ls 6 [(0, .ref (ad 113)), (1, .ref (ad j1)), (2, .int v2)] → W p l e (rO2 (d + 1)) s m args below meth c H locs 0 0 (MQ below (va_Qi post (AFT D ky ad) (AW ad s.heap.size)) args s 0 0 (AW ad s.heap.size)) (F0 m 33 ls []) := by
  intro S j1 v2 H locs ls hj1 h C hl
  unfold mX2_readOne_b33 at h
  refine lv_aload_n F.x F.b dX2_readOne_33 rfl (lv_at hl 0 rfl) ?_
  refine lv_bipush (v := 45) F.x F.b dX2_readOne_34 (by decide) ?_
  refine kI F C hl (kX2_takes  h) (by decide) (ce_Q _) rfl wv_X2_36 ⟨rfl, rfl, ⟨(by first | exact Nat.le_of_ble_eq_true rfl | (simp only [rO2, rP2, rQ2, rmX2_takes]; omega)), (by first | exact Nat.le_of_ble_eq_true rfl | (simp only [rO2, rP2, rQ2, rmX2_takes]; omega))⟩, ⟨Nat.le_of_ble_eq_true rfl, Nat.le_of_ble_eq_true rfl⟩, Nat.le_of_ble_eq_true rfl⟩ (rest := []) rfl dX2_readOne_36 (fun r2 S1 H locs h C => ?_)
  refine lv_if_eq (tgt := 58) F.x F.b dX2_readOne_39 (by decide) (fun g3 => ?_) (fun g3 => ?_)
  · have h := h.1 g3
    refine lv_aload_n F.x F.b dX2_readOne_58 rfl (lv_at hl 0 rfl) ?_
    refine lv_bipush (v := 91) F.x F.b dX2_readOne_59 (by decide) ?_
    refine kI F C hl (kX2_takes  h) (by decide) (ce_Q _) rfl wv_X2_36 ⟨rfl, rfl, ⟨(by first | exact Nat.le_of_ble_eq_true rfl | (simp only [rO2, rP2, rQ2, rmX2_takes]; omega)), (by first | exact Nat.le_of_ble_eq_true rfl | (simp only [rO2, rP2, rQ2, rmX2_takes]; omega))⟩, ⟨Nat.le_of_ble_eq_true rfl, Nat.le_of_ble_eq_true rfl⟩, Nat.le_of_ble_eq_true rfl⟩ (rest := []) rfl dX2_readOne_61 (fun r5 S4 H locs h C => ?_)
    refine lv_if_eq (tgt := 95) F.x F.b dX2_readOne_64 (by decide) (fun g6 => ?_) (fun g6 => ?_)
    · have h := h.1 g6
      refine lv_aload_n F.x F.b dX2_readOne_95 rfl (lv_at hl 0 rfl) ?_
      refine kW F C hl (kX2_readWord  h) (by decide) (ce_Q _) rfl wv_X2_50 ⟨rfl, rfl, ⟨(by first | exact Nat.le_of_ble_eq_true rfl | (simp only [rO2, rP2, rQ2, rmX2_readWord]; omega)), (by first | exact Nat.le_of_ble_eq_true rfl | (simp only [rO2, rP2, rQ2, rmX2_readWord]; omega))⟩, ⟨Nat.le_of_ble_eq_true rfl, Nat.le_of_ble_eq_true rfl⟩, Nat.le_of_ble_eq_true rfl⟩ (rest := []) rfl dX2_readOne_96 (fun S7 H locs h C => ?_) (fun w9 S7 H locs hw9 h C => ?_)
      · refine lv_astore_nN (lv' := [(3, .null), (0, .ref (ad 113)), (1, .ref (ad j1)), (2, .int v2)]) F.x F.b dX2_readOne_99 rfl hl (by decide) rfl (fun ls hl => ?_)
        refine lv_aload_nN F.x F.b dX2_readOne_100 rfl (lv_at hl 0 rfl) ?_
        refine lv_ifnonnullN F.x F.b dX2_readOne_101 ?_
        refine lv_iconst (v := 0) F.x F.b dX2_readOne_104 (by decide) ?_
        exact retI F hr C h dX2_readOne_105
      · refine lv_astore_n (lv' := [(3, .ref (ex 2 w9)), (0, .ref (ad 113)), (1, .ref (ad j1)), (2, .int v2)]) F.x F.b dX2_readOne_99 rfl hl (by decide) rfl (fun ls hl => ?_)
        refine lv_aload_n F.x F.b dX2_readOne_100 rfl (lv_at hl 0 rfl) ?_
        refine lv_ifnonnull (tgt := 106) F.x F.b dX2_readOne_101 (by decide) ?_
        refine lv_aload_n F.x F.b dX2_readOne_106 rfl (lv_at hl 0 rfl) ?_
        refine wdN F (F.wd hw9).2.2.2 C.2 q5_54 (fun _ h9 => h9) dX2_readOne_107 ?_
        refine lv_iconst (v := -1) F.x F.b dX2_readOne_110 (by decide) ?_
        refine lv_icmp_eq (tgt := 129) F.x F.b dX2_readOne_111 (by decide) (fun g10 => ?_) (fun g10 => ?_)
        · have h := h.1 g10
          refine lv_aload_n F.x F.b dX2_readOne_129 rfl (lv_at hl 1 rfl) ?_
          refine kI F C hl (kX2_readSign  h) (by decide) (ce_Q _) rfl wv_X2_66 ⟨rfl, rfl, ⟨(by first | exact Nat.le_of_ble_eq_true rfl | (simp only [rO2, rP2, rQ2, rmX2_readSign]; omega)), (by first | exact Nat.le_of_ble_eq_true rfl | (simp only [rO2, rP2, rQ2, rmX2_readSign]; omega))⟩, ⟨Nat.le_of_ble_eq_true rfl, Nat.le_of_ble_eq_true rfl⟩, Nat.le_of_ble_eq_true rfl⟩ (rest := []) rfl dX2_readOne_130 (fun r12 S11 H locs h C => ?_)
          refine lv_istore (lv' := [(4, .int r12), (3, .ref (ex 2 w9)), (0, .ref (ad 113)), (1, .ref (ad j1)), (2, .int v2)]) F.x F.b dX2_readOne_133 hl (by decide) rfl (fun ls hl => ?_)
          refine lv_aload_n F.x F.b dX2_readOne_135 rfl (lv_at hl 2 rfl) ?_
          refine kI F C hl (kX2_readNumber  h) (by decide) (ce_Q _) rfl wv_X2_70 ⟨rfl, rfl, ⟨(by first | exact Nat.le_of_ble_eq_true rfl | (simp only [rO2, rP2, rQ2, rmX2_readNumber]; omega)), (by first | exact Nat.le_of_ble_eq_true rfl | (simp only [rO2, rP2, rQ2, rmX2_readNumber]; omega))⟩, ⟨Nat.le_of_ble_eq_true rfl, Nat.le_of_ble_eq_true rfl⟩, Nat.le_of_ble_eq_true rfl⟩ (rest := []) rfl dX2_readOne_136 (fun r14 S13 H locs h C => ?_)
          refine lv_istore (lv' := [(5, .int r14), (4, .int r12), (3, .ref (ex 2 w9)), (0, .ref (ad 113)), (1, .ref (ad j1)), (2, .int v2)]) F.x F.b dX2_readOne_139 hl (by decide) rfl (fun ls hl => ?_)
          refine lv_aload_n F.x F.b dX2_readOne_141 rfl (lv_at hl 4 rfl) ?_
          refine lv_aload_n F.x F.b dX2_readOne_142 rfl (lv_at hl 2 rfl) ?_
          refine wdN F (F.wd hw9).2.2.1 C.2 q5_55 (fun _ h9 => h9) dX2_readOne_143 ?_
          refine lv_iload F.x F.b dX2_readOne_146 (lv_at hl 1 rfl) ?_
          refine lv_iload F.x F.b dX2_readOne_148 (lv_at hl 0 rfl) ?_
          refine kSI F C hl (kX2_thoseWith  hj1 h) wv_X2_62 ⟨rfl, rfl, ⟨(by first | exact Nat.le_of_ble_eq_true rfl | (simp only [rO2, rP2, rQ2, rmX2_thoseWith]; omega)), (by first | exact Nat.le_of_ble_eq_true rfl | (simp only [rO2, rP2, rQ2, rmX2_thoseWith]; omega))⟩, ⟨Nat.le_of_ble_eq_true rfl, Nat.le_of_ble_eq_true rfl⟩, Nat.le_of_ble_eq_true rfl⟩ (rest := []) rfl dX2_readOne_150 (fun r16 S15 H locs h C => ?_)
          exact retI F hr C h dX2_readOne_153
        · have h := h.2 g10
          refine lv_aload_n F.x F.b dX2_readOne_114 rfl (lv_at hl 2 rfl) ?_
          refine lv_aload_n F.x F.b dX2_readOne_115 rfl (lv_at hl 0 rfl) ?_
          refine wdN F (F.wd hw9).2.2.1 C.2 q5_55 (fun _ h9 => h9) dX2_readOne_116 ?_
          refine lv_bipush (v := 61) F.x F.b dX2_readOne_119 (by decide) ?_
          refine lv_aload_n F.x F.b dX2_readOne_121 rfl (lv_at hl 0 rfl) ?_
          refine wdN F (F.wd hw9).2.2.2 C.2 q5_54 (fun _ h9 => h9) dX2_readOne_122 ?_
          refine kSI F C hl (kX2_thoseWith  hj1 h) wv_X2_62 ⟨rfl, rfl, ⟨(by first | exact Nat.le_of_ble_eq_true rfl | (simp only [rO2, rP2, rQ2, rmX2_thoseWith]; omega)), (by first | exact Nat.le_of_ble_eq_true rfl | (simp only [rO2, rP2, rQ2, rmX2_thoseWith]; omega))⟩, ⟨Nat.le_of_ble_eq_true rfl, Nat.le_of_ble_eq_true rfl⟩, Nat.le_of_ble_eq_true rfl⟩ (rest := []) rfl dX2_readOne_125 (fun r18 S17 H locs h C => ?_)
          exact retI F hr C h dX2_readOne_128
    · have h := h.2 g6
      refine lv_aload_n F.x F.b dX2_readOne_67 rfl (lv_at hl 0 rfl) ?_
      refine lv_aload_n F.x F.b dX2_readOne_68 rfl (lv_at hl 1 rfl) ?_
      refine lv_iload_n F.x F.b dX2_readOne_69 rfl (lv_at hl 2 rfl) ?_
      refine lv_iconst (v := 1) F.x F.b dX2_readOne_70 (by decide) ?_
      refine lv_iadd F.x F.b dX2_readOne_71 ?_
      refine kI F C hl (kX2_readQuestion HO hj1 h) (by decide) (ce_Q _) rfl wv_X2_25 ⟨rfl, rfl, ⟨(by first | exact Nat.le_of_ble_eq_true rfl | (simp only [rO2, rP2, rQ2]; omega)), (by first | exact Nat.le_of_ble_eq_true rfl | (simp only [rO2, rP2, rQ2]; omega))⟩, ⟨Nat.le_of_ble_eq_true rfl, Nat.le_of_ble_eq_true rfl⟩, Nat.le_of_ble_eq_true rfl⟩ (rest := []) rfl dX2_readOne_72 (fun r20 S19 H locs h C => ?_)
      refine lv_istore_n (lv' := [(3, .int r20), (0, .ref (ad 113)), (1, .ref (ad j1)), (2, .int v2)]) F.x F.b dX2_readOne_75 rfl hl (by decide) rfl (fun ls hl => ?_)
      refine lv_aload_n F.x F.b dX2_readOne_76 rfl (lv_at hl 1 rfl) ?_
      refine lv_bipush (v := 93) F.x F.b dX2_readOne_77 (by decide) ?_
      refine kI F C hl (kX2_takes  h) (by decide) (ce_Q _) rfl wv_X2_36 ⟨rfl, rfl, ⟨(by first | exact Nat.le_of_ble_eq_true rfl | (simp only [rO2, rP2, rQ2, rmX2_takes]; omega)), (by first | exact Nat.le_of_ble_eq_true rfl | (simp only [rO2, rP2, rQ2, rmX2_takes]; omega))⟩, ⟨Nat.le_of_ble_eq_true rfl, Nat.le_of_ble_eq_true rfl⟩, Nat.le_of_ble_eq_true rfl⟩ (rest := []) rfl dX2_readOne_79 (fun r22 S21 H locs h C => ?_)
      refine lv_if_ne (tgt := 93) F.x F.b dX2_readOne_82 (by decide) (fun g23 => ?_) (fun g23 => ?_)
      · have h := h.1 g23
        refine lv_iload_n F.x F.b dX2_readOne_93 rfl (lv_at hl 0 rfl) ?_
        exact retI F hr C h dX2_readOne_94
      · have h := h.2 g23
        refine lv_aload_n F.x F.b dX2_readOne_85 rfl (lv_at hl 1 rfl) ?_
        refine lv_aload_n F.x F.b dX2_readOne_86 rfl (lv_at hl 1 rfl) ?_
        refine getQ F C 2 (by decide) q1_164 (v := .int (S21 6 0 2)) rfl dX2_readOne_87 ?_
        refine kV F C hl (kX2_fail  h) (by decide) (ce_Q _) rfl wv_X2_29 ⟨rfl, rfl, ⟨(by first | exact Nat.le_of_ble_eq_true rfl | (simp only [rO2, rP2, rQ2, rmX2_fail]; omega)), (by first | exact Nat.le_of_ble_eq_true rfl | (simp only [rO2, rP2, rQ2, rmX2_fail]; omega))⟩, ⟨Nat.le_of_ble_eq_true rfl, Nat.le_of_ble_eq_true rfl⟩, Nat.le_of_ble_eq_true rfl⟩ (rest := []) rfl dX2_readOne_90 (fun S24 H locs h C => ?_)
        refine lv_iload_n F.x F.b dX2_readOne_93 rfl (lv_at hl 0 rfl) ?_
        exact retI F hr C h dX2_readOne_94
  · have h := h.2 g3
    refine lv_aload_n F.x F.b dX2_readOne_42 rfl (lv_at hl 1 rfl) ?_
    refine kSI F C hl (kX2_everyone  hj1 h) wv_X2_46 ⟨rfl, rfl, ⟨(by first | exact Nat.le_of_ble_eq_true rfl | (simp only [rO2, rP2, rQ2, rmX2_everyone]; omega)), (by first | exact Nat.le_of_ble_eq_true rfl | (simp only [rO2, rP2, rQ2, rmX2_everyone]; omega))⟩, ⟨Nat.le_of_ble_eq_true rfl, Nat.le_of_ble_eq_true rfl⟩, Nat.le_of_ble_eq_true rfl⟩ (rest := []) rfl dX2_readOne_43 (fun r27 S26 H locs h C => ?_)
    refine lv_aload_n F.x F.b dX2_readOne_46 rfl (lv_at hl 0 rfl) ?_
    refine lv_aload_n F.x F.b dX2_readOne_47 rfl (lv_at hl 1 rfl) ?_
    refine lv_iload_n F.x F.b dX2_readOne_48 rfl (lv_at hl 2 rfl) ?_
    refine lv_iconst (v := 1) F.x F.b dX2_readOne_49 (by decide) ?_
    refine lv_iadd F.x F.b dX2_readOne_50 ?_
    refine kI F C hl (HO _ _ _ _ hj1 h) (by decide) (ce_Q _) rfl wv_X2_40 ⟨rfl, rfl, ⟨(by first | exact Nat.le_of_ble_eq_true rfl | (simp only [rO2, rP2, rQ2]; omega)), (by first | exact Nat.le_of_ble_eq_true rfl | (simp only [rO2, rP2, rQ2]; omega))⟩, ⟨Nat.le_of_ble_eq_true rfl, Nat.le_of_ble_eq_true rfl⟩, Nat.le_of_ble_eq_true rfl⟩ (rest := [.int r27]) rfl dX2_readOne_51 (fun r29 S28 H locs h C => ?_)
    refine lv_iconst (v := -1) F.x F.b dX2_readOne_54 (by decide) ?_
    refine lv_ixor F.x F.b dX2_readOne_55 ?_
    refine lv_iand F.x F.b dX2_readOne_56 ?_
    exact retI F hr C h dX2_readOne_57
set_option maxRecDepth 100000 in
set_option maxHeartbeats 4000000 in
theorem kX2_readOne {l : Launch} {D : va_G} {ky : Nat → ClassId} {ad : Nat → Nat} {ex : Nat → Nat → Nat} : ∀ (d : Nat) (post : Int32 → Mem → Prop) (S : Mem) (j1 : Nat) (v2 : Int32), j1 < 10 → mX2_readOne d post S j1 v2 → CMi l D ky ad ex yX2_readOne cX2_readOne 6 (some .int) (rO2 d) 0 0 [.ref (ad 113), .ref (ad j1), .int v2] S post := by
  intro d
  induction d with
  | zero =>
    intro post S j1 v2 hj1 h
    exact False.elim h
  | succ d HO =>
    intro post S j1 v2 hj1 h
    refine CMi.of (by decide) (Nat.le_of_ble_eq_true rfl) (fun p e s m args below meth c ls F hr C hl => ?_)
    have hl : lv_has ls 6 [(0, .ref (ad 113)), (1, .ref (ad j1)), (2, .int v2)] := hl
    refine lv_iload_n F.x F.b dX2_readOne_0 rfl (lv_at hl 2 rfl) ?_
    refine lv_iconst (v := 4) F.x F.b dX2_readOne_1 (by decide) ?_
    refine lv_icmp_lt (tgt := 33) F.x F.b dX2_readOne_2 (by decide) (fun g1 => ?_) (fun g1 => ?_)
    · have h := h.1 g1
      exact bX2_readOne_33 F hr HO S j1 v2 _ _ _ hj1 h C (lv_sub hl [0, 1, 2] rfl)
    · have h := h.2 g1
      refine lv_aload_n F.x F.b dX2_readOne_5 rfl (lv_at hl 0 rfl) ?_
      refine lv_bipush (v := 45) F.x F.b dX2_readOne_6 (by decide) ?_
      refine kI F C hl (kX2_isNext  h) (by decide) (ce_Q _) rfl wv_X2_43 ⟨rfl, rfl, ⟨(by first | exact Nat.le_of_ble_eq_true rfl | (simp only [rO2, rP2, rQ2, rmX2_isNext]; omega)), (by first | exact Nat.le_of_ble_eq_true rfl | (simp only [rO2, rP2, rQ2, rmX2_isNext]; omega))⟩, ⟨Nat.le_of_ble_eq_true rfl, Nat.le_of_ble_eq_true rfl⟩, Nat.le_of_ble_eq_true rfl⟩ (rest := []) rfl dX2_readOne_8 (fun r3 S2 H locs h C => ?_)
      refine lv_if_ne (tgt := 23) F.x F.b dX2_readOne_11 (by decide) (fun g4 => ?_) (fun g4 => ?_)
      · have h := h.1 g4
        refine lv_aload_n F.x F.b dX2_readOne_23 rfl (lv_at hl 0 rfl) ?_
        refine lv_aload_n F.x F.b dX2_readOne_24 rfl (lv_at hl 0 rfl) ?_
        refine getQ F C 2 (by decide) q1_164 (v := .int (S2 6 0 2)) rfl dX2_readOne_25 ?_
        refine kV F C hl (kX2_fail  h) (by decide) (ce_Q _) rfl wv_X2_29 ⟨rfl, rfl, ⟨(by first | exact Nat.le_of_ble_eq_true rfl | (simp only [rO2, rP2, rQ2, rmX2_fail]; omega)), (by first | exact Nat.le_of_ble_eq_true rfl | (simp only [rO2, rP2, rQ2, rmX2_fail]; omega))⟩, ⟨Nat.le_of_ble_eq_true rfl, Nat.le_of_ble_eq_true rfl⟩, Nat.le_of_ble_eq_true rfl⟩ (rest := []) rfl dX2_readOne_28 (fun S5 H locs h C => ?_)
        refine lv_iconst (v := 0) F.x F.b dX2_readOne_31 (by decide) ?_
        exact retI F hr C h dX2_readOne_32
      · have h := h.2 g4
        refine lv_aload_n F.x F.b dX2_readOne_14 rfl (lv_at hl 0 rfl) ?_
        refine lv_bipush (v := 91) F.x F.b dX2_readOne_15 (by decide) ?_
        refine kI F C hl (kX2_isNext  h) (by decide) (ce_Q _) rfl wv_X2_43 ⟨rfl, rfl, ⟨(by first | exact Nat.le_of_ble_eq_true rfl | (simp only [rO2, rP2, rQ2, rmX2_isNext]; omega)), (by first | exact Nat.le_of_ble_eq_true rfl | (simp only [rO2, rP2, rQ2, rmX2_isNext]; omega))⟩, ⟨Nat.le_of_ble_eq_true rfl, Nat.le_of_ble_eq_true rfl⟩, Nat.le_of_ble_eq_true rfl⟩ (rest := []) rfl dX2_readOne_17 (fun r8 S7 H locs h C => ?_)
        refine lv_if_eq (tgt := 33) F.x F.b dX2_readOne_20 (by decide) (fun g9 => ?_) (fun g9 => ?_)
        · have h := h.1 g9
          exact bX2_readOne_33 F hr HO S7 j1 v2 _ _ _ hj1 h C (lv_sub hl [0, 1, 2] rfl)
        · have h := h.2 g9
          refine lv_aload_n F.x F.b dX2_readOne_23 rfl (lv_at hl 0 rfl) ?_
          refine lv_aload_n F.x F.b dX2_readOne_24 rfl (lv_at hl 0 rfl) ?_
          refine getQ F C 2 (by decide) q1_164 (v := .int (S7 6 0 2)) rfl dX2_readOne_25 ?_
          refine kV F C hl (kX2_fail  h) (by decide) (ce_Q _) rfl wv_X2_29 ⟨rfl, rfl, ⟨(by first | exact Nat.le_of_ble_eq_true rfl | (simp only [rO2, rP2, rQ2, rmX2_fail]; omega)), (by first | exact Nat.le_of_ble_eq_true rfl | (simp only [rO2, rP2, rQ2, rmX2_fail]; omega))⟩, ⟨Nat.le_of_ble_eq_true rfl, Nat.le_of_ble_eq_true rfl⟩, Nat.le_of_ble_eq_true rfl⟩ (rest := []) rfl dX2_readOne_28 (fun S10 H locs h C => ?_)
          refine lv_iconst (v := 0) F.x F.b dX2_readOne_31 (by decide) ?_
          exact retI F hr C h dX2_readOne_32

def rmX2_readFor : Room := { frames := 55, cells := 0, slots := 0, locals := 1884 }
def mX2_readFor (post : Int32 → Mem → Prop) (S : Mem) (j1 : Nat) : Prop := ∀ S1 : Mem, S1 = wr S 6 0 2 (0 : Int32) → ∀ S2 : Mem, S2 = wr S1 6 0 3 (-1 : Int32) → mX2_readQuestion (mX2_readOne 8) (fun (r4 : Int32) (S3 : Mem) => (((S3 6 0 1) ≤ (S3 6 0 2) → (post r4 S3)) ∧ (¬ (S3 6 0 1) ≤ (S3 6 0 2) → (mX2_fail (fun (S6 : Mem) => post r4 S6) S3 (S3 6 0 2))))) S2 j1 (0 : Int32)
set_option maxRecDepth 100000 in
set_option maxHeartbeats 4000000 in
theorem kX2_readFor {l : Launch} {D : va_G} {ky : Nat → ClassId} {ad : Nat → Nat} {ex : Nat → Nat → Nat} {post : Int32 → Mem → Prop} {S : Mem} {j1 : Nat} (hj1 : j1 < 10) (h : mX2_readFor post S j1) : CMi l D ky ad ex yX2_readFor cX2_readFor 3 (some .int) rmX2_readFor 0 0 [.ref (ad 113), .ref (ad j1)] S post := by
  refine CMi.of (by decide) (Nat.le_of_ble_eq_true rfl) (fun p e s m args below meth c ls F hr C hl => ?_)
  have hl : lv_has ls 3 [(0, .ref (ad 113)), (1, .ref (ad j1))] := hl
  unfold mX2_readFor at h
  refine lv_aload_n F.x F.b dX2_readFor_0 rfl (lv_at hl 0 rfl) ?_
  refine lv_iconst (v := 0) F.x F.b dX2_readFor_1 (by decide) ?_
  refine putQ F C 2 (by decide) q1_164 rfl (tyX2_ok 2 (by decide)) rfl rfl rfl dX2_readFor_2 (fun H locs C => ?_)
  obtain ⟨S1, eS1⟩ : ∃ z : Mem, z = wr S 6 0 2 (0 : Int32) := ⟨_, rfl⟩
  rw [← eS1] at C
  have h := h S1 eS1
  refine lv_aload_n F.x F.b dX2_readFor_5 rfl (lv_at hl 0 rfl) ?_
  refine lv_iconst (v := -1) F.x F.b dX2_readFor_6 (by decide) ?_
  refine putQ F C 3 (by decide) q1_165 rfl (tyX2_ok 3 (by decide)) rfl rfl rfl dX2_readFor_7 (fun H locs C => ?_)
  obtain ⟨S2, eS2⟩ : ∃ z : Mem, z = wr S1 6 0 3 (-1 : Int32) := ⟨_, rfl⟩
  rw [← eS2] at C
  have h := h S2 eS2
  refine lv_aload_n F.x F.b dX2_readFor_10 rfl (lv_at hl 0 rfl) ?_
  refine lv_aload_n F.x F.b dX2_readFor_11 rfl (lv_at hl 1 rfl) ?_
  refine lv_iconst (v := 0) F.x F.b dX2_readFor_12 (by decide) ?_
  refine kI F C hl (kX2_readQuestion (kX2_readOne 8) hj1 h) (by decide) (ce_Q _) rfl wv_X2_25 ⟨rfl, rfl, ⟨Nat.le_of_ble_eq_true rfl, Nat.le_of_ble_eq_true rfl⟩, ⟨Nat.le_of_ble_eq_true rfl, Nat.le_of_ble_eq_true rfl⟩, Nat.le_of_ble_eq_true rfl⟩ (rest := []) rfl dX2_readFor_13 (fun r4 S3 H locs h C => ?_)
  refine lv_istore_n (lv' := [(2, .int r4), (0, .ref (ad 113)), (1, .ref (ad j1))]) F.x F.b dX2_readFor_16 rfl hl (by decide) rfl (fun ls hl => ?_)
  refine lv_aload_n F.x F.b dX2_readFor_17 rfl (lv_at hl 1 rfl) ?_
  refine getQ F C 2 (by decide) q1_164 (v := .int (S3 6 0 2)) rfl dX2_readFor_18 ?_
  refine lv_aload_n F.x F.b dX2_readFor_21 rfl (lv_at hl 1 rfl) ?_
  refine getQ F C 1 (by decide) q1_162 (v := .int (S3 6 0 1)) rfl dX2_readFor_22 ?_
  refine lv_icmp_ge (tgt := 36) F.x F.b dX2_readFor_25 (by decide) (fun g5 => ?_) (fun g5 => ?_)
  · have h := h.1 g5
    refine lv_iload_n F.x F.b dX2_readFor_36 rfl (lv_at hl 0 rfl) ?_
    exact retI F hr C h dX2_readFor_37
  · have h := h.2 g5
    refine lv_aload_n F.x F.b dX2_readFor_28 rfl (lv_at hl 1 rfl) ?_
    refine lv_aload_n F.x F.b dX2_readFor_29 rfl (lv_at hl 1 rfl) ?_
    refine getQ F C 2 (by decide) q1_164 (v := .int (S3 6 0 2)) rfl dX2_readFor_30 ?_
    refine kV F C hl (kX2_fail  h) (by decide) (ce_Q _) rfl wv_X2_29 ⟨rfl, rfl, ⟨Nat.le_of_ble_eq_true rfl, Nat.le_of_ble_eq_true rfl⟩, ⟨Nat.le_of_ble_eq_true rfl, Nat.le_of_ble_eq_true rfl⟩, Nat.le_of_ble_eq_true rfl⟩ (rest := []) rfl dX2_readFor_33 (fun S6 H locs h C => ?_)
    refine lv_iload_n F.x F.b dX2_readFor_36 rfl (lv_at hl 0 rfl) ?_
    exact retI F hr C h dX2_readFor_37

def rmX5_ask : Room := { frames := 56, cells := 1, slots := 6, locals := 1906 }
def mX5_ask (post : Int32 → Mem → Prop) (px : String → Mem → Prop) (S : Mem) : Prop := mX2_readFor (fun (r2 : Int32) (S1 : Mem) => mX2_empty (fun (S3 : Mem) => (((S3 6 0 3) = (-1 : Int32) → (mX5_keepAnswer (fun (S6 : Mem) => post (S6 3 0 7) S6) S3 r2)) ∧ (¬ (S3 6 0 3) = (-1 : Int32) → (∀ S8 : Mem, S8 = wr S3 3 0 5 (S3 6 0 3) → px "java/lang/IllegalArgumentException" S8)))) S1 ) S 0
set_option maxRecDepth 100000 in
set_option maxHeartbeats 4000000 in
theorem kX5_ask {l : Launch} {D : va_G} {ky : Nat → ClassId} {ad : Nat → Nat} {ex : Nat → Nat → Nat} {post : Int32 → Mem → Prop} {px : String → Mem → Prop} {S : Mem} (hf : l.stackTraces = false) (h : mX5_ask post px S ) : CXi l D ky ad ex yX5_ask cX5_ask 2 (some .int) rmX5_ask 1 6 [.ref (ad 110)] S post px := by
  refine CXi.of (by decide) (Nat.le_of_ble_eq_true rfl) (fun p e s m args below meth c ls F hr hout C hl => ?_)
  have hl : lv_has ls 2 [(0, .ref (ad 110))] := hl
  unfold mX5_ask at h
  refine lv_aload_n F.x F.b dX5_ask_0 rfl (lv_at hl 0 rfl) ?_
  refine getX F C 4 (by decide) q1_181 (v := .ref (ad 113)) rfl dX5_ask_1 ?_
  refine lv_aload_n F.x F.b dX5_ask_4 rfl (lv_at hl 0 rfl) ?_
  refine getX F C 0 (by decide) q1_177 (v := .ref (ad 0)) rfl dX5_ask_5 ?_
  refine kI F C hl (kX2_readFor  (by decide) h) (by decide) (ce_Q _) rfl wv_X5_190 ⟨rfl, rfl, ⟨Nat.le_of_ble_eq_true rfl, Nat.le_of_ble_eq_true rfl⟩, ⟨Nat.le_of_ble_eq_true rfl, Nat.le_of_ble_eq_true rfl⟩, Nat.le_of_ble_eq_true rfl⟩ (rest := []) rfl dX5_ask_8 (fun r2 S1 H locs h C => ?_)
  refine lv_istore_n (lv' := [(1, .int r2), (0, .ref (ad 110))]) F.x F.b dX5_ask_11 rfl hl (by decide) rfl (fun ls hl => ?_)
  refine lv_aload_n F.x F.b dX5_ask_12 rfl (lv_at hl 1 rfl) ?_
  refine getX F C 4 (by decide) q1_181 (v := .ref (ad 113)) rfl dX5_ask_13 ?_
  refine kV F C hl (kX2_empty  h) (by decide) (ce_Q _) rfl wv_X5_194 ⟨rfl, rfl, ⟨Nat.le_of_ble_eq_true rfl, Nat.le_of_ble_eq_true rfl⟩, ⟨Nat.le_of_ble_eq_true rfl, Nat.le_of_ble_eq_true rfl⟩, Nat.le_of_ble_eq_true rfl⟩ (rest := []) rfl dX5_ask_16 (fun S3 H locs h C => ?_)
  refine lv_aload_n F.x F.b dX5_ask_19 rfl (lv_at hl 1 rfl) ?_
  refine getX F C 4 (by decide) q1_181 (v := .ref (ad 113)) rfl dX5_ask_20 ?_
  refine getQN F C 3 (by decide) q1_166 (v := .int (S3 6 0 3)) rfl dX5_ask_23 ?_
  refine lv_iconst (v := -1) F.x F.b dX5_ask_26 (by decide) ?_
  refine lv_icmp_eq (tgt := 51) F.x F.b dX5_ask_27 (by decide) (fun g5 => ?_) (fun g5 => ?_)
  · have h := h.1 g5
    refine lv_aload_n F.x F.b dX5_ask_51 rfl (lv_at hl 1 rfl) ?_
    refine lv_iload_n F.x F.b dX5_ask_52 rfl (lv_at hl 0 rfl) ?_
    refine kV F C hl (kX5_keepAnswer  h) (by decide) (ce_X _) rfl wv_X5_205 ⟨rfl, rfl, ⟨Nat.le_of_ble_eq_true rfl, Nat.le_of_ble_eq_true rfl⟩, ⟨Nat.le_of_ble_eq_true rfl, Nat.le_of_ble_eq_true rfl⟩, Nat.le_of_ble_eq_true rfl⟩ (rest := []) rfl dX5_ask_53 (fun S6 H locs h C => ?_)
    refine lv_aload_n F.x F.b dX5_ask_56 rfl (lv_at hl 1 rfl) ?_
    refine getX F C 7 (by decide) q1_184 (v := .int (S6 3 0 7)) rfl dX5_ask_57 ?_
    refine W.widen (k := 1) (n := 6) (Nat.le_of_ble_eq_true rfl) (Nat.le_of_ble_eq_true rfl) ?_
    exact vx_ret (retI F hr C h dX5_ask_60)
  · have h := h.2 g5
    refine lv_aload_n F.x F.b dX5_ask_30 rfl (lv_at hl 1 rfl) ?_
    refine lv_aload_n F.x F.b dX5_ask_31 rfl (lv_at hl 1 rfl) ?_
    refine getX F C 4 (by decide) q1_181 (v := .ref (ad 113)) rfl dX5_ask_32 ?_
    refine getQN F C 3 (by decide) q1_166 (v := .int (S3 6 0 3)) rfl dX5_ask_35 ?_
    refine putX F C 5 (by decide) q1_182 rfl (tyX5_ok 5 (by decide)) rfl rfl rfl dX5_ask_38 (fun H locs C => ?_)
    obtain ⟨S8, eS8⟩ : ∃ z : Mem, z = wr S3 3 0 5 (S3 6 0 3) := ⟨_, rfl⟩
    rw [← eS8] at C
    have h := h S8 eS8
    exact xThrow F hout hf C hl wx_200_204 8 (by decide) rfl ⟨Nat.le_of_ble_eq_true rfl, Nat.le_of_ble_eq_true rfl, Nat.le_of_ble_eq_true rfl, Nat.le_of_ble_eq_true rfl⟩ ⟨Nat.le_of_ble_eq_true rfl, Nat.le_of_ble_eq_true rfl⟩ h dX5_ask_41 dX5_ask_44 dX5_ask_45 dX5_ask_47 dX5_ask_50
