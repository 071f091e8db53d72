def rmX2_lettersAlike : Room := { frames := 4, cells := 0, slots := 0, locals := 85 }
def mX2_lettersAlike_b19 (post : Int32 → Mem → Prop) : Nat → Mem → Nat → Int32 → Int32 → Prop
  | 0, _, _, _, _ => False
  | n + 1, S, s1, v2, v3 => ((v2 ≤ v3 → (post ((if (0 : Int32) < v2 then v2 else (0 : Int32))) S)) ∧ (¬ v2 ≤ v3 → (vp_in ((S 6 0 2) + v3) 60 ∧ vp_in v3 (lnN s1) ∧ (((S 7 0 (((S 6 0 2) + v3)).toNatClampNeg) = (chS s1 v3) → (∀ x6 : Int32, x6 = v3 + (1 : Int32) → mX2_lettersAlike_b19 post n S s1 v2 x6)) ∧ (¬ (S 7 0 (((S 6 0 2) + v3)).toNatClampNeg) = (chS s1 v3) → (post v3 S))))))
def mX2_lettersAlike (post : Int32 → Mem → Prop) (S : Mem) (s1 : Nat) : Prop := ∀ x2 : Int32, x2 = (if ((S 6 0 1) - (S 6 0 2)) < (lnS s1) then ((S 6 0 1) - (S 6 0 2)) else (lnS s1)) → ∃ fu : Nat, mX2_lettersAlike_b19 post fu S s1 x2 (0 : Int32)
set_option maxRecDepth 100000 in
set_option maxHeartbeats 4000000 in
theorem bX2_lettersAlike_19 {p : Program} {l : Launch} {e : Env} {s : State} {m : MethodId} {args : Array Value} {below : List Frame} {meth : Method} {c : Code} {D : va_G} {ky : Nat → ClassId} {ad : Nat → Nat} {ex : Nat → Nat → Nat} (F : Fx p s m args meth c D ky ad ex cX2_lettersAlike 4 yX2_lettersAlike.cls) (hr : meth.sig.returnType = (some .int)) {post : Int32 → Mem → Prop} : ∀ (n : Nat) (S : Mem) (s1 : Nat) (v2 : Int32) (v3 : Int32) (H : Heap) (locs : List Loc) (ls : Array Slot), s1 < 21 → mX2_lettersAlike_b19 post n S s1 v2 v3 → Cx D ky ad s S H locs → lv_has ls 4 [(0, .ref (ad 113)), (1, .ref (ex 0 s1)), (2, .int v2), (3, .int v3)] → W p l e rmX2_lettersAlike s m args below meth c H locs 0 0 (MQ below (va_Qi post (AFT D ky ad) (AW ad s.heap.size)) args s 0 0 (AW ad s.heap.size)) (F0 m 19 ls []) := by
  intro n
  induction n with
  | zero =>
    intro S s1 v2 v3 H locs ls hs1 h
    exact False.elim h
  | succ n ih =>
    intro S s1 v2 v3 H locs ls hs1 h C hl
    refine lv_iload_n F.x F.b dX2_lettersAlike_19 rfl (lv_at hl 3 rfl) ?_
    refine lv_iload_n F.x F.b dX2_lettersAlike_20 rfl (lv_at hl 2 rfl) ?_
    refine lv_icmp_ge (tgt := 51) F.x F.b dX2_lettersAlike_21 (by decide) (fun g1 => ?_) (fun g1 => ?_)
    · have h := h.1 g1
      refine lv_iconst (v := 0) F.x F.b dX2_lettersAlike_51 (by decide) ?_
      refine lv_iload_n F.x F.b dX2_lettersAlike_52 rfl (lv_at hl 2 rfl) ?_
      refine mMax F hl q4_83 ⟨Nat.le_of_ble_eq_true rfl, Nat.le_of_ble_eq_true rfl, Nat.le_of_ble_eq_true rfl, Nat.le_of_ble_eq_true rfl⟩ dX2_lettersAlike_53 ?_
      exact retI F hr C h dX2_lettersAlike_56
    · have h := h.2 g1
      refine lv_aload_n F.x F.b dX2_lettersAlike_24 rfl (lv_at hl 0 rfl) ?_
      refine getQ F C 0 (by decide) q1_159 (v := .ref (ad 114)) rfl dX2_lettersAlike_25 ?_
      refine lv_aload_n F.x F.b dX2_lettersAlike_28 rfl (lv_at hl 0 rfl) ?_
      refine getQ F C 2 (by decide) q1_162 (v := .int (S 6 0 2)) rfl dX2_lettersAlike_29 ?_
      refine lv_iload_n F.x F.b dX2_lettersAlike_32 rfl (lv_at hl 3 rfl) ?_
      refine lv_iadd F.x F.b dX2_lettersAlike_33 ?_
      obtain ⟨g2, h⟩ := h
      refine aldC F C (o := 114) (cq := 7) (iq := 0) (by decide) rfl rfl rfl g2 dX2_lettersAlike_34 ?_
      refine lv_aload_n F.x F.b dX2_lettersAlike_35 rfl (lv_at hl 1 rfl) ?_
      refine lv_iload_n F.x F.b dX2_lettersAlike_36 rfl (lv_at hl 3 rfl) ?_
      obtain ⟨g3, h⟩ := h
      refine kIg F C hl (kJ0_charAt (post := fun r S1 => r = (chS s1 v3) ∧ S1 = S) hs1 g3 ⟨rfl, rfl⟩) (F.srec C hs1) wv_X2_99 ⟨rfl, rfl, ⟨Nat.le_of_ble_eq_true rfl, Nat.le_of_ble_eq_true rfl⟩, ⟨Nat.le_of_ble_eq_true rfl, Nat.le_of_ble_eq_true rfl⟩, Nat.le_of_ble_eq_true rfl⟩ (rest := [.int (S 7 0 (((S 6 0 2) + v3)).toNatClampNeg)]) rfl dX2_lettersAlike_37 (fun rf4 Sf4 H locs hf4 C => ?_)
      rw [hf4.1]
      rw [hf4.2] at C
      refine lv_icmp_eq (tgt := 45) F.x F.b dX2_lettersAlike_40 (by decide) (fun g5 => ?_) (fun g5 => ?_)
      · have h := h.1 g5
        obtain ⟨x6, ex6⟩ : ∃ z : Int32, z = v3 + (1 : Int32) := ⟨_, rfl⟩
        have h := h x6 ex6
        refine lv_iinc (v := x6) (lv' := [(3, .int x6), (0, .ref (ad 113)), (1, .ref (ex 0 s1)), (2, .int v2)]) F.x F.b dX2_lettersAlike_45 hl (k := 3) rfl (by rw [ex6]; rfl) (by decide) rfl (fun ls hl => ?_)
        refine lv_goto (tgt := 19) F.x F.b dX2_lettersAlike_48 (by decide) ?_
        exact ih S s1 v2 x6 _ _ _ hs1 h C (lv_sub hl [1, 2, 3, 0] rfl)
      · have h := h.2 g5
        refine lv_iload_n F.x F.b dX2_lettersAlike_43 rfl (lv_at hl 3 rfl) ?_
        exact retI F hr C h dX2_lettersAlike_44
set_option maxRecDepth 100000 in
set_option maxHeartbeats 4000000 in
theorem kX2_lettersAlike {l : Launch} {D : va_G} {ky : Nat → ClassId} {ad : Nat → Nat} {ex : Nat → Nat → Nat} {post : Int32 → Mem → Prop} {S : Mem} {s1 : Nat} (hs1 : s1 < 21) (h : mX2_lettersAlike post S s1) : CMi l D ky ad ex yX2_lettersAlike cX2_lettersAlike 4 (some .int) rmX2_lettersAlike 0 0 [.ref (ad 113), .ref (ex 0 s1)] S post := by
  refine CMi.of (by decide) (Nat.le_of_ble_eq_true rfl) (fun p e s m args below meth c ls F hr C hl => ?_)
  have hl : lv_has ls 4 [(0, .ref (ad 113)), (1, .ref (ex 0 s1))] := hl
  unfold mX2_lettersAlike at h
  refine lv_aload_n F.x F.b dX2_lettersAlike_0 rfl (lv_at hl 1 rfl) ?_
  refine kIg F C hl (kJ0_length (post := fun r S1 => r = (lnS s1) ∧ S1 = S) hs1 ⟨rfl, rfl⟩) (F.srec C hs1) wv_X2_86 ⟨rfl, rfl, ⟨Nat.le_of_ble_eq_true rfl, Nat.le_of_ble_eq_true rfl⟩, ⟨Nat.le_of_ble_eq_true rfl, Nat.le_of_ble_eq_true rfl⟩, Nat.le_of_ble_eq_true rfl⟩ (rest := []) rfl dX2_lettersAlike_1 (fun rf1 Sf1 H locs hf1 C => ?_)
  rw [hf1.1]
  rw [hf1.2] at C
  refine lv_aload_n F.x F.b dX2_lettersAlike_4 rfl (lv_at hl 0 rfl) ?_
  refine getQ F C 1 (by decide) q1_160 (v := .int (S 6 0 1)) rfl dX2_lettersAlike_5 ?_
  refine lv_aload_n F.x F.b dX2_lettersAlike_8 rfl (lv_at hl 0 rfl) ?_
  refine getQ F C 2 (by decide) q1_162 (v := .int (S 6 0 2)) rfl dX2_lettersAlike_9 ?_
  refine lv_isub F.x F.b dX2_lettersAlike_12 ?_
  refine mMin F hl q4_44 ⟨Nat.le_of_ble_eq_true rfl, Nat.le_of_ble_eq_true rfl, Nat.le_of_ble_eq_true rfl, Nat.le_of_ble_eq_true rfl⟩ dX2_lettersAlike_13 ?_
  refine lv_topi (fun x2 ex2 => ?_)
  have h := h x2 ex2
  refine lv_istore_n (lv' := [(2, .int x2), (0, .ref (ad 113)), (1, .ref (ex 0 s1))]) F.x F.b dX2_lettersAlike_16 rfl hl (by decide) rfl (fun ls hl => ?_)
  refine lv_iconst (v := 0) F.x F.b dX2_lettersAlike_17 (by decide) ?_
  refine lv_istore_n (lv' := [(3, .int (0 : Int32)), (2, .int x2), (0, .ref (ad 113)), (1, .ref (ex 0 s1))]) F.x F.b dX2_lettersAlike_18 rfl hl (by decide) rfl (fun ls hl => ?_)
  obtain ⟨n3, h⟩ := h
  exact bX2_lettersAlike_19 F hr n3 S s1 x2 (0 : Int32) _ _ _ hs1 h C (lv_sub hl [2, 3, 1, 0] rfl)

def rmX2_readWord : Room := { frames := 5, cells := 0, slots := 0, locals := 108 }
def mX2_readWord_b4 (pn : Mem → Prop) (pw : Nat → Mem → Prop) : Nat → Mem → Int32 → Int32 → Prop
  | 0, _, _, _ => False
  | n + 1, S, v1, v2 => (((10 : Int32) ≤ v2 → (mX2_fail (fun (S2 : Mem) => pn S2) S (((S 6 0 2) + v1)))) ∧ (¬ (10 : Int32) ≤ v2 → (vp_in v2 10 ∧ ∀ w5 : Nat, w5 = v2.toNatClampNeg → mX2_lettersAlike (fun (r7 : Int32) (S6 : Mem) => ((¬ r7 = (lnS w5) → (∀ x10 : Int32, x10 = (if v1 < r7 then r7 else v1) → ∀ x11 : Int32, x11 = v2 + (1 : Int32) → mX2_readWord_b4 pn pw n S6 x10 x11)) ∧ (r7 = (lnS w5) → (∀ S12 : Mem, S12 = wr S6 6 0 2 ((S6 6 0 2) + r7) → pw w5 S12)))) S w5)))
def mX2_readWord (pn : Mem → Prop) (pw : Nat → Mem → Prop) (S : Mem) : Prop := ∃ fu : Nat, mX2_readWord_b4 pn pw fu S (0 : Int32) (0 : Int32)
set_option maxRecDepth 100000 in
set_option maxHeartbeats 4000000 in
theorem bX2_readWord_4 {p : Program} {l : Launch} {e : Env} {s : State} {m : MethodId} {args : Array Value} {below : List Frame} {meth : Method} {c : Code} {D : va_G} {ky : Nat → ClassId} {ad : Nat → Nat} {ex : Nat → Nat → Nat} (F : Fx p s m args meth c D ky ad ex cX2_readWord 5 yX2_readWord.cls) (hr : meth.sig.returnType = (some (.object "FordToll$Word"))) {pn : Mem → Prop} {pw : Nat → Mem → Prop} : ∀ (n : Nat) (S : Mem) (v1 : Int32) (v2 : Int32) (H : Heap) (locs : List Loc) (ls : Array Slot), mX2_readWord_b4 pn pw n S v1 v2 → Cx D ky ad s S H locs → lv_has ls 5 [(0, .ref (ad 113)), (1, .int v1), (2, .int v2)] → W p l e rmX2_readWord s m args below meth c H locs 0 0 (MQ below (va_Qw (ex := ex) pn pw (AFT D ky ad) (AW ad s.heap.size)) args s 0 0 (AW ad s.heap.size)) (F0 m 4 ls []) := by
  intro n
  induction n with
  | zero =>
    intro S v1 v2 H locs ls  h
    exact False.elim h
  | succ n ih =>
    intro S v1 v2 H locs ls  h C hl
    refine lv_iload_n F.x F.b dX2_readWord_4 rfl (lv_at hl 2 rfl) ?_
    refine gWords F C q4_28 dX2_readWord_5 ?_
    refine va_tlen F.x F.b F.words C.2 (v := 10) (by decide) dX2_readWord_8 ?_
    refine lv_icmp_ge (tgt := 66) F.x F.b dX2_readWord_9 (by decide) (fun g1 => ?_) (fun g1 => ?_)
    · have h := h.1 g1
      refine lv_aload_n F.x F.b dX2_readWord_66 rfl (lv_at hl 0 rfl) ?_
      refine lv_aload_n F.x F.b dX2_readWord_67 rfl (lv_at hl 0 rfl) ?_
      refine getQ F C 2 (by decide) q1_162 (v := .int (S 6 0 2)) rfl dX2_readWord_68 ?_
      refine lv_iload_n F.x F.b dX2_readWord_71 rfl (lv_at hl 1 rfl) ?_
      refine lv_iadd F.x F.b dX2_readWord_72 ?_
      refine kV F C hl (kX2_fail  h) (by decide) (ce_Q _) rfl wv_X2_29 ⟨rfl, rfl, ⟨Nat.le_of_ble_eq_true rfl, Nat.le_of_ble_eq_true rfl⟩, ⟨Nat.le_of_ble_eq_true rfl, Nat.le_of_ble_eq_true rfl⟩, Nat.le_of_ble_eq_true rfl⟩ (rest := []) rfl dX2_readWord_73 (fun S2 H locs h C => ?_)
      refine lv_null F.x F.b dX2_readWord_76 ?_
      exact retN F hr C h dX2_readWord_77
    · have h := h.2 g1
      refine gWords F C q4_28 dX2_readWord_12 ?_
      refine lv_iload_n F.x F.b dX2_readWord_15 rfl (lv_at hl 2 rfl) ?_
      obtain ⟨g4, h⟩ := h
      refine vb_tq F.x F.b F.words C.2 g4 rfl dX2_readWord_16 ?_
      obtain ⟨w5, ew5⟩ : ∃ z : Nat, z = v2.toNatClampNeg := ⟨_, rfl⟩
      have hw5 : w5 < 10 := by rw [ew5]; exact Nat.not_le.mp (fun q => g4 (Or.inr q))
      rw [← ew5]
      have h := h w5 ew5
      refine lv_astore_n (lv' := [(3, .ref (ex 2 w5)), (0, .ref (ad 113)), (1, .int v1), (2, .int v2)]) F.x F.b dX2_readWord_17 rfl hl (by decide) rfl (fun ls hl => ?_)
      refine lv_aload_n F.x F.b dX2_readWord_18 rfl (lv_at hl 1 rfl) ?_
      refine lv_aload_n F.x F.b dX2_readWord_19 rfl (lv_at hl 0 rfl) ?_
      refine wdN F (F.wd hw5).2.1 C.2 q6_136 (fun _ h9 => h9) dX2_readWord_20 ?_
      refine kI F C hl (kX2_lettersAlike  (Nat.lt_trans hw5 (by decide)) h) (by decide) (ce_Q _) rfl wv_X2_82 ⟨rfl, rfl, ⟨Nat.le_of_ble_eq_true rfl, Nat.le_of_ble_eq_true rfl⟩, ⟨Nat.le_of_ble_eq_true rfl, Nat.le_of_ble_eq_true rfl⟩, Nat.le_of_ble_eq_true rfl⟩ (rest := []) rfl dX2_readWord_23 (fun r7 S6 H locs h C => ?_)
      refine lv_istore (lv' := [(4, .int r7), (3, .ref (ex 2 w5)), (0, .ref (ad 113)), (1, .int v1), (2, .int v2)]) F.x F.b dX2_readWord_26 hl (by decide) rfl (fun ls hl => ?_)
      refine lv_iload F.x F.b dX2_readWord_28 (lv_at hl 0 rfl) ?_
      refine lv_aload_n F.x F.b dX2_readWord_30 rfl (lv_at hl 1 rfl) ?_
      refine wdN F (F.wd hw5).2.1 C.2 q6_136 (fun _ h9 => h9) dX2_readWord_31 ?_
      refine kIg F C hl (kJ0_length (post := fun r S1 => r = (lnS w5) ∧ S1 = S6) (Nat.lt_trans hw5 (by decide)) ⟨rfl, rfl⟩) (F.srec C (Nat.lt_trans hw5 (by decide))) wv_X2_86 ⟨rfl, rfl, ⟨Nat.le_of_ble_eq_true rfl, Nat.le_of_ble_eq_true rfl⟩, ⟨Nat.le_of_ble_eq_true rfl, Nat.le_of_ble_eq_true rfl⟩, Nat.le_of_ble_eq_true rfl⟩ (rest := [.int r7]) rfl dX2_readWord_34 (fun rf8 Sf8 H locs hf8 C => ?_)
      rw [hf8.1]
      rw [hf8.2] at C
      refine lv_icmp_ne (tgt := 53) F.x F.b dX2_readWord_37 (by decide) (fun g9 => ?_) (fun g9 => ?_)
      · have h := h.1 g9
        refine lv_iload_n F.x F.b dX2_readWord_53 rfl (lv_at hl 3 rfl) ?_
        refine lv_iload F.x F.b dX2_readWord_54 (lv_at hl 0 rfl) ?_
        refine mMax F hl q4_83 ⟨Nat.le_of_ble_eq_true rfl, Nat.le_of_ble_eq_true rfl, Nat.le_of_ble_eq_true rfl, Nat.le_of_ble_eq_true rfl⟩ dX2_readWord_56 ?_
        refine lv_topi (fun x10 ex10 => ?_)
        have h := h x10 ex10
        refine lv_istore_n (lv' := [(1, .int x10), (4, .int r7), (3, .ref (ex 2 w5)), (0, .ref (ad 113)), (2, .int v2)]) F.x F.b dX2_readWord_59 rfl hl (by decide) rfl (fun ls hl => ?_)
        obtain ⟨x11, ex11⟩ : ∃ z : Int32, z = v2 + (1 : Int32) := ⟨_, rfl⟩
        have h := h x11 ex11
        refine lv_iinc (v := x11) (lv' := [(2, .int x11), (1, .int x10), (4, .int r7), (3, .ref (ex 2 w5)), (0, .ref (ad 113))]) F.x F.b dX2_readWord_60 hl (k := 4) rfl (by rw [ex11]; rfl) (by decide) rfl (fun ls hl => ?_)
        refine lv_goto (tgt := 4) F.x F.b dX2_readWord_63 (by decide) ?_
        exact ih S6 x10 x11 _ _ _ h C (lv_sub hl [4, 1, 0] rfl)
      · have h := h.2 g9
        refine lv_aload_n F.x F.b dX2_readWord_40 rfl (lv_at hl 2 rfl) ?_
        refine lv_dup F.x F.b dX2_readWord_41 rfl ?_
        refine getQ F C 2 (by decide) q1_162 (v := .int (S6 6 0 2)) rfl dX2_readWord_42 ?_
        refine lv_iload F.x F.b dX2_readWord_45 (lv_at hl 0 rfl) ?_
        refine lv_iadd F.x F.b dX2_readWord_47 ?_
        refine putQ F C 2 (by decide) q1_162 rfl (tyX2_ok 2 (by decide)) rfl rfl rfl dX2_readWord_48 (fun H locs C => ?_)
        obtain ⟨S12, eS12⟩ : ∃ z : Mem, z = wr S6 6 0 2 ((S6 6 0 2) + r7) := ⟨_, rfl⟩
        rw [← eS12] at C
        have h := h S12 eS12
        refine lv_aload_n F.x F.b dX2_readWord_51 rfl (lv_at hl 1 rfl) ?_
        exact retW F hr C hw5 h dX2_readWord_52
set_option maxRecDepth 100000 in
set_option maxHeartbeats 4000000 in
theorem kX2_readWord {l : Launch} {D : va_G} {ky : Nat → ClassId} {ad : Nat → Nat} {ex : Nat → Nat → Nat} {pn : Mem → Prop} {pw : Nat → Mem → Prop} {S : Mem} (h : mX2_readWord pn pw S ) : CMw l D ky ad ex yX2_readWord cX2_readWord 5 (some (.object "FordToll$Word")) rmX2_readWord 0 0 [.ref (ad 113)] S pn pw := by
  refine CMw.of (by decide) (Nat.le_of_ble_eq_true rfl) (fun p e s m args below meth c ls F hr C hl => ?_)
  have hl : lv_has ls 5 [(0, .ref (ad 113))] := hl
  unfold mX2_readWord at h
  refine lv_iconst (v := 0) F.x F.b dX2_readWord_0 (by decide) ?_
  refine lv_istore_n (lv' := [(1, .int (0 : Int32)), (0, .ref (ad 113))]) F.x F.b dX2_readWord_1 rfl hl (by decide) rfl (fun ls hl => ?_)
  refine lv_iconst (v := 0) F.x F.b dX2_readWord_2 (by decide) ?_
  refine lv_istore_n (lv' := [(2, .int (0 : Int32)), (1, .int (0 : Int32)), (0, .ref (ad 113))]) F.x F.b dX2_readWord_3 rfl hl (by decide) rfl (fun ls hl => ?_)
  obtain ⟨n1, h⟩ := h
  exact bX2_readWord_4 F hr n1 S (0 : Int32) (0 : Int32) _ _ _ h C (lv_sub hl [2, 1, 0] rfl)

def mX2_readPart_b10 (mo : (Int32 → Mem → Prop) → Mem → Nat → Int32 → Prop) (post : Int32 → Mem → Prop) : Nat → Mem → Nat → Int32 → Int32 → Int32 → Prop
  | 0, _, _, _, _, _ => False
  | n + 1, S, j1, v2, v3, v4 => (((60 : Int32) ≤ v4 → (post v3 S)) ∧ (¬ (60 : Int32) ≤ v4 → (mX2_takes (fun (r3 : Int32) (S2 : Mem) => ((r3 = 0 → (post v3 S2)) ∧ (¬ r3 = 0 → (mo (fun (r6 : Int32) (S5 : Mem) => ∀ x7 : Int32, x7 = (v3 &&& r6) → ∀ x8 : Int32, x8 = v4 + (1 : Int32) → mX2_readPart_b10 mo post n S5 j1 v2 x7 x8) S2 j1 v2)))) S (43 : Int32))))
def mX2_readPart (mo : (Int32 → Mem → Prop) → Mem → Nat → Int32 → Prop) (post : Int32 → Mem → Prop) (S : Mem) (j1 : Nat) (v2 : Int32) : Prop := mo (fun (r2 : Int32) (S1 : Mem) => ∃ fu : Nat, mX2_readPart_b10 mo post fu S1 j1 v2 r2 (0 : Int32)) S j1 v2
set_option maxRecDepth 100000 in
set_option maxHeartbeats 4000000 in
theorem bX2_readPart_10 {p : Program} {l : Launch} {e : Env} {s : State} {m : MethodId} {args : Array Value} {below : List Frame} {meth : Method} {c : Code} {D : va_G} {ky : Nat → ClassId} {ad : Nat → Nat} {ex : Nat → Nat → Nat} (F : Fx p s m args meth c D ky ad ex cX2_readPart 5 yX2_readPart.cls) (hr : meth.sig.returnType = (some .int)) {d : Nat} {mo : (Int32 → Mem → Prop) → Mem → Nat → Int32 → Prop} (HO : ∀ (post : Int32 → Mem → Prop) (S : Mem) (j1 : Nat) (v2 : Int32), j1 < 10 → mo post S j1 v2 → CMi l D ky ad ex yX2_readOne cX2_readOne 6 (some .int) (rO2 d) 0 0 [.ref (ad 113), .ref (ad j1), .int v2] S post) {post : Int32 → Mem → Prop} : ∀ (n : Nat) (S : Mem) (j1 : Nat) (v2 : Int32) (v3 : Int32) (v4 : Int32) (H : Heap) (locs : List Loc) (ls : Array Slot), j1 < 10 → mX2_readPart_b10 mo post n S j1 v2 v3 v4 → Cx D ky ad s S H locs → lv_has ls 5 [(0, .ref (ad 113)), (1, .ref (ad j1)), (2, .int v2), (3, .int v3), (4, .int v4)] → W p l e (rP2 d) s m args below meth c H locs 0 0 (MQ below (va_Qi post (AFT D ky ad) (AW ad s.heap.size)) args s 0 0 (AW ad s.heap.size)) (F0 m 10 ls []) := by
  intro n
  induction n with
  | zero =>
    intro S j1 v2 v3 v4 H locs ls hj1 h
    exact False.elim h
  | succ n ih =>
    intro S j1 v2 v3 v4 H locs ls hj1 h C hl
    refine lv_iload F.x F.b dX2_readPart_10 (lv_at hl 4 rfl) ?_
    refine lv_bipush (v := 60) F.x F.b dX2_readPart_12 (by decide) ?_
    refine lv_icmp_ge (tgt := 41) F.x F.b dX2_readPart_14 (by decide) (fun g1 => ?_) (fun g1 => ?_)
    · have h := h.1 g1
      refine lv_iload_n F.x F.b dX2_readPart_41 rfl (lv_at hl 3 rfl) ?_
      exact retI F hr C h dX2_readPart_42
    · have h := h.2 g1
      refine lv_aload_n F.x F.b dX2_readPart_17 rfl (lv_at hl 0 rfl) ?_
      refine lv_bipush (v := 43) F.x F.b dX2_readPart_18 (by decide) ?_
      refine kI F C hl (kX2_takes  h) (by decide) (ce_Q _) rfl wv_X2_36 ⟨rfl, rfl, ⟨(by first | exact Nat.le_of_ble_eq_true rfl | (simp only [rO2, rP2, rQ2, rmX2_takes]; omega)), (by first | exact Nat.le_of_ble_eq_true rfl | (simp only [rO2, rP2, rQ2, rmX2_takes]; omega))⟩, ⟨Nat.le_of_ble_eq_true rfl, Nat.le_of_ble_eq_true rfl⟩, Nat.le_of_ble_eq_true rfl⟩ (rest := []) rfl dX2_readPart_20 (fun r3 S2 H locs h C => ?_)
      refine lv_if_eq (tgt := 41) F.x F.b dX2_readPart_23 (by decide) (fun g4 => ?_) (fun g4 => ?_)
      · have h := h.1 g4
        refine lv_iload_n F.x F.b dX2_readPart_41 rfl (lv_at hl 3 rfl) ?_
        exact retI F hr C h dX2_readPart_42
      · have h := h.2 g4
        refine lv_iload_n F.x F.b dX2_readPart_26 rfl (lv_at hl 3 rfl) ?_
        refine lv_aload_n F.x F.b dX2_readPart_27 rfl (lv_at hl 0 rfl) ?_
        refine lv_aload_n F.x F.b dX2_readPart_28 rfl (lv_at hl 1 rfl) ?_
        refine lv_iload_n F.x F.b dX2_readPart_29 rfl (lv_at hl 2 rfl) ?_
        refine kI F C hl (HO _ _ _ _ hj1 h) (by decide) (ce_Q _) rfl wv_X2_40 ⟨rfl, rfl, ⟨(by first | exact Nat.le_of_ble_eq_true rfl | (simp only [rO2, rP2, rQ2]; omega)), (by first | exact Nat.le_of_ble_eq_true rfl | (simp only [rO2, rP2, rQ2]; omega))⟩, ⟨Nat.le_of_ble_eq_true rfl, Nat.le_of_ble_eq_true rfl⟩, Nat.le_of_ble_eq_true rfl⟩ (rest := [.int v3]) rfl dX2_readPart_30 (fun r6 S5 H locs h C => ?_)
        refine lv_iand F.x F.b dX2_readPart_33 ?_
        refine lv_topi (fun x7 ex7 => ?_)
        have h := h x7 ex7
        refine lv_istore_n (lv' := [(3, .int x7), (0, .ref (ad 113)), (1, .ref (ad j1)), (2, .int v2), (4, .int v4)]) F.x F.b dX2_readPart_34 rfl hl (by decide) rfl (fun ls hl => ?_)
        obtain ⟨x8, ex8⟩ : ∃ z : Int32, z = v4 + (1 : Int32) := ⟨_, rfl⟩
        have h := h x8 ex8
        refine lv_iinc (v := x8) (lv' := [(4, .int x8), (3, .int x7), (0, .ref (ad 113)), (1, .ref (ad j1)), (2, .int v2)]) F.x F.b dX2_readPart_35 hl (k := 4) rfl (by rw [ex8]; rfl) (by decide) rfl (fun ls hl => ?_)
        refine lv_goto (tgt := 10) F.x F.b dX2_readPart_38 (by decide) ?_
        exact ih S5 j1 v2 x7 x8 _ _ _ hj1 h C (lv_sub hl [2, 3, 4, 1, 0] rfl)
set_option maxRecDepth 100000 in
set_option maxHeartbeats 4000000 in
theorem kX2_readPart {l : Launch} {D : va_G} {ky : Nat → ClassId} {ad : Nat → Nat} {ex : Nat → Nat → Nat} {post : Int32 → Mem → Prop} {S : Mem} {j1 : Nat} {v2 : Int32} {d : Nat} {mo : (Int32 → Mem → Prop) → Mem → Nat → Int32 → Prop} (HO : ∀ (post : Int32 → Mem → Prop) (S : Mem) (j1 : Nat) (v2 : Int32), j1 < 10 → mo post S j1 v2 → CMi l D ky ad ex yX2_readOne cX2_readOne 6 (some .int) (rO2 d) 0 0 [.ref (ad 113), .ref (ad j1), .int v2] S post) (hj1 : j1 < 10) (h : mX2_readPart mo post S j1 v2) : CMi l D ky ad ex yX2_readPart cX2_readPart 5 (some .int) (rP2 d) 0 0 [.ref (ad 113), .ref (ad j1), .int v2] S post := by
  refine CMi.of (by decide) (Nat.le_of_ble_eq_true rfl) (fun p e s m args below meth c ls F hr C hl => ?_)
  have hl : lv_has ls 5 [(0, .ref (ad 113)), (1, .ref (ad j1)), (2, .int v2)] := hl
  unfold mX2_readPart at h
  refine lv_aload_n F.x F.b dX2_readPart_0 rfl (lv_at hl 0 rfl) ?_
  refine lv_aload_n F.x F.b dX2_readPart_1 rfl (lv_at hl 1 rfl) ?_
  refine lv_iload_n F.x F.b dX2_readPart_2 rfl (lv_at hl 2 rfl) ?_
  refine kI F C hl (HO _ _ _ _ hj1 h) (by decide) (ce_Q _) rfl wv_X2_40 ⟨rfl, rfl, ⟨(by first | exact Nat.le_of_ble_eq_true rfl | (simp only [rO2, rP2, rQ2]; omega)), (by first | exact Nat.le_of_ble_eq_true rfl | (simp only [rO2, rP2, rQ2]; omega))⟩, ⟨Nat.le_of_ble_eq_true rfl, Nat.le_of_ble_eq_true rfl⟩, Nat.le_of_ble_eq_true rfl⟩ (rest := []) rfl dX2_readPart_3 (fun r2 S1 H locs h C => ?_)
  refine lv_istore_n (lv' := [(3, .int r2), (0, .ref (ad 113)), (1, .ref (ad j1)), (2, .int v2)]) F.x F.b dX2_readPart_6 rfl hl (by decide) rfl (fun ls hl => ?_)
  refine lv_iconst (v := 0) F.x F.b dX2_readPart_7 (by decide) ?_
  refine lv_istore (lv' := [(4, .int (0 : Int32)), (3, .int r2), (0, .ref (ad 113)), (1, .ref (ad j1)), (2, .int v2)]) F.x F.b dX2_readPart_8 hl (by decide) rfl (fun ls hl => ?_)
  obtain ⟨n3, h⟩ := h
  exact bX2_readPart_10 F hr HO n3 S1 j1 v2 r2 (0 : Int32) _ _ _ hj1 h C (lv_sub hl [2, 3, 4, 1, 0] rfl)

def mX2_readQuestion_b10 (mo : (Int32 → Mem → Prop) → Mem → Nat → Int32 → Prop) (post : Int32 → Mem → Prop) : Nat → Mem → Nat → Int32 → Int32 → Int32 → Prop
  | 0, _, _, _, _, _ => False
  | n + 1, S, j1, v2, v3, v4 => (((60 : Int32) ≤ v4 → (post v3 S)) ∧ (¬ (60 : Int32) ≤ v4 → (mX2_takes (fun (r3 : Int32) (S2 : Mem) => ((r3 = 0 → (post v3 S2)) ∧ (¬ r3 = 0 → (mX2_readPart mo (fun (r6 : Int32) (S5 : Mem) => ∀ x7 : Int32, x7 = (v3 ||| r6) → ∀ x8 : Int32, x8 = v4 + (1 : Int32) → mX2_readQuestion_b10 mo post n S5 j1 v2 x7 x8) S2 j1 v2)))) S (47 : Int32))))
def mX2_readQuestion (mo : (Int32 → Mem → Prop) → Mem → Nat → Int32 → Prop) (post : Int32 → Mem → Prop) (S : Mem) (j1 : Nat) (v2 : Int32) : Prop := mX2_readPart mo (fun (r2 : Int32) (S1 : Mem) => ∃ fu : Nat, mX2_readQuestion_b10 mo post fu S1 j1 v2 r2 (0 : Int32)) S j1 v2
set_option maxRecDepth 100000 in
set_option maxHeartbeats 4000000 in
theorem bX2_readQuestion_10 {p : Program} {l : Launch} {e : Env} {s : State} {m : MethodId} {args : Array Value} {below : List Frame} {meth : Method} {c : Code} {D : va_G} {ky : Nat → ClassId} {ad : Nat → Nat} {ex : Nat → Nat → Nat} (F : Fx p s m args meth c D ky ad ex cX2_readQuestion 5 yX2_readQuestion.cls) (hr : meth.sig.returnType = (some .int)) {d : Nat} {mo : (Int32 → Mem → Prop) → Mem → Nat → Int32 → Prop} (HO : ∀ (post : Int32 → Mem → Prop) (S : Mem) (j1 : Nat) (v2 : Int32), j1 < 10 → mo post S j1 v2 → CMi l D ky ad ex yX2_readOne cX2_readOne 6 (some .int) (rO2 d) 0 0 [.ref (ad 113), .ref (ad j1), .int v2] S post) {post : Int32 → Mem → Prop} : ∀ (n : Nat) (S : Mem) (j1 : Nat) (v2 : Int32) (v3 : Int32) (v4 : Int32) (H : Heap) (locs : List Loc) (ls : Array Slot), j1 < 10 → mX2_readQuestion_b10 mo post n S j1 v2 v3 v4 → Cx D ky ad s S H locs → lv_has ls 5 [(0, .ref (ad 113)), (1, .ref (ad j1)), (2, .int v2), (3, .int v3), (4, .int v4)] → W p l e (rQ2 d) s m args below meth c H locs 0 0 (MQ below (va_Qi post (AFT D ky ad) (AW ad s.heap.size)) args s 0 0 (AW ad s.heap.size)) (F0 m 10 ls []) := by
  intro n
  induction n with
  | zero =>
    intro S j1 v2 v3 v4 H locs ls hj1 h
    exact False.elim h
  | succ n ih =>
    intro S j1 v2 v3 v4 H locs ls hj1 h C hl
    refine lv_iload F.x F.b dX2_readQuestion_10 (lv_at hl 4 rfl) ?_
    refine lv_bipush (v := 60) F.x F.b dX2_readQuestion_12 (by decide) ?_
    refine lv_icmp_ge (tgt := 41) F.x F.b dX2_readQuestion_14 (by decide) (fun g1 => ?_) (fun g1 => ?_)
    · have h := h.1 g1
      refine lv_iload_n F.x F.b dX2_readQuestion_41 rfl (lv_at hl 3 rfl) ?_
      exact retI F hr C h dX2_readQuestion_42
    · have h := h.2 g1
      refine lv_aload_n F.x F.b dX2_readQuestion_17 rfl (lv_at hl 0 rfl) ?_
      refine lv_bipush (v := 47) F.x F.b dX2_readQuestion_18 (by decide) ?_
      refine kI F C hl (kX2_takes  h) (by decide) (ce_Q _) rfl wv_X2_36 ⟨rfl, rfl, ⟨(by first | exact Nat.le_of_ble_eq_true rfl | (simp only [rO2, rP2, rQ2, rmX2_takes]; omega)), (by first | exact Nat.le_of_ble_eq_true rfl | (simp only [rO2, rP2, rQ2, rmX2_takes]; omega))⟩, ⟨Nat.le_of_ble_eq_true rfl, Nat.le_of_ble_eq_true rfl⟩, Nat.le_of_ble_eq_true rfl⟩ (rest := []) rfl dX2_readQuestion_20 (fun r3 S2 H locs h C => ?_)
      refine lv_if_eq (tgt := 41) F.x F.b dX2_readQuestion_23 (by decide) (fun g4 => ?_) (fun g4 => ?_)
      · have h := h.1 g4
        refine lv_iload_n F.x F.b dX2_readQuestion_41 rfl (lv_at hl 3 rfl) ?_
        exact retI F hr C h dX2_readQuestion_42
      · have h := h.2 g4
        refine lv_iload_n F.x F.b dX2_readQuestion_26 rfl (lv_at hl 3 rfl) ?_
        refine lv_aload_n F.x F.b dX2_readQuestion_27 rfl (lv_at hl 0 rfl) ?_
        refine lv_aload_n F.x F.b dX2_readQuestion_28 rfl (lv_at hl 1 rfl) ?_
        refine lv_iload_n F.x F.b dX2_readQuestion_29 rfl (lv_at hl 2 rfl) ?_
        refine kI F C hl (kX2_readPart HO hj1 h) (by decide) (ce_Q _) rfl wv_X2_33 ⟨rfl, rfl, ⟨(by first | exact Nat.le_of_ble_eq_true rfl | (simp only [rO2, rP2, rQ2]; omega)), (by first | exact Nat.le_of_ble_eq_true rfl | (simp only [rO2, rP2, rQ2]; omega))⟩, ⟨Nat.le_of_ble_eq_true rfl, Nat.le_of_ble_eq_true rfl⟩, Nat.le_of_ble_eq_true rfl⟩ (rest := [.int v3]) rfl dX2_readQuestion_30 (fun r6 S5 H locs h C => ?_)
        refine lv_ior F.x F.b dX2_readQuestion_33 ?_
        refine lv_topi (fun x7 ex7 => ?_)
        have h := h x7 ex7
        refine lv_istore_n (lv' := [(3, .int x7), (0, .ref (ad 113)), (1, .ref (ad j1)), (2, .int v2), (4, .int v4)]) F.x F.b dX2_readQuestion_34 rfl hl (by decide) rfl (fun ls hl => ?_)
        obtain ⟨x8, ex8⟩ : ∃ z : Int32, z = v4 + (1 : Int32) := ⟨_, rfl⟩
        have h := h x8 ex8
        refine lv_iinc (v := x8) (lv' := [(4, .int x8), (3, .int x7), (0, .ref (ad 113)), (1, .ref (ad j1)), (2, .int v2)]) F.x F.b dX2_readQuestion_35 hl (k := 4) rfl (by rw [ex8]; rfl) (by decide) rfl (fun ls hl => ?_)
        refine lv_goto (tgt := 10) F.x F.b dX2_readQuestion_38 (by decide) ?_
        exact ih S5 j1 v2 x7 x8 _ _ _ hj1 h C (lv_sub hl [2, 3, 4, 1, 0] rfl)
set_option maxRecDepth 100000 in
set_option maxHeartbeats 4000000 in
theorem kX2_readQuestion {l : Launch} {D : va_G} {ky : Nat → ClassId} {ad : Nat → Nat} {ex : Nat → Nat → Nat} {post : Int32 → Mem → Prop} {S : Mem} {j1 : Nat} {v2 : Int32} {d : Nat} {mo : (Int32 → Mem → Prop) → Mem → Nat → Int32 → Prop} (HO : ∀ (post : Int32 → Mem → Prop) (S : Mem) (j1 : Nat) (v2 : Int32), j1 < 10 → mo post S j1 v2 → CMi l D ky ad ex yX2_readOne cX2_readOne 6 (some .int) (rO2 d) 0 0 [.ref (ad 113), .ref (ad j1), .int v2] S post) (hj1 : j1 < 10) (h : mX2_readQuestion mo post S j1 v2) : CMi l D ky ad ex yX2_readQuestion cX2_readQuestion 5 (some .int) (rQ2 d) 0 0 [.ref (ad 113), .ref (ad j1), .int v2] S post := by
  refine CMi.of (by decide) (Nat.le_of_ble_eq_true rfl) (fun p e s m args below meth c ls F hr C hl => ?_)
  have hl : lv_has ls 5 [(0, .ref (ad 113)), (1, .ref (ad j1)), (2, .int v2)] := hl
  unfold mX2_readQuestion at h
  refine lv_aload_n F.x F.b dX2_readQuestion_0 rfl (lv_at hl 0 rfl) ?_
  refine lv_aload_n F.x F.b dX2_readQuestion_1 rfl (lv_at hl 1 rfl) ?_
  refine lv_iload_n F.x F.b dX2_readQuestion_2 rfl (lv_at hl 2 rfl) ?_
  refine kI F C hl (kX2_readPart HO hj1 h) (by decide) (ce_Q _) rfl wv_X2_33 ⟨rfl, rfl, ⟨(by first | exact Nat.le_of_ble_eq_true rfl | (simp only [rO2, rP2, rQ2]; omega)), (by first | exact Nat.le_of_ble_eq_true rfl | (simp only [rO2, rP2, rQ2]; omega))⟩, ⟨Nat.le_of_ble_eq_true rfl, Nat.le_of_ble_eq_true rfl⟩, Nat.le_of_ble_eq_true rfl⟩ (rest := []) rfl dX2_readQuestion_3 (fun r2 S1 H locs h C => ?_)
  refine lv_istore_n (lv' := [(3, .int r2), (0, .ref (ad 113)), (1, .ref (ad j1)), (2, .int v2)]) F.x F.b dX2_readQuestion_6 rfl hl (by decide) rfl (fun ls hl => ?_)
  refine lv_iconst (v := 0) F.x F.b dX2_readQuestion_7 (by decide) ?_
  refine lv_istore (lv' := [(4, .int (0 : Int32)), (3, .int r2), (0, .ref (ad 113)), (1, .ref (ad j1)), (2, .int v2)]) F.x F.b dX2_readQuestion_8 hl (by decide) rfl (fun ls hl => ?_)
  obtain ⟨n3, h⟩ := h
  exact bX2_readQuestion_10 F hr HO n3 S1 j1 v2 r2 (0 : Int32) _ _ _ hj1 h C (lv_sub hl [2, 3, 4, 1, 0] rfl)

def mX2_readOne_b33 (mo : (Int32 → Mem → Prop) → Mem → Nat → Int32 → Prop) (post : Int32 → Mem → Prop) (S : Mem) (j1 : Nat) (v2 : Int32) : Prop := mX2_takes (fun (r2 : Int32) (S1 : Mem) => ((r2 = 0 → (mX2_takes (fun (r5 : Int32) (S4 : Mem) => ((r5 = 0 → (mX2_readWord (fun (S7 : Mem) => post (0 : Int32) S7) (fun (w9 : Nat) (S7 : Mem) => (((nuW.getD w9 0) = (-1 : Int32) → (mX2_readSign (fun (r12 : Int32) (S11 : Mem) => mX2_readNumber (fun (r14 : Int32) (S13 : Mem) => mX2_thoseWith (fun (r16 : Int32) (S15 : Mem) => post r16 S15) S13 j1 (whW.getD w9 0) r12 r14) S11 ) S7 )) ∧ (¬ (nuW.getD w9 0) = (-1 : Int32) → (mX2_thoseWith (fun (r18 : Int32) (S17 : Mem) => post r18 S17) S7 j1 (whW.getD w9 0) (61 : Int32) (nuW.getD w9 0))))) S4 )) ∧ (¬ r5 = 0 → (mX2_readQuestion mo (fun (r20 : Int32) (S19 : Mem) => mX2_takes (fun (r22 : Int32) (S21 : Mem) => ((¬ r22 = 0 → (post r20 S21)) ∧ (r22 = 0 → (mX2_fail (fun (S24 : Mem) => post r20 S24) S21 (S21 6 0 2))))) S19 (93 : Int32)) S4 j1 ((v2 + (1 : Int32))))))) S1 (91 : Int32))) ∧ (¬ r2 = 0 → (mX2_everyone (fun (r27 : Int32) (S26 : Mem) => mo (fun (r29 : Int32) (S28 : Mem) => post ((r27 &&& (r29 ^^^ (-1 : Int32)))) S28) S26 j1 ((v2 + (1 : Int32)))) S1 j1)))) S (45 : Int32)
def mX2_readOne : Nat → (Int32 → Mem → Prop) → Mem → Nat → Int32 → Prop
  | 0, _, _, _, _ => False
  | d + 1, post, S, j1, v2 => ((v2 < (4 : Int32) → (mX2_readOne_b33 (mX2_readOne d) post S j1 v2)) ∧ (¬ v2 < (4 : Int32) → (mX2_isNext (fun (r3 : Int32) (S2 : Mem) => ((¬ r3 = 0 → (mX2_fail (fun (S5 : Mem) => post (0 : Int32) S5) S2 (S2 6 0 2))) ∧ (r3 = 0 → (mX2_isNext (fun (r8 : Int32) (S7 : Mem) => ((r8 = 0 → (mX2_readOne_b33 (mX2_readOne d) post S7 j1 v2)) ∧ (¬ r8 = 0 → (mX2_fail (fun (S10 : Mem) => post (0 : Int32) S10) S7 (S7 6 0 2))))) S2 (91 : Int32))))) S (45 : Int32))))
set_option maxRecDepth 100000 in
set_option maxHeartbeats 4000000 in
theorem bX2_readOne_33 {p : Program} {l : Launch} {e : Env} {s : State} {m : MethodId} {args : Array Value} {below : List Frame} {meth : Method} {c : Code} {D : va_G} {ky : Nat → ClassId} {ad : Nat → Nat} {ex : Nat → Nat → Nat} (F : Fx p s m args meth c D ky ad ex cX2_readOne 6 yX2_readOne.cls) (hr : meth.sig.returnType = (some .int)) {d : Nat} {mo : (Int32 → Mem → Prop) → Mem → Nat → Int32 → Prop} (HO : ∀ (post : Int32 → Mem → Prop) (S : Mem) (j1 : Nat) (v2 : Int32), j1 < 10 → mo post S j1 v2 → CMi l D ky ad ex yX2_readOne cX2_readOne 6 (some .int) (rO2 d) 0 0 [.ref (ad 113), .ref (ad j1), .int v2] S post) {post : Int32 → Mem → Prop} : ∀ (S : Mem) (j1 : Nat) (v2 : Int32) (H : Heap) (locs : List Loc) (ls : Array Slot), j1 < 10 → mX2_readOne_b33 mo post S j1 v2 → Cx D ky ad s S H locs → lv_has ls 6 [(0, .ref (ad 113)), (1, .ref (ad j1)), (2, .int v2)] → W p l e (rO2 (d + 1)) s m args below meth c H locs 0 0 (MQ below (va_Qi post (AFT D ky ad) (AW ad s.heap.size)) args s 0 0 (AW ad s.heap.size)) (F0 m 33 ls []) := by
  intro S j1 v2 H locs ls hj1 h C hl
  unfold mX2_readOne_b33 at h
  refine lv_aload_n F.x F.b dX2_readOne_33 rfl (lv_at hl 0 rfl) ?_
  refine lv_bipush (v := 45) F.x F.b dX2_readOne_34 (by decide) ?_
  refine kI F C hl (kX2_takes  h) (by decide) (ce_Q _) rfl wv_X2_36 ⟨rfl, rfl, ⟨(by first | exact Nat.le_of_ble_eq_true rfl | (simp only [rO2, rP2, rQ2, rmX2_takes]; omega)), (by first | exact Nat.le_of_ble_eq_true rfl | (simp only [rO2, rP2, rQ2, rmX2_takes]; omega))⟩, ⟨Nat.le_of_ble_eq_true rfl, Nat.le_of_ble_eq_true rfl⟩, Nat.le_of_ble_eq_true rfl⟩ (rest := []) rfl dX2_readOne_36 (fun r2 S1 H locs h C => ?_)
  refine lv_if_eq (tgt := 58) F.x F.b dX2_readOne_39 (by decide) (fun g3 => ?_) (fun g3 => ?_)
  · have h := h.1 g3
    refine lv_aload_n F.x F.b dX2_readOne_58 rfl (lv_at hl 0 rfl) ?_
    refine lv_bipush (v := 91) F.x F.b dX2_readOne_59 (by decide) ?_
    refine kI F C hl (kX2_takes  h) (by decide) (ce_Q _) rfl wv_X2_36 ⟨rfl, rfl, ⟨(by first | exact Nat.le_of_ble_eq_true rfl | (simp only [rO2, rP2, rQ2, rmX2_takes]; omega)), (by first | exact Nat.le_of_ble_eq_true rfl | (simp only [rO2, rP2, rQ2, rmX2_takes]; omega))⟩, ⟨Nat.le_of_ble_eq_true rfl, Nat.le_of_ble_eq_true rfl⟩, Nat.le_of_ble_eq_true rfl⟩ (rest := []) rfl dX2_readOne_61 (fun r5 S4 H locs h C => ?_)
    refine lv_if_eq (tgt := 95) F.x F.b dX2_readOne_64 (by decide) (fun g6 => ?_) (fun g6 => ?_)
    · have h := h.1 g6
      refine lv_aload_n F.x F.b dX2_readOne_95 rfl (lv_at hl 0 rfl) ?_
      refine kW F C hl (kX2_readWord  h) (by decide) (ce_Q _) rfl wv_X2_50 ⟨rfl, rfl, ⟨(by first | exact Nat.le_of_ble_eq_true rfl | (simp only [rO2, rP2, rQ2, rmX2_readWord]; omega)), (by first | exact Nat.le_of_ble_eq_true rfl | (simp only [rO2, rP2, rQ2, rmX2_readWord]; omega))⟩, ⟨Nat.le_of_ble_eq_true rfl, Nat.le_of_ble_eq_true rfl⟩, Nat.le_of_ble_eq_true rfl⟩ (rest := []) rfl dX2_readOne_96 (fun S7 H locs h C => ?_) (fun w9 S7 H locs hw9 h C => ?_)
      · refine lv_astore_nN (lv' := [(3, .null), (0, .ref (ad 113)), (1, .ref (ad j1)), (2, .int v2)]) F.x F.b dX2_readOne_99 rfl hl (by decide) rfl (fun ls hl => ?_)
        refine lv_aload_nN F.x F.b dX2_readOne_100 rfl (lv_at hl 0 rfl) ?_
        refine lv_ifnonnullN F.x F.b dX2_readOne_101 ?_
        refine lv_iconst (v := 0) F.x F.b dX2_readOne_104 (by decide) ?_
        exact retI F hr C h dX2_readOne_105
      · refine lv_astore_n (lv' := [(3, .ref (ex 2 w9)), (0, .ref (ad 113)), (1, .ref (ad j1)), (2, .int v2)]) F.x F.b dX2_readOne_99 rfl hl (by decide) rfl (fun ls hl => ?_)
        refine lv_aload_n F.x F.b dX2_readOne_100 rfl (lv_at hl 0 rfl) ?_
        refine lv_ifnonnull (tgt := 106) F.x F.b dX2_readOne_101 (by decide) ?_
        refine lv_aload_n F.x F.b dX2_readOne_106 rfl (lv_at hl 0 rfl) ?_
        refine wdN F (F.wd hw9).2.2.2 C.2 q6_139 (fun _ h9 => h9) dX2_readOne_107 ?_
        refine lv_iconst (v := -1) F.x F.b dX2_readOne_110 (by decide) ?_
        refine lv_icmp_eq (tgt := 129) F.x F.b dX2_readOne_111 (by decide) (fun g10 => ?_) (fun g10 => ?_)
        · have h := h.1 g10
          refine lv_aload_n F.x F.b dX2_readOne_129 rfl (lv_at hl 1 rfl) ?_
          refine kI F C hl (kX2_readSign  h) (by decide) (ce_Q _) rfl wv_X2_66 ⟨rfl, rfl, ⟨(by first | exact Nat.le_of_ble_eq_true rfl | (simp only [rO2, rP2, rQ2, rmX2_readSign]; omega)), (by first | exact Nat.le_of_ble_eq_true rfl | (simp only [rO2, rP2, rQ2, rmX2_readSign]; omega))⟩, ⟨Nat.le_of_ble_eq_true rfl, Nat.le_of_ble_eq_true rfl⟩, Nat.le_of_ble_eq_true rfl⟩ (rest := []) rfl dX2_readOne_130 (fun r12 S11 H locs h C => ?_)
          refine lv_istore (lv' := [(4, .int r12), (3, .ref (ex 2 w9)), (0, .ref (ad 113)), (1, .ref (ad j1)), (2, .int v2)]) F.x F.b dX2_readOne_133 hl (by decide) rfl (fun ls hl => ?_)
          refine lv_aload_n F.x F.b dX2_readOne_135 rfl (lv_at hl 2 rfl) ?_
          refine kI F C hl (kX2_readNumber  h) (by decide) (ce_Q _) rfl wv_X2_70 ⟨rfl, rfl, ⟨(by first | exact Nat.le_of_ble_eq_true rfl | (simp only [rO2, rP2, rQ2, rmX2_readNumber]; omega)), (by first | exact Nat.le_of_ble_eq_true rfl | (simp only [rO2, rP2, rQ2, rmX2_readNumber]; omega))⟩, ⟨Nat.le_of_ble_eq_true rfl, Nat.le_of_ble_eq_true rfl⟩, Nat.le_of_ble_eq_true rfl⟩ (rest := []) rfl dX2_readOne_136 (fun r14 S13 H locs h C => ?_)
          refine lv_istore (lv' := [(5, .int r14), (4, .int r12), (3, .ref (ex 2 w9)), (0, .ref (ad 113)), (1, .ref (ad j1)), (2, .int v2)]) F.x F.b dX2_readOne_139 hl (by decide) rfl (fun ls hl => ?_)
          refine lv_aload_n F.x F.b dX2_readOne_141 rfl (lv_at hl 4 rfl) ?_
          refine lv_aload_n F.x F.b dX2_readOne_142 rfl (lv_at hl 2 rfl) ?_
          refine wdN F (F.wd hw9).2.2.1 C.2 q6_140 (fun _ h9 => h9) dX2_readOne_143 ?_
          refine lv_iload F.x F.b dX2_readOne_146 (lv_at hl 1 rfl) ?_
          refine lv_iload F.x F.b dX2_readOne_148 (lv_at hl 0 rfl) ?_
          refine kSI F C hl (kX2_thoseWith  hj1 h) wv_X2_62 ⟨rfl, rfl, ⟨(by first | exact Nat.le_of_ble_eq_true rfl | (simp only [rO2, rP2, rQ2, rmX2_thoseWith]; omega)), (by first | exact Nat.le_of_ble_eq_true rfl | (simp only [rO2, rP2, rQ2, rmX2_thoseWith]; omega))⟩, ⟨Nat.le_of_ble_eq_true rfl, Nat.le_of_ble_eq_true rfl⟩, Nat.le_of_ble_eq_true rfl⟩ (rest := []) rfl dX2_readOne_150 (fun r16 S15 H locs h C => ?_)
          exact retI F hr C h dX2_readOne_153
        · have h := h.2 g10
          refine lv_aload_n F.x F.b dX2_readOne_114 rfl (lv_at hl 2 rfl) ?_
          refine lv_aload_n F.x F.b dX2_readOne_115 rfl (lv_at hl 0 rfl) ?_
          refine wdN F (F.wd hw9).2.2.1 C.2 q6_140 (fun _ h9 => h9) dX2_readOne_116 ?_
          refine lv_bipush (v := 61) F.x F.b dX2_readOne_119 (by decide) ?_
          refine lv_aload_n F.x F.b dX2_readOne_121 rfl (lv_at hl 0 rfl) ?_
          refine wdN F (F.wd hw9).2.2.2 C.2 q6_139 (fun _ h9 => h9) dX2_readOne_122 ?_
          refine kSI F C hl (kX2_thoseWith  hj1 h) wv_X2_62 ⟨rfl, rfl, ⟨(by first | exact Nat.le_of_ble_eq_true rfl | (simp only [rO2, rP2, rQ2, rmX2_thoseWith]; omega)), (by first | exact Nat.le_of_ble_eq_true rfl | (simp only [rO2, rP2, rQ2, rmX2_thoseWith]; omega))⟩, ⟨Nat.le_of_ble_eq_true rfl, Nat.le_of_ble_eq_true rfl⟩, Nat.le_of_ble_eq_true rfl⟩ (rest := []) rfl dX2_readOne_125 (fun r18 S17 H locs h C => ?_)
          exact retI F hr C h dX2_readOne_128
    · have h := h.2 g6
      refine lv_aload_n F.x F.b dX2_readOne_67 rfl (lv_at hl 0 rfl) ?_
      refine lv_aload_n F.x F.b dX2_readOne_68 rfl (lv_at hl 1 rfl) ?_
      refine lv_iload_n F.x F.b dX2_readOne_69 rfl (lv_at hl 2 rfl) ?_
      refine lv_iconst (v := 1) F.x F.b dX2_readOne_70 (by decide) ?_
      refine lv_iadd F.x F.b dX2_readOne_71 ?_
      refine kI F C hl (kX2_readQuestion HO hj1 h) (by decide) (ce_Q _) rfl wv_X2_25 ⟨rfl, rfl, ⟨(by first | exact Nat.le_of_ble_eq_true rfl | (simp only [rO2, rP2, rQ2]; omega)), (by first | exact Nat.le_of_ble_eq_true rfl | (simp only [rO2, rP2, rQ2]; omega))⟩, ⟨Nat.le_of_ble_eq_true rfl, Nat.le_of_ble_eq_true rfl⟩, Nat.le_of_ble_eq_true rfl⟩ (rest := []) rfl dX2_readOne_72 (fun r20 S19 H locs h C => ?_)
      refine lv_istore_n (lv' := [(3, .int r20), (0, .ref (ad 113)), (1, .ref (ad j1)), (2, .int v2)]) F.x F.b dX2_readOne_75 rfl hl (by decide) rfl (fun ls hl => ?_)
      refine lv_aload_n F.x F.b dX2_readOne_76 rfl (lv_at hl 1 rfl) ?_
      refine lv_bipush (v := 93) F.x F.b dX2_readOne_77 (by decide) ?_
      refine kI F C hl (kX2_takes  h) (by decide) (ce_Q _) rfl wv_X2_36 ⟨rfl, rfl, ⟨(by first | exact Nat.le_of_ble_eq_true rfl | (simp only [rO2, rP2, rQ2, rmX2_takes]; omega)), (by first | exact Nat.le_of_ble_eq_true rfl | (simp only [rO2, rP2, rQ2, rmX2_takes]; omega))⟩, ⟨Nat.le_of_ble_eq_true rfl, Nat.le_of_ble_eq_true rfl⟩, Nat.le_of_ble_eq_true rfl⟩ (rest := []) rfl dX2_readOne_79 (fun r22 S21 H locs h C => ?_)
      refine lv_if_ne (tgt := 93) F.x F.b dX2_readOne_82 (by decide) (fun g23 => ?_) (fun g23 => ?_)
      · have h := h.1 g23
        refine lv_iload_n F.x F.b dX2_readOne_93 rfl (lv_at hl 0 rfl) ?_
        exact retI F hr C h dX2_readOne_94
      · have h := h.2 g23
        refine lv_aload_n F.x F.b dX2_readOne_85 rfl (lv_at hl 1 rfl) ?_
        refine lv_aload_n F.x F.b dX2_readOne_86 rfl (lv_at hl 1 rfl) ?_
        refine getQ F C 2 (by decide) q1_162 (v := .int (S21 6 0 2)) rfl dX2_readOne_87 ?_
        refine kV F C hl (kX2_fail  h) (by decide) (ce_Q _) rfl wv_X2_29 ⟨rfl, rfl, ⟨(by first | exact Nat.le_of_ble_eq_true rfl | (simp only [rO2, rP2, rQ2, rmX2_fail]; omega)), (by first | exact Nat.le_of_ble_eq_true rfl | (simp only [rO2, rP2, rQ2, rmX2_fail]; omega))⟩, ⟨Nat.le_of_ble_eq_true rfl, Nat.le_of_ble_eq_true rfl⟩, Nat.le_of_ble_eq_true rfl⟩ (rest := []) rfl dX2_readOne_90 (fun S24 H locs h C => ?_)
        refine lv_iload_n F.x F.b dX2_readOne_93 rfl (lv_at hl 0 rfl) ?_
        exact retI F hr C h dX2_readOne_94
  · have h := h.2 g3
    refine lv_aload_n F.x F.b dX2_readOne_42 rfl (lv_at hl 1 rfl) ?_
    refine kSI F C hl (kX2_everyone  hj1 h) wv_X2_46 ⟨rfl, rfl, ⟨(by first | exact Nat.le_of_ble_eq_true rfl | (simp only [rO2, rP2, rQ2, rmX2_everyone]; omega)), (by first | exact Nat.le_of_ble_eq_true rfl | (simp only [rO2, rP2, rQ2, rmX2_everyone]; omega))⟩, ⟨Nat.le_of_ble_eq_true rfl, Nat.le_of_ble_eq_true rfl⟩, Nat.le_of_ble_eq_true rfl⟩ (rest := []) rfl dX2_readOne_43 (fun r27 S26 H locs h C => ?_)
    refine lv_aload_n F.x F.b dX2_readOne_46 rfl (lv_at hl 0 rfl) ?_
    refine lv_aload_n F.x F.b dX2_readOne_47 rfl (lv_at hl 1 rfl) ?_
    refine lv_iload_n F.x F.b dX2_readOne_48 rfl (lv_at hl 2 rfl) ?_
    refine lv_iconst (v := 1) F.x F.b dX2_readOne_49 (by decide) ?_
    refine lv_iadd F.x F.b dX2_readOne_50 ?_
    refine kI F C hl (HO _ _ _ _ hj1 h) (by decide) (ce_Q _) rfl wv_X2_40 ⟨rfl, rfl, ⟨(by first | exact Nat.le_of_ble_eq_true rfl | (simp only [rO2, rP2, rQ2]; omega)), (by first | exact Nat.le_of_ble_eq_true rfl | (simp only [rO2, rP2, rQ2]; omega))⟩, ⟨Nat.le_of_ble_eq_true rfl, Nat.le_of_ble_eq_true rfl⟩, Nat.le_of_ble_eq_true rfl⟩ (rest := [.int r27]) rfl dX2_readOne_51 (fun r29 S28 H locs h C => ?_)
    refine lv_iconst (v := -1) F.x F.b dX2_readOne_54 (by decide) ?_
    refine lv_ixor F.x F.b dX2_readOne_55 ?_
    refine lv_iand F.x F.b dX2_readOne_56 ?_
    exact retI F hr C h dX2_readOne_57
set_option maxRecDepth 100000 in
set_option maxHeartbeats 4000000 in
theorem kX2_readOne {l : Launch} {D : va_G} {ky : Nat → ClassId} {ad : Nat → Nat} {ex : Nat → Nat → Nat} : ∀ (d : Nat) (post : Int32 → Mem → Prop) (S : Mem) (j1 : Nat) (v2 : Int32), j1 < 10 → mX2_readOne d post S j1 v2 → CMi l D ky ad ex yX2_readOne cX2_readOne 6 (some .int) (rO2 d) 0 0 [.ref (ad 113), .ref (ad j1), .int v2] S post := by
  intro d
  induction d with
  | zero =>
    intro post S j1 v2 hj1 h
    exact False.elim h
  | succ d HO =>
    intro post S j1 v2 hj1 h
    refine CMi.of (by decide) (Nat.le_of_ble_eq_true rfl) (fun p e s m args below meth c ls F hr C hl => ?_)
    have hl : lv_has ls 6 [(0, .ref (ad 113)), (1, .ref (ad j1)), (2, .int v2)] := hl
    refine lv_iload_n F.x F.b dX2_readOne_0 rfl (lv_at hl 2 rfl) ?_
    refine lv_iconst (v := 4) F.x F.b dX2_readOne_1 (by decide) ?_
    refine lv_icmp_lt (tgt := 33) F.x F.b dX2_readOne_2 (by decide) (fun g1 => ?_) (fun g1 => ?_)
    · have h := h.1 g1
      exact bX2_readOne_33 F hr HO S j1 v2 _ _ _ hj1 h C (lv_sub hl [0, 1, 2] rfl)
    · have h := h.2 g1
      refine lv_aload_n F.x F.b dX2_readOne_5 rfl (lv_at hl 0 rfl) ?_
      refine lv_bipush (v := 45) F.x F.b dX2_readOne_6 (by decide) ?_
      refine kI F C hl (kX2_isNext  h) (by decide) (ce_Q _) rfl wv_X2_43 ⟨rfl, rfl, ⟨(by first | exact Nat.le_of_ble_eq_true rfl | (simp only [rO2, rP2, rQ2, rmX2_isNext]; omega)), (by first | exact Nat.le_of_ble_eq_true rfl | (simp only [rO2, rP2, rQ2, rmX2_isNext]; omega))⟩, ⟨Nat.le_of_ble_eq_true rfl, Nat.le_of_ble_eq_true rfl⟩, Nat.le_of_ble_eq_true rfl⟩ (rest := []) rfl dX2_readOne_8 (fun r3 S2 H locs h C => ?_)
      refine lv_if_ne (tgt := 23) F.x F.b dX2_readOne_11 (by decide) (fun g4 => ?_) (fun g4 => ?_)
      · have h := h.1 g4
        refine lv_aload_n F.x F.b dX2_readOne_23 rfl (lv_at hl 0 rfl) ?_
        refine lv_aload_n F.x F.b dX2_readOne_24 rfl (lv_at hl 0 rfl) ?_
        refine getQ F C 2 (by decide) q1_162 (v := .int (S2 6 0 2)) rfl dX2_readOne_25 ?_
        refine kV F C hl (kX2_fail  h) (by decide) (ce_Q _) rfl wv_X2_29 ⟨rfl, rfl, ⟨(by first | exact Nat.le_of_ble_eq_true rfl | (simp only [rO2, rP2, rQ2, rmX2_fail]; omega)), (by first | exact Nat.le_of_ble_eq_true rfl | (simp only [rO2, rP2, rQ2, rmX2_fail]; omega))⟩, ⟨Nat.le_of_ble_eq_true rfl, Nat.le_of_ble_eq_true rfl⟩, Nat.le_of_ble_eq_true rfl⟩ (rest := []) rfl dX2_readOne_28 (fun S5 H locs h C => ?_)
        refine lv_iconst (v := 0) F.x F.b dX2_readOne_31 (by decide) ?_
        exact retI F hr C h dX2_readOne_32
      · have h := h.2 g4
        refine lv_aload_n F.x F.b dX2_readOne_14 rfl (lv_at hl 0 rfl) ?_
        refine lv_bipush (v := 91) F.x F.b dX2_readOne_15 (by decide) ?_
        refine kI F C hl (kX2_isNext  h) (by decide) (ce_Q _) rfl wv_X2_43 ⟨rfl, rfl, ⟨(by first | exact Nat.le_of_ble_eq_true rfl | (simp only [rO2, rP2, rQ2, rmX2_isNext]; omega)), (by first | exact Nat.le_of_ble_eq_true rfl | (simp only [rO2, rP2, rQ2, rmX2_isNext]; omega))⟩, ⟨Nat.le_of_ble_eq_true rfl, Nat.le_of_ble_eq_true rfl⟩, Nat.le_of_ble_eq_true rfl⟩ (rest := []) rfl dX2_readOne_17 (fun r8 S7 H locs h C => ?_)
        refine lv_if_eq (tgt := 33) F.x F.b dX2_readOne_20 (by decide) (fun g9 => ?_) (fun g9 => ?_)
        · have h := h.1 g9
          exact bX2_readOne_33 F hr HO S7 j1 v2 _ _ _ hj1 h C (lv_sub hl [0, 1, 2] rfl)
        · have h := h.2 g9
          refine lv_aload_n F.x F.b dX2_readOne_23 rfl (lv_at hl 0 rfl) ?_
          refine lv_aload_n F.x F.b dX2_readOne_24 rfl (lv_at hl 0 rfl) ?_
          refine getQ F C 2 (by decide) q1_162 (v := .int (S7 6 0 2)) rfl dX2_readOne_25 ?_
          refine kV F C hl (kX2_fail  h) (by decide) (ce_Q _) rfl wv_X2_29 ⟨rfl, rfl, ⟨(by first | exact Nat.le_of_ble_eq_true rfl | (simp only [rO2, rP2, rQ2, rmX2_fail]; omega)), (by first | exact Nat.le_of_ble_eq_true rfl | (simp only [rO2, rP2, rQ2, rmX2_fail]; omega))⟩, ⟨Nat.le_of_ble_eq_true rfl, Nat.le_of_ble_eq_true rfl⟩, Nat.le_of_ble_eq_true rfl⟩ (rest := []) rfl dX2_readOne_28 (fun S10 H locs h C => ?_)
          refine lv_iconst (v := 0) F.x F.b dX2_readOne_31 (by decide) ?_
          exact retI F hr C h dX2_readOne_32

def rmX2_readFor : Room := { frames := 55, cells := 0, slots := 0, locals := 1884 }
def mX2_readFor (post : Int32 → Mem → Prop) (S : Mem) (j1 : Nat) : Prop := ∀ S1 : Mem, S1 = wr S 6 0 2 (0 : Int32) → ∀ S2 : Mem, S2 = wr S1 6 0 3 (-1 : Int32) → mX2_readQuestion (mX2_readOne 8) (fun (r4 : Int32) (S3 : Mem) => (((S3 6 0 1) ≤ (S3 6 0 2) → (post r4 S3)) ∧ (¬ (S3 6 0 1) ≤ (S3 6 0 2) → (mX2_fail (fun (S6 : Mem) => post r4 S6) S3 (S3 6 0 2))))) S2 j1 (0 : Int32)
set_option maxRecDepth 100000 in
set_option maxHeartbeats 4000000 in
theorem kX2_readFor {l : Launch} {D : va_G} {ky : Nat → ClassId} {ad : Nat → Nat} {ex : Nat → Nat → Nat} {post : Int32 → Mem → Prop} {S : Mem} {j1 : Nat} (hj1 : j1 < 10) (h : mX2_readFor post S j1) : CMi l D ky ad ex yX2_readFor cX2_readFor 3 (some .int) rmX2_readFor 0 0 [.ref (ad 113), .ref (ad j1)] S post := by
  refine CMi.of (by decide) (Nat.le_of_ble_eq_true rfl) (fun p e s m args below meth c ls F hr C hl => ?_)
  have hl : lv_has ls 3 [(0, .ref (ad 113)), (1, .ref (ad j1))] := hl
  unfold mX2_readFor at h
  refine lv_aload_n F.x F.b dX2_readFor_0 rfl (lv_at hl 0 rfl) ?_
  refine lv_iconst (v := 0) F.x F.b dX2_readFor_1 (by decide) ?_
  refine putQ F C 2 (by decide) q1_162 rfl (tyX2_ok 2 (by decide)) rfl rfl rfl dX2_readFor_2 (fun H locs C => ?_)
  obtain ⟨S1, eS1⟩ : ∃ z : Mem, z = wr S 6 0 2 (0 : Int32) := ⟨_, rfl⟩
  rw [← eS1] at C
  have h := h S1 eS1
  refine lv_aload_n F.x F.b dX2_readFor_5 rfl (lv_at hl 0 rfl) ?_
  refine lv_iconst (v := -1) F.x F.b dX2_readFor_6 (by decide) ?_
  refine putQ F C 3 (by decide) q1_163 rfl (tyX2_ok 3 (by decide)) rfl rfl rfl dX2_readFor_7 (fun H locs C => ?_)
  obtain ⟨S2, eS2⟩ : ∃ z : Mem, z = wr S1 6 0 3 (-1 : Int32) := ⟨_, rfl⟩
  rw [← eS2] at C
  have h := h S2 eS2
  refine lv_aload_n F.x F.b dX2_readFor_10 rfl (lv_at hl 0 rfl) ?_
  refine lv_aload_n F.x F.b dX2_readFor_11 rfl (lv_at hl 1 rfl) ?_
  refine lv_iconst (v := 0) F.x F.b dX2_readFor_12 (by decide) ?_
  refine kI F C hl (kX2_readQuestion (kX2_readOne 8) hj1 h) (by decide) (ce_Q _) rfl wv_X2_25 ⟨rfl, rfl, ⟨Nat.le_of_ble_eq_true rfl, Nat.le_of_ble_eq_true rfl⟩, ⟨Nat.le_of_ble_eq_true rfl, Nat.le_of_ble_eq_true rfl⟩, Nat.le_of_ble_eq_true rfl⟩ (rest := []) rfl dX2_readFor_13 (fun r4 S3 H locs h C => ?_)
  refine lv_istore_n (lv' := [(2, .int r4), (0, .ref (ad 113)), (1, .ref (ad j1))]) F.x F.b dX2_readFor_16 rfl hl (by decide) rfl (fun ls hl => ?_)
  refine lv_aload_n F.x F.b dX2_readFor_17 rfl (lv_at hl 1 rfl) ?_
  refine getQ F C 2 (by decide) q1_162 (v := .int (S3 6 0 2)) rfl dX2_readFor_18 ?_
  refine lv_aload_n F.x F.b dX2_readFor_21 rfl (lv_at hl 1 rfl) ?_
  refine getQ F C 1 (by decide) q1_160 (v := .int (S3 6 0 1)) rfl dX2_readFor_22 ?_
  refine lv_icmp_ge (tgt := 36) F.x F.b dX2_readFor_25 (by decide) (fun g5 => ?_) (fun g5 => ?_)
  · have h := h.1 g5
    refine lv_iload_n F.x F.b dX2_readFor_36 rfl (lv_at hl 0 rfl) ?_
    exact retI F hr C h dX2_readFor_37
  · have h := h.2 g5
    refine lv_aload_n F.x F.b dX2_readFor_28 rfl (lv_at hl 1 rfl) ?_
    refine lv_aload_n F.x F.b dX2_readFor_29 rfl (lv_at hl 1 rfl) ?_
    refine getQ F C 2 (by decide) q1_162 (v := .int (S3 6 0 2)) rfl dX2_readFor_30 ?_
    refine kV F C hl (kX2_fail  h) (by decide) (ce_Q _) rfl wv_X2_29 ⟨rfl, rfl, ⟨Nat.le_of_ble_eq_true rfl, Nat.le_of_ble_eq_true rfl⟩, ⟨Nat.le_of_ble_eq_true rfl, Nat.le_of_ble_eq_true rfl⟩, Nat.le_of_ble_eq_true rfl⟩ (rest := []) rfl dX2_readFor_33 (fun S6 H locs h C => ?_)
    refine lv_iload_n F.x F.b dX2_readFor_36 rfl (lv_at hl 0 rfl) ?_
    exact retI F hr C h dX2_readFor_37

def rmX5_ask : Room := { frames := 56, cells := 1, slots := 6, locals := 1906 }
def mX5_ask (post : Int32 → Mem → Prop) (px : String → Mem → Prop) (S : Mem) : Prop := mX2_readFor (fun (r2 : Int32) (S1 : Mem) => mX2_empty (fun (S3 : Mem) => (((S3 6 0 3) = (-1 : Int32) → (mX5_keepAnswer (fun (S6 : Mem) => post (S6 3 0 7) S6) S3 r2)) ∧ (¬ (S3 6 0 3) = (-1 : Int32) → (∀ S8 : Mem, S8 = wr S3 3 0 5 (S3 6 0 3) → px "java/lang/IllegalArgumentException" S8)))) S1 ) S 0
set_option maxRecDepth 100000 in
set_option maxHeartbeats 4000000 in
theorem kX5_ask {l : Launch} {D : va_G} {ky : Nat → ClassId} {ad : Nat → Nat} {ex : Nat → Nat → Nat} {post : Int32 → Mem → Prop} {px : String → Mem → Prop} {S : Mem} (hf : l.stackTraces = false) (h : mX5_ask post px S ) : CXi l D ky ad ex yX5_ask cX5_ask 2 (some .int) rmX5_ask 1 6 [.ref (ad 110)] S post px := by
  refine CXi.of (by decide) (Nat.le_of_ble_eq_true rfl) (fun p e s m args below meth c ls F hr hout C hl => ?_)
  have hl : lv_has ls 2 [(0, .ref (ad 110))] := hl
  unfold mX5_ask at h
  refine lv_aload_n F.x F.b dX5_ask_0 rfl (lv_at hl 0 rfl) ?_
  refine getX F C 4 (by decide) q1_179 (v := .ref (ad 113)) rfl dX5_ask_1 ?_
  refine lv_aload_n F.x F.b dX5_ask_4 rfl (lv_at hl 0 rfl) ?_
  refine getX F C 0 (by decide) q1_175 (v := .ref (ad 0)) rfl dX5_ask_5 ?_
  refine kI F C hl (kX2_readFor  (by decide) h) (by decide) (ce_Q _) rfl wv_X5_190 ⟨rfl, rfl, ⟨Nat.le_of_ble_eq_true rfl, Nat.le_of_ble_eq_true rfl⟩, ⟨Nat.le_of_ble_eq_true rfl, Nat.le_of_ble_eq_true rfl⟩, Nat.le_of_ble_eq_true rfl⟩ (rest := []) rfl dX5_ask_8 (fun r2 S1 H locs h C => ?_)
  refine lv_istore_n (lv' := [(1, .int r2), (0, .ref (ad 110))]) F.x F.b dX5_ask_11 rfl hl (by decide) rfl (fun ls hl => ?_)
  refine lv_aload_n F.x F.b dX5_ask_12 rfl (lv_at hl 1 rfl) ?_
  refine getX F C 4 (by decide) q1_179 (v := .ref (ad 113)) rfl dX5_ask_13 ?_
  refine kV F C hl (kX2_empty  h) (by decide) (ce_Q _) rfl wv_X5_194 ⟨rfl, rfl, ⟨Nat.le_of_ble_eq_true rfl, Nat.le_of_ble_eq_true rfl⟩, ⟨Nat.le_of_ble_eq_true rfl, Nat.le_of_ble_eq_true rfl⟩, Nat.le_of_ble_eq_true rfl⟩ (rest := []) rfl dX5_ask_16 (fun S3 H locs h C => ?_)
  refine lv_aload_n F.x F.b dX5_ask_19 rfl (lv_at hl 1 rfl) ?_
  refine getX F C 4 (by decide) q1_179 (v := .ref (ad 113)) rfl dX5_ask_20 ?_
  refine getQN F C 3 (by decide) q1_164 (v := .int (S3 6 0 3)) rfl dX5_ask_23 ?_
  refine lv_iconst (v := -1) F.x F.b dX5_ask_26 (by decide) ?_
  refine lv_icmp_eq (tgt := 51) F.x F.b dX5_ask_27 (by decide) (fun g5 => ?_) (fun g5 => ?_)
  · have h := h.1 g5
    refine lv_aload_n F.x F.b dX5_ask_51 rfl (lv_at hl 1 rfl) ?_
    refine lv_iload_n F.x F.b dX5_ask_52 rfl (lv_at hl 0 rfl) ?_
    refine kV F C hl (kX5_keepAnswer  h) (by decide) (ce_X _) rfl wv_X5_205 ⟨rfl, rfl, ⟨Nat.le_of_ble_eq_true rfl, Nat.le_of_ble_eq_true rfl⟩, ⟨Nat.le_of_ble_eq_true rfl, Nat.le_of_ble_eq_true rfl⟩, Nat.le_of_ble_eq_true rfl⟩ (rest := []) rfl dX5_ask_53 (fun S6 H locs h C => ?_)
    refine lv_aload_n F.x F.b dX5_ask_56 rfl (lv_at hl 1 rfl) ?_
    refine getX F C 7 (by decide) q1_182 (v := .int (S6 3 0 7)) rfl dX5_ask_57 ?_
    refine W.widen (k := 1) (n := 6) (Nat.le_of_ble_eq_true rfl) (Nat.le_of_ble_eq_true rfl) ?_
    exact vx_ret (retI F hr C h dX5_ask_60)
  · have h := h.2 g5
    refine lv_aload_n F.x F.b dX5_ask_30 rfl (lv_at hl 1 rfl) ?_
    refine lv_aload_n F.x F.b dX5_ask_31 rfl (lv_at hl 1 rfl) ?_
    refine getX F C 4 (by decide) q1_179 (v := .ref (ad 113)) rfl dX5_ask_32 ?_
    refine getQN F C 3 (by decide) q1_164 (v := .int (S3 6 0 3)) rfl dX5_ask_35 ?_
    refine putX F C 5 (by decide) q1_180 rfl (tyX5_ok 5 (by decide)) rfl rfl rfl dX5_ask_38 (fun H locs C => ?_)
    obtain ⟨S8, eS8⟩ : ∃ z : Mem, z = wr S3 3 0 5 (S3 6 0 3) := ⟨_, rfl⟩
    rw [← eS8] at C
    have h := h S8 eS8
    exact xThrow F hout hf C hl wx_200_204 8 (by decide) rfl ⟨Nat.le_of_ble_eq_true rfl, Nat.le_of_ble_eq_true rfl, Nat.le_of_ble_eq_true rfl, Nat.le_of_ble_eq_true rfl⟩ ⟨Nat.le_of_ble_eq_true rfl, Nat.le_of_ble_eq_true rfl⟩ h dX5_ask_41 dX5_ask_44 dX5_ask_45 dX5_ask_47 dX5_ask_50

def rmX6_word : Room := { frames := 4, cells := 0, slots := 0, locals := 85 }
def mX6_word_b2 (post : Int32 → Mem → Prop) : Nat → Mem → Nat → Int32 → Prop
  | 0, _, _, _ => False
  | n + 1, S, s1, v2 => (((lnS s1) ≤ v2 → (post (1 : Int32) S)) ∧ (¬ (lnS s1) ≤ v2 → (vp_in v2 (lnN s1) ∧ mX6_takes (fun (r6 : Int32) (S5 : Mem) => ((¬ r6 = 0 → (∀ x8 : Int32, x8 = v2 + (1 : Int32) → mX6_word_b2 post n S5 s1 x8)) ∧ (r6 = 0 → (post (0 : Int32) S5)))) S (chS s1 v2))))
def mX6_word (post : Int32 → Mem → Prop) (S : Mem) (s1 : Nat) : Prop := ∃ fu : Nat, mX6_word_b2 post fu S s1 (0 : Int32)
set_option maxRecDepth 100000 in
set_option maxHeartbeats 4000000 in
theorem bX6_word_2 {p : Program} {l : Launch} {e : Env} {s : State} {m : MethodId} {args : Array Value} {below : List Frame} {meth : Method} {c : Code} {D : va_G} {ky : Nat → ClassId} {ad : Nat → Nat} {ex : Nat → Nat → Nat} (F : Fx p s m args meth c D ky ad ex cX6_word 3 yX6_word.cls) (hr : meth.sig.returnType = (some .boolean)) {post : Int32 → Mem → Prop} : ∀ (n : Nat) (S : Mem) (s1 : Nat) (v2 : Int32) (H : Heap) (locs : List Loc) (ls : Array Slot), s1 < 21 → mX6_word_b2 post n S s1 v2 → Cx D ky ad s S H locs → lv_has ls 3 [(0, .ref (ad 117)), (1, .ref (ex 0 s1)), (2, .int v2)] → W p l e rmX6_word s m args below meth c H locs 0 0 (MQ below (va_Qi post (AFT D ky ad) (AW ad s.heap.size)) args s 0 0 (AW ad s.heap.size)) (F0 m 2 ls []) := by
  intro n
  induction n with
  | zero =>
    intro S s1 v2 H locs ls hs1 h
    exact False.elim h
  | succ n ih =>
    intro S s1 v2 H locs ls hs1 h C hl
    refine lv_iload_n F.x F.b dX6_word_2 rfl (lv_at hl 2 rfl) ?_
    refine lv_aload_n F.x F.b dX6_word_3 rfl (lv_at hl 1 rfl) ?_
    refine kIg F C hl (kJ0_length (post := fun r S1 => r = (lnS s1) ∧ S1 = S) hs1 ⟨rfl, rfl⟩) (F.srec C hs1) wv_X6_172 ⟨rfl, rfl, ⟨Nat.le_of_ble_eq_true rfl, Nat.le_of_ble_eq_true rfl⟩, ⟨Nat.le_of_ble_eq_true rfl, Nat.le_of_ble_eq_true rfl⟩, Nat.le_of_ble_eq_true rfl⟩ (rest := [.int v2]) rfl dX6_word_4 (fun rf1 Sf1 H locs hf1 C => ?_)
    rw [hf1.1]
    rw [hf1.2] at C
    refine lv_icmp_ge (tgt := 30) F.x F.b dX6_word_7 (by decide) (fun g2 => ?_) (fun g2 => ?_)
    · have h := h.1 g2
      refine lv_iconst (v := 1) F.x F.b dX6_word_30 (by decide) ?_
      exact retZ F hr C rfl h dX6_word_31
    · have h := h.2 g2
      refine lv_aload_n F.x F.b dX6_word_10 rfl (lv_at hl 0 rfl) ?_
      refine lv_aload_n F.x F.b dX6_word_11 rfl (lv_at hl 1 rfl) ?_
      refine lv_iload_n F.x F.b dX6_word_12 rfl (lv_at hl 2 rfl) ?_
      obtain ⟨g3, h⟩ := h
      refine kIg F C hl (kJ0_charAt (post := fun r S1 => r = (chS s1 v2) ∧ S1 = S) hs1 g3 ⟨rfl, rfl⟩) (F.srec C hs1) wv_X6_176 ⟨rfl, rfl, ⟨Nat.le_of_ble_eq_true rfl, Nat.le_of_ble_eq_true rfl⟩, ⟨Nat.le_of_ble_eq_true rfl, Nat.le_of_ble_eq_true rfl⟩, Nat.le_of_ble_eq_true rfl⟩ (rest := [.ref (ad 117)]) rfl dX6_word_13 (fun rf4 Sf4 H locs hf4 C => ?_)
      rw [hf4.1]
      rw [hf4.2] at C
      refine kI F C hl (kX6_takes  h) (by decide) (ce_M _) rfl wv_X6_180 ⟨rfl, rfl, ⟨Nat.le_of_ble_eq_true rfl, Nat.le_of_ble_eq_true rfl⟩, ⟨Nat.le_of_ble_eq_true rfl, Nat.le_of_ble_eq_true rfl⟩, Nat.le_of_ble_eq_true rfl⟩ (rest := []) rfl dX6_word_16 (fun r6 S5 H locs h C => ?_)
      refine lv_if_ne (tgt := 24) F.x F.b dX6_word_19 (by decide) (fun g7 => ?_) (fun g7 => ?_)
      · have h := h.1 g7
        obtain ⟨x8, ex8⟩ : ∃ z : Int32, z = v2 + (1 : Int32) := ⟨_, rfl⟩
        have h := h x8 ex8
        refine lv_iinc (v := x8) (lv' := [(2, .int x8), (0, .ref (ad 117)), (1, .ref (ex 0 s1))]) F.x F.b dX6_word_24 hl (k := 2) rfl (by rw [ex8]; rfl) (by decide) rfl (fun ls hl => ?_)
        refine lv_goto (tgt := 2) F.x F.b dX6_word_27 (by decide) ?_
        exact ih S5 s1 x8 _ _ _ hs1 h C (lv_sub hl [1, 2, 0] rfl)
      · have h := h.2 g7
        refine lv_iconst (v := 0) F.x F.b dX6_word_22 (by decide) ?_
        exact retZ F hr C rfl h dX6_word_23
set_option maxRecDepth 100000 in
set_option maxHeartbeats 4000000 in
theorem kX6_word {l : Launch} {D : va_G} {ky : Nat → ClassId} {ad : Nat → Nat} {ex : Nat → Nat → Nat} {post : Int32 → Mem → Prop} {S : Mem} {s1 : Nat} (hs1 : s1 < 21) (h : mX6_word post S s1) : CMi l D ky ad ex yX6_word cX6_word 3 (some .boolean) rmX6_word 0 0 [.ref (ad 117), .ref (ex 0 s1)] S post := by
  refine CMi.of (by decide) (Nat.le_of_ble_eq_true rfl) (fun p e s m args below meth c ls F hr C hl => ?_)
  have hl : lv_has ls 3 [(0, .ref (ad 117)), (1, .ref (ex 0 s1))] := hl
  unfold mX6_word at h
  refine lv_iconst (v := 0) F.x F.b dX6_word_0 (by decide) ?_
  refine lv_istore_n (lv' := [(2, .int (0 : Int32)), (0, .ref (ad 117)), (1, .ref (ex 0 s1))]) F.x F.b dX6_word_1 rfl hl (by decide) rfl (fun ls hl => ?_)
  obtain ⟨n1, h⟩ := h
  exact bX6_word_2 F hr n1 S s1 (0 : Int32) _ _ _ hs1 h C (lv_sub hl [1, 2, 0] rfl)

def rmX6_measure : Room := { frames := 5, cells := 0, slots := 0, locals := 107 }
def mX6_measure_b177 (post : Int32 → Mem → Prop) (S : Mem) (v2 : Int32) (v3 : Int32) (v4 : Int32) : Prop := mX6_codes (fun (r2 : Int32) (S1 : Mem) => isB r2 ∧ post r2 S1) S (((((10000 : Int32) + ((1000 : Int32) * v2)) + ((100 : Int32) * v3)) + v4))
def mX6_measure_b50 (post : Int32 → Mem → Prop) (S : Mem) (v2 : Int32) (vt0 : Int32) : Prop := ((0 ≤ vt0 → (∀ S2 : Mem, S2 = wr S 10 0 11 ((S 10 0 11) + (1 : Int32)) → (((S2 10 0 11) = (S2 10 0 10) → (post (0 : Int32) S2)) ∧ (¬ (S2 10 0 11) = (S2 10 0 10) → (vp_in (S2 10 0 11) 60 ∧ mX6_in (fun (r6 : Int32) (S5 : Mem) => ((¬ r6 = 0 → (∀ x8 : Int32, x8 = (S5 10 0 11) → ∀ S9 : Mem, S9 = wr S5 10 0 11 (x8 + (1 : Int32)) → vp_in x8 60 ∧ ∀ x11 : Int32, x11 = ((S9 17 0 x8.toNatClampNeg) - (48 : Int32)) → (((S9 10 0 10) ≤ (S9 10 0 11) → (mX6_measure_b177 post S9 v2 vt0 x11)) ∧ (¬ (S9 10 0 10) ≤ (S9 10 0 11) → (vp_in (S9 10 0 11) 60 ∧ mX6_in (fun (r15 : Int32) (S14 : Mem) => ((r15 = 0 → (mX6_measure_b177 post S14 v2 vt0 x11)) ∧ (¬ r15 = 0 → (∀ x17 : Int32, x17 = (S14 10 0 11) → ∀ S18 : Mem, S18 = wr S14 10 0 11 (x17 + (1 : Int32)) → vp_in x17 60 ∧ ∀ x20 : Int32, x20 = ((((10 : Int32) * x11) + (S18 17 0 x17.toNatClampNeg)) - (48 : Int32)) → mX6_measure_b177 post S18 v2 vt0 x20)))) S9 ((S9 17 0 (S9 10 0 11).toNatClampNeg)) (48 : Int32) (57 : Int32)))))) ∧ (r6 = 0 → (post (0 : Int32) S5)))) S2 ((S2 17 0 (S2 10 0 11).toNatClampNeg)) (48 : Int32) (57 : Int32)))))) ∧ (¬ 0 ≤ vt0 → (post (0 : Int32) S)))
def mX6_measure (post : Int32 → Mem → Prop) (S : Mem) (s1 : Nat) (v2 : Int32) : Prop := mX6_word (fun (r2 : Int32) (S1 : Mem) => ((¬ r2 = 0 → (mX6_isNext (fun (r5 : Int32) (S4 : Mem) => ((r5 = 0 → (mX6_isNext (fun (r8 : Int32) (S7 : Mem) => ((r8 = 0 → (mX6_isNext (fun (r11 : Int32) (S10 : Mem) => ((r11 = 0 → (mX6_measure_b50 post S10 v2 (-1 : Int32))) ∧ (¬ r11 = 0 → (mX6_measure_b50 post S10 v2 (2 : Int32))))) S7 (62 : Int32))) ∧ (¬ r8 = 0 → (mX6_measure_b50 post S7 v2 (1 : Int32))))) S4 (61 : Int32))) ∧ (¬ r5 = 0 → (mX6_measure_b50 post S4 v2 (0 : Int32))))) S1 (60 : Int32))) ∧ (r2 = 0 → (post (0 : Int32) S1)))) S s1
set_option maxRecDepth 100000 in
set_option maxHeartbeats 4000000 in
theorem bX6_measure_177 {p : Program} {l : Launch} {e : Env} {s : State} {m : MethodId} {args : Array Value} {below : List Frame} {meth : Method} {c : Code} {D : va_G} {ky : Nat → ClassId} {ad : Nat → Nat} {ex : Nat → Nat → Nat} (F : Fx p s m args meth c D ky ad ex cX6_measure 5 yX6_measure.cls) (hr : meth.sig.returnType = (some .boolean)) {post : Int32 → Mem → Prop} : ∀ (S : Mem) (v2 : Int32) (v3 : Int32) (v4 : Int32) (H : Heap) (locs : List Loc) (ls : Array Slot), mX6_measure_b177 post S v2 v3 v4 → Cx D ky ad s S H locs → lv_has ls 5 [(0, .ref (ad 117)), (2, .int v2), (3, .int v3), (4, .int v4)] → W p l e rmX6_measure s m args below meth c H locs 0 0 (MQ below (va_Qi post (AFT D ky ad) (AW ad s.heap.size)) args s 0 0 (AW ad s.heap.size)) (F0 m 177 ls []) := by
  intro S v2 v3 v4 H locs ls  h C hl
  unfold mX6_measure_b177 at h
  refine lv_aload_n F.x F.b dX6_measure_177 rfl (lv_at hl 0 rfl) ?_
  refine lv_sipush (v := 10000) F.x F.b dX6_measure_178 (by decide) ?_
  refine lv_sipush (v := 1000) F.x F.b dX6_measure_181 (by decide) ?_
  refine lv_iload_n F.x F.b dX6_measure_184 rfl (lv_at hl 1 rfl) ?_
  refine lv_imul F.x F.b dX6_measure_185 ?_
  refine lv_iadd F.x F.b dX6_measure_186 ?_
  refine lv_bipush (v := 100) F.x F.b dX6_measure_187 (by decide) ?_
  refine lv_iload_n F.x F.b dX6_measure_189 rfl (lv_at hl 2 rfl) ?_
  refine lv_imul F.x F.b dX6_measure_190 ?_
  refine lv_iadd F.x F.b dX6_measure_191 ?_
  refine lv_iload F.x F.b dX6_measure_192 (lv_at hl 3 rfl) ?_
  refine lv_iadd F.x F.b dX6_measure_194 ?_
  refine kI F C hl (kX6_codes  h) (by decide) (ce_M _) rfl wv_X6_190 ⟨rfl, rfl, ⟨Nat.le_of_ble_eq_true rfl, Nat.le_of_ble_eq_true rfl⟩, ⟨Nat.le_of_ble_eq_true rfl, Nat.le_of_ble_eq_true rfl⟩, Nat.le_of_ble_eq_true rfl⟩ (rest := []) rfl dX6_measure_195 (fun r2 S1 H locs h C => ?_)
  exact retZ F hr C h.1.n h.2 dX6_measure_198
set_option maxRecDepth 100000 in
set_option maxHeartbeats 4000000 in
theorem bX6_measure_50 {p : Program} {l : Launch} {e : Env} {s : State} {m : MethodId} {args : Array Value} {below : List Frame} {meth : Method} {c : Code} {D : va_G} {ky : Nat → ClassId} {ad : Nat → Nat} {ex : Nat → Nat → Nat} (F : Fx p s m args meth c D ky ad ex cX6_measure 5 yX6_measure.cls) (hr : meth.sig.returnType = (some .boolean)) {post : Int32 → Mem → Prop} : ∀ (S : Mem) (v2 : Int32) (vt0 : Int32) (H : Heap) (locs : List Loc) (ls : Array Slot), mX6_measure_b50 post S v2 vt0 → Cx D ky ad s S H locs → lv_has ls 5 [(0, .ref (ad 117)), (2, .int v2)] → W p l e rmX6_measure s m args below meth c H locs 0 0 (MQ below (va_Qi post (AFT D ky ad) (AW ad s.heap.size)) args s 0 0 (AW ad s.heap.size)) (F0 m 50 ls [.int vt0]) := by
  intro S v2 vt0 H locs ls  h C hl
  unfold mX6_measure_b50 at h
  refine lv_istore_n (lv' := [(3, .int vt0), (0, .ref (ad 117)), (2, .int v2)]) F.x F.b dX6_measure_50 rfl hl (by decide) rfl (fun ls hl => ?_)
  refine lv_iload_n F.x F.b dX6_measure_51 rfl (lv_at hl 0 rfl) ?_
  refine lv_if_ge (tgt := 57) F.x F.b dX6_measure_52 (by decide) (fun g1 => ?_) (fun g1 => ?_)
  · have h := h.1 g1
    refine lv_aload_n F.x F.b dX6_measure_57 rfl (lv_at hl 1 rfl) ?_
    refine lv_dup F.x F.b dX6_measure_58 rfl ?_
    refine getM F C 11 (by decide) q4_233 (v := .int (S 10 0 11)) rfl dX6_measure_59 ?_
    refine lv_iconst (v := 1) F.x F.b dX6_measure_62 (by decide) ?_
    refine lv_iadd F.x F.b dX6_measure_63 ?_
    refine putM F C 11 (by decide) q4_233 rfl (tyX6_ok 11 (by decide)) rfl rfl rfl dX6_measure_64 (fun H locs C => ?_)
    obtain ⟨S2, eS2⟩ : ∃ z : Mem, z = wr S 10 0 11 ((S 10 0 11) + (1 : Int32)) := ⟨_, rfl⟩
    rw [← eS2] at C
    have h := h S2 eS2
    refine lv_aload_n F.x F.b dX6_measure_67 rfl (lv_at hl 1 rfl) ?_
    refine getM F C 11 (by decide) q4_233 (v := .int (S2 10 0 11)) rfl dX6_measure_68 ?_
    refine lv_aload_n F.x F.b dX6_measure_71 rfl (lv_at hl 1 rfl) ?_
    refine getM F C 10 (by decide) q4_232 (v := .int (S2 10 0 10)) rfl dX6_measure_72 ?_
    refine lv_icmp_eq (tgt := 97) F.x F.b dX6_measure_75 (by decide) (fun g3 => ?_) (fun g3 => ?_)
    · have h := h.1 g3
      refine lv_iconst (v := 0) F.x F.b dX6_measure_97 (by decide) ?_
      exact retZ F hr C rfl h dX6_measure_98
    · have h := h.2 g3
      refine lv_aload_n F.x F.b dX6_measure_78 rfl (lv_at hl 1 rfl) ?_
      refine getM F C 9 (by decide) q4_231 (v := .ref (ad 124)) rfl dX6_measure_79 ?_
      refine lv_aload_n F.x F.b dX6_measure_82 rfl (lv_at hl 1 rfl) ?_
      refine getM F C 11 (by decide) q4_233 (v := .int (S2 10 0 11)) rfl dX6_measure_83 ?_
      obtain ⟨g4, h⟩ := h
      refine aldC F C (o := 124) (cq := 17) (iq := 0) (by decide) rfl rfl rfl g4 dX6_measure_86 ?_
      refine lv_bipush (v := 48) F.x F.b dX6_measure_87 (by decide) ?_
      refine lv_bipush (v := 57) F.x F.b dX6_measure_89 (by decide) ?_
      refine kSI F C hl (kX6_in  h) wv_X6_62 ⟨rfl, rfl, ⟨Nat.le_of_ble_eq_true rfl, Nat.le_of_ble_eq_true rfl⟩, ⟨Nat.le_of_ble_eq_true rfl, Nat.le_of_ble_eq_true rfl⟩, Nat.le_of_ble_eq_true rfl⟩ (rest := []) rfl dX6_measure_91 (fun r6 S5 H locs h C => ?_)
      refine lv_if_ne (tgt := 99) F.x F.b dX6_measure_94 (by decide) (fun g7 => ?_) (fun g7 => ?_)
      · have h := h.1 g7
        refine lv_aload_n F.x F.b dX6_measure_99 rfl (lv_at hl 1 rfl) ?_
        refine getM F C 9 (by decide) q4_231 (v := .ref (ad 124)) rfl dX6_measure_100 ?_
        refine lv_aload_n F.x F.b dX6_measure_103 rfl (lv_at hl 1 rfl) ?_
        refine lv_dup F.x F.b dX6_measure_104 rfl ?_
        refine getM F C 11 (by decide) q4_233 (v := .int (S5 10 0 11)) rfl dX6_measure_105 ?_
        refine lv_topi (fun x8 ex8 => ?_)
        have h := h x8 ex8
        refine lv_dup_x1 F.x F.b dX6_measure_108 rfl rfl ?_
        refine lv_iconst (v := 1) F.x F.b dX6_measure_109 (by decide) ?_
        refine lv_iadd F.x F.b dX6_measure_110 ?_
        refine putM F C 11 (by decide) q4_233 rfl (tyX6_ok 11 (by decide)) rfl rfl rfl dX6_measure_111 (fun H locs C => ?_)
        obtain ⟨S9, eS9⟩ : ∃ z : Mem, z = wr S5 10 0 11 (x8 + (1 : Int32)) := ⟨_, rfl⟩
        rw [← eS9] at C
        have h := h S9 eS9
        obtain ⟨g10, h⟩ := h
        refine aldC F C (o := 124) (cq := 17) (iq := 0) (by decide) rfl rfl rfl g10 dX6_measure_114 ?_
        refine lv_bipush (v := 48) F.x F.b dX6_measure_115 (by decide) ?_
        refine lv_isub F.x F.b dX6_measure_117 ?_
        refine lv_topi (fun x11 ex11 => ?_)
        have h := h x11 ex11
        refine lv_istore (lv' := [(4, .int x11), (3, .int vt0), (0, .ref (ad 117)), (2, .int v2)]) F.x F.b dX6_measure_118 hl (by decide) rfl (fun ls hl => ?_)
        refine lv_aload_n F.x F.b dX6_measure_120 rfl (lv_at hl 2 rfl) ?_
        refine getM F C 11 (by decide) q4_233 (v := .int (S9 10 0 11)) rfl dX6_measure_121 ?_
        refine lv_aload_n F.x F.b dX6_measure_124 rfl (lv_at hl 2 rfl) ?_
        refine getM F C 10 (by decide) q4_232 (v := .int (S9 10 0 10)) rfl dX6_measure_125 ?_
        refine lv_icmp_ge (tgt := 177) F.x F.b dX6_measure_128 (by decide) (fun g12 => ?_) (fun g12 => ?_)
        · have h := h.1 g12
          exact bX6_measure_177 F hr S9 v2 vt0 x11 _ _ _ h C (lv_sub hl [2, 3, 1, 0] rfl)
        · have h := h.2 g12
          refine lv_aload_n F.x F.b dX6_measure_131 rfl (lv_at hl 2 rfl) ?_
          refine getM F C 9 (by decide) q4_231 (v := .ref (ad 124)) rfl dX6_measure_132 ?_
          refine lv_aload_n F.x F.b dX6_measure_135 rfl (lv_at hl 2 rfl) ?_
          refine getM F C 11 (by decide) q4_233 (v := .int (S9 10 0 11)) rfl dX6_measure_136 ?_
          obtain ⟨g13, h⟩ := h
          refine aldC F C (o := 124) (cq := 17) (iq := 0) (by decide) rfl rfl rfl g13 dX6_measure_139 ?_
          refine lv_bipush (v := 48) F.x F.b dX6_measure_140 (by decide) ?_
          refine lv_bipush (v := 57) F.x F.b dX6_measure_142 (by decide) ?_
          refine kSI F C hl (kX6_in  h) wv_X6_62 ⟨rfl, rfl, ⟨Nat.le_of_ble_eq_true rfl, Nat.le_of_ble_eq_true rfl⟩, ⟨Nat.le_of_ble_eq_true rfl, Nat.le_of_ble_eq_true rfl⟩, Nat.le_of_ble_eq_true rfl⟩ (rest := []) rfl dX6_measure_144 (fun r15 S14 H locs h C => ?_)
          refine lv_if_eq (tgt := 177) F.x F.b dX6_measure_147 (by decide) (fun g16 => ?_) (fun g16 => ?_)
          · have h := h.1 g16
            exact bX6_measure_177 F hr S14 v2 vt0 x11 _ _ _ h C (lv_sub hl [2, 3, 1, 0] rfl)
          · have h := h.2 g16
            refine lv_bipush (v := 10) F.x F.b dX6_measure_150 (by decide) ?_
            refine lv_iload F.x F.b dX6_measure_152 (lv_at hl 0 rfl) ?_
            refine lv_imul F.x F.b dX6_measure_154 ?_
            refine lv_aload_n F.x F.b dX6_measure_155 rfl (lv_at hl 2 rfl) ?_
            refine getM F C 9 (by decide) q4_231 (v := .ref (ad 124)) rfl dX6_measure_156 ?_
            refine lv_aload_n F.x F.b dX6_measure_159 rfl (lv_at hl 2 rfl) ?_
            refine lv_dup F.x F.b dX6_measure_160 rfl ?_
            refine getM F C 11 (by decide) q4_233 (v := .int (S14 10 0 11)) rfl dX6_measure_161 ?_
            refine lv_topi (fun x17 ex17 => ?_)
            have h := h x17 ex17
            refine lv_dup_x1 F.x F.b dX6_measure_164 rfl rfl ?_
            refine lv_iconst (v := 1) F.x F.b dX6_measure_165 (by decide) ?_
            refine lv_iadd F.x F.b dX6_measure_166 ?_
            refine putM F C 11 (by decide) q4_233 rfl (tyX6_ok 11 (by decide)) rfl rfl rfl dX6_measure_167 (fun H locs C => ?_)
            obtain ⟨S18, eS18⟩ : ∃ z : Mem, z = wr S14 10 0 11 (x17 + (1 : Int32)) := ⟨_, rfl⟩
            rw [← eS18] at C
            have h := h S18 eS18
            obtain ⟨g19, h⟩ := h
            refine aldC F C (o := 124) (cq := 17) (iq := 0) (by decide) rfl rfl rfl g19 dX6_measure_170 ?_
            refine lv_iadd F.x F.b dX6_measure_171 ?_
            refine lv_bipush (v := 48) F.x F.b dX6_measure_172 (by decide) ?_
            refine lv_isub F.x F.b dX6_measure_174 ?_
            refine lv_topi (fun x20 ex20 => ?_)
            have h := h x20 ex20
            refine lv_istore (lv' := [(4, .int x20), (3, .int vt0), (0, .ref (ad 117)), (2, .int v2)]) F.x F.b dX6_measure_175 hl (by decide) rfl (fun ls hl => ?_)
            exact bX6_measure_177 F hr S18 v2 vt0 x20 _ _ _ h C (lv_sub hl [2, 3, 1, 0] rfl)
      · have h := h.2 g7
        refine lv_iconst (v := 0) F.x F.b dX6_measure_97 (by decide) ?_
        exact retZ F hr C rfl h dX6_measure_98
  · have h := h.2 g1
    refine lv_iconst (v := 0) F.x F.b dX6_measure_55 (by decide) ?_
    exact retZ F hr C rfl h dX6_measure_56
set_option maxRecDepth 100000 in
set_option maxHeartbeats 4000000 in
theorem kX6_measure {l : Launch} {D : va_G} {ky : Nat → ClassId} {ad : Nat → Nat} {ex : Nat → Nat → Nat} {post : Int32 → Mem → Prop} {S : Mem} {s1 : Nat} {v2 : Int32} (hs1 : s1 < 21) (h : mX6_measure post S s1 v2) : CMi l D ky ad ex yX6_measure cX6_measure 5 (some .boolean) rmX6_measure 0 0 [.ref (ad 117), .ref (ex 0 s1), .int v2] S post := by
  refine CMi.of (by decide) (Nat.le_of_ble_eq_true rfl) (fun p e s m args below meth c ls F hr C hl => ?_)
  have hl : lv_has ls 5 [(0, .ref (ad 117)), (1, .ref (ex 0 s1)), (2, .int v2)] := hl
  unfold mX6_measure at h
  refine lv_aload_n F.x F.b dX6_measure_0 rfl (lv_at hl 0 rfl) ?_
  refine lv_aload_n F.x F.b dX6_measure_1 rfl (lv_at hl 1 rfl) ?_
  refine kI F C hl (kX6_word  hs1 h) (by decide) (ce_M _) rfl wv_X6_186 ⟨rfl, rfl, ⟨Nat.le_of_ble_eq_true rfl, Nat.le_of_ble_eq_true rfl⟩, ⟨Nat.le_of_ble_eq_true rfl, Nat.le_of_ble_eq_true rfl⟩, Nat.le_of_ble_eq_true rfl⟩ (rest := []) rfl dX6_measure_2 (fun r2 S1 H locs h C => ?_)
  refine lv_if_ne (tgt := 10) F.x F.b dX6_measure_5 (by decide) (fun g3 => ?_) (fun g3 => ?_)
  · have h := h.1 g3
    refine lv_aload_n F.x F.b dX6_measure_10 rfl (lv_at hl 0 rfl) ?_
    refine lv_bipush (v := 60) F.x F.b dX6_measure_11 (by decide) ?_
    refine kI F C hl (kX6_isNext  h) (by decide) (ce_M _) rfl wv_X6_168 ⟨rfl, rfl, ⟨Nat.le_of_ble_eq_true rfl, Nat.le_of_ble_eq_true rfl⟩, ⟨Nat.le_of_ble_eq_true rfl, Nat.le_of_ble_eq_true rfl⟩, Nat.le_of_ble_eq_true rfl⟩ (rest := []) rfl dX6_measure_13 (fun r5 S4 H locs h C => ?_)
    refine lv_if_eq (tgt := 23) F.x F.b dX6_measure_16 (by decide) (fun g6 => ?_) (fun g6 => ?_)
    · have h := h.1 g6
      refine lv_aload_n F.x F.b dX6_measure_23 rfl (lv_at hl 0 rfl) ?_
      refine lv_bipush (v := 61) F.x F.b dX6_measure_24 (by decide) ?_
      refine kI F C hl (kX6_isNext  h) (by decide) (ce_M _) rfl wv_X6_168 ⟨rfl, rfl, ⟨Nat.le_of_ble_eq_true rfl, Nat.le_of_ble_eq_true rfl⟩, ⟨Nat.le_of_ble_eq_true rfl, Nat.le_of_ble_eq_true rfl⟩, Nat.le_of_ble_eq_true rfl⟩ (rest := []) rfl dX6_measure_26 (fun r8 S7 H locs h C => ?_)
      refine lv_if_eq (tgt := 36) F.x F.b dX6_measure_29 (by decide) (fun g9 => ?_) (fun g9 => ?_)
      · have h := h.1 g9
        refine lv_aload_n F.x F.b dX6_measure_36 rfl (lv_at hl 0 rfl) ?_
        refine lv_bipush (v := 62) F.x F.b dX6_measure_37 (by decide) ?_
        refine kI F C hl (kX6_isNext  h) (by decide) (ce_M _) rfl wv_X6_168 ⟨rfl, rfl, ⟨Nat.le_of_ble_eq_true rfl, Nat.le_of_ble_eq_true rfl⟩, ⟨Nat.le_of_ble_eq_true rfl, Nat.le_of_ble_eq_true rfl⟩, Nat.le_of_ble_eq_true rfl⟩ (rest := []) rfl dX6_measure_39 (fun r11 S10 H locs h C => ?_)
        refine lv_if_eq (tgt := 49) F.x F.b dX6_measure_42 (by decide) (fun g12 => ?_) (fun g12 => ?_)
        · have h := h.1 g12
          refine lv_iconst (v := -1) F.x F.b dX6_measure_49 (by decide) ?_
          exact bX6_measure_50 F hr S10 v2 (-1 : Int32) _ _ _ h C (lv_sub hl [0, 2] rfl)
        · have h := h.2 g12
          refine lv_iconst (v := 2) F.x F.b dX6_measure_45 (by decide) ?_
          refine lv_goto (tgt := 50) F.x F.b dX6_measure_46 (by decide) ?_
          exact bX6_measure_50 F hr S10 v2 (2 : Int32) _ _ _ h C (lv_sub hl [0, 2] rfl)
      · have h := h.2 g9
        refine lv_iconst (v := 1) F.x F.b dX6_measure_32 (by decide) ?_
        refine lv_goto (tgt := 50) F.x F.b dX6_measure_33 (by decide) ?_
        exact bX6_measure_50 F hr S7 v2 (1 : Int32) _ _ _ h C (lv_sub hl [0, 2] rfl)
    · have h := h.2 g6
      refine lv_iconst (v := 0) F.x F.b dX6_measure_19 (by decide) ?_
      refine lv_goto (tgt := 50) F.x F.b dX6_measure_20 (by decide) ?_
      exact bX6_measure_50 F hr S4 v2 (0 : Int32) _ _ _ h C (lv_sub hl [0, 2] rfl)
  · have h := h.2 g3
    refine lv_iconst (v := 0) F.x F.b dX6_measure_8 (by decide) ?_
    exact retZ F hr C rfl h dX6_measure_9

def mX6_part_b9 (mo : (Int32 → Mem → Prop) → Mem → Prop) (post : Int32 → Mem → Prop) : Nat → Mem → Prop
  | 0, _ => False
  | n + 1, S => mX6_takes (fun (r2 : Int32) (S1 : Mem) => ((r2 = 0 → (post (1 : Int32) S1)) ∧ (¬ r2 = 0 → (mo (fun (r5 : Int32) (S4 : Mem) => ((r5 = 0 → (post (0 : Int32) S4)) ∧ (¬ r5 = 0 → (mX6_codes (fun (r8 : Int32) (S7 : Mem) => ((¬ r8 = 0 → (mX6_part_b9 mo post n S7 )) ∧ (r8 = 0 → (post (0 : Int32) S7)))) S4 (101 : Int32))))) S1 )))) S (43 : Int32)
def mX6_part (mo : (Int32 → Mem → Prop) → Mem → Prop) (post : Int32 → Mem → Prop) (S : Mem) : Prop := mo (fun (r2 : Int32) (S1 : Mem) => ((¬ r2 = 0 → (∃ fu : Nat, mX6_part_b9 mo post fu S1 )) ∧ (r2 = 0 → (post (0 : Int32) S1)))) S 
set_option maxRecDepth 100000 in
set_option maxHeartbeats 4000000 in
theorem bX6_part_9 {p : Program} {l : Launch} {e : Env} {s : State} {m : MethodId} {args : Array Value} {below : List Frame} {meth : Method} {c : Code} {D : va_G} {ky : Nat → ClassId} {ad : Nat → Nat} {ex : Nat → Nat → Nat} (F : Fx p s m args meth c D ky ad ex cX6_part 1 yX6_part.cls) (hr : meth.sig.returnType = (some .boolean)) {d : Nat} {mo : (Int32 → Mem → Prop) → Mem → Prop} (HO : ∀ (post : Int32 → Mem → Prop) (S : Mem), mo post S → CMi l D ky ad ex yX6_one cX6_one 2 (some .boolean) (rO6 d) 0 0 [.ref (ad 117)] S post) {post : Int32 → Mem → Prop} : ∀ (n : Nat) (S : Mem) (H : Heap) (locs : List Loc) (ls : Array Slot), mX6_part_b9 mo post n S  → Cx D ky ad s S H locs → lv_has ls 1 [(0, .ref (ad 117))] → W p l e (rP6 d) s m args below meth c H locs 0 0 (MQ below (va_Qi post (AFT D ky ad) (AW ad s.heap.size)) args s 0 0 (AW ad s.heap.size)) (F0 m 9 ls []) := by
  intro n
  induction n with
  | zero =>
    intro S  H locs ls  h
    exact False.elim h
  | succ n ih =>
    intro S  H locs ls  h C hl
    refine lv_aload_n F.x F.b dX6_part_9 rfl (lv_at hl 0 rfl) ?_
    refine lv_bipush (v := 43) F.x F.b dX6_part_10 (by decide) ?_
    refine kI F C hl (kX6_takes  h) (by decide) (ce_M _) rfl wv_X6_180 ⟨rfl, rfl, ⟨(by first | exact Nat.le_of_ble_eq_true rfl | (simp only [rO6, rP6, rQ6, rmX6_takes]; omega)), (by first | exact Nat.le_of_ble_eq_true rfl | (simp only [rO6, rP6, rQ6, rmX6_takes]; omega))⟩, ⟨Nat.le_of_ble_eq_true rfl, Nat.le_of_ble_eq_true rfl⟩, Nat.le_of_ble_eq_true rfl⟩ (rest := []) rfl dX6_part_12 (fun r2 S1 H locs h C => ?_)
    refine lv_if_eq (tgt := 36) F.x F.b dX6_part_15 (by decide) (fun g3 => ?_) (fun g3 => ?_)
    · have h := h.1 g3
      refine lv_iconst (v := 1) F.x F.b dX6_part_36 (by decide) ?_
      exact retZ F hr C rfl h dX6_part_37
    · have h := h.2 g3
      refine lv_aload_n F.x F.b dX6_part_18 rfl (lv_at hl 0 rfl) ?_
      refine kI F C hl (HO _ _ h) (by decide) (ce_M _) rfl wv_X6_195 ⟨rfl, rfl, ⟨(by first | exact Nat.le_of_ble_eq_true rfl | (simp only [rO6, rP6, rQ6]; omega)), (by first | exact Nat.le_of_ble_eq_true rfl | (simp only [rO6, rP6, rQ6]; omega))⟩, ⟨Nat.le_of_ble_eq_true rfl, Nat.le_of_ble_eq_true rfl⟩, Nat.le_of_ble_eq_true rfl⟩ (rest := []) rfl dX6_part_19 (fun r5 S4 H locs h C => ?_)
      refine lv_if_eq (tgt := 34) F.x F.b dX6_part_22 (by decide) (fun g6 => ?_) (fun g6 => ?_)
      · have h := h.1 g6
        refine lv_iconst (v := 0) F.x F.b dX6_part_34 (by decide) ?_
        exact retZ F hr C rfl h dX6_part_35
      · have h := h.2 g6
        refine lv_aload_n F.x F.b dX6_part_25 rfl (lv_at hl 0 rfl) ?_
        refine lv_bipush (v := 101) F.x F.b dX6_part_26 (by decide) ?_
        refine kI F C hl (kX6_codes  h) (by decide) (ce_M _) rfl wv_X6_190 ⟨rfl, rfl, ⟨(by first | exact Nat.le_of_ble_eq_true rfl | (simp only [rO6, rP6, rQ6, rmX6_codes]; omega)), (by first | exact Nat.le_of_ble_eq_true rfl | (simp only [rO6, rP6, rQ6, rmX6_codes]; omega))⟩, ⟨Nat.le_of_ble_eq_true rfl, Nat.le_of_ble_eq_true rfl⟩, Nat.le_of_ble_eq_true rfl⟩ (rest := []) rfl dX6_part_28 (fun r8 S7 H locs h C => ?_)
        refine lv_if_ne (tgt := 9) F.x F.b dX6_part_31 (by decide) (fun g9 => ?_) (fun g9 => ?_)
        · have h := h.1 g9
          exact ih S7  _ _ _ h C (lv_sub hl [0] rfl)
        · have h := h.2 g9
          refine lv_iconst (v := 0) F.x F.b dX6_part_34 (by decide) ?_
          exact retZ F hr C rfl h dX6_part_35
set_option maxRecDepth 100000 in
set_option maxHeartbeats 4000000 in
theorem kX6_part {l : Launch} {D : va_G} {ky : Nat → ClassId} {ad : Nat → Nat} {ex : Nat → Nat → Nat} {post : Int32 → Mem → Prop} {S : Mem} {d : Nat} {mo : (Int32 → Mem → Prop) → Mem → Prop} (HO : ∀ (post : Int32 → Mem → Prop) (S : Mem), mo post S → CMi l D ky ad ex yX6_one cX6_one 2 (some .boolean) (rO6 d) 0 0 [.ref (ad 117)] S post) (h : mX6_part mo post S ) : CMi l D ky ad ex yX6_part cX6_part 1 (some .boolean) (rP6 d) 0 0 [.ref (ad 117)] S post := by
  refine CMi.of (by decide) (Nat.le_of_ble_eq_true rfl) (fun p e s m args below meth c ls F hr C hl => ?_)
  have hl : lv_has ls 1 [(0, .ref (ad 117))] := hl
  unfold mX6_part at h
  refine lv_aload_n F.x F.b dX6_part_0 rfl (lv_at hl 0 rfl) ?_
  refine kI F C hl (HO _ _ h) (by decide) (ce_M _) rfl wv_X6_195 ⟨rfl, rfl, ⟨(by first | exact Nat.le_of_ble_eq_true rfl | (simp only [rO6, rP6, rQ6]; omega)), (by first | exact Nat.le_of_ble_eq_true rfl | (simp only [rO6, rP6, rQ6]; omega))⟩, ⟨Nat.le_of_ble_eq_true rfl, Nat.le_of_ble_eq_true rfl⟩, Nat.le_of_ble_eq_true rfl⟩ (rest := []) rfl dX6_part_1 (fun r2 S1 H locs h C => ?_)
  refine lv_if_ne (tgt := 9) F.x F.b dX6_part_4 (by decide) (fun g3 => ?_) (fun g3 => ?_)
  · have h := h.1 g3
    obtain ⟨n4, h⟩ := h
    exact bX6_part_9 F hr HO n4 S1  _ _ _ h C (lv_sub hl [0] rfl)
  · have h := h.2 g3
    refine lv_iconst (v := 0) F.x F.b dX6_part_7 (by decide) ?_
    exact retZ F hr C rfl h dX6_part_8

def mX6_question_b9 (mo : (Int32 → Mem → Prop) → Mem → Prop) (post : Int32 → Mem → Prop) : Nat → Mem → Prop
  | 0, _ => False
  | n + 1, S => mX6_takes (fun (r2 : Int32) (S1 : Mem) => ((r2 = 0 → (post (1 : Int32) S1)) ∧ (¬ r2 = 0 → (mX6_part mo (fun (r5 : Int32) (S4 : Mem) => ((r5 = 0 → (post (0 : Int32) S4)) ∧ (¬ r5 = 0 → (mX6_codes (fun (r8 : Int32) (S7 : Mem) => ((¬ r8 = 0 → (mX6_question_b9 mo post n S7 )) ∧ (r8 = 0 → (post (0 : Int32) S7)))) S4 (102 : Int32))))) S1 )))) S (47 : Int32)
def mX6_question (mo : (Int32 → Mem → Prop) → Mem → Prop) (post : Int32 → Mem → Prop) (S : Mem) : Prop := mX6_part mo (fun (r2 : Int32) (S1 : Mem) => ((¬ r2 = 0 → (∃ fu : Nat, mX6_question_b9 mo post fu S1 )) ∧ (r2 = 0 → (post (0 : Int32) S1)))) S 
set_option maxRecDepth 100000 in
set_option maxHeartbeats 4000000 in
theorem bX6_question_9 {p : Program} {l : Launch} {e : Env} {s : State} {m : MethodId} {args : Array Value} {below : List Frame} {meth : Method} {c : Code} {D : va_G} {ky : Nat → ClassId} {ad : Nat → Nat} {ex : Nat → Nat → Nat} (F : Fx p s m args meth c D ky ad ex cX6_question 1 yX6_question.cls) (hr : meth.sig.returnType = (some .boolean)) {d : Nat} {mo : (Int32 → Mem → Prop) → Mem → Prop} (HO : ∀ (post : Int32 → Mem → Prop) (S : Mem), mo post S → CMi l D ky ad ex yX6_one cX6_one 2 (some .boolean) (rO6 d) 0 0 [.ref (ad 117)] S post) {post : Int32 → Mem → Prop} : ∀ (n : Nat) (S : Mem) (H : Heap) (locs : List Loc) (ls : Array Slot), mX6_question_b9 mo post n S  → Cx D ky ad s S H locs → lv_has ls 1 [(0, .ref (ad 117))] → W p l e (rQ6 d) s m args below meth c H locs 0 0 (MQ below (va_Qi post (AFT D ky ad) (AW ad s.heap.size)) args s 0 0 (AW ad s.heap.size)) (F0 m 9 ls []) := by
  intro n
  induction n with
  | zero =>
    intro S  H locs ls  h
    exact False.elim h
  | succ n ih =>
    intro S  H locs ls  h C hl
    refine lv_aload_n F.x F.b dX6_question_9 rfl (lv_at hl 0 rfl) ?_
    refine lv_bipush (v := 47) F.x F.b dX6_question_10 (by decide) ?_
    refine kI F C hl (kX6_takes  h) (by decide) (ce_M _) rfl wv_X6_180 ⟨rfl, rfl, ⟨(by first | exact Nat.le_of_ble_eq_true rfl | (simp only [rO6, rP6, rQ6, rmX6_takes]; omega)), (by first | exact Nat.le_of_ble_eq_true rfl | (simp only [rO6, rP6, rQ6, rmX6_takes]; omega))⟩, ⟨Nat.le_of_ble_eq_true rfl, Nat.le_of_ble_eq_true rfl⟩, Nat.le_of_ble_eq_true rfl⟩ (rest := []) rfl dX6_question_12 (fun r2 S1 H locs h C => ?_)
    refine lv_if_eq (tgt := 36) F.x F.b dX6_question_15 (by decide) (fun g3 => ?_) (fun g3 => ?_)
    · have h := h.1 g3
      refine lv_iconst (v := 1) F.x F.b dX6_question_36 (by decide) ?_
      exact retZ F hr C rfl h dX6_question_37
    · have h := h.2 g3
      refine lv_aload_n F.x F.b dX6_question_18 rfl (lv_at hl 0 rfl) ?_
      refine kI F C hl (kX6_part HO h) (by decide) (ce_M _) rfl wv_X6_226 ⟨rfl, rfl, ⟨(by first | exact Nat.le_of_ble_eq_true rfl | (simp only [rO6, rP6, rQ6]; omega)), (by first | exact Nat.le_of_ble_eq_true rfl | (simp only [rO6, rP6, rQ6]; omega))⟩, ⟨Nat.le_of_ble_eq_true rfl, Nat.le_of_ble_eq_true rfl⟩, Nat.le_of_ble_eq_true rfl⟩ (rest := []) rfl dX6_question_19 (fun r5 S4 H locs h C => ?_)
      refine lv_if_eq (tgt := 34) F.x F.b dX6_question_22 (by decide) (fun g6 => ?_) (fun g6 => ?_)
      · have h := h.1 g6
        refine lv_iconst (v := 0) F.x F.b dX6_question_34 (by decide) ?_
        exact retZ F hr C rfl h dX6_question_35
      · have h := h.2 g6
        refine lv_aload_n F.x F.b dX6_question_25 rfl (lv_at hl 0 rfl) ?_
        refine lv_bipush (v := 102) F.x F.b dX6_question_26 (by decide) ?_
        refine kI F C hl (kX6_codes  h) (by decide) (ce_M _) rfl wv_X6_190 ⟨rfl, rfl, ⟨(by first | exact Nat.le_of_ble_eq_true rfl | (simp only [rO6, rP6, rQ6, rmX6_codes]; omega)), (by first | exact Nat.le_of_ble_eq_true rfl | (simp only [rO6, rP6, rQ6, rmX6_codes]; omega))⟩, ⟨Nat.le_of_ble_eq_true rfl, Nat.le_of_ble_eq_true rfl⟩, Nat.le_of_ble_eq_true rfl⟩ (rest := []) rfl dX6_question_28 (fun r8 S7 H locs h C => ?_)
        refine lv_if_ne (tgt := 9) F.x F.b dX6_question_31 (by decide) (fun g9 => ?_) (fun g9 => ?_)
        · have h := h.1 g9
          exact ih S7  _ _ _ h C (lv_sub hl [0] rfl)
        · have h := h.2 g9
          refine lv_iconst (v := 0) F.x F.b dX6_question_34 (by decide) ?_
          exact retZ F hr C rfl h dX6_question_35
set_option maxRecDepth 100000 in
set_option maxHeartbeats 4000000 in
theorem kX6_question {l : Launch} {D : va_G} {ky : Nat → ClassId} {ad : Nat → Nat} {ex : Nat → Nat → Nat} {post : Int32 → Mem → Prop} {S : Mem} {d : Nat} {mo : (Int32 → Mem → Prop) → Mem → Prop} (HO : ∀ (post : Int32 → Mem → Prop) (S : Mem), mo post S → CMi l D ky ad ex yX6_one cX6_one 2 (some .boolean) (rO6 d) 0 0 [.ref (ad 117)] S post) (h : mX6_question mo post S ) : CMi l D ky ad ex yX6_question cX6_question 1 (some .boolean) (rQ6 d) 0 0 [.ref (ad 117)] S post := by
  refine CMi.of (by decide) (Nat.le_of_ble_eq_true rfl) (fun p e s m args below meth c ls F hr C hl => ?_)
  have hl : lv_has ls 1 [(0, .ref (ad 117))] := hl
  unfold mX6_question at h
  refine lv_aload_n F.x F.b dX6_question_0 rfl (lv_at hl 0 rfl) ?_
  refine kI F C hl (kX6_part HO h) (by decide) (ce_M _) rfl wv_X6_226 ⟨rfl, rfl, ⟨(by first | exact Nat.le_of_ble_eq_true rfl | (simp only [rO6, rP6, rQ6]; omega)), (by first | exact Nat.le_of_ble_eq_true rfl | (simp only [rO6, rP6, rQ6]; omega))⟩, ⟨Nat.le_of_ble_eq_true rfl, Nat.le_of_ble_eq_true rfl⟩, Nat.le_of_ble_eq_true rfl⟩ (rest := []) rfl dX6_question_1 (fun r2 S1 H locs h C => ?_)
  refine lv_if_ne (tgt := 9) F.x F.b dX6_question_4 (by decide) (fun g3 => ?_) (fun g3 => ?_)
  · have h := h.1 g3
    obtain ⟨n4, h⟩ := h
    exact bX6_question_9 F hr HO n4 S1  _ _ _ h C (lv_sub hl [0] rfl)
  · have h := h.2 g3
    refine lv_iconst (v := 0) F.x F.b dX6_question_7 (by decide) ?_
    exact retZ F hr C rfl h dX6_question_8

def mX6_one_b103 (mo : (Int32 → Mem → Prop) → Mem → Prop) (post : Int32 → Mem → Prop) (S : Mem) (v1 : Int32) : Prop := ∀ S1 : Mem, S1 = wr S 10 0 12 ((S 10 0 12) - (1 : Int32)) → isB v1 ∧ post v1 S1
def mX6_one_b18 (mo : (Int32 → Mem → Prop) → Mem → Prop) (post : Int32 → Mem → Prop) (S : Mem) : Prop := ((¬ (S 10 0 12) = (4 : Int32) → (∀ S2 : Mem, S2 = wr S 10 0 12 ((S 10 0 12) + (1 : Int32)) → mX6_takes (fun (r4 : Int32) (S3 : Mem) => ((r4 = 0 → (mX6_takes (fun (r7 : Int32) (S6 : Mem) => ((r7 = 0 → (mX6_one_b103 mo post S6 (0 : Int32))) ∧ (¬ r7 = 0 → (mX6_question mo (fun (r10 : Int32) (S9 : Mem) => ((r10 = 0 → (mX6_one_b103 mo post S9 (0 : Int32))) ∧ (¬ r10 = 0 → (mX6_takes (fun (r13 : Int32) (S12 : Mem) => ((r13 = 0 → (mX6_one_b103 mo post S12 (0 : Int32))) ∧ (¬ r13 = 0 → (mX6_one_b103 mo post S12 (1 : Int32))))) S9 (93 : Int32))))) S6 )))) S3 (91 : Int32))) ∧ (¬ r4 = 0 → (mo (fun (r16 : Int32) (S15 : Mem) => ((r16 = 0 → (mX6_one_b103 mo post S15 (0 : Int32))) ∧ (¬ r16 = 0 → (mX6_codes (fun (r19 : Int32) (S18 : Mem) => ((r19 = 0 → (mX6_one_b103 mo post S18 (0 : Int32))) ∧ (¬ r19 = 0 → (mX6_one_b103 mo post S18 (1 : Int32))))) S15 (100 : Int32))))) S3 )))) S2 (45 : Int32))) ∧ ((S 10 0 12) = (4 : Int32) → (post (0 : Int32) S)))
def mX6_one_b157 (mo : (Int32 → Mem → Prop) → Mem → Prop) (post : Int32 → Mem → Prop) (S : Mem) (vt0 : Int32) : Prop := vp_in (S 10 0 11) 60 ∧ ∀ x2 : Int32, x2 = (S 17 0 (S 10 0 11).toNatClampNeg) → ((x2 = (99 : Int32) → (((¬ vt0 = (114 : Int32) → (mX6_word (fun (r6 : Int32) (S5 : Mem) => ((r6 = 0 → (post (0 : Int32) S5)) ∧ (¬ r6 = 0 → (mX6_codes (fun (r9 : Int32) (S8 : Mem) => ((r9 = 0 → (post (0 : Int32) S8)) ∧ (¬ r9 = 0 → (post (1 : Int32) S8)))) S5 (1 : Int32))))) S 13)) ∧ (vt0 = (114 : Int32) → (mX6_measure (fun (r12 : Int32) (S11 : Mem) => isB r12 ∧ post r12 S11) S 12 (6 : Int32)))))) ∧ (x2 = (100 : Int32) → (mX6_word (fun (r14 : Int32) (S13 : Mem) => ((r14 = 0 → (post (0 : Int32) S13)) ∧ (¬ r14 = 0 → (mX6_codes (fun (r17 : Int32) (S16 : Mem) => ((r17 = 0 → (post (0 : Int32) S16)) ∧ (¬ r17 = 0 → (post (1 : Int32) S16)))) S13 (2 : Int32))))) S 14)) ∧ (x2 = (101 : Int32) → (post (0 : Int32) S)) ∧ (x2 = (102 : Int32) → (mX6_word (fun (r20 : Int32) (S19 : Mem) => ((r20 = 0 → (post (0 : Int32) S19)) ∧ (¬ r20 = 0 → (mX6_codes (fun (r23 : Int32) (S22 : Mem) => ((r23 = 0 → (post (0 : Int32) S22)) ∧ (¬ r23 = 0 → (post (1 : Int32) S22)))) S19 (4 : Int32))))) S 16)) ∧ (x2 = (103 : Int32) → (post (0 : Int32) S)) ∧ (x2 = (104 : Int32) → (post (0 : Int32) S)) ∧ (x2 = (105 : Int32) → (post (0 : Int32) S)) ∧ (x2 = (106 : Int32) → (post (0 : Int32) S)) ∧ (x2 = (107 : Int32) → (post (0 : Int32) S)) ∧ (x2 = (108 : Int32) → (mX6_measure (fun (r26 : Int32) (S25 : Mem) => isB r26 ∧ post r26 S25) S 19 (0 : Int32))) ∧ (x2 = (109 : Int32) → (post (0 : Int32) S)) ∧ (x2 = (110 : Int32) → (mX6_word (fun (r28 : Int32) (S27 : Mem) => ((r28 = 0 → (post (0 : Int32) S27)) ∧ (¬ r28 = 0 → (mX6_codes (fun (r31 : Int32) (S30 : Mem) => ((r31 = 0 → (post (0 : Int32) S30)) ∧ (¬ r31 = 0 → (post (1 : Int32) S30)))) S27 (3 : Int32))))) S 15)) ∧ (x2 = (111 : Int32) → (mX6_word (fun (r34 : Int32) (S33 : Mem) => ((r34 = 0 → (post (0 : Int32) S33)) ∧ (¬ r34 = 0 → (mX6_codes (fun (r37 : Int32) (S36 : Mem) => ((r37 = 0 → (post (0 : Int32) S36)) ∧ (¬ r37 = 0 → (post (1 : Int32) S36)))) S33 (6 : Int32))))) S 18)) ∧ (x2 = (112 : Int32) → (post (0 : Int32) S)) ∧ (x2 = (113 : Int32) → (post (0 : Int32) S)) ∧ (x2 = (114 : Int32) → (post (0 : Int32) S)) ∧ (x2 = (115 : Int32) → (mX6_word (fun (r40 : Int32) (S39 : Mem) => ((r40 = 0 → (post (0 : Int32) S39)) ∧ (¬ r40 = 0 → (mX6_codes (fun (r43 : Int32) (S42 : Mem) => ((r43 = 0 → (post (0 : Int32) S42)) ∧ (¬ r43 = 0 → (post (1 : Int32) S42)))) S39 (5 : Int32))))) S 17)) ∧ (x2 = (116 : Int32) → (post (0 : Int32) S)) ∧ (x2 = (117 : Int32) → (post (0 : Int32) S)) ∧ (x2 = (118 : Int32) → (post (0 : Int32) S)) ∧ (x2 = (119 : Int32) → (((¬ vt0 = (101 : Int32) → (mX6_word (fun (r47 : Int32) (S46 : Mem) => ((r47 = 0 → (post (0 : Int32) S46)) ∧ (¬ r47 = 0 → (mX6_codes (fun (r50 : Int32) (S49 : Mem) => ((r50 = 0 → (post (0 : Int32) S49)) ∧ (¬ r50 = 0 → (post (1 : Int32) S49)))) S46 (0 : Int32))))) S 11)) ∧ (vt0 = (101 : Int32) → (mX6_measure (fun (r53 : Int32) (S52 : Mem) => isB r53 ∧ post r53 S52) S 10 (1 : Int32)))))) ∧ (¬ x2 = (99 : Int32) ∧ ¬ x2 = (100 : Int32) ∧ ¬ x2 = (101 : Int32) ∧ ¬ x2 = (102 : Int32) ∧ ¬ x2 = (103 : Int32) ∧ ¬ x2 = (104 : Int32) ∧ ¬ x2 = (105 : Int32) ∧ ¬ x2 = (106 : Int32) ∧ ¬ x2 = (107 : Int32) ∧ ¬ x2 = (108 : Int32) ∧ ¬ x2 = (109 : Int32) ∧ ¬ x2 = (110 : Int32) ∧ ¬ x2 = (111 : Int32) ∧ ¬ x2 = (112 : Int32) ∧ ¬ x2 = (113 : Int32) ∧ ¬ x2 = (114 : Int32) ∧ ¬ x2 = (115 : Int32) ∧ ¬ x2 = (116 : Int32) ∧ ¬ x2 = (117 : Int32) ∧ ¬ x2 = (118 : Int32) ∧ ¬ x2 = (119 : Int32) → (post (0 : Int32) S)))
def mX6_one : Nat → (Int32 → Mem → Prop) → Mem → Prop
  | 0, _, _ => False
  | d + 1, post, S => mX6_isNext (fun (r2 : Int32) (S1 : Mem) => ((¬ r2 = 0 → (mX6_one_b18 (mX6_one d) post S1 )) ∧ (r2 = 0 → (mX6_isNext (fun (r5 : Int32) (S4 : Mem) => ((r5 = 0 → (((¬ (S4 10 0 11) = (S4 10 0 10) → ((((S4 10 0 10) ≤ ((S4 10 0 11) + (1 : Int32)) → (mX6_one_b157 (mX6_one d) post S4 (32 : Int32))) ∧ (¬ (S4 10 0 10) ≤ ((S4 10 0 11) + (1 : Int32)) → (vp_in ((S4 10 0 11) + (1 : Int32)) 60 ∧ mX6_one_b157 (mX6_one d) post S4 (S4 17 0 (((S4 10 0 11) + (1 : Int32))).toNatClampNeg)))))) ∧ ((S4 10 0 11) = (S4 10 0 10) → (post (0 : Int32) S4))))) ∧ (¬ r5 = 0 → (mX6_one_b18 (mX6_one d) post S4 )))) S1 (91 : Int32))))) S (45 : Int32)
set_option maxRecDepth 100000 in
set_option maxHeartbeats 4000000 in
theorem bX6_one_103 {p : Program} {l : Launch} {e : Env} {s : State} {m : MethodId} {args : Array Value} {below : List Frame} {meth : Method} {c : Code} {D : va_G} {ky : Nat → ClassId} {ad : Nat → Nat} {ex : Nat → Nat → Nat} (F : Fx p s m args meth c D ky ad ex cX6_one 2 yX6_one.cls) (hr : meth.sig.returnType = (some .boolean)) {d : Nat} {mo : (Int32 → Mem → Prop) → Mem → Prop} (HO : ∀ (post : Int32 → Mem → Prop) (S : Mem), mo post S → CMi l D ky ad ex yX6_one cX6_one 2 (some .boolean) (rO6 d) 0 0 [.ref (ad 117)] S post) {post : Int32 → Mem → Prop} : ∀ (S : Mem) (v1 : Int32) (H : Heap) (locs : List Loc) (ls : Array Slot), mX6_one_b103 mo post S v1 → Cx D ky ad s S H locs → lv_has ls 2 [(0, .ref (ad 117)), (1, .int v1)] → W p l e (rO6 (d + 1)) s m args below meth c H locs 0 0 (MQ below (va_Qi post (AFT D ky ad) (AW ad s.heap.size)) args s 0 0 (AW ad s.heap.size)) (F0 m 103 ls []) := by
  intro S v1 H locs ls  h C hl
  unfold mX6_one_b103 at h
  refine lv_aload_n F.x F.b dX6_one_103 rfl (lv_at hl 0 rfl) ?_
  refine lv_dup F.x F.b dX6_one_104 rfl ?_
  refine getM F C 12 (by decide) q4_234 (v := .int (S 10 0 12)) rfl dX6_one_105 ?_
  refine lv_iconst (v := 1) F.x F.b dX6_one_108 (by decide) ?_
  refine lv_isub F.x F.b dX6_one_109 ?_
  refine putM F C 12 (by decide) q4_234 rfl (tyX6_ok 12 (by decide)) rfl rfl rfl dX6_one_110 (fun H locs C => ?_)
  obtain ⟨S1, eS1⟩ : ∃ z : Mem, z = wr S 10 0 12 ((S 10 0 12) - (1 : Int32)) := ⟨_, rfl⟩
  rw [← eS1] at C
  have h := h S1 eS1
  refine lv_iload_n F.x F.b dX6_one_113 rfl (lv_at hl 1 rfl) ?_
  exact retZ F hr C h.1.n h.2 dX6_one_114
set_option maxRecDepth 100000 in
set_option maxHeartbeats 4000000 in
theorem bX6_one_18 {p : Program} {l : Launch} {e : Env} {s : State} {m : MethodId} {args : Array Value} {below : List Frame} {meth : Method} {c : Code} {D : va_G} {ky : Nat → ClassId} {ad : Nat → Nat} {ex : Nat → Nat → Nat} (F : Fx p s m args meth c D ky ad ex cX6_one 2 yX6_one.cls) (hr : meth.sig.returnType = (some .boolean)) {d : Nat} {mo : (Int32 → Mem → Prop) → Mem → Prop} (HO : ∀ (post : Int32 → Mem → Prop) (S : Mem), mo post S → CMi l D ky ad ex yX6_one cX6_one 2 (some .boolean) (rO6 d) 0 0 [.ref (ad 117)] S post) {post : Int32 → Mem → Prop} : ∀ (S : Mem) (H : Heap) (locs : List Loc) (ls : Array Slot), mX6_one_b18 mo post S  → Cx D ky ad s S H locs → lv_has ls 2 [(0, .ref (ad 117))] → W p l e (rO6 (d + 1)) s m args below meth c H locs 0 0 (MQ below (va_Qi post (AFT D ky ad) (AW ad s.heap.size)) args s 0 0 (AW ad s.heap.size)) (F0 m 18 ls []) := by
  intro S  H locs ls  h C hl
  unfold mX6_one_b18 at h
  refine lv_aload_n F.x F.b dX6_one_18 rfl (lv_at hl 0 rfl) ?_
  refine getM F C 12 (by decide) q4_234 (v := .int (S 10 0 12)) rfl dX6_one_19 ?_
  refine lv_iconst (v := 4) F.x F.b dX6_one_22 (by decide) ?_
  refine lv_icmp_ne (tgt := 28) F.x F.b dX6_one_23 (by decide) (fun g1 => ?_) (fun g1 => ?_)
  · have h := h.1 g1
    refine lv_aload_n F.x F.b dX6_one_28 rfl (lv_at hl 0 rfl) ?_
    refine lv_dup F.x F.b dX6_one_29 rfl ?_
    refine getM F C 12 (by decide) q4_234 (v := .int (S 10 0 12)) rfl dX6_one_30 ?_
    refine lv_iconst (v := 1) F.x F.b dX6_one_33 (by decide) ?_
    refine lv_iadd F.x F.b dX6_one_34 ?_
    refine putM F C 12 (by decide) q4_234 rfl (tyX6_ok 12 (by decide)) rfl rfl rfl dX6_one_35 (fun H locs C => ?_)
    obtain ⟨S2, eS2⟩ : ∃ z : Mem, z = wr S 10 0 12 ((S 10 0 12) + (1 : Int32)) := ⟨_, rfl⟩
    rw [← eS2] at C
    have h := h S2 eS2
    refine lv_aload_n F.x F.b dX6_one_38 rfl (lv_at hl 0 rfl) ?_
    refine lv_bipush (v := 45) F.x F.b dX6_one_39 (by decide) ?_
    refine kI F C hl (kX6_takes  h) (by decide) (ce_M _) rfl wv_X6_180 ⟨rfl, rfl, ⟨(by first | exact Nat.le_of_ble_eq_true rfl | (simp only [rO6, rP6, rQ6, rmX6_takes]; omega)), (by first | exact Nat.le_of_ble_eq_true rfl | (simp only [rO6, rP6, rQ6, rmX6_takes]; omega))⟩, ⟨Nat.le_of_ble_eq_true rfl, Nat.le_of_ble_eq_true rfl⟩, Nat.le_of_ble_eq_true rfl⟩ (rest := []) rfl dX6_one_41 (fun r4 S3 H locs h C => ?_)
    refine lv_if_eq (tgt := 72) F.x F.b dX6_one_44 (by decide) (fun g5 => ?_) (fun g5 => ?_)
    · have h := h.1 g5
      refine lv_aload_n F.x F.b dX6_one_72 rfl (lv_at hl 0 rfl) ?_
      refine lv_bipush (v := 91) F.x F.b dX6_one_73 (by decide) ?_
      refine kI F C hl (kX6_takes  h) (by decide) (ce_M _) rfl wv_X6_180 ⟨rfl, rfl, ⟨(by first | exact Nat.le_of_ble_eq_true rfl | (simp only [rO6, rP6, rQ6, rmX6_takes]; omega)), (by first | exact Nat.le_of_ble_eq_true rfl | (simp only [rO6, rP6, rQ6, rmX6_takes]; omega))⟩, ⟨Nat.le_of_ble_eq_true rfl, Nat.le_of_ble_eq_true rfl⟩, Nat.le_of_ble_eq_true rfl⟩ (rest := []) rfl dX6_one_75 (fun r7 S6 H locs h C => ?_)
      refine lv_if_eq (tgt := 101) F.x F.b dX6_one_78 (by decide) (fun g8 => ?_) (fun g8 => ?_)
      · have h := h.1 g8
        refine lv_iconst (v := 0) F.x F.b dX6_one_101 (by decide) ?_
        refine lv_istore_n (lv' := [(1, .int (0 : Int32)), (0, .ref (ad 117))]) F.x F.b dX6_one_102 rfl hl (by decide) rfl (fun ls hl => ?_)
        exact bX6_one_103 F hr HO S6 (0 : Int32) _ _ _ h C (lv_sub hl [1, 0] rfl)
      · have h := h.2 g8
        refine lv_aload_n F.x F.b dX6_one_81 rfl (lv_at hl 0 rfl) ?_
        refine kI F C hl (kX6_question HO h) (by decide) (ce_M _) rfl wv_X6_199 ⟨rfl, rfl, ⟨(by first | exact Nat.le_of_ble_eq_true rfl | (simp only [rO6, rP6, rQ6]; omega)), (by first | exact Nat.le_of_ble_eq_true rfl | (simp only [rO6, rP6, rQ6]; omega))⟩, ⟨Nat.le_of_ble_eq_true rfl, Nat.le_of_ble_eq_true rfl⟩, Nat.le_of_ble_eq_true rfl⟩ (rest := []) rfl dX6_one_82 (fun r10 S9 H locs h C => ?_)
        refine lv_if_eq (tgt := 101) F.x F.b dX6_one_85 (by decide) (fun g11 => ?_) (fun g11 => ?_)
        · have h := h.1 g11
          refine lv_iconst (v := 0) F.x F.b dX6_one_101 (by decide) ?_
          refine lv_istore_n (lv' := [(1, .int (0 : Int32)), (0, .ref (ad 117))]) F.x F.b dX6_one_102 rfl hl (by decide) rfl (fun ls hl => ?_)
          exact bX6_one_103 F hr HO S9 (0 : Int32) _ _ _ h C (lv_sub hl [1, 0] rfl)
        · have h := h.2 g11
          refine lv_aload_n F.x F.b dX6_one_88 rfl (lv_at hl 0 rfl) ?_
          refine lv_bipush (v := 93) F.x F.b dX6_one_89 (by decide) ?_
          refine kI F C hl (kX6_takes  h) (by decide) (ce_M _) rfl wv_X6_180 ⟨rfl, rfl, ⟨(by first | exact Nat.le_of_ble_eq_true rfl | (simp only [rO6, rP6, rQ6, rmX6_takes]; omega)), (by first | exact Nat.le_of_ble_eq_true rfl | (simp only [rO6, rP6, rQ6, rmX6_takes]; omega))⟩, ⟨Nat.le_of_ble_eq_true rfl, Nat.le_of_ble_eq_true rfl⟩, Nat.le_of_ble_eq_true rfl⟩ (rest := []) rfl dX6_one_91 (fun r13 S12 H locs h C => ?_)
          refine lv_if_eq (tgt := 101) F.x F.b dX6_one_94 (by decide) (fun g14 => ?_) (fun g14 => ?_)
          · have h := h.1 g14
            refine lv_iconst (v := 0) F.x F.b dX6_one_101 (by decide) ?_
            refine lv_istore_n (lv' := [(1, .int (0 : Int32)), (0, .ref (ad 117))]) F.x F.b dX6_one_102 rfl hl (by decide) rfl (fun ls hl => ?_)
            exact bX6_one_103 F hr HO S12 (0 : Int32) _ _ _ h C (lv_sub hl [1, 0] rfl)
          · have h := h.2 g14
            refine lv_iconst (v := 1) F.x F.b dX6_one_97 (by decide) ?_
            refine lv_goto (tgt := 102) F.x F.b dX6_one_98 (by decide) ?_
            refine lv_istore_n (lv' := [(1, .int (1 : Int32)), (0, .ref (ad 117))]) F.x F.b dX6_one_102 rfl hl (by decide) rfl (fun ls hl => ?_)
            exact bX6_one_103 F hr HO S12 (1 : Int32) _ _ _ h C (lv_sub hl [1, 0] rfl)
    · have h := h.2 g5
      refine lv_aload_n F.x F.b dX6_one_47 rfl (lv_at hl 0 rfl) ?_
      refine kI F C hl (HO _ _ h) (by decide) (ce_M _) rfl wv_X6_195 ⟨rfl, rfl, ⟨(by first | exact Nat.le_of_ble_eq_true rfl | (simp only [rO6, rP6, rQ6]; omega)), (by first | exact Nat.le_of_ble_eq_true rfl | (simp only [rO6, rP6, rQ6]; omega))⟩, ⟨Nat.le_of_ble_eq_true rfl, Nat.le_of_ble_eq_true rfl⟩, Nat.le_of_ble_eq_true rfl⟩ (rest := []) rfl dX6_one_48 (fun r16 S15 H locs h C => ?_)
      refine lv_if_eq (tgt := 67) F.x F.b dX6_one_51 (by decide) (fun g17 => ?_) (fun g17 => ?_)
      · have h := h.1 g17
        refine lv_iconst (v := 0) F.x F.b dX6_one_67 (by decide) ?_
        refine lv_istore_n (lv' := [(1, .int (0 : Int32)), (0, .ref (ad 117))]) F.x F.b dX6_one_68 rfl hl (by decide) rfl (fun ls hl => ?_)
        refine lv_goto (tgt := 103) F.x F.b dX6_one_69 (by decide) ?_
        exact bX6_one_103 F hr HO S15 (0 : Int32) _ _ _ h C (lv_sub hl [1, 0] rfl)
      · have h := h.2 g17
        refine lv_aload_n F.x F.b dX6_one_54 rfl (lv_at hl 0 rfl) ?_
        refine lv_bipush (v := 100) F.x F.b dX6_one_55 (by decide) ?_
        refine kI F C hl (kX6_codes  h) (by decide) (ce_M _) rfl wv_X6_190 ⟨rfl, rfl, ⟨(by first | exact Nat.le_of_ble_eq_true rfl | (simp only [rO6, rP6, rQ6, rmX6_codes]; omega)), (by first | exact Nat.le_of_ble_eq_true rfl | (simp only [rO6, rP6, rQ6, rmX6_codes]; omega))⟩, ⟨Nat.le_of_ble_eq_true rfl, Nat.le_of_ble_eq_true rfl⟩, Nat.le_of_ble_eq_true rfl⟩ (rest := []) rfl dX6_one_57 (fun r19 S18 H locs h C => ?_)
        refine lv_if_eq (tgt := 67) F.x F.b dX6_one_60 (by decide) (fun g20 => ?_) (fun g20 => ?_)
        · have h := h.1 g20
          refine lv_iconst (v := 0) F.x F.b dX6_one_67 (by decide) ?_
          refine lv_istore_n (lv' := [(1, .int (0 : Int32)), (0, .ref (ad 117))]) F.x F.b dX6_one_68 rfl hl (by decide) rfl (fun ls hl => ?_)
          refine lv_goto (tgt := 103) F.x F.b dX6_one_69 (by decide) ?_
          exact bX6_one_103 F hr HO S18 (0 : Int32) _ _ _ h C (lv_sub hl [1, 0] rfl)
        · have h := h.2 g20
          refine lv_iconst (v := 1) F.x F.b dX6_one_63 (by decide) ?_
          refine lv_goto (tgt := 68) F.x F.b dX6_one_64 (by decide) ?_
          refine lv_istore_n (lv' := [(1, .int (1 : Int32)), (0, .ref (ad 117))]) F.x F.b dX6_one_68 rfl hl (by decide) rfl (fun ls hl => ?_)
          refine lv_goto (tgt := 103) F.x F.b dX6_one_69 (by decide) ?_
          exact bX6_one_103 F hr HO S18 (1 : Int32) _ _ _ h C (lv_sub hl [1, 0] rfl)
  · have h := h.2 g1
    refine lv_iconst (v := 0) F.x F.b dX6_one_26 (by decide) ?_
    exact retZ F hr C rfl h dX6_one_27
set_option maxRecDepth 100000 in
set_option maxHeartbeats 4000000 in
theorem bX6_one_157 {p : Program} {l : Launch} {e : Env} {s : State} {m : MethodId} {args : Array Value} {below : List Frame} {meth : Method} {c : Code} {D : va_G} {ky : Nat → ClassId} {ad : Nat → Nat} {ex : Nat → Nat → Nat} (F : Fx p s m args meth c D ky ad ex cX6_one 2 yX6_one.cls) (hr : meth.sig.returnType = (some .boolean)) {d : Nat} {mo : (Int32 → Mem → Prop) → Mem → Prop} (HO : ∀ (post : Int32 → Mem → Prop) (S : Mem), mo post S → CMi l D ky ad ex yX6_one cX6_one 2 (some .boolean) (rO6 d) 0 0 [.ref (ad 117)] S post) {post : Int32 → Mem → Prop} : ∀ (S : Mem) (vt0 : Int32) (H : Heap) (locs : List Loc) (ls : Array Slot), mX6_one_b157 mo post S vt0 → Cx D ky ad s S H locs → lv_has ls 2 [(0, .ref (ad 117))] → W p l e (rO6 (d + 1)) s m args below meth c H locs 0 0 (MQ below (va_Qi post (AFT D ky ad) (AW ad s.heap.size)) args s 0 0 (AW ad s.heap.size)) (F0 m 157 ls [.int vt0]) := by
  intro S vt0 H locs ls  h C hl
  unfold mX6_one_b157 at h
  refine lv_istore_n (lv' := [(1, .int vt0), (0, .ref (ad 117))]) F.x F.b dX6_one_157 rfl hl (by decide) rfl (fun ls hl => ?_)
  refine lv_aload_n F.x F.b dX6_one_158 rfl (lv_at hl 1 rfl) ?_
  refine getM F C 9 (by decide) q4_231 (v := .ref (ad 124)) rfl dX6_one_159 ?_
  refine lv_aload_n F.x F.b dX6_one_162 rfl (lv_at hl 1 rfl) ?_
  refine getM F C 11 (by decide) q4_233 (v := .int (S 10 0 11)) rfl dX6_one_163 ?_
  obtain ⟨g1, h⟩ := h
  refine aldC F C (o := 124) (cq := 17) (iq := 0) (by decide) rfl rfl rfl g1 dX6_one_166 ?_
  refine lv_topi (fun x2 ex2 => ?_)
  have h := h x2 ex2
  by_cases g3 : x2 = (99 : Int32)
  · have h := h.1 g3
    refine lv_tableIn (tgt := 303) F.x F.b dX6_one_167 (by rw [g3]; decide) (by rw [g3]; decide) (by rw [g3]; rfl) (by decide) ?_
    refine lv_iload_n F.x F.b dX6_one_303 rfl (lv_at hl 0 rfl) ?_
    refine lv_bipush (v := 114) F.x F.b dX6_one_304 (by decide) ?_
    refine lv_icmp_ne (tgt := 320) F.x F.b dX6_one_306 (by decide) (fun g4 => ?_) (fun g4 => ?_)
    · have h := h.1 g4
      refine lv_aload_n F.x F.b dX6_one_320 rfl (lv_at hl 1 rfl) ?_
      refine ldS F 3 (by decide) rfl dX6_one_321 ?_
      refine kI F C hl (kX6_word  (by decide) h) (by decide) (ce_M _) rfl wv_X6_186 ⟨rfl, rfl, ⟨(by first | exact Nat.le_of_ble_eq_true rfl | (simp only [rO6, rP6, rQ6, rmX6_word]; omega)), (by first | exact Nat.le_of_ble_eq_true rfl | (simp only [rO6, rP6, rQ6, rmX6_word]; omega))⟩, ⟨Nat.le_of_ble_eq_true rfl, Nat.le_of_ble_eq_true rfl⟩, Nat.le_of_ble_eq_true rfl⟩ (rest := []) rfl dX6_one_323 (fun r6 S5 H locs h C => ?_)
      refine lv_if_eq (tgt := 341) F.x F.b dX6_one_326 (by decide) (fun g7 => ?_) (fun g7 => ?_)
      · have h := h.1 g7
        refine lv_iconst (v := 0) F.x F.b dX6_one_341 (by decide) ?_
        exact retZ F hr C rfl h dX6_one_342
      · have h := h.2 g7
        refine lv_aload_n F.x F.b dX6_one_329 rfl (lv_at hl 1 rfl) ?_
        refine lv_iconst (v := 1) F.x F.b dX6_one_330 (by decide) ?_
        refine kI F C hl (kX6_codes  h) (by decide) (ce_M _) rfl wv_X6_190 ⟨rfl, rfl, ⟨(by first | exact Nat.le_of_ble_eq_true rfl | (simp only [rO6, rP6, rQ6, rmX6_codes]; omega)), (by first | exact Nat.le_of_ble_eq_true rfl | (simp only [rO6, rP6, rQ6, rmX6_codes]; omega))⟩, ⟨Nat.le_of_ble_eq_true rfl, Nat.le_of_ble_eq_true rfl⟩, Nat.le_of_ble_eq_true rfl⟩ (rest := []) rfl dX6_one_331 (fun r9 S8 H locs h C => ?_)
        refine lv_if_eq (tgt := 341) F.x F.b dX6_one_334 (by decide) (fun g10 => ?_) (fun g10 => ?_)
        · have h := h.1 g10
          refine lv_iconst (v := 0) F.x F.b dX6_one_341 (by decide) ?_
          exact retZ F hr C rfl h dX6_one_342
        · have h := h.2 g10
          refine lv_iconst (v := 1) F.x F.b dX6_one_337 (by decide) ?_
          refine lv_goto (tgt := 342) F.x F.b dX6_one_338 (by decide) ?_
          exact retZ F hr C rfl h dX6_one_342
    · have h := h.2 g4
      refine lv_aload_n F.x F.b dX6_one_309 rfl (lv_at hl 1 rfl) ?_
      refine ldS F 2 (by decide) rfl dX6_one_310 ?_
      refine lv_bipush (v := 6) F.x F.b dX6_one_312 (by decide) ?_
      refine kI F C hl (kX6_measure  (by decide) h) (by decide) (ce_M _) rfl wv_X6_204 ⟨rfl, rfl, ⟨(by first | exact Nat.le_of_ble_eq_true rfl | (simp only [rO6, rP6, rQ6, rmX6_measure]; omega)), (by first | exact Nat.le_of_ble_eq_true rfl | (simp only [rO6, rP6, rQ6, rmX6_measure]; omega))⟩, ⟨Nat.le_of_ble_eq_true rfl, Nat.le_of_ble_eq_true rfl⟩, Nat.le_of_ble_eq_true rfl⟩ (rest := []) rfl dX6_one_314 (fun r12 S11 H locs h C => ?_)
      refine lv_goto (tgt := 342) F.x F.b dX6_one_317 (by decide) ?_
      exact retZ F hr C h.1.n h.2 dX6_one_342
  · have ng3_0 := g3
    by_cases g3 : x2 = (100 : Int32)
    · have h := h.2.1 g3
      refine lv_tableIn (tgt := 343) F.x F.b dX6_one_167 (by rw [g3]; decide) (by rw [g3]; decide) (by rw [g3]; rfl) (by decide) ?_
      refine lv_aload_n F.x F.b dX6_one_343 rfl (lv_at hl 1 rfl) ?_
      refine ldS F 4 (by decide) rfl dX6_one_344 ?_
      refine kI F C hl (kX6_word  (by decide) h) (by decide) (ce_M _) rfl wv_X6_186 ⟨rfl, rfl, ⟨(by first | exact Nat.le_of_ble_eq_true rfl | (simp only [rO6, rP6, rQ6, rmX6_word]; omega)), (by first | exact Nat.le_of_ble_eq_true rfl | (simp only [rO6, rP6, rQ6, rmX6_word]; omega))⟩, ⟨Nat.le_of_ble_eq_true rfl, Nat.le_of_ble_eq_true rfl⟩, Nat.le_of_ble_eq_true rfl⟩ (rest := []) rfl dX6_one_346 (fun r14 S13 H locs h C => ?_)
      refine lv_if_eq (tgt := 364) F.x F.b dX6_one_349 (by decide) (fun g15 => ?_) (fun g15 => ?_)
      · have h := h.1 g15
        refine lv_iconst (v := 0) F.x F.b dX6_one_364 (by decide) ?_
        exact retZ F hr C rfl h dX6_one_365
      · have h := h.2 g15
        refine lv_aload_n F.x F.b dX6_one_352 rfl (lv_at hl 1 rfl) ?_
        refine lv_iconst (v := 2) F.x F.b dX6_one_353 (by decide) ?_
        refine kI F C hl (kX6_codes  h) (by decide) (ce_M _) rfl wv_X6_190 ⟨rfl, rfl, ⟨(by first | exact Nat.le_of_ble_eq_true rfl | (simp only [rO6, rP6, rQ6, rmX6_codes]; omega)), (by first | exact Nat.le_of_ble_eq_true rfl | (simp only [rO6, rP6, rQ6, rmX6_codes]; omega))⟩, ⟨Nat.le_of_ble_eq_true rfl, Nat.le_of_ble_eq_true rfl⟩, Nat.le_of_ble_eq_true rfl⟩ (rest := []) rfl dX6_one_354 (fun r17 S16 H locs h C => ?_)
        refine lv_if_eq (tgt := 364) F.x F.b dX6_one_357 (by decide) (fun g18 => ?_) (fun g18 => ?_)
        · have h := h.1 g18
          refine lv_iconst (v := 0) F.x F.b dX6_one_364 (by decide) ?_
          exact retZ F hr C rfl h dX6_one_365
        · have h := h.2 g18
          refine lv_iconst (v := 1) F.x F.b dX6_one_360 (by decide) ?_
          refine lv_goto (tgt := 365) F.x F.b dX6_one_361 (by decide) ?_
          exact retZ F hr C rfl h dX6_one_365
    · have ng3_1 := g3
      by_cases g3 : x2 = (101 : Int32)
      · have h := h.2.2.1 g3
        refine lv_tableIn (tgt := 467) F.x F.b dX6_one_167 (by rw [g3]; decide) (by rw [g3]; decide) (by rw [g3]; rfl) (by decide) ?_
        refine lv_iconst (v := 0) F.x F.b dX6_one_467 (by decide) ?_
        exact retZ F hr C rfl h dX6_one_468
      · have ng3_2 := g3
        by_cases g3 : x2 = (102 : Int32)
        · have h := h.2.2.2.1 g3
          refine lv_tableIn (tgt := 389) F.x F.b dX6_one_167 (by rw [g3]; decide) (by rw [g3]; decide) (by rw [g3]; rfl) (by decide) ?_
          refine lv_aload_n F.x F.b dX6_one_389 rfl (lv_at hl 1 rfl) ?_
          refine ldS F 6 (by decide) rfl dX6_one_390 ?_
          refine kI F C hl (kX6_word  (by decide) h) (by decide) (ce_M _) rfl wv_X6_186 ⟨rfl, rfl, ⟨(by first | exact Nat.le_of_ble_eq_true rfl | (simp only [rO6, rP6, rQ6, rmX6_word]; omega)), (by first | exact Nat.le_of_ble_eq_true rfl | (simp only [rO6, rP6, rQ6, rmX6_word]; omega))⟩, ⟨Nat.le_of_ble_eq_true rfl, Nat.le_of_ble_eq_true rfl⟩, Nat.le_of_ble_eq_true rfl⟩ (rest := []) rfl dX6_one_392 (fun r20 S19 H locs h C => ?_)
          refine lv_if_eq (tgt := 410) F.x F.b dX6_one_395 (by decide) (fun g21 => ?_) (fun g21 => ?_)
          · have h := h.1 g21
            refine lv_iconst (v := 0) F.x F.b dX6_one_410 (by decide) ?_
            exact retZ F hr C rfl h dX6_one_411
          · have h := h.2 g21
            refine lv_aload_n F.x F.b dX6_one_398 rfl (lv_at hl 1 rfl) ?_
            refine lv_iconst (v := 4) F.x F.b dX6_one_399 (by decide) ?_
            refine kI F C hl (kX6_codes  h) (by decide) (ce_M _) rfl wv_X6_190 ⟨rfl, rfl, ⟨(by first | exact Nat.le_of_ble_eq_true rfl | (simp only [rO6, rP6, rQ6, rmX6_codes]; omega)), (by first | exact Nat.le_of_ble_eq_true rfl | (simp only [rO6, rP6, rQ6, rmX6_codes]; omega))⟩, ⟨Nat.le_of_ble_eq_true rfl, Nat.le_of_ble_eq_true rfl⟩, Nat.le_of_ble_eq_true rfl⟩ (rest := []) rfl dX6_one_400 (fun r23 S22 H locs h C => ?_)
            refine lv_if_eq (tgt := 410) F.x F.b dX6_one_403 (by decide) (fun g24 => ?_) (fun g24 => ?_)
            · have h := h.1 g24
              refine lv_iconst (v := 0) F.x F.b dX6_one_410 (by decide) ?_
              exact retZ F hr C rfl h dX6_one_411
            · have h := h.2 g24
              refine lv_iconst (v := 1) F.x F.b dX6_one_406 (by decide) ?_
              refine lv_goto (tgt := 411) F.x F.b dX6_one_407 (by decide) ?_
              exact retZ F hr C rfl h dX6_one_411
        · have ng3_3 := g3
          by_cases g3 : x2 = (103 : Int32)
          · have h := h.2.2.2.2.1 g3
            refine lv_tableIn (tgt := 467) F.x F.b dX6_one_167 (by rw [g3]; decide) (by rw [g3]; decide) (by rw [g3]; rfl) (by decide) ?_
            refine lv_iconst (v := 0) F.x F.b dX6_one_467 (by decide) ?_
            exact retZ F hr C rfl h dX6_one_468
          · have ng3_4 := g3
            by_cases g3 : x2 = (104 : Int32)
            · have h := h.2.2.2.2.2.1 g3
              refine lv_tableIn (tgt := 467) F.x F.b dX6_one_167 (by rw [g3]; decide) (by rw [g3]; decide) (by rw [g3]; rfl) (by decide) ?_
              refine lv_iconst (v := 0) F.x F.b dX6_one_467 (by decide) ?_
              exact retZ F hr C rfl h dX6_one_468
            · have ng3_5 := g3
              by_cases g3 : x2 = (105 : Int32)
              · have h := h.2.2.2.2.2.2.1 g3
                refine lv_tableIn (tgt := 467) F.x F.b dX6_one_167 (by rw [g3]; decide) (by rw [g3]; decide) (by rw [g3]; rfl) (by decide) ?_
                refine lv_iconst (v := 0) F.x F.b dX6_one_467 (by decide) ?_
                exact retZ F hr C rfl h dX6_one_468
              · have ng3_6 := g3
                by_cases g3 : x2 = (106 : Int32)
                · have h := h.2.2.2.2.2.2.2.1 g3
                  refine lv_tableIn (tgt := 467) F.x F.b dX6_one_167 (by rw [g3]; decide) (by rw [g3]; decide) (by rw [g3]; rfl) (by decide) ?_
                  refine lv_iconst (v := 0) F.x F.b dX6_one_467 (by decide) ?_
                  exact retZ F hr C rfl h dX6_one_468
                · have ng3_7 := g3
                  by_cases g3 : x2 = (107 : Int32)
                  · have h := h.2.2.2.2.2.2.2.2.1 g3
                    refine lv_tableIn (tgt := 467) F.x F.b dX6_one_167 (by rw [g3]; decide) (by rw [g3]; decide) (by rw [g3]; rfl) (by decide) ?_
                    refine lv_iconst (v := 0) F.x F.b dX6_one_467 (by decide) ?_
                    exact retZ F hr C rfl h dX6_one_468
                  · have ng3_8 := g3
                    by_cases g3 : x2 = (108 : Int32)
                    · have h := h.2.2.2.2.2.2.2.2.2.1 g3
                      refine lv_tableIn (tgt := 459) F.x F.b dX6_one_167 (by rw [g3]; decide) (by rw [g3]; decide) (by rw [g3]; rfl) (by decide) ?_
                      refine lv_aload_n F.x F.b dX6_one_459 rfl (lv_at hl 1 rfl) ?_
                      refine ldS F 9 (by decide) rfl dX6_one_460 ?_
                      refine lv_iconst (v := 0) F.x F.b dX6_one_462 (by decide) ?_
                      refine kI F C hl (kX6_measure  (by decide) h) (by decide) (ce_M _) rfl wv_X6_204 ⟨rfl, rfl, ⟨(by first | exact Nat.le_of_ble_eq_true rfl | (simp only [rO6, rP6, rQ6, rmX6_measure]; omega)), (by first | exact Nat.le_of_ble_eq_true rfl | (simp only [rO6, rP6, rQ6, rmX6_measure]; omega))⟩, ⟨Nat.le_of_ble_eq_true rfl, Nat.le_of_ble_eq_true rfl⟩, Nat.le_of_ble_eq_true rfl⟩ (rest := []) rfl dX6_one_463 (fun r26 S25 H locs h C => ?_)
                      exact retZ F hr C h.1.n h.2 dX6_one_466
                    · have ng3_9 := g3
                      by_cases g3 : x2 = (109 : Int32)
                      · have h := h.2.2.2.2.2.2.2.2.2.2.1 g3
                        refine lv_tableIn (tgt := 467) F.x F.b dX6_one_167 (by rw [g3]; decide) (by rw [g3]; decide) (by rw [g3]; rfl) (by decide) ?_
                        refine lv_iconst (v := 0) F.x F.b dX6_one_467 (by decide) ?_
                        exact retZ F hr C rfl h dX6_one_468
                      · have ng3_10 := g3
                        by_cases g3 : x2 = (110 : Int32)
                        · have h := h.2.2.2.2.2.2.2.2.2.2.2.1 g3
                          refine lv_tableIn (tgt := 366) F.x F.b dX6_one_167 (by rw [g3]; decide) (by rw [g3]; decide) (by rw [g3]; rfl) (by decide) ?_
                          refine lv_aload_n F.x F.b dX6_one_366 rfl (lv_at hl 1 rfl) ?_
                          refine ldS F 5 (by decide) rfl dX6_one_367 ?_
                          refine kI F C hl (kX6_word  (by decide) h) (by decide) (ce_M _) rfl wv_X6_186 ⟨rfl, rfl, ⟨(by first | exact Nat.le_of_ble_eq_true rfl | (simp only [rO6, rP6, rQ6, rmX6_word]; omega)), (by first | exact Nat.le_of_ble_eq_true rfl | (simp only [rO6, rP6, rQ6, rmX6_word]; omega))⟩, ⟨Nat.le_of_ble_eq_true rfl, Nat.le_of_ble_eq_true rfl⟩, Nat.le_of_ble_eq_true rfl⟩ (rest := []) rfl dX6_one_369 (fun r28 S27 H locs h C => ?_)
                          refine lv_if_eq (tgt := 387) F.x F.b dX6_one_372 (by decide) (fun g29 => ?_) (fun g29 => ?_)
                          · have h := h.1 g29
                            refine lv_iconst (v := 0) F.x F.b dX6_one_387 (by decide) ?_
                            exact retZ F hr C rfl h dX6_one_388
                          · have h := h.2 g29
                            refine lv_aload_n F.x F.b dX6_one_375 rfl (lv_at hl 1 rfl) ?_
                            refine lv_iconst (v := 3) F.x F.b dX6_one_376 (by decide) ?_
                            refine kI F C hl (kX6_codes  h) (by decide) (ce_M _) rfl wv_X6_190 ⟨rfl, rfl, ⟨(by first | exact Nat.le_of_ble_eq_true rfl | (simp only [rO6, rP6, rQ6, rmX6_codes]; omega)), (by first | exact Nat.le_of_ble_eq_true rfl | (simp only [rO6, rP6, rQ6, rmX6_codes]; omega))⟩, ⟨Nat.le_of_ble_eq_true rfl, Nat.le_of_ble_eq_true rfl⟩, Nat.le_of_ble_eq_true rfl⟩ (rest := []) rfl dX6_one_377 (fun r31 S30 H locs h C => ?_)
                            refine lv_if_eq (tgt := 387) F.x F.b dX6_one_380 (by decide) (fun g32 => ?_) (fun g32 => ?_)
                            · have h := h.1 g32
                              refine lv_iconst (v := 0) F.x F.b dX6_one_387 (by decide) ?_
                              exact retZ F hr C rfl h dX6_one_388
                            · have h := h.2 g32
                              refine lv_iconst (v := 1) F.x F.b dX6_one_383 (by decide) ?_
                              refine lv_goto (tgt := 388) F.x F.b dX6_one_384 (by decide) ?_
                              exact retZ F hr C rfl h dX6_one_388
                        · have ng3_11 := g3
                          by_cases g3 : x2 = (111 : Int32)
                          · have h := h.2.2.2.2.2.2.2.2.2.2.2.2.1 g3
                            refine lv_tableIn (tgt := 435) F.x F.b dX6_one_167 (by rw [g3]; decide) (by rw [g3]; decide) (by rw [g3]; rfl) (by decide) ?_
                            refine lv_aload_n F.x F.b dX6_one_435 rfl (lv_at hl 1 rfl) ?_
                            refine ldS F 8 (by decide) rfl dX6_one_436 ?_
                            refine kI F C hl (kX6_word  (by decide) h) (by decide) (ce_M _) rfl wv_X6_186 ⟨rfl, rfl, ⟨(by first | exact Nat.le_of_ble_eq_true rfl | (simp only [rO6, rP6, rQ6, rmX6_word]; omega)), (by first | exact Nat.le_of_ble_eq_true rfl | (simp only [rO6, rP6, rQ6, rmX6_word]; omega))⟩, ⟨Nat.le_of_ble_eq_true rfl, Nat.le_of_ble_eq_true rfl⟩, Nat.le_of_ble_eq_true rfl⟩ (rest := []) rfl dX6_one_438 (fun r34 S33 H locs h C => ?_)
                            refine lv_if_eq (tgt := 457) F.x F.b dX6_one_441 (by decide) (fun g35 => ?_) (fun g35 => ?_)
                            · have h := h.1 g35
                              refine lv_iconst (v := 0) F.x F.b dX6_one_457 (by decide) ?_
                              exact retZ F hr C rfl h dX6_one_458
                            · have h := h.2 g35
                              refine lv_aload_n F.x F.b dX6_one_444 rfl (lv_at hl 1 rfl) ?_
                              refine lv_bipush (v := 6) F.x F.b dX6_one_445 (by decide) ?_
                              refine kI F C hl (kX6_codes  h) (by decide) (ce_M _) rfl wv_X6_190 ⟨rfl, rfl, ⟨(by first | exact Nat.le_of_ble_eq_true rfl | (simp only [rO6, rP6, rQ6, rmX6_codes]; omega)), (by first | exact Nat.le_of_ble_eq_true rfl | (simp only [rO6, rP6, rQ6, rmX6_codes]; omega))⟩, ⟨Nat.le_of_ble_eq_true rfl, Nat.le_of_ble_eq_true rfl⟩, Nat.le_of_ble_eq_true rfl⟩ (rest := []) rfl dX6_one_447 (fun r37 S36 H locs h C => ?_)
                              refine lv_if_eq (tgt := 457) F.x F.b dX6_one_450 (by decide) (fun g38 => ?_) (fun g38 => ?_)
                              · have h := h.1 g38
                                refine lv_iconst (v := 0) F.x F.b dX6_one_457 (by decide) ?_
                                exact retZ F hr C rfl h dX6_one_458
                              · have h := h.2 g38
                                refine lv_iconst (v := 1) F.x F.b dX6_one_453 (by decide) ?_
                                refine lv_goto (tgt := 458) F.x F.b dX6_one_454 (by decide) ?_
                                exact retZ F hr C rfl h dX6_one_458
                          · have ng3_12 := g3
                            by_cases g3 : x2 = (112 : Int32)
                            · have h := h.2.2.2.2.2.2.2.2.2.2.2.2.2.1 g3
                              refine lv_tableIn (tgt := 467) F.x F.b dX6_one_167 (by rw [g3]; decide) (by rw [g3]; decide) (by rw [g3]; rfl) (by decide) ?_
                              refine lv_iconst (v := 0) F.x F.b dX6_one_467 (by decide) ?_
                              exact retZ F hr C rfl h dX6_one_468
                            · have ng3_13 := g3
                              by_cases g3 : x2 = (113 : Int32)
                              · have h := h.2.2.2.2.2.2.2.2.2.2.2.2.2.2.1 g3
                                refine lv_tableIn (tgt := 467) F.x F.b dX6_one_167 (by rw [g3]; decide) (by rw [g3]; decide) (by rw [g3]; rfl) (by decide) ?_
                                refine lv_iconst (v := 0) F.x F.b dX6_one_467 (by decide) ?_
                                exact retZ F hr C rfl h dX6_one_468
                              · have ng3_14 := g3
                                by_cases g3 : x2 = (114 : Int32)
                                · have h := h.2.2.2.2.2.2.2.2.2.2.2.2.2.2.2.1 g3
                                  refine lv_tableIn (tgt := 467) F.x F.b dX6_one_167 (by rw [g3]; decide) (by rw [g3]; decide) (by rw [g3]; rfl) (by decide) ?_
                                  refine lv_iconst (v := 0) F.x F.b dX6_one_467 (by decide) ?_
                                  exact retZ F hr C rfl h dX6_one_468
                                · have ng3_15 := g3
                                  by_cases g3 : x2 = (115 : Int32)
                                  · have h := h.2.2.2.2.2.2.2.2.2.2.2.2.2.2.2.2.1 g3
                                    refine lv_tableIn (tgt := 412) F.x F.b dX6_one_167 (by rw [g3]; decide) (by rw [g3]; decide) (by rw [g3]; rfl) (by decide) ?_
                                    refine lv_aload_n F.x F.b dX6_one_412 rfl (lv_at hl 1 rfl) ?_
                                    refine ldS F 7 (by decide) rfl dX6_one_413 ?_
                                    refine kI F C hl (kX6_word  (by decide) h) (by decide) (ce_M _) rfl wv_X6_186 ⟨rfl, rfl, ⟨(by first | exact Nat.le_of_ble_eq_true rfl | (simp only [rO6, rP6, rQ6, rmX6_word]; omega)), (by first | exact Nat.le_of_ble_eq_true rfl | (simp only [rO6, rP6, rQ6, rmX6_word]; omega))⟩, ⟨Nat.le_of_ble_eq_true rfl, Nat.le_of_ble_eq_true rfl⟩, Nat.le_of_ble_eq_true rfl⟩ (rest := []) rfl dX6_one_415 (fun r40 S39 H locs h C => ?_)
                                    refine lv_if_eq (tgt := 433) F.x F.b dX6_one_418 (by decide) (fun g41 => ?_) (fun g41 => ?_)
                                    · have h := h.1 g41
                                      refine lv_iconst (v := 0) F.x F.b dX6_one_433 (by decide) ?_
                                      exact retZ F hr C rfl h dX6_one_434
                                    · have h := h.2 g41
                                      refine lv_aload_n F.x F.b dX6_one_421 rfl (lv_at hl 1 rfl) ?_
                                      refine lv_iconst (v := 5) F.x F.b dX6_one_422 (by decide) ?_
                                      refine kI F C hl (kX6_codes  h) (by decide) (ce_M _) rfl wv_X6_190 ⟨rfl, rfl, ⟨(by first | exact Nat.le_of_ble_eq_true rfl | (simp only [rO6, rP6, rQ6, rmX6_codes]; omega)), (by first | exact Nat.le_of_ble_eq_true rfl | (simp only [rO6, rP6, rQ6, rmX6_codes]; omega))⟩, ⟨Nat.le_of_ble_eq_true rfl, Nat.le_of_ble_eq_true rfl⟩, Nat.le_of_ble_eq_true rfl⟩ (rest := []) rfl dX6_one_423 (fun r43 S42 H locs h C => ?_)
                                      refine lv_if_eq (tgt := 433) F.x F.b dX6_one_426 (by decide) (fun g44 => ?_) (fun g44 => ?_)
                                      · have h := h.1 g44
                                        refine lv_iconst (v := 0) F.x F.b dX6_one_433 (by decide) ?_
                                        exact retZ F hr C rfl h dX6_one_434
                                      · have h := h.2 g44
                                        refine lv_iconst (v := 1) F.x F.b dX6_one_429 (by decide) ?_
                                        refine lv_goto (tgt := 434) F.x F.b dX6_one_430 (by decide) ?_
                                        exact retZ F hr C rfl h dX6_one_434
                                  · have ng3_16 := g3
                                    by_cases g3 : x2 = (116 : Int32)
                                    · have h := h.2.2.2.2.2.2.2.2.2.2.2.2.2.2.2.2.2.1 g3
                                      refine lv_tableIn (tgt := 467) F.x F.b dX6_one_167 (by rw [g3]; decide) (by rw [g3]; decide) (by rw [g3]; rfl) (by decide) ?_
                                      refine lv_iconst (v := 0) F.x F.b dX6_one_467 (by decide) ?_
                                      exact retZ F hr C rfl h dX6_one_468
                                    · have ng3_17 := g3
                                      by_cases g3 : x2 = (117 : Int32)
                                      · have h := h.2.2.2.2.2.2.2.2.2.2.2.2.2.2.2.2.2.2.1 g3
                                        refine lv_tableIn (tgt := 467) F.x F.b dX6_one_167 (by rw [g3]; decide) (by rw [g3]; decide) (by rw [g3]; rfl) (by decide) ?_
                                        refine lv_iconst (v := 0) F.x F.b dX6_one_467 (by decide) ?_
                                        exact retZ F hr C rfl h dX6_one_468
                                      · have ng3_18 := g3
                                        by_cases g3 : x2 = (118 : Int32)
                                        · have h := h.2.2.2.2.2.2.2.2.2.2.2.2.2.2.2.2.2.2.2.1 g3
                                          refine lv_tableIn (tgt := 467) F.x F.b dX6_one_167 (by rw [g3]; decide) (by rw [g3]; decide) (by rw [g3]; rfl) (by decide) ?_
                                          refine lv_iconst (v := 0) F.x F.b dX6_one_467 (by decide) ?_
                                          exact retZ F hr C rfl h dX6_one_468
                                        · have ng3_19 := g3
                                          by_cases g3 : x2 = (119 : Int32)
                                          · have h := h.2.2.2.2.2.2.2.2.2.2.2.2.2.2.2.2.2.2.2.2.1 g3
                                            refine lv_tableIn (tgt := 264) F.x F.b dX6_one_167 (by rw [g3]; decide) (by rw [g3]; decide) (by rw [g3]; rfl) (by decide) ?_
                                            refine lv_iload_n F.x F.b dX6_one_264 rfl (lv_at hl 0 rfl) ?_
                                            refine lv_bipush (v := 101) F.x F.b dX6_one_265 (by decide) ?_
                                            refine lv_icmp_ne (tgt := 280) F.x F.b dX6_one_267 (by decide) (fun g45 => ?_) (fun g45 => ?_)
                                            · have h := h.1 g45
                                              refine lv_aload_n F.x F.b dX6_one_280 rfl (lv_at hl 1 rfl) ?_
                                              refine ldS F 1 (by decide) rfl dX6_one_281 ?_
                                              refine kI F C hl (kX6_word  (by decide) h) (by decide) (ce_M _) rfl wv_X6_186 ⟨rfl, rfl, ⟨(by first | exact Nat.le_of_ble_eq_true rfl | (simp only [rO6, rP6, rQ6, rmX6_word]; omega)), (by first | exact Nat.le_of_ble_eq_true rfl | (simp only [rO6, rP6, rQ6, rmX6_word]; omega))⟩, ⟨Nat.le_of_ble_eq_true rfl, Nat.le_of_ble_eq_true rfl⟩, Nat.le_of_ble_eq_true rfl⟩ (rest := []) rfl dX6_one_283 (fun r47 S46 H locs h C => ?_)
                                              refine lv_if_eq (tgt := 301) F.x F.b dX6_one_286 (by decide) (fun g48 => ?_) (fun g48 => ?_)
                                              · have h := h.1 g48
                                                refine lv_iconst (v := 0) F.x F.b dX6_one_301 (by decide) ?_
                                                exact retZ F hr C rfl h dX6_one_302
                                              · have h := h.2 g48
                                                refine lv_aload_n F.x F.b dX6_one_289 rfl (lv_at hl 1 rfl) ?_
                                                refine lv_iconst (v := 0) F.x F.b dX6_one_290 (by decide) ?_
                                                refine kI F C hl (kX6_codes  h) (by decide) (ce_M _) rfl wv_X6_190 ⟨rfl, rfl, ⟨(by first | exact Nat.le_of_ble_eq_true rfl | (simp only [rO6, rP6, rQ6, rmX6_codes]; omega)), (by first | exact Nat.le_of_ble_eq_true rfl | (simp only [rO6, rP6, rQ6, rmX6_codes]; omega))⟩, ⟨Nat.le_of_ble_eq_true rfl, Nat.le_of_ble_eq_true rfl⟩, Nat.le_of_ble_eq_true rfl⟩ (rest := []) rfl dX6_one_291 (fun r50 S49 H locs h C => ?_)
                                                refine lv_if_eq (tgt := 301) F.x F.b dX6_one_294 (by decide) (fun g51 => ?_) (fun g51 => ?_)
                                                · have h := h.1 g51
                                                  refine lv_iconst (v := 0) F.x F.b dX6_one_301 (by decide) ?_
                                                  exact retZ F hr C rfl h dX6_one_302
                                                · have h := h.2 g51
                                                  refine lv_iconst (v := 1) F.x F.b dX6_one_297 (by decide) ?_
                                                  refine lv_goto (tgt := 302) F.x F.b dX6_one_298 (by decide) ?_
                                                  exact retZ F hr C rfl h dX6_one_302
                                            · have h := h.2 g45
                                              refine lv_aload_n F.x F.b dX6_one_270 rfl (lv_at hl 1 rfl) ?_
                                              refine ldS F 0 (by decide) rfl dX6_one_271 ?_
                                              refine lv_iconst (v := 1) F.x F.b dX6_one_273 (by decide) ?_
                                              refine kI F C hl (kX6_measure  (by decide) h) (by decide) (ce_M _) rfl wv_X6_204 ⟨rfl, rfl, ⟨(by first | exact Nat.le_of_ble_eq_true rfl | (simp only [rO6, rP6, rQ6, rmX6_measure]; omega)), (by first | exact Nat.le_of_ble_eq_true rfl | (simp only [rO6, rP6, rQ6, rmX6_measure]; omega))⟩, ⟨Nat.le_of_ble_eq_true rfl, Nat.le_of_ble_eq_true rfl⟩, Nat.le_of_ble_eq_true rfl⟩ (rest := []) rfl dX6_one_274 (fun r53 S52 H locs h C => ?_)
                                              refine lv_goto (tgt := 302) F.x F.b dX6_one_277 (by decide) ?_
                                              exact retZ F hr C h.1.n h.2 dX6_one_302
                                          · have ng3_20 := g3
                                            have h := h.2.2.2.2.2.2.2.2.2.2.2.2.2.2.2.2.2.2.2.2.2 ⟨ng3_0, ng3_1, ng3_2, ng3_3, ng3_4, ng3_5, ng3_6, ng3_7, ng3_8, ng3_9, ng3_10, ng3_11, ng3_12, ng3_13, ng3_14, ng3_15, ng3_16, ng3_17, ng3_18, ng3_19, ng3_20⟩
                                            refine lv_tableOut (tgt := 467) F.x F.b dX6_one_167 (sw_out x2 99 119 (by decide) (by decide) (fun z h1 h2 => ?_)) (by decide) ?_
                                            · rcases (show z = 99 ∨ z = 100 ∨ z = 101 ∨ z = 102 ∨ z = 103 ∨ z = 104 ∨ z = 105 ∨ z = 106 ∨ z = 107 ∨ z = 108 ∨ z = 109 ∨ z = 110 ∨ z = 111 ∨ z = 112 ∨ z = 113 ∨ z = 114 ∨ z = 115 ∨ z = 116 ∨ z = 117 ∨ z = 118 ∨ z = 119 by omega) with rfl | rfl | rfl | rfl | rfl | rfl | rfl | rfl | rfl | rfl | rfl | rfl | rfl | rfl | rfl | rfl | rfl | rfl | rfl | rfl | rfl
                                              · exact ng3_0
                                              · exact ng3_1
                                              · exact ng3_2
                                              · exact ng3_3
                                              · exact ng3_4
                                              · exact ng3_5
                                              · exact ng3_6
                                              · exact ng3_7
                                              · exact ng3_8
                                              · exact ng3_9
                                              · exact ng3_10
                                              · exact ng3_11
                                              · exact ng3_12
                                              · exact ng3_13
                                              · exact ng3_14
                                              · exact ng3_15
                                              · exact ng3_16
                                              · exact ng3_17
                                              · exact ng3_18
                                              · exact ng3_19
                                              · exact ng3_20
                                            · refine lv_iconst (v := 0) F.x F.b dX6_one_467 (by decide) ?_
                                              exact retZ F hr C rfl h dX6_one_468
set_option maxRecDepth 100000 in
set_option maxHeartbeats 4000000 in
theorem kX6_one {l : Launch} {D : va_G} {ky : Nat → ClassId} {ad : Nat → Nat} {ex : Nat → Nat → Nat} : ∀ (d : Nat) (post : Int32 → Mem → Prop) (S : Mem), mX6_one d post S  → CMi l D ky ad ex yX6_one cX6_one 2 (some .boolean) (rO6 d) 0 0 [.ref (ad 117)] S post := by
  intro d
  induction d with
  | zero =>
    intro post S   h
    exact False.elim h
  | succ d HO =>
    intro post S   h
    refine CMi.of (by decide) (Nat.le_of_ble_eq_true rfl) (fun p e s m args below meth c ls F hr C hl => ?_)
    have hl : lv_has ls 2 [(0, .ref (ad 117))] := hl
    refine lv_aload_n F.x F.b dX6_one_0 rfl (lv_at hl 0 rfl) ?_
    refine lv_bipush (v := 45) F.x F.b dX6_one_1 (by decide) ?_
    refine kI F C hl (kX6_isNext  h) (by decide) (ce_M _) rfl wv_X6_168 ⟨rfl, rfl, ⟨(by first | exact Nat.le_of_ble_eq_true rfl | (simp only [rO6, rP6, rQ6, rmX6_isNext]; omega)), (by first | exact Nat.le_of_ble_eq_true rfl | (simp only [rO6, rP6, rQ6, rmX6_isNext]; omega))⟩, ⟨Nat.le_of_ble_eq_true rfl, Nat.le_of_ble_eq_true rfl⟩, Nat.le_of_ble_eq_true rfl⟩ (rest := []) rfl dX6_one_3 (fun r2 S1 H locs h C => ?_)
    refine lv_if_ne (tgt := 18) F.x F.b dX6_one_6 (by decide) (fun g3 => ?_) (fun g3 => ?_)
    · have h := h.1 g3
      exact bX6_one_18 F hr HO S1  _ _ _ h C (lv_sub hl [0] rfl)
    · have h := h.2 g3
      refine lv_aload_n F.x F.b dX6_one_9 rfl (lv_at hl 0 rfl) ?_
      refine lv_bipush (v := 91) F.x F.b dX6_one_10 (by decide) ?_
      refine kI F C hl (kX6_isNext  h) (by decide) (ce_M _) rfl wv_X6_168 ⟨rfl, rfl, ⟨(by first | exact Nat.le_of_ble_eq_true rfl | (simp only [rO6, rP6, rQ6, rmX6_isNext]; omega)), (by first | exact Nat.le_of_ble_eq_true rfl | (simp only [rO6, rP6, rQ6, rmX6_isNext]; omega))⟩, ⟨Nat.le_of_ble_eq_true rfl, Nat.le_of_ble_eq_true rfl⟩, Nat.le_of_ble_eq_true rfl⟩ (rest := []) rfl dX6_one_12 (fun r5 S4 H locs h C => ?_)
      refine lv_if_eq (tgt := 115) F.x F.b dX6_one_15 (by decide) (fun g6 => ?_) (fun g6 => ?_)
      · have h := h.1 g6
        refine lv_aload_n F.x F.b dX6_one_115 rfl (lv_at hl 0 rfl) ?_
        refine getM F C 11 (by decide) q4_233 (v := .int (S4 10 0 11)) rfl dX6_one_116 ?_
        refine lv_aload_n F.x F.b dX6_one_119 rfl (lv_at hl 0 rfl) ?_
        refine getM F C 10 (by decide) q4_232 (v := .int (S4 10 0 10)) rfl dX6_one_120 ?_
        refine lv_icmp_ne (tgt := 128) F.x F.b dX6_one_123 (by decide) (fun g7 => ?_) (fun g7 => ?_)
        · have h := h.1 g7
          refine lv_aload_n F.x F.b dX6_one_128 rfl (lv_at hl 0 rfl) ?_
          refine getM F C 11 (by decide) q4_233 (v := .int (S4 10 0 11)) rfl dX6_one_129 ?_
          refine lv_iconst (v := 1) F.x F.b dX6_one_132 (by decide) ?_
          refine lv_iadd F.x F.b dX6_one_133 ?_
          refine lv_aload_n F.x F.b dX6_one_134 rfl (lv_at hl 0 rfl) ?_
          refine getM F C 10 (by decide) q4_232 (v := .int (S4 10 0 10)) rfl dX6_one_135 ?_
          refine lv_icmp_ge (tgt := 155) F.x F.b dX6_one_138 (by decide) (fun g8 => ?_) (fun g8 => ?_)
          · have h := h.1 g8
            refine lv_bipush (v := 32) F.x F.b dX6_one_155 (by decide) ?_
            exact bX6_one_157 F hr HO S4 (32 : Int32) _ _ _ h C (lv_sub hl [0] rfl)
          · have h := h.2 g8
            refine lv_aload_n F.x F.b dX6_one_141 rfl (lv_at hl 0 rfl) ?_
            refine getM F C 9 (by decide) q4_231 (v := .ref (ad 124)) rfl dX6_one_142 ?_
            refine lv_aload_n F.x F.b dX6_one_145 rfl (lv_at hl 0 rfl) ?_
            refine getM F C 11 (by decide) q4_233 (v := .int (S4 10 0 11)) rfl dX6_one_146 ?_
            refine lv_iconst (v := 1) F.x F.b dX6_one_149 (by decide) ?_
            refine lv_iadd F.x F.b dX6_one_150 ?_
            obtain ⟨g9, h⟩ := h
            refine aldC F C (o := 124) (cq := 17) (iq := 0) (by decide) rfl rfl rfl g9 dX6_one_151 ?_
            refine lv_goto (tgt := 157) F.x F.b dX6_one_152 (by decide) ?_
            exact bX6_one_157 F hr HO S4 (S4 17 0 (((S4 10 0 11) + (1 : Int32))).toNatClampNeg) _ _ _ h C (lv_sub hl [0] rfl)
        · have h := h.2 g7
          refine lv_iconst (v := 0) F.x F.b dX6_one_126 (by decide) ?_
          exact retZ F hr C rfl h dX6_one_127
      · have h := h.2 g6
        exact bX6_one_18 F hr HO S4  _ _ _ h C (lv_sub hl [0] rfl)

def rmX6_ask : Room := { frames := 55, cells := 0, slots := 0, locals := 1880 }
def mX6_ask_b74 (post : Int32 → Mem → Prop) : Nat → Mem → Int32 → Prop
  | 0, _, _ => False
  | n + 1, S, v2 => vp_in (3 : Int32) 84 ∧ (((S 11 0 (3 : Int32).toNatClampNeg) ≤ v2 → (post (S 10 0 17) S)) ∧ (¬ (S 11 0 (3 : Int32).toNatClampNeg) ≤ v2 → (mX6_fulfils (fun (r4 : Int32) (S3 : Mem) => ((r4 = 0 → (∀ x6 : Int32, x6 = v2 + (1 : Int32) → mX6_ask_b74 post n S3 x6)) ∧ (¬ r4 = 0 → (∀ x7 : Int32, x7 = (S3 10 0 17) → ∀ S8 : Mem, S8 = wr S3 10 0 17 (x7 + (1 : Int32)) → vp_in x7 8 ∧ ∀ S10 : Mem, S10 = wr S8 20 0 x7.toNatClampNeg v2 → ∀ x11 : Int32, x11 = v2 + (1 : Int32) → mX6_ask_b74 post n S10 x11)))) S v2)))
def mX6_ask_b43 (post : Int32 → Mem → Prop) (S : Mem) (vt0 : Int32) : Prop := ∀ S1 : Mem, S1 = wr S 10 0 10 (0 : Int32) → ((¬ vt0 = 0 → (∀ S3 : Mem, S3 = wr S1 10 0 17 (0 : Int32) → ∃ fu : Nat, mX6_ask_b74 post fu S3 (0 : Int32))) ∧ (vt0 = 0 → (∀ S5 : Mem, S5 = wr S1 10 0 18 (S1 10 0 11) → mX6_raises (fun (r7 : Int32) (S6 : Mem) => post r7 S6) S5 (1 : Int32))))
def mX6_ask (post : Int32 → Mem → Prop) (S : Mem) : Prop := ∀ S1 : Mem, S1 = wr S 10 0 21 (0 : Int32) → ∀ S2 : Mem, S2 = wr S1 10 0 11 (0 : Int32) → ∀ S3 : Mem, S3 = wr S2 10 0 12 (0 : Int32) → ∀ S4 : Mem, S4 = wr S3 10 0 14 (0 : Int32) → mX6_question (mX6_one 8) (fun (r6 : Int32) (S5 : Mem) => ((r6 = 0 → (mX6_ask_b43 post S5 (0 : Int32))) ∧ (¬ r6 = 0 → (((¬ (S5 10 0 11) = (S5 10 0 10) → (mX6_ask_b43 post S5 (0 : Int32))) ∧ ((S5 10 0 11) = (S5 10 0 10) → (mX6_ask_b43 post S5 (1 : Int32)))))))) S4 
set_option maxRecDepth 100000 in
set_option maxHeartbeats 4000000 in
theorem bX6_ask_74 {p : Program} {l : Launch} {e : Env} {s : State} {m : MethodId} {args : Array Value} {below : List Frame} {meth : Method} {c : Code} {D : va_G} {ky : Nat → ClassId} {ad : Nat → Nat} {ex : Nat → Nat → Nat} (F : Fx p s m args meth c D ky ad ex cX6_ask 3 yX6_ask.cls) (hr : meth.sig.returnType = (some .int)) {post : Int32 → Mem → Prop} : ∀ (n : Nat) (S : Mem) (v2 : Int32) (H : Heap) (locs : List Loc) (ls : Array Slot), mX6_ask_b74 post n S v2 → Cx D ky ad s S H locs → lv_has ls 3 [(0, .ref (ad 117)), (2, .int v2)] → W p l e rmX6_ask s m args below meth c H locs 0 0 (MQ below (va_Qi post (AFT D ky ad) (AW ad s.heap.size)) args s 0 0 (AW ad s.heap.size)) (F0 m 74 ls []) := by
  intro n
  induction n with
  | zero =>
    intro S v2 H locs ls  h
    exact False.elim h
  | succ n ih =>
    intro S v2 H locs ls  h C hl
    refine lv_iload_n F.x F.b dX6_ask_74 rfl (lv_at hl 1 rfl) ?_
    refine lv_aload_n F.x F.b dX6_ask_75 rfl (lv_at hl 0 rfl) ?_
    refine getM F C 0 (by decide) q4_222 (v := .ref (ad 118)) rfl dX6_ask_76 ?_
    refine lv_iconst (v := 3) F.x F.b dX6_ask_79 (by decide) ?_
    obtain ⟨g1, h⟩ := h
    refine aldI F C (o := 118) (cq := 11) (iq := 0) (by decide) rfl rfl rfl g1 dX6_ask_80 ?_
    refine lv_icmp_ge (tgt := 115) F.x F.b dX6_ask_81 (by decide) (fun g2 => ?_) (fun g2 => ?_)
    · have h := h.1 g2
      refine lv_aload_n F.x F.b dX6_ask_115 rfl (lv_at hl 0 rfl) ?_
      refine getM F C 17 (by decide) q4_239 (v := .int (S 10 0 17)) rfl dX6_ask_116 ?_
      exact retI F hr C h dX6_ask_119
    · have h := h.2 g2
      refine lv_aload_n F.x F.b dX6_ask_84 rfl (lv_at hl 0 rfl) ?_
      refine lv_iload_n F.x F.b dX6_ask_85 rfl (lv_at hl 1 rfl) ?_
      refine kI F C hl (kX6_fulfils  h) (by decide) (ce_M _) rfl wv_X6_236 ⟨rfl, rfl, ⟨Nat.le_of_ble_eq_true rfl, Nat.le_of_ble_eq_true rfl⟩, ⟨Nat.le_of_ble_eq_true rfl, Nat.le_of_ble_eq_true rfl⟩, Nat.le_of_ble_eq_true rfl⟩ (rest := []) rfl dX6_ask_86 (fun r4 S3 H locs h C => ?_)
      refine lv_if_eq (tgt := 109) F.x F.b dX6_ask_89 (by decide) (fun g5 => ?_) (fun g5 => ?_)
      · have h := h.1 g5
        obtain ⟨x6, ex6⟩ : ∃ z : Int32, z = v2 + (1 : Int32) := ⟨_, rfl⟩
        have h := h x6 ex6
        refine lv_iinc (v := x6) (lv' := [(2, .int x6), (0, .ref (ad 117))]) F.x F.b dX6_ask_109 hl (k := 1) rfl (by rw [ex6]; rfl) (by decide) rfl (fun ls hl => ?_)
        refine lv_goto (tgt := 74) F.x F.b dX6_ask_112 (by decide) ?_
        exact ih S3 x6 _ _ _ h C (lv_sub hl [1, 0] rfl)
      · have h := h.2 g5
        refine lv_aload_n F.x F.b dX6_ask_92 rfl (lv_at hl 0 rfl) ?_
        refine getM F C 16 (by decide) q4_238 (v := .ref (ad 127)) rfl dX6_ask_93 ?_
        refine lv_aload_n F.x F.b dX6_ask_96 rfl (lv_at hl 0 rfl) ?_
        refine lv_dup F.x F.b dX6_ask_97 rfl ?_
        refine getM F C 17 (by decide) q4_239 (v := .int (S3 10 0 17)) rfl dX6_ask_98 ?_
        refine lv_topi (fun x7 ex7 => ?_)
        have h := h x7 ex7
        refine lv_dup_x1 F.x F.b dX6_ask_101 rfl rfl ?_
        refine lv_iconst (v := 1) F.x F.b dX6_ask_102 (by decide) ?_
        refine lv_iadd F.x F.b dX6_ask_103 ?_
        refine putM F C 17 (by decide) q4_239 rfl (tyX6_ok 17 (by decide)) rfl rfl rfl dX6_ask_104 (fun H locs C => ?_)
        obtain ⟨S8, eS8⟩ : ∃ z : Mem, z = wr S3 10 0 17 (x7 + (1 : Int32)) := ⟨_, rfl⟩
        rw [← eS8] at C
        have h := h S8 eS8
        refine lv_iload_n F.x F.b dX6_ask_107 rfl (lv_at hl 1 rfl) ?_
        obtain ⟨g9, h⟩ := h
        refine astI F C (o := 127) (cq := 20) (iq := 0) (by decide) rfl rfl (fun _ => rfl) g9 dX6_ask_108 (fun H locs C => ?_)
        obtain ⟨S10, eS10⟩ : ∃ z : Mem, z = wr S8 20 0 x7.toNatClampNeg v2 := ⟨_, rfl⟩
        rw [← eS10] at C
        have h := h S10 eS10
        obtain ⟨x11, ex11⟩ : ∃ z : Int32, z = v2 + (1 : Int32) := ⟨_, rfl⟩
        have h := h x11 ex11
        refine lv_iinc (v := x11) (lv' := [(2, .int x11), (0, .ref (ad 117))]) F.x F.b dX6_ask_109 hl (k := 1) rfl (by rw [ex11]; rfl) (by decide) rfl (fun ls hl => ?_)
        refine lv_goto (tgt := 74) F.x F.b dX6_ask_112 (by decide) ?_
        exact ih S10 x11 _ _ _ h C (lv_sub hl [1, 0] rfl)
set_option maxRecDepth 100000 in
set_option maxHeartbeats 4000000 in
theorem bX6_ask_43 {p : Program} {l : Launch} {e : Env} {s : State} {m : MethodId} {args : Array Value} {below : List Frame} {meth : Method} {c : Code} {D : va_G} {ky : Nat → ClassId} {ad : Nat → Nat} {ex : Nat → Nat → Nat} (F : Fx p s m args meth c D ky ad ex cX6_ask 3 yX6_ask.cls) (hr : meth.sig.returnType = (some .int)) {post : Int32 → Mem → Prop} : ∀ (S : Mem) (vt0 : Int32) (H : Heap) (locs : List Loc) (ls : Array Slot), mX6_ask_b43 post S vt0 → Cx D ky ad s S H locs → lv_has ls 3 [(0, .ref (ad 117))] → W p l e rmX6_ask s m args below meth c H locs 0 0 (MQ below (va_Qi post (AFT D ky ad) (AW ad s.heap.size)) args s 0 0 (AW ad s.heap.size)) (F0 m 43 ls [.int vt0]) := by
  intro S vt0 H locs ls  h C hl
  unfold mX6_ask_b43 at h
  refine lv_istore_n (lv' := [(1, .int vt0), (0, .ref (ad 117))]) F.x F.b dX6_ask_43 rfl hl (by decide) rfl (fun ls hl => ?_)
  refine lv_aload_n F.x F.b dX6_ask_44 rfl (lv_at hl 1 rfl) ?_
  refine lv_iconst (v := 0) F.x F.b dX6_ask_45 (by decide) ?_
  refine putM F C 10 (by decide) q4_232 rfl (tyX6_ok 10 (by decide)) rfl rfl rfl dX6_ask_46 (fun H locs C => ?_)
  obtain ⟨S1, eS1⟩ : ∃ z : Mem, z = wr S 10 0 10 (0 : Int32) := ⟨_, rfl⟩
  rw [← eS1] at C
  have h := h S1 eS1
  refine lv_iload_n F.x F.b dX6_ask_49 rfl (lv_at hl 0 rfl) ?_
  refine lv_if_ne (tgt := 67) F.x F.b dX6_ask_50 (by decide) (fun g2 => ?_) (fun g2 => ?_)
  · have h := h.1 g2
    refine lv_aload_n F.x F.b dX6_ask_67 rfl (lv_at hl 1 rfl) ?_
    refine lv_iconst (v := 0) F.x F.b dX6_ask_68 (by decide) ?_
    refine putM F C 17 (by decide) q4_239 rfl (tyX6_ok 17 (by decide)) rfl rfl rfl dX6_ask_69 (fun H locs C => ?_)
    obtain ⟨S3, eS3⟩ : ∃ z : Mem, z = wr S1 10 0 17 (0 : Int32) := ⟨_, rfl⟩
    rw [← eS3] at C
    have h := h S3 eS3
    refine lv_iconst (v := 0) F.x F.b dX6_ask_72 (by decide) ?_
    refine lv_istore_n (lv' := [(2, .int (0 : Int32)), (1, .int vt0), (0, .ref (ad 117))]) F.x F.b dX6_ask_73 rfl hl (by decide) rfl (fun ls hl => ?_)
    obtain ⟨n4, h⟩ := h
    exact bX6_ask_74 F hr n4 S3 (0 : Int32) _ _ _ h C (lv_sub hl [2, 0] rfl)
  · have h := h.2 g2
    refine lv_aload_n F.x F.b dX6_ask_53 rfl (lv_at hl 1 rfl) ?_
    refine lv_aload_n F.x F.b dX6_ask_54 rfl (lv_at hl 1 rfl) ?_
    refine getM F C 11 (by decide) q4_233 (v := .int (S1 10 0 11)) rfl dX6_ask_55 ?_
    refine putM F C 18 (by decide) q5_0 rfl (tyX6_ok 18 (by decide)) rfl rfl rfl dX6_ask_58 (fun H locs C => ?_)
    obtain ⟨S5, eS5⟩ : ∃ z : Mem, z = wr S1 10 0 18 (S1 10 0 11) := ⟨_, rfl⟩
    rw [← eS5] at C
    have h := h S5 eS5
    refine lv_aload_n F.x F.b dX6_ask_61 rfl (lv_at hl 1 rfl) ?_
    refine lv_iconst (v := 1) F.x F.b dX6_ask_62 (by decide) ?_
    refine kI F C hl (kX6_raises  h) (by decide) (ce_M _) rfl wv_X6_58 ⟨rfl, rfl, ⟨Nat.le_of_ble_eq_true rfl, Nat.le_of_ble_eq_true rfl⟩, ⟨Nat.le_of_ble_eq_true rfl, Nat.le_of_ble_eq_true rfl⟩, Nat.le_of_ble_eq_true rfl⟩ (rest := []) rfl dX6_ask_63 (fun r7 S6 H locs h C => ?_)
    exact retI F hr C h dX6_ask_66
set_option maxRecDepth 100000 in
set_option maxHeartbeats 4000000 in
theorem kX6_ask {l : Launch} {D : va_G} {ky : Nat → ClassId} {ad : Nat → Nat} {ex : Nat → Nat → Nat} {post : Int32 → Mem → Prop} {S : Mem} (h : mX6_ask post S ) : CMi l D ky ad ex yX6_ask cX6_ask 3 (some .int) rmX6_ask 0 0 [.ref (ad 117)] S post := by
  refine CMi.of (by decide) (Nat.le_of_ble_eq_true rfl) (fun p e s m args below meth c ls F hr C hl => ?_)
  have hl : lv_has ls 3 [(0, .ref (ad 117))] := hl
  unfold mX6_ask at h
  refine lv_aload_n F.x F.b dX6_ask_0 rfl (lv_at hl 0 rfl) ?_
  refine lv_iconst (v := 0) F.x F.b dX6_ask_1 (by decide) ?_
  refine putM F C 21 (by decide) q5_3 rfl (tyX6_ok 21 (by decide)) rfl rfl rfl dX6_ask_2 (fun H locs C => ?_)
  obtain ⟨S1, eS1⟩ : ∃ z : Mem, z = wr S 10 0 21 (0 : Int32) := ⟨_, rfl⟩
  rw [← eS1] at C
  have h := h S1 eS1
  refine lv_aload_n F.x F.b dX6_ask_5 rfl (lv_at hl 0 rfl) ?_
  refine lv_iconst (v := 0) F.x F.b dX6_ask_6 (by decide) ?_
  refine putM F C 11 (by decide) q4_233 rfl (tyX6_ok 11 (by decide)) rfl rfl rfl dX6_ask_7 (fun H locs C => ?_)
  obtain ⟨S2, eS2⟩ : ∃ z : Mem, z = wr S1 10 0 11 (0 : Int32) := ⟨_, rfl⟩
  rw [← eS2] at C
  have h := h S2 eS2
  refine lv_aload_n F.x F.b dX6_ask_10 rfl (lv_at hl 0 rfl) ?_
  refine lv_iconst (v := 0) F.x F.b dX6_ask_11 (by decide) ?_
  refine putM F C 12 (by decide) q4_234 rfl (tyX6_ok 12 (by decide)) rfl rfl rfl dX6_ask_12 (fun H locs C => ?_)
  obtain ⟨S3, eS3⟩ : ∃ z : Mem, z = wr S2 10 0 12 (0 : Int32) := ⟨_, rfl⟩
  rw [← eS3] at C
  have h := h S3 eS3
  refine lv_aload_n F.x F.b dX6_ask_15 rfl (lv_at hl 0 rfl) ?_
  refine lv_iconst (v := 0) F.x F.b dX6_ask_16 (by decide) ?_
  refine putM F C 14 (by decide) q4_236 rfl (tyX6_ok 14 (by decide)) rfl rfl rfl dX6_ask_17 (fun H locs C => ?_)
  obtain ⟨S4, eS4⟩ : ∃ z : Mem, z = wr S3 10 0 14 (0 : Int32) := ⟨_, rfl⟩
  rw [← eS4] at C
  have h := h S4 eS4
  refine lv_aload_n F.x F.b dX6_ask_20 rfl (lv_at hl 0 rfl) ?_
  refine kI F C hl (kX6_question (kX6_one 8) h) (by decide) (ce_M _) rfl wv_X6_199 ⟨rfl, rfl, ⟨Nat.le_of_ble_eq_true rfl, Nat.le_of_ble_eq_true rfl⟩, ⟨Nat.le_of_ble_eq_true rfl, Nat.le_of_ble_eq_true rfl⟩, Nat.le_of_ble_eq_true rfl⟩ (rest := []) rfl dX6_ask_21 (fun r6 S5 H locs h C => ?_)
  refine lv_if_eq (tgt := 42) F.x F.b dX6_ask_24 (by decide) (fun g7 => ?_) (fun g7 => ?_)
  · have h := h.1 g7
    refine lv_iconst (v := 0) F.x F.b dX6_ask_42 (by decide) ?_
    exact bX6_ask_43 F hr S5 (0 : Int32) _ _ _ h C (lv_sub hl [0] rfl)
  · have h := h.2 g7
    refine lv_aload_n F.x F.b dX6_ask_27 rfl (lv_at hl 0 rfl) ?_
    refine getM F C 11 (by decide) q4_233 (v := .int (S5 10 0 11)) rfl dX6_ask_28 ?_
    refine lv_aload_n F.x F.b dX6_ask_31 rfl (lv_at hl 0 rfl) ?_
    refine getM F C 10 (by decide) q4_232 (v := .int (S5 10 0 10)) rfl dX6_ask_32 ?_
    refine lv_icmp_ne (tgt := 42) F.x F.b dX6_ask_35 (by decide) (fun g8 => ?_) (fun g8 => ?_)
    · have h := h.1 g8
      refine lv_iconst (v := 0) F.x F.b dX6_ask_42 (by decide) ?_
      exact bX6_ask_43 F hr S5 (0 : Int32) _ _ _ h C (lv_sub hl [0] rfl)
    · have h := h.2 g8
      refine lv_iconst (v := 1) F.x F.b dX6_ask_38 (by decide) ?_
      refine lv_goto (tgt := 43) F.x F.b dX6_ask_39 (by decide) ?_
      exact bX6_ask_43 F hr S5 (1 : Int32) _ _ _ h C (lv_sub hl [0] rfl)

def rmX6_describe : Room := { frames := 4, cells := 0, slots := 0, locals := 85 }
def mX6_describe_b108 (post : Int32 → Mem → Prop) (S : Mem) : Prop := ∀ x1 : Int32, x1 = (S 10 0 8) → ∀ S2 : Mem, S2 = wr S 10 0 8 (x1 + (1 : Int32)) → vp_in (1 : Int32) 84 ∧ vp_in x1 13 ∧ isC ((((48 : Int32) + ((S2 11 0 (1 : Int32).toNatClampNeg) - (S2 11 0 (1 : Int32).toNatClampNeg) / (10 : Int32) * (10 : Int32)))).toUInt32 % 65536).toInt32 ∧ ∀ S6 : Mem, S6 = wr S2 16 0 x1.toNatClampNeg ((((48 : Int32) + ((S2 11 0 (1 : Int32).toNatClampNeg) - (S2 11 0 (1 : Int32).toNatClampNeg) / (10 : Int32) * (10 : Int32)))).toUInt32 % 65536).toInt32 → post (S6 10 0 8) S6
def mX6_describe_b7 (post : Int32 → Mem → Prop) : Nat → Mem → Int32 → Prop
  | 0, _, _ => False
  | n + 1, S, v1 => (((10 : Int32) ≤ v1 → (vp_in (10 : Int32) 13 ∧ isC (32 : Int32) ∧ ∀ S4 : Mem, S4 = wr S 16 0 (10 : Int32).toNatClampNeg (32 : Int32) → ∀ S5 : Mem, S5 = wr S4 10 0 8 (11 : Int32) → vp_in (1 : Int32) 84 ∧ (((S5 11 0 (1 : Int32).toNatClampNeg) ≤ (9 : Int32) → (mX6_describe_b108 post S5 )) ∧ (¬ (S5 11 0 (1 : Int32).toNatClampNeg) ≤ (9 : Int32) → (∀ x8 : Int32, x8 = (S5 10 0 8) → ∀ S9 : Mem, S9 = wr S5 10 0 8 (x8 + (1 : Int32)) → vp_in (1 : Int32) 84 ∧ vp_in x8 13 ∧ isC ((((48 : Int32) + ((S9 11 0 (1 : Int32).toNatClampNeg) / (10 : Int32)))).toUInt32 % 65536).toInt32 ∧ ∀ S13 : Mem, S13 = wr S9 16 0 x8.toNatClampNeg ((((48 : Int32) + ((S9 11 0 (1 : Int32).toNatClampNeg) / (10 : Int32)))).toUInt32 % 65536).toInt32 → mX6_describe_b108 post S13 ))))) ∧ (¬ (10 : Int32) ≤ v1 → (mX6_lowestOn (fun (r15 : Int32) (S14 : Mem) => ((r15 < 0 → (mX6_state (fun (r18 : Int32) (S17 : Mem) => vp_in r18 (lnN 20) ∧ vp_in v1 13 ∧ isC (chS 20 r18) ∧ ∀ S23 : Mem, S23 = wr S17 16 0 v1.toNatClampNeg (chS 20 r18) → ∀ x24 : Int32, x24 = v1 + (1 : Int32) → mX6_describe_b7 post n S23 x24) S14 v1)) ∧ (¬ r15 < 0 → (vp_in v1 13 ∧ isC ((((48 : Int32) + r15)).toUInt32 % 65536).toInt32 ∧ ∀ S27 : Mem, S27 = wr S14 16 0 v1.toNatClampNeg ((((48 : Int32) + r15)).toUInt32 % 65536).toInt32 → ∀ x28 : Int32, x28 = v1 + (1 : Int32) → mX6_describe_b7 post n S27 x28)))) S v1)))
def mX6_describe (post : Int32 → Mem → Prop) (S : Mem) : Prop := ∀ S1 : Mem, S1 = wr S 10 0 21 (0 : Int32) → ∃ fu : Nat, mX6_describe_b7 post fu S1 (0 : Int32)
set_option maxRecDepth 100000 in
set_option maxHeartbeats 4000000 in
theorem bX6_describe_108 {p : Program} {l : Launch} {e : Env} {s : State} {m : MethodId} {args : Array Value} {below : List Frame} {meth : Method} {c : Code} {D : va_G} {ky : Nat → ClassId} {ad : Nat → Nat} {ex : Nat → Nat → Nat} (F : Fx p s m args meth c D ky ad ex cX6_describe 3 yX6_describe.cls) (hr : meth.sig.returnType = (some .int)) {post : Int32 → Mem → Prop} : ∀ (S : Mem) (H : Heap) (locs : List Loc) (ls : Array Slot), mX6_describe_b108 post S  → Cx D ky ad s S H locs → lv_has ls 3 [(0, .ref (ad 117))] → W p l e rmX6_describe s m args below meth c H locs 0 0 (MQ below (va_Qi post (AFT D ky ad) (AW ad s.heap.size)) args s 0 0 (AW ad s.heap.size)) (F0 m 108 ls []) := by
  intro S  H locs ls  h C hl
  unfold mX6_describe_b108 at h
  refine lv_aload_n F.x F.b dX6_describe_108 rfl (lv_at hl 0 rfl) ?_
  refine getM F C 7 (by decide) q4_229 (v := .ref (ad 123)) rfl dX6_describe_109 ?_
  refine lv_aload_n F.x F.b dX6_describe_112 rfl (lv_at hl 0 rfl) ?_
  refine lv_dup F.x F.b dX6_describe_113 rfl ?_
  refine getM F C 8 (by decide) q4_230 (v := .int (S 10 0 8)) rfl dX6_describe_114 ?_
  refine lv_topi (fun x1 ex1 => ?_)
  have h := h x1 ex1
  refine lv_dup_x1 F.x F.b dX6_describe_117 rfl rfl ?_
  refine lv_iconst (v := 1) F.x F.b dX6_describe_118 (by decide) ?_
  refine lv_iadd F.x F.b dX6_describe_119 ?_
  refine putM F C 8 (by decide) q4_230 rfl (tyX6_ok 8 (by decide)) rfl rfl rfl dX6_describe_120 (fun H locs C => ?_)
  obtain ⟨S2, eS2⟩ : ∃ z : Mem, z = wr S 10 0 8 (x1 + (1 : Int32)) := ⟨_, rfl⟩
  rw [← eS2] at C
  have h := h S2 eS2
  refine lv_bipush (v := 48) F.x F.b dX6_describe_123 (by decide) ?_
  refine lv_aload_n F.x F.b dX6_describe_125 rfl (lv_at hl 0 rfl) ?_
  refine getM F C 0 (by decide) q4_222 (v := .ref (ad 118)) rfl dX6_describe_126 ?_
  refine lv_iconst (v := 1) F.x F.b dX6_describe_129 (by decide) ?_
  obtain ⟨g3, h⟩ := h
  refine aldI F C (o := 118) (cq := 11) (iq := 0) (by decide) rfl rfl rfl g3 dX6_describe_130 ?_
  refine lv_bipush (v := 10) F.x F.b dX6_describe_131 (by decide) ?_
  refine lv_irem F.x F.b dX6_describe_133 (by decide) ?_
  refine lv_iadd F.x F.b dX6_describe_134 ?_
  refine lv_i2c F.x F.b dX6_describe_135 rfl ?_
  obtain ⟨g4, h⟩ := h
  obtain ⟨g5, h⟩ := h
  refine astC F C (o := 123) (cq := 16) (iq := 0) (by decide) rfl rfl (fun _ => rfl) g4 g5 dX6_describe_136 (fun H locs C => ?_)
  obtain ⟨S6, eS6⟩ : ∃ z : Mem, z = wr S2 16 0 x1.toNatClampNeg ((((48 : Int32) + ((S2 11 0 (1 : Int32).toNatClampNeg) - (S2 11 0 (1 : Int32).toNatClampNeg) / (10 : Int32) * (10 : Int32)))).toUInt32 % 65536).toInt32 := ⟨_, rfl⟩
  rw [← eS6] at C
  have h := h S6 eS6
  refine lv_aload_n F.x F.b dX6_describe_137 rfl (lv_at hl 0 rfl) ?_
  refine getM F C 8 (by decide) q4_230 (v := .int (S6 10 0 8)) rfl dX6_describe_138 ?_
  exact retI F hr C h dX6_describe_141
set_option maxRecDepth 100000 in
set_option maxHeartbeats 4000000 in
theorem bX6_describe_7 {p : Program} {l : Launch} {e : Env} {s : State} {m : MethodId} {args : Array Value} {below : List Frame} {meth : Method} {c : Code} {D : va_G} {ky : Nat → ClassId} {ad : Nat → Nat} {ex : Nat → Nat → Nat} (F : Fx p s m args meth c D ky ad ex cX6_describe 3 yX6_describe.cls) (hr : meth.sig.returnType = (some .int)) {post : Int32 → Mem → Prop} : ∀ (n : Nat) (S : Mem) (v1 : Int32) (H : Heap) (locs : List Loc) (ls : Array Slot), mX6_describe_b7 post n S v1 → Cx D ky ad s S H locs → lv_has ls 3 [(0, .ref (ad 117)), (1, .int v1)] → W p l e rmX6_describe s m args below meth c H locs 0 0 (MQ below (va_Qi post (AFT D ky ad) (AW ad s.heap.size)) args s 0 0 (AW ad s.heap.size)) (F0 m 7 ls []) := by
  intro n
  induction n with
  | zero =>
    intro S v1 H locs ls  h
    exact False.elim h
  | succ n ih =>
    intro S v1 H locs ls  h C hl
    refine lv_iload_n F.x F.b dX6_describe_7 rfl (lv_at hl 1 rfl) ?_
    refine lv_bipush (v := 10) F.x F.b dX6_describe_8 (by decide) ?_
    refine lv_icmp_ge (tgt := 53) F.x F.b dX6_describe_10 (by decide) (fun g1 => ?_) (fun g1 => ?_)
    · have h := h.1 g1
      refine lv_aload_n F.x F.b dX6_describe_53 rfl (lv_at hl 0 rfl) ?_
      refine getM F C 7 (by decide) q4_229 (v := .ref (ad 123)) rfl dX6_describe_54 ?_
      refine lv_bipush (v := 10) F.x F.b dX6_describe_57 (by decide) ?_
      refine lv_bipush (v := 32) F.x F.b dX6_describe_59 (by decide) ?_
      obtain ⟨g2, h⟩ := h
      obtain ⟨g3, h⟩ := h
      refine astC F C (o := 123) (cq := 16) (iq := 0) (by decide) rfl rfl (fun _ => rfl) g2 g3 dX6_describe_61 (fun H locs C => ?_)
      obtain ⟨S4, eS4⟩ : ∃ z : Mem, z = wr S 16 0 (10 : Int32).toNatClampNeg (32 : Int32) := ⟨_, rfl⟩
      rw [← eS4] at C
      have h := h S4 eS4
      refine lv_aload_n F.x F.b dX6_describe_62 rfl (lv_at hl 0 rfl) ?_
      refine lv_bipush (v := 11) F.x F.b dX6_describe_63 (by decide) ?_
      refine putM F C 8 (by decide) q4_230 rfl (tyX6_ok 8 (by decide)) rfl rfl rfl dX6_describe_65 (fun H locs C => ?_)
      obtain ⟨S5, eS5⟩ : ∃ z : Mem, z = wr S4 10 0 8 (11 : Int32) := ⟨_, rfl⟩
      rw [← eS5] at C
      have h := h S5 eS5
      refine lv_aload_n F.x F.b dX6_describe_68 rfl (lv_at hl 0 rfl) ?_
      refine getM F C 0 (by decide) q4_222 (v := .ref (ad 118)) rfl dX6_describe_69 ?_
      refine lv_iconst (v := 1) F.x F.b dX6_describe_72 (by decide) ?_
      obtain ⟨g6, h⟩ := h
      refine aldI F C (o := 118) (cq := 11) (iq := 0) (by decide) rfl rfl rfl g6 dX6_describe_73 ?_
      refine lv_bipush (v := 9) F.x F.b dX6_describe_74 (by decide) ?_
      refine lv_icmp_le (tgt := 108) F.x F.b dX6_describe_76 (by decide) (fun g7 => ?_) (fun g7 => ?_)
      · have h := h.1 g7
        exact bX6_describe_108 F hr S5  _ _ _ h C (lv_sub hl [0] rfl)
      · have h := h.2 g7
        refine lv_aload_n F.x F.b dX6_describe_79 rfl (lv_at hl 0 rfl) ?_
        refine getM F C 7 (by decide) q4_229 (v := .ref (ad 123)) rfl dX6_describe_80 ?_
        refine lv_aload_n F.x F.b dX6_describe_83 rfl (lv_at hl 0 rfl) ?_
        refine lv_dup F.x F.b dX6_describe_84 rfl ?_
        refine getM F C 8 (by decide) q4_230 (v := .int (S5 10 0 8)) rfl dX6_describe_85 ?_
        refine lv_topi (fun x8 ex8 => ?_)
        have h := h x8 ex8
        refine lv_dup_x1 F.x F.b dX6_describe_88 rfl rfl ?_
        refine lv_iconst (v := 1) F.x F.b dX6_describe_89 (by decide) ?_
        refine lv_iadd F.x F.b dX6_describe_90 ?_
        refine putM F C 8 (by decide) q4_230 rfl (tyX6_ok 8 (by decide)) rfl rfl rfl dX6_describe_91 (fun H locs C => ?_)
        obtain ⟨S9, eS9⟩ : ∃ z : Mem, z = wr S5 10 0 8 (x8 + (1 : Int32)) := ⟨_, rfl⟩
        rw [← eS9] at C
        have h := h S9 eS9
        refine lv_bipush (v := 48) F.x F.b dX6_describe_94 (by decide) ?_
        refine lv_aload_n F.x F.b dX6_describe_96 rfl (lv_at hl 0 rfl) ?_
        refine getM F C 0 (by decide) q4_222 (v := .ref (ad 118)) rfl dX6_describe_97 ?_
        refine lv_iconst (v := 1) F.x F.b dX6_describe_100 (by decide) ?_
        obtain ⟨g10, h⟩ := h
        refine aldI F C (o := 118) (cq := 11) (iq := 0) (by decide) rfl rfl rfl g10 dX6_describe_101 ?_
        refine lv_bipush (v := 10) F.x F.b dX6_describe_102 (by decide) ?_
        refine lv_idiv F.x F.b dX6_describe_104 (by decide) ?_
        refine lv_iadd F.x F.b dX6_describe_105 ?_
        refine lv_i2c F.x F.b dX6_describe_106 rfl ?_
        obtain ⟨g11, h⟩ := h
        obtain ⟨g12, h⟩ := h
        refine astC F C (o := 123) (cq := 16) (iq := 0) (by decide) rfl rfl (fun _ => rfl) g11 g12 dX6_describe_107 (fun H locs C => ?_)
        obtain ⟨S13, eS13⟩ : ∃ z : Mem, z = wr S9 16 0 x8.toNatClampNeg ((((48 : Int32) + ((S9 11 0 (1 : Int32).toNatClampNeg) / (10 : Int32)))).toUInt32 % 65536).toInt32 := ⟨_, rfl⟩
        rw [← eS13] at C
        have h := h S13 eS13
        exact bX6_describe_108 F hr S13  _ _ _ h C (lv_sub hl [0] rfl)
    · have h := h.2 g1
      refine lv_aload_n F.x F.b dX6_describe_13 rfl (lv_at hl 0 rfl) ?_
      refine lv_iload_n F.x F.b dX6_describe_14 rfl (lv_at hl 1 rfl) ?_
      refine kI F C hl (kX6_lowestOn  h) (by decide) (ce_M _) rfl wv_X6_89 ⟨rfl, rfl, ⟨Nat.le_of_ble_eq_true rfl, Nat.le_of_ble_eq_true rfl⟩, ⟨Nat.le_of_ble_eq_true rfl, Nat.le_of_ble_eq_true rfl⟩, Nat.le_of_ble_eq_true rfl⟩ (rest := []) rfl dX6_describe_15 (fun r15 S14 H locs h C => ?_)
      refine lv_istore_n (lv' := [(2, .int r15), (0, .ref (ad 117)), (1, .int v1)]) F.x F.b dX6_describe_18 rfl hl (by decide) rfl (fun ls hl => ?_)
      refine lv_aload_n F.x F.b dX6_describe_19 rfl (lv_at hl 1 rfl) ?_
      refine getM F C 7 (by decide) q4_229 (v := .ref (ad 123)) rfl dX6_describe_20 ?_
      refine lv_iload_n F.x F.b dX6_describe_23 rfl (lv_at hl 2 rfl) ?_
      refine lv_iload_n F.x F.b dX6_describe_24 rfl (lv_at hl 0 rfl) ?_
      refine lv_if_lt (tgt := 36) F.x F.b dX6_describe_25 (by decide) (fun g16 => ?_) (fun g16 => ?_)
      · have h := h.1 g16
        refine ldS F 10 (by decide) rfl dX6_describe_36 ?_
        refine lv_aload_n F.x F.b dX6_describe_38 rfl (lv_at hl 1 rfl) ?_
        refine lv_iload_n F.x F.b dX6_describe_39 rfl (lv_at hl 2 rfl) ?_
        refine kI F C hl (kX6_state  h) (by decide) (ce_M _) rfl wv_X6_99 ⟨rfl, rfl, ⟨Nat.le_of_ble_eq_true rfl, Nat.le_of_ble_eq_true rfl⟩, ⟨Nat.le_of_ble_eq_true rfl, Nat.le_of_ble_eq_true rfl⟩, Nat.le_of_ble_eq_true rfl⟩ (rest := [.ref (ex 0 20), .int v1, .ref (ad 123)]) rfl dX6_describe_40 (fun r18 S17 H locs h C => ?_)
        obtain ⟨g19, h⟩ := h
        refine kIg F C hl (kJ0_charAt (post := fun r S1 => r = (chS 20 r18) ∧ S1 = S17) (by decide) g19 ⟨rfl, rfl⟩) (F.srec C (by decide)) wv_X6_176 ⟨rfl, rfl, ⟨Nat.le_of_ble_eq_true rfl, Nat.le_of_ble_eq_true rfl⟩, ⟨Nat.le_of_ble_eq_true rfl, Nat.le_of_ble_eq_true rfl⟩, Nat.le_of_ble_eq_true rfl⟩ (rest := [.int v1, .ref (ad 123)]) rfl dX6_describe_43 (fun rf20 Sf20 H locs hf20 C => ?_)
        rw [hf20.1]
        rw [hf20.2] at C
        obtain ⟨g21, h⟩ := h
        obtain ⟨g22, h⟩ := h
        refine astC F C (o := 123) (cq := 16) (iq := 0) (by decide) rfl rfl (fun _ => rfl) g21 g22 dX6_describe_46 (fun H locs C => ?_)
        obtain ⟨S23, eS23⟩ : ∃ z : Mem, z = wr S17 16 0 v1.toNatClampNeg (chS 20 r18) := ⟨_, rfl⟩
        rw [← eS23] at C
        have h := h S23 eS23
        obtain ⟨x24, ex24⟩ : ∃ z : Int32, z = v1 + (1 : Int32) := ⟨_, rfl⟩
        have h := h x24 ex24
        refine lv_iinc (v := x24) (lv' := [(1, .int x24), (2, .int r15), (0, .ref (ad 117))]) F.x F.b dX6_describe_47 hl (k := 2) rfl (by rw [ex24]; rfl) (by decide) rfl (fun ls hl => ?_)
        refine lv_goto (tgt := 7) F.x F.b dX6_describe_50 (by decide) ?_
        exact ih S23 x24 _ _ _ h C (lv_sub hl [2, 0] rfl)
      · have h := h.2 g16
        refine lv_bipush (v := 48) F.x F.b dX6_describe_28 (by decide) ?_
        refine lv_iload_n F.x F.b dX6_describe_30 rfl (lv_at hl 0 rfl) ?_
        refine lv_iadd F.x F.b dX6_describe_31 ?_
        refine lv_i2c F.x F.b dX6_describe_32 rfl ?_
        refine lv_goto (tgt := 46) F.x F.b dX6_describe_33 (by decide) ?_
        obtain ⟨g25, h⟩ := h
        obtain ⟨g26, h⟩ := h
        refine astC F C (o := 123) (cq := 16) (iq := 0) (by decide) rfl rfl (fun _ => rfl) g25 g26 dX6_describe_46 (fun H locs C => ?_)
        obtain ⟨S27, eS27⟩ : ∃ z : Mem, z = wr S14 16 0 v1.toNatClampNeg ((((48 : Int32) + r15)).toUInt32 % 65536).toInt32 := ⟨_, rfl⟩
        rw [← eS27] at C
        have h := h S27 eS27
        obtain ⟨x28, ex28⟩ : ∃ z : Int32, z = v1 + (1 : Int32) := ⟨_, rfl⟩
        have h := h x28 ex28
        refine lv_iinc (v := x28) (lv' := [(1, .int x28), (2, .int r15), (0, .ref (ad 117))]) F.x F.b dX6_describe_47 hl (k := 2) rfl (by rw [ex28]; rfl) (by decide) rfl (fun ls hl => ?_)
        refine lv_goto (tgt := 7) F.x F.b dX6_describe_50 (by decide) ?_
        exact ih S27 x28 _ _ _ h C (lv_sub hl [2, 0] rfl)
set_option maxRecDepth 100000 in
set_option maxHeartbeats 4000000 in
theorem kX6_describe {l : Launch} {D : va_G} {ky : Nat → ClassId} {ad : Nat → Nat} {ex : Nat → Nat → Nat} {post : Int32 → Mem → Prop} {S : Mem} (h : mX6_describe post S ) : CMi l D ky ad ex yX6_describe cX6_describe 3 (some .int) rmX6_describe 0 0 [.ref (ad 117)] S post := by
  refine CMi.of (by decide) (Nat.le_of_ble_eq_true rfl) (fun p e s m args below meth c ls F hr C hl => ?_)
  have hl : lv_has ls 3 [(0, .ref (ad 117))] := hl
  unfold mX6_describe at h
  refine lv_aload_n F.x F.b dX6_describe_0 rfl (lv_at hl 0 rfl) ?_
  refine lv_iconst (v := 0) F.x F.b dX6_describe_1 (by decide) ?_
  refine putM F C 21 (by decide) q5_3 rfl (tyX6_ok 21 (by decide)) rfl rfl rfl dX6_describe_2 (fun H locs C => ?_)
  obtain ⟨S1, eS1⟩ : ∃ z : Mem, z = wr S 10 0 21 (0 : Int32) := ⟨_, rfl⟩
  rw [← eS1] at C
  have h := h S1 eS1
  refine lv_iconst (v := 0) F.x F.b dX6_describe_5 (by decide) ?_
  refine lv_istore_n (lv' := [(1, .int (0 : Int32)), (0, .ref (ad 117))]) F.x F.b dX6_describe_6 rfl hl (by decide) rfl (fun ls hl => ?_)
  obtain ⟨n2, h⟩ := h
  exact bX6_describe_7 F hr n2 S1 (0 : Int32) _ _ _ h C (lv_sub hl [1, 0] rfl)
