/-! THE MEMORY: tag, object of that tag, slot. Tags: 0 Ford, 1 heights, 2 Traveller (8*j+t), 3 FordToll, 4 History, 6 Question, 7 text, 8 answered, 9 line, 10 FordTollModel, 11 now, 12 tried, 13 thought, 14 kept, 15 saved, 16 line, 17 text, 18 codes, 19 stack, 20 answers (11 to 20 the reference's). -/
abbrev Mem : Type := Nat → Nat → Nat → Int32
def wr (S : Mem) (c i k : Nat) (v : Int32) : Mem := fun c' i' k' => if c' = c ∧ i' = i ∧ k' = k then v else S c' i' k'
theorem wr_same {S : Mem} {c i k : Nat} {v : Int32} : wr S c i k v c i k = v := by simp [wr]
theorem wr_c {S : Mem} {c i k c' : Nat} {v : Int32} (h : c' ≠ c) : wr S c i k v c' = S c' := by
  funext i' k'; simp [wr, h]
theorem wr_i {S : Mem} {c i k i' : Nat} {v : Int32} (h : i' ≠ i) : wr S c i k v c i' = S c i' := by
  funext k'; simp [wr, h]
theorem wr_k {S : Mem} {c i k k' : Nat} {v : Int32} (h : k' ≠ k) : wr S c i k v c i k' = S c i k' := by
  simp [wr, h]
theorem wr_row {S : Mem} {c i k : Nat} {v : Int32} : wr S c i k v c i = upd (S c i) k v := by
  funext k'; simp [wr, upd]
def tg (o : Nat) : Nat := if o < 10 then 0 else if o < 20 then 1 else if o < 100 then 2 else if o < 110 then 21 else o - 107
def ix (o : Nat) : Nat := if o < 10 then o else if o < 20 then o - 10 else if o < 100 then o - 20 else if o < 110 then o - 100 else 0
theorem tg_ix {o o' : Nat} (ho : o < 117) (ho' : o' < 117) (h : tg o = tg o') (h' : ix o = ix o') : o = o' := by
  unfold tg at h; unfold ix at h'
  by_cases a1 : o < 10 <;> by_cases a2 : o < 20 <;> by_cases a3 : o < 100 <;> by_cases a4 : o < 110 <;> by_cases b1 : o' < 10 <;> by_cases b2 : o' < 20 <;> by_cases b3 : o' < 100 <;> by_cases b4 : o' < 110 <;> simp only [a1, a2, a3, a4, b1, b2, b3, b4, if_true, if_false] at h h' <;> omega
def fsF (ad : Nat → Nat) (j : Nat) (r : Nat → Int32) : List Value := [.ref (ad (10 + j)), .ref (ad (100 + j)), .int (r 2), .int (r 3), .int (r 4), .int (r 5), .int (r 6), .int (r 7), .int (r 8), .int (r 9), .int (r 10), .int (r 11)]
def fsT (r : Nat → Int32) : List Value := [.int (r 0), .int (r 1), .int (r 2), .int (r 3), .int (r 4), .int (r 5), .int (r 6), .int (r 7)]
def fsX (ad : Nat → Nat) (r : Nat → Int32) : List Value := [.ref (ad 0), .ref (ad 111), .ref (ad 9), .int (r 3), .ref (ad 113), .int (r 5), .ref (ad 115), .int (r 7), .int (r 8), .int (r 9), .ref (ad 116), .int (r 11)]
def fsI (ad : Nat → Nat) (r : Nat → Int32) : List Value := [.ref (ad 112), .int (r 1), .int (r 2)]
def fsQ (ad : Nat → Nat) (r : Nat → Int32) : List Value := [.ref (ad 114), .int (r 1), .int (r 2), .int (r 3)]
def celr (ky : Nat → ClassId) (ad : Nat → Nat) (o : Nat) (r : Nat → Int32) : va_E :=
  if o < 10 then .inr (0, fsF ad o r) else if o < 20 then .inl (ky 1, 10, .inl r) else if o < 100 then .inr (3, fsT r)
  else if o < 110 then .inl (ky 4, 8, .inr (.inr (.inr (.inr (fun t => some (ad (20 + (8 * (o - 100) + t))))))))
  else if o = 110 then .inr (4, fsX ad r) else if o = 111 then .inr (1, fsI ad r) else if o = 112 then .inl (ky 3, 8, .inr (.inr (.inr (.inr (fun i => some (ad (i + 1)))))))
  else if o = 113 then .inr (2, fsQ ad r) else if o = 114 then .inl (ky 0, 60, .inl r) else if o = 115 then .inl (ky 1, 8, .inl r) else .inl (ky 0, 13, .inl r)
def WS (ad : Nat → Nat) (ky : Nat → ClassId) (S : Mem) : va_W := (List.range 117).map (fun o => (ad o, celr ky ad o (S (tg o) (ix o))))
theorem WS_at {ad : Nat → Nat} {ky : Nat → ClassId} {S : Mem} {o : Nat} (h : o < 117) : (WS ad ky S)[o]? = some (ad o, celr ky ad o (S (tg o) (ix o))) := by
  simp [WS, h]
theorem WS_wr {ad : Nat → Nat} {ky : Nat → ClassId} {S : Mem} {o k : Nat} {v : Int32} (ho : o < 117) : (WS ad ky S).set o (ad o, celr ky ad o (upd (S (tg o) (ix o)) k v)) = WS ad ky (wr S (tg o) (ix o) k v) := by
  apply List.ext_getElem?
  intro j
  rw [List.getElem?_set]
  by_cases hj : j < 117
  · rw [WS_at hj, WS_at hj]
    by_cases e : o = j
    · subst e
      simp [WS, hj, wr_row]
    · rw [if_neg e]
      have h : wr S (tg o) (ix o) k v (tg j) (ix j) = S (tg j) (ix j) := by
        by_cases h1 : tg j = tg o
        · rw [h1]
          exact wr_i (fun h2 => e (tg_ix hj ho h1 h2).symm)
        · rw [wr_c h1]
      rw [h]
  · have h1 : (WS ad ky S)[j]? = none := by simp [WS]; omega
    have h2 : (WS ad ky (wr S (tg o) (ix o) k v))[j]? = none := by simp [WS]; omega
    rw [h1, h2]
    have h3 : ¬ j < (WS ad ky S).length := by simp [WS]; omega
    by_cases e : o = j
    · subst e
      rw [if_pos rfl, if_neg h3]
    · rw [if_neg e]
abbrev clv : List vw_C := [(RX0, TX0, 12), (RX1, TX1, 3), (RX2, TX2, 4), (RX3, TX3, 8), (RX5, TX5, 12)]
abbrev TYS (ky : Nat → ClassId) : List (ClassId × FieldType) := [(ky 0, .char), (ky 1, .int), (ky 2, .long), (ky 3, .object "FordToll$Ford"), (ky 4, .object "FordToll$Traveller")]
theorem tg_F {j : Nat} (h : j < 10) : tg j = 0 := by simp [tg, h]
theorem ix_F {j : Nat} (h : j < 10) : ix j = j := by simp [ix, h]
theorem tg_H {j : Nat} (h : j < 10) : tg (10 + j) = 1 := by unfold tg; rw [if_neg (by omega), if_pos (by omega)]
theorem ix_H {j : Nat} (h : j < 10) : ix (10 + j) = j := by unfold ix; rw [if_neg (by omega), if_pos (by omega)]; omega
theorem tg_T {i : Nat} (h : i < 80) : tg (20 + i) = 2 := by unfold tg; rw [if_neg (by omega), if_neg (by omega), if_pos (by omega)]
theorem ix_T {i : Nat} (h : i < 80) : ix (20 + i) = i := by unfold ix; rw [if_neg (by omega), if_neg (by omega), if_pos (by omega)]; omega
theorem ce_F {ky : Nat → ClassId} {ad : Nat → Nat} {j : Nat} (h : j < 10) (r : Nat → Int32) : celr ky ad j r = .inr (0, fsF ad j r) := by simp [celr, h]
theorem ce_H {ky : Nat → ClassId} {ad : Nat → Nat} {j : Nat} (h : j < 10) (r : Nat → Int32) : celr ky ad (10 + j) r = .inl (ky 1, 10, .inl r) := by
  have h1 : ¬ 10 + j < 10 := by omega
  have h2 : 10 + j < 20 := by omega
  simp only [celr, if_neg h1, if_pos h2]
theorem ce_T {ky : Nat → ClassId} {ad : Nat → Nat} {i : Nat} (h : i < 80) (r : Nat → Int32) : celr ky ad (20 + i) r = .inr (3, fsT r) := by
  have h1 : ¬ 20 + i < 10 := by omega
  have h2 : ¬ 20 + i < 20 := by omega
  have h3 : 20 + i < 100 := by omega
  simp only [celr, if_neg h1, if_neg h2, if_pos h3]
theorem ce_A {ky : Nat → ClassId} {ad : Nat → Nat} {j : Nat} (h : j < 10) (r : Nat → Int32) : celr ky ad (100 + j) r = .inl (ky 4, 8, .inr (.inr (.inr (.inr (fun t => some (ad (20 + (8 * j + t)))))))) := by
  have h1 : ¬ 100 + j < 10 := by omega
  have h2 : ¬ 100 + j < 20 := by omega
  have h3 : ¬ 100 + j < 100 := by omega
  have h4 : 100 + j < 110 := by omega
  have h5 : 100 + j - 100 = j := by omega
  simp only [celr, if_neg h1, if_neg h2, if_neg h3, if_pos h4, h5]
/-- the addresses of the pool, and what is new -/
def AW (ad : Nat → Nat) (sz : Nat) : Nat → Prop := fun q => (∃ o, o < 117 ∧ q = ad o) ∨ sz ≤ q
theorem AW.o {ad : Nat → Nat} {sz o : Nat} (h : o < 117) : AW ad sz (ad o) := Or.inl ⟨o, h, rfl⟩
def INJ (ad : Nat → Nat) : Prop := ∀ i j, i < 117 → j < 117 → ad i = ad j → i = j
theorem WS_D {ad : Nat → Nat} {ky : Nat → ClassId} {S : Mem} {sz : Nat} (h : INJ ad) : va_D (AW ad sz) (WS ad ky S) := by
  have hk : ∀ (k : Nat) (q : Nat × va_E), (WS ad ky S)[k]? = some q → k < 117 ∧ q.1 = ad k := by
    intro k q hq
    have hl := (List.getElem?_eq_some_iff.mp hq).1
    have hl' : k < 117 := by simpa [WS] using hl
    rw [WS_at hl'] at hq
    cases hq
    exact ⟨hl', rfl⟩
  refine ⟨fun i j x y hx hy e => ?_, fun k q hq => ?_⟩
  · obtain ⟨a1, a2⟩ := hk i x hx
    obtain ⟨b1, b2⟩ := hk j y hy
    exact h i j a1 b1 (by rw [← a2, ← b2, e])
  · obtain ⟨a1, a2⟩ := hk k q hq
    rw [a2]
    exact AW.o a1
/-! WHAT STANDS STILL: words of nest mates, statics, the words' enum, texts -/
def isCast : Cond → Bool
  | .castable _ _ => true
  | .declares _ => true
  | _ => false
def wC : List Cond := lw_tbl.filter isCast
theorem wC_of {w : Cond} (h : w ∈ lw_tbl) (g : isCast w = true) : w ∈ wC := List.mem_filter.mpr ⟨h, g⟩
theorem wC_tbl {w : Cond} (h : w ∈ wC) : w ∈ lw_tbl := (List.mem_filter.mp h).1
theorem wC_warm {s U : State} (hW : s.WarmedH U.vm) {w : Cond} (h : w ∈ wC) (hZ : va_Nw w s) : va_Nw w U := by
  have h2 := (List.mem_filter.mp h).2
  cases w with
  | castable a b => exact va_tabs rfl (rfl : (s.setVm U.vm).vm = U.vm) ((Cond.castable_setVm hW.alike a b).trans hZ)
  | declares a => exact va_Nw.warmD hW hZ
  | _ => cases h2
/-- the texts whose signs matter: the enum's ten, then the law's two -/
def lenS : List Nat := [6, 7, 6, 4, 3, 5, 3, 3, 4, 7, 1, 14]
def bytS : List (List Int32) := [[119, 97, 108, 107, 101, 114], [99, 97, 114, 114, 105, 101, 114], [100, 111, 110, 107, 101, 121], [110, 101, 97, 114], [102, 97, 114], [115, 116, 111, 110, 101], [111, 117, 116], [119, 101, 116], [108, 111, 97, 100], [99, 114, 111, 115, 115, 101, 100], [113], [110, 101, 97, 114, 47, 102, 97, 114, 47, 115, 116, 111, 110, 101]]
def kS : List Nat := [220, 228]
def tS : List String := ["q", "near/far/stone"]
def kMs : List Nat := [267, 270, 280, 115, 272, 170, 175, 183, 202, 208, 210, 212, 221, 247, 250, 252, 260]
def tMs : List String := ["no such stone", "a number is out of range", "the call is refused", "a stone stays under", "no such traveller", "the traveller does not come to the other bank", "such a traveller could not cross", "the input buffer is full", "the question is malformed", "the answer has no such traveller", "no question was malformed", "nothing was refused", "the line has no such character", "there are no travellers", "nobody crossed or went back", "no change can be undone", "there is no snapshot"]
def whW : List Int32 := [0, 0, 0, 9, 9, 9, 4, 2, 1, 7]
def nuW : List Int32 := [0, 1, 2, 0, 2, 1, 1, -1, -1, -1]
def ncP : List (String × String) := [("java/lang/IllegalArgumentException", "java/lang/IndexOutOfBoundsException"), ("java/lang/UnsupportedOperationException", "java/lang/IndexOutOfBoundsException"), ("java/lang/UnsupportedOperationException", "java/lang/IllegalArgumentException"), ("java/util/NoSuchElementException", "java/lang/IndexOutOfBoundsException"), ("java/util/NoSuchElementException", "java/lang/IllegalArgumentException")]
abbrev sdW : String := "FordToll$Word"
/-- the script: its cell, its length, its ints -/
def xsE (ex : Nat → Nat → Nat) (j : Nat) : Int32 := Int32.ofNat (ex 5 j)
theorem va_X.lt {b L : Nat} {xs : Nat → Int32} {U : State} {H : Heap} (h : va_X b L xs U H) : b < H.size := by
  obtain ⟨scr, h1, -⟩ := h
  exact (Array.getElem?_eq_some_iff.mp h1).1
def ST (ex : Nat → Nat → Nat) (A : Nat → Prop) (U : State) (H : Heap) : Prop :=
  (∀ w ∈ wN, va_Nw w U) ∧ (∀ w ∈ wC, va_Nw w U) ∧
  vx_Zq Bundle.tN "UNASSIGNED_STACK" Bundle.steD A U H ∧ vx_Zq Bundle.tN "SUPPRESSED_SENTINEL" Bundle.listD A U H ∧
  (∀ i, i < 12 → vk_S 1 [lenS.getD i 0] [bytS.getD i []] (fun _ => ex 0 i) (fun _ => ex 1 i) A U H) ∧
  (∀ i, i < 2 → vk_R "FordTollLaw" (kS.getD i 0) (tS.getD i "") (ex 0 (10 + i)) U) ∧
  (∀ i, i < 17 → ∃ a, vk_R "FordToll" (kMs.getD i 0) (tMs.getD i "") a U) ∧
  (∀ i, i < 10 → va_O sdW (ex 2 i) A U H ∧ va_OF sdW "spelling" "Ljava/lang/String;" (.ref (ex 0 i)) (ex 2 i) A U H ∧ va_OF sdW "what" "I" (.int (whW.getD i 0)) (ex 2 i) A U H ∧ va_OF sdW "number" "I" (.int (nuW.getD i 0)) (ex 2 i) A U H) ∧
  va_Z "FordToll" "WORDS" "[LFordToll$Word;" (.ref (ex 3 0)) A U H ∧ va_T (.object sdW) (ex 3 0) 10 (fun i => .ref (ex 2 i)) A U H ∧
  va_Z "java/lang/String" "COMPACT_STRINGS" "Z" (.int 1) A U H ∧ va_Zq "jdk/internal/util/Preconditions" "SIOOBE_FORMATTER" "Ljava/util/function/BiFunction;" A U H ∧ (∀ q ∈ ncP, va_Nc q.1 q.2 U) ∧
  ¬ A (ex 4 0) ∧ va_X (ex 4 0) (ex 4 1) (xsE ex) U H
theorem ST.call {ex : Nat → Nat → Nat} {A B : Nat → Prop} {s U : State} {H : Heap} {locs : List Loc} (h : ST ex A s s.heap) (hS : va_S A s.heap H locs) (hB : ∀ q, B q → A q) (hU : U.heap = H) (hW : s.WarmedH U.vm) : ST ex B U U.heap := by
  obtain ⟨h1, h2, h3, h4, h5, h6, h7, h8, h9, h10, h11, h12, h13, h14, h15⟩ := h
  have hk := hS.2.1
  have ha := hW.alike
  rw [hU]
  refine ⟨fun w hw => wN_warm hW hw (h1 w hw), fun w hw => wC_warm hW hw (h2 w hw), ((vx_Zq.moved ha h3).kept hk).narrow hB, ((vx_Zq.moved ha h4).kept hk).narrow hB, fun i hi => ((vk_S.moved ha (h5 i hi)).kept hk).narrow hB, fun i hi => vk_R.warm hW (h6 i hi), fun i hi => ?_, fun i hi => ?_, ((va_Z.moved ha h9).kept hk).narrow hB, ((va_T.moved ha h10).kept hk).narrow hB, ((va_Z.moved ha h11).kept hk).narrow hB, ((va_Zq.moved ha h12).kept hk).narrow hB, fun q hq => va_Nc.moved ha (h13 q hq), fun h => h14 (hB _ h), va_X.moved ha (h15.kept (hk _ h15.lt h14))⟩
  · obtain ⟨a, q⟩ := h7 i hi
    exact ⟨a, vk_R.warm hW q⟩
  · obtain ⟨q1, q2, q3, q4⟩ := h8 i hi
    exact ⟨((va_O.moved ha q1).kept hk).narrow hB, ((va_OF.moved ha q2).kept hk).narrow hB, ((va_OF.moved ha q3).kept hk).narrow hB, ((va_OF.moved ha q4).kept hk).narrow hB⟩
theorem ST.same {ex : Nat → Nat → Nat} {A : Nat → Prop} {s U : State} {H : Heap} (h : ST ex A s H) (hv : U.vm = s.vm) : ST ex A U H := by
  obtain ⟨h1, h2, h3, h4, h5, h6, h7, h8, h9, h10, h11, h12, h13, h14, h15⟩ := h
  have ha : s.vm.Alike U.vm := by rw [hv]; exact Vm.Alike.refl _
  refine ⟨fun w hw => va_Nw.same (wN_on hw) hv.symm (h1 w hw), fun w hw => ?_, vx_Zq.moved ha h3, vx_Zq.moved ha h4, fun i hi => vk_S.moved ha (h5 i hi), fun i hi => vk_R.same hv (h6 i hi), fun i hi => ?_, fun i hi => ?_, va_Z.moved ha h9, va_T.moved ha h10, va_Z.moved ha h11, va_Zq.moved ha h12, fun q hq => va_Nc.moved ha (h13 q hq), h14, va_X.moved ha h15⟩
  · have h0 : w.onTables = true := by
      have h2 := (List.mem_filter.mp hw).2
      cases w <;> first | rfl | cases h2
    exact va_Nw.same h0 hv.symm (h2 w hw)
  · obtain ⟨a, q⟩ := h7 i hi
    exact ⟨a, vk_R.same hv q⟩
  · obtain ⟨q1, q2, q3, q4⟩ := h8 i hi
    exact ⟨va_O.moved ha q1, va_OF.moved ha q2, va_OF.moved ha q3, va_OF.moved ha q4⟩
/-! CONTRACTS: a start, an end, a method's body -/
def PRE (D : va_G) (ky : Nat → ClassId) (ad : Nat → Nat) (ex : Nat → Nat → Nat) (S : Mem) (sz : Nat) (U : State) : Prop :=
  U.heap.size = sz ∧ va_P D clv (WS ad ky S) U.heap ∧ va_K D clv (TYS ky) U ∧ INJ ad ∧ ST ex (AW ad sz) U U.heap
theorem PRE.blind {D : va_G} {ky : Nat → ClassId} {ad : Nat → Nat} {ex : Nat → Nat → Nat} {S : Mem} {sz : Nat} {av : List Value} : FrameBlind (va_Pc av (PRE D ky ad ex S sz)) := by
  intro a U g mk h
  obtain ⟨h0, h1, h2, h3, h4, h5⟩ := h
  exact ⟨h0, h1, h2, va_K.moved (u := U) (U := U.calling g mk a) (Vm.Alike.refl U.vm) h3, h4, ST.same h5 rfl⟩
abbrev AFT (D : va_G) (ky : Nat → ClassId) (ad : Nat → Nat) (S : Mem) (t : State) : Prop := va_P D clv (WS ad ky S) t.heap
def CMi (l : Launch) (D : va_G) (ky : Nat → ClassId) (ad : Nat → Nat) (ex : Nat → Nat → Nat) (y : MethodName) (b : ByteArray) (n : Nat) (r : Option FieldType) (rm : Room) (mc ms : Nat) (av : List Value) (S : Mem) (post : Int32 → Mem → Prop) : Prop :=
  ∀ sz : Nat, Met l y (.code y b n r :: wA) rm (va_Pc av (PRE D ky ad ex S sz)) (va_Qi post (AFT D ky ad) (AW ad sz)) mc ms (AW ad sz)
def CMv (l : Launch) (D : va_G) (ky : Nat → ClassId) (ad : Nat → Nat) (ex : Nat → Nat → Nat) (y : MethodName) (b : ByteArray) (n : Nat) (r : Option FieldType) (rm : Room) (mc ms : Nat) (av : List Value) (S : Mem) (post : Mem → Prop) : Prop :=
  ∀ sz : Nat, Met l y (.code y b n r :: wA) rm (va_Pc av (PRE D ky ad ex S sz)) (va_Qv post (AFT D ky ad) (AW ad sz)) mc ms (AW ad sz)
/-- what holds all through a method's body -/
def Fx (p : Program) (s : State) (m : MethodId) (args : Array Value) (meth : Method) (c : Code) (D : va_G) (ky : Nat → ClassId) (ad : Nat → Nat) (ex : Nat → Nat → Nat) (cc : ByteArray) (nL : Nat) (own : String) : Prop :=
  p.tables.exec = Jvm.exec ∧ c.code = cc ∧ c.maxLocals = nL ∧ s.vm.findClass own = some m.cls ∧ (∀ w ∈ wA, w.before args s = true) ∧ meth.locks = false ∧ va_K D clv (TYS ky) s ∧ INJ ad ∧ ST ex (AW ad s.heap.size) s s.heap
/-- the heap holds the memory S -/
def Cx (D : va_G) (ky : Nat → ClassId) (ad : Nat → Nat) (s : State) (S : Mem) (H : Heap) (locs : List Loc) : Prop := va_P D clv (WS ad ky S) H ∧ va_S (AW ad s.heap.size) s.heap H locs
section BO
variable {l : Launch} {D : va_G} {ky : Nat → ClassId} {ad : Nat → Nat} {ex : Nat → Nat → Nat} {y : MethodName} {b : ByteArray} {n : Nat} {r : Option FieldType} {rm : Room} {mc ms : Nat} {av : List Value} {S : Mem}
theorem CMi.of {post : Int32 → Mem → Prop} (hy : plainName y.cls = true) (hn : (lg_sl av).length ≤ n)
    (body : ∀ (p : Program) (e : Env) (s : State) (m : MethodId) (args : Array Value) (below : List Frame) (meth : Method) (c : Code) (ls : Array Slot), Fx p s m args meth c D ky ad ex b n y.cls → meth.sig.returnType = r → Cx D ky ad s S s.heap [] → lv_has ls n (lv_args 0 av) →
      W p l e rm s m args below meth c s.heap [] 0 0 (MQ below (va_Qi post (AFT D ky ad) (AW ad s.heap.size)) args s mc ms (AW ad s.heap.size)) (F0 m 0 ls [])) : CMi l D ky ad ex y b n r rm mc ms av S post := by
  intro sz
  refine Met.ofW (cc := b) (maxL := n) (ret := r) hy rfl ?_
  intro p e s m args below meth c s₁ B hml hv
  obtain ⟨rfl, hsz, hP, hK, hJ, hST⟩ := hv
  subst hsz
  have hts := atoms_spec (ws := .code y b n r :: wA) B.pre
  have hl := lv_entry av (n := n) hn
  rw [lg_entry_eq]
  exact body p e s m _ below meth c _ ⟨B.exec, B.bytes, hml, findClass_of_methodNamed B.named, fun w hw => hts w (List.mem_cons_of_mem _ hw), B.notSynchronized, hK, hJ, hST⟩ B.returns ⟨hP, va_S.rf⟩ hl
theorem CMv.of {post : Mem → Prop} (hy : plainName y.cls = true) (hn : (lg_sl av).length ≤ n)
    (body : ∀ (p : Program) (e : Env) (s : State) (m : MethodId) (args : Array Value) (below : List Frame) (meth : Method) (c : Code) (ls : Array Slot), Fx p s m args meth c D ky ad ex b n y.cls → meth.sig.returnType = r → Cx D ky ad s S s.heap [] → lv_has ls n (lv_args 0 av) →
      W p l e rm s m args below meth c s.heap [] 0 0 (MQ below (va_Qv post (AFT D ky ad) (AW ad s.heap.size)) args s mc ms (AW ad s.heap.size)) (F0 m 0 ls [])) : CMv l D ky ad ex y b n r rm mc ms av S post := by
  intro sz
  refine Met.ofW (cc := b) (maxL := n) (ret := r) hy rfl ?_
  intro p e s m args below meth c s₁ B hml hv
  obtain ⟨rfl, hsz, hP, hK, hJ, hST⟩ := hv
  subst hsz
  have hts := atoms_spec (ws := .code y b n r :: wA) B.pre
  have hl := lv_entry av (n := n) hn
  rw [lg_entry_eq]
  exact body p e s m _ below meth c _ ⟨B.exec, B.bytes, hml, findClass_of_methodNamed B.named, fun w hw => hts w (List.mem_cons_of_mem _ hw), B.notSynchronized, hK, hJ, hST⟩ B.returns ⟨hP, va_S.rf⟩ hl
end BO
