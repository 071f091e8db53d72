/-! ONE ARRAY BESIDE THE MEMORY: made, read, written -/
abbrev ice (ky : Nat → ClassId) (f : Nat → Int32) : va_E := .inl (ky 1, 7, .inl f)
abbrev lce (ky : Nat → ClassId) (f : Nat → Int64) : va_E := .inl (ky 2, 13, .inr (.inl f))
def loadF : Nat → Int32 := upd (upd (upd (upd (upd (upd (upd (fun _ => 0) 0 0) 1 2) 2 3) 3 5) 4 8) 5 9) 6 20
section ER
variable {p : Program} {l : Launch} {e : Env} {R : Room} {s : State} {m : MethodId} {args : Array Value} {below : List Frame} {meth : Method} {c : Code} {H : Heap} {locs : List Loc} {cells slots : Nat} {Q : State → Prop} {cc : ByteArray} {pc nL : Nat} {ls : Array Slot} {rest : List Value} {own : String} {D : va_G} {ky : Nat → ClassId} {ad : Nat → Nat} {ex : Nat → Nat → Nat} {S : Mem} {A : Nat → Prop} {ao : Nat}
/-- the memory and the cell as one world -/
theorem Cg.all {A : Nat → Prop} {x : va_E} (hJ : INJ ad) (hA : ∀ q, AW ad s.heap.size q → A q) (hao : A ao) (C : Cg D ky ad s A S [(ao, x)] H locs) : va_P D clv (WS ad ky S ++ [(ao, x)]) H ∧ va_D A (WS ad ky S ++ [(ao, x)]) := by
  have hlen : (WS ad ky S).length = 117 := by simp [WS]
  have hget : ∀ (k : Nat) (q : Nat × va_E), (WS ad ky S ++ [(ao, x)])[k]? = some q → (k < 117 ∧ q.1 = ad k ∧ (WS ad ky S)[k]? = some q) ∨ (k = 117 ∧ q = (ao, x)) := by
    intro k q hq
    by_cases hk : k < 117
    · rw [List.getElem?_append_left (by omega)] at hq
      have h2 := hq
      rw [WS_at hk] at h2
      cases h2
      exact Or.inl ⟨hk, rfl, hq⟩
    · rw [List.getElem?_append_right (by omega), hlen] at hq
      have hz : k - 117 < 1 := (List.getElem?_eq_some_iff.mp hq).1
      have hk2 : k = 117 := by omega
      subst hk2
      cases hq
      exact Or.inr ⟨rfl, rfl⟩
  refine ⟨fun k q hq => ?_, fun i j a b hi hj e => ?_, fun k q hq => ?_⟩
  · rcases hget k q hq with ⟨h1, h2, h3⟩ | ⟨h1, rfl⟩
    · exact C.1 k q h3
    · exact C.2.1 0 _ rfl
  · rcases hget i a hi with ⟨h1, h2, h3⟩ | ⟨h1, h2⟩ <;> rcases hget j b hj with ⟨g1, g2, g3⟩ | ⟨g1, g2⟩
    · exact hJ i j h1 g1 (by rw [← h2, ← g2, e])
    · subst g2
      exact (C.2.2.2 i h1 _ List.mem_cons_self (by rw [← h2, e])).elim
    · subst h2
      exact (C.2.2.2 j g1 _ List.mem_cons_self (by rw [← g2, ← e])).elim
    · omega
  · rcases hget k q hq with ⟨h1, h2, h3⟩ | ⟨h1, rfl⟩
    · rw [h2]
      exact hA _ (AW.o h1)
    · exact hao
theorem Cg.split {A : Nat → Prop} {x y : va_E} {H1 : Heap} {locs1 : List Loc} (C : Cg D ky ad s A S [(ao, x)] H locs) (hP : va_P D clv ((WS ad ky S ++ [(ao, x)]).set 117 (ao, y)) H1) (hS : va_S A s.heap H1 locs1) : Cg D ky ad s A S [(ao, y)] H1 locs1 := by
  have hlen : (WS ad ky S).length = 117 := by simp [WS]
  refine ⟨fun k q hq => hP k q ?_, fun k q hq => hP 117 q ?_, hS, fun o ho z hz => ?_⟩
  · have hk : k < 117 := by
      have h2 := (List.getElem?_eq_some_iff.mp hq).1
      omega
    rw [List.getElem?_set_ne (by omega), List.getElem?_append_left (by omega)]
    exact hq
  · have hz : k < 1 := (List.getElem?_eq_some_iff.mp hq).1
    have hk : k = 0 := by omega
    subst hk
    cases hq
    rw [List.getElem?_set_self (by simp [hlen])]
  · cases List.mem_singleton.mp hz
    exact C.2.2.2 o ho (ao, x) List.mem_cons_self
theorem WS_DA (hJ : INJ ad) (hA : ∀ q, AW ad s.heap.size q → A q) : va_D A (WS ad ky S) := by
  have h := WS_D (ky := ky) (S := S) (sz := s.heap.size) hJ
  exact ⟨h.1, fun k q hk => hA _ (h.2 k q hk)⟩
theorem gNewa (F : Gx p s m args meth c D ky ad ex cc nL own A) (hA : ∀ q, s.heap.size ≤ q → A q) (C : Cg D ky ad s A S [] H locs) {atype : ArrayType} {ty : FieldType} (hty : newarray.typeOf atype = ty) (harr : Cond.arrayClass (newarray.typeOf atype) ∈ wA) (i : Nat) (hi : (TYS ky)[i]? = some (ky i, ty)) (hu : ∀ cA cB : ClassId, va_RA s cA ty → va_RA s cB ty → cA = cB) {n : Int32} {N' : Nat} {a0 : vp_A} (ha : ∀ cA : ClassId, vp_cell cA a0 = arrV cA N' (fun _ => defaultValue ty)) (hn : ¬ n < 0) (hN : n.toNatClampNeg = N') (hbytes : N' * componentBytes ty ≤ 536870912) (hcells : cells + 1 ≤ R.cells) (hslots : slots + N' ≤ R.slots) (d : decode cc pc = .ok (.newarray atype, 2))
    (kk : ∀ (q : Nat) (H1 : Heap), A q → Cg D ky ad s A S [(q, .inl (ky i, a0))] H1 locs → W p l e R s m args below meth c H1 locs (cells + 1) (slots + N') Q (F0 m (pc + 2) ls (.ref q :: rest))) : W p l e R s m args below meth c H locs cells slots Q (F0 m pc ls (.int n :: rest)) :=
  va_newa F.x F.b (F.ts _ harr) hty F.K C.1 (WS_DA F.J F.aw) C.2.2.1 hA ha hn hN hbytes hcells hslots d (fun q cA H1 hK hP hD hS => by
    have h1 := (hK.2 5 (cA, ty) rfl).2
    have h2 := (F.K.2 i (ky i, ty) hi).2
    have h3 := hu _ _ h1 h2
    subst h3
    have hlen : (WS ad ky S).length = 117 := by simp [WS]
    have hq : (WS ad ky S ++ [(q, (.inl (ky i, a0) : va_E))])[117]? = some (q, .inl (ky i, a0)) := by rw [List.getElem?_append_right (by omega), hlen]; rfl
    refine kk q H1 (hD.2 117 _ hq) ⟨fun k z hz => hP k z ?_, fun k z hz => ?_, hS, fun o ho z hz => ?_⟩
    · have hk : k < 117 := by
        have h2 := (List.getElem?_eq_some_iff.mp hz).1
        omega
      rw [List.getElem?_append_left (by omega)]
      exact hz
    · have hz1 : k < 1 := (List.getElem?_eq_some_iff.mp hz).1
      have hk : k = 0 := by omega
      subst hk
      cases hz
      exact hP 117 _ hq
    · cases List.mem_singleton.mp hz
      intro e9
      have h5 := hD.1 o 117 _ _ (by rw [List.getElem?_append_left (by omega)]; exact WS_at ho) hq e9
      omega)
theorem eIald (F : Gx p s m args meth c D ky ad ex cc nL own A) {f : Nat → Int32} (C : Cg D ky ad s A S [(ao, ice ky f)] H locs) {i : Int32} (hin : vp_in i 7) (d : decode cc pc = .ok (.iaload, 1))
    (kk : W p l e R s m args below meth c H locs cells slots Q (F0 m (pc + 1) ls (.int (f i.toNatClampNeg) :: rest))) : W p l e R s m args below meth c H locs cells slots Q (F0 m pc ls (.int i :: .ref ao :: rest)) :=
  va_iald F.x F.b F.K C.2.1 0 1 rfl rfl hin d kk
theorem eLald (F : Gx p s m args meth c D ky ad ex cc nL own A) {f : Nat → Int64} (C : Cg D ky ad s A S [(ao, lce ky f)] H locs) {i : Int32} (hin : vp_in i 13) (d : decode cc pc = .ok (.laload, 1))
    (kk : W p l e R s m args below meth c H locs cells slots Q (F0 m (pc + 1) ls (.long (f i.toNatClampNeg) :: rest))) : W p l e R s m args below meth c H locs cells slots Q (F0 m pc ls (.int i :: .ref ao :: rest)) :=
  va_lald F.x F.b F.K C.2.1 0 2 rfl rfl hin d kk
theorem eIast (F : Gx p s m args meth c D ky ad ex cc nL own A) (hao : A ao) {f : Nat → Int32} (C : Cg D ky ad s A S [(ao, ice ky f)] H locs) {i x : Int32} (hin : vp_in i 7) (d : decode cc pc = .ok (.iastore, 1))
    (kk : ∀ (H1 : Heap) (locs1 : List Loc), Cg D ky ad s A S [(ao, ice ky (upd f i.toNatClampNeg x))] H1 locs1 → W p l e R s m args below meth c H1 locs1 cells slots Q (F0 m (pc + 1) ls rest)) : W p l e R s m args below meth c H locs cells slots Q (F0 m pc ls (.int x :: .int i :: .ref ao :: rest)) := by
  have hlen : (WS ad ky S).length = 117 := by simp [WS]
  obtain ⟨h1, h2⟩ := C.all F.J F.aw hao
  exact va_iast F.x F.b F.K h1 h2 C.2.2.1 117 1 (by rw [List.getElem?_append_right (by omega), hlen]; rfl) rfl hin d (fun H1 locs1 g1 _ g3 => kk H1 locs1 (C.split g1 g3))
theorem eLast (F : Gx p s m args meth c D ky ad ex cc nL own A) (hao : A ao) {f : Nat → Int64} (C : Cg D ky ad s A S [(ao, lce ky f)] H locs) {i : Int32} {x : Int64} (hin : vp_in i 13) (d : decode cc pc = .ok (.lastore, 1))
    (kk : ∀ (H1 : Heap) (locs1 : List Loc), Cg D ky ad s A S [(ao, lce ky (vp_updL f i.toNatClampNeg x))] H1 locs1 → W p l e R s m args below meth c H1 locs1 cells slots Q (F0 m (pc + 1) ls rest)) : W p l e R s m args below meth c H locs cells slots Q (F0 m pc ls (.long x :: .int i :: .ref ao :: rest)) := by
  have hlen : (WS ad ky S).length = 117 := by simp [WS]
  obtain ⟨h1, h2⟩ := C.all F.J F.aw hao
  exact va_last F.x F.b F.K h1 h2 C.2.2.1 117 2 (by rw [List.getElem?_append_right (by omega), hlen]; rfl) rfl hin d (fun H1 locs1 g1 _ g3 => kk H1 locs1 (C.split g1 g3))
theorem gMin (F : Gx p s m args meth c D ky ad ex cc nL own A) {lv : List (Nat × Value)} (hl : lv_has ls nL lv) {idx : Nat} (hk : Cond.methodLink own idx Lib.Math.min.name ∈ wA) (hR : 1 ≤ R.frames ∧ (rest.map fun v => v.category).sum + 13 ≤ R.locals ∧ cells ≤ R.cells ∧ slots ≤ R.slots) {x y : Int32} (d : decode cc pc = .ok (.invokestatic idx, 3))
    (kk : W p l e R s m args below meth c H locs cells slots Q (F0 m (pc + 3) ls (.int (if y < x then y else x) :: rest))) : W p l e R s m args below meth c H locs cells slots Q (F0 m pc ls (.int y :: .int x :: rest)) :=
  va_mmin F.x F.b (F.ml.trans hl.1.symm) F.ow (F.ts _ hk) (F.ts _ mnS) (F.ts _ mtI) (F.ts _ mnC) hR.1 hR.2.1 hR.2.2.1 hR.2.2.2 d kk
/-- the array is forgotten -/
theorem Cg.drop {E : va_W} (C : Cg D ky ad s A S E H locs) : Cg D ky ad s A S [] H locs := ⟨C.1, fun k q h => (by simp at h), C.2.2.1, fun o ho z hz => (by cases hz)⟩
end ER
