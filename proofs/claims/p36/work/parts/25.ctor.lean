/-! CONSTRUCTORS: a world that grows -/
theorem arrV_cong {cA : ClassId} {n : Nat} {f g : Nat → Value} (h : ∀ k, k < n → f k = g k) : arrV cA n f = arrV cA n g := by
  unfold arrV
  have : (fun j : Fin n => f j.val) = (fun j : Fin n => g j.val) := by
    funext j
    exact h j.1 j.2
  rw [this]
theorem at_congq {D : va_G} {cl : List vw_C} {H : Heap} {a n : Nat} {cA : ClassId} {f g : Nat → Option Nat} (hfg : ∀ k, k < n → f k = g k) (h : va_at D cl (a, .inl (cA, n, .inr (.inr (.inr (.inr f))))) H) : va_at D cl (a, .inl (cA, n, .inr (.inr (.inr (.inr g))))) H := by
  have h1 : H[a]? = some (arrV cA n (fun j => va_rf (f j))) := h
  show H[a]? = some (arrV cA n (fun j => va_rf (g j)))
  rw [h1, arrV_cong (fun k hk => by rw [hfg k hk])]
theorem at_congi {D : va_G} {cl : List vw_C} {H : Heap} {a n : Nat} {cA : ClassId} {f g : Nat → Int32} (hfg : ∀ k, k < n → f k = g k) (h : va_at D cl (a, .inl (cA, n, .inl f)) H) : va_at D cl (a, .inl (cA, n, .inl g)) H := by
  have h1 : H[a]? = some (arrV cA n (fun j => .int (f j))) := h
  show H[a]? = some (arrV cA n (fun j => .int (g j)))
  rw [h1, arrV_cong (fun k hk => by rw [hfg k hk])]
/-- a world's cell under another form of its contents -/
theorem P_setat {D : va_G} {cl : List vw_C} {H : Heap} {ws : va_W} (hP : va_P D cl ws H) (k : Nat) {q : Nat × va_E} (h : va_at D cl q H) : va_P D cl (ws.set k q) H := by
  intro j r hj
  rw [List.getElem?_set] at hj
  by_cases e : k = j
  · rw [if_pos e] at hj
    by_cases hl : k < ws.length
    · rw [if_pos hl] at hj
      cases hj
      exact h
    · rw [if_neg hl] at hj
      cases hj
  · rw [if_neg e] at hj
    exact hP j r hj
def PREc (D : va_G) (ky : Nat → ClassId) (ws : va_W) (sz : Nat) (U : State) : Prop :=
  U.heap.size = sz ∧ va_P D clv ws U.heap ∧ va_K D clv (TYS ky) U ∧ (∀ w ∈ wN, va_Nw w U) ∧ va_AO "FordToll$Traveller" U ∧ va_AO "FordToll$Ford" U ∧ va_D (fun _ => True) ws
def AFc (D : va_G) (ws : va_W) (sz : Nat) (sh : va_W) (t : State) : Prop := va_P D clv sh t.heap ∧ va_D (va_A ws sz) sh
theorem PREc.blind {D : va_G} {ky : Nat → ClassId} {ws : va_W} {sz : Nat} {av : List Value} : FrameBlind (va_Pc av (PREc D ky ws sz)) := by
  intro a U g mk h
  obtain ⟨h0, h1, h2, h3, h4, h5, h6, h7⟩ := h
  exact ⟨h0, h1, h2, va_K.moved (u := U) (U := U.calling g mk a) (Vm.Alike.refl U.vm) h3, fun w hw => va_Nw.same (wN_on hw) (rfl : U.vm = (U.calling g mk a).vm) (h4 w hw), va_AO.moved (u := U) (U := U.calling g mk a) (Vm.Alike.refl U.vm) h5, va_AO.moved (u := U) (U := U.calling g mk a) (Vm.Alike.refl U.vm) h6, h7⟩
def CC (l : Launch) (D : va_G) (ky : Nat → ClassId) (y : MethodName) (b : ByteArray) (n : Nat) (rm : Room) (mc ms : Nat) (q : Nat) (x : va_E) (sh : va_W → Prop) : Prop :=
  ∀ sz : Nat, Met l y (.code y b n none :: wA) rm (va_Pc [.ref q] (PREc D ky [(q, x)] sz)) (va_Qv sh (AFc D [(q, x)] sz) (va_A [(q, x)] sz)) mc ms (va_A [(q, x)] sz)
/-- what holds all through a body that makes cells -/
def Kx (p : Program) (s : State) (m : MethodId) (args : Array Value) (meth : Method) (c : Code) (D : va_G) (ky : Nat → ClassId) (cc : ByteArray) (nL : Nat) (own : String) (A : Nat → Prop) : Prop :=
  p.tables.exec = Jvm.exec ∧ c.code = cc ∧ c.maxLocals = nL ∧ s.vm.findClass own = some m.cls ∧ (∀ w ∈ wA, w.before args s = true) ∧ meth.locks = false ∧ va_K D clv (TYS ky) s ∧ (∀ w ∈ wN, va_Nw w s) ∧ va_AO "FordToll$Traveller" s ∧ va_AO "FordToll$Ford" s ∧ (∀ q : Nat, s.heap.size ≤ q → A q)
def Ck (D : va_G) (s : State) (A : Nat → Prop) (ws : va_W) (H : Heap) (locs : List Loc) : Prop := va_P D clv ws H ∧ va_D A ws ∧ va_S A s.heap H locs
section KR
variable {p : Program} {l : Launch} {e : Env} {R : Room} {s : State} {m : MethodId} {args : Array Value} {below : List Frame} {meth : Method} {c : Code} {H : Heap} {locs : List Loc} {cells slots : Nat} {Q : State → Prop} {cc : ByteArray} {pc nL : Nat} {ls : Array Slot} {rest : List Value} {own : String} {D : va_G} {ky : Nat → ClassId} {A : Nat → Prop} {ws : va_W}
theorem Kx.x (F : Kx p s m args meth c D ky cc nL own A) : p.tables.exec = Jvm.exec := F.1
theorem Kx.b (F : Kx p s m args meth c D ky cc nL own A) : c.code = cc := F.2.1
theorem Kx.ml (F : Kx p s m args meth c D ky cc nL own A) : c.maxLocals = nL := F.2.2.1
theorem Kx.ow (F : Kx p s m args meth c D ky cc nL own A) : s.vm.findClass own = some m.cls := F.2.2.2.1
theorem Kx.ts (F : Kx p s m args meth c D ky cc nL own A) : ∀ w ∈ wA, w.before args s = true := F.2.2.2.2.1
theorem Kx.lk (F : Kx p s m args meth c D ky cc nL own A) : meth.locks = false := F.2.2.2.2.2.1
theorem Kx.K (F : Kx p s m args meth c D ky cc nL own A) : va_K D clv (TYS ky) s := F.2.2.2.2.2.2.1
theorem Kx.nw (F : Kx p s m args meth c D ky cc nL own A) : ∀ w ∈ wN, va_Nw w s := F.2.2.2.2.2.2.2.1
theorem Kx.a1 (F : Kx p s m args meth c D ky cc nL own A) : va_AO "FordToll$Traveller" s := F.2.2.2.2.2.2.2.2.1
theorem Kx.a2 (F : Kx p s m args meth c D ky cc nL own A) : va_AO "FordToll$Ford" s := F.2.2.2.2.2.2.2.2.2.1
theorem Kx.hA (F : Kx p s m args meth c D ky cc nL own A) : ∀ q : Nat, s.heap.size ≤ q → A q := F.2.2.2.2.2.2.2.2.2.2
theorem cPut (F : Kx p s m args meth c D ky cc nL own A) (C : Ck D s A ws H locs) {q ci N : Nat} {fs : List Value} {Cn ref : String} {T : u_T} (he : ws[0]? = some (q, .inr (ci, fs))) (hcl : clv[ci]? = some (Cn, T, N)) (hin : ∀ w ∈ u_ws Cn T N, w ∈ wA) {ty0 : Nat → FieldType} (hty : ∀ k, k < N → parseFieldDescriptor (T k).2.2.1 = some (ty0 k)) (hnm : ∀ a, a < N → ∀ b, b < N → a ≠ b → (T a).2.1 ≠ (T b).2.1) (k : Nat) (hk : k < N) {idx : Nat} (hl : Cond.fieldLink own idx ref (T k).2.1 (T k).2.2.1 ∈ wA) (hre : (T k).1 = ref) (hf : (T k).2.2.2 = false) {ty : FieldType} {v : Value} (hd : parseFieldDescriptor (T k).2.2.1 = some ty) (hn : narrow ty v = v) (hfit : fits ty v = true) (hlen : k < fs.length) (d : decode cc pc = .ok (.putfield idx, 3))
    (kk : ∀ (H1 : Heap) (locs1 : List Loc), Ck D s A (ws.set 0 (q, .inr (ci, fs.set k v))) H1 locs1 → W p l e R s m args below meth c H1 locs1 cells slots Q (F0 m (pc + 3) ls rest)) : W p l e R s m args below meth c H locs cells slots Q (F0 m pc ls (v :: .ref q :: rest)) :=
  va_put F.x F.b F.ts hin ty0 hty hnm F.ow F.K C.1 C.2.1 C.2.2 0 he hcl k hk (F.ts _ hl) (fun _ h9 => by rw [← hre]; exact h9) hf hd hn hfit hlen d (fun H1 locs1 hP hD hS => kk H1 locs1 ⟨hP, hD, hS⟩)
theorem cPutF (F : Kx p s m args meth c D ky cc nL own A) (hin2 : meth.name = "<init>") (C : Ck D s A ws H locs) {q ci N : Nat} {fs : List Value} {Cn ref : String} {T : u_T} (he : ws[0]? = some (q, .inr (ci, fs))) (hcl : clv[ci]? = some (Cn, T, N)) (hin : ∀ w ∈ u_ws Cn T N, w ∈ wA) {ty0 : Nat → FieldType} (hty : ∀ k, k < N → parseFieldDescriptor (T k).2.2.1 = some (ty0 k)) (hnm : ∀ a, a < N → ∀ b, b < N → a ≠ b → (T a).2.1 ≠ (T b).2.1) (k : Nat) (hk : k < N) {idx : Nat} (hl : Cond.fieldLink own idx ref (T k).2.1 (T k).2.2.1 ∈ wA) (hre : (T k).1 = ref) (hf : (T k).2.2.2 = true) (hdecl : (T k).1 = own) {ty : FieldType} {v : Value} (hd : parseFieldDescriptor (T k).2.2.1 = some ty) (hn : narrow ty v = v) (hfit : fits ty v = true) (hlen : k < fs.length) (d : decode cc pc = .ok (.putfield idx, 3))
    (kk : ∀ (H1 : Heap) (locs1 : List Loc), Ck D s A (ws.set 0 (q, .inr (ci, fs.set k v))) H1 locs1 → W p l e R s m args below meth c H1 locs1 cells slots Q (F0 m (pc + 3) ls rest)) : W p l e R s m args below meth c H locs cells slots Q (F0 m pc ls (v :: .ref q :: rest)) :=
  va_putF F.x F.b F.ts hin ty0 hty hnm F.ow F.K C.1 C.2.1 C.2.2 0 he hcl k hk (F.ts _ hl) (fun _ h9 => by rw [← hre]; exact h9) hf hin2 hdecl hd hn hfit hlen d (fun H1 locs1 hP hD hS => kk H1 locs1 ⟨hP, hD, hS⟩)
theorem cGet (F : Kx p s m args meth c D ky cc nL own A) (C : Ck D s A ws H locs) {q ci N : Nat} {fs : List Value} {Cn ref : String} {T : u_T} (he : ws[0]? = some (q, .inr (ci, fs))) (hcl : clv[ci]? = some (Cn, T, N)) (hin : ∀ w ∈ u_ws Cn T N, w ∈ wA) (k : Nat) (hk : k < N) {idx : Nat} (hl : Cond.fieldLink own idx ref (T k).2.1 (T k).2.2.1 ∈ wA) (hre : (T k).1 = ref) {v : Value} (hv : fs[k]? = some v) (d : decode cc pc = .ok (.getfield idx, 3))
    (kk : W p l e R s m args below meth c H locs cells slots Q (F0 m (pc + 3) ls (v :: rest))) : W p l e R s m args below meth c H locs cells slots Q (F0 m pc ls (.ref q :: rest)) :=
  va_get F.x F.b F.ts hin F.ow F.K C.1 0 he hcl k hk (F.ts _ hl) (fun _ h9 => by rw [← hre]; exact h9) hv d kk
theorem cNewa (F : Kx p s m args meth c D ky cc nL own A) (C : Ck D s A ws H locs) {atype : ArrayType} {ty : FieldType} (hty : newarray.typeOf atype = ty) (harr : Cond.arrayClass (newarray.typeOf atype) ∈ wA) (i : Nat) (hi : (TYS ky)[i]? = some (ky i, ty)) (hu : ∀ cA cB : ClassId, va_RA s cA ty → va_RA s cB ty → cA = cB) {n : Int32} {N' : Nat} {a0 : vp_A} (ha : ∀ cA : ClassId, vp_cell cA a0 = arrV cA N' (fun _ => defaultValue ty)) (hn : ¬ n < 0) (hN : n.toNatClampNeg = N') (hbytes : N' * componentBytes ty ≤ 536870912) (hcells : cells + 1 ≤ R.cells) (hslots : slots + N' ≤ R.slots) (d : decode cc pc = .ok (.newarray atype, 2))
    (kk : ∀ (q : Nat) (H1 : Heap), Ck D s A (ws ++ [(q, .inl (ky i, a0))]) H1 locs → W p l e R s m args below meth c H1 locs (cells + 1) (slots + N') Q (F0 m (pc + 2) ls (.ref q :: rest))) : W p l e R s m args below meth c H locs cells slots Q (F0 m pc ls (.int n :: rest)) :=
  va_newa F.x F.b (F.ts _ harr) hty F.K C.1 C.2.1 C.2.2 F.hA ha hn hN hbytes hcells hslots d (fun q cA H1 hK hP hD hS => by
    have h1 := (hK.2 5 (cA, ty) rfl).2
    have h2 := (F.K.2 i (ky i, ty) hi).2
    have h3 := hu _ _ h1 h2
    subst h3
    exact kk q H1 ⟨hP, hD, hS⟩)
theorem cNewq (F : Kx p s m args meth c D ky cc nL own A) (C : Ck D s A ws H locs) {Cn : String} {idx : Nat} (hl : Cond.classLink own idx Cn ∈ wA) (hover : va_AO Cn s) (i : Nat) (hi : (TYS ky)[i]? = some (ky i, .object Cn)) {n : Int32} {N' : Nat} (hn : ¬ n < 0) (hN : n.toNatClampNeg = N') (hbytes : N' * 4 ≤ 536870912) (hcells : cells + 1 ≤ R.cells) (hslots : slots + N' ≤ R.slots) (d : decode cc pc = .ok (.anewarray idx, 3))
    (kk : ∀ (q : Nat) (H1 : Heap), Ck D s A (ws ++ [(q, .inl (ky i, N', .inr (.inr (.inr (.inr (fun _ => none))))))]) H1 locs → W p l e R s m args below meth c H1 locs (cells + 1) (slots + N') Q (F0 m (pc + 3) ls (.ref q :: rest))) : W p l e R s m args below meth c H locs cells slots Q (F0 m pc ls (.int n :: rest)) :=
  va_newq F.x F.b F.ow (F.ts _ hl) hover F.K C.1 C.2.1 C.2.2 F.hA hn hN hbytes hcells hslots d (fun q cA H1 hK hP hD hS => by
    obtain ⟨_, _, _, _, _, h1⟩ := (hK.2 5 (cA, .object Cn) rfl).2
    obtain ⟨_, _, _, _, _, h2⟩ := (F.K.2 i (ky i, .object Cn) hi).2
    have h3 : cA = ky i := Option.some.inj (h1.symm.trans h2)
    subst h3
    exact kk q H1 ⟨hP, hD, hS⟩)
theorem cNew (F : Kx p s m args meth c D ky cc nL own A) (C : Ck D s A ws H locs) {Cn : String} {T : u_T} {N ci idx : Nat} (hin : ∀ w ∈ u_ws Cn T N, w ∈ wA) {ty : Nat → FieldType} (hty : ∀ k, k < N → parseFieldDescriptor (T k).2.2.1 = some (ty k)) (hcl : Cond.classLink own idx Cn ∈ wA) (hinst : Cond.instantiable Cn N ∈ wA) (hini : Cond.initialized Cn ∈ wA) (hc : clv[ci]? = some (Cn, T, N)) {fs : List Value} (hfs : ∀ j, j < N → defaultValue (ty j) = vp_V fs j) (hcells : cells + 1 ≤ R.cells) (hslots : slots + N ≤ R.slots) (d : decode cc pc = .ok (.new idx, 3))
    (kk : ∀ (q : Nat) (H1 : Heap), Ck D s A (ws ++ [(q, .inr (ci, fs))]) H1 locs → W p l e R s m args below meth c H1 locs (cells + 1) (slots + N) Q (F0 m (pc + 3) ls (.ref q :: rest))) : W p l e R s m args below meth c H locs cells slots Q (F0 m pc ls rest) :=
  va_new F.x F.b F.ts hin ty hty F.ow (F.ts _ hcl) (F.ts _ hinst) (F.ts _ hini) F.K C.1 C.2.1 C.2.2 F.hA hc hfs hcells hslots d (fun q H1 hP hD hS => kk q H1 ⟨hP, hD, hS⟩)
theorem cGrow {q : Nat} {x : va_E} {H1 : Heap} {sh : va_W} (hP : va_P D clv (ws ++ [(q, x)]) H) (hD : va_D A (ws ++ [(q, x)])) (hk : ∀ z : Nat, z < H.size → ¬ va_A [(q, x)] H.size z → H1[z]? = H[z]?) (hF : ∀ z, va_A [(q, x)] H.size z → A z) (hP1 : va_P D clv sh H1) (hD1 : va_D (va_A [(q, x)] H.size) sh) : va_P D clv (ws ++ sh) H1 ∧ va_D A (ws ++ sh) := by
  have hws : ∀ (k : Nat) (z : Nat × va_E), ws[k]? = some z → (ws ++ [(q, x)])[k]? = some z := fun k z hz => by
    rw [List.getElem?_append_left (List.getElem?_eq_some_iff.mp hz).1]
    exact hz
  have hq : (ws ++ [(q, x)])[ws.length]? = some (q, x) := by simp
  have apart : ∀ (k : Nat) (z : Nat × va_E), ws[k]? = some z → z.1 < H.size ∧ ¬ va_A [(q, x)] H.size z.1 := by
    intro k z hz
    have hl := (hP k z (hws k z hz)).lt
    refine ⟨hl, fun h => ?_⟩
    rcases h with ⟨k2, e, h⟩ | h
    · have hz2 : k2 < 1 := (List.getElem?_eq_some_iff.mp h).1
      have hk2 : k2 = 0 := by omega
      subst hk2
      cases h
      have h5 := hD.1 k ws.length z (z.1, x) (hws k z hz) hq rfl
      have h6 := (List.getElem?_eq_some_iff.mp hz).1
      omega
    · omega
  refine ⟨va_P.app (fun k z hz => (hP k z (hws k z hz)).kept (hk z.1 (apart k z hz).1 (apart k z hz).2)) hP1, va_D.app ⟨fun i j a b hi hj e => hD.1 i j a b (hws i a hi) (hws j b hj) e, fun k z hz => hD.2 k z (hws k z hz)⟩ ⟨hD1.1, fun k z hz => hF z.1 (hD1.2 k z hz)⟩ (fun i j a b ha hb e => ?_)⟩
  refine (apart i a ha).2 ?_
  rw [e]
  exact hD1.2 j b hb
theorem cFree (F : Kx p s m args meth c D ky cc nL own A) {q : Nat} {x : va_E} (C : Ck D s A (ws ++ [(q, x)]) H locs) : ∀ z, va_A [(q, x)] H.size z → A z := by
  intro z h
  rcases h with ⟨k2, e, h⟩ | h
  · have hz2 : k2 < 1 := (List.getElem?_eq_some_iff.mp h).1
    have hk2 : k2 = 0 := by omega
    subst hk2
    cases h
    exact C.2.1.2 ws.length (q, x) (by simp)
  · exact F.hA z (Nat.le_trans C.2.2.1 h)
theorem cPre (F : Kx p s m args meth c D ky cc nL own A) {q : Nat} {x : va_E} (C : Ck D s A (ws ++ [(q, x)]) H locs) : ∀ U : State, U.heap = H → s.WarmedH U.vm → va_Pc [.ref q] (PREc D ky [(q, x)] H.size) [Value.ref q].toArray U := by
  intro U hU hW
  refine ⟨rfl, by rw [hU], ?_, va_K.moved hW.alike F.K, fun w hw => wN_warm hW hw (F.nw w hw), va_AO.moved hW.alike F.a1, va_AO.moved hW.alike F.a2, ⟨fun i j a b hi hj _ => ?_, fun _ _ _ => trivial⟩⟩
  · rw [hU]
    intro k z hz
    have hz2 : k < 1 := (List.getElem?_eq_some_iff.mp hz).1
    have hk2 : k = 0 := by omega
    subst hk2
    cases hz
    exact C.1 ws.length (q, x) (by simp)
  · have h1 : i < 1 := (List.getElem?_eq_some_iff.mp hi).1
    have h2 : j < 1 := (List.getElem?_eq_some_iff.mp hj).1
    omega
/-- a constructor's call, over what was made last -/
theorem cCall (F : Kx p s m args meth c D ky cc nL own A) {q : Nat} {x : va_E} (C : Ck D s A (ws ++ [(q, x)]) H locs) {lv : List (Nat × Value)} (hl : lv_has ls nL lv) {idx n mc ms : Nat} {y : MethodName} {b : ByteArray} {rm : Room} {sh : va_W → Prop} (hM : CC l D ky y b n rm mc ms q x sh) (hw : Cond.methodLink own idx y ∈ wA ∧ Cond.instanceMethod y ∈ wA ∧ Cond.initialized y.cls ∈ wA ∧ Cond.code y b n none ∈ wA) (hy : y.name = "<init>" ∧ y.cls ≠ "java/lang/invoke/MethodHandle" ∧ y.cls ≠ "java/lang/invoke/VarHandle" ∧ (parseMethodDescriptor y.desc).map (fun d => d.parameters.length) = some 0) (hR : rm.cells = mc ∧ rm.slots = ms ∧ (rm.frames + 1 ≤ R.frames ∧ 8 + (n + 11) + rm.locals ≤ R.locals) ∧ (cells + mc ≤ R.cells ∧ slots + ms ≤ R.slots) ∧ (rest.map fun v => v.category).sum ≤ 8) (d : decode cc pc = .ok (.invokespecial idx, 3))
    (kk : ∀ (u : va_W) (H1 : Heap) (locs1 : List Loc), sh u → Ck D s A (ws ++ u) H1 locs1 → W p l e R s m args below meth c H1 locs1 (cells + mc) (slots + ms) Q (F0 m (pc + 3) ls rest)) : W p l e R s m args below meth c H locs cells slots Q (F0 m pc ls (.ref q :: rest)) :=
  va_callv (va_runI (As := []) (rest := rest) ⟨F.x, F.b, F.ml, F.ow, F.ts⟩ (hM H.size) (cwI 0 F.ts (goodCode hw.2.2.2) rfl hR.1 hR.2.1 (F.ts _ hw.2.2.1) (F.ts _ hw.1) (F.ts _ hw.2.1) hy.1 hy.2 hR.2.2.1) ⟨PREc.blind, cPre F C⟩ rfl rfl hl.1 rfl (lv_room hR.2.2.2.2) d hR.2.2.2.1) C.2.2 (fun z _ h => cFree F C z h) (cFree F C) (fun u t H1 locs1 ht hvm hsh hB hz1 hk1 hS => by
    obtain ⟨h1, h2⟩ := hB
    rw [ht] at h1
    obtain ⟨g1, g2⟩ := cGrow C.1 C.2.1 hk1 (cFree F C) h1 h2
    exact kk u H1 locs1 hsh ⟨g1, g2, hS⟩)
theorem cCallN (F : Kx p s m args meth c D ky cc nL own A) {q : Nat} {x : va_E} (C : Ck D s A (ws ++ [(q, x)]) H locs) {lv : List (Nat × Value)} (hl : lv_has ls nL lv) {idx n mc ms : Nat} {y : MethodName} {host : String} {b : ByteArray} {rm : Room} {sh : va_W → Prop} (hM : CC l D ky y b n rm mc ms q x sh) (hw : Cond.methodLinkNest own idx y host ∈ wN ∧ Cond.instanceMethod y ∈ wA ∧ Cond.initialized y.cls ∈ wA ∧ Cond.code y b n none ∈ wA) (hy : y.name = "<init>" ∧ y.cls ≠ "java/lang/invoke/MethodHandle" ∧ y.cls ≠ "java/lang/invoke/VarHandle" ∧ (parseMethodDescriptor y.desc).map (fun d => d.parameters.length) = some 0) (hR : rm.cells = mc ∧ rm.slots = ms ∧ (rm.frames + 1 ≤ R.frames ∧ 8 + (n + 11) + rm.locals ≤ R.locals) ∧ (cells + mc ≤ R.cells ∧ slots + ms ≤ R.slots) ∧ (rest.map fun v => v.category).sum ≤ 8) (d : decode cc pc = .ok (.invokespecial idx, 3))
    (kk : ∀ (u : va_W) (H1 : Heap) (locs1 : List Loc), sh u → Ck D s A (ws ++ u) H1 locs1 → W p l e R s m args below meth c H1 locs1 (cells + mc) (slots + ms) Q (F0 m (pc + 3) ls rest)) : W p l e R s m args below meth c H locs cells slots Q (F0 m pc ls (.ref q :: rest)) :=
  va_callv (va_runIN (As := []) (rest := rest) ⟨F.x, F.b, F.ml, F.ow, F.ts⟩ (hM H.size) ⟨va_cnB 0 F.ts (goodCode hw.2.2.2) rfl hR.1 hR.2.1 (F.nw _ hw.1) (F.ts _ hw.2.2.1) hy.2 hR.2.2.1, hy.1, F.ts _ hw.2.1⟩ ⟨PREc.blind, cPre F C⟩ rfl rfl hl.1 rfl (lv_room hR.2.2.2.2) d hR.2.2.2.1) C.2.2 (fun z _ h => cFree F C z h) (cFree F C) (fun u t H1 locs1 ht hvm hsh hB hz1 hk1 hS => by
    obtain ⟨h1, h2⟩ := hB
    rw [ht] at h1
    obtain ⟨g1, g2⟩ := cGrow C.1 C.2.1 hk1 (cFree F C) h1 h2
    exact kk u H1 locs1 hsh ⟨g1, g2, hS⟩)
theorem cAstq (F : Kx p s m args meth c D ky cc nL own A) (C : Ck D s A ws H locs) (q0 i : Nat) {a : Nat} {ci : Nat} {r : vw_C} {n v : Nat} {vs : List Value} {f : Nat → Option Nat} (ha : ws[q0]? = some (a, .inl (ky i, n, .inr (.inr (.inr (.inr f)))))) (ht : (TYS ky)[i]? = some (ky i, .object r.1)) (hv : (v, (.inr (ci, vs) : va_E)) ∈ ws) (hc : clv[ci]? = some r) {j : Int32} (hin : vp_in j n) (d : decode cc pc = .ok (.aastore, 1))
    (kk : ∀ (H1 : Heap) (locs1 : List Loc), Ck D s A (ws.set q0 (a, .inl (ky i, n, .inr (.inr (.inr (.inr (va_up f j.toNatClampNeg (some v)))))))) H1 locs1 → W p l e R s m args below meth c H1 locs1 cells slots Q (F0 m (pc + 1) ls rest)) : W p l e R s m args below meth c H locs cells slots Q (F0 m pc ls (.ref v :: .int j :: .ref a :: rest)) := by
  obtain ⟨k, hk⟩ := List.getElem?_of_mem hv
  exact va_astq F.x F.b F.K C.1 C.2.1 C.2.2 q0 i k ci ha ht hk hc hin d (fun H1 locs1 hP hD hS => kk H1 locs1 ⟨hP, hD, hS⟩)
theorem cAsti (F : Kx p s m args meth c D ky cc nL own A) (C : Ck D s A ws H locs) (q0 : Nat) {a n : Nat} {f : Nat → Int32} (ha : ws[q0]? = some (a, .inl (ky 1, n, .inl f))) {j x : Int32} (hin : vp_in j n) (d : decode cc pc = .ok (.iastore, 1))
    (kk : ∀ (H1 : Heap) (locs1 : List Loc), Ck D s A (ws.set q0 (a, .inl (ky 1, n, .inl (upd f j.toNatClampNeg x)))) H1 locs1 → W p l e R s m args below meth c H1 locs1 cells slots Q (F0 m (pc + 1) ls rest)) : W p l e R s m args below meth c H locs cells slots Q (F0 m pc ls (.int x :: .int j :: .ref a :: rest)) :=
  va_iast F.x F.b F.K C.1 C.2.1 C.2.2 q0 1 ha rfl hin d (fun H1 locs1 hP hD hS => kk H1 locs1 ⟨hP, hD, hS⟩)
theorem cRet {q : Nat} {x : va_E} {sh : va_W → Prop} (F : Kx p s m args meth c D ky cc nL own (va_A [(q, x)] s.heap.size)) (hr : meth.sig.returnType = none) (C : Ck D s (va_A [(q, x)] s.heap.size) ws H locs) (hsh : sh ws) (d : decode cc pc = .ok (.return_, 1)) : W p l e R s m args below meth c H locs cells slots (MQ below (va_Qv sh (AFc D [(q, x)] s.heap.size) (va_A [(q, x)] s.heap.size)) args s cells slots (va_A [(q, x)] s.heap.size)) (F0 m pc ls []) :=
  W.vret F.x F.b hr (fun t ht hW => ⟨⟨ws, rfl, hsh, by rw [ht]; exact C.1, C.2.1⟩, C.2.2.F ht⟩) C.2.2.2.2 d F.lk
end KR
section KB
variable {l : Launch} {D : va_G} {ky : Nat → ClassId} {y : MethodName} {b : ByteArray} {n : Nat} {rm : Room} {mc ms : Nat} {q : Nat} {x : va_E} {sh : va_W → Prop}
theorem CC.of (hy : plainName y.cls = true) (hy1 : y.name = "<init>") (hn : (lg_sl [.ref q]).length ≤ n)
    (body : ∀ (p : Program) (e : Env) (s : State) (m : MethodId) (args : Array Value) (below : List Frame) (meth : Method) (c : Code) (ls : Array Slot) (H : Heap) (locs : List Loc), Kx p s m args meth c D ky b n y.cls (va_A [(q, x)] s.heap.size) → meth.name = "<init>" → meth.sig.returnType = none → Ck D s (va_A [(q, x)] s.heap.size) [(q, x)] H locs → lv_has ls n (lv_args 0 [.ref q]) →
      W p l e rm s m args below meth c H locs 0 0 (MQ below (va_Qv sh (AFc D [(q, x)] s.heap.size) (va_A [(q, x)] s.heap.size)) args s mc ms (va_A [(q, x)] s.heap.size)) (F0 m 0 ls [])) : CC l D ky y b n rm mc ms q x sh := by
  intro sz
  refine Met.ofW (cc := b) (maxL := n) (ret := none) hy rfl ?_
  intro p e s m args below meth c s₁ B hml hv
  obtain ⟨rfl, hsz, hP, hK, hN, hA1, hA2, hD⟩ := hv
  subst hsz
  have hts := atoms_spec (ws := .code y b n none :: wA) B.pre
  have hl := lv_entry [.ref q] (n := n) hn
  have hin : meth.name = "<init>" := by rw [← hy1]; exact (name_of_methodNamed B.named B.method).1
  rw [lg_entry_eq]
  exact body p e s m _ below meth c _ _ _ ⟨B.exec, B.bytes, hml, findClass_of_methodNamed B.named, fun w hw => hts w (List.mem_cons_of_mem _ hw), B.notSynchronized, hK, hN, hA1, hA2, fun z hz => Or.inr hz⟩ hin B.returns ⟨hP, hD.self, va_S.rf⟩ hl
end KB
