/-! A METHOD WITH CELLS OF ITS OWN BESIDE THE MEMORY: the law and its helpers -/
abbrev lce (ky : Nat → ClassId) (f : Nat → Int64) : va_E := .inl (ky 5, 1, .inr (.inl f))
abbrev dce (ky : Nat → ClassId) (f : Nat → UInt64) : va_E := .inl (ky 6, 1, .inr (.inr (.inr (.inl f))))
def AWo (ad : Nat → Nat) (sz ao : Nat) : Nat → Prop := fun q => AW ad sz q ∨ q = ao
def Gx (p : Program) (s : State) (m : MethodId) (args : Array Value) (meth : Method) (c : Code) (D : va_G) (ky : Nat → ClassId) (ad : Nat → Nat) (ex : Nat → Nat → Nat) (cc : ByteArray) (nL : Nat) (own : String) (A : Nat → Prop) : Prop :=
  p.tables.exec = Jvm.exec ∧ c.code = cc ∧ c.maxLocals = nL ∧ s.vm.findClass own = some m.cls ∧ (∀ w ∈ wA, w.before args s = true) ∧ meth.locks = false ∧ va_K D clv (TYS ky) s ∧ INJ ad ∧ ST ex A s s.heap ∧ (∀ q, AW ad s.heap.size q → A q)
def Cg (D : va_G) (ky : Nat → ClassId) (ad : Nat → Nat) (s : State) (A : Nat → Prop) (S : Mem) (E : va_W) (H : Heap) (locs : List Loc) : Prop := va_P D clv (WS ad ky S) H ∧ va_P D clv E H ∧ va_S A s.heap H locs ∧ (∀ o, o < 128 → ∀ z ∈ E, ad o ≠ z.1)
section GR
variable {p : Program} {l : Launch} {e : Env} {R : Room} {s : State} {m : MethodId} {args : Array Value} {below : List Frame} {meth : Method} {c : Code} {H : Heap} {locs : List Loc} {cells slots : Nat} {Q : State → Prop} {cc : ByteArray} {pc nL : Nat} {ls : Array Slot} {rest : List Value} {own : String} {D : va_G} {ky : Nat → ClassId} {ad : Nat → Nat} {ex : Nat → Nat → Nat} {S : Mem} {A : Nat → Prop} {E : va_W} {px : String → Mem → Prop}
theorem Gx.x (F : Gx p s m args meth c D ky ad ex cc nL own A) : p.tables.exec = Jvm.exec := F.1
theorem Gx.b (F : Gx p s m args meth c D ky ad ex cc nL own A) : c.code = cc := F.2.1
theorem Gx.ml (F : Gx p s m args meth c D ky ad ex cc nL own A) : c.maxLocals = nL := F.2.2.1
theorem Gx.ow (F : Gx p s m args meth c D ky ad ex cc nL own A) : s.vm.findClass own = some m.cls := F.2.2.2.1
theorem Gx.ts (F : Gx p s m args meth c D ky ad ex cc nL own A) : ∀ w ∈ wA, w.before args s = true := F.2.2.2.2.1
theorem Gx.lk (F : Gx p s m args meth c D ky ad ex cc nL own A) : meth.locks = false := F.2.2.2.2.2.1
theorem Gx.K (F : Gx p s m args meth c D ky ad ex cc nL own A) : va_K D clv (TYS ky) s := F.2.2.2.2.2.2.1
theorem Gx.J (F : Gx p s m args meth c D ky ad ex cc nL own A) : INJ ad := F.2.2.2.2.2.2.2.1
theorem Gx.st (F : Gx p s m args meth c D ky ad ex cc nL own A) : ST ex A s s.heap := F.2.2.2.2.2.2.2.2.1
theorem Gx.aw (F : Gx p s m args meth c D ky ad ex cc nL own A) : ∀ q, AW ad s.heap.size q → A q := F.2.2.2.2.2.2.2.2.2
/-- the cells beside are kept over what writes the memory alone -/
theorem Cg.ext (C : Cg D ky ad s A S E H locs) {H1 : Heap} (hk : ∀ q : Nat, q < H.size → ¬ AW ad H.size q → H1[q]? = H[q]?) : va_P D clv E H1 := by
  refine C.2.1.kept (fun k z hz => ?_)
  have hl : z.1 < H.size := (C.2.1 k z hz).lt
  refine hk z.1 hl (fun h => ?_)
  rcases h with ⟨o, ho, e⟩ | h
  · exact C.2.2.2 o ho z (List.mem_of_getElem? hz) e.symm
  · omega
theorem preG (F : Gx p s m args meth c D ky ad ex cc nL own A) (C : Cg D ky ad s A S E H locs) {As : List Value} : ∀ U : State, U.heap = H → s.WarmedH U.vm → va_Pc As (PRE D ky ad ex S H.size) As.toArray U :=
  fun U hU hW => ⟨rfl, by rw [hU], by rw [hU]; exact C.1, va_K.moved hW.alike F.K, F.J, ST.call F.st C.2.2.1 (fun q h => F.aw q (AW.sub C.2.2.1.1 q h)) hU hW⟩
theorem gAW (F : Gx p s m args meth c D ky ad ex cc nL own A) (C : Cg D ky ad s A S E H locs) : ∀ q, AW ad H.size q → A q := fun q h => F.aw q (AW.sub C.2.2.1.1 q h)
theorem gkI (F : Gx p s m args meth c D ky ad ex cc nL own A) (C : Cg D ky ad s A S E H locs) {lv : List (Nat × Value)} (hl : lv_has ls nL lv) {o ci N idx n mc ms : Nat} {y : MethodName} {b : ByteArray} {r : Option FieldType} {rm : Room} {As : List Value} {post : Int32 → Mem → Prop} (hM : CMi l D ky ad ex y b n r rm mc ms (.ref (ad o) :: As) S post) (ho : o < 128) {fs : List Value} {Cn : String} {T : u_T} (hc : celr ky ad o (S (tg o) (ix o)) = .inr (ci, fs)) (hcl : clv[ci]? = some (Cn, T, N)) (w : WV own Cn idx y b n r As.length) (hR : rm.cells = mc ∧ rm.slots = ms ∧ (rm.frames + 1 ≤ R.frames ∧ 8 + (n + 11) + rm.locals ≤ R.locals) ∧ (cells + mc ≤ R.cells ∧ slots + ms ≤ R.slots) ∧ (rest.map fun v => v.category).sum ≤ 8) {st0 : List Value} (hst : st0 = As.reverse ++ .ref (ad o) :: rest) (d : decode cc pc = .ok (.invokevirtual idx, 3))
    (kk : ∀ (r : Int32) (S1 : Mem) (H1 : Heap) (locs1 : List Loc), post r S1 → Cg D ky ad s A S1 E H1 locs1 → W p l e R s m args below meth c H1 locs1 (cells + mc) (slots + ms) Q (F0 m (pc + 3) ls (.int r :: rest))) : W p l e R s m args below meth c H locs cells slots Q (F0 m pc ls st0) :=
  va_calli (va_runV (As := As) (rest := rest) ⟨F.x, F.b, F.ml, F.ow, F.ts⟩ (hM H.size) (cwV As.length F.ts w.good rfl hR.1 hR.2.1 w.2.2.2.2.2 hR.2.2.1) ⟨PRE.blind, va_recv F.K C.1 hcl (q0 := o) (by rw [WS_at ho, hc]), preG F C⟩ rfl rfl hl.1 hst (lv_room hR.2.2.2.2) d hR.2.2.2.1) C.2.2.1 (fun q _ h => gAW F C q h) (gAW F C) (fun r u t H1 locs1 ht hvm hw hB hz1 hk1 hS => kk r u H1 locs1 hw ⟨by rw [← ht]; exact hB, C.ext hk1, hS, C.2.2.2⟩)
theorem gkD (F : Gx p s m args meth c D ky ad ex cc nL own A) (C : Cg D ky ad s A S E H locs) {lv : List (Nat × Value)} (hl : lv_has ls nL lv) {o ci N idx n mc ms : Nat} {y : MethodName} {b : ByteArray} {r : Option FieldType} {rm : Room} {As : List Value} {post : UInt64 → Mem → Prop} (hM : CMd l D ky ad ex y b n r rm mc ms (.ref (ad o) :: As) S post) (ho : o < 128) {fs : List Value} {Cn : String} {T : u_T} (hc : celr ky ad o (S (tg o) (ix o)) = .inr (ci, fs)) (hcl : clv[ci]? = some (Cn, T, N)) (w : WV own Cn idx y b n r As.length) (hR : rm.cells = mc ∧ rm.slots = ms ∧ (rm.frames + 1 ≤ R.frames ∧ 8 + (n + 11) + rm.locals ≤ R.locals) ∧ (cells + mc ≤ R.cells ∧ slots + ms ≤ R.slots) ∧ (rest.map fun v => v.category).sum ≤ 8) {st0 : List Value} (hst : st0 = As.reverse ++ .ref (ad o) :: rest) (d : decode cc pc = .ok (.invokevirtual idx, 3))
    (kk : ∀ (r : UInt64) (S1 : Mem) (H1 : Heap) (locs1 : List Loc), post r S1 → Cg D ky ad s A S1 E H1 locs1 → W p l e R s m args below meth c H1 locs1 (cells + mc) (slots + ms) Q (F0 m (pc + 3) ls (.double r :: rest))) : W p l e R s m args below meth c H locs cells slots Q (F0 m pc ls st0) :=
  va_calld (va_runV (As := As) (rest := rest) ⟨F.x, F.b, F.ml, F.ow, F.ts⟩ (hM H.size) (cwV As.length F.ts w.good rfl hR.1 hR.2.1 w.2.2.2.2.2 hR.2.2.1) ⟨PRE.blind, va_recv F.K C.1 hcl (q0 := o) (by rw [WS_at ho, hc]), preG F C⟩ rfl rfl hl.1 hst (lv_room hR.2.2.2.2) d hR.2.2.2.1) C.2.2.1 (fun q _ h => gAW F C q h) (gAW F C) (fun r u t H1 locs1 ht hvm hw hB hz1 hk1 hS => kk r u H1 locs1 hw ⟨by rw [← ht]; exact hB, C.ext hk1, hS, C.2.2.2⟩)
theorem gkF (F : Gx p s m args meth c D ky ad ex cc nL own A) (C : Cg D ky ad s A S E H locs) {lv : List (Nat × Value)} (hl : lv_has ls nL lv) {o ci N idx n mc ms : Nat} {y : MethodName} {b : ByteArray} {r : Option FieldType} {rm : Room} {As : List Value} {post : UInt32 → Mem → Prop} (hM : CMf l D ky ad ex y b n r rm mc ms (.ref (ad o) :: As) S post) (ho : o < 128) {fs : List Value} {Cn : String} {T : u_T} (hc : celr ky ad o (S (tg o) (ix o)) = .inr (ci, fs)) (hcl : clv[ci]? = some (Cn, T, N)) (w : WV own Cn idx y b n r As.length) (hR : rm.cells = mc ∧ rm.slots = ms ∧ (rm.frames + 1 ≤ R.frames ∧ 8 + (n + 11) + rm.locals ≤ R.locals) ∧ (cells + mc ≤ R.cells ∧ slots + ms ≤ R.slots) ∧ (rest.map fun v => v.category).sum ≤ 8) {st0 : List Value} (hst : st0 = As.reverse ++ .ref (ad o) :: rest) (d : decode cc pc = .ok (.invokevirtual idx, 3))
    (kk : ∀ (r : UInt32) (S1 : Mem) (H1 : Heap) (locs1 : List Loc), post r S1 → Cg D ky ad s A S1 E H1 locs1 → W p l e R s m args below meth c H1 locs1 (cells + mc) (slots + ms) Q (F0 m (pc + 3) ls (.float r :: rest))) : W p l e R s m args below meth c H locs cells slots Q (F0 m pc ls st0) :=
  va_callf (va_runV (As := As) (rest := rest) ⟨F.x, F.b, F.ml, F.ow, F.ts⟩ (hM H.size) (cwV As.length F.ts w.good rfl hR.1 hR.2.1 w.2.2.2.2.2 hR.2.2.1) ⟨PRE.blind, va_recv F.K C.1 hcl (q0 := o) (by rw [WS_at ho, hc]), preG F C⟩ rfl rfl hl.1 hst (lv_room hR.2.2.2.2) d hR.2.2.2.1) C.2.2.1 (fun q _ h => gAW F C q h) (gAW F C) (fun r u t H1 locs1 ht hvm hw hB hz1 hk1 hS => kk r u H1 locs1 hw ⟨by rw [← ht]; exact hB, C.ext hk1, hS, C.2.2.2⟩)
theorem gkX (F : Gx p s m args meth c D ky ad ex cc nL own A) (C : Cg D ky ad s A S E H locs) {lv : List (Nat × Value)} (hl : lv_has ls nL lv) {o ci N idx n mc ms : Nat} {y : MethodName} {b : ByteArray} {r : Option FieldType} {rm : Room} {As : List Value} {post : Int32 → Mem → Prop} (hM : CXi l D ky ad ex y b n r rm mc ms (.ref (ad o) :: As) S post px) (ho : o < 128) {fs : List Value} {Cn : String} {T : u_T} (hc : celr ky ad o (S (tg o) (ix o)) = .inr (ci, fs)) (hcl : clv[ci]? = some (Cn, T, N)) (w : WV own Cn idx y b n r As.length) (hR : rm.cells = mc ∧ rm.slots = ms ∧ (rm.frames + 1 ≤ R.frames ∧ 8 + (n + 11) + rm.locals ≤ R.locals) ∧ (cells + mc ≤ R.cells ∧ slots + ms ≤ R.slots) ∧ (rest.map fun v => v.category).sum ≤ 8) {st0 : List Value} (hst : st0 = As.reverse ++ .ref (ad o) :: rest) (d : decode cc pc = .ok (.invokevirtual idx, 3))
    (kx : ∀ (E9 : String) (ce : Cell) (q9 : Addr) (S1 : Mem) (H1 : Heap) (locs1 : List Loc), px E9 S1 → Cg D ky ad s A S1 E H1 locs1 → H1[q9]? = some ce → ce.vm = .none → s.vm.findClass E9 = some ce.cls → vx_W p l e R s m args below meth c H1 locs1 (cells + mc) (slots + ms) Q (F0 m pc ls rest) q9)
    (kk : ∀ (r : Int32) (S1 : Mem) (H1 : Heap) (locs1 : List Loc), post r S1 → Cg D ky ad s A S1 E H1 locs1 → W p l e R s m args below meth c H1 locs1 (cells + mc) (slots + ms) Q (F0 m (pc + 3) ls (.int r :: rest))) : W p l e R s m args below meth c H locs cells slots Q (F0 m pc ls st0) :=
  vx_calli (vx_runV (As := As) (rest := rest) ⟨F.x, F.b, F.ml, F.ow, F.ts⟩ (hM H.size) (cwV As.length F.ts w.good rfl hR.1 hR.2.1 w.2.2.2.2.2 hR.2.2.1) ⟨PRE.blind, va_recv F.K C.1 hcl (q0 := o) (by rw [WS_at ho, hc]), preG F C⟩ rfl rfl hl.1 hst (lv_room hR.2.2.2.2) d hR.2.2.2.1) C.2.2.1 (fun q _ h => gAW F C q h) (gAW F C) (fun q _ h => gAW F C q h)
    (fun E9 ce q9 u t H1 locs1 ht hvm hpu hB hz1 hk1 hS hcell hv hcl => kx E9 ce q9 u H1 locs1 hB.1 ⟨by rw [← ht]; exact hB.2, C.ext hk1, hS, C.2.2.2⟩ hcell hv hcl)
    (fun r u t H1 locs1 ht hvm hw hB hz1 hk1 hS => kk r u H1 locs1 hw ⟨by rw [← ht]; exact hB, C.ext hk1, hS, C.2.2.2⟩)
theorem gkXD (F : Gx p s m args meth c D ky ad ex cc nL own A) (C : Cg D ky ad s A S E H locs) {lv : List (Nat × Value)} (hl : lv_has ls nL lv) {o ci N idx n mc ms : Nat} {y : MethodName} {b : ByteArray} {r : Option FieldType} {rm : Room} {As : List Value} {post : UInt64 → Mem → Prop} (hM : CXd l D ky ad ex y b n r rm mc ms (.ref (ad o) :: As) S post px) (ho : o < 128) {fs : List Value} {Cn : String} {T : u_T} (hc : celr ky ad o (S (tg o) (ix o)) = .inr (ci, fs)) (hcl : clv[ci]? = some (Cn, T, N)) (w : WV own Cn idx y b n r As.length) (hR : rm.cells = mc ∧ rm.slots = ms ∧ (rm.frames + 1 ≤ R.frames ∧ 8 + (n + 11) + rm.locals ≤ R.locals) ∧ (cells + mc ≤ R.cells ∧ slots + ms ≤ R.slots) ∧ (rest.map fun v => v.category).sum ≤ 8) {st0 : List Value} (hst : st0 = As.reverse ++ .ref (ad o) :: rest) (d : decode cc pc = .ok (.invokevirtual idx, 3))
    (kx : ∀ (E9 : String) (ce : Cell) (q9 : Addr) (S1 : Mem) (H1 : Heap) (locs1 : List Loc), px E9 S1 → Cg D ky ad s A S1 E H1 locs1 → H1[q9]? = some ce → ce.vm = .none → s.vm.findClass E9 = some ce.cls → vx_W p l e R s m args below meth c H1 locs1 (cells + mc) (slots + ms) Q (F0 m pc ls rest) q9)
    (kk : ∀ (r : UInt64) (S1 : Mem) (H1 : Heap) (locs1 : List Loc), post r S1 → Cg D ky ad s A S1 E H1 locs1 → W p l e R s m args below meth c H1 locs1 (cells + mc) (slots + ms) Q (F0 m (pc + 3) ls (.double r :: rest))) : W p l e R s m args below meth c H locs cells slots Q (F0 m pc ls st0) :=
  vx_calld (vx_runV (As := As) (rest := rest) ⟨F.x, F.b, F.ml, F.ow, F.ts⟩ (hM H.size) (cwV As.length F.ts w.good rfl hR.1 hR.2.1 w.2.2.2.2.2 hR.2.2.1) ⟨PRE.blind, va_recv F.K C.1 hcl (q0 := o) (by rw [WS_at ho, hc]), preG F C⟩ rfl rfl hl.1 hst (lv_room hR.2.2.2.2) d hR.2.2.2.1) C.2.2.1 (fun q _ h => gAW F C q h) (gAW F C) (fun q _ h => gAW F C q h)
    (fun E9 ce q9 u t H1 locs1 ht hvm hpu hB hz1 hk1 hS hcell hv hcl => kx E9 ce q9 u H1 locs1 hB.1 ⟨by rw [← ht]; exact hB.2, C.ext hk1, hS, C.2.2.2⟩ hcell hv hcl)
    (fun r u t H1 locs1 ht hvm hw hB hz1 hk1 hS => kk r u H1 locs1 hw ⟨by rw [← ht]; exact hB, C.ext hk1, hS, C.2.2.2⟩)
theorem gkXF (F : Gx p s m args meth c D ky ad ex cc nL own A) (C : Cg D ky ad s A S E H locs) {lv : List (Nat × Value)} (hl : lv_has ls nL lv) {o ci N idx n mc ms : Nat} {y : MethodName} {b : ByteArray} {r : Option FieldType} {rm : Room} {As : List Value} {post : UInt32 → Mem → Prop} (hM : CXf l D ky ad ex y b n r rm mc ms (.ref (ad o) :: As) S post px) (ho : o < 128) {fs : List Value} {Cn : String} {T : u_T} (hc : celr ky ad o (S (tg o) (ix o)) = .inr (ci, fs)) (hcl : clv[ci]? = some (Cn, T, N)) (w : WV own Cn idx y b n r As.length) (hR : rm.cells = mc ∧ rm.slots = ms ∧ (rm.frames + 1 ≤ R.frames ∧ 8 + (n + 11) + rm.locals ≤ R.locals) ∧ (cells + mc ≤ R.cells ∧ slots + ms ≤ R.slots) ∧ (rest.map fun v => v.category).sum ≤ 8) {st0 : List Value} (hst : st0 = As.reverse ++ .ref (ad o) :: rest) (d : decode cc pc = .ok (.invokevirtual idx, 3))
    (kx : ∀ (E9 : String) (ce : Cell) (q9 : Addr) (S1 : Mem) (H1 : Heap) (locs1 : List Loc), px E9 S1 → Cg D ky ad s A S1 E H1 locs1 → H1[q9]? = some ce → ce.vm = .none → s.vm.findClass E9 = some ce.cls → vx_W p l e R s m args below meth c H1 locs1 (cells + mc) (slots + ms) Q (F0 m pc ls rest) q9)
    (kk : ∀ (r : UInt32) (S1 : Mem) (H1 : Heap) (locs1 : List Loc), post r S1 → Cg D ky ad s A S1 E H1 locs1 → W p l e R s m args below meth c H1 locs1 (cells + mc) (slots + ms) Q (F0 m (pc + 3) ls (.float r :: rest))) : W p l e R s m args below meth c H locs cells slots Q (F0 m pc ls st0) :=
  vx_callf (vx_runV (As := As) (rest := rest) ⟨F.x, F.b, F.ml, F.ow, F.ts⟩ (hM H.size) (cwV As.length F.ts w.good rfl hR.1 hR.2.1 w.2.2.2.2.2 hR.2.2.1) ⟨PRE.blind, va_recv F.K C.1 hcl (q0 := o) (by rw [WS_at ho, hc]), preG F C⟩ rfl rfl hl.1 hst (lv_room hR.2.2.2.2) d hR.2.2.2.1) C.2.2.1 (fun q _ h => gAW F C q h) (gAW F C) (fun q _ h => gAW F C q h)
    (fun E9 ce q9 u t H1 locs1 ht hvm hpu hB hz1 hk1 hS hcell hv hcl => kx E9 ce q9 u H1 locs1 hB.1 ⟨by rw [← ht]; exact hB.2, C.ext hk1, hS, C.2.2.2⟩ hcell hv hcl)
    (fun r u t H1 locs1 ht hvm hw hB hz1 hk1 hS => kk r u H1 locs1 hw ⟨by rw [← ht]; exact hB, C.ext hk1, hS, C.2.2.2⟩)
end GR
/-! the helpers' contracts -/
def PREo (D : va_G) (ky : Nat → ClassId) (ad : Nat → Nat) (ex : Nat → Nat → Nat) (S : Mem) (sz ao : Nat) (x : va_E) (U : State) : Prop :=
  U.heap.size = sz ∧ va_P D clv (WS ad ky S) U.heap ∧ va_P D clv [(ao, x)] U.heap ∧ (∀ o, o < 128 → ad o ≠ ao) ∧ va_K D clv (TYS ky) U ∧ INJ ad ∧ ST ex (AWo ad sz ao) U U.heap
theorem PREo.blind {D : va_G} {ky : Nat → ClassId} {ad : Nat → Nat} {ex : Nat → Nat → Nat} {S : Mem} {sz ao : Nat} {x : va_E} {av : List Value} : FrameBlind (va_Pc av (PREo D ky ad ex S sz ao x)) := by
  intro a U g mk h
  obtain ⟨h0, h1, h2, h3, h4, h5, h6, h7⟩ := h
  exact ⟨h0, h1, h2, h3, h4, va_K.moved (u := U) (U := U.calling g mk a) (Vm.Alike.refl U.vm) h5, h6, ST.same h7 rfl⟩
def AFo (D : va_G) (ky : Nat → ClassId) (ad : Nat → Nat) (ao : Nat) {τ : Type} (ce : τ → va_E) (u : Mem × τ) (t : State) : Prop := va_P D clv (WS ad ky u.1) t.heap ∧ va_P D clv [(ao, ce u.2)] t.heap
abbrev XFo (ad : Nat → Nat) (sz ao : Nat) : String → State → State → Prop := vx_X (fun _ : Mem => False) (fun _ _ _ => True) (AWo ad sz ao)
def CH (l : Launch) (D : va_G) (ky : Nat → ClassId) (ad : Nat → Nat) (ex : Nat → Nat → Nat) (y : MethodName) (b : ByteArray) (n : Nat) (hh : List (Nat × Nat × Nat × Nat)) (rm : Room) (mc ms : Nat) (av : List Value) (S : Mem) (ao : Nat) {τ : Type} (ce : τ → va_E) (f : τ) (post : Int32 → Mem → τ → Prop) : Prop :=
  ∀ sz : Nat, vx_Met l y (.codeWith y b n (some .int) hh :: wA) rm (va_Pc av (PREo D ky ad ex S sz ao (ce f))) (va_Qi (fun r (u : Mem × τ) => post r u.1 u.2) (AFo D ky ad ao ce) (AWo ad sz ao)) (XFo ad sz ao) mc ms (AWo ad sz ao)
section HB
variable {l : Launch} {D : va_G} {ky : Nat → ClassId} {ad : Nat → Nat} {ex : Nat → Nat → Nat} {y : MethodName} {b : ByteArray} {n : Nat} {hh : List (Nat × Nat × Nat × Nat)} {rm : Room} {mc ms : Nat} {av : List Value} {S : Mem} {ao : Nat} {τ : Type} {ce : τ → va_E} {f : τ} {post : Int32 → Mem → τ → Prop}
theorem CH.of (hy : plainName y.cls = true) (hn : (lg_sl av).length ≤ n)
    (body : ∀ (p : Program) (e : Env) (s : State) (m : MethodId) (args : Array Value) (below : List Frame) (meth : Method) (c : Code) (ls : Array Slot), Gx p s m args meth c D ky ad ex b n y.cls (AWo ad s.heap.size ao) → meth.sig.returnType = some .int → c.exceptionTable.toList = tableOf hh → Cg D ky ad s (AWo ad s.heap.size ao) S [(ao, ce f)] s.heap [] → lv_has ls n (lv_args 0 av) →
      W p l e rm s m args below meth c s.heap [] 0 0 (vx_MQ below (va_Qi (fun r (u : Mem × τ) => post r u.1 u.2) (AFo D ky ad ao ce) (AWo ad s.heap.size ao)) (XFo ad s.heap.size ao) args s mc ms (AWo ad s.heap.size ao)) (F0 m 0 ls [])) : CH l D ky ad ex y b n hh rm mc ms av S ao ce f post := by
  intro sz
  refine vx_ofWH (cc := b) (maxL := n) (ret := some .int) (hh := hh) hy rfl ?_
  intro p e s m args below meth c s₁ B hml hv
  obtain ⟨rfl, hsz, hP, hE, hne, hK, hJ, hST⟩ := hv
  subst hsz
  have hts := atoms_spec (ws := .codeWith y b n (some .int) hh :: wA) B.pre
  have hl := lv_entry av (n := n) hn
  rw [lg_entry_eq]
  refine body p e s m _ below meth c _ ⟨B.exec, B.bytes, hml, findClass_of_methodNamed B.named, fun w hw => hts w (List.mem_cons_of_mem _ hw), B.notSynchronized, hK, hJ, hST, fun q h => Or.inl h⟩ B.returns (vx_table (x := y) B (hts _ List.mem_cons_self)) ⟨hP, hE, va_S.rf, fun o ho z hz => ?_⟩ hl
  cases List.mem_singleton.mp hz
  exact hne o ho
end HB
section HR
variable {p : Program} {l : Launch} {e : Env} {R : Room} {s : State} {m : MethodId} {args : Array Value} {below : List Frame} {meth : Method} {c : Code} {H : Heap} {locs : List Loc} {cells slots : Nat} {cc : ByteArray} {pc nL : Nat} {ls : Array Slot} {rest : List Value} {own : String} {D : va_G} {ky : Nat → ClassId} {ad : Nat → Nat} {ex : Nat → Nat → Nat} {S : Mem} {ao : Nat} {τ : Type} {ce : τ → va_E} {f : τ} {post : Int32 → Mem → τ → Prop} {Q : State → Prop}
theorem retH (F : Gx p s m args meth c D ky ad ex cc nL own (AWo ad s.heap.size ao)) (hr : meth.sig.returnType = some .int) (C : Cg D ky ad s (AWo ad s.heap.size ao) S [(ao, ce f)] H locs) {v : Int32} (hp : post v S f) (d : decode cc pc = .ok (.ireturn, 1)) : W p l e R s m args below meth c H locs cells slots (vx_MQ below (va_Qi (fun r (u : Mem × τ) => post r u.1 u.2) (AFo D ky ad ao ce) (AWo ad s.heap.size ao)) (XFo ad s.heap.size ao) args s cells slots (AWo ad s.heap.size ao)) (F0 m pc ls [.int v]) :=
  vx_ret (W.iret F.x F.b hr (fun t ht hW => ⟨⟨v, (S, f), rfl, hp, by unfold AFo; rw [ht]; exact ⟨C.1, C.2.1⟩⟩, C.2.2.1.F ht⟩) C.2.2.1.2.2 d F.lk)
/-- the memory and the cell as one world -/
theorem Cg.all {A : Nat → Prop} {x : va_E} (hJ : INJ ad) (hA : ∀ q, AW ad s.heap.size q → A q) (hao : A ao) (C : Cg D ky ad s A S [(ao, x)] H locs) : va_P D clv (WS ad ky S ++ [(ao, x)]) H ∧ va_D A (WS ad ky S ++ [(ao, x)]) := by
  have hlen : (WS ad ky S).length = 128 := by simp [WS]
  have hget : ∀ (k : Nat) (q : Nat × va_E), (WS ad ky S ++ [(ao, x)])[k]? = some q → (k < 128 ∧ q.1 = ad k ∧ (WS ad ky S)[k]? = some q) ∨ (k = 128 ∧ q = (ao, x)) := by
    intro k q hq
    by_cases hk : k < 128
    · rw [List.getElem?_append_left (by omega)] at hq
      have h2 := hq
      rw [WS_at hk] at h2
      cases h2
      exact Or.inl ⟨hk, rfl, hq⟩
    · rw [List.getElem?_append_right (by omega), hlen] at hq
      have hz : k - 128 < 1 := (List.getElem?_eq_some_iff.mp hq).1
      have hk2 : k = 128 := by omega
      subst hk2
      cases hq
      exact Or.inr ⟨rfl, rfl⟩
  refine ⟨fun k q hq => ?_, fun i j a b hi hj e => ?_, fun k q hq => ?_⟩
  · rcases hget k q hq with ⟨h1, h2, h3⟩ | ⟨h1, rfl⟩
    · exact C.1 k q h3
    · exact C.2.1 0 _ rfl
  · rcases hget i a hi with ⟨h1, h2, h3⟩ | ⟨h1, h2⟩ <;> rcases hget j b hj with ⟨g1, g2, g3⟩ | ⟨g1, g2⟩
    · exact hJ i j h1 g1 (by rw [← h2, ← g2, e])
    · subst g2
      exact (C.2.2.2 i h1 _ List.mem_cons_self (by rw [← h2, e])).elim
    · subst h2
      exact (C.2.2.2 j g1 _ List.mem_cons_self (by rw [← g2, ← e])).elim
    · omega
  · rcases hget k q hq with ⟨h1, h2, h3⟩ | ⟨h1, rfl⟩
    · rw [h2]
      exact hA _ (AW.o h1)
    · exact hao
theorem Cg.split {A : Nat → Prop} {x y : va_E} {H1 : Heap} {locs1 : List Loc} (C : Cg D ky ad s A S [(ao, x)] H locs) (hP : va_P D clv ((WS ad ky S ++ [(ao, x)]).set 128 (ao, y)) H1) (hS : va_S A s.heap H1 locs1) : Cg D ky ad s A S [(ao, y)] H1 locs1 := by
  have hlen : (WS ad ky S).length = 128 := by simp [WS]
  refine ⟨fun k q hq => hP k q ?_, fun k q hq => hP 128 q ?_, hS, fun o ho z hz => ?_⟩
  · have hk : k < 128 := by
      have h2 := (List.getElem?_eq_some_iff.mp hq).1
      omega
    rw [List.getElem?_set_ne (by omega), List.getElem?_append_left (by omega)]
    exact hq
  · have hz : k < 1 := (List.getElem?_eq_some_iff.mp hq).1
    have hk : k = 0 := by omega
    subst hk
    cases hq
    rw [List.getElem?_set_self (by simp [hlen])]
  · cases List.mem_singleton.mp hz
    exact C.2.2.2 o ho (ao, x) List.mem_cons_self
theorem hLast {A : Nat → Prop} (F : Gx p s m args meth c D ky ad ex cc nL own A) (hao : A ao) {f : Nat → Int64} (C : Cg D ky ad s A S [(ao, lce ky f)] H locs) {x : Int64} (d : decode cc pc = .ok (.lastore, 1))
    (kk : ∀ (H1 : Heap) (locs1 : List Loc), Cg D ky ad s A S [(ao, lce ky (vp_updL f 0 x))] H1 locs1 → W p l e R s m args below meth c H1 locs1 cells slots Q (F0 m (pc + 1) ls rest)) : W p l e R s m args below meth c H locs cells slots Q (F0 m pc ls (.long x :: .int 0 :: .ref ao :: rest)) := by
  have hlen : (WS ad ky S).length = 128 := by simp [WS]
  obtain ⟨h1, h2⟩ := C.all F.J F.aw hao
  exact va_last F.x F.b F.K h1 h2 C.2.2.1 128 5 (by rw [List.getElem?_append_right (by omega), hlen]; rfl) rfl (by unfold vp_in; decide) d (fun H1 locs1 g1 _ g3 => kk H1 locs1 (C.split g1 g3))
theorem hDast {A : Nat → Prop} (F : Gx p s m args meth c D ky ad ex cc nL own A) (hao : A ao) {f : Nat → UInt64} (C : Cg D ky ad s A S [(ao, dce ky f)] H locs) {x : UInt64} (d : decode cc pc = .ok (.dastore, 1))
    (kk : ∀ (H1 : Heap) (locs1 : List Loc), Cg D ky ad s A S [(ao, dce ky (vf_upd f 0 x))] H1 locs1 → W p l e R s m args below meth c H1 locs1 cells slots Q (F0 m (pc + 1) ls rest)) : W p l e R s m args below meth c H locs cells slots Q (F0 m pc ls (.double x :: .int 0 :: .ref ao :: rest)) := by
  have hlen : (WS ad ky S).length = 128 := by simp [WS]
  obtain ⟨h1, h2⟩ := C.all F.J F.aw hao
  exact va_dast F.x F.b F.K h1 h2 C.2.2.1 128 6 (by rw [List.getElem?_append_right (by omega), hlen]; rfl) rfl (by unfold vp_in; decide) d (fun H1 locs1 g1 _ g3 => kk H1 locs1 (C.split g1 g3))
end HR
