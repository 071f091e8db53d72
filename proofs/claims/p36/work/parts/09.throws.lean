section
variable {p : Program} {l : Launch} {e : Env} {R : Room} {s : State} {m : MethodId} {args : Array Value} {below : List Frame} {meth : Method} {c : Code} {H : Heap} {locs : List Loc} {cells slots : Nat} {Q : State → Prop}
variable {mc ms : Nat} {free : Addr → Prop} {A0 A1 : Nat → Prop} {H0 : Heap} {a : Array Value} {pc : Nat} {ls : Array Slot} {st0 rest : List Value}
theorem vx_callq {S SX : Type} {post : Option Nat → S → Prop} {px : SX → Prop} {B : S → State → Prop} {BX : String → SX → State → Prop} {AX : Nat → Prop} (hr : vx_Run p l e R s m args below meth c H locs cells slots mc ms (F0 m pc ls st0) rest (va_Qq post B A1 a) (vx_X px BX AX) free) (hS : va_S A0 H0 H locs) (hA : ∀ q, q < H.size → A1 q → A0 q) (hf : ∀ q, free q → A0 q) (hAX : ∀ q, q < H.size → AX q → A0 q)
    (kx : ∀ (E : String) (ce : Cell) (q9 : Addr) (u : SX) (t : State) (H1 : Heap) (locs1 : List Loc), t.heap = H1 → s.vm.Alike t.vm → px u → BX E u t → H.size ≤ H1.size → (∀ q : Nat, q < H.size → ¬ AX q → H1[q]? = H[q]?) → va_S A0 H0 H1 locs1 → H1[q9]? = some ce → ce.vm = .none → s.vm.findClass E = some ce.cls → vx_W p l e R s m args below meth c H1 locs1 (cells + mc) (slots + ms) Q (F0 m pc ls rest) q9)
    (kk : ∀ (r : Option Nat) (u : S) (t : State) (H1 : Heap) (locs1 : List Loc), t.heap = H1 → s.vm.Alike t.vm → post r u → B u t → H.size ≤ H1.size → (∀ q : Nat, q < H.size → ¬ A1 q → H1[q]? = H[q]?) → va_S A0 H0 H1 locs1 → W p l e R s m args below meth c H1 locs1 (cells + mc) (slots + ms) Q (F0 m (pc + 3) ls (va_rf r :: rest))) : W p l e R s m args below meth c H locs cells slots Q (F0 m pc ls st0) := by
  intro T hT X
  rcases hr T hT X with ⟨v, st₀, t, T', L, h0, X', hL, e1, e2, ⟨⟨r, u, hv, hp, hb⟩, hF⟩, st⟩ | ⟨q, st₀, t, T', L, E, ce, h0, X', hL, e1, e2, ⟨u, hp, hb, hF⟩, hce, hcv, hcl, st⟩
  · cases hv
    obtain ⟨k1, k2, k3⟩ := vx_keep h0 e1 hS hA hf hL hF
    obtain ⟨t2, a1, b1⟩ := kk r u t T'.heap (locs ++ L) e1.symm (by rw [← e2]; exact X'.warmed.alike) hp hb k1 k2 k3 T' rfl X'
    exact ⟨t2, st t2 a1, b1⟩
  · obtain ⟨k1, k2, k3⟩ := vx_keep h0 e1 hS hAX hf hL hF
    obtain ⟨t2, a1, b1⟩ := kx E ce q u t T'.heap (locs ++ L) e1.symm (by rw [← e2]; exact X'.warmed.alike) hp hb k1 k2 k3 (by rw [e1]; exact hce) hcv hcl T' rfl X'
    exact ⟨t2, st.trans a1, b1⟩
end
/-! METHODS THAT MAY THROW -/
def XPX (D : va_G) (ky : Nat → ClassId) (ad : Nat → Nat) (px : String → Mem → Prop) (A : Nat → Prop) : String → State → State → Prop := vx_X (fun _ : Mem => True) (fun E S t => px E S ∧ AFT D ky ad S t) A
def va_Qt {ad : Nat → Nat} (post : Nat → Mem → Prop) (B : Mem → State → Prop) (A : Nat → Prop) : Array Value → State → Outcome → State → Prop := va_Qq (fun (r : Option Nat) (u : Mem) => ∃ i : Nat, i < 80 ∧ r = some (ad (20 + i)) ∧ post i u) B A
def CXi (l : Launch) (D : va_G) (ky : Nat → ClassId) (ad : Nat → Nat) (ex : Nat → Nat → Nat) (y : MethodName) (b : ByteArray) (n : Nat) (r : Option FieldType) (rm : Room) (mc ms : Nat) (av : List Value) (S : Mem) (post : Int32 → Mem → Prop) (px : String → Mem → Prop) : Prop :=
  ∀ sz : Nat, vx_Met l y (.code y b n r :: wA) rm (va_Pc av (PRE D ky ad ex S sz)) (va_Qi post (AFT D ky ad) (AW ad sz)) (XPX D ky ad px (AW ad sz)) mc ms (AW ad sz)
def CXv (l : Launch) (D : va_G) (ky : Nat → ClassId) (ad : Nat → Nat) (ex : Nat → Nat → Nat) (y : MethodName) (b : ByteArray) (n : Nat) (r : Option FieldType) (rm : Room) (mc ms : Nat) (av : List Value) (S : Mem) (post : Mem → Prop) (px : String → Mem → Prop) : Prop :=
  ∀ sz : Nat, vx_Met l y (.code y b n r :: wA) rm (va_Pc av (PRE D ky ad ex S sz)) (va_Qv post (AFT D ky ad) (AW ad sz)) (XPX D ky ad px (AW ad sz)) mc ms (AW ad sz)
def CXr (l : Launch) (D : va_G) (ky : Nat → ClassId) (ad : Nat → Nat) (ex : Nat → Nat → Nat) (y : MethodName) (b : ByteArray) (n : Nat) (r : Option FieldType) (rm : Room) (mc ms : Nat) (av : List Value) (S : Mem) (post : Nat → Mem → Prop) (px : String → Mem → Prop) : Prop :=
  ∀ sz : Nat, vx_Met l y (.code y b n r :: wA) rm (va_Pc av (PRE D ky ad ex S sz)) (va_Qt (ad := ad) post (AFT D ky ad) (AW ad sz)) (XPX D ky ad px (AW ad sz)) mc ms (AW ad sz)
section BX
variable {l : Launch} {D : va_G} {ky : Nat → ClassId} {ad : Nat → Nat} {ex : Nat → Nat → Nat} {y : MethodName} {b : ByteArray} {n : Nat} {r : Option FieldType} {rm : Room} {mc ms : Nat} {av : List Value} {S : Mem} {px : String → Mem → Prop}
theorem vx_of {Qc : Nat → Array Value → State → Outcome → State → Prop} (hy : plainName y.cls = true) (hn : (lg_sl av).length ≤ n)
    (body : ∀ (p : Program) (e : Env) (s : State) (m : MethodId) (args : Array Value) (below : List Frame) (meth : Method) (c : Code) (ls : Array Slot), Fx p s m args meth c D ky ad ex b n y.cls → meth.sig.returnType = r → (∀ x ∈ c.exceptionTable.toList, False) → Cx D ky ad s S s.heap [] → lv_has ls n (lv_args 0 av) →
      W p l e rm s m args below meth c s.heap [] 0 0 (vx_MQ below (Qc s.heap.size) (XPX D ky ad px (AW ad s.heap.size)) args s mc ms (AW ad s.heap.size)) (F0 m 0 ls [])) (sz : Nat) :
    vx_Met l y (.code y b n r :: wA) rm (va_Pc av (PRE D ky ad ex S sz)) (Qc sz) (XPX D ky ad px (AW ad sz)) mc ms (AW ad sz) := by
  refine vx_ofW (cc := b) (maxL := n) (ret := r) hy rfl ?_
  intro p e s m args below meth c s₁ B hml hout hv
  obtain ⟨rfl, hsz, hP, hK, hJ, hST⟩ := hv
  subst hsz
  have hts := atoms_spec (ws := .code y b n r :: wA) B.pre
  have hl := lv_entry av (n := n) hn
  rw [lg_entry_eq]
  exact body p e s m _ below meth c _ ⟨B.exec, B.bytes, hml, findClass_of_methodNamed B.named, fun w hw => hts w (List.mem_cons_of_mem _ hw), B.notSynchronized, hK, hJ, hST⟩ B.returns hout ⟨hP, va_S.rf⟩ hl
theorem CXi.of {post : Int32 → Mem → Prop} (hy : plainName y.cls = true) (hn : (lg_sl av).length ≤ n)
    (body : ∀ (p : Program) (e : Env) (s : State) (m : MethodId) (args : Array Value) (below : List Frame) (meth : Method) (c : Code) (ls : Array Slot), Fx p s m args meth c D ky ad ex b n y.cls → meth.sig.returnType = r → (∀ x ∈ c.exceptionTable.toList, False) → Cx D ky ad s S s.heap [] → lv_has ls n (lv_args 0 av) →
      W p l e rm s m args below meth c s.heap [] 0 0 (vx_MQ below (va_Qi post (AFT D ky ad) (AW ad s.heap.size)) (XPX D ky ad px (AW ad s.heap.size)) args s mc ms (AW ad s.heap.size)) (F0 m 0 ls [])) : CXi l D ky ad ex y b n r rm mc ms av S post px :=
  fun sz => vx_of (Qc := fun z => va_Qi post (AFT D ky ad) (AW ad z)) hy hn body sz
theorem CXv.of {post : Mem → Prop} (hy : plainName y.cls = true) (hn : (lg_sl av).length ≤ n)
    (body : ∀ (p : Program) (e : Env) (s : State) (m : MethodId) (args : Array Value) (below : List Frame) (meth : Method) (c : Code) (ls : Array Slot), Fx p s m args meth c D ky ad ex b n y.cls → meth.sig.returnType = r → (∀ x ∈ c.exceptionTable.toList, False) → Cx D ky ad s S s.heap [] → lv_has ls n (lv_args 0 av) →
      W p l e rm s m args below meth c s.heap [] 0 0 (vx_MQ below (va_Qv post (AFT D ky ad) (AW ad s.heap.size)) (XPX D ky ad px (AW ad s.heap.size)) args s mc ms (AW ad s.heap.size)) (F0 m 0 ls [])) : CXv l D ky ad ex y b n r rm mc ms av S post px :=
  fun sz => vx_of (Qc := fun z => va_Qv post (AFT D ky ad) (AW ad z)) hy hn body sz
theorem CXr.of {post : Nat → Mem → Prop} (hy : plainName y.cls = true) (hn : (lg_sl av).length ≤ n)
    (body : ∀ (p : Program) (e : Env) (s : State) (m : MethodId) (args : Array Value) (below : List Frame) (meth : Method) (c : Code) (ls : Array Slot), Fx p s m args meth c D ky ad ex b n y.cls → meth.sig.returnType = r → (∀ x ∈ c.exceptionTable.toList, False) → Cx D ky ad s S s.heap [] → lv_has ls n (lv_args 0 av) →
      W p l e rm s m args below meth c s.heap [] 0 0 (vx_MQ below (va_Qt (ad := ad) post (AFT D ky ad) (AW ad s.heap.size)) (XPX D ky ad px (AW ad s.heap.size)) args s mc ms (AW ad s.heap.size)) (F0 m 0 ls [])) : CXr l D ky ad ex y b n r rm mc ms av S post px :=
  fun sz => vx_of (Qc := fun z => va_Qt (ad := ad) post (AFT D ky ad) (AW ad z)) hy hn body sz
end BX
section RX
variable {p : Program} {l : Launch} {e : Env} {R : Room} {s : State} {m : MethodId} {args : Array Value} {below : List Frame} {meth : Method} {c : Code} {H : Heap} {locs : List Loc} {cells slots : Nat} {Q : State → Prop} {cc : ByteArray} {pc nL : Nat} {ls : Array Slot} {rest : List Value} {own : String} {D : va_G} {ky : Nat → ClassId} {ad : Nat → Nat} {ex : Nat → Nat → Nat} {S : Mem} {px : String → Mem → Prop} {Qc : Array Value → State → Outcome → State → Prop} {mc0 ms0 : Nat}
theorem retR (F : Fx p s m args meth c D ky ad ex cc nL own) {C9 : String} (hr : meth.sig.returnType = some (.object C9)) (C : Cx D ky ad s S H locs) {post : Nat → Mem → Prop} {i : Nat} (hi : i < 80) (hp : post i S) (d : decode cc pc = .ok (.areturn, 1)) : W p l e R s m args below meth c H locs cells slots (MQ below (va_Qt (ad := ad) post (AFT D ky ad) (AW ad s.heap.size)) args s cells slots (AW ad s.heap.size)) (F0 m pc ls [.ref (ad (20 + i))]) :=
  W.aret F.x F.b hr (Or.inl ⟨_, rfl⟩) (Or.inr ⟨_, rfl⟩) (fun t ht hW => ⟨⟨some (ad (20 + i)), S, rfl, ⟨i, hi, rfl, hp⟩, by rw [AFT, ht]; exact C.1⟩, C.2.F ht⟩) C.2.2.2 d F.lk
/-- an exception leaves the method -/
theorem xOut (F : Fx p s m args meth c D ky ad ex cc nL own) (hout : ∀ x ∈ c.exceptionTable.toList, False) {E : String} {ce : Cell} {q : Addr} {u : Mem} {t : State} (ht : t.heap = H) (hS : va_S (AW ad s.heap.size) s.heap H locs) (hB : px E u ∧ AFT D ky ad u t) (hcell : H[q]? = some ce) (hv : ce.vm = .none) (hcl : s.vm.findClass E = some ce.cls) (hc : cells ≤ mc0 ∧ slots ≤ ms0) : vx_W p l e R s m args below meth c H locs cells slots (vx_MQ below Qc (XPX D ky ad px (AW ad s.heap.size)) args s mc0 ms0 (AW ad s.heap.size)) (F0 m pc ls rest) q := by
  refine vx_out (fun x hx => (hout x hx).elim) F.lk hcell hv hcl (fun t' ht' hvm' => ⟨u, trivial, ⟨hB.1, ?_⟩, hS.F ht'⟩) hS.2.2 hc.1 hc.2
  have h := hB.2
  rw [AFT, ht] at h
  rw [AFT, ht']
  exact h
theorem kxI (F : Fx p s m args meth c D ky ad ex cc nL own) (hout : ∀ x ∈ c.exceptionTable.toList, False) (C : Cx D ky ad s S H locs) {lv : List (Nat × Value)} (hl : lv_has ls nL lv) {o ci N idx n mc ms : Nat} {y : MethodName} {b : ByteArray} {r : Option FieldType} {rm : Room} {As : List Value} {post : Int32 → Mem → Prop} (hM : CXi l D ky ad ex y b n r rm mc ms (.ref (ad o) :: As) S post px) (ho : o < 117) {fs : List Value} {Cn : String} {T : u_T} (hc : celr ky ad o (S (tg o) (ix o)) = .inr (ci, fs)) (hcl : clv[ci]? = some (Cn, T, N)) (w : WV own Cn idx y b n r As.length) (hR : rm.cells = mc ∧ rm.slots = ms ∧ (rm.frames + 1 ≤ R.frames ∧ 8 + (n + 11) + rm.locals ≤ R.locals) ∧ (cells + mc ≤ R.cells ∧ slots + ms ≤ R.slots) ∧ (rest.map fun v => v.category).sum ≤ 8) {st0 : List Value} (hst : st0 = As.reverse ++ .ref (ad o) :: rest) (d : decode cc pc = .ok (.invokevirtual idx, 3)) (hm : cells + mc ≤ mc0 ∧ slots + ms ≤ ms0)
    (kk : ∀ (r : Int32) (S1 : Mem) (H1 : Heap) (locs1 : List Loc), post r S1 → Cx D ky ad s S1 H1 locs1 → W p l e R s m args below meth c H1 locs1 (cells + mc) (slots + ms) (vx_MQ below Qc (XPX D ky ad px (AW ad s.heap.size)) args s mc0 ms0 (AW ad s.heap.size)) (F0 m (pc + 3) ls (.int r :: rest))) : W p l e R s m args below meth c H locs cells slots (vx_MQ below Qc (XPX D ky ad px (AW ad s.heap.size)) args s mc0 ms0 (AW ad s.heap.size)) (F0 m pc ls st0) :=
  vx_calli (vx_runV (As := As) (rest := rest) ⟨F.x, F.b, F.ml, F.ow, F.ts⟩ (hM H.size) (cwV As.length F.ts w.good rfl hR.1 hR.2.1 w.2.2.2.2.2 hR.2.2.1) ⟨PRE.blind, va_recv F.K C.1 hcl (q0 := o) (by rw [WS_at ho, hc]), preV F C⟩ rfl rfl hl.1 hst (lv_room hR.2.2.2.2) d hR.2.2.2.1) C.2 (fun q _ h => AW.sub C.2.1 q h) (AW.sub C.2.1) (fun q _ h => AW.sub C.2.1 q h)
    (fun E ce q9 u t H1 locs1 ht hvm hpu hB hz1 hk1 hS hcell hv hcl => xOut F hout ht hS hB hcell hv hcl hm)
    (fun r u t H1 locs1 ht hvm hw hB hz1 hk1 hS => kk r u H1 locs1 hw ⟨by rw [← ht]; exact hB, hS⟩)
theorem kxV (F : Fx p s m args meth c D ky ad ex cc nL own) (hout : ∀ x ∈ c.exceptionTable.toList, False) (C : Cx D ky ad s S H locs) {lv : List (Nat × Value)} (hl : lv_has ls nL lv) {o ci N idx n mc ms : Nat} {y : MethodName} {b : ByteArray} {r : Option FieldType} {rm : Room} {As : List Value} {post : Mem → Prop} (hM : CXv l D ky ad ex y b n r rm mc ms (.ref (ad o) :: As) S post px) (ho : o < 117) {fs : List Value} {Cn : String} {T : u_T} (hc : celr ky ad o (S (tg o) (ix o)) = .inr (ci, fs)) (hcl : clv[ci]? = some (Cn, T, N)) (w : WV own Cn idx y b n r As.length) (hR : rm.cells = mc ∧ rm.slots = ms ∧ (rm.frames + 1 ≤ R.frames ∧ 8 + (n + 11) + rm.locals ≤ R.locals) ∧ (cells + mc ≤ R.cells ∧ slots + ms ≤ R.slots) ∧ (rest.map fun v => v.category).sum ≤ 8) {st0 : List Value} (hst : st0 = As.reverse ++ .ref (ad o) :: rest) (d : decode cc pc = .ok (.invokevirtual idx, 3)) (hm : cells + mc ≤ mc0 ∧ slots + ms ≤ ms0)
    (kk : ∀ (S1 : Mem) (H1 : Heap) (locs1 : List Loc), post S1 → Cx D ky ad s S1 H1 locs1 → W p l e R s m args below meth c H1 locs1 (cells + mc) (slots + ms) (vx_MQ below Qc (XPX D ky ad px (AW ad s.heap.size)) args s mc0 ms0 (AW ad s.heap.size)) (F0 m (pc + 3) ls rest)) : W p l e R s m args below meth c H locs cells slots (vx_MQ below Qc (XPX D ky ad px (AW ad s.heap.size)) args s mc0 ms0 (AW ad s.heap.size)) (F0 m pc ls st0) :=
  vx_callv (vx_runV (As := As) (rest := rest) ⟨F.x, F.b, F.ml, F.ow, F.ts⟩ (hM H.size) (cwV As.length F.ts w.good rfl hR.1 hR.2.1 w.2.2.2.2.2 hR.2.2.1) ⟨PRE.blind, va_recv F.K C.1 hcl (q0 := o) (by rw [WS_at ho, hc]), preV F C⟩ rfl rfl hl.1 hst (lv_room hR.2.2.2.2) d hR.2.2.2.1) C.2 (fun q _ h => AW.sub C.2.1 q h) (AW.sub C.2.1) (fun q _ h => AW.sub C.2.1 q h)
    (fun E ce q9 u t H1 locs1 ht hvm hpu hB hz1 hk1 hS hcell hv hcl => xOut F hout ht hS hB hcell hv hcl hm)
    (fun u t H1 locs1 ht hvm hw hB hz1 hk1 hS => kk u H1 locs1 hw ⟨by rw [← ht]; exact hB, hS⟩)
theorem kxR (F : Fx p s m args meth c D ky ad ex cc nL own) (hout : ∀ x ∈ c.exceptionTable.toList, False) (C : Cx D ky ad s S H locs) {lv : List (Nat × Value)} (hl : lv_has ls nL lv) {o ci N idx n mc ms : Nat} {y : MethodName} {b : ByteArray} {r : Option FieldType} {rm : Room} {As : List Value} {post : Nat → Mem → Prop} (hM : CXr l D ky ad ex y b n r rm mc ms (.ref (ad o) :: As) S post px) (ho : o < 117) {fs : List Value} {Cn : String} {T : u_T} (hc : celr ky ad o (S (tg o) (ix o)) = .inr (ci, fs)) (hcl : clv[ci]? = some (Cn, T, N)) (w : WV own Cn idx y b n r As.length) (hR : rm.cells = mc ∧ rm.slots = ms ∧ (rm.frames + 1 ≤ R.frames ∧ 8 + (n + 11) + rm.locals ≤ R.locals) ∧ (cells + mc ≤ R.cells ∧ slots + ms ≤ R.slots) ∧ (rest.map fun v => v.category).sum ≤ 8) {st0 : List Value} (hst : st0 = As.reverse ++ .ref (ad o) :: rest) (d : decode cc pc = .ok (.invokevirtual idx, 3)) (hm : cells + mc ≤ mc0 ∧ slots + ms ≤ ms0)
    (kk : ∀ (i : Nat) (S1 : Mem) (H1 : Heap) (locs1 : List Loc), i < 80 → post i S1 → Cx D ky ad s S1 H1 locs1 → W p l e R s m args below meth c H1 locs1 (cells + mc) (slots + ms) (vx_MQ below Qc (XPX D ky ad px (AW ad s.heap.size)) args s mc0 ms0 (AW ad s.heap.size)) (F0 m (pc + 3) ls (.ref (ad (20 + i)) :: rest))) : W p l e R s m args below meth c H locs cells slots (vx_MQ below Qc (XPX D ky ad px (AW ad s.heap.size)) args s mc0 ms0 (AW ad s.heap.size)) (F0 m pc ls st0) :=
  vx_callq (vx_runV (As := As) (rest := rest) ⟨F.x, F.b, F.ml, F.ow, F.ts⟩ (hM H.size) (cwV As.length F.ts w.good rfl hR.1 hR.2.1 w.2.2.2.2.2 hR.2.2.1) ⟨PRE.blind, va_recv F.K C.1 hcl (q0 := o) (by rw [WS_at ho, hc]), preV F C⟩ rfl rfl hl.1 hst (lv_room hR.2.2.2.2) d hR.2.2.2.1) C.2 (fun q _ h => AW.sub C.2.1 q h) (AW.sub C.2.1) (fun q _ h => AW.sub C.2.1 q h)
    (fun E ce q9 u t H1 locs1 ht hvm hpu hB hz1 hk1 hS hcell hv hcl => xOut F hout ht hS hB hcell hv hcl hm)
    (fun r u t H1 locs1 ht hvm hw hB hz1 hk1 hS => by
      obtain ⟨i, hi, rfl, hp⟩ := hw
      exact kk i u H1 locs1 hi hp ⟨by rw [← ht]; exact hB, hS⟩)
theorem kxSV (F : Fx p s m args meth c D ky ad ex cc nL own) (hout : ∀ x ∈ c.exceptionTable.toList, False) (C : Cx D ky ad s S H locs) {lv : List (Nat × Value)} (hl : lv_has ls nL lv) {idx n mc ms : Nat} {y : MethodName} {b : ByteArray} {r : Option FieldType} {rm : Room} {As : List Value} {post : Mem → Prop} (hM : CXv l D ky ad ex y b n r rm mc ms As S post px) (w : WT own idx y b n r As.length) (hR : rm.cells = mc ∧ rm.slots = ms ∧ (rm.frames + 1 ≤ R.frames ∧ 8 + (n + 11) + rm.locals ≤ R.locals) ∧ (cells + mc ≤ R.cells ∧ slots + ms ≤ R.slots) ∧ (rest.map fun v => v.category).sum ≤ 8) {st0 : List Value} (hst : st0 = As.reverse ++ rest) (d : decode cc pc = .ok (.invokestatic idx, 3)) (hm : cells + mc ≤ mc0 ∧ slots + ms ≤ ms0)
    (kk : ∀ (S1 : Mem) (H1 : Heap) (locs1 : List Loc), post S1 → Cx D ky ad s S1 H1 locs1 → W p l e R s m args below meth c H1 locs1 (cells + mc) (slots + ms) (vx_MQ below Qc (XPX D ky ad px (AW ad s.heap.size)) args s mc0 ms0 (AW ad s.heap.size)) (F0 m (pc + 3) ls rest)) : W p l e R s m args below meth c H locs cells slots (vx_MQ below Qc (XPX D ky ad px (AW ad s.heap.size)) args s mc0 ms0 (AW ad s.heap.size)) (F0 m pc ls st0) :=
  vx_callv (vx_runS (As := As) (rest := rest) ⟨F.x, F.b, F.ml, F.ow, F.ts⟩ (hM H.size) (va_cwS As.length F.ts w.good rfl hR.1 hR.2.1 w.2.2.2.2 hR.2.2.1) ⟨PRE.blind, preV F C⟩ rfl rfl hl.1 hst (lv_room hR.2.2.2.2) d hR.2.2.2.1) C.2 (fun q _ h => AW.sub C.2.1 q h) (AW.sub C.2.1) (fun q _ h => AW.sub C.2.1 q h)
    (fun E ce q9 u t H1 locs1 ht hvm hpu hB hz1 hk1 hS hcell hv hcl => xOut F hout ht hS hB hcell hv hcl hm)
    (fun u t H1 locs1 ht hvm hw hB hz1 hk1 hS => kk u H1 locs1 hw ⟨by rw [← ht]; exact hB, hS⟩)
abbrev xnm : List String := ["java/lang/RuntimeException", "java/lang/Exception"]
/-- the words of a throw -/
def WX (own : String) (ik ic : Nat) (cls : String) : Prop :=
  Cond.classLink own ik cls ∈ wA ∧ Cond.initialized cls ∈ wA ∧ Bundle.fit cls = true ∧ (∀ w ∈ vx_atS own ic cls xnm, w ∈ lw_tbl) ∧ (∀ w ∈ vx_atS own ic cls xnm, goodWord w = true ∨ isCast w = true)
theorem WX.hat {ik ic : Nat} {cls : String} (w : WX own ik ic cls) (F : Fx p s m args meth c D ky ad ex cc nL own) : ∀ z ∈ vx_atS own ic cls xnm, z.before args s = true := by
  intro z hz
  rcases w.2.2.2.2 z hz with h | h
  · exact F.ts z (wA_of (w.2.2.2.1 z hz) h)
  · have h0 : z.onTables = true := by cases z <;> first | rfl | cases h
    exact va_Nw.use h0 (F.st.2.1 z (wC_of (w.2.2.2.1 z hz) h))
theorem WX.ot {ik ic : Nat} {cls : String} (w : WX own ik ic cls) : ∀ z ∈ Cond.classLink own ik cls :: Cond.initialized cls :: vx_atS own ic cls xnm, vx_ot z = true := by
  intro z hz
  rcases List.mem_cons.mp hz with rfl | hz
  · rfl
  · rcases List.mem_cons.mp hz with rfl | hz
    · rfl
    · rcases w.2.2.2.2 z hz with h | h
      · simp [vx_ot, h]
      · have h0 : z.onTables = true := by cases z <;> first | rfl | cases h
        simp [vx_ot, h0]
theorem xTh (F : Fx p s m args meth c D ky ad ex cc nL own) (C : Cx D ky ad s S H locs) {E : String} (h : px E S) : ∀ t : State, s.vm.Alike t.vm → H.size ≤ t.heap.size → (∀ q : Nat, q < H.size → t.heap[q]? = H[q]?) → XPX D ky ad px (AW ad s.heap.size) E s t := by
  intro t hvm hz hq
  refine ⟨S, trivial, ⟨h, ?_⟩, Nat.le_trans C.2.1 hz, fun q h1 h2 => ?_⟩
  · exact C.1.kept (fun k q hk => hq q.1 (C.1 k q hk).lt)
  · rw [hq q (Nat.lt_of_lt_of_le h1 C.2.1)]
    exact C.2.2.1 q h1 h2
theorem xThrow (F : Fx p s m args meth c D ky ad ex cc nL "FordToll") (hout : ∀ x ∈ c.exceptionTable.toList, False) (hf : l.stackTraces = false) (C : Cx D ky ad s S H locs) {lv : List (Nat × Value)} (hl : lv_has ls nL lv) {ik is ic : Nat} {cls : String} (w : WX "FordToll" ik ic cls) (i : Nat) (hi : i < 17) (his : kMs.getD i 0 = is)
    (hR : 5 < R.frames ∧ (rest.map fun v => v.category).sum + 82 ≤ R.locals ∧ cells + 1 ≤ R.cells ∧ slots + 6 ≤ R.slots) (hm : cells + 1 ≤ mc0 ∧ slots + 6 ≤ ms0) (h : px cls S)
    (d0 : decode cc pc = .ok (.new ik, 3)) (d3 : decode cc (pc + 3) = .ok (.dup, 1)) (d4 : decode cc (pc + 4) = .ok (.ldc is, 2)) (d6 : decode cc (pc + 6) = .ok (.invokespecial ic, 3)) (d9 : decode cc (pc + 9) = .ok (.athrow, 1)) : W p l e R s m args below meth c H locs cells slots (vx_MQ below Qc (XPX D ky ad px (AW ad s.heap.size)) args s mc0 ms0 (AW ad s.heap.size)) (F0 m pc ls rest) := by
  obtain ⟨sa, hsa⟩ := F.st.2.2.2.2.2.2.1 i hi
  rw [his] at hsa
  exact vx_throwS F.x F.b hf F.ow w.2.2.1 (names := xnm) (by decide) (F.ts _ w.1) (F.ts _ w.2.1) hsa (w.hat F) w.ot F.st.2.2.1 F.st.2.2.2.1 C.2 (hl.1.trans F.ml.symm) d0 d3 d4 d6 d9 (fun x hx => (hout x hx).elim) hR.1 hR.2.1 hR.2.2.1 hR.2.2.2 F.lk (xTh F C h) C.2.2.2 hm.1 hm.2
theorem xThrowW (F : Fx p s m args meth c D ky ad ex cc nL "FordToll") (hout : ∀ x ∈ c.exceptionTable.toList, False) (hf : l.stackTraces = false) (C : Cx D ky ad s S H locs) {lv : List (Nat × Value)} (hl : lv_has ls nL lv) {ik is ic : Nat} {cls : String} (w : WX "FordToll" ik ic cls) (i : Nat) (hi : i < 17) (his : kMs.getD i 0 = is)
    (hR : 5 < R.frames ∧ (rest.map fun v => v.category).sum + 82 ≤ R.locals ∧ cells + 1 ≤ R.cells ∧ slots + 6 ≤ R.slots) (hm : cells + 1 ≤ mc0 ∧ slots + 6 ≤ ms0) (h : px cls S)
    (d0 : decode cc pc = .ok (.new ik, 3)) (d3 : decode cc (pc + 3) = .ok (.dup, 1)) (d4 : decode cc (pc + 4) = .ok (.ldc_w is, 3)) (d6 : decode cc (pc + 7) = .ok (.invokespecial ic, 3)) (d9 : decode cc (pc + 10) = .ok (.athrow, 1)) : W p l e R s m args below meth c H locs cells slots (vx_MQ below Qc (XPX D ky ad px (AW ad s.heap.size)) args s mc0 ms0 (AW ad s.heap.size)) (F0 m pc ls rest) := by
  obtain ⟨sa, hsa⟩ := F.st.2.2.2.2.2.2.1 i hi
  rw [his] at hsa
  exact vx_throwSW F.x F.b hf F.ow w.2.2.1 (names := xnm) (by decide) (F.ts _ w.1) (F.ts _ w.2.1) hsa (w.hat F) w.ot F.st.2.2.1 F.st.2.2.2.1 C.2 (hl.1.trans F.ml.symm) d0 d3 d4 d6 d9 (fun x hx => (hout x hx).elim) hR.1 hR.2.1 hR.2.2.1 hR.2.2.2 F.lk (xTh F C h) C.2.2.2 hm.1 hm.2
end RX
theorem wx_181_185 : WX "FordToll" 181 185 "java/lang/IllegalStateException" := ⟨q3_142, q1_9, by decide +kernel, by decide +kernel, by decide +kernel⟩
theorem wx_200_204 : WX "FordToll" 200 204 "java/lang/IllegalArgumentException" := ⟨q2_124, q1_10, by decide +kernel, by decide +kernel, by decide +kernel⟩
theorem wx_245_249 : WX "FordToll" 245 249 "java/lang/ArithmeticException" := ⟨q4_98, q1_20, by decide +kernel, by decide +kernel, by decide +kernel⟩
theorem wx_265_269 : WX "FordToll" 265 269 "java/lang/IndexOutOfBoundsException" := ⟨q2_108, q1_18, by decide +kernel, by decide +kernel, by decide +kernel⟩
theorem wx_278_282 : WX "FordToll" 278 282 "java/lang/UnsupportedOperationException" := ⟨q2_148, q1_17, by decide +kernel, by decide +kernel, by decide +kernel⟩
