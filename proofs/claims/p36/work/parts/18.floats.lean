/-! doubles and floats -/
def CMd (l : Launch) (D : va_G) (ky : Nat → ClassId) (ad : Nat → Nat) (ex : Nat → Nat → Nat) (y : MethodName) (b : ByteArray) (n : Nat) (r : Option FieldType) (rm : Room) (mc ms : Nat) (av : List Value) (S : Mem) (post : UInt64 → Mem → Prop) : Prop :=
  ∀ sz : Nat, Met l y (.code y b n r :: wA) rm (va_Pc av (PRE D ky ad ex S sz)) (va_Qd post (AFT D ky ad) (AW ad sz)) mc ms (AW ad sz)
def CMf (l : Launch) (D : va_G) (ky : Nat → ClassId) (ad : Nat → Nat) (ex : Nat → Nat → Nat) (y : MethodName) (b : ByteArray) (n : Nat) (r : Option FieldType) (rm : Room) (mc ms : Nat) (av : List Value) (S : Mem) (post : UInt32 → Mem → Prop) : Prop :=
  ∀ sz : Nat, Met l y (.code y b n r :: wA) rm (va_Pc av (PRE D ky ad ex S sz)) (va_Qf post (AFT D ky ad) (AW ad sz)) mc ms (AW ad sz)
def CXd (l : Launch) (D : va_G) (ky : Nat → ClassId) (ad : Nat → Nat) (ex : Nat → Nat → Nat) (y : MethodName) (b : ByteArray) (n : Nat) (r : Option FieldType) (rm : Room) (mc ms : Nat) (av : List Value) (S : Mem) (post : UInt64 → Mem → Prop) (px : String → Mem → Prop) : Prop :=
  ∀ sz : Nat, vx_Met l y (.code y b n r :: wA) rm (va_Pc av (PRE D ky ad ex S sz)) (va_Qd post (AFT D ky ad) (AW ad sz)) (XPX D ky ad px (AW ad sz)) mc ms (AW ad sz)
def CXf (l : Launch) (D : va_G) (ky : Nat → ClassId) (ad : Nat → Nat) (ex : Nat → Nat → Nat) (y : MethodName) (b : ByteArray) (n : Nat) (r : Option FieldType) (rm : Room) (mc ms : Nat) (av : List Value) (S : Mem) (post : UInt32 → Mem → Prop) (px : String → Mem → Prop) : Prop :=
  ∀ sz : Nat, vx_Met l y (.code y b n r :: wA) rm (va_Pc av (PRE D ky ad ex S sz)) (va_Qf post (AFT D ky ad) (AW ad sz)) (XPX D ky ad px (AW ad sz)) mc ms (AW ad sz)
section FB
variable {l : Launch} {D : va_G} {ky : Nat → ClassId} {ad : Nat → Nat} {ex : Nat → Nat → Nat} {y : MethodName} {b : ByteArray} {n : Nat} {r : Option FieldType} {rm : Room} {mc ms : Nat} {av : List Value} {S : Mem} {px : String → Mem → Prop}
theorem cm_of {Qc : Nat → Array Value → State → Outcome → State → Prop} (hy : plainName y.cls = true) (hn : (lg_sl av).length ≤ n)
    (body : ∀ (p : Program) (e : Env) (s : State) (m : MethodId) (args : Array Value) (below : List Frame) (meth : Method) (c : Code) (ls : Array Slot), Fx p s m args meth c D ky ad ex b n y.cls → meth.sig.returnType = r → Cx D ky ad s S s.heap [] → lv_has ls n (lv_args 0 av) →
      W p l e rm s m args below meth c s.heap [] 0 0 (MQ below (Qc s.heap.size) args s mc ms (AW ad s.heap.size)) (F0 m 0 ls [])) (sz : Nat) :
    Met l y (.code y b n r :: wA) rm (va_Pc av (PRE D ky ad ex S sz)) (Qc sz) mc ms (AW ad sz) := by
  refine Met.ofW (cc := b) (maxL := n) (ret := r) hy rfl ?_
  intro p e s m args below meth c s₁ B hml hv
  obtain ⟨rfl, hsz, hP, hK, hJ, hST⟩ := hv
  subst hsz
  have hts := atoms_spec (ws := .code y b n r :: wA) B.pre
  have hl := lv_entry av (n := n) hn
  rw [lg_entry_eq]
  exact body p e s m _ below meth c _ ⟨B.exec, B.bytes, hml, findClass_of_methodNamed B.named, fun w hw => hts w (List.mem_cons_of_mem _ hw), B.notSynchronized, hK, hJ, hST⟩ B.returns ⟨hP, va_S.rf⟩ hl
theorem CMd.of {post : UInt64 → Mem → Prop} (hy : plainName y.cls = true) (hn : (lg_sl av).length ≤ n)
    (body : ∀ (p : Program) (e : Env) (s : State) (m : MethodId) (args : Array Value) (below : List Frame) (meth : Method) (c : Code) (ls : Array Slot), Fx p s m args meth c D ky ad ex b n y.cls → meth.sig.returnType = r → Cx D ky ad s S s.heap [] → lv_has ls n (lv_args 0 av) →
      W p l e rm s m args below meth c s.heap [] 0 0 (MQ below (va_Qd post (AFT D ky ad) (AW ad s.heap.size)) args s mc ms (AW ad s.heap.size)) (F0 m 0 ls [])) : CMd l D ky ad ex y b n r rm mc ms av S post :=
  fun sz => cm_of (Qc := fun z => va_Qd post (AFT D ky ad) (AW ad z)) hy hn body sz
theorem CMf.of {post : UInt32 → Mem → Prop} (hy : plainName y.cls = true) (hn : (lg_sl av).length ≤ n)
    (body : ∀ (p : Program) (e : Env) (s : State) (m : MethodId) (args : Array Value) (below : List Frame) (meth : Method) (c : Code) (ls : Array Slot), Fx p s m args meth c D ky ad ex b n y.cls → meth.sig.returnType = r → Cx D ky ad s S s.heap [] → lv_has ls n (lv_args 0 av) →
      W p l e rm s m args below meth c s.heap [] 0 0 (MQ below (va_Qf post (AFT D ky ad) (AW ad s.heap.size)) args s mc ms (AW ad s.heap.size)) (F0 m 0 ls [])) : CMf l D ky ad ex y b n r rm mc ms av S post :=
  fun sz => cm_of (Qc := fun z => va_Qf post (AFT D ky ad) (AW ad z)) hy hn body sz
theorem CXd.of {post : UInt64 → Mem → Prop} (hy : plainName y.cls = true) (hn : (lg_sl av).length ≤ n)
    (body : ∀ (p : Program) (e : Env) (s : State) (m : MethodId) (args : Array Value) (below : List Frame) (meth : Method) (c : Code) (ls : Array Slot), Fx p s m args meth c D ky ad ex b n y.cls → meth.sig.returnType = r → (∀ x ∈ c.exceptionTable.toList, False) → Cx D ky ad s S s.heap [] → lv_has ls n (lv_args 0 av) →
      W p l e rm s m args below meth c s.heap [] 0 0 (vx_MQ below (va_Qd post (AFT D ky ad) (AW ad s.heap.size)) (XPX D ky ad px (AW ad s.heap.size)) args s mc ms (AW ad s.heap.size)) (F0 m 0 ls [])) : CXd l D ky ad ex y b n r rm mc ms av S post px :=
  fun sz => vx_of (Qc := fun z => va_Qd post (AFT D ky ad) (AW ad z)) hy hn body sz
theorem CXf.of {post : UInt32 → Mem → Prop} (hy : plainName y.cls = true) (hn : (lg_sl av).length ≤ n)
    (body : ∀ (p : Program) (e : Env) (s : State) (m : MethodId) (args : Array Value) (below : List Frame) (meth : Method) (c : Code) (ls : Array Slot), Fx p s m args meth c D ky ad ex b n y.cls → meth.sig.returnType = r → (∀ x ∈ c.exceptionTable.toList, False) → Cx D ky ad s S s.heap [] → lv_has ls n (lv_args 0 av) →
      W p l e rm s m args below meth c s.heap [] 0 0 (vx_MQ below (va_Qf post (AFT D ky ad) (AW ad s.heap.size)) (XPX D ky ad px (AW ad s.heap.size)) args s mc ms (AW ad s.heap.size)) (F0 m 0 ls [])) : CXf l D ky ad ex y b n r rm mc ms av S post px :=
  fun sz => vx_of (Qc := fun z => va_Qf post (AFT D ky ad) (AW ad z)) hy hn body sz
end FB
section FR
variable {p : Program} {l : Launch} {e : Env} {R : Room} {s : State} {m : MethodId} {args : Array Value} {below : List Frame} {meth : Method} {c : Code} {H : Heap} {locs : List Loc} {cells slots : Nat} {Q : State → Prop} {cc : ByteArray} {pc nL : Nat} {ls : Array Slot} {own : String} {D : va_G} {ky : Nat → ClassId} {ad : Nat → Nat} {ex : Nat → Nat → Nat} {S : Mem}
theorem retD (F : Fx p s m args meth c D ky ad ex cc nL own) (hr : meth.sig.returnType = some .double) (C : Cx D ky ad s S H locs) {post : UInt64 → Mem → Prop} {v : UInt64} (hp : post v S) (d : decode cc pc = .ok (.dreturn, 1)) : W p l e R s m args below meth c H locs cells slots (MQ below (va_Qd post (AFT D ky ad) (AW ad s.heap.size)) args s cells slots (AW ad s.heap.size)) (F0 m pc ls [.double v]) :=
  W.dret F.x F.b hr (fun t ht hW => ⟨⟨v, S, rfl, hp, by rw [AFT, ht]; exact C.1⟩, C.2.F ht⟩) C.2.2.2 d F.lk
theorem retFl (F : Fx p s m args meth c D ky ad ex cc nL own) (hr : meth.sig.returnType = some .float) (C : Cx D ky ad s S H locs) {post : UInt32 → Mem → Prop} {v : UInt32} (hp : post v S) (d : decode cc pc = .ok (.freturn, 1)) : W p l e R s m args below meth c H locs cells slots (MQ below (va_Qf post (AFT D ky ad) (AW ad s.heap.size)) args s cells slots (AW ad s.heap.size)) (F0 m pc ls [.float v]) :=
  W.fret F.x F.b hr (fun t ht hW => ⟨⟨v, S, rfl, hp, by rw [AFT, ht]; exact C.1⟩, C.2.F ht⟩) C.2.2.2 d F.lk
end FR
