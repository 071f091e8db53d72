/-! THE WORDS' ENUM, literals, a reference that may be null -/
section WD
variable {p : Program} {l : Launch} {e : Env} {R : Room} {s : State} {m : MethodId} {args : Array Value} {below : List Frame} {meth : Method} {c : Code} {H : Heap} {locs : List Loc} {cells slots : Nat} {Q : State → Prop} {cc : ByteArray} {pc nL : Nat} {ls : Array Slot} {rest : List Value} {own : String} {D : va_G} {ky : Nat → ClassId} {ad : Nat → Nat} {ex : Nat → Nat → Nat} {S : Mem}
theorem Fx.wd (F : Fx p s m args meth c D ky ad ex cc nL own) {i : Nat} (hi : i < 10) : va_O sdW (ex 2 i) (AW ad s.heap.size) s s.heap ∧ va_OF sdW "spelling" "Ljava/lang/String;" (.ref (ex 0 i)) (ex 2 i) (AW ad s.heap.size) s s.heap ∧ va_OF sdW "what" "I" (.int (whW.getD i 0)) (ex 2 i) (AW ad s.heap.size) s s.heap ∧ va_OF sdW "number" "I" (.int (nuW.getD i 0)) (ex 2 i) (AW ad s.heap.size) s s.heap :=
  F.st.2.2.2.2.2.2.2.1 i hi
theorem Fx.words (F : Fx p s m args meth c D ky ad ex cc nL own) : va_T (.object sdW) (ex 3 0) 10 (fun i => .ref (ex 2 i)) (AW ad s.heap.size) s s.heap := F.st.2.2.2.2.2.2.2.2.2.1
theorem wdN (F : Fx p s m args meth c D ky ad ex cc nL own) {o n d9 ref host : String} {index q : Nat} {v : Value} (hE : va_OF o n d9 v q (AW ad s.heap.size) s s.heap) (hS : va_S (AW ad s.heap.size) s.heap H locs) (hl : Cond.fieldLinkNest own index ref n d9 host ∈ wN) (hsame : ∀ x, s.fieldFound? o n d9 = some x → s.fieldFound? ref n d9 = some x) (d : decode cc pc = .ok (.getfield index, 3))
    (kk : W p l e R s m args below meth c H locs cells slots Q (F0 m (pc + 3) ls (v :: rest))) : W p l e R s m args below meth c H locs cells slots Q (F0 m pc ls (.ref q :: rest)) := by
  obtain ⟨cf, k, fi, f, cell, h1, h2, h3, h4, h5, h6⟩ := hE.kept hS.2.1
  exact va_Wgetf F.x F.b F.ow (F.nw hl) (hsame _ h1) h2 h3 h4 (v := v) h5 rfl rfl d kk
theorem gWords (F : Fx p s m args meth c D ky ad ex cc nL own) (C : Cx D ky ad s S H locs) {index : Nat} (hl : Cond.fieldLinkNest own index "FordToll" "WORDS" "[LFordToll$Word;" "FordToll" ∈ wN) (d : decode cc pc = .ok (.getstatic index, 3))
    (kk : W p l e R s m args below meth c H locs cells slots Q (F0 m (pc + 3) ls (.ref (ex 3 0) :: rest))) : W p l e R s m args below meth c H locs cells slots Q (F0 m pc ls rest) :=
  va_getsN F.x F.b F.st.2.2.2.2.2.2.2.2.1 C.2 F.ow (F.nw hl) (fun _ h => h) d kk
theorem ldS (F : Fx p s m args meth c D ky ad ex cc nL "FordTollLaw") (i : Nat) (hi : i < 2) {idx : Nat} (his : kS.getD i 0 = idx) (d : decode cc pc = .ok (.ldc idx, 2))
    (kk : W p l e R s m args below meth c H locs cells slots Q (F0 m (pc + 2) ls (.ref (ex 0 (10 + i)) :: rest))) : W p l e R s m args below meth c H locs cells slots Q (F0 m pc ls rest) := by
  have hz := F.st.2.2.2.2.2.1 i hi
  rw [his] at hz
  exact va_ldcS F.x F.b F.ow hz d kk
end WD
def va_Qw {ex : Nat → Nat → Nat} (pn : Mem → Prop) (pw : Nat → Mem → Prop) (B : Mem → State → Prop) (A : Nat → Prop) : Array Value → State → Outcome → State → Prop := va_Qq (fun (r : Option Nat) (u : Mem) => (r = none ∧ pn u) ∨ ∃ i : Nat, i < 10 ∧ r = some (ex 2 i) ∧ pw i u) B A
def CMw (l : Launch) (D : va_G) (ky : Nat → ClassId) (ad : Nat → Nat) (ex : Nat → Nat → Nat) (y : MethodName) (b : ByteArray) (n : Nat) (r : Option FieldType) (rm : Room) (mc ms : Nat) (av : List Value) (S : Mem) (pn : Mem → Prop) (pw : Nat → Mem → Prop) : Prop :=
  ∀ sz : Nat, Met l y (.code y b n r :: wA) rm (va_Pc av (PRE D ky ad ex S sz)) (va_Qw (ex := ex) pn pw (AFT D ky ad) (AW ad sz)) mc ms (AW ad sz)
section WE
variable {l : Launch} {D : va_G} {ky : Nat → ClassId} {ad : Nat → Nat} {ex : Nat → Nat → Nat} {y : MethodName} {b : ByteArray} {n : Nat} {r : Option FieldType} {rm : Room} {mc ms : Nat} {av : List Value} {S : Mem}
theorem CMw.of {pn : Mem → Prop} {pw : Nat → Mem → Prop} (hy : plainName y.cls = true) (hn : (lg_sl av).length ≤ n)
    (body : ∀ (p : Program) (e : Env) (s : State) (m : MethodId) (args : Array Value) (below : List Frame) (meth : Method) (c : Code) (ls : Array Slot), Fx p s m args meth c D ky ad ex b n y.cls → meth.sig.returnType = r → Cx D ky ad s S s.heap [] → lv_has ls n (lv_args 0 av) →
      W p l e rm s m args below meth c s.heap [] 0 0 (MQ below (va_Qw (ex := ex) pn pw (AFT D ky ad) (AW ad s.heap.size)) args s mc ms (AW ad s.heap.size)) (F0 m 0 ls [])) : CMw l D ky ad ex y b n r rm mc ms av S pn pw := by
  intro sz
  refine Met.ofW (cc := b) (maxL := n) (ret := r) hy rfl ?_
  intro p e s m args below meth c s₁ B hml hv
  obtain ⟨rfl, hsz, hP, hK, hJ, hST⟩ := hv
  subst hsz
  have hts := atoms_spec (ws := .code y b n r :: wA) B.pre
  have hl := lv_entry av (n := n) hn
  rw [lg_entry_eq]
  exact body p e s m _ below meth c _ ⟨B.exec, B.bytes, hml, findClass_of_methodNamed B.named, fun w hw => hts w (List.mem_cons_of_mem _ hw), B.notSynchronized, hK, hJ, hST⟩ B.returns ⟨hP, va_S.rf⟩ hl
end WE
section WG
variable {p : Program} {l : Launch} {e : Env} {R : Room} {s : State} {m : MethodId} {args : Array Value} {below : List Frame} {meth : Method} {c : Code} {H : Heap} {locs : List Loc} {cells slots : Nat} {Q : State → Prop} {cc : ByteArray} {pc nL : Nat} {ls : Array Slot} {rest : List Value} {own : String} {D : va_G} {ky : Nat → ClassId} {ad : Nat → Nat} {ex : Nat → Nat → Nat} {S : Mem}
theorem retN (F : Fx p s m args meth c D ky ad ex cc nL own) {C9 : String} (hr : meth.sig.returnType = some (.object C9)) (C : Cx D ky ad s S H locs) {pn : Mem → Prop} {pw : Nat → Mem → Prop} (hp : pn S) (d : decode cc pc = .ok (.areturn, 1)) : W p l e R s m args below meth c H locs cells slots (MQ below (va_Qw (ex := ex) pn pw (AFT D ky ad) (AW ad s.heap.size)) args s cells slots (AW ad s.heap.size)) (F0 m pc ls [.null]) :=
  W.aret F.x F.b hr (Or.inl ⟨_, rfl⟩) (Or.inl rfl) (fun t ht hW => ⟨⟨none, S, rfl, Or.inl ⟨rfl, hp⟩, by rw [AFT, ht]; exact C.1⟩, C.2.F ht⟩) C.2.2.2 d F.lk
theorem retW (F : Fx p s m args meth c D ky ad ex cc nL own) {C9 : String} (hr : meth.sig.returnType = some (.object C9)) (C : Cx D ky ad s S H locs) {pn : Mem → Prop} {pw : Nat → Mem → Prop} {i : Nat} (hi : i < 10) (hp : pw i S) (d : decode cc pc = .ok (.areturn, 1)) : W p l e R s m args below meth c H locs cells slots (MQ below (va_Qw (ex := ex) pn pw (AFT D ky ad) (AW ad s.heap.size)) args s cells slots (AW ad s.heap.size)) (F0 m pc ls [.ref (ex 2 i)]) :=
  W.aret F.x F.b hr (Or.inl ⟨_, rfl⟩) (Or.inr ⟨_, rfl⟩) (fun t ht hW => ⟨⟨some (ex 2 i), S, rfl, Or.inr ⟨i, hi, rfl, hp⟩, by rw [AFT, ht]; exact C.1⟩, C.2.F ht⟩) C.2.2.2 d F.lk
theorem kW (F : Fx p s m args meth c D ky ad ex cc nL own) (C : Cx D ky ad s S H locs) {lv : List (Nat × Value)} (hl : lv_has ls nL lv) {o ci N idx n mc ms : Nat} {y : MethodName} {b : ByteArray} {r : Option FieldType} {rm : Room} {As : List Value} {pn : Mem → Prop} {pw : Nat → Mem → Prop} (hM : CMw l D ky ad ex y b n r rm mc ms (.ref (ad o) :: As) S pn pw) (ho : o < 117) {fs : List Value} {Cn : String} {T : u_T} (hc : celr ky ad o (S (tg o) (ix o)) = .inr (ci, fs)) (hcl : clv[ci]? = some (Cn, T, N)) (w : WV own Cn idx y b n r As.length) (hR : rm.cells = mc ∧ rm.slots = ms ∧ (rm.frames + 1 ≤ R.frames ∧ 8 + (n + 11) + rm.locals ≤ R.locals) ∧ (cells + mc ≤ R.cells ∧ slots + ms ≤ R.slots) ∧ (rest.map fun v => v.category).sum ≤ 8) {st0 : List Value} (hst : st0 = As.reverse ++ .ref (ad o) :: rest) (d : decode cc pc = .ok (.invokevirtual idx, 3))
    (kn : ∀ (S1 : Mem) (H1 : Heap) (locs1 : List Loc), pn S1 → Cx D ky ad s S1 H1 locs1 → W p l e R s m args below meth c H1 locs1 (cells + mc) (slots + ms) Q (F0 m (pc + 3) ls (.null :: rest)))
    (kw : ∀ (i : Nat) (S1 : Mem) (H1 : Heap) (locs1 : List Loc), i < 10 → pw i S1 → Cx D ky ad s S1 H1 locs1 → W p l e R s m args below meth c H1 locs1 (cells + mc) (slots + ms) Q (F0 m (pc + 3) ls (.ref (ex 2 i) :: rest))) : W p l e R s m args below meth c H locs cells slots Q (F0 m pc ls st0) :=
  va_callq (va_runV (As := As) (rest := rest) ⟨F.x, F.b, F.ml, F.ow, F.ts⟩ (hM H.size) (cwV As.length F.ts w.good rfl hR.1 hR.2.1 w.2.2.2.2.2 hR.2.2.1) ⟨PRE.blind, va_recv F.K C.1 hcl (q0 := o) (by rw [WS_at ho, hc]), preV F C⟩ rfl rfl hl.1 hst (lv_room hR.2.2.2.2) d hR.2.2.2.1) C.2 (fun q _ h => AW.sub C.2.1 q h) (AW.sub C.2.1) (fun r u t H1 locs1 ht hvm hw hB hz1 hk1 hS => by
    rcases hw with ⟨rfl, hp⟩ | ⟨i, hi, rfl, hp⟩
    · exact kn u H1 locs1 hp ⟨by rw [← ht]; exact hB, hS⟩
    · exact kw i u H1 locs1 hi hp ⟨by rw [← ht]; exact hB, hS⟩)
end WG
def rO2 (d : Nat) : Room := { frames := 4 * d + 20, cells := 0, slots := 0, locals := 100 * d + 1000 }
def rP2 (d : Nat) : Room := { frames := 4 * d + 21, cells := 0, slots := 0, locals := 100 * d + 1030 }
def rQ2 (d : Nat) : Room := { frames := 4 * d + 22, cells := 0, slots := 0, locals := 100 * d + 1060 }
def rO6 (d : Nat) : Room := { frames := 4 * d + 20, cells := 0, slots := 0, locals := 100 * d + 1000 }
def rP6 (d : Nat) : Room := { frames := 4 * d + 21, cells := 0, slots := 0, locals := 100 * d + 1030 }
def rQ6 (d : Nat) : Room := { frames := 4 * d + 22, cells := 0, slots := 0, locals := 100 * d + 1060 }
