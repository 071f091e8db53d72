/-! THE LAW'S BODY: rules -/
def WH (own : String) (idx : Nat) (y : MethodName) (b : ByteArray) (n : Nat) (hh : List (Nat × Nat × Nat × Nat)) (k : Nat) : Prop :=
  Cond.methodLink own idx y ∈ wA ∧ Cond.static y ∈ wA ∧ Cond.initialized y.cls ∈ wA ∧ Cond.codeWith y b n (some .int) hh ∈ wA ∧ y.cls ≠ "java/lang/invoke/MethodHandle" ∧ y.cls ≠ "java/lang/invoke/VarHandle" ∧ (parseMethodDescriptor y.desc).map (fun d => d.parameters.length) = some k
theorem WH.good {own : String} {idx : Nat} {y : MethodName} {b : ByteArray} {n : Nat} {hh : List (Nat × Nat × Nat × Nat)} {k : Nat} (w : WH own idx y b n hh k) : GoodIn wA (va_wsS own idx y (.codeWith y b n (some .int) hh :: wA)) := by
  obtain ⟨h1, h2, h3, h4, -⟩ := w
  refine wA_good fun w hw => ?_
  simp only [va_wsS, List.mem_append, List.mem_cons, List.not_mem_nil, or_false] at hw
  rcases hw with (rfl | rfl | rfl) | rfl | h <;> assumption
section LR
variable {p : Program} {l : Launch} {e : Env} {R : Room} {s : State} {m : MethodId} {args : Array Value} {below : List Frame} {meth : Method} {c : Code} {H : Heap} {locs : List Loc} {cells slots : Nat} {Q : State → Prop} {cc : ByteArray} {pc nL : Nat} {ls : Array Slot} {rest : List Value} {own : String} {D : va_G} {ky : Nat → ClassId} {ad : Nat → Nat} {ex : Nat → Nat → Nat} {S : Mem} {A : Nat → Prop} {ao : Nat}
theorem lv_lcmpE (hexec : p.tables.exec = Jvm.exec) (hb : c.code = cc) {x y : Int64} (hdg : decode cc pc = .ok (.lcmp, 1)) (he : x = y)
    (k : W p l e R s m args below meth c H locs cells slots Q (F0 m (pc + 1) ls (.int 0 :: rest))) : W p l e R s m args below meth c H locs cells slots Q (F0 m pc ls (.long y :: .long x :: rest)) := by
  subst he
  have h1 : ¬ x > x := by
    intro h
    exact absurd h Int64.lt_irrefl
  intro T hT X
  obtain ⟨t, a, b⟩ := k T hT X
  refine ⟨t, ?_, b⟩
  jvm_step X.here [X.here.top, hexec, hb, hdg, Op.lcmp.sem, h1]
  exact a
theorem Cg.swap {x y : Nat × va_E} (C : Cg D ky ad s A S [x, y] H locs) : Cg D ky ad s A S [y, x] H locs := by
  refine ⟨C.1, fun k q hq => ?_, C.2.2.1, fun o ho z hz => C.2.2.2 o ho z ?_⟩
  · match k with
    | 0 => exact C.2.1 1 q hq
    | 1 => exact C.2.1 0 q hq
    | n + 2 => cases hq
  · rcases List.mem_cons.mp hz with rfl | hz
    · exact List.mem_cons_of_mem _ List.mem_cons_self
    · cases List.mem_singleton.mp hz
      exact List.mem_cons_self
theorem preH (F : Gx p s m args meth c D ky ad ex cc nL own A) (hao : A ao) {x : va_E} {z : Nat × va_E} (C : Cg D ky ad s A S [(ao, x), z] H locs) {As : List Value} : ∀ U : State, U.heap = H → s.WarmedH U.vm → va_Pc As (PREo D ky ad ex S H.size ao x) As.toArray U :=
  fun U hU hW => ⟨rfl, by rw [hU], by rw [hU]; exact C.1, by
    rw [hU]
    intro k q hq
    have hz : k < 1 := (List.getElem?_eq_some_iff.mp hq).1
    have hk : k = 0 := by omega
    subst hk
    exact C.2.1 0 q hq, fun o ho => C.2.2.2 o ho _ List.mem_cons_self, va_K.moved hW.alike F.K, F.J, ST.call F.st C.2.2.1 (fun q h => by
      rcases h with h | h
      · exact F.aw q (AW.sub C.2.2.1.1 q h)
      · rw [h]; exact hao) hU hW⟩
theorem gkH {τ : Type} {ce : τ → va_E} {f : τ} {z : Nat × va_E} (F : Gx p s m args meth c D ky ad ex cc nL own A) (hao : A ao) (hz : z.1 ≠ ao) (C : Cg D ky ad s A S [(ao, ce f), z] H locs) {lv : List (Nat × Value)} (hl : lv_has ls nL lv) {idx n mc ms : Nat} {y : MethodName} {b : ByteArray} {hh : List (Nat × Nat × Nat × Nat)} {rm : Room} {As : List Value} {post : Int32 → Mem → τ → Prop} (hM : CH l D ky ad ex y b n hh rm mc ms As S ao ce f post) (w : WH own idx y b n hh As.length) (hR : rm.cells = mc ∧ rm.slots = ms ∧ (rm.frames + 1 ≤ R.frames ∧ 8 + (n + 11) + rm.locals ≤ R.locals) ∧ (cells + mc ≤ R.cells ∧ slots + ms ≤ R.slots) ∧ (rest.map fun v => v.category).sum ≤ 8) {st0 : List Value} (hst : st0 = As.reverse ++ rest) (d : decode cc pc = .ok (.invokestatic idx, 3))
    (kk : ∀ (r : Int32) (S1 : Mem) (f1 : τ) (H1 : Heap) (locs1 : List Loc), post r S1 f1 → Cg D ky ad s A S1 [(ao, ce f1), z] H1 locs1 → W p l e R s m args below meth c H1 locs1 (cells + mc) (slots + ms) Q (F0 m (pc + 3) ls (.int r :: rest))) : W p l e R s m args below meth c H locs cells slots Q (F0 m pc ls st0) := by
  have hA : ∀ q, AWo ad H.size ao q → A q := fun q h => by
    rcases h with h | h
    · exact F.aw q (AW.sub C.2.2.1.1 q h)
    · rw [h]; exact hao
  refine vx_calli (vx_runSX (As := As) (rest := rest) ⟨F.x, F.b, F.ml, F.ow, F.ts⟩ (hM H.size) (vx_cwSW As.length F.ts w.good rfl hR.1 hR.2.1 w.2.2.2.2 hR.2.2.1) ⟨PREo.blind, preH F hao C⟩ rfl rfl hl.1 hst (lv_room hR.2.2.2.2) d hR.2.2.2.1) C.2.2.1 (fun q _ h => hA q h) hA (fun q _ h => hA q h)
    (fun E9 ce9 q9 u t H1 locs1 ht hvm hpu hB hz1 hk1 hS hcell hv hcl => hpu.elim)
    (fun r u t H1 locs1 ht hvm hw hB hz1 hk1 hS => kk r u.1 u.2 H1 locs1 hw ⟨by rw [← ht]; exact hB.1, fun k q hq => ?_, hS, fun o ho z' hz' => ?_⟩)
  · match k with
    | 0 =>
      cases hq
      rw [← ht]
      exact hB.2 0 _ rfl
    | 1 =>
      cases hq
      have hP1 : va_P D clv [z] H := by
        intro k q hq
        have h1 : k < 1 := (List.getElem?_eq_some_iff.mp hq).1
        have hk : k = 0 := by omega
        subst hk
        exact C.2.1 1 q hq
      refine (hP1.kept (H1 := H1) (fun k z' hz' => ?_)) 0 _ rfl
      have hl : z'.1 < H.size := (hP1 k z' hz').lt
      have h1 : k < 1 := (List.getElem?_eq_some_iff.mp hz').1
      have hk : k = 0 := by omega
      subst hk
      cases hz'
      refine hk1 z.1 hl (fun h => ?_)
      rcases h with (⟨o, ho, e⟩ | h) | h
      · exact C.2.2.2 o ho z (List.mem_cons_of_mem _ List.mem_cons_self) e.symm
      · omega
      · exact hz h
    | n + 2 => cases hq
  · rcases List.mem_cons.mp hz' with rfl | hz'
    · exact C.2.2.2 o ho (ao, ce f) List.mem_cons_self
    · exact C.2.2.2 o ho z' (List.mem_cons_of_mem _ hz')
theorem gSld (F : Gx p s m args meth c D ky ad ex cc nL own A) {E : va_W} (C : Cg D ky ad s A S E H locs) {b L : Nat} {xs : Nat → Int32} (hX : va_X b L xs s s.heap) (hbl : b < s.heap.size) (hbA : ¬ A b) {i x : Int32} (hin : vp_in i L) (hx : xs i.toNatClampNeg = x) (hdg : decode cc pc = .ok (.iaload, 1))
    (kk : W p l e R s m args below meth c H locs cells slots Q (F0 m (pc + 1) ls (.int x :: rest))) : W p l e R s m args below meth c H locs cells slots Q (F0 m pc ls (.int i :: .ref b :: rest)) := by
  subst hx
  exact va_sld F.x F.b hX hbl hbA C.2.2.1 hin hdg kk
theorem gLald (F : Gx p s m args meth c D ky ad ex cc nL own A) {f : Nat → Int64} {z : Nat × va_E} (C : Cg D ky ad s A S [(ao, lce ky f), z] H locs) (hdg : decode cc pc = .ok (.laload, 1))
    (kk : W p l e R s m args below meth c H locs cells slots Q (F0 m (pc + 1) ls (.long (f 0) :: rest))) : W p l e R s m args below meth c H locs cells slots Q (F0 m pc ls (.int 0 :: .ref ao :: rest)) :=
  va_lald F.x F.b F.K C.2.1 0 5 rfl rfl (by unfold vp_in; decide) hdg kk
theorem gDald (F : Gx p s m args meth c D ky ad ex cc nL own A) {g : Nat → UInt64} {z : Nat × va_E} {a2 : Nat} (C : Cg D ky ad s A S [z, (a2, dce ky g)] H locs) (hdg : decode cc pc = .ok (.daload, 1))
    (kk : W p l e R s m args below meth c H locs cells slots Q (F0 m (pc + 1) ls (.double (g 0) :: rest))) : W p l e R s m args below meth c H locs cells slots Q (F0 m pc ls (.int 0 :: .ref a2 :: rest)) :=
  va_dald F.x F.b F.K C.2.1 1 6 rfl rfl (by unfold vp_in; decide) hdg kk
end LR
/-- what stands through the law's loop: the frame, the script, the two cells' places -/
def Lx (p : Program) (s : State) (m : MethodId) (args : Array Value) (meth : Method) (c : Code) (D : va_G) (ky : Nat → ClassId) (ad : Nat → Nat) (ex : Nat → Nat → Nat) (b L : Nat) (xs : Nat → Int32) (ao a2 : Nat) : Prop :=
  Gx p s m args meth c D ky ad ex cL_law 9 "FordTollLaw" (fun q => s.heap.size ≤ q) ∧ va_X b L xs s s.heap ∧ b < s.heap.size ∧ s.heap.size ≤ ao ∧ s.heap.size ≤ a2 ∧ a2 ≠ ao
theorem Lx.F {p : Program} {s : State} {m : MethodId} {args : Array Value} {meth : Method} {c : Code} {D : va_G} {ky : Nat → ClassId} {ad : Nat → Nat} {ex : Nat → Nat → Nat} {b L : Nat} {xs : Nat → Int32} {ao a2 : Nat} (X : Lx p s m args meth c D ky ad ex b L xs ao a2) : Gx p s m args meth c D ky ad ex cL_law 9 "FordTollLaw" (fun q => s.heap.size ≤ q) := X.1
theorem Lx.X {p : Program} {s : State} {m : MethodId} {args : Array Value} {meth : Method} {c : Code} {D : va_G} {ky : Nat → ClassId} {ad : Nat → Nat} {ex : Nat → Nat → Nat} {b L : Nat} {xs : Nat → Int32} {ao a2 : Nat} (X : Lx p s m args meth c D ky ad ex b L xs ao a2) : va_X b L xs s s.heap := X.2.1
theorem Lx.bl {p : Program} {s : State} {m : MethodId} {args : Array Value} {meth : Method} {c : Code} {D : va_G} {ky : Nat → ClassId} {ad : Nat → Nat} {ex : Nat → Nat → Nat} {b L : Nat} {xs : Nat → Int32} {ao a2 : Nat} (X : Lx p s m args meth c D ky ad ex b L xs ao a2) : b < s.heap.size := X.2.2.1
theorem Lx.h1 {p : Program} {s : State} {m : MethodId} {args : Array Value} {meth : Method} {c : Code} {D : va_G} {ky : Nat → ClassId} {ad : Nat → Nat} {ex : Nat → Nat → Nat} {b L : Nat} {xs : Nat → Int32} {ao a2 : Nat} (X : Lx p s m args meth c D ky ad ex b L xs ao a2) : s.heap.size ≤ ao := X.2.2.2.1
theorem Lx.h2 {p : Program} {s : State} {m : MethodId} {args : Array Value} {meth : Method} {c : Code} {D : va_G} {ky : Nat → ClassId} {ad : Nat → Nat} {ex : Nat → Nat → Nat} {b L : Nat} {xs : Nat → Int32} {ao a2 : Nat} (X : Lx p s m args meth c D ky ad ex b L xs ao a2) : s.heap.size ≤ a2 := X.2.2.2.2.1
theorem Lx.ne {p : Program} {s : State} {m : MethodId} {args : Array Value} {meth : Method} {c : Code} {D : va_G} {ky : Nat → ClassId} {ad : Nat → Nat} {ex : Nat → Nat → Nat} {b L : Nat} {xs : Nat → Int32} {ao a2 : Nat} (X : Lx p s m args meth c D ky ad ex b L xs ao a2) : a2 ≠ ao := X.2.2.2.2.2
theorem Lx.nb {p : Program} {s : State} {m : MethodId} {args : Array Value} {meth : Method} {c : Code} {D : va_G} {ky : Nat → ClassId} {ad : Nat → Nat} {ex : Nat → Nat → Nat} {b L : Nat} {xs : Nat → Int32} {ao a2 : Nat} (X : Lx p s m args meth c D ky ad ex b L xs ao a2) : ¬ (fun q => s.heap.size ≤ q) b := Nat.not_le.mpr X.bl
