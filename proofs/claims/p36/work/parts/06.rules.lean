/-! ROWS over the memory: fields, arrays, calls, ends -/
def isB (x : Int32) : Prop := x = 0 ∨ x = 1
def isC (x : Int32) : Prop := narrow .char (.int x) = .int x
theorem isB.n {x : Int32} (h : isB x) : narrow .boolean (.int x) = .int x := by rcases h with rfl | rfl <;> rfl
theorem isB.f {x : Int32} (h : isB x) : fits .boolean (.int x) = true := by rcases h with rfl | rfl <;> rfl
theorem isB.v {x : Int32} (h : isB x) : vp_nar .boolean x = x := by rcases h with rfl | rfl <;> rfl
theorem isC.v {x : Int32} (h : isC x) : vp_nar .char x = x := by
  unfold vp_nar; rw [show narrow .char (.int x) = .int x from h]
theorem TX0_1 : ∀ k, (TX0 k).1 = "FordToll$Ford" := by intro k; unfold TX0; split <;> rfl
theorem TX1_1 : ∀ k, (TX1 k).1 = "FordToll$History" := by intro k; unfold TX1; split <;> rfl
theorem TX2_1 : ∀ k, (TX2 k).1 = "FordToll$Question" := by intro k; unfold TX2; split <;> rfl
theorem TX3_1 : ∀ k, (TX3 k).1 = "FordToll$Traveller" := by intro k; unfold TX3; split <;> rfl
theorem TX5_1 : ∀ k, (TX5 k).1 = "FordToll" := by intro k; unfold TX5; split <;> rfl
theorem mtI : Cond.initialized "java/lang/Math" ∈ wA := q1_11
theorem mnS : Cond.static Lib.Math.min.name ∈ wA := q2_170
theorem mnC : Cond.code Lib.Math.min.name Lib.Math.min.code 2 (some .int) ∈ wA := q2_171
theorem mxS : Cond.static Lib.Math.max.name ∈ wA := q2_190
theorem mxC : Cond.code Lib.Math.max.name Lib.Math.max.code 2 (some .int) ∈ wA := q2_191
section RU
variable {p : Program} {l : Launch} {e : Env} {R : Room} {s : State} {m : MethodId} {args : Array Value} {below : List Frame} {meth : Method} {c : Code} {H : Heap} {locs : List Loc} {cells slots : Nat} {Q : State → Prop} {cc : ByteArray} {pc nL : Nat} {ls : Array Slot} {rest : List Value} {own : String} {D : va_G} {ky : Nat → ClassId} {ad : Nat → Nat} {ex : Nat → Nat → Nat} {S : Mem}
theorem Fx.x (F : Fx p s m args meth c D ky ad ex cc nL own) : p.tables.exec = Jvm.exec := F.1
theorem Fx.b (F : Fx p s m args meth c D ky ad ex cc nL own) : c.code = cc := F.2.1
theorem Fx.ml (F : Fx p s m args meth c D ky ad ex cc nL own) : c.maxLocals = nL := F.2.2.1
theorem Fx.ow (F : Fx p s m args meth c D ky ad ex cc nL own) : s.vm.findClass own = some m.cls := F.2.2.2.1
theorem Fx.ts (F : Fx p s m args meth c D ky ad ex cc nL own) : ∀ w ∈ wA, w.before args s = true := F.2.2.2.2.1
theorem Fx.lk (F : Fx p s m args meth c D ky ad ex cc nL own) : meth.locks = false := F.2.2.2.2.2.1
theorem Fx.K (F : Fx p s m args meth c D ky ad ex cc nL own) : va_K D clv (TYS ky) s := F.2.2.2.2.2.2.1
theorem Fx.J (F : Fx p s m args meth c D ky ad ex cc nL own) : INJ ad := F.2.2.2.2.2.2.2.1
theorem Fx.st (F : Fx p s m args meth c D ky ad ex cc nL own) : ST ex (AW ad s.heap.size) s s.heap := F.2.2.2.2.2.2.2.2
theorem Fx.nw (F : Fx p s m args meth c D ky ad ex cc nL own) {w : Cond} (h : w ∈ wN) : w.before args s = true := va_Nw.use (wN_on h) (F.st.1 w h)
theorem getO (F : Fx p s m args meth c D ky ad ex cc nL own) (C : Cx D ky ad s S H locs) {o cq iq ci N : Nat} (ho : o < 117) (ht : tg o = cq) (hi : ix o = iq) {fs : List Value} (hc : celr ky ad o (S cq iq) = .inr (ci, fs)) {Cn ref : String} {T : u_T} (hcl : clv[ci]? = some (Cn, T, N)) (hin : ∀ w ∈ u_ws Cn T N, w ∈ wA) (k : Nat) (hk : k < N) {idx : Nat} (hl : Cond.fieldLink own idx ref (T k).2.1 (T k).2.2.1 ∈ wA) (hre : (T k).1 = ref) {v : Value} (hv : fs[k]? = some v) (d : decode cc pc = .ok (.getfield idx, 3))
    (kk : W p l e R s m args below meth c H locs cells slots Q (F0 m (pc + 3) ls (v :: rest))) : W p l e R s m args below meth c H locs cells slots Q (F0 m pc ls (.ref (ad o) :: rest)) :=
  va_get F.x F.b F.ts hin F.ow F.K C.1 o (by rw [WS_at ho, ht, hi, hc]) hcl k hk (F.ts _ hl) (fun _ h9 => by rw [← hre]; exact h9) hv d kk
theorem getON (F : Fx p s m args meth c D ky ad ex cc nL own) (C : Cx D ky ad s S H locs) {o cq iq ci N : Nat} (ho : o < 117) (ht : tg o = cq) (hi : ix o = iq) {fs : List Value} (hc : celr ky ad o (S cq iq) = .inr (ci, fs)) {Cn ref host : String} {T : u_T} (hcl : clv[ci]? = some (Cn, T, N)) (hin : ∀ w ∈ u_ws Cn T N, w ∈ wA) (k : Nat) (hk : k < N) {idx : Nat} (hl : Cond.fieldLinkNest own idx ref (T k).2.1 (T k).2.2.1 host ∈ wN) (hre : (T k).1 = ref) {v : Value} (hv : fs[k]? = some v) (d : decode cc pc = .ok (.getfield idx, 3))
    (kk : W p l e R s m args below meth c H locs cells slots Q (F0 m (pc + 3) ls (v :: rest))) : W p l e R s m args below meth c H locs cells slots Q (F0 m pc ls (.ref (ad o) :: rest)) :=
  va_getN F.x F.b F.ts hin F.ow F.K C.1 o (by rw [WS_at ho, ht, hi, hc]) hcl k hk (F.nw hl) (fun _ h9 => by rw [← hre]; exact h9) hv d kk
theorem putO (F : Fx p s m args meth c D ky ad ex cc nL own) (C : Cx D ky ad s S H locs) {o cq iq ci N : Nat} (ho : o < 117) (ht : tg o = cq) (hi : ix o = iq) {fs : List Value} (hc : celr ky ad o (S cq iq) = .inr (ci, fs)) {Cn ref : String} {T : u_T} (hcl : clv[ci]? = some (Cn, T, N)) (hin : ∀ w ∈ u_ws Cn T N, w ∈ wA) (ty0 : Nat → FieldType) (hty : ∀ k, k < N → parseFieldDescriptor (T k).2.2.1 = some (ty0 k)) (hnm : ∀ a, a < N → ∀ b, b < N → a ≠ b → (T a).2.1 ≠ (T b).2.1) (k : Nat) (hk : k < N) {idx : Nat} (hl : Cond.fieldLink own idx ref (T k).2.1 (T k).2.2.1 ∈ wA) (hre : (T k).1 = ref) (hf : (T k).2.2.2 = false) {ty : FieldType} {x : Int32} (hd : parseFieldDescriptor (T k).2.2.1 = some ty) (hn : narrow ty (.int x) = .int x) (hfit : fits ty (.int x) = true) (hlen : fs.length = N) (hs : celr ky ad o (upd (S cq iq) k x) = .inr (ci, fs.set k (.int x))) (d : decode cc pc = .ok (.putfield idx, 3))
    (kk : ∀ (H1 : Heap) (locs1 : List Loc), Cx D ky ad s (wr S cq iq k x) H1 locs1 → W p l e R s m args below meth c H1 locs1 cells slots Q (F0 m (pc + 3) ls rest)) : W p l e R s m args below meth c H locs cells slots Q (F0 m pc ls (.int x :: .ref (ad o) :: rest)) := by
  refine va_put F.x F.b F.ts hin ty0 hty hnm F.ow F.K C.1 (WS_D F.J) C.2 o (by rw [WS_at ho, ht, hi, hc]) hcl k hk (F.ts _ hl) (fun _ h9 => by rw [← hre]; exact h9) hf hd hn hfit (by rw [hlen]; exact hk) d (fun H1 locs1 hP hD hS => kk H1 locs1 ⟨?_, hS⟩)
  subst ht; subst hi
  rw [← hs, WS_wr ho] at hP
  exact hP
theorem putON (F : Fx p s m args meth c D ky ad ex cc nL own) (C : Cx D ky ad s S H locs) {o cq iq ci N : Nat} (ho : o < 117) (ht : tg o = cq) (hi : ix o = iq) {fs : List Value} (hc : celr ky ad o (S cq iq) = .inr (ci, fs)) {Cn ref host : String} {T : u_T} (hcl : clv[ci]? = some (Cn, T, N)) (hin : ∀ w ∈ u_ws Cn T N, w ∈ wA) (ty0 : Nat → FieldType) (hty : ∀ k, k < N → parseFieldDescriptor (T k).2.2.1 = some (ty0 k)) (hnm : ∀ a, a < N → ∀ b, b < N → a ≠ b → (T a).2.1 ≠ (T b).2.1) (k : Nat) (hk : k < N) {idx : Nat} (hl : Cond.fieldLinkNest own idx ref (T k).2.1 (T k).2.2.1 host ∈ wN) (hre : (T k).1 = ref) (hf : (T k).2.2.2 = false) {ty : FieldType} {x : Int32} (hd : parseFieldDescriptor (T k).2.2.1 = some ty) (hn : narrow ty (.int x) = .int x) (hfit : fits ty (.int x) = true) (hlen : fs.length = N) (hs : celr ky ad o (upd (S cq iq) k x) = .inr (ci, fs.set k (.int x))) (d : decode cc pc = .ok (.putfield idx, 3))
    (kk : ∀ (H1 : Heap) (locs1 : List Loc), Cx D ky ad s (wr S cq iq k x) H1 locs1 → W p l e R s m args below meth c H1 locs1 cells slots Q (F0 m (pc + 3) ls rest)) : W p l e R s m args below meth c H locs cells slots Q (F0 m pc ls (.int x :: .ref (ad o) :: rest)) := by
  refine va_putN F.x F.b F.ts hin ty0 hty hnm F.ow F.K C.1 (WS_D F.J) C.2 o (by rw [WS_at ho, ht, hi, hc]) hcl k hk (F.nw hl) (fun _ h9 => by rw [← hre]; exact h9) hf hd hn hfit (by rw [hlen]; exact hk) d (fun H1 locs1 hP hD hS => kk H1 locs1 ⟨?_, hS⟩)
  subst ht; subst hi
  rw [← hs, WS_wr ho] at hP
  exact hP
theorem aldI (F : Fx p s m args meth c D ky ad ex cc nL own) (C : Cx D ky ad s S H locs) {o cq iq n : Nat} (ho : o < 117) (ht : tg o = cq) (hi : ix o = iq) (hc : celr ky ad o (S cq iq) = .inl (ky 1, n, .inl (S cq iq))) {i : Int32} (hin : vp_in i n) (d : decode cc pc = .ok (.iaload, 1))
    (kk : W p l e R s m args below meth c H locs cells slots Q (F0 m (pc + 1) ls (.int (S cq iq i.toNatClampNeg) :: rest))) : W p l e R s m args below meth c H locs cells slots Q (F0 m pc ls (.int i :: .ref (ad o) :: rest)) :=
  va_iald F.x F.b F.K C.1 o 1 (by rw [WS_at ho, ht, hi, hc]) rfl hin d kk
theorem aldC (F : Fx p s m args meth c D ky ad ex cc nL own) (C : Cx D ky ad s S H locs) {o cq iq n : Nat} (ho : o < 117) (ht : tg o = cq) (hi : ix o = iq) (hc : celr ky ad o (S cq iq) = .inl (ky 0, n, .inl (S cq iq))) {i : Int32} (hin : vp_in i n) (d : decode cc pc = .ok (.caload, 1))
    (kk : W p l e R s m args below meth c H locs cells slots Q (F0 m (pc + 1) ls (.int (S cq iq i.toNatClampNeg) :: rest))) : W p l e R s m args below meth c H locs cells slots Q (F0 m pc ls (.int i :: .ref (ad o) :: rest)) :=
  va_cald F.x F.b F.K C.1 o 0 (by rw [WS_at ho, ht, hi, hc]) rfl hin d kk
theorem astI (F : Fx p s m args meth c D ky ad ex cc nL own) (C : Cx D ky ad s S H locs) {o cq iq n : Nat} (ho : o < 117) (ht : tg o = cq) (hi : ix o = iq) (hc : ∀ r, celr ky ad o r = .inl (ky 1, n, .inl r)) {i x : Int32} (hin : vp_in i n) (d : decode cc pc = .ok (.iastore, 1))
    (kk : ∀ (H1 : Heap) (locs1 : List Loc), Cx D ky ad s (wr S cq iq i.toNatClampNeg x) H1 locs1 → W p l e R s m args below meth c H1 locs1 cells slots Q (F0 m (pc + 1) ls rest)) : W p l e R s m args below meth c H locs cells slots Q (F0 m pc ls (.int x :: .int i :: .ref (ad o) :: rest)) := by
  refine va_iast F.x F.b F.K C.1 (WS_D F.J) C.2 o 1 (by rw [WS_at ho, ht, hi, hc]) rfl hin d (fun H1 locs1 hP hD hS => kk H1 locs1 ⟨?_, hS⟩)
  subst ht; subst hi
  rw [← hc, WS_wr ho] at hP
  exact hP
theorem astC (F : Fx p s m args meth c D ky ad ex cc nL own) (C : Cx D ky ad s S H locs) {o cq iq n : Nat} (ho : o < 117) (ht : tg o = cq) (hi : ix o = iq) (hc : ∀ r, celr ky ad o r = .inl (ky 0, n, .inl r)) {i x : Int32} (hin : vp_in i n) (hx : isC x) (d : decode cc pc = .ok (.castore, 1))
    (kk : ∀ (H1 : Heap) (locs1 : List Loc), Cx D ky ad s (wr S cq iq i.toNatClampNeg x) H1 locs1 → W p l e R s m args below meth c H1 locs1 cells slots Q (F0 m (pc + 1) ls rest)) : W p l e R s m args below meth c H locs cells slots Q (F0 m pc ls (.int x :: .int i :: .ref (ad o) :: rest)) := by
  refine va_cast F.x F.b F.K C.1 (WS_D F.J) C.2 o 0 (by rw [WS_at ho, ht, hi, hc]) rfl hin d (fun H1 locs1 hP hD hS => kk H1 locs1 ⟨?_, hS⟩)
  subst ht; subst hi
  rw [hx.v, ← hc, WS_wr ho] at hP
  exact hP
theorem tv_lt {j : Nat} {i : Int32} (h : vp_in i 8) (hj : j < 10) : 8 * j + i.toNatClampNeg < 80 := by
  have h2 : i.toNatClampNeg < 8 := Nat.not_le.mp fun q => h (Or.inr q)
  omega
theorem bf_lt {i : Int32} (h : vp_in i 8) : i.toNatClampNeg + 1 < 10 := by
  have h2 : i.toNatClampNeg < 8 := Nat.not_le.mp fun q => h (Or.inr q)
  omega
/-- travellers[i] of the ford j -/
theorem aldT (F : Fx p s m args meth c D ky ad ex cc nL own) (C : Cx D ky ad s S H locs) {j : Nat} (hj : j < 10) {i : Int32} (hin : vp_in i 8) (d : decode cc pc = .ok (.aaload, 1))
    (kk : W p l e R s m args below meth c H locs cells slots Q (F0 m (pc + 1) ls (.ref (ad (20 + (8 * j + i.toNatClampNeg))) :: rest))) : W p l e R s m args below meth c H locs cells slots Q (F0 m pc ls (.int i :: .ref (ad (100 + j)) :: rest)) :=
  va_aldq F.x F.b F.K C.1 (100 + j) 4 (f := fun t => some (ad (20 + (8 * j + t)))) (by rw [WS_at (by omega), ce_A hj]) rfl hin d kk
/-- before[i] -/
theorem aldF (F : Fx p s m args meth c D ky ad ex cc nL own) (C : Cx D ky ad s S H locs) {i : Int32} (hin : vp_in i 8) (d : decode cc pc = .ok (.aaload, 1))
    (kk : W p l e R s m args below meth c H locs cells slots Q (F0 m (pc + 1) ls (.ref (ad (i.toNatClampNeg + 1)) :: rest))) : W p l e R s m args below meth c H locs cells slots Q (F0 m pc ls (.int i :: .ref (ad 112) :: rest)) :=
  va_aldq F.x F.b F.K C.1 112 3 (f := fun t => some (ad (t + 1))) (by rw [WS_at (by decide)]; rfl) rfl hin d kk
/-! by class -/
theorem getF (F : Fx p s m args meth c D ky ad ex cc nL own) (C : Cx D ky ad s S H locs) {j : Nat} (hj : j < 10) (k : Nat) (hk : k < 12) {idx : Nat} (hl : Cond.fieldLink own idx "FordToll$Ford" (TX0 k).2.1 (TX0 k).2.2.1 ∈ wA) {v : Value} (hv : (fsF ad j (S 0 j))[k]? = some v) (d : decode cc pc = .ok (.getfield idx, 3))
    (kk : W p l e R s m args below meth c H locs cells slots Q (F0 m (pc + 3) ls (v :: rest))) : W p l e R s m args below meth c H locs cells slots Q (F0 m pc ls (.ref (ad j) :: rest)) :=
  getO F C (by omega) (tg_F hj) (ix_F hj) (ce_F hj _) rfl inA0 k hk hl (TX0_1 k) hv d kk
theorem getFN (F : Fx p s m args meth c D ky ad ex cc nL own) (C : Cx D ky ad s S H locs) {j : Nat} (hj : j < 10) (k : Nat) (hk : k < 12) {idx : Nat} (hl : Cond.fieldLinkNest own idx "FordToll$Ford" (TX0 k).2.1 (TX0 k).2.2.1 "FordToll" ∈ wN) {v : Value} (hv : (fsF ad j (S 0 j))[k]? = some v) (d : decode cc pc = .ok (.getfield idx, 3))
    (kk : W p l e R s m args below meth c H locs cells slots Q (F0 m (pc + 3) ls (v :: rest))) : W p l e R s m args below meth c H locs cells slots Q (F0 m pc ls (.ref (ad j) :: rest)) :=
  getON F C (by omega) (tg_F hj) (ix_F hj) (ce_F hj _) rfl inA0 k hk hl (TX0_1 k) hv d kk
theorem getT (F : Fx p s m args meth c D ky ad ex cc nL own) (C : Cx D ky ad s S H locs) {j : Nat} (hj : j < 80) (k : Nat) (hk : k < 8) {idx : Nat} (hl : Cond.fieldLink own idx "FordToll$Traveller" (TX3 k).2.1 (TX3 k).2.2.1 ∈ wA) {v : Value} (hv : (fsT (S 2 j))[k]? = some v) (d : decode cc pc = .ok (.getfield idx, 3))
    (kk : W p l e R s m args below meth c H locs cells slots Q (F0 m (pc + 3) ls (v :: rest))) : W p l e R s m args below meth c H locs cells slots Q (F0 m pc ls (.ref (ad (20 + j)) :: rest)) :=
  getO F C (by omega) (tg_T hj) (ix_T hj) (ce_T hj _) rfl inA3 k hk hl (TX3_1 k) hv d kk
theorem getTN (F : Fx p s m args meth c D ky ad ex cc nL own) (C : Cx D ky ad s S H locs) {j : Nat} (hj : j < 80) (k : Nat) (hk : k < 8) {idx : Nat} (hl : Cond.fieldLinkNest own idx "FordToll$Traveller" (TX3 k).2.1 (TX3 k).2.2.1 "FordToll" ∈ wN) {v : Value} (hv : (fsT (S 2 j))[k]? = some v) (d : decode cc pc = .ok (.getfield idx, 3))
    (kk : W p l e R s m args below meth c H locs cells slots Q (F0 m (pc + 3) ls (v :: rest))) : W p l e R s m args below meth c H locs cells slots Q (F0 m pc ls (.ref (ad (20 + j)) :: rest)) :=
  getON F C (by omega) (tg_T hj) (ix_T hj) (ce_T hj _) rfl inA3 k hk hl (TX3_1 k) hv d kk
theorem getX (F : Fx p s m args meth c D ky ad ex cc nL own) (C : Cx D ky ad s S H locs) (k : Nat) (hk : k < 12) {idx : Nat} (hl : Cond.fieldLink own idx "FordToll" (TX5 k).2.1 (TX5 k).2.2.1 ∈ wA) {v : Value} (hv : (fsX ad (S 3 0))[k]? = some v) (d : decode cc pc = .ok (.getfield idx, 3))
    (kk : W p l e R s m args below meth c H locs cells slots Q (F0 m (pc + 3) ls (v :: rest))) : W p l e R s m args below meth c H locs cells slots Q (F0 m pc ls (.ref (ad 110) :: rest)) :=
  getO F C (o := 110) (by omega) rfl rfl rfl rfl inA5 k hk hl (TX5_1 k) hv d kk
theorem getI (F : Fx p s m args meth c D ky ad ex cc nL own) (C : Cx D ky ad s S H locs) (k : Nat) (hk : k < 3) {idx : Nat} (hl : Cond.fieldLink own idx "FordToll$History" (TX1 k).2.1 (TX1 k).2.2.1 ∈ wA) {v : Value} (hv : (fsI ad (S 4 0))[k]? = some v) (d : decode cc pc = .ok (.getfield idx, 3))
    (kk : W p l e R s m args below meth c H locs cells slots Q (F0 m (pc + 3) ls (v :: rest))) : W p l e R s m args below meth c H locs cells slots Q (F0 m pc ls (.ref (ad 111) :: rest)) :=
  getO F C (o := 111) (by omega) rfl rfl rfl rfl inA1 k hk hl (TX1_1 k) hv d kk
theorem getIN (F : Fx p s m args meth c D ky ad ex cc nL own) (C : Cx D ky ad s S H locs) (k : Nat) (hk : k < 3) {idx : Nat} (hl : Cond.fieldLinkNest own idx "FordToll$History" (TX1 k).2.1 (TX1 k).2.2.1 "FordToll" ∈ wN) {v : Value} (hv : (fsI ad (S 4 0))[k]? = some v) (d : decode cc pc = .ok (.getfield idx, 3))
    (kk : W p l e R s m args below meth c H locs cells slots Q (F0 m (pc + 3) ls (v :: rest))) : W p l e R s m args below meth c H locs cells slots Q (F0 m pc ls (.ref (ad 111) :: rest)) :=
  getON F C (o := 111) (by omega) rfl rfl rfl rfl inA1 k hk hl (TX1_1 k) hv d kk
theorem getQ (F : Fx p s m args meth c D ky ad ex cc nL own) (C : Cx D ky ad s S H locs) (k : Nat) (hk : k < 4) {idx : Nat} (hl : Cond.fieldLink own idx "FordToll$Question" (TX2 k).2.1 (TX2 k).2.2.1 ∈ wA) {v : Value} (hv : (fsQ ad (S 6 0))[k]? = some v) (d : decode cc pc = .ok (.getfield idx, 3))
    (kk : W p l e R s m args below meth c H locs cells slots Q (F0 m (pc + 3) ls (v :: rest))) : W p l e R s m args below meth c H locs cells slots Q (F0 m pc ls (.ref (ad 113) :: rest)) :=
  getO F C (o := 113) (by omega) rfl rfl rfl rfl inA2 k hk hl (TX2_1 k) hv d kk
theorem getQN (F : Fx p s m args meth c D ky ad ex cc nL own) (C : Cx D ky ad s S H locs) (k : Nat) (hk : k < 4) {idx : Nat} (hl : Cond.fieldLinkNest own idx "FordToll$Question" (TX2 k).2.1 (TX2 k).2.2.1 "FordToll" ∈ wN) {v : Value} (hv : (fsQ ad (S 6 0))[k]? = some v) (d : decode cc pc = .ok (.getfield idx, 3))
    (kk : W p l e R s m args below meth c H locs cells slots Q (F0 m (pc + 3) ls (v :: rest))) : W p l e R s m args below meth c H locs cells slots Q (F0 m pc ls (.ref (ad 113) :: rest)) :=
  getON F C (o := 113) (by omega) rfl rfl rfl rfl inA2 k hk hl (TX2_1 k) hv d kk
theorem putF (F : Fx p s m args meth c D ky ad ex cc nL own) (C : Cx D ky ad s S H locs) {j : Nat} (hj : j < 10) (k : Nat) (hk : k < 12) {idx : Nat} (hl : Cond.fieldLink own idx "FordToll$Ford" (TX0 k).2.1 (TX0 k).2.2.1 ∈ wA) (hf : (TX0 k).2.2.2 = false) {ty : FieldType} {x : Int32} (hd : parseFieldDescriptor (TX0 k).2.2.1 = some ty) (hn : narrow ty (.int x) = .int x) (hfit : fits ty (.int x) = true) (hs : fsF ad j (upd (S 0 j) k x) = (fsF ad j (S 0 j)).set k (.int x)) (d : decode cc pc = .ok (.putfield idx, 3))
    (kk : ∀ (H1 : Heap) (locs1 : List Loc), Cx D ky ad s (wr S 0 j k x) H1 locs1 → W p l e R s m args below meth c H1 locs1 cells slots Q (F0 m (pc + 3) ls rest)) : W p l e R s m args below meth c H locs cells slots Q (F0 m pc ls (.int x :: .ref (ad j) :: rest)) :=
  putO F C (by omega) (tg_F hj) (ix_F hj) (ce_F hj _) rfl inA0 tyX0 tyX0_ok nmX0 k hk hl (TX0_1 k) hf hd hn hfit rfl (by rw [ce_F hj, hs]) d kk
theorem putFN (F : Fx p s m args meth c D ky ad ex cc nL own) (C : Cx D ky ad s S H locs) {j : Nat} (hj : j < 10) (k : Nat) (hk : k < 12) {idx : Nat} (hl : Cond.fieldLinkNest own idx "FordToll$Ford" (TX0 k).2.1 (TX0 k).2.2.1 "FordToll" ∈ wN) (hf : (TX0 k).2.2.2 = false) {ty : FieldType} {x : Int32} (hd : parseFieldDescriptor (TX0 k).2.2.1 = some ty) (hn : narrow ty (.int x) = .int x) (hfit : fits ty (.int x) = true) (hs : fsF ad j (upd (S 0 j) k x) = (fsF ad j (S 0 j)).set k (.int x)) (d : decode cc pc = .ok (.putfield idx, 3))
    (kk : ∀ (H1 : Heap) (locs1 : List Loc), Cx D ky ad s (wr S 0 j k x) H1 locs1 → W p l e R s m args below meth c H1 locs1 cells slots Q (F0 m (pc + 3) ls rest)) : W p l e R s m args below meth c H locs cells slots Q (F0 m pc ls (.int x :: .ref (ad j) :: rest)) :=
  putON F C (by omega) (tg_F hj) (ix_F hj) (ce_F hj _) rfl inA0 tyX0 tyX0_ok nmX0 k hk hl (TX0_1 k) hf hd hn hfit rfl (by rw [ce_F hj, hs]) d kk
theorem putT (F : Fx p s m args meth c D ky ad ex cc nL own) (C : Cx D ky ad s S H locs) {j : Nat} (hj : j < 80) (k : Nat) (hk : k < 8) {idx : Nat} (hl : Cond.fieldLink own idx "FordToll$Traveller" (TX3 k).2.1 (TX3 k).2.2.1 ∈ wA) (hf : (TX3 k).2.2.2 = false) {ty : FieldType} {x : Int32} (hd : parseFieldDescriptor (TX3 k).2.2.1 = some ty) (hn : narrow ty (.int x) = .int x) (hfit : fits ty (.int x) = true) (hs : fsT (upd (S 2 j) k x) = (fsT (S 2 j)).set k (.int x)) (d : decode cc pc = .ok (.putfield idx, 3))
    (kk : ∀ (H1 : Heap) (locs1 : List Loc), Cx D ky ad s (wr S 2 j k x) H1 locs1 → W p l e R s m args below meth c H1 locs1 cells slots Q (F0 m (pc + 3) ls rest)) : W p l e R s m args below meth c H locs cells slots Q (F0 m pc ls (.int x :: .ref (ad (20 + j)) :: rest)) :=
  putO F C (by omega) (tg_T hj) (ix_T hj) (ce_T hj _) rfl inA3 tyX3 tyX3_ok nmX3 k hk hl (TX3_1 k) hf hd hn hfit rfl (by rw [ce_T hj, hs]) d kk
theorem putTN (F : Fx p s m args meth c D ky ad ex cc nL own) (C : Cx D ky ad s S H locs) {j : Nat} (hj : j < 80) (k : Nat) (hk : k < 8) {idx : Nat} (hl : Cond.fieldLinkNest own idx "FordToll$Traveller" (TX3 k).2.1 (TX3 k).2.2.1 "FordToll" ∈ wN) (hf : (TX3 k).2.2.2 = false) {ty : FieldType} {x : Int32} (hd : parseFieldDescriptor (TX3 k).2.2.1 = some ty) (hn : narrow ty (.int x) = .int x) (hfit : fits ty (.int x) = true) (hs : fsT (upd (S 2 j) k x) = (fsT (S 2 j)).set k (.int x)) (d : decode cc pc = .ok (.putfield idx, 3))
    (kk : ∀ (H1 : Heap) (locs1 : List Loc), Cx D ky ad s (wr S 2 j k x) H1 locs1 → W p l e R s m args below meth c H1 locs1 cells slots Q (F0 m (pc + 3) ls rest)) : W p l e R s m args below meth c H locs cells slots Q (F0 m pc ls (.int x :: .ref (ad (20 + j)) :: rest)) :=
  putON F C (by omega) (tg_T hj) (ix_T hj) (ce_T hj _) rfl inA3 tyX3 tyX3_ok nmX3 k hk hl (TX3_1 k) hf hd hn hfit rfl (by rw [ce_T hj, hs]) d kk
theorem putX (F : Fx p s m args meth c D ky ad ex cc nL own) (C : Cx D ky ad s S H locs) (k : Nat) (hk : k < 12) {idx : Nat} (hl : Cond.fieldLink own idx "FordToll" (TX5 k).2.1 (TX5 k).2.2.1 ∈ wA) (hf : (TX5 k).2.2.2 = false) {ty : FieldType} {x : Int32} (hd : parseFieldDescriptor (TX5 k).2.2.1 = some ty) (hn : narrow ty (.int x) = .int x) (hfit : fits ty (.int x) = true) (hs : fsX ad (upd (S 3 0) k x) = (fsX ad (S 3 0)).set k (.int x)) (d : decode cc pc = .ok (.putfield idx, 3))
    (kk : ∀ (H1 : Heap) (locs1 : List Loc), Cx D ky ad s (wr S 3 0 k x) H1 locs1 → W p l e R s m args below meth c H1 locs1 cells slots Q (F0 m (pc + 3) ls rest)) : W p l e R s m args below meth c H locs cells slots Q (F0 m pc ls (.int x :: .ref (ad 110) :: rest)) :=
  putO F C (o := 110) (by omega) rfl rfl rfl rfl inA5 tyX5 tyX5_ok nmX5 k hk hl (TX5_1 k) hf hd hn hfit rfl (congrArg (fun z => Sum.inr (4, z)) hs) d kk
theorem putI (F : Fx p s m args meth c D ky ad ex cc nL own) (C : Cx D ky ad s S H locs) (k : Nat) (hk : k < 3) {idx : Nat} (hl : Cond.fieldLink own idx "FordToll$History" (TX1 k).2.1 (TX1 k).2.2.1 ∈ wA) (hf : (TX1 k).2.2.2 = false) {ty : FieldType} {x : Int32} (hd : parseFieldDescriptor (TX1 k).2.2.1 = some ty) (hn : narrow ty (.int x) = .int x) (hfit : fits ty (.int x) = true) (hs : fsI ad (upd (S 4 0) k x) = (fsI ad (S 4 0)).set k (.int x)) (d : decode cc pc = .ok (.putfield idx, 3))
    (kk : ∀ (H1 : Heap) (locs1 : List Loc), Cx D ky ad s (wr S 4 0 k x) H1 locs1 → W p l e R s m args below meth c H1 locs1 cells slots Q (F0 m (pc + 3) ls rest)) : W p l e R s m args below meth c H locs cells slots Q (F0 m pc ls (.int x :: .ref (ad 111) :: rest)) :=
  putO F C (o := 111) (by omega) rfl rfl rfl rfl inA1 tyX1 tyX1_ok nmX1 k hk hl (TX1_1 k) hf hd hn hfit rfl (congrArg (fun z => Sum.inr (1, z)) hs) d kk
theorem putQ (F : Fx p s m args meth c D ky ad ex cc nL own) (C : Cx D ky ad s S H locs) (k : Nat) (hk : k < 4) {idx : Nat} (hl : Cond.fieldLink own idx "FordToll$Question" (TX2 k).2.1 (TX2 k).2.2.1 ∈ wA) (hf : (TX2 k).2.2.2 = false) {ty : FieldType} {x : Int32} (hd : parseFieldDescriptor (TX2 k).2.2.1 = some ty) (hn : narrow ty (.int x) = .int x) (hfit : fits ty (.int x) = true) (hs : fsQ ad (upd (S 6 0) k x) = (fsQ ad (S 6 0)).set k (.int x)) (d : decode cc pc = .ok (.putfield idx, 3))
    (kk : ∀ (H1 : Heap) (locs1 : List Loc), Cx D ky ad s (wr S 6 0 k x) H1 locs1 → W p l e R s m args below meth c H1 locs1 cells slots Q (F0 m (pc + 3) ls rest)) : W p l e R s m args below meth c H locs cells slots Q (F0 m pc ls (.int x :: .ref (ad 113) :: rest)) :=
  putO F C (o := 113) (by omega) rfl rfl rfl rfl inA2 tyX2 tyX2_ok nmX2 k hk hl (TX2_1 k) hf hd hn hfit rfl (congrArg (fun z => Sum.inr (2, z)) hs) d kk
/-! ends -/
theorem retI (F : Fx p s m args meth c D ky ad ex cc nL own) (hr : meth.sig.returnType = some .int) (C : Cx D ky ad s S H locs) {post : Int32 → Mem → Prop} {v : Int32} (hp : post v S) (d : decode cc pc = .ok (.ireturn, 1)) : W p l e R s m args below meth c H locs cells slots (MQ below (va_Qi post (AFT D ky ad) (AW ad s.heap.size)) args s cells slots (AW ad s.heap.size)) (F0 m pc ls [.int v]) :=
  W.iret F.x F.b hr (fun t ht hW => ⟨⟨v, S, rfl, hp, by rw [AFT, ht]; exact C.1⟩, C.2.F ht⟩) C.2.2.2 d F.lk
theorem retZ (F : Fx p s m args meth c D ky ad ex cc nL own) {ty : FieldType} (hr : meth.sig.returnType = some ty) (C : Cx D ky ad s S H locs) {post : Int32 → Mem → Prop} {v : Int32} (hn : narrow ty (.int v) = .int v) (hp : post v S) (d : decode cc pc = .ok (.ireturn, 1)) : W p l e R s m args below meth c H locs cells slots (MQ below (va_Qi post (AFT D ky ad) (AW ad s.heap.size)) args s cells slots (AW ad s.heap.size)) (F0 m pc ls [.int v]) :=
  W.zret F.x F.b hr hn (fun t ht hW => ⟨⟨v, S, rfl, hp, by rw [AFT, ht]; exact C.1⟩, C.2.F ht⟩) C.2.2.2 d F.lk
theorem retV (F : Fx p s m args meth c D ky ad ex cc nL own) (hr : meth.sig.returnType = none) (C : Cx D ky ad s S H locs) {post : Mem → Prop} (hp : post S) (d : decode cc pc = .ok (.return_, 1)) : W p l e R s m args below meth c H locs cells slots (MQ below (va_Qv post (AFT D ky ad) (AW ad s.heap.size)) args s cells slots (AW ad s.heap.size)) (F0 m pc ls []) :=
  W.vret F.x F.b hr (fun t ht hW => ⟨⟨S, rfl, hp, by rw [AFT, ht]; exact C.1⟩, C.2.F ht⟩) C.2.2.2 d F.lk
/-! Math -/
theorem mMax (F : Fx p s m args meth c D ky ad ex cc nL own) {lv : List (Nat × Value)} (hl : lv_has ls nL lv) {idx : Nat} (hk : Cond.methodLink own idx Lib.Math.max.name ∈ wA) (hR : 1 ≤ R.frames ∧ (rest.map fun v => v.category).sum + 13 ≤ R.locals ∧ cells ≤ R.cells ∧ slots ≤ R.slots) {x y : Int32} (d : decode cc pc = .ok (.invokestatic idx, 3))
    (kk : W p l e R s m args below meth c H locs cells slots Q (F0 m (pc + 3) ls (.int (if x < y then y else x) :: rest))) : W p l e R s m args below meth c H locs cells slots Q (F0 m pc ls (.int y :: .int x :: rest)) :=
  va_mmax F.x F.b (F.ml.trans hl.1.symm) F.ow (F.ts _ hk) (F.ts _ mxS) (F.ts _ mtI) (F.ts _ mxC) hR.1 hR.2.1 hR.2.2.1 hR.2.2.2 d kk
theorem mMin (F : Fx p s m args meth c D ky ad ex cc nL own) {lv : List (Nat × Value)} (hl : lv_has ls nL lv) {idx : Nat} (hk : Cond.methodLink own idx Lib.Math.min.name ∈ wA) (hR : 1 ≤ R.frames ∧ (rest.map fun v => v.category).sum + 13 ≤ R.locals ∧ cells ≤ R.cells ∧ slots ≤ R.slots) {x y : Int32} (d : decode cc pc = .ok (.invokestatic idx, 3))
    (kk : W p l e R s m args below meth c H locs cells slots Q (F0 m (pc + 3) ls (.int (if y < x then y else x) :: rest))) : W p l e R s m args below meth c H locs cells slots Q (F0 m pc ls (.int y :: .int x :: rest)) :=
  va_mmin F.x F.b (F.ml.trans hl.1.symm) F.ow (F.ts _ hk) (F.ts _ mnS) (F.ts _ mtI) (F.ts _ mnC) hR.1 hR.2.1 hR.2.2.1 hR.2.2.2 d kk
/-! calls -/
def WV (own : String) (Cn : String) (idx : Nat) (y : MethodName) (b : ByteArray) (n : Nat) (r : Option FieldType) (k : Nat) : Prop :=
  Cond.methodLink own idx y ∈ wA ∧ Cond.instanceMethod y ∈ wA ∧ Cond.selects Cn y y ∈ wA ∧ Cond.initialized Cn ∈ wA ∧ Cond.code y b n r ∈ wA ∧ y.cls = Cn ∧ y.cls ≠ "java/lang/invoke/MethodHandle" ∧ y.cls ≠ "java/lang/invoke/VarHandle" ∧ (parseMethodDescriptor y.desc).map (fun d => d.parameters.length) = some k
theorem WV.good {Cn : String} {idx : Nat} {y : MethodName} {b : ByteArray} {n : Nat} {r : Option FieldType} {k : Nat} (w : WV own Cn idx y b n r k) : GoodIn wA (wsV own idx Cn y (.code y b n r :: wA)) := by
  obtain ⟨h1, h2, h3, h4, h5, -⟩ := w
  refine wA_good fun w hw => ?_
  simp only [wsV, List.mem_append, List.mem_cons, List.not_mem_nil, or_false] at hw
  rcases hw with (rfl | rfl | rfl | rfl) | rfl | h <;> assumption
def WT (own : String) (idx : Nat) (y : MethodName) (b : ByteArray) (n : Nat) (r : Option FieldType) (k : Nat) : Prop :=
  Cond.methodLink own idx y ∈ wA ∧ Cond.static y ∈ wA ∧ Cond.initialized y.cls ∈ wA ∧ Cond.code y b n r ∈ wA ∧ y.cls ≠ "java/lang/invoke/MethodHandle" ∧ y.cls ≠ "java/lang/invoke/VarHandle" ∧ (parseMethodDescriptor y.desc).map (fun d => d.parameters.length) = some k
theorem WT.good {idx : Nat} {y : MethodName} {b : ByteArray} {n : Nat} {r : Option FieldType} {k : Nat} (w : WT own idx y b n r k) : GoodIn wA (va_wsS own idx y (.code y b n r :: wA)) := by
  obtain ⟨h1, h2, h3, h4, -⟩ := w
  refine wA_good fun w hw => ?_
  simp only [va_wsS, List.mem_append, List.mem_cons, List.not_mem_nil, or_false] at hw
  rcases hw with (rfl | rfl | rfl) | rfl | h <;> assumption
def WTN (own : String) (idx : Nat) (y : MethodName) (host : String) (b : ByteArray) (n : Nat) (r : Option FieldType) (k : Nat) : Prop :=
  Cond.methodLinkNest own idx y host ∈ wN ∧ Cond.static y ∈ wA ∧ Cond.initialized y.cls ∈ wA ∧ Cond.code y b n r ∈ wA ∧ y.cls ≠ "java/lang/invoke/MethodHandle" ∧ y.cls ≠ "java/lang/invoke/VarHandle" ∧ (parseMethodDescriptor y.desc).map (fun d => d.parameters.length) = some k
theorem goodCode {y : MethodName} {b : ByteArray} {n : Nat} {r : Option FieldType} (h : Cond.code y b n r ∈ wA) : GoodIn wA (.code y b n r :: wA) := by
  refine wA_good fun w hw => ?_
  rcases List.mem_cons.mp hw with rfl | h2
  · exact h
  · exact h2
theorem AW.sub {sz sz' : Nat} (h : sz ≤ sz') : ∀ q, AW ad sz' q → AW ad sz q := fun q hq => hq.elim Or.inl (fun h2 => Or.inr (Nat.le_trans h h2))
theorem preV (F : Fx p s m args meth c D ky ad ex cc nL own) (C : Cx D ky ad s S H locs) {As : List Value} : ∀ U : State, U.heap = H → s.WarmedH U.vm → va_Pc As (PRE D ky ad ex S H.size) As.toArray U :=
  fun U hU hW => ⟨rfl, by rw [hU], by rw [hU]; exact C.1, va_K.moved hW.alike F.K, F.J, ST.call F.st C.2 (AW.sub C.2.1) hU hW⟩
theorem kI (F : Fx p s m args meth c D ky ad ex cc nL own) (C : Cx D ky ad s S H locs) {lv : List (Nat × Value)} (hl : lv_has ls nL lv) {o ci N idx n mc ms : Nat} {y : MethodName} {b : ByteArray} {r : Option FieldType} {rm : Room} {As : List Value} {post : Int32 → Mem → Prop} (hM : CMi l D ky ad ex y b n r rm mc ms (.ref (ad o) :: As) S post) (ho : o < 117) {fs : List Value} {Cn : String} {T : u_T} (hc : celr ky ad o (S (tg o) (ix o)) = .inr (ci, fs)) (hcl : clv[ci]? = some (Cn, T, N)) (w : WV own Cn idx y b n r As.length) (hR : rm.cells = mc ∧ rm.slots = ms ∧ (rm.frames + 1 ≤ R.frames ∧ 8 + (n + 11) + rm.locals ≤ R.locals) ∧ (cells + mc ≤ R.cells ∧ slots + ms ≤ R.slots) ∧ (rest.map fun v => v.category).sum ≤ 8) {st0 : List Value} (hst : st0 = As.reverse ++ .ref (ad o) :: rest) (d : decode cc pc = .ok (.invokevirtual idx, 3))
    (kk : ∀ (r : Int32) (S1 : Mem) (H1 : Heap) (locs1 : List Loc), post r S1 → Cx D ky ad s S1 H1 locs1 → W p l e R s m args below meth c H1 locs1 (cells + mc) (slots + ms) Q (F0 m (pc + 3) ls (.int r :: rest))) : W p l e R s m args below meth c H locs cells slots Q (F0 m pc ls st0) :=
  va_calli (va_runV (As := As) (rest := rest) ⟨F.x, F.b, F.ml, F.ow, F.ts⟩ (hM H.size) (cwV As.length F.ts w.good rfl hR.1 hR.2.1 w.2.2.2.2.2 hR.2.2.1) ⟨PRE.blind, va_recv F.K C.1 hcl (q0 := o) (by rw [WS_at ho, hc]), preV F C⟩ rfl rfl hl.1 hst (lv_room hR.2.2.2.2) d hR.2.2.2.1) C.2 (fun q _ h => AW.sub C.2.1 q h) (AW.sub C.2.1) (fun r u t H1 locs1 ht hvm hw hB hz1 hk1 hS => kk r u H1 locs1 hw ⟨by rw [← ht]; exact hB, hS⟩)
theorem kV (F : Fx p s m args meth c D ky ad ex cc nL own) (C : Cx D ky ad s S H locs) {lv : List (Nat × Value)} (hl : lv_has ls nL lv) {o ci N idx n mc ms : Nat} {y : MethodName} {b : ByteArray} {r : Option FieldType} {rm : Room} {As : List Value} {post : Mem → Prop} (hM : CMv l D ky ad ex y b n r rm mc ms (.ref (ad o) :: As) S post) (ho : o < 117) {fs : List Value} {Cn : String} {T : u_T} (hc : celr ky ad o (S (tg o) (ix o)) = .inr (ci, fs)) (hcl : clv[ci]? = some (Cn, T, N)) (w : WV own Cn idx y b n r As.length) (hR : rm.cells = mc ∧ rm.slots = ms ∧ (rm.frames + 1 ≤ R.frames ∧ 8 + (n + 11) + rm.locals ≤ R.locals) ∧ (cells + mc ≤ R.cells ∧ slots + ms ≤ R.slots) ∧ (rest.map fun v => v.category).sum ≤ 8) {st0 : List Value} (hst : st0 = As.reverse ++ .ref (ad o) :: rest) (d : decode cc pc = .ok (.invokevirtual idx, 3))
    (kk : ∀ (S1 : Mem) (H1 : Heap) (locs1 : List Loc), post S1 → Cx D ky ad s S1 H1 locs1 → W p l e R s m args below meth c H1 locs1 (cells + mc) (slots + ms) Q (F0 m (pc + 3) ls rest)) : W p l e R s m args below meth c H locs cells slots Q (F0 m pc ls st0) :=
  va_callv (va_runV (As := As) (rest := rest) ⟨F.x, F.b, F.ml, F.ow, F.ts⟩ (hM H.size) (cwV As.length F.ts w.good rfl hR.1 hR.2.1 w.2.2.2.2.2 hR.2.2.1) ⟨PRE.blind, va_recv F.K C.1 hcl (q0 := o) (by rw [WS_at ho, hc]), preV F C⟩ rfl rfl hl.1 hst (lv_room hR.2.2.2.2) d hR.2.2.2.1) C.2 (fun q _ h => AW.sub C.2.1 q h) (AW.sub C.2.1) (fun u t H1 locs1 ht hvm hw hB hz1 hk1 hS => kk u H1 locs1 hw ⟨by rw [← ht]; exact hB, hS⟩)
theorem kSI (F : Fx p s m args meth c D ky ad ex cc nL own) (C : Cx D ky ad s S H locs) {lv : List (Nat × Value)} (hl : lv_has ls nL lv) {idx n mc ms : Nat} {y : MethodName} {b : ByteArray} {r : Option FieldType} {rm : Room} {As : List Value} {post : Int32 → Mem → Prop} (hM : CMi l D ky ad ex y b n r rm mc ms As S post) (w : WT own idx y b n r As.length) (hR : rm.cells = mc ∧ rm.slots = ms ∧ (rm.frames + 1 ≤ R.frames ∧ 8 + (n + 11) + rm.locals ≤ R.locals) ∧ (cells + mc ≤ R.cells ∧ slots + ms ≤ R.slots) ∧ (rest.map fun v => v.category).sum ≤ 8) {st0 : List Value} (hst : st0 = As.reverse ++ rest) (d : decode cc pc = .ok (.invokestatic idx, 3))
    (kk : ∀ (r : Int32) (S1 : Mem) (H1 : Heap) (locs1 : List Loc), post r S1 → Cx D ky ad s S1 H1 locs1 → W p l e R s m args below meth c H1 locs1 (cells + mc) (slots + ms) Q (F0 m (pc + 3) ls (.int r :: rest))) : W p l e R s m args below meth c H locs cells slots Q (F0 m pc ls st0) :=
  va_calli (va_runS (As := As) (rest := rest) ⟨F.x, F.b, F.ml, F.ow, F.ts⟩ (hM H.size) (va_cwS As.length F.ts w.good rfl hR.1 hR.2.1 w.2.2.2.2 hR.2.2.1) ⟨PRE.blind, preV F C⟩ rfl rfl hl.1 hst (lv_room hR.2.2.2.2) d hR.2.2.2.1) C.2 (fun q _ h => AW.sub C.2.1 q h) (AW.sub C.2.1) (fun r u t H1 locs1 ht hvm hw hB hz1 hk1 hS => kk r u H1 locs1 hw ⟨by rw [← ht]; exact hB, hS⟩)
theorem kSNI (F : Fx p s m args meth c D ky ad ex cc nL own) (C : Cx D ky ad s S H locs) {lv : List (Nat × Value)} (hl : lv_has ls nL lv) {idx n mc ms : Nat} {host : String} {y : MethodName} {b : ByteArray} {r : Option FieldType} {rm : Room} {As : List Value} {post : Int32 → Mem → Prop} (hM : CMi l D ky ad ex y b n r rm mc ms As S post) (w : WTN own idx y host b n r As.length) (hR : rm.cells = mc ∧ rm.slots = ms ∧ (rm.frames + 1 ≤ R.frames ∧ 8 + (n + 11) + rm.locals ≤ R.locals) ∧ (cells + mc ≤ R.cells ∧ slots + ms ≤ R.slots) ∧ (rest.map fun v => v.category).sum ≤ 8) {st0 : List Value} (hst : st0 = As.reverse ++ rest) (d : decode cc pc = .ok (.invokestatic idx, 3))
    (kk : ∀ (r : Int32) (S1 : Mem) (H1 : Heap) (locs1 : List Loc), post r S1 → Cx D ky ad s S1 H1 locs1 → W p l e R s m args below meth c H1 locs1 (cells + mc) (slots + ms) Q (F0 m (pc + 3) ls (.int r :: rest))) : W p l e R s m args below meth c H locs cells slots Q (F0 m pc ls st0) :=
  va_calli (va_runSN (As := As) (rest := rest) ⟨F.x, F.b, F.ml, F.ow, F.ts⟩ (hM H.size) ⟨va_cnB As.length F.ts (goodCode w.2.2.2.1) rfl hR.1 hR.2.1 (F.st.1 _ w.1) (F.ts _ w.2.2.1) w.2.2.2.2 hR.2.2.1, F.ts _ w.2.1, trivial⟩ ⟨PRE.blind, preV F C⟩ rfl rfl hl.1 hst (lv_room hR.2.2.2.2) d hR.2.2.2.1) C.2 (fun q _ h => AW.sub C.2.1 q h) (AW.sub C.2.1) (fun r u t H1 locs1 ht hvm hw hB hz1 hk1 hS => kk r u H1 locs1 hw ⟨by rw [← ht]; exact hB, hS⟩)
end RU
