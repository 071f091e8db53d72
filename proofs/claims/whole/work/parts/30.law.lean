theorem arr_prim {args : Array Value} {s : State} {ty : FieldType} (h : (Cond.arrayClass ty).before args s = true) : ∃ cA : ClassId, ArrOfT s cA ty ∧ s.vm.findClass ("[" ++ ty.toString) = some cA := by
  obtain ⟨c, k, comp, h1, h2, h3⟩ := Cond.arrayClass_spec h
  exact ⟨c, fun n z => ⟨fun q hq => (by cases hq), k, h2, comp, h3⟩, h1⟩
theorem arr_obj {args : Array Value} {s : State} {Cn : String} (h : (Cond.arrayOver (.object Cn)).before args s = true) : ∃ cA : ClassId, ArrOfT s cA (.object Cn) ∧ va_RA s cA (.object Cn) := by
  obtain ⟨comp, c, k, h1, h2, h3, h4, h5⟩ := Cond.arrayOver_spec h
  exact ⟨c, fun n z => ⟨fun q hq => (by cases hq), k, h3, comp, h4⟩, k, comp, h3, h4, h1, h5⟩
theorem posL_lt : ∀ i, i < 128 → ∀ z, 128 ≤ z → ¬ posL.getD i 0 = z := by
  intro i hi z hz h
  have h2 : ∀ i, i < 128 → posL.getD i 0 < 128 := by decide +kernel
  have h3 := h2 i hi
  omega
theorem start_K {args : Array Value} {s : State} (hts : ∀ w ∈ lw_tbl, w.before args s = true) : ∃ (D : va_G) (ky : Nat → ClassId), va_K D clv (TYS ky) s := by
  have hw : ∀ w ∈ wA, w.before args s = true := fun w hw => hts w (wA_tbl hw)
  obtain ⟨c0, i0, h0⟩ := u_known (C := RX0) (T := TX0) (N := 12) (n := 12) hw inA0 (hw _ q1_31)
  obtain ⟨c1, i1, h1⟩ := u_known (C := RX1) (T := TX1) (N := 3) (n := 3) hw inA1 (hw _ q1_134)
  obtain ⟨c2, i2, h2⟩ := u_known (C := RX2) (T := TX2) (N := 4) (n := 4) hw inA2 (hw _ q1_154)
  obtain ⟨c3, i3, h3⟩ := u_known (C := RX3) (T := TX3) (N := 8) (n := 8) hw inA3 (hw _ q1_38)
  obtain ⟨c4, i4, h4⟩ := u_known (C := RX5) (T := TX5) (N := 12) (n := 12) hw inA5 (hw _ q1_23)
  obtain ⟨c5, i5, h5⟩ := u_known (C := RX6) (T := TX6) (N := 22) (n := 22) hw inA6 (hw _ q4_217)
  obtain ⟨k0, r0, s0⟩ := arr_prim (ty := .char) (hw _ q1_174)
  obtain ⟨k1, r1, s1⟩ := arr_prim (ty := .int) (hw _ q1_81)
  obtain ⟨k2, r2, s2⟩ := arr_prim (ty := .boolean) (hw _ q5_49)
  obtain ⟨k3, r3, s3⟩ := arr_obj (hts _ (tb_1 (List.mem_of_getElem? (i := 140) rfl)))
  obtain ⟨k4, r4, s4⟩ := arr_obj (hts _ (tb_1 (List.mem_of_getElem? (i := 37) rfl)))
  obtain ⟨k5, r5, s5⟩ := arr_prim (ty := .long) (hw _ q6_116)
  obtain ⟨k6, r6, s6⟩ := arr_prim (ty := .double) (hw _ q6_117)
  refine ⟨(fun c => match c with | 0 => c0 | 1 => c1 | 2 => c2 | 3 => c3 | 4 => c4 | _ => c5, fun c => match c with | 0 => i0 | 1 => i1 | 2 => i2 | 3 => i3 | 4 => i4 | _ => i5), fun k => match k with | 0 => k0 | 1 => k1 | 2 => k2 | 3 => k3 | 4 => k4 | 5 => k5 | _ => k6, fun c q hq => ?_, fun k q hq => ?_⟩
  · match c, hq with
    | 0, hq => cases hq; exact h0
    | 1, hq => cases hq; exact h1
    | 2, hq => cases hq; exact h2
    | 3, hq => cases hq; exact h3
    | 4, hq => cases hq; exact h4
    | 5, hq => cases hq; exact h5
    | z + 6, hq => simp [clv] at hq
  · match k, hq with
    | 0, hq => cases hq; exact ⟨r0, s0⟩
    | 1, hq => cases hq; exact ⟨r1, s1⟩
    | 2, hq => cases hq; exact ⟨r2, s2⟩
    | 3, hq => cases hq; exact ⟨r3, s3⟩
    | 4, hq => cases hq; exact ⟨r4, s4⟩
    | 5, hq => cases hq; exact ⟨r5, s5⟩
    | 6, hq => cases hq; exact ⟨r6, s6⟩
    | z + 7, hq => simp [TYS] at hq
theorem flags_ns {l : Launch} (h : l.flags = flags0) : l.stackTraces = false := by
  unfold Launch.stackTraces
  rw [h]
  decide +kernel
set_option maxRecDepth 100000 in
set_option maxHeartbeats 8000000 in
theorem law_start {p : Program} {e : Env} {s : State} {m : MethodId} {below : List Frame} {meth : Method} {c : Code} (l : Launch) (hflags : l.flags = flags0) {b L : Nat} {xs : Nat → Int32} (hL : L ≤ 1536) (C0 : lw_At p s m meth c b L xs) {Inv : Mem → Prop} (hinit : ∀ f : Nat → Nat → Int32, (∀ j k, j < 10 → k < 10 → f j k = 10) → Inv (S0 f)) (hstep : ∀ (S : Mem) (f : Nat → Int64) (g : Nat → UInt64) (x0 x1 x2 : Int32), Inv S → lawStep (fun S1 _ _ => Inv S1) S f g x0 x1 x2) : W p l e room_1 s m #[Value.ref b] below meth c s.heap [] 0 0 (lw_Z below #[Value.ref b] s) (entryFrame m ([Value.ref b] : List Value).toArray 9) := by
  obtain ⟨hx, hb, hr, hml, hown, hts, hX, hbl, hlocks, hgv⟩ := C0
  have hf := flags_ns hflags
  have hw : ∀ w ∈ wA, w.before #[Value.ref b] s = true := fun w hw => hts w (wA_tbl hw)
  have hA : ∀ q : Nat, s.heap.size ≤ q → (fun q : Nat => s.heap.size ≤ q) q := fun _ h => h
  obtain ⟨ex, hST⟩ := start_st (A := fun q : Nat => s.heap.size ≤ q) hts hgv (fun a h => Nat.not_le.mpr h)
  obtain ⟨D, ky, hK⟩ := start_K hts
  have F : Kx p s m #[Value.ref b] meth c D ky cL_law 9 "FordTollLaw" (fun q : Nat => s.heap.size ≤ q) := ⟨hx, hb, hml, hown, hw, hlocks, hK, fun w hw => va_Nw.of (wN_on hw) (hts w (wN_tbl hw)), va_AO.of (hts _ (tb_1 (List.mem_of_getElem? (i := 37) rfl))), va_AO.of (hts _ (tb_1 (List.mem_of_getElem? (i := 140) rfl))), hA⟩
  have hl := lv_entry ([.ref b]) (n := 9) (Nat.le_of_ble_eq_true rfl)
  rw [lg_entry_eq]
  generalize (lg_sl ([.ref b]) ++ List.replicate (9 - (lg_sl ([.ref b])).length) Slot.unset).toArray = ls at hl ⊢
  have hl : lv_has ls 9 [(0, .ref b)] := hl
  have C : Ck D s (fun q : Nat => s.heap.size ≤ q) [] s.heap [] := ⟨fun k q h => by simp at h, ⟨fun i j p q h => by simp at h, fun k q h => by simp at h⟩, va_S.rf⟩
  refine cNew (ci := 4) F C inA5 tyX5_ok q1_22 q1_23 q1_1 rfl (fs := [.null, .null, .null, .int 0, .null, .int 0, .null, .int 0, .int 0, .int 0, .null, .int 0]) (fun j hj => by rcases (show j = 0 ∨ j = 1 ∨ j = 2 ∨ j = 3 ∨ j = 4 ∨ j = 5 ∨ j = 6 ∨ j = 7 ∨ j = 8 ∨ j = 9 ∨ j = 10 ∨ j = 11 by omega) with rfl | rfl | rfl | rfl | rfl | rfl | rfl | rfl | rfl | rfl | rfl | rfl <;> rfl) (Nat.le_of_ble_eq_true rfl) (Nat.le_of_ble_eq_true rfl) dL_law_0 (fun bX H C => ?_)
  refine lv_dup F.x F.b dL_law_3 rfl ?_
  refine cCall (ws := []) F C hl (kX5_init l D ky bX) ⟨q1_24, q1_25, q1_1, q1_26⟩ ⟨rfl, by decide, by decide, by decide +kernel⟩ ⟨rfl, rfl, ⟨Nat.le_of_ble_eq_true rfl, Nat.le_of_ble_eq_true rfl⟩, ⟨Nat.le_of_ble_eq_true rfl, Nat.le_of_ble_eq_true rfl⟩, Nat.le_of_ble_eq_true rfl⟩ (rest := [.ref bX]) dL_law_4 (fun u1 H locs hu1 C => ?_)
  have C : Ck D s (fun q : Nat => s.heap.size ≤ q) u1 H locs := C
  refine lv_astore_n (lv' := [(1, .ref bX), (0, .ref b)]) F.x F.b dL_law_7 rfl hl (by decide) rfl (fun ls hl => ?_)
  refine cNew (ci := 5) F C inA6 tyX6_ok q4_216 q4_217 q1_6 rfl (fs := [.null, .null, .null, .null, .int 0, .null, .int 0, .null, .int 0, .null, .int 0, .int 0, .int 0, .null, .int 0, .null, .null, .int 0, .int 0, .int 0, .int 0, .int 0]) (fun j hj => by rcases (show j = 0 ∨ j = 1 ∨ j = 2 ∨ j = 3 ∨ j = 4 ∨ j = 5 ∨ j = 6 ∨ j = 7 ∨ j = 8 ∨ j = 9 ∨ j = 10 ∨ j = 11 ∨ j = 12 ∨ j = 13 ∨ j = 14 ∨ j = 15 ∨ j = 16 ∨ j = 17 ∨ j = 18 ∨ j = 19 ∨ j = 20 ∨ j = 21 by omega) with rfl | rfl | rfl | rfl | rfl | rfl | rfl | rfl | rfl | rfl | rfl | rfl | rfl | rfl | rfl | rfl | rfl | rfl | rfl | rfl | rfl | rfl <;> rfl) (Nat.le_of_ble_eq_true rfl) (Nat.le_of_ble_eq_true rfl) dL_law_8 (fun bM H C => ?_)
  refine lv_dup F.x F.b dL_law_11 rfl ?_
  refine cCall F C hl (kX6_init l D ky bM) ⟨q4_218, q4_219, q1_6, q4_220⟩ ⟨rfl, by decide, by decide, by decide +kernel⟩ ⟨rfl, rfl, ⟨Nat.le_of_ble_eq_true rfl, Nat.le_of_ble_eq_true rfl⟩, ⟨Nat.le_of_ble_eq_true rfl, Nat.le_of_ble_eq_true rfl⟩, Nat.le_of_ble_eq_true rfl⟩ (rest := [.ref bM]) dL_law_12 (fun u2 H locs hu2 C => ?_)
  refine lv_astore_n (lv' := [(2, .ref bM), (1, .ref bX), (0, .ref b)]) F.x F.b dL_law_15 rfl hl (by decide) rfl (fun ls hl => ?_)
  refine lv_iconst (v := 1) F.x F.b dL_law_16 (by decide) ?_
  refine cNewa F C (atype := .long) (ty := .long) rfl q6_116 5 rfl (fun cA cB h1 h2 => Option.some.inj (h1.symm.trans h2)) (a0 := (1, .inr (.inl (fun _ => 0)))) (fun _ => rfl) (N' := 1) (by decide) (by decide) (Nat.le_of_ble_eq_true rfl) (Nat.le_of_ble_eq_true rfl) (Nat.le_of_ble_eq_true rfl) dL_law_17 (fun ao H C => ?_)
  refine lv_astore_n (lv' := [(3, .ref ao), (2, .ref bM), (1, .ref bX), (0, .ref b)]) F.x F.b dL_law_19 rfl hl (by decide) rfl (fun ls hl => ?_)
  refine lv_iconst (v := 1) F.x F.b dL_law_20 (by decide) ?_
  refine cNewa F C (atype := .double) (ty := .double) rfl q6_117 6 rfl (fun cA cB h1 h2 => Option.some.inj (h1.symm.trans h2)) (a0 := (1, .inr (.inr (.inr (.inl (fun _ => 0)))))) (fun _ => rfl) (N' := 1) (by decide) (by decide) (Nat.le_of_ble_eq_true rfl) (Nat.le_of_ble_eq_true rfl) (Nat.le_of_ble_eq_true rfl) dL_law_21 (fun a2 H C => ?_)
  refine lv_astore (lv' := [(4, .ref a2), (3, .ref ao), (2, .ref bM), (1, .ref bX), (0, .ref b)]) F.x F.b dL_law_23 hl (by decide) rfl (fun ls hl => ?_)
  refine lv_iconst (v := 0) F.x F.b dL_law_25 (by decide) ?_
  refine lv_istore (lv' := [(5, .int 0), (4, .ref a2), (3, .ref ao), (2, .ref bM), (1, .ref bX), (0, .ref b)]) F.x F.b dL_law_26 hl (by decide) rfl (fun ls hl => ?_)
  obtain ⟨n, hs, sn, qu, an, ln, dn, dh, ds, dq, hF1, hH, hF2, hQ, rfl⟩ := hu1
  obtain ⟨h0, t0, tr0, f0, hf0, rfl⟩ := hF1
  obtain ⟨bb, fo, u, hu, rfl⟩ := hH
  obtain ⟨h9, t9, tr9, f9, hf9, rfl⟩ := hF2
  obtain ⟨tx, rfl⟩ := hQ
  obtain ⟨h1, t1, tr1, f1, hf1, eu0⟩ := hu 0 (by decide)
  obtain ⟨h2, t2, tr2, f2, hf2, eu1⟩ := hu 1 (by decide)
  obtain ⟨h3, t3, tr3, f3, hf3, eu2⟩ := hu 2 (by decide)
  obtain ⟨h4, t4, tr4, f4, hf4, eu3⟩ := hu 3 (by decide)
  obtain ⟨h5, t5, tr5, f5, hf5, eu4⟩ := hu 4 (by decide)
  obtain ⟨h6, t6, tr6, f6, hf6, eu5⟩ := hu 5 (by decide)
  obtain ⟨h7, t7, tr7, f7, hf7, eu6⟩ := hu 6 (by decide)
  obtain ⟨h8, t8, tr8, f8, hf8, eu7⟩ := hu 7 (by decide)
  obtain ⟨m0, m1, m2, m3, m4, m5, m6, m7, m8, m9, rfl⟩ := hu2
  rw [eu0, eu1, eu2, eu3, eu4, eu5, eu6, eu7] at C
  have C : Ck D s (fun q : Nat => s.heap.size ≤ q) (WL ky n hs sn qu an ln bb tx bX bM ao a2 h0 t0 h1 t1 h2 t2 h3 t3 h4 t4 h5 t5 h6 t6 h7 t7 h8 t8 h9 t9 m0 m1 m2 m3 m4 m5 m6 m7 m8 m9 fo tr0 tr1 tr2 tr3 tr4 tr5 tr6 tr7 tr8 tr9 f0 f1 f2 f3 f4 f5 f6 f7 f8 f9) H locs := C
  have hJ : INJ (fun o => (adL n hs sn qu an ln bb tx bX bM ao a2 h0 t0 h1 t1 h2 t2 h3 t3 h4 t4 h5 t5 h6 t6 h7 t7 h8 t8 h9 t9 m0 m1 m2 m3 m4 m5 m6 m7 m8 m9 fo tr0 tr1 tr2 tr3 tr4 tr5 tr6 tr7 tr8 tr9).getD o 0) := WL_inj C.2.1
  have hWS := WL_WS C.1
  have hS0 := hinit (fun i => match i with | 0 => f0 | 1 => f1 | 2 => f2 | 3 => f3 | 4 => f4 | 5 => f5 | 6 => f6 | 7 => f7 | 8 => f8 | _ => f9) (fun j k hj hk => by rcases (show j = 0 ∨ j = 1 ∨ j = 2 ∨ j = 3 ∨ j = 4 ∨ j = 5 ∨ j = 6 ∨ j = 7 ∨ j = 8 ∨ j = 9 by omega) with rfl | rfl | rfl | rfl | rfl | rfl | rfl | rfl | rfl | rfl; exact hf0 k hk; exact hf1 k hk; exact hf2 k hk; exact hf3 k hk; exact hf4 k hk; exact hf5 k hk; exact hf6 k hk; exact hf7 k hk; exact hf8 k hk; exact hf9 k hk)
  obtain ⟨ad, ead⟩ : ∃ ad : Nat → Nat, ad = (fun o => (adL n hs sn qu an ln bb tx bX bM ao a2 h0 t0 h1 t1 h2 t2 h3 t3 h4 t4 h5 t5 h6 t6 h7 t7 h8 t8 h9 t9 m0 m1 m2 m3 m4 m5 m6 m7 m8 m9 fo tr0 tr1 tr2 tr3 tr4 tr5 tr6 tr7 tr8 tr9).getD o 0) := ⟨_, rfl⟩
  have hge : ∀ o, o < 128 → s.heap.size ≤ ad o := by
    intro o ho
    obtain ⟨x, hx⟩ := WL_at (ky := ky) (f0 := f0) (f1 := f1) (f2 := f2) (f3 := f3) (f4 := f4) (f5 := f5) (f6 := f6) (f7 := f7) (f8 := f8) (f9 := f9) o ho
    rw [ead]
    exact C.2.1.2 _ _ hx
  have hne1 : ∀ o, o < 128 → ad o ≠ ao := by
    intro o ho h9
    obtain ⟨x, hx⟩ := WL_at (ky := ky) (f0 := f0) (f1 := f1) (f2 := f2) (f3 := f3) (f4 := f4) (f5 := f5) (f6 := f6) (f7 := f7) (f8 := f8) (f9 := f9) o ho
    have h8 := C.2.1.1 _ 128 _ (ao, lce ky (fun _ => 0)) hx rfl (by rw [ead] at h9; exact h9)
    exact posL_lt o ho 128 (by decide) h8
  have hne2 : ∀ o, o < 128 → ad o ≠ a2 := by
    intro o ho h9
    obtain ⟨x, hx⟩ := WL_at (ky := ky) (f0 := f0) (f1 := f1) (f2 := f2) (f3 := f3) (f4 := f4) (f5 := f5) (f6 := f6) (f7 := f7) (f8 := f8) (f9 := f9) o ho
    have h8 := C.2.1.1 _ 129 _ (a2, dce ky (fun _ => 0)) hx rfl (by rw [ead] at h9; exact h9)
    exact posL_lt o ho 129 (by decide) h8
  have hne3 : a2 ≠ ao := fun h9 => absurd (C.2.1.1 129 128 (a2, dce ky (fun _ => 0)) (ao, lce ky (fun _ => 0)) rfl rfl h9) (by decide)
  have hao : s.heap.size ≤ ao := C.2.1.2 128 (ao, lce ky (fun _ => 0)) rfl
  have ha2 : s.heap.size ≤ a2 := C.2.1.2 129 (a2, dce ky (fun _ => 0)) rfl
  have hE : va_P D clv [(ao, lce ky (fun _ => 0)), (a2, dce ky (fun _ => 0))] H := by
    intro k q hk
    match k, hk with
    | 0, hk => cases hk; exact C.1 128 _ rfl
    | 1, hk => cases hk; exact C.1 129 _ rfl
    | z + 2, hk => simp at hk
  have e110 : bX = ad 110 := by rw [ead]; rfl
  have e117 : bM = ad 117 := by rw [ead]; rfl
  rw [← ead] at hJ hWS
  rw [e110, e117] at hl
  have hS := C.2.2
  have hge0 := hge
  clear C
  have hAd : ∀ q, AW ad s.heap.size q → s.heap.size ≤ q := fun q h => by
    rcases h with ⟨o, ho, rfl⟩ | h
    · exact hge0 o ho
    · exact h
  have G : Gx p s m #[Value.ref b] meth c D ky ad ex cL_law 9 "FordTollLaw" (fun q : Nat => s.heap.size ≤ q) := ⟨hx, hb, hml, hown, hw, hlocks, hK, hJ, hST, hAd⟩
  have X : Lx p s m #[Value.ref b] meth c D ky ad ex b L xs ao a2 := ⟨G, hX, hbl, hao, ha2, hne3⟩
  have C : Cg D ky ad s (fun q : Nat => s.heap.size ≤ q) _ [(ao, lce ky (fun _ => 0)), (a2, dce ky (fun _ => 0))] H locs := ⟨hWS, hE, hS, fun o ho z hz => by
    rcases List.mem_cons.mp hz with rfl | hz
    · exact hne1 o ho
    · cases List.mem_singleton.mp hz
      exact hne2 o ho⟩
  exact law_loop X hf hL hstep (fun H ls => lw_ret (d0 := s.drawn) (Drawn.sameBut.refl s.drawn lw_cs) hx hb hr hlocks dL_law_1845) 512 0 _ _ _ H locs ls _ _ (by omega) (by omega) (Nat.le_of_ble_eq_true rfl) (Nat.le_of_ble_eq_true rfl) hS0 C (lv_sub hl [5, 4, 3, 2, 1, 0] rfl)
