theorem arr_prim {args : Array Value} {s : State} {ty : FieldType} (h : (Cond.arrayClass ty).before args s = true) : ∃ cA : ClassId, ArrOfT s cA ty ∧ s.vm.findClass ("[" ++ ty.toString) = some cA := by
  obtain ⟨c, k, comp, h1, h2, h3⟩ := Cond.arrayClass_spec h
  exact ⟨c, fun n z => ⟨fun q hq => (by cases hq), k, h2, comp, h3⟩, h1⟩
theorem arr_obj {args : Array Value} {s : State} {Cn : String} (h : (Cond.arrayOver (.object Cn)).before args s = true) : ∃ cA : ClassId, ArrOfT s cA (.object Cn) ∧ va_RA s cA (.object Cn) := by
  obtain ⟨comp, c, k, h1, h2, h3, h4, h5⟩ := Cond.arrayOver_spec h
  exact ⟨c, fun n z => ⟨fun q hq => (by cases hq), k, h3, comp, h4⟩, k, comp, h3, h4, h1, h5⟩
theorem start_K {args : Array Value} {s : State} (hts : ∀ w ∈ lw_tbl, w.before args s = true) : ∃ (D : va_G) (ky : Nat → ClassId), va_K D clv (TYS ky) s := by
  have hw : ∀ w ∈ wA, w.before args s = true := fun w hw => hts w (wA_tbl hw)
  obtain ⟨c0, i0, h0⟩ := u_known (C := RX0) (T := TX0) (N := 12) (n := 12) hw inA0 (hw _ q1_33)
  obtain ⟨c1, i1, h1⟩ := u_known (C := RX1) (T := TX1) (N := 3) (n := 3) hw inA1 (hw _ q1_136)
  obtain ⟨c2, i2, h2⟩ := u_known (C := RX2) (T := TX2) (N := 4) (n := 4) hw inA2 (hw _ q1_156)
  obtain ⟨c3, i3, h3⟩ := u_known (C := RX3) (T := TX3) (N := 8) (n := 8) hw inA3 (hw _ q1_40)
  obtain ⟨c4, i4, h4⟩ := u_known (C := RX5) (T := TX5) (N := 12) (n := 12) hw inA5 (hw _ q1_25)
  obtain ⟨k0, r0, s0⟩ := arr_prim (ty := .char) (hw _ q1_176)
  obtain ⟨k1, r1, s1⟩ := arr_prim (ty := .int) (hw _ q1_83)
  obtain ⟨k2, r2, s2⟩ := arr_prim (ty := .long) (hw _ q5_33)
  obtain ⟨k3, r3, s3⟩ := arr_obj (hts _ (tb_1 (List.mem_of_getElem? (i := 142) rfl)))
  obtain ⟨k4, r4, s4⟩ := arr_obj (hts _ (tb_1 (List.mem_of_getElem? (i := 39) rfl)))
  refine ⟨(fun c => match c with | 0 => c0 | 1 => c1 | 2 => c2 | 3 => c3 | _ => c4, fun c => match c with | 0 => i0 | 1 => i1 | 2 => i2 | 3 => i3 | _ => i4), fun k => match k with | 0 => k0 | 1 => k1 | 2 => k2 | 3 => k3 | _ => k4, fun c q hq => ?_, fun k q hq => ?_⟩
  · match c, hq with
    | 0, hq => cases hq; exact h0
    | 1, hq => cases hq; exact h1
    | 2, hq => cases hq; exact h2
    | 3, hq => cases hq; exact h3
    | 4, hq => cases hq; exact h4
    | z + 5, hq => simp [clv] at hq
  · match k, hq with
    | 0, hq => cases hq; exact ⟨r0, s0⟩
    | 1, hq => cases hq; exact ⟨r1, s1⟩
    | 2, hq => cases hq; exact ⟨r2, s2⟩
    | 3, hq => cases hq; exact ⟨r3, s3⟩
    | 4, hq => cases hq; exact ⟨r4, s4⟩
    | z + 5, hq => simp [TYS] at hq
theorem flags_ns {l : Launch} (h : l.flags = flags0) : l.stackTraces = false := by
  unfold Launch.stackTraces
  rw [h]
  decide +kernel
set_option maxRecDepth 100000 in
set_option maxHeartbeats 8000000 in
theorem law_start {p : Program} {e : Env} {s : State} {m : MethodId} {below : List Frame} {meth : Method} {c : Code} (l : Launch) (hflags : l.flags = flags0) {b L : Nat} {xs : Nat → Int32} (C0 : lw_At p s m meth c b L xs) (hA : ∀ (ex : Nat → Nat → Nat) (f : Nat → Nat → Int32), (∀ j k, j < 10 → k < 10 → f j k = 10) → mL_lawA ex (fun _ => True) (S0 f)) (hB : ∀ (ex : Nat → Nat → Nat) (f : Nat → Nat → Int32), ex 4 1 = L → (∀ j k, j < 10 → k < 10 → f j k = 10) → mL_lawB ex (fun S l3 v5 => mL_lawC ex S (fun _ => 0) l3 v5) (S0 f)) : W p l e room_1 s m #[Value.ref b] below meth c s.heap [] 0 0 (lw_Z below #[Value.ref b] s) (entryFrame m ([Value.ref b] : List Value).toArray 11) := by
  obtain ⟨hx, hb, hr, hml, hown, hts, hX, hbl, hlocks, hgv⟩ := C0
  have hf := flags_ns hflags
  have hw : ∀ w ∈ wA, w.before #[Value.ref b] s = true := fun w hw => hts w (wA_tbl hw)
  have hA9 : ∀ q : Nat, s.heap.size ≤ q → (fun q : Nat => s.heap.size ≤ q) q := fun _ h => h
  obtain ⟨ex, hST, e40, e41, exs⟩ := start_st (A := fun q : Nat => s.heap.size ≤ q) hts hgv (fun a h => Nat.not_le.mpr h) hX (Nat.not_le.mpr hbl)
  obtain ⟨D, ky, hK⟩ := start_K hts
  have F : Kx p s m #[Value.ref b] meth c D ky cL_law 11 "FordTollLaw" (fun q : Nat => s.heap.size ≤ q) := ⟨hx, hb, hml, hown, hw, hlocks, hK, fun w hw => va_Nw.of (wN_on hw) (hts w (wN_tbl hw)), va_AO.of (hts _ (tb_1 (List.mem_of_getElem? (i := 39) rfl))), va_AO.of (hts _ (tb_1 (List.mem_of_getElem? (i := 142) rfl))), hA9⟩
  have hl := lv_entry ([.ref b]) (n := 11) (Nat.le_of_ble_eq_true rfl)
  rw [lg_entry_eq]
  generalize (lg_sl ([.ref b]) ++ List.replicate (11 - (lg_sl ([.ref b])).length) Slot.unset).toArray = ls at hl ⊢
  have hl : lv_has ls 11 [(0, .ref b)] := hl
  rw [← e40] at hl
  have C : Ck D s (fun q : Nat => s.heap.size ≤ q) [] s.heap [] := ⟨fun k q h => by simp at h, ⟨fun i j p q h => by simp at h, fun k q h => by simp at h⟩, va_S.rf⟩
  refine law_new (pc := 0) F hl C (by omega) (by omega) dL_law_0 dL_law_3 dL_law_4 (fun ad f H locs hf10 hJ hge C => ?_)
  have G : Gx p s m #[Value.ref b] meth c D ky ad ex cL_law 11 "FordTollLaw" (fun q => s.heap.size ≤ q) := ⟨hx, hb, hml, hown, hw, hlocks, hK, hJ, hST, fun q h => by rcases h with ⟨o, ho, rfl⟩ | h; exact hge o ho; exact h⟩
  refine lv_astore_n (lv' := [(1, .ref (ad 110)), (0, .ref (ex 4 0))]) F.x F.b dL_law_7 rfl hl (by decide) rfl (fun ls hl => ?_)
  refine bL_lawA_8 G hr hf 15015 90444 (K658 := fun _ => True) (fun cells slots S H locs ls hc hs _ C hl => ?_) _ _ (S0 f) _ _ _ (by omega) (by omega) (hA ex f hf10) C hl
  refine law_new (pc := 658) F hl ⟨fun k q h => by simp at h, ⟨fun i j p q h => by simp at h, fun k q h => by simp at h⟩, C.2.2.1⟩ (by omega) (by omega) dL_law_658 dL_law_661 dL_law_662 (fun ad2 f2 H locs hf10 hJ hge C => ?_)
  have G : Gx p s m #[Value.ref b] meth c D ky ad2 ex cL_law 11 "FordTollLaw" (fun q => s.heap.size ≤ q) := ⟨hx, hb, hml, hown, hw, hlocks, hK, hJ, hST, fun q h => by rcases h with ⟨o, ho, rfl⟩ | h; exact hge o ho; exact h⟩
  refine lv_astore_n (lv' := [(2, .ref (ad2 110)), (0, .ref (ex 4 0))]) F.x F.b dL_law_665 rfl hl (by decide) rfl (fun ls hl => ?_)
  refine bL_lawB_666 G hr hf 12978 77875 (K771 := fun S l3 v5 => mL_lawC ex S (fun _ => 0) l3 v5) (fun cells slots S l3 v5 H locs ls hc hs h C hl => ?_) _ _ (S0 f2) _ _ _ (by omega) (by omega) (hB ex f2 e41 hf10) C hl
  refine lv_bipush (v := 13) F.x F.b dL_law_771 (by decide) ?_
  refine gNewa G (fun q h => h) C (atype := .long) (ty := .long) rfl q5_33 2 rfl (fun cA cB h1 h2 => Option.some.inj (h1.symm.trans h2)) (a0 := (13, .inr (.inl (fun _ => 0)))) (fun _ => rfl) (N' := 13) (by decide) (by decide) (Nat.le_of_ble_eq_true rfl) (show _ ≤ (671210 : Nat) by omega) (show _ ≤ (7075145 : Nat) by omega) dL_law_773 (fun ao H hao C => ?_)
  refine lv_astore (lv' := [(6, .ref ao), (0, .ref (ex 4 0)), (2, .ref (ad2 110)), (3, .long l3), (5, .int v5)]) F.x F.b dL_law_775 hl (by decide) rfl (fun ls hl => ?_)
  refine bL_lawC_777 G hr hf hao (fun cells slots S f H locs ls hc hs C => ?_) _ _ S (fun _ => 0) l3 v5 _ _ _ (by omega) (by omega) h C (lv_sub hl [0, 2, 1, 3, 4] rfl)
  refine va_forget (fun q hq => C.2.2.1.2.2 q hq) ?_
  refine W.widen (k := 671210) (n := 7075145) hc hs ?_
  exact lw_ret (d0 := s.drawn) (Drawn.sameBut.refl s.drawn lw_cs) hx hb hr hlocks dL_law_970
