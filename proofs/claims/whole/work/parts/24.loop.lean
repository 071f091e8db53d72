/-! THE LAW'S LOOP -/
def lawStep (post : Mem → (Nat → Int64) → (Nat → UInt64) → Prop) (S : Mem) (f : Nat → Int64) (g : Nat → UInt64) (x0 x1 x2 : Int32) : Prop := (x0 &&& 63 = 0 → lawC0 post S f g x1 x2) ∧ (x0 &&& 63 = 1 → lawC1 post S f g x1 x2) ∧ (x0 &&& 63 = 2 → lawC2 post S f g x1 x2) ∧ (x0 &&& 63 = 3 → lawC3 post S f g x1 x2) ∧ (x0 &&& 63 = 4 → lawC4 post S f g x1 x2) ∧ (x0 &&& 63 = 5 → lawC5 post S f g x1 x2) ∧ (x0 &&& 63 = 6 → lawC6 post S f g x1 x2) ∧ (x0 &&& 63 = 7 → lawC7 post S f g x1 x2) ∧ (x0 &&& 63 = 8 → lawC8 post S f g x1 x2) ∧ (x0 &&& 63 = 9 → lawC9 post S f g x1 x2) ∧ (x0 &&& 63 = 10 → lawC10 post S f g x1 x2) ∧ (x0 &&& 63 = 11 → lawC11 post S f g x1 x2) ∧ (x0 &&& 63 = 12 → lawC12 post S f g x1 x2) ∧ (x0 &&& 63 = 13 → lawC13 post S f g x1 x2) ∧ (x0 &&& 63 = 14 → lawC14 post S f g x1 x2) ∧ (x0 &&& 63 = 15 → lawC15 post S f g x1 x2) ∧ (x0 &&& 63 = 16 → lawC16 post S f g x1 x2) ∧ (x0 &&& 63 = 17 → lawC17 post S f g x1 x2) ∧ (x0 &&& 63 = 18 → lawC18 post S f g x1 x2) ∧ (x0 &&& 63 = 19 → lawC19 post S f g x1 x2) ∧ (x0 &&& 63 = 20 → lawC20 post S f g x1 x2) ∧ (x0 &&& 63 = 21 → lawC21 post S f g x1 x2) ∧ (x0 &&& 63 = 22 → lawC22 post S f g x1 x2) ∧ (x0 &&& 63 = 23 → lawC23 post S f g x1 x2) ∧ (x0 &&& 63 = 24 → lawC24 post S f g x1 x2) ∧ (x0 &&& 63 = 25 → lawC25 post S f g x1 x2) ∧ (x0 &&& 63 = 26 → lawC26 post S f g x1 x2) ∧ (x0 &&& 63 = 27 → lawC27 post S f g x1 x2) ∧ (x0 &&& 63 = 28 → lawC28 post S f g x1 x2) ∧ (x0 &&& 63 = 29 → lawC29 post S f g x1 x2) ∧ (x0 &&& 63 = 30 → lawC30 post S f g x1 x2) ∧ (x0 &&& 63 = 31 → lawC31 post S f g x1 x2) ∧ (x0 &&& 63 = 32 → lawC32 post S f g x1 x2) ∧ (¬ x0 &&& 63 = 0 ∧ ¬ x0 &&& 63 = 1 ∧ ¬ x0 &&& 63 = 2 ∧ ¬ x0 &&& 63 = 3 ∧ ¬ x0 &&& 63 = 4 ∧ ¬ x0 &&& 63 = 5 ∧ ¬ x0 &&& 63 = 6 ∧ ¬ x0 &&& 63 = 7 ∧ ¬ x0 &&& 63 = 8 ∧ ¬ x0 &&& 63 = 9 ∧ ¬ x0 &&& 63 = 10 ∧ ¬ x0 &&& 63 = 11 ∧ ¬ x0 &&& 63 = 12 ∧ ¬ x0 &&& 63 = 13 ∧ ¬ x0 &&& 63 = 14 ∧ ¬ x0 &&& 63 = 15 ∧ ¬ x0 &&& 63 = 16 ∧ ¬ x0 &&& 63 = 17 ∧ ¬ x0 &&& 63 = 18 ∧ ¬ x0 &&& 63 = 19 ∧ ¬ x0 &&& 63 = 20 ∧ ¬ x0 &&& 63 = 21 ∧ ¬ x0 &&& 63 = 22 ∧ ¬ x0 &&& 63 = 23 ∧ ¬ x0 &&& 63 = 24 ∧ ¬ x0 &&& 63 = 25 ∧ ¬ x0 &&& 63 = 26 ∧ ¬ x0 &&& 63 = 27 ∧ ¬ x0 &&& 63 = 28 ∧ ¬ x0 &&& 63 = 29 ∧ ¬ x0 &&& 63 = 30 ∧ ¬ x0 &&& 63 = 31 ∧ ¬ x0 &&& 63 = 32 → post S f g)
set_option maxRecDepth 100000 in
theorem law_switch {p : Program} {l : Launch} {e : Env} {s : State} {m : MethodId} {args : Array Value} {below : List Frame} {meth : Method} {c : Code} {Q : State → Prop} {D : va_G} {ky : Nat → ClassId} {ad : Nat → Nat} {ex : Nat → Nat → Nat} {b L : Nat} {xs : Nat → Int32} {ao a2 : Nat} (X : Lx p s m args meth c D ky ad ex b L xs ao a2) (hf : l.stackTraces = false) {post : Mem → (Nat → Int64) → (Nat → UInt64) → Prop} {S : Mem} {f : Nat → Int64} {g : Nat → UInt64} {i x0 x1 x2 : Int32} (hi1 : vp_in (i + 1) L) (hi2 : vp_in (i + 2) L) (hx1 : xs (i + 1).toNatClampNeg = x1) (hx2 : xs (i + 2).toNatClampNeg = x2) (h : lawStep post S f g x0 x1 x2) {H : Heap} {locs : List Loc} {ls : Array Slot} {cells slots : Nat} (hc : cells + 3 ≤ 603072) (hs : slots + 18 ≤ 7215210) (C : Cg D ky ad s (fun q => s.heap.size ≤ q) S [(ao, lce ky f), (a2, dce ky g)] H locs) (hl : lv_has ls 9 [(0, .ref b), (1, .ref (ad 110)), (2, .ref (ad 117)), (3, .ref ao), (4, .ref a2), (5, .int i)]) (kk : ∀ (S : Mem) (f : Nat → Int64) (g : Nat → UInt64) (H : Heap) (locs : List Loc) (ls : Array Slot), post S f g → Cg D ky ad s (fun q => s.heap.size ≤ q) S [(ao, lce ky f), (a2, dce ky g)] H locs → lv_has ls 9 [(0, .ref b), (1, .ref (ad 110)), (2, .ref (ad 117)), (3, .ref ao), (4, .ref a2), (5, .int i)] → W p l e room_1 s m args below meth c H locs (cells + 3) (slots + 18) Q (F0 m 1838 ls [])) : W p l e room_1 s m args below meth c H locs cells slots Q (F0 m 44 ls [.int (x0 &&& 63)]) := by
  unfold lawStep at h
  by_cases g0 : x0 &&& 63 = 0
  · refine lv_tableIn (tgt := 192) X.F.x X.F.b dL_law_44 (by rw [g0]; decide) (by rw [g0]; decide) (by rw [g0]; rfl) (by decide) ?_
    exact lawT0 X hf hi1 hi2 hx1 hx2 (h.1 g0) hc hs C hl kk
  by_cases g1 : x0 &&& 63 = 1
  · refine lv_tableIn (tgt := 260) X.F.x X.F.b dL_law_44 (by rw [g1]; decide) (by rw [g1]; decide) (by rw [g1]; rfl) (by decide) ?_
    exact lawT1 X hf hi1 hi2 hx1 hx2 (h.2.1 g1) hc hs C hl kk
  by_cases g2 : x0 &&& 63 = 2
  · refine lv_tableIn (tgt := 316) X.F.x X.F.b dL_law_44 (by rw [g2]; decide) (by rw [g2]; decide) (by rw [g2]; rfl) (by decide) ?_
    exact lawT2 X hf hi1 hi2 hx1 hx2 (h.2.2.1 g2) hc hs C hl kk
  by_cases g3 : x0 &&& 63 = 3
  · refine lv_tableIn (tgt := 372) X.F.x X.F.b dL_law_44 (by rw [g3]; decide) (by rw [g3]; decide) (by rw [g3]; rfl) (by decide) ?_
    exact lawT3 X hf hi1 hi2 hx1 hx2 (h.2.2.2.1 g3) hc hs C hl kk
  by_cases g4 : x0 &&& 63 = 4
  · refine lv_tableIn (tgt := 440) X.F.x X.F.b dL_law_44 (by rw [g4]; decide) (by rw [g4]; decide) (by rw [g4]; rfl) (by decide) ?_
    exact lawT4 X hf hi1 hi2 hx1 hx2 (h.2.2.2.2.1 g4) hc hs C hl kk
  by_cases g5 : x0 &&& 63 = 5
  · refine lv_tableIn (tgt := 453) X.F.x X.F.b dL_law_44 (by rw [g5]; decide) (by rw [g5]; decide) (by rw [g5]; rfl) (by decide) ?_
    exact lawT5 X hf hi1 hi2 hx1 hx2 (h.2.2.2.2.2.1 g5) hc hs C hl kk
  by_cases g6 : x0 &&& 63 = 6
  · refine lv_tableIn (tgt := 509) X.F.x X.F.b dL_law_44 (by rw [g6]; decide) (by rw [g6]; decide) (by rw [g6]; rfl) (by decide) ?_
    exact lawT6 X hf hi1 hi2 hx1 hx2 (h.2.2.2.2.2.2.1 g6) hc hs C hl kk
  by_cases g7 : x0 &&& 63 = 7
  · refine lv_tableIn (tgt := 565) X.F.x X.F.b dL_law_44 (by rw [g7]; decide) (by rw [g7]; decide) (by rw [g7]; rfl) (by decide) ?_
    exact lawT7 X hf hi1 hi2 hx1 hx2 (h.2.2.2.2.2.2.2.1 g7) hc hs C hl kk
  by_cases g8 : x0 &&& 63 = 8
  · refine lv_tableIn (tgt := 609) X.F.x X.F.b dL_law_44 (by rw [g8]; decide) (by rw [g8]; decide) (by rw [g8]; rfl) (by decide) ?_
    exact lawT8 X hf hi1 hi2 hx1 hx2 (h.2.2.2.2.2.2.2.2.1 g8) hc hs C hl kk
  by_cases g9 : x0 &&& 63 = 9
  · refine lv_tableIn (tgt := 665) X.F.x X.F.b dL_law_44 (by rw [g9]; decide) (by rw [g9]; decide) (by rw [g9]; rfl) (by decide) ?_
    exact lawT9 X hf hi1 hi2 hx1 hx2 (h.2.2.2.2.2.2.2.2.2.1 g9) hc hs C hl kk
  by_cases g10 : x0 &&& 63 = 10
  · refine lv_tableIn (tgt := 733) X.F.x X.F.b dL_law_44 (by rw [g10]; decide) (by rw [g10]; decide) (by rw [g10]; rfl) (by decide) ?_
    exact lawT10 X hf hi1 hi2 hx1 hx2 (h.2.2.2.2.2.2.2.2.2.2.1 g10) hc hs C hl kk
  by_cases g11 : x0 &&& 63 = 11
  · refine lv_tableIn (tgt := 789) X.F.x X.F.b dL_law_44 (by rw [g11]; decide) (by rw [g11]; decide) (by rw [g11]; rfl) (by decide) ?_
    exact lawT11 X hf hi1 hi2 hx1 hx2 (h.2.2.2.2.2.2.2.2.2.2.2.1 g11) hc hs C hl kk
  by_cases g12 : x0 &&& 63 = 12
  · refine lv_tableIn (tgt := 845) X.F.x X.F.b dL_law_44 (by rw [g12]; decide) (by rw [g12]; decide) (by rw [g12]; rfl) (by decide) ?_
    exact lawT12 X hf hi1 hi2 hx1 hx2 (h.2.2.2.2.2.2.2.2.2.2.2.2.1 g12) hc hs C hl kk
  by_cases g13 : x0 &&& 63 = 13
  · refine lv_tableIn (tgt := 901) X.F.x X.F.b dL_law_44 (by rw [g13]; decide) (by rw [g13]; decide) (by rw [g13]; rfl) (by decide) ?_
    exact lawT13 X hf hi1 hi2 hx1 hx2 (h.2.2.2.2.2.2.2.2.2.2.2.2.2.1 g13) hc hs C hl kk
  by_cases g14 : x0 &&& 63 = 14
  · refine lv_tableIn (tgt := 957) X.F.x X.F.b dL_law_44 (by rw [g14]; decide) (by rw [g14]; decide) (by rw [g14]; rfl) (by decide) ?_
    exact lawT14 X hf hi1 hi2 hx1 hx2 (h.2.2.2.2.2.2.2.2.2.2.2.2.2.2.1 g14) hc hs C hl kk
  by_cases g15 : x0 &&& 63 = 15
  · refine lv_tableIn (tgt := 1013) X.F.x X.F.b dL_law_44 (by rw [g15]; decide) (by rw [g15]; decide) (by rw [g15]; rfl) (by decide) ?_
    exact lawT15 X hf hi1 hi2 hx1 hx2 (h.2.2.2.2.2.2.2.2.2.2.2.2.2.2.2.1 g15) hc hs C hl kk
  by_cases g16 : x0 &&& 63 = 16
  · refine lv_tableIn (tgt := 1069) X.F.x X.F.b dL_law_44 (by rw [g16]; decide) (by rw [g16]; decide) (by rw [g16]; rfl) (by decide) ?_
    exact lawT16 X hf hi1 hi2 hx1 hx2 (h.2.2.2.2.2.2.2.2.2.2.2.2.2.2.2.2.1 g16) hc hs C hl kk
  by_cases g17 : x0 &&& 63 = 17
  · refine lv_tableIn (tgt := 1125) X.F.x X.F.b dL_law_44 (by rw [g17]; decide) (by rw [g17]; decide) (by rw [g17]; rfl) (by decide) ?_
    exact lawT17 X hf hi1 hi2 hx1 hx2 (h.2.2.2.2.2.2.2.2.2.2.2.2.2.2.2.2.2.1 g17) hc hs C hl kk
  by_cases g18 : x0 &&& 63 = 18
  · refine lv_tableIn (tgt := 1181) X.F.x X.F.b dL_law_44 (by rw [g18]; decide) (by rw [g18]; decide) (by rw [g18]; rfl) (by decide) ?_
    exact lawT18 X hf hi1 hi2 hx1 hx2 (h.2.2.2.2.2.2.2.2.2.2.2.2.2.2.2.2.2.2.1 g18) hc hs C hl kk
  by_cases g19 : x0 &&& 63 = 19
  · refine lv_tableIn (tgt := 1194) X.F.x X.F.b dL_law_44 (by rw [g19]; decide) (by rw [g19]; decide) (by rw [g19]; rfl) (by decide) ?_
    exact lawT19 X hf hi1 hi2 hx1 hx2 (h.2.2.2.2.2.2.2.2.2.2.2.2.2.2.2.2.2.2.2.1 g19) hc hs C hl kk
  by_cases g20 : x0 &&& 63 = 20
  · refine lv_tableIn (tgt := 1252) X.F.x X.F.b dL_law_44 (by rw [g20]; decide) (by rw [g20]; decide) (by rw [g20]; rfl) (by decide) ?_
    exact lawT20 X hf hi1 hi2 hx1 hx2 (h.2.2.2.2.2.2.2.2.2.2.2.2.2.2.2.2.2.2.2.2.1 g20) hc hs C hl kk
  by_cases g21 : x0 &&& 63 = 21
  · refine lv_tableIn (tgt := 1296) X.F.x X.F.b dL_law_44 (by rw [g21]; decide) (by rw [g21]; decide) (by rw [g21]; rfl) (by decide) ?_
    exact lawT21 X hf hi1 hi2 hx1 hx2 (h.2.2.2.2.2.2.2.2.2.2.2.2.2.2.2.2.2.2.2.2.2.1 g21) hc hs C hl kk
  by_cases g22 : x0 &&& 63 = 22
  · refine lv_tableIn (tgt := 1352) X.F.x X.F.b dL_law_44 (by rw [g22]; decide) (by rw [g22]; decide) (by rw [g22]; rfl) (by decide) ?_
    exact lawT22 X hf hi1 hi2 hx1 hx2 (h.2.2.2.2.2.2.2.2.2.2.2.2.2.2.2.2.2.2.2.2.2.2.1 g22) hc hs C hl kk
  by_cases g23 : x0 &&& 63 = 23
  · refine lv_tableIn (tgt := 1396) X.F.x X.F.b dL_law_44 (by rw [g23]; decide) (by rw [g23]; decide) (by rw [g23]; rfl) (by decide) ?_
    exact lawT23 X hf hi1 hi2 hx1 hx2 (h.2.2.2.2.2.2.2.2.2.2.2.2.2.2.2.2.2.2.2.2.2.2.2.1 g23) hc hs C hl kk
  by_cases g24 : x0 &&& 63 = 24
  · refine lv_tableIn (tgt := 1468) X.F.x X.F.b dL_law_44 (by rw [g24]; decide) (by rw [g24]; decide) (by rw [g24]; rfl) (by decide) ?_
    exact lawT24 X hf hi1 hi2 hx1 hx2 (h.2.2.2.2.2.2.2.2.2.2.2.2.2.2.2.2.2.2.2.2.2.2.2.2.1 g24) hc hs C hl kk
  by_cases g25 : x0 &&& 63 = 25
  · refine lv_tableIn (tgt := 1481) X.F.x X.F.b dL_law_44 (by rw [g25]; decide) (by rw [g25]; decide) (by rw [g25]; rfl) (by decide) ?_
    exact lawT25 X hf hi1 hi2 hx1 hx2 (h.2.2.2.2.2.2.2.2.2.2.2.2.2.2.2.2.2.2.2.2.2.2.2.2.2.1 g25) hc hs C hl kk
  by_cases g26 : x0 &&& 63 = 26
  · refine lv_tableIn (tgt := 1537) X.F.x X.F.b dL_law_44 (by rw [g26]; decide) (by rw [g26]; decide) (by rw [g26]; rfl) (by decide) ?_
    exact lawT26 X hf hi1 hi2 hx1 hx2 (h.2.2.2.2.2.2.2.2.2.2.2.2.2.2.2.2.2.2.2.2.2.2.2.2.2.2.1 g26) hc hs C hl kk
  by_cases g27 : x0 &&& 63 = 27
  · refine lv_tableIn (tgt := 1593) X.F.x X.F.b dL_law_44 (by rw [g27]; decide) (by rw [g27]; decide) (by rw [g27]; rfl) (by decide) ?_
    exact lawT27 X hf hi1 hi2 hx1 hx2 (h.2.2.2.2.2.2.2.2.2.2.2.2.2.2.2.2.2.2.2.2.2.2.2.2.2.2.2.1 g27) hc hs C hl kk
  by_cases g28 : x0 &&& 63 = 28
  · refine lv_tableIn (tgt := 1606) X.F.x X.F.b dL_law_44 (by rw [g28]; decide) (by rw [g28]; decide) (by rw [g28]; rfl) (by decide) ?_
    exact lawT28 X hf hi1 hi2 hx1 hx2 (h.2.2.2.2.2.2.2.2.2.2.2.2.2.2.2.2.2.2.2.2.2.2.2.2.2.2.2.2.1 g28) hc hs C hl kk
  by_cases g29 : x0 &&& 63 = 29
  · refine lv_tableIn (tgt := 1671) X.F.x X.F.b dL_law_44 (by rw [g29]; decide) (by rw [g29]; decide) (by rw [g29]; rfl) (by decide) ?_
    exact lawT29 X hf hi1 hi2 hx1 hx2 (h.2.2.2.2.2.2.2.2.2.2.2.2.2.2.2.2.2.2.2.2.2.2.2.2.2.2.2.2.2.1 g29) hc hs C hl kk
  by_cases g30 : x0 &&& 63 = 30
  · refine lv_tableIn (tgt := 1737) X.F.x X.F.b dL_law_44 (by rw [g30]; decide) (by rw [g30]; decide) (by rw [g30]; rfl) (by decide) ?_
    exact lawT30 X hf hi1 hi2 hx1 hx2 (h.2.2.2.2.2.2.2.2.2.2.2.2.2.2.2.2.2.2.2.2.2.2.2.2.2.2.2.2.2.2.1 g30) hc hs C hl kk
  by_cases g31 : x0 &&& 63 = 31
  · refine lv_tableIn (tgt := 1781) X.F.x X.F.b dL_law_44 (by rw [g31]; decide) (by rw [g31]; decide) (by rw [g31]; rfl) (by decide) ?_
    exact lawT31 X hf hi1 hi2 hx1 hx2 (h.2.2.2.2.2.2.2.2.2.2.2.2.2.2.2.2.2.2.2.2.2.2.2.2.2.2.2.2.2.2.2.1 g31) hc hs C hl kk
  by_cases g32 : x0 &&& 63 = 32
  · refine lv_tableIn (tgt := 1794) X.F.x X.F.b dL_law_44 (by rw [g32]; decide) (by rw [g32]; decide) (by rw [g32]; rfl) (by decide) ?_
    exact lawT32 X hf hi1 hi2 hx1 hx2 (h.2.2.2.2.2.2.2.2.2.2.2.2.2.2.2.2.2.2.2.2.2.2.2.2.2.2.2.2.2.2.2.2.1 g32) hc hs C hl kk
  refine lv_tableOut (tgt := 1838) X.F.x X.F.b dL_law_44 (sw_out _ 0 32 (by decide) (by decide) (fun z h1 h2 => ?_)) (by decide) ?_
  · rcases (show z = 0 ∨ z = 1 ∨ z = 2 ∨ z = 3 ∨ z = 4 ∨ z = 5 ∨ z = 6 ∨ z = 7 ∨ z = 8 ∨ z = 9 ∨ z = 10 ∨ z = 11 ∨ z = 12 ∨ z = 13 ∨ z = 14 ∨ z = 15 ∨ z = 16 ∨ z = 17 ∨ z = 18 ∨ z = 19 ∨ z = 20 ∨ z = 21 ∨ z = 22 ∨ z = 23 ∨ z = 24 ∨ z = 25 ∨ z = 26 ∨ z = 27 ∨ z = 28 ∨ z = 29 ∨ z = 30 ∨ z = 31 ∨ z = 32 by omega) with rfl | rfl | rfl | rfl | rfl | rfl | rfl | rfl | rfl | rfl | rfl | rfl | rfl | rfl | rfl | rfl | rfl | rfl | rfl | rfl | rfl | rfl | rfl | rfl | rfl | rfl | rfl | rfl | rfl | rfl | rfl | rfl | rfl
    · exact g0
    · exact g1
    · exact g2
    · exact g3
    · exact g4
    · exact g5
    · exact g6
    · exact g7
    · exact g8
    · exact g9
    · exact g10
    · exact g11
    · exact g12
    · exact g13
    · exact g14
    · exact g15
    · exact g16
    · exact g17
    · exact g18
    · exact g19
    · exact g20
    · exact g21
    · exact g22
    · exact g23
    · exact g24
    · exact g25
    · exact g26
    · exact g27
    · exact g28
    · exact g29
    · exact g30
    · exact g31
    · exact g32
  · refine W.widen (k := cells + 3) (n := slots + 18) (by omega) (by omega) ?_
    exact kk _ _ _ _ _ _ (h.2.2.2.2.2.2.2.2.2.2.2.2.2.2.2.2.2.2.2.2.2.2.2.2.2.2.2.2.2.2.2.2.2 ⟨g0, g1, g2, g3, g4, g5, g6, g7, g8, g9, g10, g11, g12, g13, g14, g15, g16, g17, g18, g19, g20, g21, g22, g23, g24, g25, g26, g27, g28, g29, g30, g31, g32⟩) C hl
theorem lawL_cmp {L k : Nat} (hL : L ≤ 1536) (hk : k ≤ 1536) : Int32.ofNat L - 3 < nI k ↔ L < k + 3 := by
  have h1 : (Int32.ofNat L - 3).toInt = (L : Int) - 3 := pk_sub_toInt (a := L) (b := 3) (by omega) (by omega)
  rw [Int32.lt_iff_toInt_lt, h1, nI_toInt (by omega)]
  omega
theorem lawL_in {L k j : Nat} (hL : L ≤ 1536) (h : k + j < L) : vp_in (nI k + nI j) L := by
  rw [nI_add]
  exact nI_in h (by omega)
theorem law_loop {p : Program} {l : Launch} {e : Env} {s : State} {m : MethodId} {args : Array Value} {below : List Frame} {meth : Method} {c : Code} {Q : State → Prop} {D : va_G} {ky : Nat → ClassId} {ad : Nat → Nat} {ex : Nat → Nat → Nat} {b L : Nat} {xs : Nat → Int32} {ao a2 : Nat} (X : Lx p s m args meth c D ky ad ex b L xs ao a2) (hf : l.stackTraces = false) (hL : L ≤ 1536) {Inv : Mem → Prop} (hstep : ∀ (S : Mem) (f : Nat → Int64) (g : Nat → UInt64) (x0 x1 x2 : Int32), Inv S → lawStep (fun S1 _ _ => Inv S1) S f g x0 x1 x2) (hend : ∀ (H : Heap) (ls : Array Slot), W p l e room_1 s m args below meth c H [] 603072 7215210 Q (F0 m 1845 ls [.int 1])) : ∀ (n k : Nat) (S : Mem) (f : Nat → Int64) (g : Nat → UInt64) (H : Heap) (locs : List Loc) (ls : Array Slot) (cells slots : Nat), k ≤ 1536 → L ≤ k + 3 * n + 2 → cells + 3 * n ≤ 603072 → slots + 18 * n ≤ 7215210 → Inv S → Cg D ky ad s (fun q => s.heap.size ≤ q) S [(ao, lce ky f), (a2, dce ky g)] H locs → lv_has ls 9 [(0, .ref b), (1, .ref (ad 110)), (2, .ref (ad 117)), (3, .ref ao), (4, .ref a2), (5, .int (nI k))] → W p l e room_1 s m args below meth c H locs cells slots Q (F0 m 28 ls []) := by
  intro n
  induction n with
  | zero =>
    intro k S f g H locs ls cells slots hk hn hc hs hI C hl
    refine lv_iload X.F.x X.F.b dL_law_28 (lv_at hl 5 rfl) ?_
    refine lv_aload_n X.F.x X.F.b dL_law_30 rfl (lv_at hl 0 rfl) ?_
    refine va_slen X.F.x X.F.b X.X X.bl X.nb C.2.2.1 dL_law_31 ?_
    refine lv_iconst (v := 3) X.F.x X.F.b dL_law_32 (by decide) ?_
    refine lv_isub X.F.x X.F.b dL_law_33 ?_
    refine lv_icmp_gt (tgt := 1844) X.F.x X.F.b dL_law_34 (by decide) (fun h9 => ?_) (fun h9 => absurd ((lawL_cmp hL hk).mpr (by omega)) h9)
    refine lv_iconst (v := 1) X.F.x X.F.b dL_law_1844 (by decide) ?_
    refine va_forget (fun q hq => C.2.2.1.2.2 q hq) ?_
    refine W.widen (k := 603072) (n := 7215210) (by omega) (by omega) ?_
    exact hend _ _
  | succ n ih =>
    intro k S f g H locs ls cells slots hk hn hc hs hI C hl
    refine lv_iload X.F.x X.F.b dL_law_28 (lv_at hl 5 rfl) ?_
    refine lv_aload_n X.F.x X.F.b dL_law_30 rfl (lv_at hl 0 rfl) ?_
    refine va_slen X.F.x X.F.b X.X X.bl X.nb C.2.2.1 dL_law_31 ?_
    refine lv_iconst (v := 3) X.F.x X.F.b dL_law_32 (by decide) ?_
    refine lv_isub X.F.x X.F.b dL_law_33 ?_
    refine lv_icmp_gt (tgt := 1844) X.F.x X.F.b dL_law_34 (by decide) (fun h9 => ?_) (fun h9 => ?_)
    · refine lv_iconst (v := 1) X.F.x X.F.b dL_law_1844 (by decide) ?_
      refine va_forget (fun q hq => C.2.2.1.2.2 q hq) ?_
      refine W.widen (k := 603072) (n := 7215210) (by omega) (by omega) ?_
      exact hend _ _
    · have hlt : k + 3 ≤ L := Nat.not_lt.mp (fun h => h9 ((lawL_cmp hL hk).mpr h))
      refine lv_aload_n X.F.x X.F.b dL_law_37 rfl (lv_at hl 0 rfl) ?_
      refine lv_iload X.F.x X.F.b dL_law_38 (lv_at hl 5 rfl) ?_
      refine gSld X.F C X.X X.bl X.nb (nI_in (by omega) (by omega)) rfl dL_law_40 ?_
      refine lv_bipush (v := 63) X.F.x X.F.b dL_law_41 (by decide) ?_
      refine lv_iand X.F.x X.F.b dL_law_43 ?_
      refine law_switch X hf (lawL_in (j := 1) hL (by omega)) (lawL_in (j := 2) hL (by omega)) rfl rfl (hstep S f g _ _ _ hI) (by omega) (by omega) C hl (fun S f g H locs ls hI C hl => ?_)
      refine lv_iinc (v := nI (k + 3)) (lv' := [(5, .int (nI (k + 3))), (0, .ref b), (1, .ref (ad 110)), (2, .ref (ad 117)), (3, .ref ao), (4, .ref a2)]) X.F.x X.F.b dL_law_1838 hl (k := 5) rfl (nI_add k 3) (by decide) rfl (fun ls hl => ?_)
      refine lv_goto (tgt := 28) X.F.x X.F.b dL_law_1841 (by decide) ?_
      exact ih (k + 3) S f g H locs ls (cells + 3) (slots + 18) (by omega) (by omega) (by omega) (by omega) hI C (lv_sub hl [1, 2, 3, 4, 5, 0] rfl)
