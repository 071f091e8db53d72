theorem strOf {args : Array Value} {s : State} {tm : Term} {n : Nat} {bs : List Int32} {A : Nat → Prop} (hn : n < 2 ^ 31) (hex : (Cond.exactly tm "java/lang/String").before args s = true) (hco : (Cond.eq (.field tm "java/lang/String" "coder" "B") (.int 0)).before args s = true)
    (har : (Cond.arrayOf (.field tm "java/lang/String" "value" "[B") .byte).before args s = true) (hle : (Cond.eq (.length (.field tm "java/lang/String" "value" "[B")) (.int (Int32.ofNat n))).before args s = true)
    (hel : ∀ j : Nat, j < n → (Cond.eq (.elem (.field tm "java/lang/String" "value" "[B") (.int (Int32.ofNat j))) (.int (bs.getD j 0))).before args s = true) (hA : ∀ a : Nat, a < s.heap.size → ¬ A a) :
    ∃ a v : Nat, vk_S 1 [n] [bs] (fun _ => a) (fun _ => v) A s s.heap ∧ tm.eval args s none [] s = some (.ref a) := by
  have h0 : ∀ i : Nat, i < 1 → i = 0 := fun i hi => by omega
  obtain ⟨adK, adV, h1, h2⟩ := vk_Sof (N := 1) (tm := fun _ => tm) (len := [n]) (byt := [bs]) (A := A) (fun i hi => by cases h0 i hi; exact hn) (fun i hi => hex) (fun i hi => hco) (fun i hi => har) (fun i hi => by cases h0 i hi; exact hle) (fun i hi j hj => by cases h0 i hi; exact hel j hj) (fun i j hi hj e => by cases h0 i hi; cases h0 j hj; exact absurd rfl e) hA
  refine ⟨adK 0, adV 0, ⟨fun i hi => ?_, fun i j hi hj _ => by rw [h0 i hi, h0 j hj]⟩, h2 0 (by decide)⟩
  have h3 := h1.1 i hi
  cases h0 i hi
  exact h3
theorem xs_back (x : Int32) : Int32.ofNat x.toUInt32.toNat = x := by
  apply Int32.toBitVec_inj.mp
  simp
theorem va_X.congr {b L : Nat} {xs ys : Nat → Int32} {U : State} {H : Heap} (h : ∀ j, ys j = xs j) (hX : va_X b L xs U H) : va_X b L ys U H := by
  rw [show ys = xs from funext h]
  exact hX
set_option maxRecDepth 100000 in
set_option maxHeartbeats 4000000 in
theorem start_st {args : Array Value} {s : State} {A : Nat → Prop} {bx Lx : Nat} {xs : Nat → Int32} (hts : ∀ w ∈ lw_tbl, w.before args s = true) (hgv : (Jvm.Cond.and given_1 narrow_1).before args s = true) (hA : ∀ a : Nat, a < s.heap.size → ¬ A a) (hX : va_X bx Lx xs s s.heap) (hbx : ¬ A bx) : ∃ ex : Nat → Nat → Nat, ST ex A s s.heap ∧ ex 4 0 = bx ∧ ex 4 1 = Lx ∧ ∀ j, xsE ex j = xs j := by
  have hg := flat_of_before _ hgv
  obtain ⟨a0, v0, hs0, he0⟩ := strOf (A := A) (tm := .string "FordToll$Word" 67) (n := 6) (bs := [119, 97, 108, 107, 101, 114]) (by decide) (hg _ g700) (hg _ g701) (hg _ g702) (hg _ g703) (fun j hj => by rcases (show j = 0 ∨ j = 1 ∨ j = 2 ∨ j = 3 ∨ j = 4 ∨ j = 5 by omega) with rfl | rfl | rfl | rfl | rfl | rfl; exact (hg _ g704); exact (hg _ g705); exact (hg _ g706); exact (hg _ g707); exact (hg _ g708); exact (hg _ g709)) hA
  obtain ⟨a1, v1, hs1, he1⟩ := strOf (A := A) (tm := .string "FordToll$Word" 73) (n := 7) (bs := [99, 97, 114, 114, 105, 101, 114]) (by decide) (hg _ g710) (hg _ g711) (hg _ g712) (hg _ g713) (fun j hj => by rcases (show j = 0 ∨ j = 1 ∨ j = 2 ∨ j = 3 ∨ j = 4 ∨ j = 5 ∨ j = 6 by omega) with rfl | rfl | rfl | rfl | rfl | rfl | rfl; exact (hg _ g714); exact (hg _ g715); exact (hg _ g716); exact (hg _ g717); exact (hg _ g718); exact (hg _ g719); exact (hg _ g720)) hA
  obtain ⟨a2, v2, hs2, he2⟩ := strOf (A := A) (tm := .string "FordToll$Word" 76) (n := 6) (bs := [100, 111, 110, 107, 101, 121]) (by decide) (hg _ g721) (hg _ g722) (hg _ g723) (hg _ g724) (fun j hj => by rcases (show j = 0 ∨ j = 1 ∨ j = 2 ∨ j = 3 ∨ j = 4 ∨ j = 5 by omega) with rfl | rfl | rfl | rfl | rfl | rfl; exact (hg _ g725); exact (hg _ g726); exact (hg _ g727); exact (hg _ g728); exact (hg _ g729); exact (hg _ g730)) hA
  obtain ⟨a3, v3, hs3, he3⟩ := strOf (A := A) (tm := .string "FordToll$Word" 79) (n := 4) (bs := [110, 101, 97, 114]) (by decide) (hg _ g731) (hg _ g732) (hg _ g733) (hg _ g734) (fun j hj => by rcases (show j = 0 ∨ j = 1 ∨ j = 2 ∨ j = 3 by omega) with rfl | rfl | rfl | rfl; exact (hg _ g735); exact (hg _ g736); exact (hg _ g737); exact (hg _ g738)) hA
  obtain ⟨a4, v4, hs4, he4⟩ := strOf (A := A) (tm := .string "FordToll$Word" 82) (n := 3) (bs := [102, 97, 114]) (by decide) (hg _ g739) (hg _ g740) (hg _ g741) (hg _ g742) (fun j hj => by rcases (show j = 0 ∨ j = 1 ∨ j = 2 by omega) with rfl | rfl | rfl; exact (hg _ g743); exact (hg _ g744); exact (hg _ g745)) hA
  obtain ⟨a5, v5, hs5, he5⟩ := strOf (A := A) (tm := .string "FordToll$Word" 85) (n := 5) (bs := [115, 116, 111, 110, 101]) (by decide) (hg _ g746) (hg _ g747) (hg _ g748) (hg _ g749) (fun j hj => by rcases (show j = 0 ∨ j = 1 ∨ j = 2 ∨ j = 3 ∨ j = 4 by omega) with rfl | rfl | rfl | rfl | rfl; exact (hg _ g750); exact (hg _ g751); exact (hg _ g752); exact (hg _ g753); exact (hg _ g754)) hA
  obtain ⟨a6, v6, hs6, he6⟩ := strOf (A := A) (tm := .string "FordToll$Word" 88) (n := 3) (bs := [111, 117, 116]) (by decide) (hg _ g755) (hg _ g756) (hg _ g757) (hg _ g758) (fun j hj => by rcases (show j = 0 ∨ j = 1 ∨ j = 2 by omega) with rfl | rfl | rfl; exact (hg _ g759); exact (hg _ g760); exact (hg _ g761)) hA
  obtain ⟨a7, v7, hs7, he7⟩ := strOf (A := A) (tm := .string "FordToll$Word" 91) (n := 3) (bs := [119, 101, 116]) (by decide) (hg _ g762) (hg _ g763) (hg _ g764) (hg _ g765) (fun j hj => by rcases (show j = 0 ∨ j = 1 ∨ j = 2 by omega) with rfl | rfl | rfl; exact (hg _ g766); exact (hg _ g767); exact (hg _ g768)) hA
  obtain ⟨a8, v8, hs8, he8⟩ := strOf (A := A) (tm := .string "FordToll$Word" 94) (n := 4) (bs := [108, 111, 97, 100]) (by decide) (hg _ g769) (hg _ g770) (hg _ g771) (hg _ g772) (fun j hj => by rcases (show j = 0 ∨ j = 1 ∨ j = 2 ∨ j = 3 by omega) with rfl | rfl | rfl | rfl; exact (hg _ g773); exact (hg _ g774); exact (hg _ g775); exact (hg _ g776)) hA
  obtain ⟨a9, v9, hs9, he9⟩ := strOf (A := A) (tm := .string "FordToll$Word" 97) (n := 7) (bs := [99, 114, 111, 115, 115, 101, 100]) (by decide) (hg _ g777) (hg _ g778) (hg _ g779) (hg _ g780) (fun j hj => by rcases (show j = 0 ∨ j = 1 ∨ j = 2 ∨ j = 3 ∨ j = 4 ∨ j = 5 ∨ j = 6 by omega) with rfl | rfl | rfl | rfl | rfl | rfl | rfl; exact (hg _ g781); exact (hg _ g782); exact (hg _ g783); exact (hg _ g784); exact (hg _ g785); exact (hg _ g786); exact (hg _ g787)) hA
  obtain ⟨a10, v10, hs10, he10⟩ := strOf (A := A) (tm := .string "FordTollLaw" 220) (n := 1) (bs := [113]) (by decide) (hg _ g677) (hg _ g678) (hg _ g679) (hg _ g680) (fun j hj => by rcases (show j = 0 by omega) with rfl; exact (hg _ g681)) hA
  obtain ⟨a11, v11, hs11, he11⟩ := strOf (A := A) (tm := .string "FordTollLaw" 228) (n := 14) (bs := [110, 101, 97, 114, 47, 102, 97, 114, 47, 115, 116, 111, 110, 101]) (by decide) (hg _ g682) (hg _ g683) (hg _ g684) (hg _ g685) (fun j hj => by rcases (show j = 0 ∨ j = 1 ∨ j = 2 ∨ j = 3 ∨ j = 4 ∨ j = 5 ∨ j = 6 ∨ j = 7 ∨ j = 8 ∨ j = 9 ∨ j = 10 ∨ j = 11 ∨ j = 12 ∨ j = 13 by omega) with rfl | rfl | rfl | rfl | rfl | rfl | rfl | rfl | rfl | rfl | rfl | rfl | rfl | rfl; exact (hg _ g686); exact (hg _ g687); exact (hg _ g688); exact (hg _ g689); exact (hg _ g690); exact (hg _ g691); exact (hg _ g692); exact (hg _ g693); exact (hg _ g694); exact (hg _ g695); exact (hg _ g696); exact (hg _ g697); exact (hg _ g698); exact (hg _ g699)) hA
  obtain ⟨w0, _, _, _, ht0, -⟩ := Cond.exactly_spec (args := args) (first := s) (o := none) (s := s) (idx := []) (t := .static "FordToll$Word" "IS_WALKER" "LFordToll$Word;") (cls := "FordToll$Word") (hg _ g26)
  have hw0 : va_O sdW w0 A s s.heap ∧ va_OF sdW "spelling" "Ljava/lang/String;" (.ref a0) w0 A s s.heap ∧ va_OF sdW "what" "I" (.int (0)) w0 A s s.heap ∧ va_OF sdW "number" "I" (.int (0)) w0 A s s.heap :=
    ⟨va_Oof (hg _ g26) ht0 hA, vk_OFof ht0 (va_eqv (hg _ g28) he0) hA, vk_OFof ht0 (va_eqt (hg _ g29)) hA, vk_OFof ht0 (va_eqt (hg _ g30)) hA⟩
  obtain ⟨w1, _, _, _, ht1, -⟩ := Cond.exactly_spec (args := args) (first := s) (o := none) (s := s) (idx := []) (t := .static "FordToll$Word" "IS_CARRIER" "LFordToll$Word;") (cls := "FordToll$Word") (hg _ g31)
  have hw1 : va_O sdW w1 A s s.heap ∧ va_OF sdW "spelling" "Ljava/lang/String;" (.ref a1) w1 A s s.heap ∧ va_OF sdW "what" "I" (.int (0)) w1 A s s.heap ∧ va_OF sdW "number" "I" (.int (1)) w1 A s s.heap :=
    ⟨va_Oof (hg _ g31) ht1 hA, vk_OFof ht1 (va_eqv (hg _ g33) he1) hA, vk_OFof ht1 (va_eqt (hg _ g34)) hA, vk_OFof ht1 (va_eqt (hg _ g35)) hA⟩
  obtain ⟨w2, _, _, _, ht2, -⟩ := Cond.exactly_spec (args := args) (first := s) (o := none) (s := s) (idx := []) (t := .static "FordToll$Word" "IS_DONKEY" "LFordToll$Word;") (cls := "FordToll$Word") (hg _ g37)
  have hw2 : va_O sdW w2 A s s.heap ∧ va_OF sdW "spelling" "Ljava/lang/String;" (.ref a2) w2 A s s.heap ∧ va_OF sdW "what" "I" (.int (0)) w2 A s s.heap ∧ va_OF sdW "number" "I" (.int (2)) w2 A s s.heap :=
    ⟨va_Oof (hg _ g37) ht2 hA, vk_OFof ht2 (va_eqv (hg _ g39) he2) hA, vk_OFof ht2 (va_eqt (hg _ g40)) hA, vk_OFof ht2 (va_eqt (hg _ g41)) hA⟩
  obtain ⟨w3, _, _, _, ht3, -⟩ := Cond.exactly_spec (args := args) (first := s) (o := none) (s := s) (idx := []) (t := .static "FordToll$Word" "IS_NEAR" "LFordToll$Word;") (cls := "FordToll$Word") (hg _ g44)
  have hw3 : va_O sdW w3 A s s.heap ∧ va_OF sdW "spelling" "Ljava/lang/String;" (.ref a3) w3 A s s.heap ∧ va_OF sdW "what" "I" (.int (9)) w3 A s s.heap ∧ va_OF sdW "number" "I" (.int (0)) w3 A s s.heap :=
    ⟨va_Oof (hg _ g44) ht3 hA, vk_OFof ht3 (va_eqv (hg _ g46) he3) hA, vk_OFof ht3 (va_eqt (hg _ g47)) hA, vk_OFof ht3 (va_eqt (hg _ g48)) hA⟩
  obtain ⟨w4, _, _, _, ht4, -⟩ := Cond.exactly_spec (args := args) (first := s) (o := none) (s := s) (idx := []) (t := .static "FordToll$Word" "IS_FAR" "LFordToll$Word;") (cls := "FordToll$Word") (hg _ g52)
  have hw4 : va_O sdW w4 A s s.heap ∧ va_OF sdW "spelling" "Ljava/lang/String;" (.ref a4) w4 A s s.heap ∧ va_OF sdW "what" "I" (.int (9)) w4 A s s.heap ∧ va_OF sdW "number" "I" (.int (2)) w4 A s s.heap :=
    ⟨va_Oof (hg _ g52) ht4 hA, vk_OFof ht4 (va_eqv (hg _ g54) he4) hA, vk_OFof ht4 (va_eqt (hg _ g55)) hA, vk_OFof ht4 (va_eqt (hg _ g56)) hA⟩
  obtain ⟨w5, _, _, _, ht5, -⟩ := Cond.exactly_spec (args := args) (first := s) (o := none) (s := s) (idx := []) (t := .static "FordToll$Word" "IS_ON_STONE" "LFordToll$Word;") (cls := "FordToll$Word") (hg _ g61)
  have hw5 : va_O sdW w5 A s s.heap ∧ va_OF sdW "spelling" "Ljava/lang/String;" (.ref a5) w5 A s s.heap ∧ va_OF sdW "what" "I" (.int (9)) w5 A s s.heap ∧ va_OF sdW "number" "I" (.int (1)) w5 A s s.heap :=
    ⟨va_Oof (hg _ g61) ht5 hA, vk_OFof ht5 (va_eqv (hg _ g63) he5) hA, vk_OFof ht5 (va_eqt (hg _ g64)) hA, vk_OFof ht5 (va_eqt (hg _ g65)) hA⟩
  obtain ⟨w6, _, _, _, ht6, -⟩ := Cond.exactly_spec (args := args) (first := s) (o := none) (s := s) (idx := []) (t := .static "FordToll$Word" "IS_OUT" "LFordToll$Word;") (cls := "FordToll$Word") (hg _ g71)
  have hw6 : va_O sdW w6 A s s.heap ∧ va_OF sdW "spelling" "Ljava/lang/String;" (.ref a6) w6 A s s.heap ∧ va_OF sdW "what" "I" (.int (4)) w6 A s s.heap ∧ va_OF sdW "number" "I" (.int (1)) w6 A s s.heap :=
    ⟨va_Oof (hg _ g71) ht6 hA, vk_OFof ht6 (va_eqv (hg _ g73) he6) hA, vk_OFof ht6 (va_eqt (hg _ g74)) hA, vk_OFof ht6 (va_eqt (hg _ g75)) hA⟩
  obtain ⟨w7, _, _, _, ht7, -⟩ := Cond.exactly_spec (args := args) (first := s) (o := none) (s := s) (idx := []) (t := .static "FordToll$Word" "HAS_WET" "LFordToll$Word;") (cls := "FordToll$Word") (hg _ g82)
  have hw7 : va_O sdW w7 A s s.heap ∧ va_OF sdW "spelling" "Ljava/lang/String;" (.ref a7) w7 A s s.heap ∧ va_OF sdW "what" "I" (.int (2)) w7 A s s.heap ∧ va_OF sdW "number" "I" (.int (-1)) w7 A s s.heap :=
    ⟨va_Oof (hg _ g82) ht7 hA, vk_OFof ht7 (va_eqv (hg _ g84) he7) hA, vk_OFof ht7 (va_eqt (hg _ g85)) hA, vk_OFof ht7 (va_eqt (hg _ g86)) hA⟩
  obtain ⟨w8, _, _, _, ht8, -⟩ := Cond.exactly_spec (args := args) (first := s) (o := none) (s := s) (idx := []) (t := .static "FordToll$Word" "HAS_LOAD" "LFordToll$Word;") (cls := "FordToll$Word") (hg _ g94)
  have hw8 : va_O sdW w8 A s s.heap ∧ va_OF sdW "spelling" "Ljava/lang/String;" (.ref a8) w8 A s s.heap ∧ va_OF sdW "what" "I" (.int (1)) w8 A s s.heap ∧ va_OF sdW "number" "I" (.int (-1)) w8 A s s.heap :=
    ⟨va_Oof (hg _ g94) ht8 hA, vk_OFof ht8 (va_eqv (hg _ g96) he8) hA, vk_OFof ht8 (va_eqt (hg _ g97)) hA, vk_OFof ht8 (va_eqt (hg _ g98)) hA⟩
  obtain ⟨w9, _, _, _, ht9, -⟩ := Cond.exactly_spec (args := args) (first := s) (o := none) (s := s) (idx := []) (t := .static "FordToll$Word" "HAS_CROSSED" "LFordToll$Word;") (cls := "FordToll$Word") (hg _ g107)
  have hw9 : va_O sdW w9 A s s.heap ∧ va_OF sdW "spelling" "Ljava/lang/String;" (.ref a9) w9 A s s.heap ∧ va_OF sdW "what" "I" (.int (7)) w9 A s s.heap ∧ va_OF sdW "number" "I" (.int (-1)) w9 A s s.heap :=
    ⟨va_Oof (hg _ g107) ht9 hA, vk_OFof ht9 (va_eqv (hg _ g109) he9) hA, vk_OFof ht9 (va_eqt (hg _ g110)) hA, vk_OFof ht9 (va_eqt (hg _ g111)) hA⟩
  obtain ⟨t, htm, hT⟩ := va_Tof (tm := .static "FordToll" "WORDS" "[LFordToll$Word;") (ty := .object sdW) (N := 10) (f := fun j => .ref (([w0, w1, w2, w3, w4, w5, w6, w7, w8, w9] : List Nat).getD j 0)) (A := A) (by decide) (hg _ g8) (va_eqt (hg _ g9)) (fun j hj => by rcases (show j = 0 ∨ j = 1 ∨ j = 2 ∨ j = 3 ∨ j = 4 ∨ j = 5 ∨ j = 6 ∨ j = 7 ∨ j = 8 ∨ j = 9 by omega) with rfl | rfl | rfl | rfl | rfl | rfl | rfl | rfl | rfl | rfl; exact va_eqv (hg _ g11) ht0; exact va_eqv (hg _ g12) ht1; exact va_eqv (hg _ g13) ht2; exact va_eqv (hg _ g14) ht3; exact va_eqv (hg _ g15) ht4; exact va_eqv (hg _ g16) ht5; exact va_eqv (hg _ g17) ht6; exact va_eqv (hg _ g18) ht7; exact va_eqv (hg _ g19) ht8; exact va_eqv (hg _ g20) ht9) hA
  refine ⟨fun c i => match c with | 0 => ([a0, a1, a2, a3, a4, a5, a6, a7, a8, a9, a10, a11] : List Nat).getD i 0 | 1 => ([v0, v1, v2, v3, v4, v5, v6, v7, v8, v9, v10, v11] : List Nat).getD i 0 | 2 => ([w0, w1, w2, w3, w4, w5, w6, w7, w8, w9] : List Nat).getD i 0 | 3 => t | 4 => (match i with | 0 => bx | _ => Lx) | _ => (xs i).toUInt32.toNat, ⟨fun w hw => va_Nw.of (wN_on hw) (hts w (wN_tbl hw)), fun w hw => ?_, ?_, ?_, ?_, ?_, ?_, ?_, ?_, hT, ?_, ?_, ?_, hbx, va_X.congr (fun j => xs_back _) hX⟩, rfl, rfl, fun j => xs_back _⟩
  · have h0 : w.onTables = true := by
      have h2 := (List.mem_filter.mp hw).2
      cases w <;> first | rfl | cases h2
    exact va_Nw.of h0 (hts w (wC_tbl hw))
  · exact vx_Zqof (hts _ (tb_2 (List.mem_of_getElem? (i := 37) rfl))) (hts _ (tb_1 (List.mem_of_getElem? (i := 6) rfl))) (hg _ g4) hA
  · exact vx_Zqof (hts _ (tb_2 (List.mem_of_getElem? (i := 39) rfl))) (hts _ (tb_1 (List.mem_of_getElem? (i := 6) rfl))) (hg _ g5) hA
  · intro i hi
    rcases (show i = 0 ∨ i = 1 ∨ i = 2 ∨ i = 3 ∨ i = 4 ∨ i = 5 ∨ i = 6 ∨ i = 7 ∨ i = 8 ∨ i = 9 ∨ i = 10 ∨ i = 11 by omega) with rfl | rfl | rfl | rfl | rfl | rfl | rfl | rfl | rfl | rfl | rfl | rfl
    · exact hs0
    · exact hs1
    · exact hs2
    · exact hs3
    · exact hs4
    · exact hs5
    · exact hs6
    · exact hs7
    · exact hs8
    · exact hs9
    · exact hs10
    · exact hs11
  · intro i hi
    rcases (show i = 0 ∨ i = 1 by omega) with rfl | rfl
    · exact vk_R.of (hts _ (tb_5 (List.mem_of_getElem? (i := 22) rfl))) he10
    · exact vk_R.of (hts _ (tb_5 (List.mem_of_getElem? (i := 28) rfl))) he11
  · intro i hi
    rcases (show i = 0 ∨ i = 1 ∨ i = 2 ∨ i = 3 ∨ i = 4 ∨ i = 5 ∨ i = 6 ∨ i = 7 ∨ i = 8 ∨ i = 9 ∨ i = 10 ∨ i = 11 ∨ i = 12 ∨ i = 13 ∨ i = 14 ∨ i = 15 ∨ i = 16 by omega) with rfl | rfl | rfl | rfl | rfl | rfl | rfl | rfl | rfl | rfl | rfl | rfl | rfl | rfl | rfl | rfl | rfl
    · exact (by obtain ⟨z, _, _, _, hz, -⟩ := Cond.exactly_spec (args := args) (first := s) (o := none) (s := s) (idx := []) (t := .string "FordToll" 267) (cls := "java/lang/String") (hg _ g192); exact ⟨z, vk_R.of (hts _ (tb_2 (List.mem_of_getElem? (i := 117) rfl))) hz⟩)
    · exact (by obtain ⟨z, _, _, _, hz, -⟩ := Cond.exactly_spec (args := args) (first := s) (o := none) (s := s) (idx := []) (t := .string "FordToll" 270) (cls := "java/lang/String") (hg _ g209); exact ⟨z, vk_R.of (hts _ (tb_2 (List.mem_of_getElem? (i := 133) rfl))) hz⟩)
    · exact (by obtain ⟨z, _, _, _, hz, -⟩ := Cond.exactly_spec (args := args) (first := s) (o := none) (s := s) (idx := []) (t := .string "FordToll" 280) (cls := "java/lang/String") (hg _ g237); exact ⟨z, vk_R.of (hts _ (tb_2 (List.mem_of_getElem? (i := 157) rfl))) hz⟩)
    · exact (by obtain ⟨z, _, _, _, hz, -⟩ := Cond.exactly_spec (args := args) (first := s) (o := none) (s := s) (idx := []) (t := .string "FordToll" 115) (cls := "java/lang/String") (hg _ g260); exact ⟨z, vk_R.of (hts _ (tb_2 (List.mem_of_getElem? (i := 201) rfl))) hz⟩)
    · exact (by obtain ⟨z, _, _, _, hz, -⟩ := Cond.exactly_spec (args := args) (first := s) (o := none) (s := s) (idx := []) (t := .string "FordToll" 272) (cls := "java/lang/String") (hg _ g283); exact ⟨z, vk_R.of (hts _ (tb_2 (List.mem_of_getElem? (i := 234) rfl))) hz⟩)
    · exact (by obtain ⟨z, _, _, _, hz, -⟩ := Cond.exactly_spec (args := args) (first := s) (o := none) (s := s) (idx := []) (t := .string "FordToll" 170) (cls := "java/lang/String") (hg _ g304); exact ⟨z, vk_R.of (hts _ (tb_3 (List.mem_of_getElem? (i := 129) rfl))) hz⟩)
    · exact (by obtain ⟨z, _, _, _, hz, -⟩ := Cond.exactly_spec (args := args) (first := s) (o := none) (s := s) (idx := []) (t := .string "FordToll" 175) (cls := "java/lang/String") (hg _ g605); exact ⟨z, vk_R.of (hts _ (tb_4 (List.mem_of_getElem? (i := 225) rfl))) hz⟩)
    · exact (by obtain ⟨z, _, _, _, hz, -⟩ := Cond.exactly_spec (args := args) (first := s) (o := none) (s := s) (idx := []) (t := .string "FordToll" 183) (cls := "java/lang/String") (hg _ g353); exact ⟨z, vk_R.of (hts _ (tb_3 (List.mem_of_getElem? (i := 151) rfl))) hz⟩)
    · exact (by obtain ⟨z, _, _, _, hz, -⟩ := Cond.exactly_spec (args := args) (first := s) (o := none) (s := s) (idx := []) (t := .string "FordToll" 202) (cls := "java/lang/String") (hg _ g381); exact ⟨z, vk_R.of (hts _ (tb_4 (List.mem_of_getElem? (i := 47) rfl))) hz⟩)
    · exact (by obtain ⟨z, _, _, _, hz, -⟩ := Cond.exactly_spec (args := args) (first := s) (o := none) (s := s) (idx := []) (t := .string "FordToll" 208) (cls := "java/lang/String") (hg _ g641); exact ⟨z, vk_R.of (hts _ (tb_5 (List.mem_of_getElem? (i := 21) rfl))) hz⟩)
    · exact (by obtain ⟨z, _, _, _, hz, -⟩ := Cond.exactly_spec (args := args) (first := s) (o := none) (s := s) (idx := []) (t := .string "FordToll" 210) (cls := "java/lang/String") (hg _ g410); exact ⟨z, vk_R.of (hts _ (tb_4 (List.mem_of_getElem? (i := 59) rfl))) hz⟩)
    · exact (by obtain ⟨z, _, _, _, hz, -⟩ := Cond.exactly_spec (args := args) (first := s) (o := none) (s := s) (idx := []) (t := .string "FordToll" 212) (cls := "java/lang/String") (hg _ g521); exact ⟨z, vk_R.of (hts _ (tb_4 (List.mem_of_getElem? (i := 136) rfl))) hz⟩)
    · exact (by obtain ⟨z, _, _, _, hz, -⟩ := Cond.exactly_spec (args := args) (first := s) (o := none) (s := s) (idx := []) (t := .string "FordToll" 221) (cls := "java/lang/String") (hg _ g571); exact ⟨z, vk_R.of (hts _ (tb_4 (List.mem_of_getElem? (i := 217) rfl))) hz⟩)
    · exact (by obtain ⟨z, _, _, _, hz, -⟩ := Cond.exactly_spec (args := args) (first := s) (o := none) (s := s) (idx := []) (t := .string "FordToll" 247) (cls := "java/lang/String") (hg _ g544); exact ⟨z, vk_R.of (hts _ (tb_4 (List.mem_of_getElem? (i := 165) rfl))) hz⟩)
    · exact (by obtain ⟨z, _, _, _, hz, -⟩ := Cond.exactly_spec (args := args) (first := s) (o := none) (s := s) (idx := []) (t := .string "FordToll" 250) (cls := "java/lang/String") (hg _ g439); exact ⟨z, vk_R.of (hts _ (tb_4 (List.mem_of_getElem? (i := 99) rfl))) hz⟩)
    · exact (by obtain ⟨z, _, _, _, hz, -⟩ := Cond.exactly_spec (args := args) (first := s) (o := none) (s := s) (idx := []) (t := .string "FordToll" 252) (cls := "java/lang/String") (hg _ g470); exact ⟨z, vk_R.of (hts _ (tb_4 (List.mem_of_getElem? (i := 109) rfl))) hz⟩)
    · exact (by obtain ⟨z, _, _, _, hz, -⟩ := Cond.exactly_spec (args := args) (first := s) (o := none) (s := s) (idx := []) (t := .string "FordToll" 260) (cls := "java/lang/String") (hg _ g497); exact ⟨z, vk_R.of (hts _ (tb_4 (List.mem_of_getElem? (i := 121) rfl))) hz⟩)
  · intro i hi
    rcases (show i = 0 ∨ i = 1 ∨ i = 2 ∨ i = 3 ∨ i = 4 ∨ i = 5 ∨ i = 6 ∨ i = 7 ∨ i = 8 ∨ i = 9 by omega) with rfl | rfl | rfl | rfl | rfl | rfl | rfl | rfl | rfl | rfl
    · exact hw0
    · exact hw1
    · exact hw2
    · exact hw3
    · exact hw4
    · exact hw5
    · exact hw6
    · exact hw7
    · exact hw8
    · exact hw9
  · exact va_Zof (hts _ (tb_3 (List.mem_of_getElem? (i := 205) rfl))) (hts _ (tb_1 (List.mem_of_getElem? (i := 1) rfl))) htm hA
  · exact va_Zof (hts _ (tb_3 (List.mem_of_getElem? (i := 219) rfl))) (hts _ (tb_1 (List.mem_of_getElem? (i := 13) rfl))) (va_eqi (hg _ g21)) hA
  · exact va_Zqof (hts _ (tb_3 (List.mem_of_getElem? (i := 236) rfl))) (hts _ (tb_1 (List.mem_of_getElem? (i := 15) rfl))) (hg _ g22) hA
  · intro q hq
    rcases List.mem_cons.mp hq with rfl | hq
    · exact va_Nc.of (hg _ g127)
    rcases List.mem_cons.mp hq with rfl | hq
    · exact va_Nc.of (hg _ g130)
    rcases List.mem_cons.mp hq with rfl | hq
    · exact va_Nc.of (hg _ g140)
    rcases List.mem_cons.mp hq with rfl | hq
    · exact va_Nc.of (hg _ g128)
    rcases List.mem_cons.mp hq with rfl | hq
    · exact va_Nc.of (hg _ g138)
    exact absurd hq List.not_mem_nil
