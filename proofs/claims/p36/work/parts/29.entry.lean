/-! A NEW OBJECT, AT THE LAW -/
def rowF : Nat → Int32 := fun k => match k with | 4 => 4 | _ => 0
def rowT : Nat → Int32 := fun k => match k with | 2 => -1 | 4 => 1 | _ => 0
def rowX : Nat → Int32 := fun k => match k with | 5 => -1 | _ => 0
def rowQ : Nat → Int32 := fun k => match k with | 3 => -1 | _ => 0
/-- the memory of a new object; f: the heights, all 10 -/
def S0 (f : Nat → Nat → Int32) : Mem := fun c i => match c with | 0 => rowF | 1 => f i | 2 => rowT | 3 => rowX | 4 => (fun _ => 0) | 6 => rowQ | _ => (fun _ => 0)
def posL : List Nat := [1, 14, 25, 36, 47, 58, 69, 80, 91, 102, 2, 15, 26, 37, 48, 59, 70, 81, 92, 103, 4, 5, 6, 7, 8, 9, 10, 11, 17, 18, 19, 20, 21, 22, 23, 24, 28, 29, 30, 31, 32, 33, 34, 35, 39, 40, 41, 42, 43, 44, 45, 46, 50, 51, 52, 53, 54, 55, 56, 57, 61, 62, 63, 64, 65, 66, 67, 68, 72, 73, 74, 75, 76, 77, 78, 79, 83, 84, 85, 86, 87, 88, 89, 90, 94, 95, 96, 97, 98, 99, 100, 101, 105, 106, 107, 108, 109, 110, 111, 112, 3, 16, 27, 38, 49, 60, 71, 82, 93, 104, 0, 12, 13, 113, 114, 115, 116]
theorem posL_inj : ∀ i, i < 117 → ∀ j, j < 117 → posL.getD i 0 = posL.getD j 0 → i = j := by decide +kernel
def adL (n hs sn qu an ln bb tx bX h0 t0 h1 t1 h2 t2 h3 t3 h4 t4 h5 t5 h6 t6 h7 t7 h8 t8 h9 t9 : Nat) (fo tr0 tr1 tr2 tr3 tr4 tr5 tr6 tr7 tr8 tr9 : Nat → Nat) : List Nat := [n, (fo 0), (fo 1), (fo 2), (fo 3), (fo 4), (fo 5), (fo 6), (fo 7), sn, h0, h1, h2, h3, h4, h5, h6, h7, h8, h9, (tr0 0), (tr0 1), (tr0 2), (tr0 3), (tr0 4), (tr0 5), (tr0 6), (tr0 7), (tr1 0), (tr1 1), (tr1 2), (tr1 3), (tr1 4), (tr1 5), (tr1 6), (tr1 7), (tr2 0), (tr2 1), (tr2 2), (tr2 3), (tr2 4), (tr2 5), (tr2 6), (tr2 7), (tr3 0), (tr3 1), (tr3 2), (tr3 3), (tr3 4), (tr3 5), (tr3 6), (tr3 7), (tr4 0), (tr4 1), (tr4 2), (tr4 3), (tr4 4), (tr4 5), (tr4 6), (tr4 7), (tr5 0), (tr5 1), (tr5 2), (tr5 3), (tr5 4), (tr5 5), (tr5 6), (tr5 7), (tr6 0), (tr6 1), (tr6 2), (tr6 3), (tr6 4), (tr6 5), (tr6 6), (tr6 7), (tr7 0), (tr7 1), (tr7 2), (tr7 3), (tr7 4), (tr7 5), (tr7 6), (tr7 7), (tr8 0), (tr8 1), (tr8 2), (tr8 3), (tr8 4), (tr8 5), (tr8 6), (tr8 7), (tr9 0), (tr9 1), (tr9 2), (tr9 3), (tr9 4), (tr9 5), (tr9 6), (tr9 7), t0, t1, t2, t3, t4, t5, t6, t7, t8, t9, bX, hs, bb, qu, tx, an, ln]
abbrev WL (ky : Nat → ClassId) (n hs sn qu an ln bb tx bX h0 t0 h1 t1 h2 t2 h3 t3 h4 t4 h5 t5 h6 t6 h7 t7 h8 t8 h9 t9 : Nat) (fo tr0 tr1 tr2 tr3 tr4 tr5 tr6 tr7 tr8 tr9 : Nat → Nat) (f0 f1 f2 f3 f4 f5 f6 f7 f8 f9 : Nat → Int32) : va_W := [(bX, (.inr (4, [.ref n, .ref hs, .ref sn, .int 0, .ref qu, .int (-1), .ref an, .int 0, .int 0, .int 0, .ref ln, .int 0]) : va_E)), (n, (.inr (0, [.ref h0, .ref t0, .int 0, .int 0, .int 4, .int 0, .int 0, .int 0, .int 0, .int 0, .int 0, .int 0]) : va_E)), (h0, (.inl (ky 1, 10, .inl f0) : va_E)), (t0, (.inl (ky 4, 8, .inr (.inr (.inr (.inr (fun k => some (tr0 k)))))) : va_E)), ((tr0 0), (.inr (3, [.int 0, .int 0, .int (-1), .int 0, .int 1, .int 0, .int 0, .int 0]) : va_E)), ((tr0 1), (.inr (3, [.int 0, .int 0, .int (-1), .int 0, .int 1, .int 0, .int 0, .int 0]) : va_E)), ((tr0 2), (.inr (3, [.int 0, .int 0, .int (-1), .int 0, .int 1, .int 0, .int 0, .int 0]) : va_E)), ((tr0 3), (.inr (3, [.int 0, .int 0, .int (-1), .int 0, .int 1, .int 0, .int 0, .int 0]) : va_E)), ((tr0 4), (.inr (3, [.int 0, .int 0, .int (-1), .int 0, .int 1, .int 0, .int 0, .int 0]) : va_E)), ((tr0 5), (.inr (3, [.int 0, .int 0, .int (-1), .int 0, .int 1, .int 0, .int 0, .int 0]) : va_E)), ((tr0 6), (.inr (3, [.int 0, .int 0, .int (-1), .int 0, .int 1, .int 0, .int 0, .int 0]) : va_E)), ((tr0 7), (.inr (3, [.int 0, .int 0, .int (-1), .int 0, .int 1, .int 0, .int 0, .int 0]) : va_E)), (hs, (.inr (1, [.ref bb, .int 0, .int 0]) : va_E)), (bb, (.inl (ky 3, 8, .inr (.inr (.inr (.inr (fun k => some (fo k)))))) : va_E)), ((fo 0), (.inr (0, [.ref h1, .ref t1, .int 0, .int 0, .int 4, .int 0, .int 0, .int 0, .int 0, .int 0, .int 0, .int 0]) : va_E)), (h1, (.inl (ky 1, 10, .inl f1) : va_E)), (t1, (.inl (ky 4, 8, .inr (.inr (.inr (.inr (fun k => some (tr1 k)))))) : va_E)), ((tr1 0), (.inr (3, [.int 0, .int 0, .int (-1), .int 0, .int 1, .int 0, .int 0, .int 0]) : va_E)), ((tr1 1), (.inr (3, [.int 0, .int 0, .int (-1), .int 0, .int 1, .int 0, .int 0, .int 0]) : va_E)), ((tr1 2), (.inr (3, [.int 0, .int 0, .int (-1), .int 0, .int 1, .int 0, .int 0, .int 0]) : va_E)), ((tr1 3), (.inr (3, [.int 0, .int 0, .int (-1), .int 0, .int 1, .int 0, .int 0, .int 0]) : va_E)), ((tr1 4), (.inr (3, [.int 0, .int 0, .int (-1), .int 0, .int 1, .int 0, .int 0, .int 0]) : va_E)), ((tr1 5), (.inr (3, [.int 0, .int 0, .int (-1), .int 0, .int 1, .int 0, .int 0, .int 0]) : va_E)), ((tr1 6), (.inr (3, [.int 0, .int 0, .int (-1), .int 0, .int 1, .int 0, .int 0, .int 0]) : va_E)), ((tr1 7), (.inr (3, [.int 0, .int 0, .int (-1), .int 0, .int 1, .int 0, .int 0, .int 0]) : va_E)), ((fo 1), (.inr (0, [.ref h2, .ref t2, .int 0, .int 0, .int 4, .int 0, .int 0, .int 0, .int 0, .int 0, .int 0, .int 0]) : va_E)), (h2, (.inl (ky 1, 10, .inl f2) : va_E)), (t2, (.inl (ky 4, 8, .inr (.inr (.inr (.inr (fun k => some (tr2 k)))))) : va_E)), ((tr2 0), (.inr (3, [.int 0, .int 0, .int (-1), .int 0, .int 1, .int 0, .int 0, .int 0]) : va_E)), ((tr2 1), (.inr (3, [.int 0, .int 0, .int (-1), .int 0, .int 1, .int 0, .int 0, .int 0]) : va_E)), ((tr2 2), (.inr (3, [.int 0, .int 0, .int (-1), .int 0, .int 1, .int 0, .int 0, .int 0]) : va_E)), ((tr2 3), (.inr (3, [.int 0, .int 0, .int (-1), .int 0, .int 1, .int 0, .int 0, .int 0]) : va_E)), ((tr2 4), (.inr (3, [.int 0, .int 0, .int (-1), .int 0, .int 1, .int 0, .int 0, .int 0]) : va_E)), ((tr2 5), (.inr (3, [.int 0, .int 0, .int (-1), .int 0, .int 1, .int 0, .int 0, .int 0]) : va_E)), ((tr2 6), (.inr (3, [.int 0, .int 0, .int (-1), .int 0, .int 1, .int 0, .int 0, .int 0]) : va_E)), ((tr2 7), (.inr (3, [.int 0, .int 0, .int (-1), .int 0, .int 1, .int 0, .int 0, .int 0]) : va_E)), ((fo 2), (.inr (0, [.ref h3, .ref t3, .int 0, .int 0, .int 4, .int 0, .int 0, .int 0, .int 0, .int 0, .int 0, .int 0]) : va_E)), (h3, (.inl (ky 1, 10, .inl f3) : va_E)), (t3, (.inl (ky 4, 8, .inr (.inr (.inr (.inr (fun k => some (tr3 k)))))) : va_E)), ((tr3 0), (.inr (3, [.int 0, .int 0, .int (-1), .int 0, .int 1, .int 0, .int 0, .int 0]) : va_E)), ((tr3 1), (.inr (3, [.int 0, .int 0, .int (-1), .int 0, .int 1, .int 0, .int 0, .int 0]) : va_E)), ((tr3 2), (.inr (3, [.int 0, .int 0, .int (-1), .int 0, .int 1, .int 0, .int 0, .int 0]) : va_E)), ((tr3 3), (.inr (3, [.int 0, .int 0, .int (-1), .int 0, .int 1, .int 0, .int 0, .int 0]) : va_E)), ((tr3 4), (.inr (3, [.int 0, .int 0, .int (-1), .int 0, .int 1, .int 0, .int 0, .int 0]) : va_E)), ((tr3 5), (.inr (3, [.int 0, .int 0, .int (-1), .int 0, .int 1, .int 0, .int 0, .int 0]) : va_E)), ((tr3 6), (.inr (3, [.int 0, .int 0, .int (-1), .int 0, .int 1, .int 0, .int 0, .int 0]) : va_E)), ((tr3 7), (.inr (3, [.int 0, .int 0, .int (-1), .int 0, .int 1, .int 0, .int 0, .int 0]) : va_E)), ((fo 3), (.inr (0, [.ref h4, .ref t4, .int 0, .int 0, .int 4, .int 0, .int 0, .int 0, .int 0, .int 0, .int 0, .int 0]) : va_E)), (h4, (.inl (ky 1, 10, .inl f4) : va_E)), (t4, (.inl (ky 4, 8, .inr (.inr (.inr (.inr (fun k => some (tr4 k)))))) : va_E)), ((tr4 0), (.inr (3, [.int 0, .int 0, .int (-1), .int 0, .int 1, .int 0, .int 0, .int 0]) : va_E)), ((tr4 1), (.inr (3, [.int 0, .int 0, .int (-1), .int 0, .int 1, .int 0, .int 0, .int 0]) : va_E)), ((tr4 2), (.inr (3, [.int 0, .int 0, .int (-1), .int 0, .int 1, .int 0, .int 0, .int 0]) : va_E)), ((tr4 3), (.inr (3, [.int 0, .int 0, .int (-1), .int 0, .int 1, .int 0, .int 0, .int 0]) : va_E)), ((tr4 4), (.inr (3, [.int 0, .int 0, .int (-1), .int 0, .int 1, .int 0, .int 0, .int 0]) : va_E)), ((tr4 5), (.inr (3, [.int 0, .int 0, .int (-1), .int 0, .int 1, .int 0, .int 0, .int 0]) : va_E)), ((tr4 6), (.inr (3, [.int 0, .int 0, .int (-1), .int 0, .int 1, .int 0, .int 0, .int 0]) : va_E)), ((tr4 7), (.inr (3, [.int 0, .int 0, .int (-1), .int 0, .int 1, .int 0, .int 0, .int 0]) : va_E)), ((fo 4), (.inr (0, [.ref h5, .ref t5, .int 0, .int 0, .int 4, .int 0, .int 0, .int 0, .int 0, .int 0, .int 0, .int 0]) : va_E)), (h5, (.inl (ky 1, 10, .inl f5) : va_E)), (t5, (.inl (ky 4, 8, .inr (.inr (.inr (.inr (fun k => some (tr5 k)))))) : va_E)), ((tr5 0), (.inr (3, [.int 0, .int 0, .int (-1), .int 0, .int 1, .int 0, .int 0, .int 0]) : va_E)), ((tr5 1), (.inr (3, [.int 0, .int 0, .int (-1), .int 0, .int 1, .int 0, .int 0, .int 0]) : va_E)), ((tr5 2), (.inr (3, [.int 0, .int 0, .int (-1), .int 0, .int 1, .int 0, .int 0, .int 0]) : va_E)), ((tr5 3), (.inr (3, [.int 0, .int 0, .int (-1), .int 0, .int 1, .int 0, .int 0, .int 0]) : va_E)), ((tr5 4), (.inr (3, [.int 0, .int 0, .int (-1), .int 0, .int 1, .int 0, .int 0, .int 0]) : va_E)), ((tr5 5), (.inr (3, [.int 0, .int 0, .int (-1), .int 0, .int 1, .int 0, .int 0, .int 0]) : va_E)), ((tr5 6), (.inr (3, [.int 0, .int 0, .int (-1), .int 0, .int 1, .int 0, .int 0, .int 0]) : va_E)), ((tr5 7), (.inr (3, [.int 0, .int 0, .int (-1), .int 0, .int 1, .int 0, .int 0, .int 0]) : va_E)), ((fo 5), (.inr (0, [.ref h6, .ref t6, .int 0, .int 0, .int 4, .int 0, .int 0, .int 0, .int 0, .int 0, .int 0, .int 0]) : va_E)), (h6, (.inl (ky 1, 10, .inl f6) : va_E)), (t6, (.inl (ky 4, 8, .inr (.inr (.inr (.inr (fun k => some (tr6 k)))))) : va_E)), ((tr6 0), (.inr (3, [.int 0, .int 0, .int (-1), .int 0, .int 1, .int 0, .int 0, .int 0]) : va_E)), ((tr6 1), (.inr (3, [.int 0, .int 0, .int (-1), .int 0, .int 1, .int 0, .int 0, .int 0]) : va_E)), ((tr6 2), (.inr (3, [.int 0, .int 0, .int (-1), .int 0, .int 1, .int 0, .int 0, .int 0]) : va_E)), ((tr6 3), (.inr (3, [.int 0, .int 0, .int (-1), .int 0, .int 1, .int 0, .int 0, .int 0]) : va_E)), ((tr6 4), (.inr (3, [.int 0, .int 0, .int (-1), .int 0, .int 1, .int 0, .int 0, .int 0]) : va_E)), ((tr6 5), (.inr (3, [.int 0, .int 0, .int (-1), .int 0, .int 1, .int 0, .int 0, .int 0]) : va_E)), ((tr6 6), (.inr (3, [.int 0, .int 0, .int (-1), .int 0, .int 1, .int 0, .int 0, .int 0]) : va_E)), ((tr6 7), (.inr (3, [.int 0, .int 0, .int (-1), .int 0, .int 1, .int 0, .int 0, .int 0]) : va_E)), ((fo 6), (.inr (0, [.ref h7, .ref t7, .int 0, .int 0, .int 4, .int 0, .int 0, .int 0, .int 0, .int 0, .int 0, .int 0]) : va_E)), (h7, (.inl (ky 1, 10, .inl f7) : va_E)), (t7, (.inl (ky 4, 8, .inr (.inr (.inr (.inr (fun k => some (tr7 k)))))) : va_E)), ((tr7 0), (.inr (3, [.int 0, .int 0, .int (-1), .int 0, .int 1, .int 0, .int 0, .int 0]) : va_E)), ((tr7 1), (.inr (3, [.int 0, .int 0, .int (-1), .int 0, .int 1, .int 0, .int 0, .int 0]) : va_E)), ((tr7 2), (.inr (3, [.int 0, .int 0, .int (-1), .int 0, .int 1, .int 0, .int 0, .int 0]) : va_E)), ((tr7 3), (.inr (3, [.int 0, .int 0, .int (-1), .int 0, .int 1, .int 0, .int 0, .int 0]) : va_E)), ((tr7 4), (.inr (3, [.int 0, .int 0, .int (-1), .int 0, .int 1, .int 0, .int 0, .int 0]) : va_E)), ((tr7 5), (.inr (3, [.int 0, .int 0, .int (-1), .int 0, .int 1, .int 0, .int 0, .int 0]) : va_E)), ((tr7 6), (.inr (3, [.int 0, .int 0, .int (-1), .int 0, .int 1, .int 0, .int 0, .int 0]) : va_E)), ((tr7 7), (.inr (3, [.int 0, .int 0, .int (-1), .int 0, .int 1, .int 0, .int 0, .int 0]) : va_E)), ((fo 7), (.inr (0, [.ref h8, .ref t8, .int 0, .int 0, .int 4, .int 0, .int 0, .int 0, .int 0, .int 0, .int 0, .int 0]) : va_E)), (h8, (.inl (ky 1, 10, .inl f8) : va_E)), (t8, (.inl (ky 4, 8, .inr (.inr (.inr (.inr (fun k => some (tr8 k)))))) : va_E)), ((tr8 0), (.inr (3, [.int 0, .int 0, .int (-1), .int 0, .int 1, .int 0, .int 0, .int 0]) : va_E)), ((tr8 1), (.inr (3, [.int 0, .int 0, .int (-1), .int 0, .int 1, .int 0, .int 0, .int 0]) : va_E)), ((tr8 2), (.inr (3, [.int 0, .int 0, .int (-1), .int 0, .int 1, .int 0, .int 0, .int 0]) : va_E)), ((tr8 3), (.inr (3, [.int 0, .int 0, .int (-1), .int 0, .int 1, .int 0, .int 0, .int 0]) : va_E)), ((tr8 4), (.inr (3, [.int 0, .int 0, .int (-1), .int 0, .int 1, .int 0, .int 0, .int 0]) : va_E)), ((tr8 5), (.inr (3, [.int 0, .int 0, .int (-1), .int 0, .int 1, .int 0, .int 0, .int 0]) : va_E)), ((tr8 6), (.inr (3, [.int 0, .int 0, .int (-1), .int 0, .int 1, .int 0, .int 0, .int 0]) : va_E)), ((tr8 7), (.inr (3, [.int 0, .int 0, .int (-1), .int 0, .int 1, .int 0, .int 0, .int 0]) : va_E)), (sn, (.inr (0, [.ref h9, .ref t9, .int 0, .int 0, .int 4, .int 0, .int 0, .int 0, .int 0, .int 0, .int 0, .int 0]) : va_E)), (h9, (.inl (ky 1, 10, .inl f9) : va_E)), (t9, (.inl (ky 4, 8, .inr (.inr (.inr (.inr (fun k => some (tr9 k)))))) : va_E)), ((tr9 0), (.inr (3, [.int 0, .int 0, .int (-1), .int 0, .int 1, .int 0, .int 0, .int 0]) : va_E)), ((tr9 1), (.inr (3, [.int 0, .int 0, .int (-1), .int 0, .int 1, .int 0, .int 0, .int 0]) : va_E)), ((tr9 2), (.inr (3, [.int 0, .int 0, .int (-1), .int 0, .int 1, .int 0, .int 0, .int 0]) : va_E)), ((tr9 3), (.inr (3, [.int 0, .int 0, .int (-1), .int 0, .int 1, .int 0, .int 0, .int 0]) : va_E)), ((tr9 4), (.inr (3, [.int 0, .int 0, .int (-1), .int 0, .int 1, .int 0, .int 0, .int 0]) : va_E)), ((tr9 5), (.inr (3, [.int 0, .int 0, .int (-1), .int 0, .int 1, .int 0, .int 0, .int 0]) : va_E)), ((tr9 6), (.inr (3, [.int 0, .int 0, .int (-1), .int 0, .int 1, .int 0, .int 0, .int 0]) : va_E)), ((tr9 7), (.inr (3, [.int 0, .int 0, .int (-1), .int 0, .int 1, .int 0, .int 0, .int 0]) : va_E)), (qu, (.inr (2, [.ref tx, .int 0, .int 0, .int (-1)]) : va_E)), (tx, (.inl (ky 0, 60, .inl (fun _ => 0)) : va_E)), (an, (.inl (ky 1, 8, .inl (fun _ => 0)) : va_E)), (ln, (.inl (ky 0, 13, .inl (fun _ => 0)) : va_E))]
theorem lt117 {P : Nat → Prop} (p0 : P 0) (p1 : P 1) (p2 : P 2) (p3 : P 3) (p4 : P 4) (p5 : P 5) (p6 : P 6) (p7 : P 7) (p8 : P 8) (p9 : P 9) (p10 : P 10) (p11 : P 11) (p12 : P 12) (p13 : P 13) (p14 : P 14) (p15 : P 15) (p16 : P 16) (p17 : P 17) (p18 : P 18) (p19 : P 19) (p20 : P 20) (p21 : P 21) (p22 : P 22) (p23 : P 23) (p24 : P 24) (p25 : P 25) (p26 : P 26) (p27 : P 27) (p28 : P 28) (p29 : P 29) (p30 : P 30) (p31 : P 31) (p32 : P 32) (p33 : P 33) (p34 : P 34) (p35 : P 35) (p36 : P 36) (p37 : P 37) (p38 : P 38) (p39 : P 39) (p40 : P 40) (p41 : P 41) (p42 : P 42) (p43 : P 43) (p44 : P 44) (p45 : P 45) (p46 : P 46) (p47 : P 47) (p48 : P 48) (p49 : P 49) (p50 : P 50) (p51 : P 51) (p52 : P 52) (p53 : P 53) (p54 : P 54) (p55 : P 55) (p56 : P 56) (p57 : P 57) (p58 : P 58) (p59 : P 59) (p60 : P 60) (p61 : P 61) (p62 : P 62) (p63 : P 63) (p64 : P 64) (p65 : P 65) (p66 : P 66) (p67 : P 67) (p68 : P 68) (p69 : P 69) (p70 : P 70) (p71 : P 71) (p72 : P 72) (p73 : P 73) (p74 : P 74) (p75 : P 75) (p76 : P 76) (p77 : P 77) (p78 : P 78) (p79 : P 79) (p80 : P 80) (p81 : P 81) (p82 : P 82) (p83 : P 83) (p84 : P 84) (p85 : P 85) (p86 : P 86) (p87 : P 87) (p88 : P 88) (p89 : P 89) (p90 : P 90) (p91 : P 91) (p92 : P 92) (p93 : P 93) (p94 : P 94) (p95 : P 95) (p96 : P 96) (p97 : P 97) (p98 : P 98) (p99 : P 99) (p100 : P 100) (p101 : P 101) (p102 : P 102) (p103 : P 103) (p104 : P 104) (p105 : P 105) (p106 : P 106) (p107 : P 107) (p108 : P 108) (p109 : P 109) (p110 : P 110) (p111 : P 111) (p112 : P 112) (p113 : P 113) (p114 : P 114) (p115 : P 115) (p116 : P 116) : ∀ o, o < 117 → P o := by
  intro o ho
  match o, ho with
  | 0, _ => exact p0
  | 1, _ => exact p1
  | 2, _ => exact p2
  | 3, _ => exact p3
  | 4, _ => exact p4
  | 5, _ => exact p5
  | 6, _ => exact p6
  | 7, _ => exact p7
  | 8, _ => exact p8
  | 9, _ => exact p9
  | 10, _ => exact p10
  | 11, _ => exact p11
  | 12, _ => exact p12
  | 13, _ => exact p13
  | 14, _ => exact p14
  | 15, _ => exact p15
  | 16, _ => exact p16
  | 17, _ => exact p17
  | 18, _ => exact p18
  | 19, _ => exact p19
  | 20, _ => exact p20
  | 21, _ => exact p21
  | 22, _ => exact p22
  | 23, _ => exact p23
  | 24, _ => exact p24
  | 25, _ => exact p25
  | 26, _ => exact p26
  | 27, _ => exact p27
  | 28, _ => exact p28
  | 29, _ => exact p29
  | 30, _ => exact p30
  | 31, _ => exact p31
  | 32, _ => exact p32
  | 33, _ => exact p33
  | 34, _ => exact p34
  | 35, _ => exact p35
  | 36, _ => exact p36
  | 37, _ => exact p37
  | 38, _ => exact p38
  | 39, _ => exact p39
  | 40, _ => exact p40
  | 41, _ => exact p41
  | 42, _ => exact p42
  | 43, _ => exact p43
  | 44, _ => exact p44
  | 45, _ => exact p45
  | 46, _ => exact p46
  | 47, _ => exact p47
  | 48, _ => exact p48
  | 49, _ => exact p49
  | 50, _ => exact p50
  | 51, _ => exact p51
  | 52, _ => exact p52
  | 53, _ => exact p53
  | 54, _ => exact p54
  | 55, _ => exact p55
  | 56, _ => exact p56
  | 57, _ => exact p57
  | 58, _ => exact p58
  | 59, _ => exact p59
  | 60, _ => exact p60
  | 61, _ => exact p61
  | 62, _ => exact p62
  | 63, _ => exact p63
  | 64, _ => exact p64
  | 65, _ => exact p65
  | 66, _ => exact p66
  | 67, _ => exact p67
  | 68, _ => exact p68
  | 69, _ => exact p69
  | 70, _ => exact p70
  | 71, _ => exact p71
  | 72, _ => exact p72
  | 73, _ => exact p73
  | 74, _ => exact p74
  | 75, _ => exact p75
  | 76, _ => exact p76
  | 77, _ => exact p77
  | 78, _ => exact p78
  | 79, _ => exact p79
  | 80, _ => exact p80
  | 81, _ => exact p81
  | 82, _ => exact p82
  | 83, _ => exact p83
  | 84, _ => exact p84
  | 85, _ => exact p85
  | 86, _ => exact p86
  | 87, _ => exact p87
  | 88, _ => exact p88
  | 89, _ => exact p89
  | 90, _ => exact p90
  | 91, _ => exact p91
  | 92, _ => exact p92
  | 93, _ => exact p93
  | 94, _ => exact p94
  | 95, _ => exact p95
  | 96, _ => exact p96
  | 97, _ => exact p97
  | 98, _ => exact p98
  | 99, _ => exact p99
  | 100, _ => exact p100
  | 101, _ => exact p101
  | 102, _ => exact p102
  | 103, _ => exact p103
  | 104, _ => exact p104
  | 105, _ => exact p105
  | 106, _ => exact p106
  | 107, _ => exact p107
  | 108, _ => exact p108
  | 109, _ => exact p109
  | 110, _ => exact p110
  | 111, _ => exact p111
  | 112, _ => exact p112
  | 113, _ => exact p113
  | 114, _ => exact p114
  | 115, _ => exact p115
  | 116, _ => exact p116
  | k + 117, h => exact absurd h (by omega)
set_option maxRecDepth 100000 in
set_option maxHeartbeats 4000000 in
theorem WL_at {ky : Nat → ClassId} {n hs sn qu an ln bb tx bX h0 t0 h1 t1 h2 t2 h3 t3 h4 t4 h5 t5 h6 t6 h7 t7 h8 t8 h9 t9 : Nat} {fo tr0 tr1 tr2 tr3 tr4 tr5 tr6 tr7 tr8 tr9 : Nat → Nat} {f0 f1 f2 f3 f4 f5 f6 f7 f8 f9 : Nat → Int32} : ∀ o, o < 117 → ∃ e, (WL ky n hs sn qu an ln bb tx bX h0 t0 h1 t1 h2 t2 h3 t3 h4 t4 h5 t5 h6 t6 h7 t7 h8 t8 h9 t9 fo tr0 tr1 tr2 tr3 tr4 tr5 tr6 tr7 tr8 tr9 f0 f1 f2 f3 f4 f5 f6 f7 f8 f9)[posL.getD o 0]? = some ((adL n hs sn qu an ln bb tx bX h0 t0 h1 t1 h2 t2 h3 t3 h4 t4 h5 t5 h6 t6 h7 t7 h8 t8 h9 t9 fo tr0 tr1 tr2 tr3 tr4 tr5 tr6 tr7 tr8 tr9).getD o 0, e) :=
  lt117 ⟨_, rfl⟩ ⟨_, rfl⟩ ⟨_, rfl⟩ ⟨_, rfl⟩ ⟨_, rfl⟩ ⟨_, rfl⟩ ⟨_, rfl⟩ ⟨_, rfl⟩ ⟨_, rfl⟩ ⟨_, rfl⟩ ⟨_, rfl⟩ ⟨_, rfl⟩ ⟨_, rfl⟩ ⟨_, rfl⟩ ⟨_, rfl⟩ ⟨_, rfl⟩ ⟨_, rfl⟩ ⟨_, rfl⟩ ⟨_, rfl⟩ ⟨_, rfl⟩ ⟨_, rfl⟩ ⟨_, rfl⟩ ⟨_, rfl⟩ ⟨_, rfl⟩ ⟨_, rfl⟩ ⟨_, rfl⟩ ⟨_, rfl⟩ ⟨_, rfl⟩ ⟨_, rfl⟩ ⟨_, rfl⟩ ⟨_, rfl⟩ ⟨_, rfl⟩ ⟨_, rfl⟩ ⟨_, rfl⟩ ⟨_, rfl⟩ ⟨_, rfl⟩ ⟨_, rfl⟩ ⟨_, rfl⟩ ⟨_, rfl⟩ ⟨_, rfl⟩ ⟨_, rfl⟩ ⟨_, rfl⟩ ⟨_, rfl⟩ ⟨_, rfl⟩ ⟨_, rfl⟩ ⟨_, rfl⟩ ⟨_, rfl⟩ ⟨_, rfl⟩ ⟨_, rfl⟩ ⟨_, rfl⟩ ⟨_, rfl⟩ ⟨_, rfl⟩ ⟨_, rfl⟩ ⟨_, rfl⟩ ⟨_, rfl⟩ ⟨_, rfl⟩ ⟨_, rfl⟩ ⟨_, rfl⟩ ⟨_, rfl⟩ ⟨_, rfl⟩ ⟨_, rfl⟩ ⟨_, rfl⟩ ⟨_, rfl⟩ ⟨_, rfl⟩ ⟨_, rfl⟩ ⟨_, rfl⟩ ⟨_, rfl⟩ ⟨_, rfl⟩ ⟨_, rfl⟩ ⟨_, rfl⟩ ⟨_, rfl⟩ ⟨_, rfl⟩ ⟨_, rfl⟩ ⟨_, rfl⟩ ⟨_, rfl⟩ ⟨_, rfl⟩ ⟨_, rfl⟩ ⟨_, rfl⟩ ⟨_, rfl⟩ ⟨_, rfl⟩ ⟨_, rfl⟩ ⟨_, rfl⟩ ⟨_, rfl⟩ ⟨_, rfl⟩ ⟨_, rfl⟩ ⟨_, rfl⟩ ⟨_, rfl⟩ ⟨_, rfl⟩ ⟨_, rfl⟩ ⟨_, rfl⟩ ⟨_, rfl⟩ ⟨_, rfl⟩ ⟨_, rfl⟩ ⟨_, rfl⟩ ⟨_, rfl⟩ ⟨_, rfl⟩ ⟨_, rfl⟩ ⟨_, rfl⟩ ⟨_, rfl⟩ ⟨_, rfl⟩ ⟨_, rfl⟩ ⟨_, rfl⟩ ⟨_, rfl⟩ ⟨_, rfl⟩ ⟨_, rfl⟩ ⟨_, rfl⟩ ⟨_, rfl⟩ ⟨_, rfl⟩ ⟨_, rfl⟩ ⟨_, rfl⟩ ⟨_, rfl⟩ ⟨_, rfl⟩ ⟨_, rfl⟩ ⟨_, rfl⟩ ⟨_, rfl⟩ ⟨_, rfl⟩ ⟨_, rfl⟩
theorem WL_inj {ky : Nat → ClassId} {A : Nat → Prop} {n hs sn qu an ln bb tx bX h0 t0 h1 t1 h2 t2 h3 t3 h4 t4 h5 t5 h6 t6 h7 t7 h8 t8 h9 t9 : Nat} {fo tr0 tr1 tr2 tr3 tr4 tr5 tr6 tr7 tr8 tr9 : Nat → Nat} {f0 f1 f2 f3 f4 f5 f6 f7 f8 f9 : Nat → Int32} (hD : va_D A (WL ky n hs sn qu an ln bb tx bX h0 t0 h1 t1 h2 t2 h3 t3 h4 t4 h5 t5 h6 t6 h7 t7 h8 t8 h9 t9 fo tr0 tr1 tr2 tr3 tr4 tr5 tr6 tr7 tr8 tr9 f0 f1 f2 f3 f4 f5 f6 f7 f8 f9)) : INJ (fun o => (adL n hs sn qu an ln bb tx bX h0 t0 h1 t1 h2 t2 h3 t3 h4 t4 h5 t5 h6 t6 h7 t7 h8 t8 h9 t9 fo tr0 tr1 tr2 tr3 tr4 tr5 tr6 tr7 tr8 tr9).getD o 0) := by
  intro i j hi hj e
  obtain ⟨x, hx⟩ := WL_at (ky := ky) (f0 := f0) (f1 := f1) (f2 := f2) (f3 := f3) (f4 := f4) (f5 := f5) (f6 := f6) (f7 := f7) (f8 := f8) (f9 := f9) i hi
  obtain ⟨y, hy⟩ := WL_at (ky := ky) (f0 := f0) (f1 := f1) (f2 := f2) (f3 := f3) (f4 := f4) (f5 := f5) (f6 := f6) (f7 := f7) (f8 := f8) (f9 := f9) j hj
  exact posL_inj i hi j hj (hD.1 _ _ _ _ hx hy e)
set_option maxRecDepth 100000 in
set_option maxHeartbeats 8000000 in
theorem WL_WS {ky : Nat → ClassId} {D : va_G} {H : Heap} {n hs sn qu an ln bb tx bX h0 t0 h1 t1 h2 t2 h3 t3 h4 t4 h5 t5 h6 t6 h7 t7 h8 t8 h9 t9 : Nat} {fo tr0 tr1 tr2 tr3 tr4 tr5 tr6 tr7 tr8 tr9 : Nat → Nat} {f0 f1 f2 f3 f4 f5 f6 f7 f8 f9 : Nat → Int32} (hP : va_P D clv (WL ky n hs sn qu an ln bb tx bX h0 t0 h1 t1 h2 t2 h3 t3 h4 t4 h5 t5 h6 t6 h7 t7 h8 t8 h9 t9 fo tr0 tr1 tr2 tr3 tr4 tr5 tr6 tr7 tr8 tr9 f0 f1 f2 f3 f4 f5 f6 f7 f8 f9) H) : va_P D clv (WS (fun o => (adL n hs sn qu an ln bb tx bX h0 t0 h1 t1 h2 t2 h3 t3 h4 t4 h5 t5 h6 t6 h7 t7 h8 t8 h9 t9 fo tr0 tr1 tr2 tr3 tr4 tr5 tr6 tr7 tr8 tr9).getD o 0) ky (S0 (fun i => match i with | 0 => f0 | 1 => f1 | 2 => f2 | 3 => f3 | 4 => f4 | 5 => f5 | 6 => f6 | 7 => f7 | 8 => f8 | _ => f9))) H := by
  intro k q hk
  have hlt : k < 117 := by have h2 := (List.getElem?_eq_some_iff.mp hk).1; simpa [WS] using h2
  rw [WS_at hlt] at hk
  cases hk
  revert k
  refine lt117 (hP 1 _ rfl) (hP 14 _ rfl) (hP 25 _ rfl) (hP 36 _ rfl) (hP 47 _ rfl) (hP 58 _ rfl) (hP 69 _ rfl) (hP 80 _ rfl) (hP 91 _ rfl) (hP 102 _ rfl) (hP 2 _ rfl) (hP 15 _ rfl) (hP 26 _ rfl) (hP 37 _ rfl) (hP 48 _ rfl) (hP 59 _ rfl) (hP 70 _ rfl) (hP 81 _ rfl) (hP 92 _ rfl) (hP 103 _ rfl) (hP 4 _ rfl) (hP 5 _ rfl) (hP 6 _ rfl) (hP 7 _ rfl) (hP 8 _ rfl) (hP 9 _ rfl) (hP 10 _ rfl) (hP 11 _ rfl) (hP 17 _ rfl) (hP 18 _ rfl) (hP 19 _ rfl) (hP 20 _ rfl) (hP 21 _ rfl) (hP 22 _ rfl) (hP 23 _ rfl) (hP 24 _ rfl) (hP 28 _ rfl) (hP 29 _ rfl) (hP 30 _ rfl) (hP 31 _ rfl) (hP 32 _ rfl) (hP 33 _ rfl) (hP 34 _ rfl) (hP 35 _ rfl) (hP 39 _ rfl) (hP 40 _ rfl) (hP 41 _ rfl) (hP 42 _ rfl) (hP 43 _ rfl) (hP 44 _ rfl) (hP 45 _ rfl) (hP 46 _ rfl) (hP 50 _ rfl) (hP 51 _ rfl) (hP 52 _ rfl) (hP 53 _ rfl) (hP 54 _ rfl) (hP 55 _ rfl) (hP 56 _ rfl) (hP 57 _ rfl) (hP 61 _ rfl) (hP 62 _ rfl) (hP 63 _ rfl) (hP 64 _ rfl) (hP 65 _ rfl) (hP 66 _ rfl) (hP 67 _ rfl) (hP 68 _ rfl) (hP 72 _ rfl) (hP 73 _ rfl) (hP 74 _ rfl) (hP 75 _ rfl) (hP 76 _ rfl) (hP 77 _ rfl) (hP 78 _ rfl) (hP 79 _ rfl) (hP 83 _ rfl) (hP 84 _ rfl) (hP 85 _ rfl) (hP 86 _ rfl) (hP 87 _ rfl) (hP 88 _ rfl) (hP 89 _ rfl) (hP 90 _ rfl) (hP 94 _ rfl) (hP 95 _ rfl) (hP 96 _ rfl) (hP 97 _ rfl) (hP 98 _ rfl) (hP 99 _ rfl) (hP 100 _ rfl) (hP 101 _ rfl) (hP 105 _ rfl) (hP 106 _ rfl) (hP 107 _ rfl) (hP 108 _ rfl) (hP 109 _ rfl) (hP 110 _ rfl) (hP 111 _ rfl) (hP 112 _ rfl) ?_ ?_ ?_ ?_ ?_ ?_ ?_ ?_ ?_ ?_ (hP 0 _ rfl) (hP 12 _ rfl) ?_ (hP 113 _ rfl) (hP 114 _ rfl) (hP 115 _ rfl) (hP 116 _ rfl)
  · exact at_congq (fun t ht => by rcases (show t = 0 ∨ t = 1 ∨ t = 2 ∨ t = 3 ∨ t = 4 ∨ t = 5 ∨ t = 6 ∨ t = 7 by omega) with rfl | rfl | rfl | rfl | rfl | rfl | rfl | rfl <;> rfl) (hP 3 _ rfl)
  · exact at_congq (fun t ht => by rcases (show t = 0 ∨ t = 1 ∨ t = 2 ∨ t = 3 ∨ t = 4 ∨ t = 5 ∨ t = 6 ∨ t = 7 by omega) with rfl | rfl | rfl | rfl | rfl | rfl | rfl | rfl <;> rfl) (hP 16 _ rfl)
  · exact at_congq (fun t ht => by rcases (show t = 0 ∨ t = 1 ∨ t = 2 ∨ t = 3 ∨ t = 4 ∨ t = 5 ∨ t = 6 ∨ t = 7 by omega) with rfl | rfl | rfl | rfl | rfl | rfl | rfl | rfl <;> rfl) (hP 27 _ rfl)
  · exact at_congq (fun t ht => by rcases (show t = 0 ∨ t = 1 ∨ t = 2 ∨ t = 3 ∨ t = 4 ∨ t = 5 ∨ t = 6 ∨ t = 7 by omega) with rfl | rfl | rfl | rfl | rfl | rfl | rfl | rfl <;> rfl) (hP 38 _ rfl)
  · exact at_congq (fun t ht => by rcases (show t = 0 ∨ t = 1 ∨ t = 2 ∨ t = 3 ∨ t = 4 ∨ t = 5 ∨ t = 6 ∨ t = 7 by omega) with rfl | rfl | rfl | rfl | rfl | rfl | rfl | rfl <;> rfl) (hP 49 _ rfl)
  · exact at_congq (fun t ht => by rcases (show t = 0 ∨ t = 1 ∨ t = 2 ∨ t = 3 ∨ t = 4 ∨ t = 5 ∨ t = 6 ∨ t = 7 by omega) with rfl | rfl | rfl | rfl | rfl | rfl | rfl | rfl <;> rfl) (hP 60 _ rfl)
  · exact at_congq (fun t ht => by rcases (show t = 0 ∨ t = 1 ∨ t = 2 ∨ t = 3 ∨ t = 4 ∨ t = 5 ∨ t = 6 ∨ t = 7 by omega) with rfl | rfl | rfl | rfl | rfl | rfl | rfl | rfl <;> rfl) (hP 71 _ rfl)
  · exact at_congq (fun t ht => by rcases (show t = 0 ∨ t = 1 ∨ t = 2 ∨ t = 3 ∨ t = 4 ∨ t = 5 ∨ t = 6 ∨ t = 7 by omega) with rfl | rfl | rfl | rfl | rfl | rfl | rfl | rfl <;> rfl) (hP 82 _ rfl)
  · exact at_congq (fun t ht => by rcases (show t = 0 ∨ t = 1 ∨ t = 2 ∨ t = 3 ∨ t = 4 ∨ t = 5 ∨ t = 6 ∨ t = 7 by omega) with rfl | rfl | rfl | rfl | rfl | rfl | rfl | rfl <;> rfl) (hP 93 _ rfl)
  · exact at_congq (fun t ht => by rcases (show t = 0 ∨ t = 1 ∨ t = 2 ∨ t = 3 ∨ t = 4 ∨ t = 5 ∨ t = 6 ∨ t = 7 by omega) with rfl | rfl | rfl | rfl | rfl | rfl | rfl | rfl <;> rfl) (hP 104 _ rfl)
  · exact at_congq (fun t ht => by rcases (show t = 0 ∨ t = 1 ∨ t = 2 ∨ t = 3 ∨ t = 4 ∨ t = 5 ∨ t = 6 ∨ t = 7 by omega) with rfl | rfl | rfl | rfl | rfl | rfl | rfl | rfl <;> rfl) (hP 13 _ rfl)
set_option maxRecDepth 100000 in
set_option maxHeartbeats 8000000 in
theorem law_new {p : Program} {l : Launch} {e : Env} {s : State} {m : MethodId} {args : Array Value} {below : List Frame} {meth : Method} {c : Code} {Q : State → Prop} {D : va_G} {ky : Nat → ClassId} {H : Heap} {locs : List Loc} {ls : Array Slot} {cells slots pc : Nat} (F : Kx p s m args meth c D ky cL_law 11 "FordTollLaw" (fun q : Nat => s.heap.size ≤ q)) {lv : List (Nat × Value)} (hl : lv_has ls 11 lv) (C : Ck D s (fun q : Nat => s.heap.size ≤ q) [] H locs) (hc : cells + 117 ≤ 671210) (hs : slots + 1048 ≤ 7075145) (d0 : decode cL_law pc = .ok (.new 8, 3)) (d3 : decode cL_law (pc + 3) = .ok (.dup, 1)) (d4 : decode cL_law (pc + 3 + 1) = .ok (.invokespecial 230, 3))
    (kk : ∀ (ad : Nat → Nat) (f : Nat → Nat → Int32) (H : Heap) (locs : List Loc), (∀ j k, j < 10 → k < 10 → f j k = 10) → INJ ad → (∀ o, o < 117 → s.heap.size ≤ ad o) → Cg D ky ad s (fun q : Nat => s.heap.size ≤ q) (S0 f) [] H locs → W p l e room_1 s m args below meth c H locs (cells + 1 + 116) (slots + 12 + 1036) Q (F0 m (pc + 3 + 1 + 3) ls [.ref (ad 110)])) : W p l e room_1 s m args below meth c H locs cells slots Q (F0 m pc ls []) := by
  refine cNew (ci := 4) F C inA5 tyX5_ok q1_24 q1_25 q1_1 rfl (fs := [.null, .null, .null, .int 0, .null, .int 0, .null, .int 0, .int 0, .int 0, .null, .int 0]) (fun j hj => by rcases (show j = 0 ∨ j = 1 ∨ j = 2 ∨ j = 3 ∨ j = 4 ∨ j = 5 ∨ j = 6 ∨ j = 7 ∨ j = 8 ∨ j = 9 ∨ j = 10 ∨ j = 11 by omega) with rfl | rfl | rfl | rfl | rfl | rfl | rfl | rfl | rfl | rfl | rfl | rfl <;> rfl) (show _ ≤ (671210 : Nat) by omega) (show _ ≤ (7075145 : Nat) by omega) d0 (fun bX H C => ?_)
  refine lv_dup F.x F.b d3 rfl ?_
  refine cCall (ws := []) F C hl (kX5_init l D ky bX) ⟨q1_26, q1_27, q1_1, q1_28⟩ ⟨rfl, by decide, by decide, by decide +kernel⟩ ⟨rfl, rfl, ⟨Nat.le_of_ble_eq_true rfl, Nat.le_of_ble_eq_true rfl⟩, ⟨(show _ ≤ (671210 : Nat) by omega), (show _ ≤ (7075145 : Nat) by omega)⟩, Nat.le_of_ble_eq_true rfl⟩ (rest := [.ref bX]) d4 (fun u1 H locs hu1 C => ?_)
  have C : Ck D s (fun q : Nat => s.heap.size ≤ q) u1 H locs := C
  obtain ⟨n, hs9, sn, qu, an, ln, dn, dh, ds, dq, hF1, hH, hF2, hQ, rfl⟩ := hu1
  obtain ⟨h0, t0, tr0, f0, hf0, rfl⟩ := hF1
  obtain ⟨bb, fo, u, hu, rfl⟩ := hH
  obtain ⟨h9, t9, tr9, f9, hf9, rfl⟩ := hF2
  obtain ⟨tx, rfl⟩ := hQ
  obtain ⟨h1, t1, tr1, f1, hf1, eu0⟩ := hu 0 (by decide)
  obtain ⟨h2, t2, tr2, f2, hf2, eu1⟩ := hu 1 (by decide)
  obtain ⟨h3, t3, tr3, f3, hf3, eu2⟩ := hu 2 (by decide)
  obtain ⟨h4, t4, tr4, f4, hf4, eu3⟩ := hu 3 (by decide)
  obtain ⟨h5, t5, tr5, f5, hf5, eu4⟩ := hu 4 (by decide)
  obtain ⟨h6, t6, tr6, f6, hf6, eu5⟩ := hu 5 (by decide)
  obtain ⟨h7, t7, tr7, f7, hf7, eu6⟩ := hu 6 (by decide)
  obtain ⟨h8, t8, tr8, f8, hf8, eu7⟩ := hu 7 (by decide)
  rw [eu0, eu1, eu2, eu3, eu4, eu5, eu6, eu7] at C
  have C : Ck D s (fun q : Nat => s.heap.size ≤ q) (WL ky n hs9 sn qu an ln bb tx bX h0 t0 h1 t1 h2 t2 h3 t3 h4 t4 h5 t5 h6 t6 h7 t7 h8 t8 h9 t9 fo tr0 tr1 tr2 tr3 tr4 tr5 tr6 tr7 tr8 tr9 f0 f1 f2 f3 f4 f5 f6 f7 f8 f9) H locs := C
  have hJ : INJ (fun o => (adL n hs9 sn qu an ln bb tx bX h0 t0 h1 t1 h2 t2 h3 t3 h4 t4 h5 t5 h6 t6 h7 t7 h8 t8 h9 t9 fo tr0 tr1 tr2 tr3 tr4 tr5 tr6 tr7 tr8 tr9).getD o 0) := WL_inj C.2.1
  have hWS := WL_WS C.1
  obtain ⟨ad, ead⟩ : ∃ ad : Nat → Nat, ad = (fun o => (adL n hs9 sn qu an ln bb tx bX h0 t0 h1 t1 h2 t2 h3 t3 h4 t4 h5 t5 h6 t6 h7 t7 h8 t8 h9 t9 fo tr0 tr1 tr2 tr3 tr4 tr5 tr6 tr7 tr8 tr9).getD o 0) := ⟨_, rfl⟩
  have hge : ∀ o, o < 117 → s.heap.size ≤ ad o := by
    intro o ho
    obtain ⟨x, hx⟩ := WL_at (ky := ky) (f0 := f0) (f1 := f1) (f2 := f2) (f3 := f3) (f4 := f4) (f5 := f5) (f6 := f6) (f7 := f7) (f8 := f8) (f9 := f9) o ho
    rw [ead]
    exact C.2.1.2 _ _ hx
  rw [← ead] at hJ hWS
  have e110 : bX = ad 110 := by rw [ead]; rfl
  rw [e110]
  refine kk ad (fun i => match i with | 0 => f0 | 1 => f1 | 2 => f2 | 3 => f3 | 4 => f4 | 5 => f5 | 6 => f6 | 7 => f7 | 8 => f8 | _ => f9) H locs (fun j k hj hk => by rcases (show j = 0 ∨ j = 1 ∨ j = 2 ∨ j = 3 ∨ j = 4 ∨ j = 5 ∨ j = 6 ∨ j = 7 ∨ j = 8 ∨ j = 9 by omega) with rfl | rfl | rfl | rfl | rfl | rfl | rfl | rfl | rfl | rfl; exact hf0 k hk; exact hf1 k hk; exact hf2 k hk; exact hf3 k hk; exact hf4 k hk; exact hf5 k hk; exact hf6 k hk; exact hf7 k hk; exact hf8 k hk; exact hf9 k hk) hJ hge ⟨hWS, fun k q h => (by simp at h), C.2.2, fun o ho z hz => (by cases hz)⟩
