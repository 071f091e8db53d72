/-! type, undo, save, restore -/
theorem RepX.c3 {S S' : Mem} {j : Nat} {R : Row} (h0 : S' 0 = S 0) (h1 : S' 1 = S 1) (h2 : S' 2 = S 2) (h : RepX S j R) : RepX S' j R := h.congr (by rw [h0]) (by rw [h1]) (fun t _ => by rw [h2])
theorem isC_i2c (y : Int32) : isC ((y.toUInt32 % 65536).toInt32) := by
  have e : (y.toUInt32 % 65536).toUInt16.toUInt32 = y.toUInt32 % 65536 := by
    apply UInt32.toNat_inj.mp
    simp
  unfold isC
  show Value.int ((y.toUInt32 % 65536).toUInt16.toUInt32.toInt32) = _
  rw [e]
