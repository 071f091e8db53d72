/-! questions: sets of travellers as bits -/
def bt (B : Int32) (t : Nat) : Bool := B.toBitVec.getLsbD t
theorem bt_and {A B : Int32} {t : Nat} : bt (A &&& B) t = (bt A t && bt B t) := by
  unfold bt
  rw [Int32.toBitVec_and, BitVec.getLsbD_and]
theorem bt_or {A B : Int32} {t : Nat} : bt (A ||| B) t = (bt A t || bt B t) := by
  unfold bt
  rw [Int32.toBitVec_or, BitVec.getLsbD_or]
theorem bt_m1 : ∀ t, t < 8 → bt (-1) t = true := by decide +kernel
theorem bt_not {B : Int32} {t : Nat} (ht : t < 8) : bt (B ^^^ (-1 : Int32)) t = !bt B t := by
  have e := bt_m1 t ht
  unfold bt at e ⊢
  rw [Int32.toBitVec_xor, BitVec.getLsbD_xor, e]
  cases B.toBitVec.getLsbD t <;> rfl
theorem bt_every : ∀ n, n < 9 → ∀ t, t < 8 → bt (((1 : Int32) <<< (nI n &&& 31)) - (1 : Int32)) t = decide (t < n) := by decide +kernel
theorem bt_one : ∀ k, k < 8 → ∀ t, t < 8 → bt ((1 : Int32) <<< (nI k &&& 31)) t = decide (t = k) := by decide +kernel
theorem bt_zero : ∀ t, t < 8 → bt 0 t = false := by decide +kernel
theorem bt_sh : ∀ t, t < 8 → ((nI t &&& 31).toBitVec.smod 32).toNat = t := by decide +kernel
theorem bt_test {B : Int32} {t : Nat} (ht : t < 8) : ((B >>> (nI t &&& 31)) &&& (1 : Int32)) = 0 ↔ bt B t = false := by
  have e : (B >>> (nI t &&& 31)).toBitVec.getLsbD 0 = bt B t := by
    rw [Int32.toBitVec_shiftRight, BitVec.sshiftRight_eq', bt_sh t ht, BitVec.getLsbD_sshiftRight]
    unfold bt
    rw [if_pos (by omega)]
    simp
  rw [pk_and _ (m := 1) 1 (by decide), ← e]
  generalize (B >>> (nI t &&& 31)).toBitVec = x
  have h2 : x.getLsbD 0 = decide (x.toNat % 2 = 1) := by
    rw [← BitVec.testBit_toNat, Nat.testBit_zero]
  rw [h2]
  have h3 : x.toNat % 2 ^ 1 = x.toNat % 2 := rfl
  rw [h3]
  have : x.toNat % 2 < 2 := Nat.mod_lt _ (by decide)
  generalize x.toNat % 2 = y at this ⊢
  rcases (show y = 0 ∨ y = 1 by omega) with rfl | rfl <;> decide

