/-! Draws. -/
def drN (j : Nat) : Nat := (j * 1103515245 + 12345) % 2147483648
theorem drN_lt (j : Nat) : drN j < 2 ^ 31 := Nat.mod_lt _ (by decide)
def zdr (x : Int32) : Int64 := x.toInt64 * 1103515245 + 12345
theorem zdr_int {j : Nat} (h : j < 2 ^ 31) : (zdr (nI j)).toInt = (j * 1103515245 + 12345 : Nat) := by
  unfold zdr
  have e1 : (nI j).toInt64.toInt = (j : Int) := by rw [i2l, nI_toInt h]
  have e2 : (1103515245 : Int64).toInt = 1103515245 := rfl
  have e3 : (12345 : Int64).toInt = 12345 := rfl
  rw [Int64.toInt_add, Int64.toInt_mul, e1, e2, e3]
  rw [Int.bmod_eq_of_le (n := (j : Int) * 1103515245) (by omega) (by omega), Int.bmod_eq_of_le (by omega) (by omega)]
  omega
theorem nd_eq {j : Nat} (h : j < 2 ^ 31) : (zdr (nI j) - zdr (nI j) / 2147483648 * 2147483648).toInt32 = nI (drN j) := by
  have e := zdr_int h
  have e2 : (2147483648 : Int64).toInt = 2147483648 := rfl
  refine Int32.toInt_inj.mp ?_
  have ed : (zdr (nI j) / 2147483648).toInt = ((j * 1103515245 + 12345) / 2147483648 : Nat) := by
    rw [Int64.toInt_div, e, e2, show ((2147483648 : Int)) = ((2147483648 : Nat) : Int) from rfl, ← Int.ofNat_tdiv, Int.bmod_eq_of_le (by omega) (by omega)]
  have em : (zdr (nI j) / 2147483648 * 2147483648).toInt = ((j * 1103515245 + 12345) / 2147483648 * 2147483648 : Nat) := by
    rw [Int64.toInt_mul, ed, e2, Int.bmod_eq_of_le (by omega) (by omega)]
    omega
  have es : (zdr (nI j) - zdr (nI j) / 2147483648 * 2147483648).toInt = (drN j : Nat) := by
    rw [Int64.toInt_sub, e, em, Int.bmod_eq_of_le (by omega) (by omega)]
    unfold drN
    omega
  have hl := drN_lt j
  rw [Int64.toInt_toInt32, es, nI_toInt hl, Int.bmod_eq_of_le (by omega) (by omega)]
