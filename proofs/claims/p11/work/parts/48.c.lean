/-! longs; fractions; think, now -/
def zN (n : Nat) : Int64 := Int64.ofNat n
theorem zN_ti {n : Nat} (h : n < 2 ^ 62) : (zN n).toInt = n := Int64.toInt_ofNat_of_lt (by omega)
theorem zN_m {a b : Nat} : zN a * zN b = zN (a * b) := (Int64.ofNat_mul a b).symm
theorem zN_a {a b : Nat} : zN a + zN b = zN (a + b) := (Int64.ofNat_add a b).symm
theorem zN_le {a b : Nat} (ha : a < 2 ^ 62) (hb : b < 2 ^ 62) : zN a ≤ zN b ↔ a ≤ b := Int64.ofNat_le_iff_le (by omega) (by omega)
theorem iN_l {n : Nat} (h : n ≤ 100000) : (iN n).toInt64 = zN n := by
  refine Int64.toInt_inj.mp ?_
  rw [Int32.toInt_toInt64, iN_ti h, zN_ti (by omega)]
