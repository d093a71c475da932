/-! the reference's storm -/
/-- reads of the reference's row -/
def RMA (v : MM) (n : Nat) (A : Nat → Nat → Int32) : Prop := v 162 22 = iN n ∧ ∀ p c, p < n → c < 16 → v 172 (13 + 16 * p + c) = A p c
theorem ma_r {v : MM} {n p c : Nat} {A : Nat → Nat → Int32} (h : RMA v n A) (n9 : n ≤ 9) (hp : p < n) (hc : c < 16) : mof v (iN p) (iN c) = A p c := by
  rw [mofE (by omega) hc]
  exact h.2 p c hp hc
/-- the ponds are in order -/
def AWF (n : Nat) (A : Nat → Nat → Int32) : Prop := ∀ p, p < n → (∀ c, c < 16 → Bd (cLo c) (cHi c) (A p c)) ∧ LK n p (A p 8) ∧ LK n p (A p 9)
