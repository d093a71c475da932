/-! a storm, pond by pond: what it is, and what the class does -/
/-- pond q is in the set -/
def inB (s : Int32) (q : Nat) : Bool := decide (((s >>> (iN q &&& 31)) &&& 1) = 1)
def bt (p : Nat) : Int32 := 1 <<< (iN p &&& 31)
/-- harm of a set, the first p ponds -/
def hrm (A : Nat → Nat → Int32) (s : Int32) : Nat → Int32
  | 0 => 0
  | p + 1 => if inB s p = true then hrm A s p + A p 5 else hrm A s p
/-- reads of the class's hill in cell t -/
def HA (u : MM) (t n : Nat) (A : Nat → Nat → Int32) : Prop := u t 0 = iN n ∧ ∀ p c, p < n → c < 16 → u (t + 1) (16 * p + c) = A p c
theorem ha_r {u : MM} {t n p c : Nat} {A : Nat → Nat → Int32} (h : HA u t n A) (n9 : n ≤ 9) (hp : p < n) (hc : c < 16) : hof u t (iN p) (iN c) = A p c := by
  rw [hofE (by omega) hc]
  exact h.2 p c hp hc
