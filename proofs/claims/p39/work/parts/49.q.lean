/-! means as numbers; rains that are all dry are as one of them -/
noncomputable def hN (A : Nat → Nat → Int32) (n : Nat) (st : Int32) (b : Nat) : Nat := (hro A (-1) (stN A n st (iN b) (-1) n).1 n).toNatClampNeg
/-! ponds filled -/
