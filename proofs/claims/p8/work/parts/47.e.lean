/-! the reference's storm, all of it -/
/-- harm, as the reference adds it -/
def hro (A : Nat → Nat → Int32) (o s : Int32) : Nat → Int32
  | 0 => 0
  | p + 1 => hro A o s p + (if inB s p = true ∧ (o = -1 ∨ A p 6 = o) then A p 5 else 0)
