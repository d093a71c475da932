/-! a storm, pond by pond: what it is, and what the class does -/
/-- pond q is in the set -/
def inB (s : Int32) (q : Nat) : Bool := decide (((s >>> (iN q &&& 31)) &&& 1) = 1)
def bt (p : Nat) : Int32 := 1 <<< (iN p &&& 31)
/-- is there such a pond -/
def hasB (n : Nat) (x : Int32) : Bool := if x < 0 then false else if iN n ≤ x then false else true
def HRS (A : Nat → Nat → Int32) (w : Int32) (p : Nat) : Prop := ¬ A p 12 = -1 ∧ ∃ q, q < p ∧ inB w q = true ∧ (A q 8 = iN p ∨ A q 9 = iN p) ∧ ¬ A q 11 < A p 12
noncomputable def hrB (A : Nat → Nat → Int32) (w : Int32) (p : Nat) : Bool := @decide (HRS A w p) (Classical.propDecidable _)
def wat (A : Nat → Nat → Int32) (st : Int32) (h : Bool) (p : Nat) (c : Int32) : Int32 := c + (st * A p 2 + (if h = true then 0 else A p 1))
def gos (A : Nat → Nat → Int32) (bk kp : Int32) (p : Nat) (w : Int32) : Bool := if iN p = kp then false else if A p 15 = 1 then false else if inB bk p = true then true else if w - A p 0 ≤ A p 3 then false else true
def lef (A : Nat → Nat → Int32) (kp : Int32) (h go : Bool) (p : Nat) (w : Int32) : Int32 := (if iN p = kp then 0 else if go = true then w else if A p 15 = 1 then w else if 0 < w - A p 0 then w - A p 0 else 0) + (if h = true then A p 1 else 0)
def trn (A : Nat → Nat → Int32) (n p : Nat) (l : Int32) : Int32 := if hasB n (A p 9) = true then (l * A p 10) / 10 else 0
def pA (A : Nat → Nat → Int32) (n p : Nat) (l : Int32) (W : Nat → Int32) : Nat → Int32 := if hasB n (A p 9) = true then upd W (A p 9).toNatClampNeg (W (A p 9).toNatClampNeg + (l * A p 10) / 10) else W
def pW (A : Nat → Nat → Int32) (n p : Nat) (l : Int32) (W : Nat → Int32) : Nat → Int32 := if hasB n (A p 8) = true then upd (pA A n p l W) (A p 8).toNatClampNeg (pA A n p l W (A p 8).toNatClampNeg + (l - trn A n p l)) else pA A n p l W
def pB (A : Nat → Nat → Int32) (n p : Nat) (l b : Int32) : Int32 := if hasB n (A p 8) = true then b else b + (l - trn A n p l)
abbrev ST : Type := Int32 × Int32 × Int32 × (Nat → Int32) × (Nat → Int32)
def stq (A : Nat → Nat → Int32) (n : Nat) (kp : Int32) (p : Nat) (s : ST) (h go : Bool) (w : Int32) : ST := (if go = true then s.1 ||| bt p else s.1, if h = true then s.2.1 ||| bt p else s.2.1, pB A n p (lef A kp h go p w) s.2.2.1, pW A n p (lef A kp h go p w) (upd s.2.2.2.1 p w), upd s.2.2.2.2 p (lef A kp h go p w))
noncomputable def stp (A : Nat → Nat → Int32) (n : Nat) (st bk kp : Int32) (p : Nat) (s : ST) : ST := stq A n kp p s (hrB A s.1 p) (gos A bk kp p (wat A st (hrB A s.1 p) p (s.2.2.2.1 p))) (wat A st (hrB A s.1 p) p (s.2.2.2.1 p))
/-- a storm's first p ponds -/
noncomputable def stN (A : Nat → Nat → Int32) (n : Nat) (st bk kp : Int32) : Nat → ST
  | 0 => (0, 0, 0, fun _ => 0, fun _ => 0)
  | p + 1 => stp A n st bk kp p (stN A n st bk kp p)
/-- harm of a set, the first p ponds -/
def hrm (A : Nat → Nat → Int32) (s : Int32) : Nat → Int32
  | 0 => 0
  | p + 1 => if inB s p = true then hrm A s p + A p 5 else hrm A s p
