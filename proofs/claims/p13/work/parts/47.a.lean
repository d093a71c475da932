/-! a storm, pond by pond: what it is, and what the class does -/
/-- pond q is in the set -/
def inB (s : Int32) (q : Nat) : Bool := decide (((s >>> (iN q &&& 31)) &&& 1) = 1)
def bt (p : Nat) : Int32 := 1 <<< (iN p &&& 31)
theorem isI {s : Int32} {q : Nat} {u : MM} {g : GG} : Fx_isInX s (iN q) u g = inB s q := by
  unfold Fx_isInX inB
  by_cases h : ((s >>> (iN q &&& 31)) &&& 1) = 1
  · rw [if_pos h, decide_eq_true h]
  · rw [if_neg h, decide_eq_false h]
theorem b9I {p : Nat} {u : MM} {g : GG} (hp : p ≤ 1000) : Fx_bit9X (iN p) u g = bt p := by
  unfold Fx_bit9X bt
  rw [if_pos (show (0 : Int32) ≤ iN p from (iN_le (a := 0) (by omega) (by omega)).mpr (Nat.zero_le _))]
/-- is there such a pond -/
def hasB (n : Nat) (x : Int32) : Bool := if x < 0 then false else if iN n ≤ x then false else true
def HRS (A : Nat → Nat → Int32) (w : Int32) (p : Nat) : Prop := ¬ A p 12 = -1 ∧ ∃ q, q < p ∧ inB w q = true ∧ (A q 8 = iN p ∨ A q 9 = iN p) ∧ ¬ A q 11 < A p 12
noncomputable def hrB (A : Nat → Nat → Int32) (w : Int32) (p : Nat) : Bool := @decide (HRS A w p) (Classical.propDecidable _)
def wat (A : Nat → Nat → Int32) (st : Int32) (h : Bool) (p : Nat) (c : Int32) : Int32 := c + (st * A p 2 + (if h = true then 0 else A p 1))
def gos (A : Nat → Nat → Int32) (bk kp : Int32) (p : Nat) (w : Int32) : Bool := if iN p = kp then false else if A p 15 = 1 then false else if inB bk p = true then true else if w - A p 0 ≤ A p 3 then false else true
def lef (A : Nat → Nat → Int32) (kp : Int32) (h go : Bool) (p : Nat) (w : Int32) : Int32 := (if iN p = kp then 0 else if go = true then w else if A p 15 = 1 then w else if 0 < w - A p 0 then w - A p 0 else 0) + (if h = true then A p 1 else 0)
def trn (A : Nat → Nat → Int32) (n p : Nat) (l : Int32) : Int32 := if hasB n (A p 9) = true then (l * A p 10) / 10 else 0
def pA (A : Nat → Nat → Int32) (n p : Nat) (l : Int32) (W : Nat → Int32) : Nat → Int32 := if hasB n (A p 9) = true then upd W (A p 9).toNatClampNeg (W (A p 9).toNatClampNeg + (l * A p 10) / 10) else W
def pW (A : Nat → Nat → Int32) (n p : Nat) (l : Int32) (W : Nat → Int32) : Nat → Int32 := if hasB n (A p 8) = true then upd (pA A n p l W) (A p 8).toNatClampNeg (pA A n p l W (A p 8).toNatClampNeg + (l - trn A n p l)) else pA A n p l W
def pB (A : Nat → Nat → Int32) (n p : Nat) (l b : Int32) : Int32 := if hasB n (A p 8) = true then b else b + (l - trn A n p l)
abbrev ST : Type := Int32 × Int32 × Int32 × (Nat → Int32) × (Nat → Int32)
def stq (A : Nat → Nat → Int32) (n : Nat) (kp : Int32) (p : Nat) (s : ST) (h go : Bool) (w : Int32) : ST := (if go = true then s.1 ||| bt p else s.1, if h = true then s.2.1 ||| bt p else s.2.1, pB A n p (lef A kp h go p w) s.2.2.1, pW A n p (lef A kp h go p w) (upd s.2.2.2.1 p w), upd s.2.2.2.2 p (lef A kp h go p w))
noncomputable def stp (A : Nat → Nat → Int32) (n : Nat) (st bk kp : Int32) (p : Nat) (s : ST) : ST := stq A n kp p s (hrB A s.1 p) (gos A bk kp p (wat A st (hrB A s.1 p) p (s.2.2.2.1 p))) (wat A st (hrB A s.1 p) p (s.2.2.2.1 p))
/-- a storm's first p ponds -/
noncomputable def stN (A : Nat → Nat → Int32) (n : Nat) (st bk kp : Int32) : Nat → ST
  | 0 => (0, 0, 0, fun _ => 0, fun _ => 0)
  | p + 1 => stp A n st bk kp p (stN A n st bk kp p)
/-- harm of a set, the first p ponds -/
def hrm (A : Nat → Nat → Int32) (s : Int32) : Nat → Int32
  | 0 => 0
  | p + 1 => if inB s p = true then hrm A s p + A p 5 else hrm A s p
theorem bits9 : ∀ p, p < 9 → ∀ k, k < 512 → k < 2 ^ p → inB (iN k) p = false ∧ inB (iN k ||| bt p) p = true ∧ iN k ||| bt p = iN (k + 2 ^ p) := by decide +kernel
theorem p2_le {p : Nat} (h : p ≤ 9) : 2 ^ p ≤ 512 := Nat.le_trans (Nat.pow_le_pow_right (by decide) h) (by decide)
/-- the set has ponds below p alone -/
def SB (s : Int32) (p : Nat) : Prop := ∃ k, k < 2 ^ p ∧ s = iN k
theorem sb_0 : SB 0 0 := ⟨0, by decide, rfl⟩
theorem sb_s {s : Int32} {p : Nat} (h : SB s p) : SB s (p + 1) := by
  obtain ⟨k, h1, h2⟩ := h
  exact ⟨k, Nat.lt_of_lt_of_le h1 (Nat.pow_le_pow_right (by decide) (by omega)), h2⟩
theorem sb_o {s : Int32} {p : Nat} (hp : p < 9) (h : SB s p) : SB (s ||| bt p) (p + 1) := by
  obtain ⟨k, h1, h2⟩ := h
  have h3 := p2_le (p := p) (by omega)
  refine ⟨k + 2 ^ p, by rw [Nat.pow_succ]; omega, ?_⟩
  rw [h2]
  exact (bits9 p hp k (by omega) h1).2.2
theorem sb_n {s : Int32} {p : Nat} (hp : p < 9) (h : SB s p) : inB s p = false := by
  obtain ⟨k, h1, h2⟩ := h
  have h3 := p2_le (p := p) (by omega)
  rw [h2]
  exact (bits9 p hp k (by omega) h1).1
theorem sb_y {s : Int32} {p : Nat} (hp : p < 9) (h : SB s p) : inB (s ||| bt p) p = true := by
  obtain ⟨k, h1, h2⟩ := h
  have h3 := p2_le (p := p) (by omega)
  rw [h2]
  exact (bits9 p hp k (by omega) h1).2.1
theorem st_sb {A : Nat → Nat → Int32} {n : Nat} {st bk kp : Int32} : ∀ p, p ≤ 9 → SB (stN A n st bk kp p).1 p ∧ SB (stN A n st bk kp p).2.1 p := by
  intro p
  induction p with
  | zero => intro _; exact ⟨sb_0, sb_0⟩
  | succ p ih =>
    intro hp
    obtain ⟨i1, i2⟩ := ih (by omega)
    have e : stN A n st bk kp (p + 1) = stp A n st bk kp p (stN A n st bk kp p) := rfl
    rw [e]
    unfold stp stq
    dsimp only
    refine ⟨?_, ?_⟩
    · split
      · exact sb_o (by omega) i1
      · exact sb_s i1
    · split
      · exact sb_o (by omega) i2
      · exact sb_s i2
/-- reads of the class's hill in cell t -/
def HA (u : MM) (t n : Nat) (A : Nat → Nat → Int32) : Prop := u t 0 = iN n ∧ ∀ p c, p < n → c < 16 → u (t + 1) (16 * p + c) = A p c
theorem ha_r {u : MM} {t n p c : Nat} {A : Nat → Nat → Int32} (h : HA u t n A) (n9 : n ≤ 9) (hp : p < n) (hc : c < 16) : hof u t (iN p) (iN c) = A p c := by
  rw [hofE (by omega) hc]
  exact h.2 p c hp hc
theorem ha_c {u x : MM} {t n : Nat} {A : Nat → Nat → Int32} (h : HA u t n A) (e0 : x t = u t) (e1 : x (t + 1) = u (t + 1)) : HA x t n A := by
  unfold HA
  rw [e0, e1]
  exact h
theorem hX_b {u : MM} {g : GG} {t n : Nat} {A : Nat → Nat → Int32} {x : Int32} (h : HA u t n A) : Fx_H_hasX x t u g = hasB n x := by
  unfold Fx_H_hasX hasB
  rw [h.1]
theorem hm_L {u : MM} {g : GG} {t n : Nat} {A : Nat → Nat → Int32} {s : Int32} (h : HA u t n A) (n9 : n ≤ 9) : ∀ (f p : Nat), n - p < f → p ≤ n → Fx_H_harmOfX_L4 s t u g f (hrm A s p) (iN p) = hrm A s n := by
  intro f
  induction f with
  | zero => intro p h1; omega
  | succ f ih =>
    intro p h1 h2
    rw [Fx_H_harmOfX_L4_s, h.1]
    by_cases q : n ≤ p
    · rw [if_pos ((iN_le (by omega) (by omega)).mpr q), show p = n by omega]
    · rw [if_neg (fun z => q ((iN_le (by omega) (by omega)).mp z)), xqb, isI]
      unfold Fx_H_harmOfX_J29
      rw [iN_s, show hof u t (iN p) (5 : Int32) = A p 5 from ha_r (c := 5) h n9 (by omega) (by decide)]
      have e : hrm A s (p + 1) = if inB s p = true then hrm A s p + A p 5 else hrm A s p := rfl
      by_cases z : inB s p = true
      · rw [if_pos z] at e ⊢
        rw [← e]
        exact ih (p + 1) (by omega) (by omega)
      · rw [if_neg z] at e ⊢
        rw [← e]
        exact ih (p + 1) (by omega) (by omega)
theorem hm_X {u : MM} {g : GG} {t n : Nat} {A : Nat → Nat → Int32} {s : Int32} (h : HA u t n A) (n9 : n ≤ 9) : Fx_H_harmOfX s t u g = hrm A s n := by
  unfold Fx_H_harmOfX
  have e : (9 - (0 : Int32).toInt).toNat + 1 = 10 := by decide
  rw [e]
  exact hm_L h n9 10 0 (by omega) (by omega)
theorem inB_0 : ∀ q, q < 9 → inB 0 q = false := by decide +kernel
theorem hasB_lt {n : Nat} {x : Int32} (n9 : n ≤ 9) (h : hasB n x = true) : x.toNatClampNeg < n := by
  unfold hasB at h
  by_cases a : x < 0
  · rw [if_pos a] at h; exact absurd h (by decide)
  · rw [if_neg a] at h
    by_cases b : iN n ≤ x
    · rw [if_pos b] at h; exact absurd h (by decide)
    · have b1 := Int32.lt_iff_toInt_lt.mp (i_nle b)
      have a1 := Int32.le_iff_toInt_le.mp (i_nlt a)
      rw [iN_ti (by omega)] at b1
      have h1 : x.toNatClampNeg = x.toInt.toNat := rfl
      have e0 : (0 : Int32).toInt = 0 := rfl
      omega
def cnd (b : Bool) (u : MM) (a i : Nat) (v : Int32) : MM := if b = true then ms u a i v else u
theorem cn_c {b : Bool} {u : MM} {a i c : Nat} {v : Int32} (h : c ≠ a) : cnd b u a i v c = u c := by
  unfold cnd
  split
  · exact ms_c1 h
  · rfl
theorem cn_i {b : Bool} {u : MM} {a i j : Nat} {v : Int32} (h : j ≠ i) : cnd b u a i v a j = u a j := by
  unfold cnd
  split
  · exact ms_i1 h
  · rfl
theorem cn_e {b : Bool} {u : MM} {a i : Nat} {v : Int32} : cnd b u a i v a i = if b = true then v else u a i := by
  unfold cnd
  split
  · exact ms_e1
  · rfl
