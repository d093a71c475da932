/-! sets, weights, sums over storms -/
theorem inN : ∀ k, k < 512 → ∀ q, q < 9 → inB (iN k) q = k.testBit q := by decide +kernel
/-- the set of the first ponds that f tells -/
def bset (f : Nat → Bool) : Nat → Nat
  | 0 => 0
  | p + 1 => if f p = true then bset f p + 2 ^ p else bset f p
theorem bset_lt {f : Nat → Bool} : ∀ p, bset f p < 2 ^ p := by
  intro p
  induction p with
  | zero => exact (by decide : (0 : Nat) < 2 ^ 0)
  | succ p ih =>
    show (if f p = true then bset f p + 2 ^ p else bset f p) < 2 ^ (p + 1)
    rw [Nat.pow_succ]
    split <;> omega
theorem tb_add {k p q : Nat} (hk : k < 2 ^ p) (hq : q ≤ p) : (k + 2 ^ p).testBit q = if q = p then true else k.testBit q := by
  rw [Nat.add_comm]
  by_cases y : q = p
  · rw [if_pos y, y, Nat.testBit_two_pow_add_eq, Nat.testBit_lt_two_pow hk]
    rfl
  · rw [if_neg y, Nat.testBit_two_pow_add_gt (by omega)]
theorem bset_b {f : Nat → Bool} : ∀ p q, q < p → (bset f p).testBit q = f q := by
  intro p
  induction p with
  | zero => intro q h; omega
  | succ p ih =>
    intro q h
    show (if f p = true then bset f p + 2 ^ p else bset f p).testBit q = f q
    by_cases y : q = p
    · rw [y]
      by_cases w : f p = true
      · rw [if_pos w, tb_add (bset_lt p) (Nat.le_refl p), if_pos rfl, w]
      · rw [if_neg w, Nat.testBit_lt_two_pow (bset_lt p), (Bool.not_eq_true _).mp w]
    · by_cases w : f p = true
      · rw [if_pos w, tb_add (bset_lt p) (by omega), if_neg y]
        exact ih q (by omega)
      · rw [if_neg w]
        exact ih q (by omega)
theorem bset_or {f : Nat → Bool} {p : Nat} (hp : p < 9) : iN (bset f p) ||| bt p = iN (bset f p + 2 ^ p) := by
  have h3 := p2_le (p := p) (by omega)
  have h4 := bset_lt (f := f) p
  exact (bits9 p hp _ (by omega) h4).2.2
/-- a set within another one -/
theorem sub_0 {b w n : Nat} (hb : b < 2 ^ n) (n9 : n ≤ 9) (h : ∀ p, p < n → b.testBit p = true → w.testBit p = true) : iN b &&& (iN w ^^^ (-1)) = 0 := by
  refine Int32.toBitVec_inj.mp ?_
  rw [Int32.toBitVec_and, Int32.toBitVec_xor]
  show BitVec.ofNat 32 b &&& (BitVec.ofNat 32 w ^^^ BitVec.allOnes 32) = BitVec.ofNat 32 0
  refine BitVec.eq_of_getLsbD_eq (fun i hi => ?_)
  rw [BitVec.getLsbD_and, BitVec.getLsbD_xor, BitVec.getLsbD_ofNat, BitVec.getLsbD_ofNat, BitVec.getLsbD_ofNat, BitVec.getLsbD_allOnes, decide_eq_true hi, Nat.zero_testBit]
  by_cases y : b.testBit i = true
  · have hn : i < n := by
      by_cases z : i < n
      · exact z
      · rw [Nat.testBit_lt_two_pow (Nat.lt_of_lt_of_le hb (Nat.pow_le_pow_right (by decide) (by omega)))] at y
        exact absurd y (by decide)
    rw [h i hn y, y]
    rfl
  · rw [(Bool.not_eq_true _).mp y]
    rfl
/-! weights -/
def fac (ch : Nat → Int32) (b p : Nat) : Int64 := (if b.testBit p = true then ch p else 10 - ch p).toInt64
def wB (ch : Nat → Int32) (b : Nat) : Nat → Int64
  | 0 => 1
  | p + 1 => wB ch b p * fac ch b p
def prB (ch : Nat → Int32) (b : Nat) (c : Int64) : Nat → Int64
  | 0 => c
  | p + 1 => prB ch b c p * fac ch b p
theorem prB_e {ch : Nat → Int32} {b : Nat} {c : Int64} : ∀ p, prB ch b c p = wB ch b p * c := by
  intro p
  induction p with
  | zero =>
    show c = 1 * c
    rw [Int64.one_mul]
  | succ p ih =>
    show prB ch b c p * fac ch b p = wB ch b p * fac ch b p * c
    rw [ih, Int64.mul_assoc, Int64.mul_assoc, Int64.mul_comm c]
theorem wB_c {ch ch2 : Nat → Int32} {b b2 : Nat} : ∀ p, (∀ q, q < p → ch q = ch2 q ∧ b.testBit q = b2.testBit q) → wB ch b p = wB ch2 b2 p := by
  intro p
  induction p with
  | zero => intro _; rfl
  | succ p ih =>
    intro h
    obtain ⟨h1, h2⟩ := h p (by omega)
    show wB ch b p * fac ch b p = wB ch2 b2 p * fac ch2 b2 p
    unfold fac
    rw [ih (fun q hq => h q (by omega)), h1, h2]
theorem wB_0 {ch : Nat → Int32} {b q : Nat} (hq : b.testBit q = true) (h0 : ch q = 0) : ∀ p, q < p → wB ch b p = 0 := by
  intro p
  induction p with
  | zero => intro h; omega
  | succ p ih =>
    intro h
    show wB ch b p * fac ch b p = 0
    by_cases y : q = p
    · subst y
      unfold fac
      rw [if_pos hq, h0]
      exact Int64.mul_zero
    · rw [ih (by omega)]
      exact Int64.zero_mul
/-! sums over storms -/
/-! a storm does not hang on the chances -/
