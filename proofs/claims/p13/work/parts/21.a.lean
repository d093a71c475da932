/-! the reference: years, common divisors, steps, orders -/
def YI (u : Nat → Nat → Int32) (r b : Int32) : Prop := (r = 0 ∧ Bd 0 99 b) ∨ (r = 1 ∧ 0 ≤ b.toInt ∧ b.toInt + (u 172 6).toInt ≤ 99) ∨ (r = 2 ∧ 0 ≤ b.toInt ∧ b.toInt + (u 172 6).toInt + (u 172 8).toInt ≤ 99) ∨ (r = 3 ∧ 0 ≤ b.toInt ∧ b.toInt + (u 172 6).toInt + (u 172 8).toInt + (u 172 10).toInt ≤ 99)
theorem yi_0 {u : Nat → Nat → Int32} {b : Int32} (h : Bd 0 99 b) : YI u 0 b := Or.inl ⟨rfl, h⟩
theorem yi_b {u : Nat → Nat → Int32} {r b : Int32} (h : YI u r b) : Bd 0 3 r := by
  rcases h with ⟨h, -⟩ | ⟨h, -⟩ | ⟨h, -⟩ | ⟨h, -⟩ <;> subst h <;> decide
theorem yi_ix : ((5 : Int32) + 2 * 0 + 1).toNatClampNeg = 6 ∧ ((5 : Int32) + 2 * 1 + 1).toNatClampNeg = 8 ∧ ((5 : Int32) + 2 * 2 + 1).toNatClampNeg = 10 ∧ ((5 : Int32) + 2 * 3 + 1).toNatClampNeg = 12 := by decide
theorem yi_s {u : Nat → Nat → Int32} {r b c : Int32} (hc : RC u) (h : YI u r b) (e : c = u 172 (5 + 2 * r + 1).toNatClampNeg) (q : c ≤ b) : YI u (r + 1) (b - c) ∧ Bd 0 3 (r + 1) := by
  obtain ⟨-, a6, a8, a10, a12, hs⟩ := hc
  have hq := Int32.le_iff_toInt_le.mp q
  obtain ⟨x0, x1, x2, x3⟩ := yi_ix
  rcases h with ⟨h, h1⟩ | ⟨h, h1, h2⟩ | ⟨h, h1, h2⟩ | ⟨h, h1, h2⟩ <;> subst h
  · rw [x0] at e
    subst e
    have hb : (b - u 172 6).toInt = b.toInt - (u 172 6).toInt := ti_sub (by omega) (by omega)
    refine ⟨Or.inr (Or.inl ⟨rfl, by omega, by omega⟩), by decide⟩
  · rw [x1] at e
    subst e
    have hb : (b - u 172 8).toInt = b.toInt - (u 172 8).toInt := ti_sub (by omega) (by omega)
    refine ⟨Or.inr (Or.inr (Or.inl ⟨rfl, by omega, by omega⟩)), by decide⟩
  · rw [x2] at e
    subst e
    have hb : (b - u 172 10).toInt = b.toInt - (u 172 10).toInt := ti_sub (by omega) (by omega)
    refine ⟨Or.inr (Or.inr (Or.inr ⟨rfl, by omega, by omega⟩)), by decide⟩
  · rw [x3] at e
    subst e
    exfalso
    omega
theorem i32_tmod_lt {x y : Int32} (h : ¬ x = 0) : (y - y / x * x).toInt.natAbs < x.toInt.natAbs := by
  have hx : x.toInt ≠ 0 := fun q => h (Int32.toInt_inj.mp q)
  have bx := bd_any x
  have by_ := bd_any y
  by_cases h1 : x.toInt = -1
  · have e : x = -1 := Int32.toInt_inj.mp h1
    subst e
    have e2 : y - y / (-1) * (-1) = 0 := by
      have h2 : y / (-1) = -y := by
        apply Int32.toInt_inj.mp
        have e1 : (-1 : Int32).toInt = -1 := by decide
        rw [Int32.toInt_div, e1, Int.tdiv_neg, Int.tdiv_one, Int32.toInt_neg]
      rw [h2]
      apply Int32.toInt_inj.mp
      have h3 : -y * -1 = y := by
        apply Int32.toInt_inj.mp
        have e1 : (-1 : Int32).toInt = -1 := by decide
        rw [Int32.toInt_mul, e1, Int32.toInt_neg]
        rw [Int.bmod_mul_bmod]
        rw [show -y.toInt * -1 = y.toInt by omega]
        exact bmod by_.1 by_.2
      rw [h3, Int32.sub_self]
    rw [e2]
    decide
  · have h2 : (y / x).toInt = y.toInt.tdiv x.toInt := by
      rw [Int32.toInt_div]
      have h3 : (y.toInt.tdiv x.toInt).natAbs ≤ 1073741824 ∨ x.toInt = 1 := by
        by_cases q : x.toInt = 1
        · exact Or.inr q
        · refine Or.inl ?_
          rw [Int.natAbs_tdiv]
          have h4 : 2 ≤ x.toInt.natAbs := by omega
          have h5 : y.toInt.natAbs ≤ 2147483648 := by omega
          calc y.toInt.natAbs / x.toInt.natAbs ≤ y.toInt.natAbs / 2 := Nat.div_le_div_left h4 (by decide)
            _ ≤ 1073741824 := by omega
      rcases h3 with h3 | h3
      · exact bmod (by omega) (by omega)
      · rw [h3, Int.tdiv_one]
        exact bmod by_.1 by_.2
    have h3 : y.toInt.tdiv x.toInt * x.toInt + y.toInt.tmod x.toInt = y.toInt := by rw [Int.mul_comm]; exact Int.mul_tdiv_add_tmod _ _
    have h4 : (y.toInt.tmod x.toInt).natAbs < x.toInt.natAbs := by
      rw [Int.natAbs_tmod]
      exact Nat.mod_lt _ (by omega)
    have h5 : (y.toInt.tmod x.toInt).natAbs ≤ y.toInt.natAbs := by
      rw [Int.natAbs_tmod]
      exact Nat.mod_le _ _
    have hsgn : (0 ≤ y.toInt → 0 ≤ y.toInt.tmod x.toInt) ∧ (y.toInt ≤ 0 → y.toInt.tmod x.toInt ≤ 0) := by
      refine ⟨fun q => Int.tmod_nonneg _ q, fun q => ?_⟩
      have := Int.tmod_nonneg (a := -y.toInt) x.toInt (by omega)
      rw [Int.neg_tmod] at this
      omega
    have h6 : (y / x * x).toInt = y.toInt.tdiv x.toInt * x.toInt := by
      rw [Int32.toInt_mul, h2]
      exact bmod (by omega) (by omega)
    have h7 : (y - y / x * x).toInt = y.toInt.tmod x.toInt := by
      rw [ti_sub (by omega) (by omega), h6]
      omega
    rw [h7]
    exact h4
theorem bmod64 {x : Int} (h1 : -9223372036854775808 ≤ x) (h2 : x ≤ 9223372036854775807) : x.bmod (2 ^ 64) = x := by
  rw [Int.bmod_eq_of_le] <;> omega
theorem bd64 (v : Int64) : -9223372036854775808 ≤ v.toInt ∧ v.toInt ≤ 9223372036854775807 := ⟨by have := Int64.le_toInt v; omega, by have := Int64.toInt_lt v; omega⟩
theorem i64_tmod_lt {x y : Int64} (h : ¬ x = 0) : (y - y / x * x).toInt.natAbs < x.toInt.natAbs := by
  have hx : x.toInt ≠ 0 := fun q => h (Int64.toInt_inj.mp q)
  have bx := bd64 x
  have by_ := bd64 y
  by_cases h1 : x.toInt = -1
  · have e : x = -1 := Int64.toInt_inj.mp h1
    subst e
    have e2 : y - y / (-1) * (-1) = 0 := by
      have h2 : y / (-1) = -y := by
        apply Int64.toInt_inj.mp
        have e1 : (-1 : Int64).toInt = -1 := by decide
        rw [Int64.toInt_div, e1, Int.tdiv_neg, Int.tdiv_one, Int64.toInt_neg]
      rw [h2]
      apply Int64.toInt_inj.mp
      have h3 : -y * -1 = y := by
        apply Int64.toInt_inj.mp
        have e1 : (-1 : Int64).toInt = -1 := by decide
        rw [Int64.toInt_mul, e1, Int64.toInt_neg]
        rw [Int.bmod_mul_bmod]
        rw [show -y.toInt * -1 = y.toInt by omega]
        exact bmod64 by_.1 by_.2
      rw [h3, Int64.sub_self]
    rw [e2]
    decide
  · have h2 : (y / x).toInt = y.toInt.tdiv x.toInt := by
      rw [Int64.toInt_div]
      have h3 : (y.toInt.tdiv x.toInt).natAbs ≤ 4611686018427387904 ∨ x.toInt = 1 := by
        by_cases q : x.toInt = 1
        · exact Or.inr q
        · refine Or.inl ?_
          rw [Int.natAbs_tdiv]
          have h4 : 2 ≤ x.toInt.natAbs := by omega
          have h5 : y.toInt.natAbs ≤ 9223372036854775808 := by omega
          calc y.toInt.natAbs / x.toInt.natAbs ≤ y.toInt.natAbs / 2 := Nat.div_le_div_left h4 (by decide)
            _ ≤ 4611686018427387904 := by omega
      rcases h3 with h3 | h3
      · exact bmod64 (by omega) (by omega)
      · rw [h3, Int.tdiv_one]
        exact bmod64 by_.1 by_.2
    have h3 : y.toInt.tdiv x.toInt * x.toInt + y.toInt.tmod x.toInt = y.toInt := by rw [Int.mul_comm]; exact Int.mul_tdiv_add_tmod _ _
    have h4 : (y.toInt.tmod x.toInt).natAbs < x.toInt.natAbs := by
      rw [Int.natAbs_tmod]
      exact Nat.mod_lt _ (by omega)
    have h5 : (y.toInt.tmod x.toInt).natAbs ≤ y.toInt.natAbs := by
      rw [Int.natAbs_tmod]
      exact Nat.mod_le _ _
    have hsgn : (0 ≤ y.toInt → 0 ≤ y.toInt.tmod x.toInt) ∧ (y.toInt ≤ 0 → y.toInt.tmod x.toInt ≤ 0) := by
      refine ⟨fun q => Int.tmod_nonneg _ q, fun q => ?_⟩
      have := Int.tmod_nonneg (a := -y.toInt) x.toInt (by omega)
      rw [Int.neg_tmod] at this
      omega
    have h6 : (y / x * x).toInt = y.toInt.tdiv x.toInt * x.toInt := by
      rw [Int64.toInt_mul, h2]
      exact bmod64 (by omega) (by omega)
    have h7 : (y - y / x * x).toInt = y.toInt.tmod x.toInt := by
      rw [Int64.toInt_sub, h6, bmod64 (by omega) (by omega)]
      omega
    rw [h7]
    exact h4
theorem or_nat : ∀ s, s < 512 → ∀ k, k < 9 → ((s >>> k) % 2 = 1 ∨ s < s ||| (2 ^ k)) := by decide +kernel
theorem sh_nat : ∀ k, k < 9 → ((1 : Int32) <<< (Int32.ofNat k &&& 31)).toBitVec.toNat = 2 ^ k := by decide +kernel
theorem sh_and : ∀ k, k < 9 → (Int32.ofNat k &&& 31) = Int32.ofNat k := by decide +kernel
theorem shr_i {s : Int32} {k : Nat} (h0 : 0 ≤ s.toInt) (hk : k < 9) : (s >>> (Int32.ofNat k &&& 31)).toInt = ((s.toBitVec.toNat >>> k : Nat) : Int) := by
  rw [sh_and k hk]
  show (s >>> Int32.ofNat k).toBitVec.toInt = _
  rw [Int32.toBitVec_shiftRight, BitVec.sshiftRight', sh_dec k (by omega), BitVec.toInt_sshiftRight]
  have h1 : s.toBitVec.toInt = (s.toBitVec.toNat : Int) := bd_bv h0
  rw [h1, Int.shiftRight_eq_div_pow, Nat.shiftRight_eq_div_pow]
  rfl
theorem or_up {s k : Int32} (bs : Bd 0 511 s) (bk : Bd 0 8 k) (hb : ¬ ((s >>> (k &&& 31)) &&& 1) = 1) : s.toInt < (s ||| (1 <<< (k &&& 31))).toInt := by
  obtain ⟨c, c1, c2⟩ := i32_nat bk (by decide)
  have hc : c < 9 := by have := bk.2; omega
  have hs := bd_bv bs.1
  have hn : s.toBitVec.toNat < 512 := by have := bs.2; omega
  rw [c2] at hb ⊢
  have h1 := shr_i bs.1 hc
  rcases or_nat s.toBitVec.toNat hn c hc with h | h
  · exfalso
    apply hb
    have hv : Bd 0 511 (s >>> (Int32.ofNat c &&& 31)) := bd_shr bs (by decide)
    have h2 := bd_bv hv.1
    apply Int32.toInt_inj.mp
    have hb2 : Bd 0 1 ((s >>> (Int32.ofNat c &&& 31)) &&& 1) := bd_andr (a := 1) (b := 1) (by decide) (by decide)
    have h3 := bd_bv hb2.1
    have h4 : ((s >>> (Int32.ofNat c &&& 31)) &&& 1).toBitVec.toNat = (s >>> (Int32.ofNat c &&& 31)).toBitVec.toNat % 2 := by
      show ((s >>> (Int32.ofNat c &&& 31)).toBitVec &&& (1 : Int32).toBitVec).toNat = _
      rw [BitVec.toNat_and]
      have e1 : (1 : Int32).toBitVec.toNat = 1 := rfl
      rw [e1, Nat.and_one_is_mod]
    have e : (1 : Int32).toInt = 1 := rfl
    rw [h3, h4, e]
    have h5 : (s >>> (Int32.ofNat c &&& 31)).toBitVec.toNat = s.toBitVec.toNat >>> c := by omega
    rw [h5, h]
    rfl
  · have h2 : (s ||| (1 <<< (Int32.ofNat c &&& 31))).toBitVec.toNat = s.toBitVec.toNat ||| 2 ^ c := by
      show (s.toBitVec ||| ((1 : Int32) <<< (Int32.ofNat c &&& 31)).toBitVec).toNat = _
      rw [BitVec.toNat_or, sh_nat c hc]
    have hb3 : Bd 0 511 ((1 : Int32) <<< (Int32.ofNat c &&& 31)) := by
      have q := bd_shl (lo := 0) (hi := 8) (l := 1) (h := 256) (v := Int32.ofNat c) (by rw [← c2]; exact bk) (by decide)
      exact bd_w q (by decide)
    have hor := bd_or (k := 9) (h := 511) bs hb3 (by decide)
    have h3 := bd_bv hor.1
    omega
theorem steps_m {s k w : Int32} {n : Nat} {hi : Int} (bs : Bd 0 511 s) (bk : Bd 0 8 k) (hb : ¬ ((s >>> (k &&& 31)) &&& 1) = 1) (e : w = s ||| (1 <<< (k &&& 31))) (bw : Bd 0 511 w) (hm : (511 - s.toInt).toNat < n + 1) : (511 - w.toInt).toNat < n := by
  have h1 := or_up bs bk hb
  rw [← e] at h1
  have := bw.2
  omega
theorem onesN_b (s : Int32) : ∀ n : Nat, n ≤ 9 → Bd 0 (n : Int) (onesN s n) := by
  intro n
  induction n with
  | zero => intro _; exact (show Bd 0 0 (0 : Int32) by decide)
  | succ n ih =>
    intro h
    have h1 := ih (by omega)
    have h2 : Bd 0 1 ((s >>> (Int32.ofNat n &&& 31)) &&& 1) := bd_andr (a := 1) (b := 1) (by decide) (by decide)
    obtain ⟨p1, p2⟩ := h1; obtain ⟨q1, q2⟩ := h2
    rw [onesN, Bd, ti_add (by omega) (by omega)]
    omega
theorem lcmp_e {a : Int64} (h : lg_cmp a 0 = 0) : a = 0 := by
  unfold lg_cmp at h
  split at h
  · exact absurd h (by decide)
  · split at h
    · assumption
    · exact absurd h (by decide)
def MYI (s n p : Int32) : Prop := Bd (-1) 8 p ∧ 0 ≤ n.toInt ∧ n.toInt + (onesN s (p.toInt + 1).toNat).toInt = (onesN s 9).toInt
theorem myi_0 {s : Int32} : MYI s 0 8 := by
  have e : ((8 : Int32).toInt + 1).toNat = 9 := by decide
  have e0 : (0 : Int32).toInt = 0 := rfl
  refine ⟨by decide, by decide, ?_⟩
  rw [e, e0]
  omega
theorem myi_step {s n p : Int32} (h : MYI s n p) (bp : Bd 0 8 p) : ∃ m : Nat, m ≤ 8 ∧ p = Int32.ofNat m ∧ (m : Int) = p.toInt ∧ n.toInt + (onesN s m).toInt + ((s >>> (p &&& 31)) &&& 1).toInt = (onesN s 9).toInt := by
  obtain ⟨m, h1, h2⟩ := i32_nat bp (by decide)
  refine ⟨m, by have := bp.2; omega, h2, h1, ?_⟩
  have h3 := h.2.2
  have e : (p.toInt + 1).toNat = m + 1 := by omega
  rw [e, onesN] at h3
  have b1 := onesN_b s m (by have := bp.2; omega)
  have b2 : Bd 0 1 ((s >>> (Int32.ofNat m &&& 31)) &&& 1) := bd_andr (a := 1) (b := 1) (by decide) (by decide)
  obtain ⟨p1, p2⟩ := b1; obtain ⟨q1, q2⟩ := b2
  have := bp.2
  rw [ti_add (by omega) (by omega)] at h3
  rw [← h2] at h3
  omega
theorem myi_lt {s n p : Int32} (h : MYI s n p) (bp : Bd 0 8 p) (hb : ((s >>> (p &&& 31)) &&& 1) = 1) (bt : Bd 1 4 (onesN s 9)) : Bd 0 3 n := by
  obtain ⟨m, h1, h2, h3, h4⟩ := myi_step h bp
  rw [hb] at h4
  have e : (1 : Int32).toInt = 1 := rfl
  have b1 := (onesN_b s m (by omega)).1
  have := h.2.1; have := bt.2
  exact ⟨by omega, by omega⟩
theorem pm1 {p : Int32} (bp : Bd 0 8 p) : (p + -1).toInt = p.toInt - 1 := by
  have e : (-1 : Int32).toInt = -1 := rfl
  obtain ⟨b1, b2⟩ := bp
  rw [ti_add (by omega) (by omega), e]
  omega
theorem myi_1 {s n p : Int32} (h : MYI s n p) (bp : Bd 0 8 p) (hb : ((s >>> (p &&& 31)) &&& 1) = 1) (bn : Bd 0 3 n) : MYI s (n + 1) (p + -1) := by
  obtain ⟨m, h1, h2, h3, h4⟩ := myi_step h bp
  rw [hb] at h4
  have e : (1 : Int32).toInt = 1 := rfl
  have hp := pm1 bp
  have hn : (n + 1).toInt = n.toInt + 1 := by rw [ti_add (by have := bn.1; have := bn.2; omega) (by have := bn.1; have := bn.2; omega), e]
  have e2 : ((p + -1).toInt + 1).toNat = m := by omega
  refine ⟨⟨by have := bp.1; omega, by have := bp.2; omega⟩, by have := bn.1; omega, ?_⟩
  rw [e2, hn]
  omega
theorem bit01 {s p : Int32} (hb : ¬ ((s >>> (p &&& 31)) &&& 1) = 1) : ((s >>> (p &&& 31)) &&& 1).toInt = 0 := by
  have b2 : Bd 0 1 ((s >>> (p &&& 31)) &&& 1) := bd_andr (a := 1) (b := 1) (by decide) (by decide)
  rcases bd_cases2 b2 with h | h
  · rw [h]; rfl
  · exact absurd h hb
theorem myi_2 {s n p : Int32} (h : MYI s n p) (bp : Bd 0 8 p) (hb : ¬ ((s >>> (p &&& 31)) &&& 1) = 1) : MYI s n (p + -1) := by
  obtain ⟨m, h1, h2, h3, h4⟩ := myi_step h bp
  rw [bit01 hb] at h4
  have hp := pm1 bp
  have e2 : ((p + -1).toInt + 1).toNat = m := by omega
  refine ⟨⟨by have := bp.1; omega, by have := bp.2; omega⟩, h.2.1, ?_⟩
  rw [e2]
  omega
