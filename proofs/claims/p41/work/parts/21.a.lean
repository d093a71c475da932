section
/-! the reference: years, common divisors, steps, orders -/
def YI (u : Nat → Nat → Int32) (r b : Int32) : Prop := (r = 0 ∧ Bd 0 99 b) ∨ (r = 1 ∧ 0 ≤ b.toInt ∧ b.toInt + (u 172 6).toInt ≤ 99) ∨ (r = 2 ∧ 0 ≤ b.toInt ∧ b.toInt + (u 172 6).toInt + (u 172 8).toInt ≤ 99) ∨ (r = 3 ∧ 0 ≤ b.toInt ∧ b.toInt + (u 172 6).toInt + (u 172 8).toInt + (u 172 10).toInt ≤ 99)
theorem yi_0 {u : Nat → Nat → Int32} {b : Int32} (h : Bd 0 99 b) : YI u 0 b := Or.inl ⟨rfl, h⟩
theorem yi_b {u : Nat → Nat → Int32} {r b : Int32} (h : YI u r b) : Bd 0 3 r := by
  rcases h with ⟨h, -⟩ | ⟨h, -⟩ | ⟨h, -⟩ | ⟨h, -⟩ <;> subst h <;> decide
theorem yi_ix : ((5 : Int32) + 2 * 0 + 1).toNatClampNeg = 6 ∧ ((5 : Int32) + 2 * 1 + 1).toNatClampNeg = 8 ∧ ((5 : Int32) + 2 * 2 + 1).toNatClampNeg = 10 ∧ ((5 : Int32) + 2 * 3 + 1).toNatClampNeg = 12 := by decide
theorem yi_s {u : Nat → Nat → Int32} {r b c : Int32} (hc : RC u) (h : YI u r b) (e : c = u 172 (5 + 2 * r + 1).toNatClampNeg) (q : c ≤ b) : YI u (r + 1) (b - c) ∧ Bd 0 3 (r + 1) := by
  obtain ⟨-, a6, a8, a10, a12, hs⟩ := hc
  have hq := Int32.le_iff_toInt_le.mp q
  obtain ⟨x0, x1, x2, x3⟩ := yi_ix
  rcases h with ⟨h, h1⟩ | ⟨h, h1, h2⟩ | ⟨h, h1, h2⟩ | ⟨h, h1, h2⟩ <;> subst h
  · rw [x0] at e
    subst e
    have hb : (b - u 172 6).toInt = b.toInt - (u 172 6).toInt := ti_sub (by omega) (by omega)
    refine ⟨Or.inr (Or.inl ⟨rfl, by omega, by omega⟩), by decide⟩
  · rw [x1] at e
    subst e
    have hb : (b - u 172 8).toInt = b.toInt - (u 172 8).toInt := ti_sub (by omega) (by omega)
    refine ⟨Or.inr (Or.inr (Or.inl ⟨rfl, by omega, by omega⟩)), by decide⟩
  · rw [x2] at e
    subst e
    have hb : (b - u 172 10).toInt = b.toInt - (u 172 10).toInt := ti_sub (by omega) (by omega)
    refine ⟨Or.inr (Or.inr (Or.inr ⟨rfl, by omega, by omega⟩)), by decide⟩
  · rw [x3] at e
    subst e
    exfalso
    omega
theorem i32_tmod_lt {x y : Int32} (h : ¬ x = 0) : (y - y / x * x).toInt.natAbs < x.toInt.natAbs := by
  have hx : x.toInt ≠ 0 := fun q => h (Int32.toInt_inj.mp q)
  have bx := bd_any x
  have by_ := bd_any y
  by_cases h1 : x.toInt = -1
  · have e : x = -1 := Int32.toInt_inj.mp h1
    subst e
    have e2 : y - y / (-1) * (-1) = 0 := by
      have h2 : y / (-1) = -y := by
        apply Int32.toInt_inj.mp
        have e1 : (-1 : Int32).toInt = -1 := by decide
        rw [Int32.toInt_div, e1, Int.tdiv_neg, Int.tdiv_one, Int32.toInt_neg]
      rw [h2]
      apply Int32.toInt_inj.mp
      have h3 : -y * -1 = y := by
        apply Int32.toInt_inj.mp
        have e1 : (-1 : Int32).toInt = -1 := by decide
        rw [Int32.toInt_mul, e1, Int32.toInt_neg]
        rw [Int.bmod_mul_bmod]
        rw [show -y.toInt * -1 = y.toInt by omega]
        exact bmod by_.1 by_.2
      rw [h3, Int32.sub_self]
    rw [e2]
    decide
  · have h2 : (y / x).toInt = y.toInt.tdiv x.toInt := by
      rw [Int32.toInt_div]
      have h3 : (y.toInt.tdiv x.toInt).natAbs ≤ 1073741824 ∨ x.toInt = 1 := by
        by_cases q : x.toInt = 1
        · exact Or.inr q
        · refine Or.inl ?_
          rw [Int.natAbs_tdiv]
          have h4 : 2 ≤ x.toInt.natAbs := by omega
          have h5 : y.toInt.natAbs ≤ 2147483648 := by omega
          calc y.toInt.natAbs / x.toInt.natAbs ≤ y.toInt.natAbs / 2 := Nat.div_le_div_left h4 (by decide)
            _ ≤ 1073741824 := by omega
      rcases h3 with h3 | h3
      · exact bmod (by omega) (by omega)
      · rw [h3, Int.tdiv_one]
        exact bmod by_.1 by_.2
    have h3 : y.toInt.tdiv x.toInt * x.toInt + y.toInt.tmod x.toInt = y.toInt := by rw [Int.mul_comm]; exact Int.mul_tdiv_add_tmod _ _
    have h4 : (y.toInt.tmod x.toInt).natAbs < x.toInt.natAbs := by
      rw [Int.natAbs_tmod]
      exact Nat.mod_lt _ (by omega)
    have h5 : (y.toInt.tmod x.toInt).natAbs ≤ y.toInt.natAbs := by
      rw [Int.natAbs_tmod]
      exact Nat.mod_le _ _
    have hsgn : (0 ≤ y.toInt → 0 ≤ y.toInt.tmod x.toInt) ∧ (y.toInt ≤ 0 → y.toInt.tmod x.toInt ≤ 0) := by
      refine ⟨fun q => Int.tmod_nonneg _ q, fun q => ?_⟩
      have := Int.tmod_nonneg (a := -y.toInt) x.toInt (by omega)
      rw [Int.neg_tmod] at this
      omega
    have h6 : (y / x * x).toInt = y.toInt.tdiv x.toInt * x.toInt := by
      rw [Int32.toInt_mul, h2]
      exact bmod (by omega) (by omega)
    have h7 : (y - y / x * x).toInt = y.toInt.tmod x.toInt := by
      rw [ti_sub (by omega) (by omega), h6]
      omega
    rw [h7]
    exact h4
theorem bmod64 {x : Int} (h1 : -9223372036854775808 ≤ x) (h2 : x ≤ 9223372036854775807) : x.bmod (2 ^ 64) = x := by
  rw [Int.bmod_eq_of_le] <;> omega
theorem bd64 (v : Int64) : -9223372036854775808 ≤ v.toInt ∧ v.toInt ≤ 9223372036854775807 := ⟨by have := Int64.le_toInt v; omega, by have := Int64.toInt_lt v; omega⟩
theorem i64_tmod_lt {x y : Int64} (h : ¬ x = 0) : (y - y / x * x).toInt.natAbs < x.toInt.natAbs := by
  have hx : x.toInt ≠ 0 := fun q => h (Int64.toInt_inj.mp q)
  have bx := bd64 x
  have by_ := bd64 y
  by_cases h1 : x.toInt = -1
  · have e : x = -1 := Int64.toInt_inj.mp h1
    subst e
    have e2 : y - y / (-1) * (-1) = 0 := by
      have h2 : y / (-1) = -y := by
        apply Int64.toInt_inj.mp
        have e1 : (-1 : Int64).toInt = -1 := by decide
        rw [Int64.toInt_div, e1, Int.tdiv_neg, Int.tdiv_one, Int64.toInt_neg]
      rw [h2]
      apply Int64.toInt_inj.mp
      have h3 : -y * -1 = y := by
        apply Int64.toInt_inj.mp
        have e1 : (-1 : Int64).toInt = -1 := by decide
        rw [Int64.toInt_mul, e1, Int64.toInt_neg]
        rw [Int.bmod_mul_bmod]
        rw [show -y.toInt * -1 = y.toInt by omega]
        exact bmod64 by_.1 by_.2
      rw [h3, Int64.sub_self]
    rw [e2]
    decide
  · have h2 : (y / x).toInt = y.toInt.tdiv x.toInt := by
      rw [Int64.toInt_div]
      have h3 : (y.toInt.tdiv x.toInt).natAbs ≤ 4611686018427387904 ∨ x.toInt = 1 := by
        by_cases q : x.toInt = 1
        · exact Or.inr q
        · refine Or.inl ?_
          rw [Int.natAbs_tdiv]
          have h4 : 2 ≤ x.toInt.natAbs := by omega
          have h5 : y.toInt.natAbs ≤ 9223372036854775808 := by omega
          calc y.toInt.natAbs / x.toInt.natAbs ≤ y.toInt.natAbs / 2 := Nat.div_le_div_left h4 (by decide)
            _ ≤ 4611686018427387904 := by omega
      rcases h3 with h3 | h3
      · exact bmod64 (by omega) (by omega)
      · rw [h3, Int.tdiv_one]
        exact bmod64 by_.1 by_.2
    have h3 : y.toInt.tdiv x.toInt * x.toInt + y.toInt.tmod x.toInt = y.toInt := by rw [Int.mul_comm]; exact Int.mul_tdiv_add_tmod _ _
    have h4 : (y.toInt.tmod x.toInt).natAbs < x.toInt.natAbs := by
      rw [Int.natAbs_tmod]
      exact Nat.mod_lt _ (by omega)
    have h5 : (y.toInt.tmod x.toInt).natAbs ≤ y.toInt.natAbs := by
      rw [Int.natAbs_tmod]
      exact Nat.mod_le _ _
    have hsgn : (0 ≤ y.toInt → 0 ≤ y.toInt.tmod x.toInt) ∧ (y.toInt ≤ 0 → y.toInt.tmod x.toInt ≤ 0) := by
      refine ⟨fun q => Int.tmod_nonneg _ q, fun q => ?_⟩
      have := Int.tmod_nonneg (a := -y.toInt) x.toInt (by omega)
      rw [Int.neg_tmod] at this
      omega
    have h6 : (y / x * x).toInt = y.toInt.tdiv x.toInt * x.toInt := by
      rw [Int64.toInt_mul, h2]
      exact bmod64 (by omega) (by omega)
    have h7 : (y - y / x * x).toInt = y.toInt.tmod x.toInt := by
      rw [Int64.toInt_sub, h6, bmod64 (by omega) (by omega)]
      omega
    rw [h7]
    exact h4
theorem or_nat : ∀ s, s < 512 → ∀ k, k < 9 → ((s >>> k) % 2 = 1 ∨ s < s ||| (2 ^ k)) := by decide +kernel
theorem sh_nat : ∀ k, k < 9 → ((1 : Int32) <<< (Int32.ofNat k &&& 31)).toBitVec.toNat = 2 ^ k := by decide +kernel
theorem sh_and : ∀ k, k < 9 → (Int32.ofNat k &&& 31) = Int32.ofNat k := by decide +kernel
theorem shr_i {s : Int32} {k : Nat} (h0 : 0 ≤ s.toInt) (hk : k < 9) : (s >>> (Int32.ofNat k &&& 31)).toInt = ((s.toBitVec.toNat >>> k : Nat) : Int) := by
  rw [sh_and k hk]
  show (s >>> Int32.ofNat k).toBitVec.toInt = _
  rw [Int32.toBitVec_shiftRight, BitVec.sshiftRight', sh_dec k (by omega), BitVec.toInt_sshiftRight]
  have h1 : s.toBitVec.toInt = (s.toBitVec.toNat : Int) := bd_bv h0
  rw [h1, Int.shiftRight_eq_div_pow, Nat.shiftRight_eq_div_pow]
  rfl
theorem or_up {s k : Int32} (bs : Bd 0 511 s) (bk : Bd 0 8 k) (hb : ¬ ((s >>> (k &&& 31)) &&& 1) = 1) : s.toInt < (s ||| (1 <<< (k &&& 31))).toInt := by
  obtain ⟨c, c1, c2⟩ := i32_nat bk (by decide)
  have hc : c < 9 := by have := bk.2; omega
  have hs := bd_bv bs.1
  have hn : s.toBitVec.toNat < 512 := by have := bs.2; omega
  rw [c2] at hb ⊢
  have h1 := shr_i bs.1 hc
  rcases or_nat s.toBitVec.toNat hn c hc with h | h
  · exfalso
    apply hb
    have hv : Bd 0 511 (s >>> (Int32.ofNat c &&& 31)) := bd_shr bs (by decide)
    have h2 := bd_bv hv.1
    apply Int32.toInt_inj.mp
    have hb2 : Bd 0 1 ((s >>> (Int32.ofNat c &&& 31)) &&& 1) := bd_andr (a := 1) (b := 1) (by decide) (by decide)
    have h3 := bd_bv hb2.1
    have h4 : ((s >>> (Int32.ofNat c &&& 31)) &&& 1).toBitVec.toNat = (s >>> (Int32.ofNat c &&& 31)).toBitVec.toNat % 2 := by
      show ((s >>> (Int32.ofNat c &&& 31)).toBitVec &&& (1 : Int32).toBitVec).toNat = _
      rw [BitVec.toNat_and]
      have e1 : (1 : Int32).toBitVec.toNat = 1 := rfl
      rw [e1, Nat.and_one_is_mod]
    have e : (1 : Int32).toInt = 1 := rfl
    rw [h3, h4, e]
    have h5 : (s >>> (Int32.ofNat c &&& 31)).toBitVec.toNat = s.toBitVec.toNat >>> c := by omega
    rw [h5, h]
    rfl
  · have h2 : (s ||| (1 <<< (Int32.ofNat c &&& 31))).toBitVec.toNat = s.toBitVec.toNat ||| 2 ^ c := by
      show (s.toBitVec ||| ((1 : Int32) <<< (Int32.ofNat c &&& 31)).toBitVec).toNat = _
      rw [BitVec.toNat_or, sh_nat c hc]
    have hb3 : Bd 0 511 ((1 : Int32) <<< (Int32.ofNat c &&& 31)) := by
      have q := bd_shl (lo := 0) (hi := 8) (l := 1) (h := 256) (v := Int32.ofNat c) (by rw [← c2]; exact bk) (by decide)
      exact bd_w q (by decide)
    have hor := bd_or (k := 9) (h := 511) bs hb3 (by decide)
    have h3 := bd_bv hor.1
    omega
theorem steps_m {s k w : Int32} {n : Nat} {hi : Int} (bs : Bd 0 511 s) (bk : Bd 0 8 k) (hb : ¬ ((s >>> (k &&& 31)) &&& 1) = 1) (e : w = s ||| (1 <<< (k &&& 31))) (bw : Bd 0 511 w) (hm : (511 - s.toInt).toNat < n + 1) : (511 - w.toInt).toNat < n := by
  have h1 := or_up bs bk hb
  rw [← e] at h1
  have := bw.2
  omega
theorem onesN_b (s : Int32) : ∀ n : Nat, n ≤ 9 → Bd 0 (n : Int) (onesN s n) := by
  intro n
  induction n with
  | zero => intro _; exact (show Bd 0 0 (0 : Int32) by decide)
  | succ n ih =>
    intro h
    have h1 := ih (by omega)
    have h2 : Bd 0 1 ((s >>> (Int32.ofNat n &&& 31)) &&& 1) := bd_andr (a := 1) (b := 1) (by decide) (by decide)
    obtain ⟨p1, p2⟩ := h1; obtain ⟨q1, q2⟩ := h2
    rw [onesN, Bd, ti_add (by omega) (by omega)]
    omega
theorem lcmp_e {a : Int64} (h : lg_cmp a 0 = 0) : a = 0 := by
  unfold lg_cmp at h
  split at h
  · exact absurd h (by decide)
  · split at h
    · assumption
    · exact absurd h (by decide)
def MYI (s n p : Int32) : Prop := Bd (-1) 8 p ∧ 0 ≤ n.toInt ∧ n.toInt + (onesN s (p.toInt + 1).toNat).toInt = (onesN s 9).toInt
theorem myi_0 {s : Int32} : MYI s 0 8 := by
  have e : ((8 : Int32).toInt + 1).toNat = 9 := by decide
  have e0 : (0 : Int32).toInt = 0 := rfl
  refine ⟨by decide, by decide, ?_⟩
  rw [e, e0]
  omega
theorem myi_step {s n p : Int32} (h : MYI s n p) (bp : Bd 0 8 p) : ∃ m : Nat, m ≤ 8 ∧ p = Int32.ofNat m ∧ (m : Int) = p.toInt ∧ n.toInt + (onesN s m).toInt + ((s >>> (p &&& 31)) &&& 1).toInt = (onesN s 9).toInt := by
  obtain ⟨m, h1, h2⟩ := i32_nat bp (by decide)
  refine ⟨m, by have := bp.2; omega, h2, h1, ?_⟩
  have h3 := h.2.2
  have e : (p.toInt + 1).toNat = m + 1 := by omega
  rw [e, onesN] at h3
  have b1 := onesN_b s m (by have := bp.2; omega)
  have b2 : Bd 0 1 ((s >>> (Int32.ofNat m &&& 31)) &&& 1) := bd_andr (a := 1) (b := 1) (by decide) (by decide)
  obtain ⟨p1, p2⟩ := b1; obtain ⟨q1, q2⟩ := b2
  have := bp.2
  rw [ti_add (by omega) (by omega)] at h3
  rw [← h2] at h3
  omega
theorem myi_lt {s n p : Int32} (h : MYI s n p) (bp : Bd 0 8 p) (hb : ((s >>> (p &&& 31)) &&& 1) = 1) (bt : Bd 1 4 (onesN s 9)) : Bd 0 3 n := by
  obtain ⟨m, h1, h2, h3, h4⟩ := myi_step h bp
  rw [hb] at h4
  have e : (1 : Int32).toInt = 1 := rfl
  have b1 := (onesN_b s m (by omega)).1
  have := h.2.1; have := bt.2
  exact ⟨by omega, by omega⟩
theorem pm1 {p : Int32} (bp : Bd 0 8 p) : (p + -1).toInt = p.toInt - 1 := by
  have e : (-1 : Int32).toInt = -1 := rfl
  obtain ⟨b1, b2⟩ := bp
  rw [ti_add (by omega) (by omega), e]
  omega
theorem myi_1 {s n p : Int32} (h : MYI s n p) (bp : Bd 0 8 p) (hb : ((s >>> (p &&& 31)) &&& 1) = 1) (bn : Bd 0 3 n) : MYI s (n + 1) (p + -1) := by
  obtain ⟨m, h1, h2, h3, h4⟩ := myi_step h bp
  rw [hb] at h4
  have e : (1 : Int32).toInt = 1 := rfl
  have hp := pm1 bp
  have hn : (n + 1).toInt = n.toInt + 1 := by rw [ti_add (by have := bn.1; have := bn.2; omega) (by have := bn.1; have := bn.2; omega), e]
  have e2 : ((p + -1).toInt + 1).toNat = m := by omega
  refine ⟨⟨by have := bp.1; omega, by have := bp.2; omega⟩, by have := bn.1; omega, ?_⟩
  rw [e2, hn]
  omega
theorem bit01 {s p : Int32} (hb : ¬ ((s >>> (p &&& 31)) &&& 1) = 1) : ((s >>> (p &&& 31)) &&& 1).toInt = 0 := by
  have b2 : Bd 0 1 ((s >>> (p &&& 31)) &&& 1) := bd_andr (a := 1) (b := 1) (by decide) (by decide)
  rcases bd_cases2 b2 with h | h
  · rw [h]; rfl
  · exact absurd h hb
theorem myi_2 {s n p : Int32} (h : MYI s n p) (bp : Bd 0 8 p) (hb : ¬ ((s >>> (p &&& 31)) &&& 1) = 1) : MYI s n (p + -1) := by
  obtain ⟨m, h1, h2, h3, h4⟩ := myi_step h bp
  rw [bit01 hb] at h4
  have hp := pm1 bp
  have e2 : ((p + -1).toInt + 1).toNat = m := by omega
  refine ⟨⟨by have := bp.1; omega, by have := bp.2; omega⟩, h.2.1, ?_⟩
  rw [e2]
  omega
end
section
theorem k1305 : Cond.fieldLink RX11 361 "PondStairModel" "drawn" "I" ∈ gt := gt_6_0 (i := 19) rfl rfl
theorem k1726 : Cond.constant RX11 364 1103515245 ∈ gt := gt_7_8 (i := 8) rfl rfl
theorem k1722 : Cond.methodLink RX11 365 yX11_draw ∈ gt := gt_7_8 (i := 4) rfl rfl
theorem k1724 : Cond.instanceMethod yX11_draw ∈ gt := gt_7_8 (i := 6) rfl rfl
theorem k82 : Cond.selects RX11 yX11_draw yX11_draw ∈ gt := gs_6 (i := 2) rfl rfl
theorem k1725 : Cond.code yX11_draw cX11_draw 2 (some .int) ∈ gt := gt_7_8 (i := 7) rfl rfl
theorem np_X11_draw : yX11_draw.cls ≠ "java/lang/invoke/MethodHandle" ∧ yX11_draw.cls ≠ "java/lang/invoke/VarHandle" ∧ (parseMethodDescriptor yX11_draw.desc).map (fun d => d.parameters.length) = some 1 := ⟨cq_RX11.1, cq_RX11.2, pd_6⟩
theorem k1718 : Cond.methodLink RX11 368 yX11_year ∈ gt := gt_7_8 (i := 0) rfl rfl
theorem k1720 : Cond.instanceMethod yX11_year ∈ gt := gt_7_8 (i := 2) rfl rfl
theorem k81 : Cond.selects RX11 yX11_year yX11_year ∈ gt := gs_6 (i := 1) rfl rfl
theorem k1721 : Cond.code yX11_year cX11_year 5 none ∈ gt := gt_7_8 (i := 3) rfl rfl
theorem np_X11_year : yX11_year.cls ≠ "java/lang/invoke/MethodHandle" ∧ yX11_year.cls ≠ "java/lang/invoke/VarHandle" ∧ (parseMethodDescriptor yX11_year.desc).map (fun d => d.parameters.length) = some 0 := ⟨cq_RX11.1, cq_RX11.2, pd_3⟩
theorem k1707 : Cond.methodLink RX11 358 yX11_common ∈ gt := gt_7_7 (i := 13) rfl rfl
theorem k1708 : Cond.static yX11_common ∈ gt := gt_7_7 (i := 14) rfl rfl
theorem k1709 : Cond.code yX11_common cX11_common 5 (some .int) ∈ gt := gt_7_7 (i := 15) rfl rfl
theorem np_X11_common : yX11_common.cls ≠ "java/lang/invoke/MethodHandle" ∧ yX11_common.cls ≠ "java/lang/invoke/VarHandle" ∧ (parseMethodDescriptor yX11_common.desc).map (fun d => d.parameters.length) = some 2 := ⟨cq_RX11.1, cq_RX11.2, pd_11⟩
theorem k1767 : Cond.methodLink RX11 377 yX11_commonOf ∈ gt := gt_8_0 (i := 1) rfl rfl
theorem k1768 : Cond.static yX11_commonOf ∈ gt := gt_8_0 (i := 2) rfl rfl
theorem k1769 : Cond.code yX11_commonOf cX11_commonOf 10 (some .long) ∈ gt := gt_8_0 (i := 3) rfl rfl
theorem np_X11_commonOf : yX11_commonOf.cls ≠ "java/lang/invoke/MethodHandle" ∧ yX11_commonOf.cls ≠ "java/lang/invoke/VarHandle" ∧ (parseMethodDescriptor yX11_commonOf.desc).map (fun d => d.parameters.length) = some 2 := ⟨cq_RX11.1, cq_RX11.2, pd_37⟩
theorem k1643 : Cond.methodLink RX11 328 yX11_isSooner ∈ gt := gt_7_4 (i := 21) rfl rfl
theorem k1644 : Cond.static yX11_isSooner ∈ gt := gt_7_4 (i := 22) rfl rfl
theorem k1645 : Cond.code yX11_isSooner cX11_isSooner 6 (some .boolean) ∈ gt := gt_7_4 (i := 23) rfl rfl
theorem np_X11_isSooner : yX11_isSooner.cls ≠ "java/lang/invoke/MethodHandle" ∧ yX11_isSooner.cls ≠ "java/lang/invoke/VarHandle" ∧ (parseMethodDescriptor yX11_isSooner.desc).map (fun d => d.parameters.length) = some 4 := ⟨cq_RX11.1, cq_RX11.2, pd_36⟩
theorem k1639 : Cond.methodLink RX11 324 yX11_nextOf ∈ gt := gt_7_4 (i := 17) rfl rfl
theorem k1641 : Cond.instanceMethod yX11_nextOf ∈ gt := gt_7_4 (i := 19) rfl rfl
theorem k74 : Cond.selects RX11 yX11_nextOf yX11_nextOf ∈ gt := gs_5 (i := 10) rfl rfl
theorem k1642 : Cond.code yX11_nextOf cX11_nextOf 14 (some .int) ∈ gt := gt_7_4 (i := 20) rfl rfl
theorem np_X11_nextOf : yX11_nextOf.cls ≠ "java/lang/invoke/MethodHandle" ∧ yX11_nextOf.cls ≠ "java/lang/invoke/VarHandle" ∧ (parseMethodDescriptor yX11_nextOf.desc).map (fun d => d.parameters.length) = some 3 := ⟨cq_RX11.1, cq_RX11.2, pd_15⟩
theorem k1303 : Cond.fieldLink RX11 337 "PondStairModel" "filled" "I" ∈ gt := gt_6_0 (i := 17) rfl rfl
theorem k1687 : Cond.methodLink RX11 340 yX11_fillAll ∈ gt := gt_7_6 (i := 17) rfl rfl
theorem k1689 : Cond.instanceMethod yX11_fillAll ∈ gt := gt_7_6 (i := 19) rfl rfl
theorem k78 : Cond.selects RX11 yX11_fillAll yX11_fillAll ∈ gt := gs_5 (i := 14) rfl rfl
theorem k1690 : Cond.code yX11_fillAll cX11_fillAll 5 (some .long) ∈ gt := gt_7_6 (i := 20) rfl rfl
theorem np_X11_fillAll : yX11_fillAll.cls ≠ "java/lang/invoke/MethodHandle" ∧ yX11_fillAll.cls ≠ "java/lang/invoke/VarHandle" ∧ (parseMethodDescriptor yX11_fillAll.desc).map (fun d => d.parameters.length) = some 1 := ⟨cq_RX11.1, cq_RX11.2, pd_7⟩
theorem k1304 : Cond.fieldLink RX11 343 "PondStairModel" "leastMay" "J" ∈ gt := gt_6_0 (i := 18) rfl rfl
theorem k1679 : Cond.methodLink RX11 346 yX11_isFilled ∈ gt := gt_7_6 (i := 9) rfl rfl
theorem k1681 : Cond.instanceMethod yX11_isFilled ∈ gt := gt_7_6 (i := 11) rfl rfl
theorem k76 : Cond.selects RX11 yX11_isFilled yX11_isFilled ∈ gt := gs_5 (i := 12) rfl rfl
theorem k1682 : Cond.code yX11_isFilled cX11_isFilled 4 (some .boolean) ∈ gt := gt_7_6 (i := 12) rfl rfl
theorem np_X11_isFilled : yX11_isFilled.cls ≠ "java/lang/invoke/MethodHandle" ∧ yX11_isFilled.cls ≠ "java/lang/invoke/VarHandle" ∧ (parseMethodDescriptor yX11_isFilled.desc).map (fun d => d.parameters.length) = some 3 := ⟨cq_RX11.1, cq_RX11.2, pd_18⟩
theorem k1683 : Cond.methodLink RX11 349 yX11_findOrder ∈ gt := gt_7_6 (i := 13) rfl rfl
theorem k1685 : Cond.instanceMethod yX11_findOrder ∈ gt := gt_7_6 (i := 15) rfl rfl
theorem k77 : Cond.selects RX11 yX11_findOrder yX11_findOrder ∈ gt := gs_5 (i := 13) rfl rfl
theorem k1686 : Cond.code yX11_findOrder cX11_findOrder 9 none ∈ gt := gt_7_6 (i := 16) rfl rfl
theorem np_X11_findOrder : yX11_findOrder.cls ≠ "java/lang/invoke/MethodHandle" ∧ yX11_findOrder.cls ≠ "java/lang/invoke/VarHandle" ∧ (parseMethodDescriptor yX11_findOrder.desc).map (fun d => d.parameters.length) = some 1 := ⟨cq_RX11.1, cq_RX11.2, pd_9⟩
theorem dX11_draw_0 : decode cX11_draw 0 = .ok (.aload_n 0, 1) := dqn_42 (k := 25) qh_cX11_draw rfl rfl
theorem dX11_draw_1 : decode cX11_draw 1 = .ok (.aload_n 0, 1) := dqn_42 (k := 24) qh_cX11_draw rfl rfl
theorem dX11_draw_2 : decode cX11_draw 2 = .ok (.getfield 361, 3) := dqn_180 (k := 21) qh_cX11_draw rfl rfl rfl
theorem dX11_draw_5 : decode cX11_draw 5 = .ok (.ldc_w 364, 3) := dqn_19 (k := 18) qh_cX11_draw rfl rfl rfl
theorem dX11_draw_8 : decode cX11_draw 8 = .ok (.imul, 1) := dqn_104 (k := 17) qh_cX11_draw rfl rfl
theorem dX11_draw_9 : decode cX11_draw 9 = .ok (.sipush 12345, 3) := dqn_17 (k := 14) (u := 12345) qh_cX11_draw rfl rfl rfl (sg_p rfl rfl)
theorem dX11_draw_12 : decode cX11_draw 12 = .ok (.iadd, 1) := dqn_96 (k := 13) qh_cX11_draw rfl rfl
theorem dX11_draw_13 : decode cX11_draw 13 = .ok (.putfield 361, 3) := dqn_181 (k := 10) qh_cX11_draw rfl rfl rfl
theorem dX11_draw_16 : decode cX11_draw 16 = .ok (.aload_n 0, 1) := dqn_42 (k := 9) qh_cX11_draw rfl rfl
theorem dX11_draw_17 : decode cX11_draw 17 = .ok (.getfield 361, 3) := dqn_180 (k := 6) qh_cX11_draw rfl rfl rfl
theorem dX11_draw_20 : decode cX11_draw 20 = .ok (.bipush 16, 2) := dqn_16 (k := 4) (u := 16) qh_cX11_draw rfl rfl rfl (by decide)
theorem dX11_draw_22 : decode cX11_draw 22 = .ok (.iushr, 1) := dqn_124 (k := 3) qh_cX11_draw rfl rfl
theorem dX11_draw_23 : decode cX11_draw 23 = .ok (.iload_n 1, 1) := dqn_27 (k := 2) qh_cX11_draw rfl rfl
theorem dX11_draw_24 : decode cX11_draw 24 = .ok (.irem, 1) := dqn_112 (k := 1) qh_cX11_draw rfl rfl
theorem dX11_draw_25 : decode cX11_draw 25 = .ok (.ireturn, 1) := dqn_172 (k := 0) qh_cX11_draw rfl rfl
theorem dX11_year_0 : decode cX11_year 0 = .ok (.aload_n 0, 1) := dqn_42 (k := 103) qh_cX11_year rfl rfl
theorem dX11_year_1 : decode cX11_year 1 = .ok (.bipush 100, 2) := dqn_16 (k := 101) (u := 100) qh_cX11_year rfl rfl rfl (by decide)
theorem dX11_year_3 : decode cX11_year 3 = .ok (.invokevirtual 365, 3) := dqn_182 (k := 98) qh_cX11_year rfl rfl rfl
theorem dX11_year_6 : decode cX11_year 6 = .ok (.istore_n 1, 1) := dqn_60 (k := 97) qh_cX11_year rfl rfl
theorem dX11_year_7 : decode cX11_year 7 = .ok (.iconst 0, 1) := dqn_3 (k := 96) qh_cX11_year rfl rfl
theorem dX11_year_8 : decode cX11_year 8 = .ok (.istore_n 2, 1) := dqn_61 (k := 95) qh_cX11_year rfl rfl
theorem dX11_year_9 : decode cX11_year 9 = .ok (.iload_n 1, 1) := dqn_27 (k := 94) qh_cX11_year rfl rfl
theorem dX11_year_10 : decode cX11_year 10 = .ok (.aload_n 0, 1) := dqn_42 (k := 93) qh_cX11_year rfl rfl
theorem dX11_year_11 : decode cX11_year 11 = .ok (.getfield 38, 3) := dqn_180 (k := 90) qh_cX11_year rfl rfl rfl
theorem dX11_year_14 : decode cX11_year 14 = .ok (.iconst 5, 1) := dqn_8 (k := 89) qh_cX11_year rfl rfl
theorem dX11_year_15 : decode cX11_year 15 = .ok (.iconst 2, 1) := dqn_5 (k := 88) qh_cX11_year rfl rfl
theorem dX11_year_16 : decode cX11_year 16 = .ok (.iload_n 2, 1) := dqn_28 (k := 87) qh_cX11_year rfl rfl
theorem dX11_year_17 : decode cX11_year 17 = .ok (.imul, 1) := dqn_104 (k := 86) qh_cX11_year rfl rfl
theorem dX11_year_18 : decode cX11_year 18 = .ok (.iadd, 1) := dqn_96 (k := 85) qh_cX11_year rfl rfl
theorem dX11_year_19 : decode cX11_year 19 = .ok (.iconst 1, 1) := dqn_4 (k := 84) qh_cX11_year rfl rfl
theorem dX11_year_20 : decode cX11_year 20 = .ok (.iadd, 1) := dqn_96 (k := 83) qh_cX11_year rfl rfl
theorem dX11_year_21 : decode cX11_year 21 = .ok (.iaload, 1) := dqn_46 (k := 82) qh_cX11_year rfl rfl
theorem dX11_year_22 : decode cX11_year 22 = .ok (.if_icmp .lt 24, 3) := dqn_161 (k := 79) (u := 24) qh_cX11_year rfl rfl rfl (sg_p rfl rfl)
theorem dX11_year_25 : decode cX11_year 25 = .ok (.iload_n 1, 1) := dqn_27 (k := 78) qh_cX11_year rfl rfl
theorem dX11_year_26 : decode cX11_year 26 = .ok (.aload_n 0, 1) := dqn_42 (k := 77) qh_cX11_year rfl rfl
theorem dX11_year_27 : decode cX11_year 27 = .ok (.getfield 38, 3) := dqn_180 (k := 74) qh_cX11_year rfl rfl rfl
theorem dX11_year_30 : decode cX11_year 30 = .ok (.iconst 5, 1) := dqn_8 (k := 73) qh_cX11_year rfl rfl
theorem dX11_year_31 : decode cX11_year 31 = .ok (.iconst 2, 1) := dqn_5 (k := 72) qh_cX11_year rfl rfl
theorem dX11_year_32 : decode cX11_year 32 = .ok (.iload_n 2, 1) := dqn_28 (k := 71) qh_cX11_year rfl rfl
theorem dX11_year_33 : decode cX11_year 33 = .ok (.imul, 1) := dqn_104 (k := 70) qh_cX11_year rfl rfl
theorem dX11_year_34 : decode cX11_year 34 = .ok (.iadd, 1) := dqn_96 (k := 69) qh_cX11_year rfl rfl
theorem dX11_year_35 : decode cX11_year 35 = .ok (.iconst 1, 1) := dqn_4 (k := 68) qh_cX11_year rfl rfl
theorem dX11_year_36 : decode cX11_year 36 = .ok (.iadd, 1) := dqn_96 (k := 67) qh_cX11_year rfl rfl
theorem dX11_year_37 : decode cX11_year 37 = .ok (.iaload, 1) := dqn_46 (k := 66) qh_cX11_year rfl rfl
theorem dX11_year_38 : decode cX11_year 38 = .ok (.isub, 1) := dqn_100 (k := 65) qh_cX11_year rfl rfl
theorem dX11_year_39 : decode cX11_year 39 = .ok (.istore_n 1, 1) := dqn_60 (k := 64) qh_cX11_year rfl rfl
theorem dX11_year_40 : decode cX11_year 40 = .ok (.iinc 2 1, 3) := dqn_132 (k := 61) (u := 1) qh_cX11_year rfl rfl rfl rfl (by decide)
theorem dX11_year_43 : decode cX11_year 43 = .ok (.goto (-34), 3) := dqn_167 (k := 58) (u := 65502) qh_cX11_year rfl rfl rfl (sg_n (k := 34) rfl rfl rfl)
theorem dX11_year_46 : decode cX11_year 46 = .ok (.iconst 0, 1) := dqn_3 (k := 57) qh_cX11_year rfl rfl
theorem dX11_year_47 : decode cX11_year 47 = .ok (.istore_n 3, 1) := dqn_62 (k := 56) qh_cX11_year rfl rfl
theorem dX11_year_48 : decode cX11_year 48 = .ok (.iconst 0, 1) := dqn_3 (k := 55) qh_cX11_year rfl rfl
theorem dX11_year_49 : decode cX11_year 49 = .ok (.istore 4, 2) := dqn_54 (k := 53) qh_cX11_year rfl rfl rfl
theorem dX11_year_51 : decode cX11_year 51 = .ok (.iload 4, 2) := dqn_21 (k := 51) qh_cX11_year rfl rfl rfl
theorem dX11_year_53 : decode cX11_year 53 = .ok (.aload_n 0, 1) := dqn_42 (k := 50) qh_cX11_year rfl rfl
theorem dX11_year_54 : decode cX11_year 54 = .ok (.getfield 208, 3) := dqn_180 (k := 47) qh_cX11_year rfl rfl rfl
theorem dX11_year_57 : decode cX11_year 57 = .ok (.if_icmp .ge 36, 3) := dqn_162 (k := 44) (u := 36) qh_cX11_year rfl rfl rfl (sg_p rfl rfl)
theorem dX11_year_60 : decode cX11_year 60 = .ok (.iload_n 3, 1) := dqn_29 (k := 43) qh_cX11_year rfl rfl
theorem dX11_year_61 : decode cX11_year 61 = .ok (.aload_n 0, 1) := dqn_42 (k := 42) qh_cX11_year rfl rfl
theorem dX11_year_62 : decode cX11_year 62 = .ok (.bipush 10, 2) := dqn_16 (k := 40) (u := 10) qh_cX11_year rfl rfl rfl (by decide)
theorem dX11_year_64 : decode cX11_year 64 = .ok (.invokevirtual 365, 3) := dqn_182 (k := 37) qh_cX11_year rfl rfl rfl
theorem dX11_year_67 : decode cX11_year 67 = .ok (.aload_n 0, 1) := dqn_42 (k := 36) qh_cX11_year rfl rfl
theorem dX11_year_68 : decode cX11_year 68 = .ok (.iload 4, 2) := dqn_21 (k := 34) qh_cX11_year rfl rfl rfl
theorem dX11_year_70 : decode cX11_year 70 = .ok (.iconst 4, 1) := dqn_7 (k := 33) qh_cX11_year rfl rfl
theorem dX11_year_71 : decode cX11_year 71 = .ok (.invokevirtual 211, 3) := dqn_182 (k := 30) qh_cX11_year rfl rfl rfl
theorem dX11_year_74 : decode cX11_year 74 = .ok (.if_icmp .ge 10, 3) := dqn_162 (k := 27) (u := 10) qh_cX11_year rfl rfl rfl (sg_p rfl rfl)
theorem dX11_year_77 : decode cX11_year 77 = .ok (.iconst 1, 1) := dqn_4 (k := 26) qh_cX11_year rfl rfl
theorem dX11_year_78 : decode cX11_year 78 = .ok (.iload 4, 2) := dqn_21 (k := 24) qh_cX11_year rfl rfl rfl
theorem dX11_year_80 : decode cX11_year 80 = .ok (.ishl, 1) := dqn_120 (k := 23) qh_cX11_year rfl rfl
theorem dX11_year_81 : decode cX11_year 81 = .ok (.goto 4, 3) := dqn_167 (k := 20) (u := 4) qh_cX11_year rfl rfl rfl (sg_p rfl rfl)
theorem dX11_year_84 : decode cX11_year 84 = .ok (.iconst 0, 1) := dqn_3 (k := 19) qh_cX11_year rfl rfl
theorem dX11_year_85 : decode cX11_year 85 = .ok (.ior, 1) := dqn_128 (k := 18) qh_cX11_year rfl rfl
theorem dX11_year_86 : decode cX11_year 86 = .ok (.istore_n 3, 1) := dqn_62 (k := 17) qh_cX11_year rfl rfl
theorem dX11_year_87 : decode cX11_year 87 = .ok (.iinc 4 1, 3) := dqn_132 (k := 14) (u := 1) qh_cX11_year rfl rfl rfl rfl (by decide)
theorem dX11_year_90 : decode cX11_year 90 = .ok (.goto (-39), 3) := dqn_167 (k := 11) (u := 65497) qh_cX11_year rfl rfl rfl (sg_n (k := 39) rfl rfl rfl)
theorem dX11_year_93 : decode cX11_year 93 = .ok (.aload_n 0, 1) := dqn_42 (k := 10) qh_cX11_year rfl rfl
theorem dX11_year_94 : decode cX11_year 94 = .ok (.aload_n 0, 1) := dqn_42 (k := 9) qh_cX11_year rfl rfl
theorem dX11_year_95 : decode cX11_year 95 = .ok (.iload_n 2, 1) := dqn_28 (k := 8) qh_cX11_year rfl rfl
theorem dX11_year_96 : decode cX11_year 96 = .ok (.invokevirtual 271, 3) := dqn_182 (k := 5) qh_cX11_year rfl rfl rfl
theorem dX11_year_99 : decode cX11_year 99 = .ok (.iload_n 3, 1) := dqn_29 (k := 4) qh_cX11_year rfl rfl
theorem dX11_year_100 : decode cX11_year 100 = .ok (.invokevirtual 275, 3) := dqn_182 (k := 1) qh_cX11_year rfl rfl rfl
theorem dX11_year_103 : decode cX11_year 103 = .ok (.return_, 1) := dqn_177 (k := 0) qh_cX11_year rfl rfl
theorem dX11_years_0 : decode cX11_years 0 = .ok (.aload_n 0, 1) := dqn_42 (k := 194) qh_cX11_years rfl rfl
theorem dX11_years_1 : decode cX11_years 1 = .ok (.iconst 0, 1) := dqn_3 (k := 193) qh_cX11_years rfl rfl
theorem dX11_years_2 : decode cX11_years 2 = .ok (.putfield 70, 3) := dqn_181 (k := 190) qh_cX11_years rfl rfl rfl
theorem dX11_years_5 : decode cX11_years 5 = .ok (.aload_n 0, 1) := dqn_42 (k := 189) qh_cX11_years rfl rfl
theorem dX11_years_6 : decode cX11_years 6 = .ok (.iload_n 1, 1) := dqn_27 (k := 188) qh_cX11_years rfl rfl
theorem dX11_years_7 : decode cX11_years 7 = .ok (.iload_n 2, 1) := dqn_28 (k := 187) qh_cX11_years rfl rfl
theorem dX11_years_8 : decode cX11_years 8 = .ok (.invokevirtual 240, 3) := dqn_182 (k := 184) qh_cX11_years rfl rfl rfl
theorem dX11_years_11 : decode cX11_years 11 = .ok (.ifCond .eq 14, 3) := dqn_153 (k := 181) (u := 14) qh_cX11_years rfl rfl rfl (sg_p rfl rfl)
theorem dX11_years_14 : decode cX11_years 14 = .ok (.iload 4, 2) := dqn_21 (k := 179) qh_cX11_years rfl rfl rfl
theorem dX11_years_16 : decode cX11_years 16 = .ok (.iconst 1, 1) := dqn_4 (k := 178) qh_cX11_years rfl rfl
theorem dX11_years_17 : decode cX11_years 17 = .ok (.bipush 99, 2) := dqn_16 (k := 176) (u := 99) qh_cX11_years rfl rfl rfl (by decide)
theorem dX11_years_19 : decode cX11_years 19 = .ok (.invokestatic 78, 3) := dqn_184 (k := 173) qh_cX11_years rfl rfl rfl
theorem dX11_years_22 : decode cX11_years 22 = .ok (.ifCond .ne 7, 3) := dqn_154 (k := 170) (u := 7) qh_cX11_years rfl rfl rfl (sg_p rfl rfl)
theorem dX11_years_25 : decode cX11_years 25 = .ok (.ldc2_w 292, 3) := dqn_20 (k := 167) qh_cX11_years rfl rfl rfl
theorem dX11_years_28 : decode cX11_years 28 = .ok (.lreturn, 1) := dqn_173 (k := 166) qh_cX11_years rfl rfl
theorem dX11_years_29 : decode cX11_years 29 = .ok (.iload 5, 2) := dqn_21 (k := 164) qh_cX11_years rfl rfl rfl
theorem dX11_years_31 : decode cX11_years 31 = .ok (.bipush 10, 2) := dqn_16 (k := 162) (u := 10) qh_cX11_years rfl rfl rfl (by decide)
theorem dX11_years_33 : decode cX11_years 33 = .ok (.bipush 9, 2) := dqn_16 (k := 160) (u := 9) qh_cX11_years rfl rfl rfl (by decide)
theorem dX11_years_35 : decode cX11_years 35 = .ok (.aload_n 0, 1) := dqn_42 (k := 159) qh_cX11_years rfl rfl
theorem dX11_years_36 : decode cX11_years 36 = .ok (.getfield 208, 3) := dqn_180 (k := 156) qh_cX11_years rfl rfl rfl
theorem dX11_years_39 : decode cX11_years 39 = .ok (.iadd, 1) := dqn_96 (k := 155) qh_cX11_years rfl rfl
theorem dX11_years_40 : decode cX11_years 40 = .ok (.invokestatic 78, 3) := dqn_184 (k := 152) qh_cX11_years rfl rfl rfl
theorem dX11_years_43 : decode cX11_years 43 = .ok (.istore 6, 2) := dqn_54 (k := 150) qh_cX11_years rfl rfl rfl
theorem dX11_years_45 : decode cX11_years 45 = .ok (.iload 6, 2) := dqn_21 (k := 148) qh_cX11_years rfl rfl rfl
theorem dX11_years_47 : decode cX11_years 47 = .ok (.ifCond .ne 17, 3) := dqn_154 (k := 145) (u := 17) qh_cX11_years rfl rfl rfl (sg_p rfl rfl)
theorem dX11_years_50 : decode cX11_years 50 = .ok (.iload 5, 2) := dqn_21 (k := 143) qh_cX11_years rfl rfl rfl
theorem dX11_years_52 : decode cX11_years 52 = .ok (.iconst 0, 1) := dqn_3 (k := 142) qh_cX11_years rfl rfl
theorem dX11_years_53 : decode cX11_years 53 = .ok (.iconst 2, 1) := dqn_5 (k := 141) qh_cX11_years rfl rfl
theorem dX11_years_54 : decode cX11_years 54 = .ok (.invokestatic 78, 3) := dqn_184 (k := 138) qh_cX11_years rfl rfl rfl
theorem dX11_years_57 : decode cX11_years 57 = .ok (.ifCond .ne 7, 3) := dqn_154 (k := 135) (u := 7) qh_cX11_years rfl rfl rfl (sg_p rfl rfl)
theorem dX11_years_60 : decode cX11_years 60 = .ok (.ldc2_w 292, 3) := dqn_20 (k := 132) qh_cX11_years rfl rfl rfl
theorem dX11_years_63 : decode cX11_years 63 = .ok (.lreturn, 1) := dqn_173 (k := 131) qh_cX11_years rfl rfl
theorem dX11_years_64 : decode cX11_years 64 = .ok (.aload_n 0, 1) := dqn_42 (k := 130) qh_cX11_years rfl rfl
theorem dX11_years_65 : decode cX11_years 65 = .ok (.iload_n 3, 1) := dqn_29 (k := 129) qh_cX11_years rfl rfl
theorem dX11_years_66 : decode cX11_years 66 = .ok (.putfield 361, 3) := dqn_181 (k := 126) qh_cX11_years rfl rfl rfl
theorem dX11_years_69 : decode cX11_years 69 = .ok (.lconst 0, 1) := dqn_9 (k := 125) qh_cX11_years rfl rfl
theorem dX11_years_70 : decode cX11_years 70 = .ok (.lstore 7, 2) := dqn_55 (k := 123) qh_cX11_years rfl rfl rfl
theorem dX11_years_72 : decode cX11_years 72 = .ok (.iconst 0, 1) := dqn_3 (k := 122) qh_cX11_years rfl rfl
theorem dX11_years_73 : decode cX11_years 73 = .ok (.istore 9, 2) := dqn_54 (k := 120) qh_cX11_years rfl rfl rfl
theorem dX11_years_75 : decode cX11_years 75 = .ok (.iconst 0, 1) := dqn_3 (k := 119) qh_cX11_years rfl rfl
theorem dX11_years_76 : decode cX11_years 76 = .ok (.istore 10, 2) := dqn_54 (k := 117) qh_cX11_years rfl rfl rfl
theorem dX11_years_78 : decode cX11_years 78 = .ok (.iconst 0, 1) := dqn_3 (k := 116) qh_cX11_years rfl rfl
theorem dX11_years_79 : decode cX11_years 79 = .ok (.istore 11, 2) := dqn_54 (k := 114) qh_cX11_years rfl rfl rfl
theorem dX11_years_81 : decode cX11_years 81 = .ok (.iload 11, 2) := dqn_21 (k := 112) qh_cX11_years rfl rfl rfl
theorem dX11_years_83 : decode cX11_years 83 = .ok (.iload 4, 2) := dqn_21 (k := 110) qh_cX11_years rfl rfl rfl
theorem dX11_years_85 : decode cX11_years 85 = .ok (.if_icmp .ge 71, 3) := dqn_162 (k := 107) (u := 71) qh_cX11_years rfl rfl rfl (sg_p rfl rfl)
theorem dX11_years_88 : decode cX11_years 88 = .ok (.aload_n 0, 1) := dqn_42 (k := 106) qh_cX11_years rfl rfl
theorem dX11_years_89 : decode cX11_years 89 = .ok (.invokevirtual 368, 3) := dqn_182 (k := 103) qh_cX11_years rfl rfl rfl
theorem dX11_years_92 : decode cX11_years 92 = .ok (.lload 7, 2) := dqn_22 (k := 101) qh_cX11_years rfl rfl rfl
theorem dX11_years_94 : decode cX11_years 94 = .ok (.aload_n 0, 1) := dqn_42 (k := 100) qh_cX11_years rfl rfl
theorem dX11_years_95 : decode cX11_years 95 = .ok (.iconst (-1), 1) := dqn_2 (k := 99) qh_cX11_years rfl rfl
theorem dX11_years_96 : decode cX11_years 96 = .ok (.invokevirtual 281, 3) := dqn_182 (k := 96) qh_cX11_years rfl rfl rfl
theorem dX11_years_99 : decode cX11_years 99 = .ok (.i2l, 1) := dqn_133 (k := 95) qh_cX11_years rfl rfl
theorem dX11_years_100 : decode cX11_years 100 = .ok (.ladd, 1) := dqn_97 (k := 94) qh_cX11_years rfl rfl
theorem dX11_years_101 : decode cX11_years 101 = .ok (.lstore 7, 2) := dqn_55 (k := 92) qh_cX11_years rfl rfl rfl
theorem dX11_years_103 : decode cX11_years 103 = .ok (.iload 9, 2) := dqn_21 (k := 90) qh_cX11_years rfl rfl rfl
theorem dX11_years_105 : decode cX11_years 105 = .ok (.aload_n 0, 1) := dqn_42 (k := 89) qh_cX11_years rfl rfl
theorem dX11_years_106 : decode cX11_years 106 = .ok (.getfield 246, 3) := dqn_180 (k := 86) qh_cX11_years rfl rfl rfl
theorem dX11_years_109 : decode cX11_years 109 = .ok (.ifCond .eq 7, 3) := dqn_153 (k := 83) (u := 7) qh_cX11_years rfl rfl rfl (sg_p rfl rfl)
theorem dX11_years_112 : decode cX11_years 112 = .ok (.iconst 1, 1) := dqn_4 (k := 82) qh_cX11_years rfl rfl
theorem dX11_years_113 : decode cX11_years 113 = .ok (.goto 4, 3) := dqn_167 (k := 79) (u := 4) qh_cX11_years rfl rfl rfl (sg_p rfl rfl)
theorem dX11_years_116 : decode cX11_years 116 = .ok (.iconst 0, 1) := dqn_3 (k := 78) qh_cX11_years rfl rfl
theorem dX11_years_117 : decode cX11_years 117 = .ok (.iadd, 1) := dqn_96 (k := 77) qh_cX11_years rfl rfl
theorem dX11_years_118 : decode cX11_years 118 = .ok (.istore 9, 2) := dqn_54 (k := 75) qh_cX11_years rfl rfl rfl
theorem dX11_years_120 : decode cX11_years 120 = .ok (.iload 10, 2) := dqn_21 (k := 73) qh_cX11_years rfl rfl rfl
theorem dX11_years_122 : decode cX11_years 122 = .ok (.iload 6, 2) := dqn_21 (k := 71) qh_cX11_years rfl rfl rfl
theorem dX11_years_124 : decode cX11_years 124 = .ok (.ifCond .eq 22, 3) := dqn_153 (k := 68) (u := 22) qh_cX11_years rfl rfl rfl (sg_p rfl rfl)
theorem dX11_years_127 : decode cX11_years 127 = .ok (.aload_n 0, 1) := dqn_42 (k := 67) qh_cX11_years rfl rfl
theorem dX11_years_128 : decode cX11_years 128 = .ok (.getfield 246, 3) := dqn_180 (k := 64) qh_cX11_years rfl rfl rfl
theorem dX11_years_131 : decode cX11_years 131 = .ok (.iload 5, 2) := dqn_21 (k := 62) qh_cX11_years rfl rfl rfl
theorem dX11_years_133 : decode cX11_years 133 = .ok (.bipush 10, 2) := dqn_16 (k := 60) (u := 10) qh_cX11_years rfl rfl rfl (by decide)
theorem dX11_years_135 : decode cX11_years 135 = .ok (.isub, 1) := dqn_100 (k := 59) qh_cX11_years rfl rfl
theorem dX11_years_136 : decode cX11_years 136 = .ok (.invokestatic 249, 3) := dqn_184 (k := 56) qh_cX11_years rfl rfl rfl
theorem dX11_years_139 : decode cX11_years 139 = .ok (.ifCond .eq 7, 3) := dqn_153 (k := 53) (u := 7) qh_cX11_years rfl rfl rfl (sg_p rfl rfl)
theorem dX11_years_142 : decode cX11_years 142 = .ok (.iconst 1, 1) := dqn_4 (k := 52) qh_cX11_years rfl rfl
theorem dX11_years_143 : decode cX11_years 143 = .ok (.goto 4, 3) := dqn_167 (k := 49) (u := 4) qh_cX11_years rfl rfl rfl (sg_p rfl rfl)
theorem dX11_years_146 : decode cX11_years 146 = .ok (.iconst 0, 1) := dqn_3 (k := 48) qh_cX11_years rfl rfl
theorem dX11_years_147 : decode cX11_years 147 = .ok (.iadd, 1) := dqn_96 (k := 47) qh_cX11_years rfl rfl
theorem dX11_years_148 : decode cX11_years 148 = .ok (.istore 10, 2) := dqn_54 (k := 45) qh_cX11_years rfl rfl rfl
theorem dX11_years_150 : decode cX11_years 150 = .ok (.iinc 11 1, 3) := dqn_132 (k := 42) (u := 1) qh_cX11_years rfl rfl rfl rfl (by decide)
theorem dX11_years_153 : decode cX11_years 153 = .ok (.goto (-72), 3) := dqn_167 (k := 39) (u := 65464) qh_cX11_years rfl rfl rfl (sg_n (k := 72) rfl rfl rfl)
theorem dX11_years_156 : decode cX11_years 156 = .ok (.iload 6, 2) := dqn_21 (k := 37) qh_cX11_years rfl rfl rfl
theorem dX11_years_158 : decode cX11_years 158 = .ok (.ifCond .eq 9, 3) := dqn_153 (k := 34) (u := 9) qh_cX11_years rfl rfl rfl (sg_p rfl rfl)
theorem dX11_years_161 : decode cX11_years 161 = .ok (.iload 10, 2) := dqn_21 (k := 32) qh_cX11_years rfl rfl rfl
theorem dX11_years_163 : decode cX11_years 163 = .ok (.i2l, 1) := dqn_133 (k := 31) qh_cX11_years rfl rfl
theorem dX11_years_164 : decode cX11_years 164 = .ok (.goto 30, 3) := dqn_167 (k := 28) (u := 30) qh_cX11_years rfl rfl rfl (sg_p rfl rfl)
theorem dX11_years_167 : decode cX11_years 167 = .ok (.iload 5, 2) := dqn_21 (k := 26) qh_cX11_years rfl rfl rfl
theorem dX11_years_169 : decode cX11_years 169 = .ok (.ifCond .ne 8, 3) := dqn_154 (k := 23) (u := 8) qh_cX11_years rfl rfl rfl (sg_p rfl rfl)
theorem dX11_years_172 : decode cX11_years 172 = .ok (.lload 7, 2) := dqn_22 (k := 21) qh_cX11_years rfl rfl rfl
theorem dX11_years_174 : decode cX11_years 174 = .ok (.goto 20, 3) := dqn_167 (k := 18) (u := 20) qh_cX11_years rfl rfl rfl (sg_p rfl rfl)
theorem dX11_years_177 : decode cX11_years 177 = .ok (.iload 5, 2) := dqn_21 (k := 16) qh_cX11_years rfl rfl rfl
theorem dX11_years_179 : decode cX11_years 179 = .ok (.iconst 1, 1) := dqn_4 (k := 15) qh_cX11_years rfl rfl
theorem dX11_years_180 : decode cX11_years 180 = .ok (.if_icmp .ne 9, 3) := dqn_160 (k := 12) (u := 9) qh_cX11_years rfl rfl rfl (sg_p rfl rfl)
theorem dX11_years_183 : decode cX11_years 183 = .ok (.iload 9, 2) := dqn_21 (k := 10) qh_cX11_years rfl rfl rfl
theorem dX11_years_185 : decode cX11_years 185 = .ok (.i2l, 1) := dqn_133 (k := 9) qh_cX11_years rfl rfl
theorem dX11_years_186 : decode cX11_years 186 = .ok (.goto 8, 3) := dqn_167 (k := 6) (u := 8) qh_cX11_years rfl rfl rfl (sg_p rfl rfl)
theorem dX11_years_189 : decode cX11_years 189 = .ok (.aload_n 0, 1) := dqn_42 (k := 5) qh_cX11_years rfl rfl
theorem dX11_years_190 : decode cX11_years 190 = .ok (.getfield 246, 3) := dqn_180 (k := 2) qh_cX11_years rfl rfl rfl
theorem dX11_years_193 : decode cX11_years 193 = .ok (.i2l, 1) := dqn_133 (k := 1) qh_cX11_years rfl rfl
theorem dX11_years_194 : decode cX11_years 194 = .ok (.lreturn, 1) := dqn_173 (k := 0) qh_cX11_years rfl rfl
theorem dX11_common_0 : decode cX11_common 0 = .ok (.iload_n 0, 1) := dqn_26 (k := 22) qh_cX11_common rfl rfl
theorem dX11_common_1 : decode cX11_common 1 = .ok (.istore_n 2, 1) := dqn_61 (k := 21) qh_cX11_common rfl rfl
theorem dX11_common_2 : decode cX11_common 2 = .ok (.iload_n 1, 1) := dqn_27 (k := 20) qh_cX11_common rfl rfl
theorem dX11_common_3 : decode cX11_common 3 = .ok (.istore_n 3, 1) := dqn_62 (k := 19) qh_cX11_common rfl rfl
theorem dX11_common_4 : decode cX11_common 4 = .ok (.iload_n 2, 1) := dqn_28 (k := 18) qh_cX11_common rfl rfl
theorem dX11_common_5 : decode cX11_common 5 = .ok (.ifCond .eq 16, 3) := dqn_153 (k := 15) (u := 16) qh_cX11_common rfl rfl rfl (sg_p rfl rfl)
theorem dX11_common_8 : decode cX11_common 8 = .ok (.iload_n 3, 1) := dqn_29 (k := 14) qh_cX11_common rfl rfl
theorem dX11_common_9 : decode cX11_common 9 = .ok (.iload_n 2, 1) := dqn_28 (k := 13) qh_cX11_common rfl rfl
theorem dX11_common_10 : decode cX11_common 10 = .ok (.irem, 1) := dqn_112 (k := 12) qh_cX11_common rfl rfl
theorem dX11_common_11 : decode cX11_common 11 = .ok (.istore 4, 2) := dqn_54 (k := 10) qh_cX11_common rfl rfl rfl
theorem dX11_common_13 : decode cX11_common 13 = .ok (.iload_n 2, 1) := dqn_28 (k := 9) qh_cX11_common rfl rfl
theorem dX11_common_14 : decode cX11_common 14 = .ok (.istore_n 3, 1) := dqn_62 (k := 8) qh_cX11_common rfl rfl
theorem dX11_common_15 : decode cX11_common 15 = .ok (.iload 4, 2) := dqn_21 (k := 6) qh_cX11_common rfl rfl rfl
theorem dX11_common_17 : decode cX11_common 17 = .ok (.istore_n 2, 1) := dqn_61 (k := 5) qh_cX11_common rfl rfl
theorem dX11_common_18 : decode cX11_common 18 = .ok (.goto (-14), 3) := dqn_167 (k := 2) (u := 65522) qh_cX11_common rfl rfl rfl (sg_n (k := 14) rfl rfl rfl)
theorem dX11_common_21 : decode cX11_common 21 = .ok (.iload_n 3, 1) := dqn_29 (k := 1) qh_cX11_common rfl rfl
theorem dX11_common_22 : decode cX11_common 22 = .ok (.ireturn, 1) := dqn_172 (k := 0) qh_cX11_common rfl rfl
theorem dX11_think_0 : decode cX11_think 0 = .ok (.aload_n 0, 1) := dqn_42 (k := 67) qh_cX11_think rfl rfl
theorem dX11_think_1 : decode cX11_think 1 = .ok (.iconst 0, 1) := dqn_3 (k := 66) qh_cX11_think rfl rfl
theorem dX11_think_2 : decode cX11_think 2 = .ok (.putfield 70, 3) := dqn_181 (k := 63) qh_cX11_think rfl rfl rfl
theorem dX11_think_5 : decode cX11_think 5 = .ok (.aload_n 0, 1) := dqn_42 (k := 62) qh_cX11_think rfl rfl
theorem dX11_think_6 : decode cX11_think 6 = .ok (.iload_n 1, 1) := dqn_27 (k := 61) qh_cX11_think rfl rfl
theorem dX11_think_7 : decode cX11_think 7 = .ok (.iload_n 2, 1) := dqn_28 (k := 60) qh_cX11_think rfl rfl
theorem dX11_think_8 : decode cX11_think 8 = .ok (.invokevirtual 240, 3) := dqn_182 (k := 57) qh_cX11_think rfl rfl rfl
theorem dX11_think_11 : decode cX11_think 11 = .ok (.ifCond .eq 11, 3) := dqn_153 (k := 54) (u := 11) qh_cX11_think rfl rfl rfl (sg_p rfl rfl)
theorem dX11_think_14 : decode cX11_think 14 = .ok (.aload_n 0, 1) := dqn_42 (k := 53) qh_cX11_think rfl rfl
theorem dX11_think_15 : decode cX11_think 15 = .ok (.iload_n 3, 1) := dqn_29 (k := 52) qh_cX11_think rfl rfl
theorem dX11_think_16 : decode cX11_think 16 = .ok (.invokevirtual 243, 3) := dqn_182 (k := 49) qh_cX11_think rfl rfl rfl
theorem dX11_think_19 : decode cX11_think 19 = .ok (.ifCond .ne 5, 3) := dqn_154 (k := 46) (u := 5) qh_cX11_think rfl rfl rfl (sg_p rfl rfl)
theorem dX11_think_22 : decode cX11_think 22 = .ok (.iconst (-1), 1) := dqn_2 (k := 45) qh_cX11_think rfl rfl
theorem dX11_think_23 : decode cX11_think 23 = .ok (.ireturn, 1) := dqn_172 (k := 44) qh_cX11_think rfl rfl
theorem dX11_think_24 : decode cX11_think 24 = .ok (.aload_n 0, 1) := dqn_42 (k := 43) qh_cX11_think rfl rfl
theorem dX11_think_25 : decode cX11_think 25 = .ok (.iload_n 3, 1) := dqn_29 (k := 42) qh_cX11_think rfl rfl
theorem dX11_think_26 : decode cX11_think 26 = .ok (.invokevirtual 352, 3) := dqn_182 (k := 39) qh_cX11_think rfl rfl rfl
theorem dX11_think_29 : decode cX11_think 29 = .ok (.istore 5, 2) := dqn_54 (k := 37) qh_cX11_think rfl rfl rfl
theorem dX11_think_31 : decode cX11_think 31 = .ok (.iload 5, 2) := dqn_21 (k := 35) qh_cX11_think rfl rfl rfl
theorem dX11_think_33 : decode cX11_think 33 = .ok (.ifCond .ne 7, 3) := dqn_154 (k := 32) (u := 7) qh_cX11_think rfl rfl rfl (sg_p rfl rfl)
theorem dX11_think_36 : decode cX11_think 36 = .ok (.iconst 1, 1) := dqn_4 (k := 31) qh_cX11_think rfl rfl
theorem dX11_think_37 : decode cX11_think 37 = .ok (.goto 8, 3) := dqn_167 (k := 28) (u := 8) qh_cX11_think rfl rfl rfl (sg_p rfl rfl)
theorem dX11_think_40 : decode cX11_think 40 = .ok (.aload_n 0, 1) := dqn_42 (k := 27) qh_cX11_think rfl rfl
theorem dX11_think_41 : decode cX11_think 41 = .ok (.iload_n 3, 1) := dqn_29 (k := 26) qh_cX11_think rfl rfl
theorem dX11_think_42 : decode cX11_think 42 = .ok (.invokevirtual 355, 3) := dqn_182 (k := 23) qh_cX11_think rfl rfl rfl
theorem dX11_think_45 : decode cX11_think 45 = .ok (.istore 6, 2) := dqn_54 (k := 21) qh_cX11_think rfl rfl rfl
theorem dX11_think_47 : decode cX11_think 47 = .ok (.iload 4, 2) := dqn_21 (k := 19) qh_cX11_think rfl rfl rfl
theorem dX11_think_49 : decode cX11_think 49 = .ok (.ifCond .eq 8, 3) := dqn_153 (k := 16) (u := 8) qh_cX11_think rfl rfl rfl (sg_p rfl rfl)
theorem dX11_think_52 : decode cX11_think 52 = .ok (.iload 6, 2) := dqn_21 (k := 14) qh_cX11_think rfl rfl rfl
theorem dX11_think_54 : decode cX11_think 54 = .ok (.goto 5, 3) := dqn_167 (k := 11) (u := 5) qh_cX11_think rfl rfl rfl (sg_p rfl rfl)
theorem dX11_think_57 : decode cX11_think 57 = .ok (.iload 5, 2) := dqn_21 (k := 9) qh_cX11_think rfl rfl rfl
theorem dX11_think_59 : decode cX11_think 59 = .ok (.iload 5, 2) := dqn_21 (k := 7) qh_cX11_think rfl rfl rfl
theorem dX11_think_61 : decode cX11_think 61 = .ok (.iload 6, 2) := dqn_21 (k := 5) qh_cX11_think rfl rfl rfl
theorem dX11_think_63 : decode cX11_think 63 = .ok (.invokestatic 358, 3) := dqn_184 (k := 2) qh_cX11_think rfl rfl rfl
theorem dX11_think_66 : decode cX11_think 66 = .ok (.idiv, 1) := dqn_108 (k := 1) qh_cX11_think rfl rfl
theorem dX11_think_67 : decode cX11_think 67 = .ok (.ireturn, 1) := dqn_172 (k := 0) qh_cX11_think rfl rfl
theorem dX11_commonOf_0 : decode cX11_commonOf 0 = .ok (.lload_n 0, 1) := dqn_30 (k := 33) qh_cX11_commonOf rfl rfl
theorem dX11_commonOf_1 : decode cX11_commonOf 1 = .ok (.lstore 4, 2) := dqn_55 (k := 31) qh_cX11_commonOf rfl rfl rfl
theorem dX11_commonOf_3 : decode cX11_commonOf 3 = .ok (.lload_n 2, 1) := dqn_32 (k := 30) qh_cX11_commonOf rfl rfl
theorem dX11_commonOf_4 : decode cX11_commonOf 4 = .ok (.lstore 6, 2) := dqn_55 (k := 28) qh_cX11_commonOf rfl rfl rfl
theorem dX11_commonOf_6 : decode cX11_commonOf 6 = .ok (.lload 4, 2) := dqn_22 (k := 26) qh_cX11_commonOf rfl rfl rfl
theorem dX11_commonOf_8 : decode cX11_commonOf 8 = .ok (.lconst 0, 1) := dqn_9 (k := 25) qh_cX11_commonOf rfl rfl
theorem dX11_commonOf_9 : decode cX11_commonOf 9 = .ok (.lcmp, 1) := dqn_148 (k := 24) qh_cX11_commonOf rfl rfl
theorem dX11_commonOf_10 : decode cX11_commonOf 10 = .ok (.ifCond .eq 21, 3) := dqn_153 (k := 21) (u := 21) qh_cX11_commonOf rfl rfl rfl (sg_p rfl rfl)
theorem dX11_commonOf_13 : decode cX11_commonOf 13 = .ok (.lload 6, 2) := dqn_22 (k := 19) qh_cX11_commonOf rfl rfl rfl
theorem dX11_commonOf_15 : decode cX11_commonOf 15 = .ok (.lload 4, 2) := dqn_22 (k := 17) qh_cX11_commonOf rfl rfl rfl
theorem dX11_commonOf_17 : decode cX11_commonOf 17 = .ok (.lrem, 1) := dqn_113 (k := 16) qh_cX11_commonOf rfl rfl
theorem dX11_commonOf_18 : decode cX11_commonOf 18 = .ok (.lstore 8, 2) := dqn_55 (k := 14) qh_cX11_commonOf rfl rfl rfl
theorem dX11_commonOf_20 : decode cX11_commonOf 20 = .ok (.lload 4, 2) := dqn_22 (k := 12) qh_cX11_commonOf rfl rfl rfl
theorem dX11_commonOf_22 : decode cX11_commonOf 22 = .ok (.lstore 6, 2) := dqn_55 (k := 10) qh_cX11_commonOf rfl rfl rfl
theorem dX11_commonOf_24 : decode cX11_commonOf 24 = .ok (.lload 8, 2) := dqn_22 (k := 8) qh_cX11_commonOf rfl rfl rfl
theorem dX11_commonOf_26 : decode cX11_commonOf 26 = .ok (.lstore 4, 2) := dqn_55 (k := 6) qh_cX11_commonOf rfl rfl rfl
theorem dX11_commonOf_28 : decode cX11_commonOf 28 = .ok (.goto (-22), 3) := dqn_167 (k := 3) (u := 65514) qh_cX11_commonOf rfl rfl rfl (sg_n (k := 22) rfl rfl rfl)
theorem dX11_commonOf_31 : decode cX11_commonOf 31 = .ok (.lload 6, 2) := dqn_22 (k := 1) qh_cX11_commonOf rfl rfl rfl
theorem dX11_commonOf_33 : decode cX11_commonOf 33 = .ok (.lreturn, 1) := dqn_173 (k := 0) qh_cX11_commonOf rfl rfl
theorem dX11_given_0 : decode cX11_given 0 = .ok (.aload_n 0, 1) := dqn_42 (k := 89) qh_cX11_given rfl rfl
theorem dX11_given_1 : decode cX11_given 1 = .ok (.iconst 0, 1) := dqn_3 (k := 88) qh_cX11_given rfl rfl
theorem dX11_given_2 : decode cX11_given 2 = .ok (.putfield 70, 3) := dqn_181 (k := 85) qh_cX11_given rfl rfl rfl
theorem dX11_given_5 : decode cX11_given 5 = .ok (.aload_n 0, 1) := dqn_42 (k := 84) qh_cX11_given rfl rfl
theorem dX11_given_6 : decode cX11_given 6 = .ok (.iload_n 1, 1) := dqn_27 (k := 83) qh_cX11_given rfl rfl
theorem dX11_given_7 : decode cX11_given 7 = .ok (.iload_n 2, 1) := dqn_28 (k := 82) qh_cX11_given rfl rfl
theorem dX11_given_8 : decode cX11_given 8 = .ok (.invokevirtual 240, 3) := dqn_182 (k := 79) qh_cX11_given rfl rfl rfl
theorem dX11_given_11 : decode cX11_given 11 = .ok (.ifCond .eq 20, 3) := dqn_153 (k := 76) (u := 20) qh_cX11_given rfl rfl rfl (sg_p rfl rfl)
theorem dX11_given_14 : decode cX11_given 14 = .ok (.aload_n 0, 1) := dqn_42 (k := 75) qh_cX11_given rfl rfl
theorem dX11_given_15 : decode cX11_given 15 = .ok (.iload_n 3, 1) := dqn_29 (k := 74) qh_cX11_given rfl rfl
theorem dX11_given_16 : decode cX11_given 16 = .ok (.invokevirtual 243, 3) := dqn_182 (k := 71) qh_cX11_given rfl rfl rfl
theorem dX11_given_19 : decode cX11_given 19 = .ok (.ifCond .eq 12, 3) := dqn_153 (k := 68) (u := 12) qh_cX11_given rfl rfl rfl (sg_p rfl rfl)
theorem dX11_given_22 : decode cX11_given 22 = .ok (.aload_n 0, 1) := dqn_42 (k := 67) qh_cX11_given rfl rfl
theorem dX11_given_23 : decode cX11_given 23 = .ok (.iload 4, 2) := dqn_21 (k := 65) qh_cX11_given rfl rfl rfl
theorem dX11_given_25 : decode cX11_given 25 = .ok (.invokevirtual 243, 3) := dqn_182 (k := 62) qh_cX11_given rfl rfl rfl
theorem dX11_given_28 : decode cX11_given 28 = .ok (.ifCond .ne 7, 3) := dqn_154 (k := 59) (u := 7) qh_cX11_given rfl rfl rfl (sg_p rfl rfl)
theorem dX11_given_31 : decode cX11_given 31 = .ok (.ldc2_w 292, 3) := dqn_20 (k := 56) qh_cX11_given rfl rfl rfl
theorem dX11_given_34 : decode cX11_given 34 = .ok (.lreturn, 1) := dqn_173 (k := 55) qh_cX11_given rfl rfl
theorem dX11_given_35 : decode cX11_given 35 = .ok (.aload_n 0, 1) := dqn_42 (k := 54) qh_cX11_given rfl rfl
theorem dX11_given_36 : decode cX11_given 36 = .ok (.iconst 1, 1) := dqn_4 (k := 53) qh_cX11_given rfl rfl
theorem dX11_given_37 : decode cX11_given 37 = .ok (.iload_n 3, 1) := dqn_29 (k := 52) qh_cX11_given rfl rfl
theorem dX11_given_38 : decode cX11_given 38 = .ok (.ishl, 1) := dqn_120 (k := 51) qh_cX11_given rfl rfl
theorem dX11_given_39 : decode cX11_given 39 = .ok (.invokevirtual 374, 3) := dqn_182 (k := 48) qh_cX11_given rfl rfl rfl
theorem dX11_given_42 : decode cX11_given 42 = .ok (.lstore 6, 2) := dqn_55 (k := 46) qh_cX11_given rfl rfl rfl
theorem dX11_given_44 : decode cX11_given 44 = .ok (.lload 6, 2) := dqn_22 (k := 44) qh_cX11_given rfl rfl rfl
theorem dX11_given_46 : decode cX11_given 46 = .ok (.lconst 0, 1) := dqn_9 (k := 43) qh_cX11_given rfl rfl
theorem dX11_given_47 : decode cX11_given 47 = .ok (.lcmp, 1) := dqn_148 (k := 42) qh_cX11_given rfl rfl
theorem dX11_given_48 : decode cX11_given 48 = .ok (.ifCond .ne 7, 3) := dqn_154 (k := 39) (u := 7) qh_cX11_given rfl rfl rfl (sg_p rfl rfl)
theorem dX11_given_51 : decode cX11_given 51 = .ok (.ldc2_w 292, 3) := dqn_20 (k := 36) qh_cX11_given rfl rfl rfl
theorem dX11_given_54 : decode cX11_given 54 = .ok (.lreturn, 1) := dqn_173 (k := 35) qh_cX11_given rfl rfl
theorem dX11_given_55 : decode cX11_given 55 = .ok (.aload_n 0, 1) := dqn_42 (k := 34) qh_cX11_given rfl rfl
theorem dX11_given_56 : decode cX11_given 56 = .ok (.iconst 1, 1) := dqn_4 (k := 33) qh_cX11_given rfl rfl
theorem dX11_given_57 : decode cX11_given 57 = .ok (.iload_n 3, 1) := dqn_29 (k := 32) qh_cX11_given rfl rfl
theorem dX11_given_58 : decode cX11_given 58 = .ok (.ishl, 1) := dqn_120 (k := 31) qh_cX11_given rfl rfl
theorem dX11_given_59 : decode cX11_given 59 = .ok (.iconst 1, 1) := dqn_4 (k := 30) qh_cX11_given rfl rfl
theorem dX11_given_60 : decode cX11_given 60 = .ok (.iload 4, 2) := dqn_21 (k := 28) qh_cX11_given rfl rfl rfl
theorem dX11_given_62 : decode cX11_given 62 = .ok (.ishl, 1) := dqn_120 (k := 27) qh_cX11_given rfl rfl
theorem dX11_given_63 : decode cX11_given 63 = .ok (.ior, 1) := dqn_128 (k := 26) qh_cX11_given rfl rfl
theorem dX11_given_64 : decode cX11_given 64 = .ok (.invokevirtual 374, 3) := dqn_182 (k := 23) qh_cX11_given rfl rfl rfl
theorem dX11_given_67 : decode cX11_given 67 = .ok (.lstore 8, 2) := dqn_55 (k := 21) qh_cX11_given rfl rfl rfl
theorem dX11_given_69 : decode cX11_given 69 = .ok (.iload 5, 2) := dqn_21 (k := 19) qh_cX11_given rfl rfl rfl
theorem dX11_given_71 : decode cX11_given 71 = .ok (.ifCond .eq 8, 3) := dqn_153 (k := 16) (u := 8) qh_cX11_given rfl rfl rfl (sg_p rfl rfl)
theorem dX11_given_74 : decode cX11_given 74 = .ok (.lload 6, 2) := dqn_22 (k := 14) qh_cX11_given rfl rfl rfl
theorem dX11_given_76 : decode cX11_given 76 = .ok (.goto 5, 3) := dqn_167 (k := 11) (u := 5) qh_cX11_given rfl rfl rfl (sg_p rfl rfl)
theorem dX11_given_79 : decode cX11_given 79 = .ok (.lload 8, 2) := dqn_22 (k := 9) qh_cX11_given rfl rfl rfl
theorem dX11_given_81 : decode cX11_given 81 = .ok (.lload 8, 2) := dqn_22 (k := 7) qh_cX11_given rfl rfl rfl
theorem dX11_given_83 : decode cX11_given 83 = .ok (.lload 6, 2) := dqn_22 (k := 5) qh_cX11_given rfl rfl rfl
theorem dX11_given_85 : decode cX11_given 85 = .ok (.invokestatic 377, 3) := dqn_184 (k := 2) qh_cX11_given rfl rfl rfl
theorem dX11_given_88 : decode cX11_given 88 = .ok (.ldiv, 1) := dqn_109 (k := 1) qh_cX11_given rfl rfl
theorem dX11_given_89 : decode cX11_given 89 = .ok (.lreturn, 1) := dqn_173 (k := 0) qh_cX11_given rfl rfl
theorem dX11_nextOf_0 : decode cX11_nextOf 0 = .ok (.aload_n 0, 1) := dqn_42 (k := 155) qh_cX11_nextOf rfl rfl
theorem dX11_nextOf_1 : decode cX11_nextOf 1 = .ok (.iload_n 2, 1) := dqn_28 (k := 154) qh_cX11_nextOf rfl rfl
theorem dX11_nextOf_2 : decode cX11_nextOf 2 = .ok (.iconst (-1), 1) := dqn_2 (k := 153) qh_cX11_nextOf rfl rfl
theorem dX11_nextOf_3 : decode cX11_nextOf 3 = .ok (.invokevirtual 321, 3) := dqn_182 (k := 150) qh_cX11_nextOf rfl rfl rfl
theorem dX11_nextOf_6 : decode cX11_nextOf 6 = .ok (.lstore 4, 2) := dqn_55 (k := 148) qh_cX11_nextOf rfl rfl rfl
theorem dX11_nextOf_8 : decode cX11_nextOf 8 = .ok (.iconst (-1), 1) := dqn_2 (k := 147) qh_cX11_nextOf rfl rfl
theorem dX11_nextOf_9 : decode cX11_nextOf 9 = .ok (.istore 6, 2) := dqn_54 (k := 145) qh_cX11_nextOf rfl rfl rfl
theorem dX11_nextOf_11 : decode cX11_nextOf 11 = .ok (.lconst 0, 1) := dqn_9 (k := 144) qh_cX11_nextOf rfl rfl
theorem dX11_nextOf_12 : decode cX11_nextOf 12 = .ok (.lstore 7, 2) := dqn_55 (k := 142) qh_cX11_nextOf rfl rfl rfl
theorem dX11_nextOf_14 : decode cX11_nextOf 14 = .ok (.iconst 0, 1) := dqn_3 (k := 141) qh_cX11_nextOf rfl rfl
theorem dX11_nextOf_15 : decode cX11_nextOf 15 = .ok (.istore 9, 2) := dqn_54 (k := 139) qh_cX11_nextOf rfl rfl rfl
theorem dX11_nextOf_17 : decode cX11_nextOf 17 = .ok (.iconst 0, 1) := dqn_3 (k := 138) qh_cX11_nextOf rfl rfl
theorem dX11_nextOf_18 : decode cX11_nextOf 18 = .ok (.istore 10, 2) := dqn_54 (k := 136) qh_cX11_nextOf rfl rfl rfl
theorem dX11_nextOf_20 : decode cX11_nextOf 20 = .ok (.iload 10, 2) := dqn_21 (k := 134) qh_cX11_nextOf rfl rfl rfl
theorem dX11_nextOf_22 : decode cX11_nextOf 22 = .ok (.bipush 9, 2) := dqn_16 (k := 132) (u := 9) qh_cX11_nextOf rfl rfl rfl (by decide)
theorem dX11_nextOf_24 : decode cX11_nextOf 24 = .ok (.if_icmp .ge 129, 3) := dqn_162 (k := 129) (u := 129) qh_cX11_nextOf rfl rfl rfl (sg_p rfl rfl)
theorem dX11_nextOf_27 : decode cX11_nextOf 27 = .ok (.iload_n 1, 1) := dqn_27 (k := 128) qh_cX11_nextOf rfl rfl
theorem dX11_nextOf_28 : decode cX11_nextOf 28 = .ok (.iload 10, 2) := dqn_21 (k := 126) qh_cX11_nextOf rfl rfl rfl
theorem dX11_nextOf_30 : decode cX11_nextOf 30 = .ok (.invokestatic 249, 3) := dqn_184 (k := 123) qh_cX11_nextOf rfl rfl rfl
theorem dX11_nextOf_33 : decode cX11_nextOf 33 = .ok (.ifCond .eq 114, 3) := dqn_153 (k := 120) (u := 114) qh_cX11_nextOf rfl rfl rfl (sg_p rfl rfl)
theorem dX11_nextOf_36 : decode cX11_nextOf 36 = .ok (.iload_n 2, 1) := dqn_28 (k := 119) qh_cX11_nextOf rfl rfl
theorem dX11_nextOf_37 : decode cX11_nextOf 37 = .ok (.iload 10, 2) := dqn_21 (k := 117) qh_cX11_nextOf rfl rfl rfl
theorem dX11_nextOf_39 : decode cX11_nextOf 39 = .ok (.invokestatic 249, 3) := dqn_184 (k := 114) qh_cX11_nextOf rfl rfl rfl
theorem dX11_nextOf_42 : decode cX11_nextOf 42 = .ok (.ifCond .ne 105, 3) := dqn_154 (k := 111) (u := 105) qh_cX11_nextOf rfl rfl rfl (sg_p rfl rfl)
theorem dX11_nextOf_45 : decode cX11_nextOf 45 = .ok (.aload_n 0, 1) := dqn_42 (k := 110) qh_cX11_nextOf rfl rfl
theorem dX11_nextOf_46 : decode cX11_nextOf 46 = .ok (.getfield 54, 3) := dqn_180 (k := 107) qh_cX11_nextOf rfl rfl rfl
theorem dX11_nextOf_49 : decode cX11_nextOf 49 = .ok (.iload 10, 2) := dqn_21 (k := 105) qh_cX11_nextOf rfl rfl rfl
theorem dX11_nextOf_51 : decode cX11_nextOf 51 = .ok (.iaload, 1) := dqn_46 (k := 104) qh_cX11_nextOf rfl rfl
theorem dX11_nextOf_52 : decode cX11_nextOf 52 = .ok (.ifCond .eq 95, 3) := dqn_153 (k := 101) (u := 95) qh_cX11_nextOf rfl rfl rfl (sg_p rfl rfl)
theorem dX11_nextOf_55 : decode cX11_nextOf 55 = .ok (.aload_n 0, 1) := dqn_42 (k := 100) qh_cX11_nextOf rfl rfl
theorem dX11_nextOf_56 : decode cX11_nextOf 56 = .ok (.getfield 54, 3) := dqn_180 (k := 97) qh_cX11_nextOf rfl rfl rfl
theorem dX11_nextOf_59 : decode cX11_nextOf 59 = .ok (.iload 10, 2) := dqn_21 (k := 95) qh_cX11_nextOf rfl rfl rfl
theorem dX11_nextOf_61 : decode cX11_nextOf 61 = .ok (.iaload, 1) := dqn_46 (k := 94) qh_cX11_nextOf rfl rfl
theorem dX11_nextOf_62 : decode cX11_nextOf 62 = .ok (.aload_n 0, 1) := dqn_42 (k := 93) qh_cX11_nextOf rfl rfl
theorem dX11_nextOf_63 : decode cX11_nextOf 63 = .ok (.getfield 38, 3) := dqn_180 (k := 90) qh_cX11_nextOf rfl rfl rfl
theorem dX11_nextOf_66 : decode cX11_nextOf 66 = .ok (.iconst 2, 1) := dqn_5 (k := 89) qh_cX11_nextOf rfl rfl
theorem dX11_nextOf_67 : decode cX11_nextOf 67 = .ok (.iaload, 1) := dqn_46 (k := 88) qh_cX11_nextOf rfl rfl
theorem dX11_nextOf_68 : decode cX11_nextOf 68 = .ok (.imul, 1) := dqn_104 (k := 87) qh_cX11_nextOf rfl rfl
theorem dX11_nextOf_69 : decode cX11_nextOf 69 = .ok (.iload_n 3, 1) := dqn_29 (k := 86) qh_cX11_nextOf rfl rfl
theorem dX11_nextOf_70 : decode cX11_nextOf 70 = .ok (.if_icmp .le 6, 3) := dqn_164 (k := 83) (u := 6) qh_cX11_nextOf rfl rfl rfl (sg_p rfl rfl)
theorem dX11_nextOf_73 : decode cX11_nextOf 73 = .ok (.goto 74, 3) := dqn_167 (k := 80) (u := 74) qh_cX11_nextOf rfl rfl rfl (sg_p rfl rfl)
theorem dX11_nextOf_76 : decode cX11_nextOf 76 = .ok (.lload 4, 2) := dqn_22 (k := 78) qh_cX11_nextOf rfl rfl rfl
theorem dX11_nextOf_78 : decode cX11_nextOf 78 = .ok (.aload_n 0, 1) := dqn_42 (k := 77) qh_cX11_nextOf rfl rfl
theorem dX11_nextOf_79 : decode cX11_nextOf 79 = .ok (.iload_n 2, 1) := dqn_28 (k := 76) qh_cX11_nextOf rfl rfl
theorem dX11_nextOf_80 : decode cX11_nextOf 80 = .ok (.iconst 1, 1) := dqn_4 (k := 75) qh_cX11_nextOf rfl rfl
theorem dX11_nextOf_81 : decode cX11_nextOf 81 = .ok (.iload 10, 2) := dqn_21 (k := 73) qh_cX11_nextOf rfl rfl rfl
theorem dX11_nextOf_83 : decode cX11_nextOf 83 = .ok (.ishl, 1) := dqn_120 (k := 72) qh_cX11_nextOf rfl rfl
theorem dX11_nextOf_84 : decode cX11_nextOf 84 = .ok (.ior, 1) := dqn_128 (k := 71) qh_cX11_nextOf rfl rfl
theorem dX11_nextOf_85 : decode cX11_nextOf 85 = .ok (.iconst (-1), 1) := dqn_2 (k := 70) qh_cX11_nextOf rfl rfl
theorem dX11_nextOf_86 : decode cX11_nextOf 86 = .ok (.invokevirtual 321, 3) := dqn_182 (k := 67) qh_cX11_nextOf rfl rfl rfl
theorem dX11_nextOf_89 : decode cX11_nextOf 89 = .ok (.lsub, 1) := dqn_101 (k := 66) qh_cX11_nextOf rfl rfl
theorem dX11_nextOf_90 : decode cX11_nextOf 90 = .ok (.lstore 11, 2) := dqn_55 (k := 64) qh_cX11_nextOf rfl rfl rfl
theorem dX11_nextOf_92 : decode cX11_nextOf 92 = .ok (.aload_n 0, 1) := dqn_42 (k := 63) qh_cX11_nextOf rfl rfl
theorem dX11_nextOf_93 : decode cX11_nextOf 93 = .ok (.getfield 54, 3) := dqn_180 (k := 60) qh_cX11_nextOf rfl rfl rfl
theorem dX11_nextOf_96 : decode cX11_nextOf 96 = .ok (.iload 10, 2) := dqn_21 (k := 58) qh_cX11_nextOf rfl rfl rfl
theorem dX11_nextOf_98 : decode cX11_nextOf 98 = .ok (.iaload, 1) := dqn_46 (k := 57) qh_cX11_nextOf rfl rfl
theorem dX11_nextOf_99 : decode cX11_nextOf 99 = .ok (.aload_n 0, 1) := dqn_42 (k := 56) qh_cX11_nextOf rfl rfl
theorem dX11_nextOf_100 : decode cX11_nextOf 100 = .ok (.getfield 38, 3) := dqn_180 (k := 53) qh_cX11_nextOf rfl rfl rfl
theorem dX11_nextOf_103 : decode cX11_nextOf 103 = .ok (.iconst 2, 1) := dqn_5 (k := 52) qh_cX11_nextOf rfl rfl
theorem dX11_nextOf_104 : decode cX11_nextOf 104 = .ok (.iaload, 1) := dqn_46 (k := 51) qh_cX11_nextOf rfl rfl
theorem dX11_nextOf_105 : decode cX11_nextOf 105 = .ok (.imul, 1) := dqn_104 (k := 50) qh_cX11_nextOf rfl rfl
theorem dX11_nextOf_106 : decode cX11_nextOf 106 = .ok (.istore 13, 2) := dqn_54 (k := 48) qh_cX11_nextOf rfl rfl rfl
theorem dX11_nextOf_108 : decode cX11_nextOf 108 = .ok (.lload 11, 2) := dqn_22 (k := 46) qh_cX11_nextOf rfl rfl rfl
theorem dX11_nextOf_110 : decode cX11_nextOf 110 = .ok (.lconst 0, 1) := dqn_9 (k := 45) qh_cX11_nextOf rfl rfl
theorem dX11_nextOf_111 : decode cX11_nextOf 111 = .ok (.lcmp, 1) := dqn_148 (k := 44) qh_cX11_nextOf rfl rfl
theorem dX11_nextOf_112 : decode cX11_nextOf 112 = .ok (.ifCond .le 35, 3) := dqn_158 (k := 41) (u := 35) qh_cX11_nextOf rfl rfl rfl (sg_p rfl rfl)
theorem dX11_nextOf_115 : decode cX11_nextOf 115 = .ok (.iload 6, 2) := dqn_21 (k := 39) qh_cX11_nextOf rfl rfl rfl
theorem dX11_nextOf_117 : decode cX11_nextOf 117 = .ok (.iconst (-1), 1) := dqn_2 (k := 38) qh_cX11_nextOf rfl rfl
theorem dX11_nextOf_118 : decode cX11_nextOf 118 = .ok (.if_icmp .eq 17, 3) := dqn_159 (k := 35) (u := 17) qh_cX11_nextOf rfl rfl rfl (sg_p rfl rfl)
theorem dX11_nextOf_121 : decode cX11_nextOf 121 = .ok (.lload 11, 2) := dqn_22 (k := 33) qh_cX11_nextOf rfl rfl rfl
theorem dX11_nextOf_123 : decode cX11_nextOf 123 = .ok (.iload 13, 2) := dqn_21 (k := 31) qh_cX11_nextOf rfl rfl rfl
theorem dX11_nextOf_125 : decode cX11_nextOf 125 = .ok (.lload 7, 2) := dqn_22 (k := 29) qh_cX11_nextOf rfl rfl rfl
theorem dX11_nextOf_127 : decode cX11_nextOf 127 = .ok (.iload 9, 2) := dqn_21 (k := 27) qh_cX11_nextOf rfl rfl rfl
theorem dX11_nextOf_129 : decode cX11_nextOf 129 = .ok (.invokestatic 328, 3) := dqn_184 (k := 24) qh_cX11_nextOf rfl rfl rfl
theorem dX11_nextOf_132 : decode cX11_nextOf 132 = .ok (.ifCond .eq 15, 3) := dqn_153 (k := 21) (u := 15) qh_cX11_nextOf rfl rfl rfl (sg_p rfl rfl)
theorem dX11_nextOf_135 : decode cX11_nextOf 135 = .ok (.iload 10, 2) := dqn_21 (k := 19) qh_cX11_nextOf rfl rfl rfl
theorem dX11_nextOf_137 : decode cX11_nextOf 137 = .ok (.istore 6, 2) := dqn_54 (k := 17) qh_cX11_nextOf rfl rfl rfl
theorem dX11_nextOf_139 : decode cX11_nextOf 139 = .ok (.lload 11, 2) := dqn_22 (k := 15) qh_cX11_nextOf rfl rfl rfl
theorem dX11_nextOf_141 : decode cX11_nextOf 141 = .ok (.lstore 7, 2) := dqn_55 (k := 13) qh_cX11_nextOf rfl rfl rfl
theorem dX11_nextOf_143 : decode cX11_nextOf 143 = .ok (.iload 13, 2) := dqn_21 (k := 11) qh_cX11_nextOf rfl rfl rfl
theorem dX11_nextOf_145 : decode cX11_nextOf 145 = .ok (.istore 9, 2) := dqn_54 (k := 9) qh_cX11_nextOf rfl rfl rfl
theorem dX11_nextOf_147 : decode cX11_nextOf 147 = .ok (.iinc 10 1, 3) := dqn_132 (k := 6) (u := 1) qh_cX11_nextOf rfl rfl rfl rfl (by decide)
theorem dX11_nextOf_150 : decode cX11_nextOf 150 = .ok (.goto (-130), 3) := dqn_167 (k := 3) (u := 65406) qh_cX11_nextOf rfl rfl rfl (sg_n (k := 130) rfl rfl rfl)
theorem dX11_nextOf_153 : decode cX11_nextOf 153 = .ok (.iload 6, 2) := dqn_21 (k := 1) qh_cX11_nextOf rfl rfl rfl
theorem dX11_nextOf_155 : decode cX11_nextOf 155 = .ok (.ireturn, 1) := dqn_172 (k := 0) qh_cX11_nextOf rfl rfl
theorem dX11_steps_0 : decode cX11_steps 0 = .ok (.aload_n 0, 1) := dqn_42 (k := 87) qh_cX11_steps rfl rfl
theorem dX11_steps_1 : decode cX11_steps 1 = .ok (.iconst 0, 1) := dqn_3 (k := 86) qh_cX11_steps rfl rfl
theorem dX11_steps_2 : decode cX11_steps 2 = .ok (.putfield 70, 3) := dqn_181 (k := 83) qh_cX11_steps rfl rfl rfl
theorem dX11_steps_5 : decode cX11_steps 5 = .ok (.aload_n 0, 1) := dqn_42 (k := 82) qh_cX11_steps rfl rfl
theorem dX11_steps_6 : decode cX11_steps 6 = .ok (.iload_n 1, 1) := dqn_27 (k := 81) qh_cX11_steps rfl rfl
theorem dX11_steps_7 : decode cX11_steps 7 = .ok (.iload_n 2, 1) := dqn_28 (k := 80) qh_cX11_steps rfl rfl
theorem dX11_steps_8 : decode cX11_steps 8 = .ok (.iload_n 3, 1) := dqn_29 (k := 79) qh_cX11_steps rfl rfl
theorem dX11_steps_9 : decode cX11_steps 9 = .ok (.iload 4, 2) := dqn_21 (k := 77) qh_cX11_steps rfl rfl rfl
theorem dX11_steps_11 : decode cX11_steps 11 = .ok (.invokevirtual 314, 3) := dqn_182 (k := 74) qh_cX11_steps rfl rfl rfl
theorem dX11_steps_14 : decode cX11_steps 14 = .ok (.ifCond .ne 5, 3) := dqn_154 (k := 71) (u := 5) qh_cX11_steps rfl rfl rfl (sg_p rfl rfl)
theorem dX11_steps_17 : decode cX11_steps 17 = .ok (.iconst (-1), 1) := dqn_2 (k := 70) qh_cX11_steps rfl rfl
theorem dX11_steps_18 : decode cX11_steps 18 = .ok (.ireturn, 1) := dqn_172 (k := 69) qh_cX11_steps rfl rfl
theorem dX11_steps_19 : decode cX11_steps 19 = .ok (.iconst 0, 1) := dqn_3 (k := 68) qh_cX11_steps rfl rfl
theorem dX11_steps_20 : decode cX11_steps 20 = .ok (.istore 5, 2) := dqn_54 (k := 66) qh_cX11_steps rfl rfl rfl
theorem dX11_steps_22 : decode cX11_steps 22 = .ok (.iconst (-1), 1) := dqn_2 (k := 65) qh_cX11_steps rfl rfl
theorem dX11_steps_23 : decode cX11_steps 23 = .ok (.istore 6, 2) := dqn_54 (k := 63) qh_cX11_steps rfl rfl rfl
theorem dX11_steps_25 : decode cX11_steps 25 = .ok (.iconst 1, 1) := dqn_4 (k := 62) qh_cX11_steps rfl rfl
theorem dX11_steps_26 : decode cX11_steps 26 = .ok (.istore 7, 2) := dqn_54 (k := 60) qh_cX11_steps rfl rfl rfl
theorem dX11_steps_28 : decode cX11_steps 28 = .ok (.iload 7, 2) := dqn_21 (k := 58) qh_cX11_steps rfl rfl rfl
theorem dX11_steps_30 : decode cX11_steps 30 = .ok (.ifCond .eq 55, 3) := dqn_153 (k := 55) (u := 55) qh_cX11_steps rfl rfl rfl (sg_p rfl rfl)
theorem dX11_steps_33 : decode cX11_steps 33 = .ok (.aload_n 0, 1) := dqn_42 (k := 54) qh_cX11_steps rfl rfl
theorem dX11_steps_34 : decode cX11_steps 34 = .ok (.iload_n 3, 1) := dqn_29 (k := 53) qh_cX11_steps rfl rfl
theorem dX11_steps_35 : decode cX11_steps 35 = .ok (.iload 5, 2) := dqn_21 (k := 51) qh_cX11_steps rfl rfl rfl
theorem dX11_steps_37 : decode cX11_steps 37 = .ok (.iload 4, 2) := dqn_21 (k := 49) qh_cX11_steps rfl rfl rfl
theorem dX11_steps_39 : decode cX11_steps 39 = .ok (.aload_n 0, 1) := dqn_42 (k := 48) qh_cX11_steps rfl rfl
theorem dX11_steps_40 : decode cX11_steps 40 = .ok (.iload 5, 2) := dqn_21 (k := 46) qh_cX11_steps rfl rfl rfl
theorem dX11_steps_42 : decode cX11_steps 42 = .ok (.invokevirtual 318, 3) := dqn_182 (k := 43) qh_cX11_steps rfl rfl rfl
theorem dX11_steps_45 : decode cX11_steps 45 = .ok (.isub, 1) := dqn_100 (k := 42) qh_cX11_steps rfl rfl
theorem dX11_steps_46 : decode cX11_steps 46 = .ok (.invokevirtual 324, 3) := dqn_182 (k := 39) qh_cX11_steps rfl rfl rfl
theorem dX11_steps_49 : decode cX11_steps 49 = .ok (.istore 6, 2) := dqn_54 (k := 37) qh_cX11_steps rfl rfl rfl
theorem dX11_steps_51 : decode cX11_steps 51 = .ok (.iload 6, 2) := dqn_21 (k := 35) qh_cX11_steps rfl rfl rfl
theorem dX11_steps_53 : decode cX11_steps 53 = .ok (.iconst (-1), 1) := dqn_2 (k := 34) qh_cX11_steps rfl rfl
theorem dX11_steps_54 : decode cX11_steps 54 = .ok (.if_icmp .eq 7, 3) := dqn_159 (k := 31) (u := 7) qh_cX11_steps rfl rfl rfl (sg_p rfl rfl)
theorem dX11_steps_57 : decode cX11_steps 57 = .ok (.iconst 1, 1) := dqn_4 (k := 30) qh_cX11_steps rfl rfl
theorem dX11_steps_58 : decode cX11_steps 58 = .ok (.goto 4, 3) := dqn_167 (k := 27) (u := 4) qh_cX11_steps rfl rfl rfl (sg_p rfl rfl)
theorem dX11_steps_61 : decode cX11_steps 61 = .ok (.iconst 0, 1) := dqn_3 (k := 26) qh_cX11_steps rfl rfl
theorem dX11_steps_62 : decode cX11_steps 62 = .ok (.istore 7, 2) := dqn_54 (k := 24) qh_cX11_steps rfl rfl rfl
theorem dX11_steps_64 : decode cX11_steps 64 = .ok (.iload 5, 2) := dqn_21 (k := 22) qh_cX11_steps rfl rfl rfl
theorem dX11_steps_66 : decode cX11_steps 66 = .ok (.iload 7, 2) := dqn_21 (k := 20) qh_cX11_steps rfl rfl rfl
theorem dX11_steps_68 : decode cX11_steps 68 = .ok (.ifCond .eq 10, 3) := dqn_153 (k := 17) (u := 10) qh_cX11_steps rfl rfl rfl (sg_p rfl rfl)
theorem dX11_steps_71 : decode cX11_steps 71 = .ok (.iconst 1, 1) := dqn_4 (k := 16) qh_cX11_steps rfl rfl
theorem dX11_steps_72 : decode cX11_steps 72 = .ok (.iload 6, 2) := dqn_21 (k := 14) qh_cX11_steps rfl rfl rfl
theorem dX11_steps_74 : decode cX11_steps 74 = .ok (.ishl, 1) := dqn_120 (k := 13) qh_cX11_steps rfl rfl
theorem dX11_steps_75 : decode cX11_steps 75 = .ok (.goto 4, 3) := dqn_167 (k := 10) (u := 4) qh_cX11_steps rfl rfl rfl (sg_p rfl rfl)
theorem dX11_steps_78 : decode cX11_steps 78 = .ok (.iconst 0, 1) := dqn_3 (k := 9) qh_cX11_steps rfl rfl
theorem dX11_steps_79 : decode cX11_steps 79 = .ok (.ior, 1) := dqn_128 (k := 8) qh_cX11_steps rfl rfl
theorem dX11_steps_80 : decode cX11_steps 80 = .ok (.istore 5, 2) := dqn_54 (k := 6) qh_cX11_steps rfl rfl rfl
theorem dX11_steps_82 : decode cX11_steps 82 = .ok (.goto (-54), 3) := dqn_167 (k := 3) (u := 65482) qh_cX11_steps rfl rfl rfl (sg_n (k := 54) rfl rfl rfl)
theorem dX11_steps_85 : decode cX11_steps 85 = .ok (.iload 5, 2) := dqn_21 (k := 1) qh_cX11_steps rfl rfl rfl
theorem dX11_steps_87 : decode cX11_steps 87 = .ok (.ireturn, 1) := dqn_172 (k := 0) qh_cX11_steps rfl rfl
theorem dX11_fillAll_0 : decode cX11_fillAll 0 = .ok (.iconst 0, 1) := dqn_3 (k := 120) qh_cX11_fillAll rfl rfl
theorem dX11_fillAll_1 : decode cX11_fillAll 1 = .ok (.istore_n 2, 1) := dqn_61 (k := 119) qh_cX11_fillAll rfl rfl
theorem dX11_fillAll_2 : decode cX11_fillAll 2 = .ok (.iload_n 2, 1) := dqn_28 (k := 118) qh_cX11_fillAll rfl rfl
theorem dX11_fillAll_3 : decode cX11_fillAll 3 = .ok (.aload_n 0, 1) := dqn_42 (k := 117) qh_cX11_fillAll rfl rfl
theorem dX11_fillAll_4 : decode cX11_fillAll 4 = .ok (.getfield 208, 3) := dqn_180 (k := 114) qh_cX11_fillAll rfl rfl rfl
theorem dX11_fillAll_7 : decode cX11_fillAll 7 = .ok (.if_icmp .ge 21, 3) := dqn_162 (k := 111) (u := 21) qh_cX11_fillAll rfl rfl rfl (sg_p rfl rfl)
theorem dX11_fillAll_10 : decode cX11_fillAll 10 = .ok (.aload_n 0, 1) := dqn_42 (k := 110) qh_cX11_fillAll rfl rfl
theorem dX11_fillAll_11 : decode cX11_fillAll 11 = .ok (.getfield 57, 3) := dqn_180 (k := 107) qh_cX11_fillAll rfl rfl rfl
theorem dX11_fillAll_14 : decode cX11_fillAll 14 = .ok (.iload_n 2, 1) := dqn_28 (k := 106) qh_cX11_fillAll rfl rfl
theorem dX11_fillAll_15 : decode cX11_fillAll 15 = .ok (.aload_n 0, 1) := dqn_42 (k := 105) qh_cX11_fillAll rfl rfl
theorem dX11_fillAll_16 : decode cX11_fillAll 16 = .ok (.iload_n 2, 1) := dqn_28 (k := 104) qh_cX11_fillAll rfl rfl
theorem dX11_fillAll_17 : decode cX11_fillAll 17 = .ok (.iconst 1, 1) := dqn_4 (k := 103) qh_cX11_fillAll rfl rfl
theorem dX11_fillAll_18 : decode cX11_fillAll 18 = .ok (.invokevirtual 211, 3) := dqn_182 (k := 100) qh_cX11_fillAll rfl rfl rfl
theorem dX11_fillAll_21 : decode cX11_fillAll 21 = .ok (.iastore, 1) := dqn_79 (k := 99) qh_cX11_fillAll rfl rfl
theorem dX11_fillAll_22 : decode cX11_fillAll 22 = .ok (.iinc 2 1, 3) := dqn_132 (k := 96) (u := 1) qh_cX11_fillAll rfl rfl rfl rfl (by decide)
theorem dX11_fillAll_25 : decode cX11_fillAll 25 = .ok (.goto (-23), 3) := dqn_167 (k := 93) (u := 65513) qh_cX11_fillAll rfl rfl rfl (sg_n (k := 23) rfl rfl rfl)
theorem dX11_fillAll_28 : decode cX11_fillAll 28 = .ok (.aload_n 0, 1) := dqn_42 (k := 92) qh_cX11_fillAll rfl rfl
theorem dX11_fillAll_29 : decode cX11_fillAll 29 = .ok (.iconst 1, 1) := dqn_4 (k := 91) qh_cX11_fillAll rfl rfl
theorem dX11_fillAll_30 : decode cX11_fillAll 30 = .ok (.putfield 234, 3) := dqn_181 (k := 88) qh_cX11_fillAll rfl rfl rfl
theorem dX11_fillAll_33 : decode cX11_fillAll 33 = .ok (.lconst 0, 1) := dqn_9 (k := 87) qh_cX11_fillAll rfl rfl
theorem dX11_fillAll_34 : decode cX11_fillAll 34 = .ok (.lstore_n 2, 1) := dqn_65 (k := 86) qh_cX11_fillAll rfl rfl
theorem dX11_fillAll_35 : decode cX11_fillAll 35 = .ok (.iconst 0, 1) := dqn_3 (k := 85) qh_cX11_fillAll rfl rfl
theorem dX11_fillAll_36 : decode cX11_fillAll 36 = .ok (.istore 4, 2) := dqn_54 (k := 83) qh_cX11_fillAll rfl rfl rfl
theorem dX11_fillAll_38 : decode cX11_fillAll 38 = .ok (.iload 4, 2) := dqn_21 (k := 81) qh_cX11_fillAll rfl rfl rfl
theorem dX11_fillAll_40 : decode cX11_fillAll 40 = .ok (.iload_n 1, 1) := dqn_27 (k := 80) qh_cX11_fillAll rfl rfl
theorem dX11_fillAll_41 : decode cX11_fillAll 41 = .ok (.if_icmp .ge 41, 3) := dqn_162 (k := 77) (u := 41) qh_cX11_fillAll rfl rfl rfl (sg_p rfl rfl)
theorem dX11_fillAll_44 : decode cX11_fillAll 44 = .ok (.aload_n 0, 1) := dqn_42 (k := 76) qh_cX11_fillAll rfl rfl
theorem dX11_fillAll_45 : decode cX11_fillAll 45 = .ok (.aload_n 0, 1) := dqn_42 (k := 75) qh_cX11_fillAll rfl rfl
theorem dX11_fillAll_46 : decode cX11_fillAll 46 = .ok (.getfield 60, 3) := dqn_180 (k := 72) qh_cX11_fillAll rfl rfl rfl
theorem dX11_fillAll_49 : decode cX11_fillAll 49 = .ok (.iload 4, 2) := dqn_21 (k := 70) qh_cX11_fillAll rfl rfl rfl
theorem dX11_fillAll_51 : decode cX11_fillAll 51 = .ok (.iaload, 1) := dqn_46 (k := 69) qh_cX11_fillAll rfl rfl
theorem dX11_fillAll_52 : decode cX11_fillAll 52 = .ok (.iconst 1, 1) := dqn_4 (k := 68) qh_cX11_fillAll rfl rfl
theorem dX11_fillAll_53 : decode cX11_fillAll 53 = .ok (.aload_n 0, 1) := dqn_42 (k := 67) qh_cX11_fillAll rfl rfl
theorem dX11_fillAll_54 : decode cX11_fillAll 54 = .ok (.aload_n 0, 1) := dqn_42 (k := 66) qh_cX11_fillAll rfl rfl
theorem dX11_fillAll_55 : decode cX11_fillAll 55 = .ok (.getfield 60, 3) := dqn_180 (k := 63) qh_cX11_fillAll rfl rfl rfl
theorem dX11_fillAll_58 : decode cX11_fillAll 58 = .ok (.iload 4, 2) := dqn_21 (k := 61) qh_cX11_fillAll rfl rfl rfl
theorem dX11_fillAll_60 : decode cX11_fillAll 60 = .ok (.iaload, 1) := dqn_46 (k := 60) qh_cX11_fillAll rfl rfl
theorem dX11_fillAll_61 : decode cX11_fillAll 61 = .ok (.iconst 0, 1) := dqn_3 (k := 59) qh_cX11_fillAll rfl rfl
theorem dX11_fillAll_62 : decode cX11_fillAll 62 = .ok (.invokevirtual 211, 3) := dqn_182 (k := 56) qh_cX11_fillAll rfl rfl rfl
theorem dX11_fillAll_65 : decode cX11_fillAll 65 = .ok (.invokevirtual 215, 3) := dqn_182 (k := 53) qh_cX11_fillAll rfl rfl rfl
theorem dX11_fillAll_68 : decode cX11_fillAll 68 = .ok (.lload_n 2, 1) := dqn_32 (k := 52) qh_cX11_fillAll rfl rfl
theorem dX11_fillAll_69 : decode cX11_fillAll 69 = .ok (.aload_n 0, 1) := dqn_42 (k := 51) qh_cX11_fillAll rfl rfl
theorem dX11_fillAll_70 : decode cX11_fillAll 70 = .ok (.iconst (-1), 1) := dqn_2 (k := 50) qh_cX11_fillAll rfl rfl
theorem dX11_fillAll_71 : decode cX11_fillAll 71 = .ok (.invokevirtual 301, 3) := dqn_182 (k := 47) qh_cX11_fillAll rfl rfl rfl
theorem dX11_fillAll_74 : decode cX11_fillAll 74 = .ok (.ladd, 1) := dqn_97 (k := 46) qh_cX11_fillAll rfl rfl
theorem dX11_fillAll_75 : decode cX11_fillAll 75 = .ok (.lstore_n 2, 1) := dqn_65 (k := 45) qh_cX11_fillAll rfl rfl
theorem dX11_fillAll_76 : decode cX11_fillAll 76 = .ok (.iinc 4 1, 3) := dqn_132 (k := 42) (u := 1) qh_cX11_fillAll rfl rfl rfl rfl (by decide)
theorem dX11_fillAll_79 : decode cX11_fillAll 79 = .ok (.goto (-41), 3) := dqn_167 (k := 39) (u := 65495) qh_cX11_fillAll rfl rfl rfl (sg_n (k := 41) rfl rfl rfl)
theorem dX11_fillAll_82 : decode cX11_fillAll 82 = .ok (.aload_n 0, 1) := dqn_42 (k := 38) qh_cX11_fillAll rfl rfl
theorem dX11_fillAll_83 : decode cX11_fillAll 83 = .ok (.iconst 0, 1) := dqn_3 (k := 37) qh_cX11_fillAll rfl rfl
theorem dX11_fillAll_84 : decode cX11_fillAll 84 = .ok (.putfield 234, 3) := dqn_181 (k := 34) qh_cX11_fillAll rfl rfl rfl
theorem dX11_fillAll_87 : decode cX11_fillAll 87 = .ok (.iconst 0, 1) := dqn_3 (k := 33) qh_cX11_fillAll rfl rfl
theorem dX11_fillAll_88 : decode cX11_fillAll 88 = .ok (.istore 4, 2) := dqn_54 (k := 31) qh_cX11_fillAll rfl rfl rfl
theorem dX11_fillAll_90 : decode cX11_fillAll 90 = .ok (.iload 4, 2) := dqn_21 (k := 29) qh_cX11_fillAll rfl rfl rfl
theorem dX11_fillAll_92 : decode cX11_fillAll 92 = .ok (.aload_n 0, 1) := dqn_42 (k := 28) qh_cX11_fillAll rfl rfl
theorem dX11_fillAll_93 : decode cX11_fillAll 93 = .ok (.getfield 208, 3) := dqn_180 (k := 25) qh_cX11_fillAll rfl rfl rfl
theorem dX11_fillAll_96 : decode cX11_fillAll 96 = .ok (.if_icmp .ge 23, 3) := dqn_162 (k := 22) (u := 23) qh_cX11_fillAll rfl rfl rfl (sg_p rfl rfl)
theorem dX11_fillAll_99 : decode cX11_fillAll 99 = .ok (.aload_n 0, 1) := dqn_42 (k := 21) qh_cX11_fillAll rfl rfl
theorem dX11_fillAll_100 : decode cX11_fillAll 100 = .ok (.iload 4, 2) := dqn_21 (k := 19) qh_cX11_fillAll rfl rfl rfl
theorem dX11_fillAll_102 : decode cX11_fillAll 102 = .ok (.iconst 1, 1) := dqn_4 (k := 18) qh_cX11_fillAll rfl rfl
theorem dX11_fillAll_103 : decode cX11_fillAll 103 = .ok (.aload_n 0, 1) := dqn_42 (k := 17) qh_cX11_fillAll rfl rfl
theorem dX11_fillAll_104 : decode cX11_fillAll 104 = .ok (.getfield 57, 3) := dqn_180 (k := 14) qh_cX11_fillAll rfl rfl rfl
theorem dX11_fillAll_107 : decode cX11_fillAll 107 = .ok (.iload 4, 2) := dqn_21 (k := 12) qh_cX11_fillAll rfl rfl rfl
theorem dX11_fillAll_109 : decode cX11_fillAll 109 = .ok (.iaload, 1) := dqn_46 (k := 11) qh_cX11_fillAll rfl rfl
theorem dX11_fillAll_110 : decode cX11_fillAll 110 = .ok (.invokevirtual 215, 3) := dqn_182 (k := 8) qh_cX11_fillAll rfl rfl rfl
theorem dX11_fillAll_113 : decode cX11_fillAll 113 = .ok (.iinc 4 1, 3) := dqn_132 (k := 5) (u := 1) qh_cX11_fillAll rfl rfl rfl rfl (by decide)
theorem dX11_fillAll_116 : decode cX11_fillAll 116 = .ok (.goto (-26), 3) := dqn_167 (k := 2) (u := 65510) qh_cX11_fillAll rfl rfl rfl (sg_n (k := 26) rfl rfl rfl)
theorem dX11_fillAll_119 : decode cX11_fillAll 119 = .ok (.lload_n 2, 1) := dqn_32 (k := 1) qh_cX11_fillAll rfl rfl
theorem dX11_fillAll_120 : decode cX11_fillAll 120 = .ok (.lreturn, 1) := dqn_173 (k := 0) qh_cX11_fillAll rfl rfl
theorem dX11_findOrder_0 : decode cX11_findOrder 0 = .ok (.aload_n 0, 1) := dqn_42 (k := 179) qh_cX11_findOrder rfl rfl
theorem dX11_findOrder_1 : decode cX11_findOrder 1 = .ok (.iload_n 1, 1) := dqn_27 (k := 178) qh_cX11_findOrder rfl rfl
theorem dX11_findOrder_2 : decode cX11_findOrder 2 = .ok (.invokestatic 305, 3) := dqn_184 (k := 175) qh_cX11_findOrder rfl rfl rfl
theorem dX11_findOrder_5 : decode cX11_findOrder 5 = .ok (.putfield 337, 3) := dqn_181 (k := 172) qh_cX11_findOrder rfl rfl rfl
theorem dX11_findOrder_8 : decode cX11_findOrder 8 = .ok (.iconst 0, 1) := dqn_3 (k := 171) qh_cX11_findOrder rfl rfl
theorem dX11_findOrder_9 : decode cX11_findOrder 9 = .ok (.istore_n 2, 1) := dqn_61 (k := 170) qh_cX11_findOrder rfl rfl
theorem dX11_findOrder_10 : decode cX11_findOrder 10 = .ok (.iconst 0, 1) := dqn_3 (k := 169) qh_cX11_findOrder rfl rfl
theorem dX11_findOrder_11 : decode cX11_findOrder 11 = .ok (.istore_n 3, 1) := dqn_62 (k := 168) qh_cX11_findOrder rfl rfl
theorem dX11_findOrder_12 : decode cX11_findOrder 12 = .ok (.iload_n 3, 1) := dqn_29 (k := 167) qh_cX11_findOrder rfl rfl
theorem dX11_findOrder_13 : decode cX11_findOrder 13 = .ok (.sipush 6561, 3) := dqn_17 (k := 164) (u := 6561) qh_cX11_findOrder rfl rfl rfl (sg_p rfl rfl)
theorem dX11_findOrder_16 : decode cX11_findOrder 16 = .ok (.if_icmp .ge 163, 3) := dqn_162 (k := 161) (u := 163) qh_cX11_findOrder rfl rfl rfl (sg_p rfl rfl)
theorem dX11_findOrder_19 : decode cX11_findOrder 19 = .ok (.iload_n 3, 1) := dqn_29 (k := 160) qh_cX11_findOrder rfl rfl
theorem dX11_findOrder_20 : decode cX11_findOrder 20 = .ok (.istore 4, 2) := dqn_54 (k := 158) qh_cX11_findOrder rfl rfl rfl
theorem dX11_findOrder_22 : decode cX11_findOrder 22 = .ok (.iconst 0, 1) := dqn_3 (k := 157) qh_cX11_findOrder rfl rfl
theorem dX11_findOrder_23 : decode cX11_findOrder 23 = .ok (.istore 5, 2) := dqn_54 (k := 155) qh_cX11_findOrder rfl rfl rfl
theorem dX11_findOrder_25 : decode cX11_findOrder 25 = .ok (.iconst 3, 1) := dqn_6 (k := 154) qh_cX11_findOrder rfl rfl
theorem dX11_findOrder_26 : decode cX11_findOrder 26 = .ok (.istore 6, 2) := dqn_54 (k := 152) qh_cX11_findOrder rfl rfl rfl
theorem dX11_findOrder_28 : decode cX11_findOrder 28 = .ok (.iload 6, 2) := dqn_21 (k := 150) qh_cX11_findOrder rfl rfl rfl
theorem dX11_findOrder_30 : decode cX11_findOrder 30 = .ok (.ifCond .lt 70, 3) := dqn_155 (k := 147) (u := 70) qh_cX11_findOrder rfl rfl rfl (sg_p rfl rfl)
theorem dX11_findOrder_33 : decode cX11_findOrder 33 = .ok (.iload 4, 2) := dqn_21 (k := 145) qh_cX11_findOrder rfl rfl rfl
theorem dX11_findOrder_35 : decode cX11_findOrder 35 = .ok (.bipush 9, 2) := dqn_16 (k := 143) (u := 9) qh_cX11_findOrder rfl rfl rfl (by decide)
theorem dX11_findOrder_37 : decode cX11_findOrder 37 = .ok (.irem, 1) := dqn_112 (k := 142) qh_cX11_findOrder rfl rfl
theorem dX11_findOrder_38 : decode cX11_findOrder 38 = .ok (.istore 7, 2) := dqn_54 (k := 140) qh_cX11_findOrder rfl rfl rfl
theorem dX11_findOrder_40 : decode cX11_findOrder 40 = .ok (.iload 4, 2) := dqn_21 (k := 138) qh_cX11_findOrder rfl rfl rfl
theorem dX11_findOrder_42 : decode cX11_findOrder 42 = .ok (.bipush 9, 2) := dqn_16 (k := 136) (u := 9) qh_cX11_findOrder rfl rfl rfl (by decide)
theorem dX11_findOrder_44 : decode cX11_findOrder 44 = .ok (.idiv, 1) := dqn_108 (k := 135) qh_cX11_findOrder rfl rfl
theorem dX11_findOrder_45 : decode cX11_findOrder 45 = .ok (.istore 4, 2) := dqn_54 (k := 133) qh_cX11_findOrder rfl rfl rfl
theorem dX11_findOrder_47 : decode cX11_findOrder 47 = .ok (.iload 6, 2) := dqn_21 (k := 131) qh_cX11_findOrder rfl rfl rfl
theorem dX11_findOrder_49 : decode cX11_findOrder 49 = .ok (.aload_n 0, 1) := dqn_42 (k := 130) qh_cX11_findOrder rfl rfl
theorem dX11_findOrder_50 : decode cX11_findOrder 50 = .ok (.getfield 337, 3) := dqn_180 (k := 127) qh_cX11_findOrder rfl rfl rfl
theorem dX11_findOrder_53 : decode cX11_findOrder 53 = .ok (.if_icmp .ge 24, 3) := dqn_162 (k := 124) (u := 24) qh_cX11_findOrder rfl rfl rfl (sg_p rfl rfl)
theorem dX11_findOrder_56 : decode cX11_findOrder 56 = .ok (.aload_n 0, 1) := dqn_42 (k := 123) qh_cX11_findOrder rfl rfl
theorem dX11_findOrder_57 : decode cX11_findOrder 57 = .ok (.getfield 60, 3) := dqn_180 (k := 120) qh_cX11_findOrder rfl rfl rfl
theorem dX11_findOrder_60 : decode cX11_findOrder 60 = .ok (.iload 6, 2) := dqn_21 (k := 118) qh_cX11_findOrder rfl rfl rfl
theorem dX11_findOrder_62 : decode cX11_findOrder 62 = .ok (.iload 7, 2) := dqn_21 (k := 116) qh_cX11_findOrder rfl rfl rfl
theorem dX11_findOrder_64 : decode cX11_findOrder 64 = .ok (.iastore, 1) := dqn_79 (k := 115) qh_cX11_findOrder rfl rfl
theorem dX11_findOrder_65 : decode cX11_findOrder 65 = .ok (.iload 5, 2) := dqn_21 (k := 113) qh_cX11_findOrder rfl rfl rfl
theorem dX11_findOrder_67 : decode cX11_findOrder 67 = .ok (.iconst 1, 1) := dqn_4 (k := 112) qh_cX11_findOrder rfl rfl
theorem dX11_findOrder_68 : decode cX11_findOrder 68 = .ok (.iload 7, 2) := dqn_21 (k := 110) qh_cX11_findOrder rfl rfl rfl
theorem dX11_findOrder_70 : decode cX11_findOrder 70 = .ok (.ishl, 1) := dqn_120 (k := 109) qh_cX11_findOrder rfl rfl
theorem dX11_findOrder_71 : decode cX11_findOrder 71 = .ok (.ior, 1) := dqn_128 (k := 108) qh_cX11_findOrder rfl rfl
theorem dX11_findOrder_72 : decode cX11_findOrder 72 = .ok (.istore 5, 2) := dqn_54 (k := 106) qh_cX11_findOrder rfl rfl rfl
theorem dX11_findOrder_74 : decode cX11_findOrder 74 = .ok (.goto 11, 3) := dqn_167 (k := 103) (u := 11) qh_cX11_findOrder rfl rfl rfl (sg_p rfl rfl)
theorem dX11_findOrder_77 : decode cX11_findOrder 77 = .ok (.iload 7, 2) := dqn_21 (k := 101) qh_cX11_findOrder rfl rfl rfl
theorem dX11_findOrder_79 : decode cX11_findOrder 79 = .ok (.ifCond .le 6, 3) := dqn_158 (k := 98) (u := 6) qh_cX11_findOrder rfl rfl rfl (sg_p rfl rfl)
theorem dX11_findOrder_82 : decode cX11_findOrder 82 = .ok (.iconst (-1), 1) := dqn_2 (k := 97) qh_cX11_findOrder rfl rfl
theorem dX11_findOrder_83 : decode cX11_findOrder 83 = .ok (.istore 5, 2) := dqn_54 (k := 95) qh_cX11_findOrder rfl rfl rfl
theorem dX11_findOrder_85 : decode cX11_findOrder 85 = .ok (.iload 5, 2) := dqn_21 (k := 93) qh_cX11_findOrder rfl rfl rfl
theorem dX11_findOrder_87 : decode cX11_findOrder 87 = .ok (.iconst (-1), 1) := dqn_2 (k := 92) qh_cX11_findOrder rfl rfl
theorem dX11_findOrder_88 : decode cX11_findOrder 88 = .ok (.if_icmp .ne 6, 3) := dqn_160 (k := 89) (u := 6) qh_cX11_findOrder rfl rfl rfl (sg_p rfl rfl)
theorem dX11_findOrder_91 : decode cX11_findOrder 91 = .ok (.goto 9, 3) := dqn_167 (k := 86) (u := 9) qh_cX11_findOrder rfl rfl rfl (sg_p rfl rfl)
theorem dX11_findOrder_94 : decode cX11_findOrder 94 = .ok (.iinc 6 (-1), 3) := dqn_132 (k := 83) (u := 255) qh_cX11_findOrder rfl rfl rfl rfl (by decide)
theorem dX11_findOrder_97 : decode cX11_findOrder 97 = .ok (.goto (-69), 3) := dqn_167 (k := 80) (u := 65467) qh_cX11_findOrder rfl rfl rfl (sg_n (k := 69) rfl rfl rfl)
theorem dX11_findOrder_100 : decode cX11_findOrder 100 = .ok (.iload 5, 2) := dqn_21 (k := 78) qh_cX11_findOrder rfl rfl rfl
theorem dX11_findOrder_102 : decode cX11_findOrder 102 = .ok (.iload_n 1, 1) := dqn_27 (k := 77) qh_cX11_findOrder rfl rfl
theorem dX11_findOrder_103 : decode cX11_findOrder 103 = .ok (.if_icmp .eq 6, 3) := dqn_159 (k := 74) (u := 6) qh_cX11_findOrder rfl rfl rfl (sg_p rfl rfl)
theorem dX11_findOrder_106 : decode cX11_findOrder 106 = .ok (.goto 67, 3) := dqn_167 (k := 71) (u := 67) qh_cX11_findOrder rfl rfl rfl (sg_p rfl rfl)
theorem dX11_findOrder_109 : decode cX11_findOrder 109 = .ok (.aload_n 0, 1) := dqn_42 (k := 70) qh_cX11_findOrder rfl rfl
theorem dX11_findOrder_110 : decode cX11_findOrder 110 = .ok (.aload_n 0, 1) := dqn_42 (k := 69) qh_cX11_findOrder rfl rfl
theorem dX11_findOrder_111 : decode cX11_findOrder 111 = .ok (.getfield 337, 3) := dqn_180 (k := 66) qh_cX11_findOrder rfl rfl rfl
theorem dX11_findOrder_114 : decode cX11_findOrder 114 = .ok (.invokevirtual 340, 3) := dqn_182 (k := 63) qh_cX11_findOrder rfl rfl rfl
theorem dX11_findOrder_117 : decode cX11_findOrder 117 = .ok (.lstore 6, 2) := dqn_55 (k := 61) qh_cX11_findOrder rfl rfl rfl
theorem dX11_findOrder_119 : decode cX11_findOrder 119 = .ok (.iload_n 2, 1) := dqn_28 (k := 60) qh_cX11_findOrder rfl rfl
theorem dX11_findOrder_120 : decode cX11_findOrder 120 = .ok (.ifCond .eq 13, 3) := dqn_153 (k := 57) (u := 13) qh_cX11_findOrder rfl rfl rfl (sg_p rfl rfl)
theorem dX11_findOrder_123 : decode cX11_findOrder 123 = .ok (.lload 6, 2) := dqn_22 (k := 55) qh_cX11_findOrder rfl rfl rfl
theorem dX11_findOrder_125 : decode cX11_findOrder 125 = .ok (.aload_n 0, 1) := dqn_42 (k := 54) qh_cX11_findOrder rfl rfl
theorem dX11_findOrder_126 : decode cX11_findOrder 126 = .ok (.getfield 343, 3) := dqn_180 (k := 51) qh_cX11_findOrder rfl rfl rfl
theorem dX11_findOrder_129 : decode cX11_findOrder 129 = .ok (.lcmp, 1) := dqn_148 (k := 50) qh_cX11_findOrder rfl rfl
theorem dX11_findOrder_130 : decode cX11_findOrder 130 = .ok (.ifCond .ge 43, 3) := dqn_156 (k := 47) (u := 43) qh_cX11_findOrder rfl rfl rfl (sg_p rfl rfl)
theorem dX11_findOrder_133 : decode cX11_findOrder 133 = .ok (.iconst 1, 1) := dqn_4 (k := 46) qh_cX11_findOrder rfl rfl
theorem dX11_findOrder_134 : decode cX11_findOrder 134 = .ok (.istore_n 2, 1) := dqn_61 (k := 45) qh_cX11_findOrder rfl rfl
theorem dX11_findOrder_135 : decode cX11_findOrder 135 = .ok (.aload_n 0, 1) := dqn_42 (k := 44) qh_cX11_findOrder rfl rfl
theorem dX11_findOrder_136 : decode cX11_findOrder 136 = .ok (.lload 6, 2) := dqn_22 (k := 42) qh_cX11_findOrder rfl rfl rfl
theorem dX11_findOrder_138 : decode cX11_findOrder 138 = .ok (.putfield 343, 3) := dqn_181 (k := 39) qh_cX11_findOrder rfl rfl rfl
theorem dX11_findOrder_141 : decode cX11_findOrder 141 = .ok (.iconst 0, 1) := dqn_3 (k := 38) qh_cX11_findOrder rfl rfl
theorem dX11_findOrder_142 : decode cX11_findOrder 142 = .ok (.istore 8, 2) := dqn_54 (k := 36) qh_cX11_findOrder rfl rfl rfl
theorem dX11_findOrder_144 : decode cX11_findOrder 144 = .ok (.iload 8, 2) := dqn_21 (k := 34) qh_cX11_findOrder rfl rfl rfl
theorem dX11_findOrder_146 : decode cX11_findOrder 146 = .ok (.aload_n 0, 1) := dqn_42 (k := 33) qh_cX11_findOrder rfl rfl
theorem dX11_findOrder_147 : decode cX11_findOrder 147 = .ok (.getfield 337, 3) := dqn_180 (k := 30) qh_cX11_findOrder rfl rfl rfl
theorem dX11_findOrder_150 : decode cX11_findOrder 150 = .ok (.if_icmp .ge 23, 3) := dqn_162 (k := 27) (u := 23) qh_cX11_findOrder rfl rfl rfl (sg_p rfl rfl)
theorem dX11_findOrder_153 : decode cX11_findOrder 153 = .ok (.aload_n 0, 1) := dqn_42 (k := 26) qh_cX11_findOrder rfl rfl
theorem dX11_findOrder_154 : decode cX11_findOrder 154 = .ok (.getfield 63, 3) := dqn_180 (k := 23) qh_cX11_findOrder rfl rfl rfl
theorem dX11_findOrder_157 : decode cX11_findOrder 157 = .ok (.iload 8, 2) := dqn_21 (k := 21) qh_cX11_findOrder rfl rfl rfl
theorem dX11_findOrder_159 : decode cX11_findOrder 159 = .ok (.aload_n 0, 1) := dqn_42 (k := 20) qh_cX11_findOrder rfl rfl
theorem dX11_findOrder_160 : decode cX11_findOrder 160 = .ok (.getfield 60, 3) := dqn_180 (k := 17) qh_cX11_findOrder rfl rfl rfl
theorem dX11_findOrder_163 : decode cX11_findOrder 163 = .ok (.iload 8, 2) := dqn_21 (k := 15) qh_cX11_findOrder rfl rfl rfl
theorem dX11_findOrder_165 : decode cX11_findOrder 165 = .ok (.iaload, 1) := dqn_46 (k := 14) qh_cX11_findOrder rfl rfl
theorem dX11_findOrder_166 : decode cX11_findOrder 166 = .ok (.iastore, 1) := dqn_79 (k := 13) qh_cX11_findOrder rfl rfl
theorem dX11_findOrder_167 : decode cX11_findOrder 167 = .ok (.iinc 8 1, 3) := dqn_132 (k := 10) (u := 1) qh_cX11_findOrder rfl rfl rfl rfl (by decide)
theorem dX11_findOrder_170 : decode cX11_findOrder 170 = .ok (.goto (-26), 3) := dqn_167 (k := 7) (u := 65510) qh_cX11_findOrder rfl rfl rfl (sg_n (k := 26) rfl rfl rfl)
theorem dX11_findOrder_173 : decode cX11_findOrder 173 = .ok (.iinc 3 1, 3) := dqn_132 (k := 4) (u := 1) qh_cX11_findOrder rfl rfl rfl rfl (by decide)
theorem dX11_findOrder_176 : decode cX11_findOrder 176 = .ok (.goto (-164), 3) := dqn_167 (k := 1) (u := 65372) qh_cX11_findOrder rfl rfl rfl (sg_n (k := 164) rfl rfl rfl)
theorem dX11_findOrder_179 : decode cX11_findOrder 179 = .ok (.return_, 1) := dqn_177 (k := 0) qh_cX11_findOrder rfl rfl
theorem dX11_isFilled_0 : decode cX11_isFilled 0 = .ok (.aload_n 0, 1) := dqn_42 (k := 34) qh_cX11_isFilled rfl rfl
theorem dX11_isFilled_1 : decode cX11_isFilled 1 = .ok (.iload_n 1, 1) := dqn_27 (k := 33) qh_cX11_isFilled rfl rfl
theorem dX11_isFilled_2 : decode cX11_isFilled 2 = .ok (.iload_n 2, 1) := dqn_28 (k := 32) qh_cX11_isFilled rfl rfl
theorem dX11_isFilled_3 : decode cX11_isFilled 3 = .ok (.invokevirtual 240, 3) := dqn_182 (k := 29) qh_cX11_isFilled rfl rfl rfl
theorem dX11_isFilled_6 : decode cX11_isFilled 6 = .ok (.ifCond .eq 27, 3) := dqn_153 (k := 26) (u := 27) qh_cX11_isFilled rfl rfl rfl (sg_p rfl rfl)
theorem dX11_isFilled_9 : decode cX11_isFilled 9 = .ok (.aload_n 0, 1) := dqn_42 (k := 25) qh_cX11_isFilled rfl rfl
theorem dX11_isFilled_10 : decode cX11_isFilled 10 = .ok (.iload_n 3, 1) := dqn_29 (k := 24) qh_cX11_isFilled rfl rfl
theorem dX11_isFilled_11 : decode cX11_isFilled 11 = .ok (.invokevirtual 268, 3) := dqn_182 (k := 21) qh_cX11_isFilled rfl rfl rfl
theorem dX11_isFilled_14 : decode cX11_isFilled 14 = .ok (.ifCond .eq 19, 3) := dqn_153 (k := 18) (u := 19) qh_cX11_isFilled rfl rfl rfl (sg_p rfl rfl)
theorem dX11_isFilled_17 : decode cX11_isFilled 17 = .ok (.iload_n 3, 1) := dqn_29 (k := 17) qh_cX11_isFilled rfl rfl
theorem dX11_isFilled_18 : decode cX11_isFilled 18 = .ok (.invokestatic 305, 3) := dqn_184 (k := 14) qh_cX11_isFilled rfl rfl rfl
theorem dX11_isFilled_21 : decode cX11_isFilled 21 = .ok (.iconst 1, 1) := dqn_4 (k := 13) qh_cX11_isFilled rfl rfl
theorem dX11_isFilled_22 : decode cX11_isFilled 22 = .ok (.iconst 4, 1) := dqn_7 (k := 12) qh_cX11_isFilled rfl rfl
theorem dX11_isFilled_23 : decode cX11_isFilled 23 = .ok (.invokestatic 78, 3) := dqn_184 (k := 9) qh_cX11_isFilled rfl rfl rfl
theorem dX11_isFilled_26 : decode cX11_isFilled 26 = .ok (.ifCond .eq 7, 3) := dqn_153 (k := 6) (u := 7) qh_cX11_isFilled rfl rfl rfl (sg_p rfl rfl)
theorem dX11_isFilled_29 : decode cX11_isFilled 29 = .ok (.iconst 1, 1) := dqn_4 (k := 5) qh_cX11_isFilled rfl rfl
theorem dX11_isFilled_30 : decode cX11_isFilled 30 = .ok (.goto 4, 3) := dqn_167 (k := 2) (u := 4) qh_cX11_isFilled rfl rfl rfl (sg_p rfl rfl)
theorem dX11_isFilled_33 : decode cX11_isFilled 33 = .ok (.iconst 0, 1) := dqn_3 (k := 1) qh_cX11_isFilled rfl rfl
theorem dX11_isFilled_34 : decode cX11_isFilled 34 = .ok (.ireturn, 1) := dqn_172 (k := 0) qh_cX11_isFilled rfl rfl
theorem dX11_may_0 : decode cX11_may 0 = .ok (.aload_n 0, 1) := dqn_42 (k := 79) qh_cX11_may rfl rfl
theorem dX11_may_1 : decode cX11_may 1 = .ok (.iconst 0, 1) := dqn_3 (k := 78) qh_cX11_may rfl rfl
theorem dX11_may_2 : decode cX11_may 2 = .ok (.putfield 70, 3) := dqn_181 (k := 75) qh_cX11_may rfl rfl rfl
theorem dX11_may_5 : decode cX11_may 5 = .ok (.aload_n 0, 1) := dqn_42 (k := 74) qh_cX11_may rfl rfl
theorem dX11_may_6 : decode cX11_may 6 = .ok (.iload_n 1, 1) := dqn_27 (k := 73) qh_cX11_may rfl rfl
theorem dX11_may_7 : decode cX11_may 7 = .ok (.iload_n 2, 1) := dqn_28 (k := 72) qh_cX11_may rfl rfl
theorem dX11_may_8 : decode cX11_may 8 = .ok (.iload_n 3, 1) := dqn_29 (k := 71) qh_cX11_may rfl rfl
theorem dX11_may_9 : decode cX11_may 9 = .ok (.invokevirtual 346, 3) := dqn_182 (k := 68) qh_cX11_may rfl rfl rfl
theorem dX11_may_12 : decode cX11_may 12 = .ok (.ifCond .ne 7, 3) := dqn_154 (k := 65) (u := 7) qh_cX11_may rfl rfl rfl (sg_p rfl rfl)
theorem dX11_may_15 : decode cX11_may 15 = .ok (.ldc2_w 292, 3) := dqn_20 (k := 62) qh_cX11_may rfl rfl rfl
theorem dX11_may_18 : decode cX11_may 18 = .ok (.lreturn, 1) := dqn_173 (k := 61) qh_cX11_may rfl rfl
theorem dX11_may_19 : decode cX11_may 19 = .ok (.iload 4, 2) := dqn_21 (k := 59) qh_cX11_may rfl rfl rfl
theorem dX11_may_21 : decode cX11_may 21 = .ok (.ifCond .ne 13, 3) := dqn_154 (k := 56) (u := 13) qh_cX11_may rfl rfl rfl (sg_p rfl rfl)
theorem dX11_may_24 : decode cX11_may 24 = .ok (.aload_n 0, 1) := dqn_42 (k := 55) qh_cX11_may rfl rfl
theorem dX11_may_25 : decode cX11_may 25 = .ok (.iload_n 3, 1) := dqn_29 (k := 54) qh_cX11_may rfl rfl
theorem dX11_may_26 : decode cX11_may 26 = .ok (.invokevirtual 349, 3) := dqn_182 (k := 51) qh_cX11_may rfl rfl rfl
theorem dX11_may_29 : decode cX11_may 29 = .ok (.aload_n 0, 1) := dqn_42 (k := 50) qh_cX11_may rfl rfl
theorem dX11_may_30 : decode cX11_may 30 = .ok (.getfield 343, 3) := dqn_180 (k := 47) qh_cX11_may rfl rfl rfl
theorem dX11_may_33 : decode cX11_may 33 = .ok (.lreturn, 1) := dqn_173 (k := 46) qh_cX11_may rfl rfl
theorem dX11_may_34 : decode cX11_may 34 = .ok (.iconst 0, 1) := dqn_3 (k := 45) qh_cX11_may rfl rfl
theorem dX11_may_35 : decode cX11_may 35 = .ok (.istore 5, 2) := dqn_54 (k := 43) qh_cX11_may rfl rfl rfl
theorem dX11_may_37 : decode cX11_may 37 = .ok (.bipush 8, 2) := dqn_16 (k := 41) (u := 8) qh_cX11_may rfl rfl rfl (by decide)
theorem dX11_may_39 : decode cX11_may 39 = .ok (.istore 6, 2) := dqn_54 (k := 39) qh_cX11_may rfl rfl rfl
theorem dX11_may_41 : decode cX11_may 41 = .ok (.iload 6, 2) := dqn_21 (k := 37) qh_cX11_may rfl rfl rfl
theorem dX11_may_43 : decode cX11_may 43 = .ok (.ifCond .lt 30, 3) := dqn_155 (k := 34) (u := 30) qh_cX11_may rfl rfl rfl (sg_p rfl rfl)
theorem dX11_may_46 : decode cX11_may 46 = .ok (.iload_n 3, 1) := dqn_29 (k := 33) qh_cX11_may rfl rfl
theorem dX11_may_47 : decode cX11_may 47 = .ok (.iload 6, 2) := dqn_21 (k := 31) qh_cX11_may rfl rfl rfl
theorem dX11_may_49 : decode cX11_may 49 = .ok (.invokestatic 249, 3) := dqn_184 (k := 28) qh_cX11_may rfl rfl rfl
theorem dX11_may_52 : decode cX11_may 52 = .ok (.ifCond .eq 15, 3) := dqn_153 (k := 25) (u := 15) qh_cX11_may rfl rfl rfl (sg_p rfl rfl)
theorem dX11_may_55 : decode cX11_may 55 = .ok (.aload_n 0, 1) := dqn_42 (k := 24) qh_cX11_may rfl rfl
theorem dX11_may_56 : decode cX11_may 56 = .ok (.getfield 60, 3) := dqn_180 (k := 21) qh_cX11_may rfl rfl rfl
theorem dX11_may_59 : decode cX11_may 59 = .ok (.iload 5, 2) := dqn_21 (k := 19) qh_cX11_may rfl rfl rfl
theorem dX11_may_61 : decode cX11_may 61 = .ok (.iload 6, 2) := dqn_21 (k := 17) qh_cX11_may rfl rfl rfl
theorem dX11_may_63 : decode cX11_may 63 = .ok (.iastore, 1) := dqn_79 (k := 16) qh_cX11_may rfl rfl
theorem dX11_may_64 : decode cX11_may 64 = .ok (.iinc 5 1, 3) := dqn_132 (k := 13) (u := 1) qh_cX11_may rfl rfl rfl rfl (by decide)
theorem dX11_may_67 : decode cX11_may 67 = .ok (.iinc 6 (-1), 3) := dqn_132 (k := 10) (u := 255) qh_cX11_may rfl rfl rfl rfl (by decide)
theorem dX11_may_70 : decode cX11_may 70 = .ok (.goto (-29), 3) := dqn_167 (k := 7) (u := 65507) qh_cX11_may rfl rfl rfl (sg_n (k := 29) rfl rfl rfl)
theorem dX11_may_73 : decode cX11_may 73 = .ok (.aload_n 0, 1) := dqn_42 (k := 6) qh_cX11_may rfl rfl
theorem dX11_may_74 : decode cX11_may 74 = .ok (.iload 5, 2) := dqn_21 (k := 4) qh_cX11_may rfl rfl rfl
theorem dX11_may_76 : decode cX11_may 76 = .ok (.invokevirtual 340, 3) := dqn_182 (k := 1) qh_cX11_may rfl rfl rfl
theorem dX11_may_79 : decode cX11_may 79 = .ok (.lreturn, 1) := dqn_173 (k := 0) qh_cX11_may rfl rfl
theorem dX11_order_0 : decode cX11_order 0 = .ok (.aload_n 0, 1) := dqn_42 (k := 44) qh_cX11_order rfl rfl
theorem dX11_order_1 : decode cX11_order 1 = .ok (.iconst 0, 1) := dqn_3 (k := 43) qh_cX11_order rfl rfl
theorem dX11_order_2 : decode cX11_order 2 = .ok (.putfield 70, 3) := dqn_181 (k := 40) qh_cX11_order rfl rfl rfl
theorem dX11_order_5 : decode cX11_order 5 = .ok (.aload_n 0, 1) := dqn_42 (k := 39) qh_cX11_order rfl rfl
theorem dX11_order_6 : decode cX11_order 6 = .ok (.iload_n 1, 1) := dqn_27 (k := 38) qh_cX11_order rfl rfl
theorem dX11_order_7 : decode cX11_order 7 = .ok (.iload_n 2, 1) := dqn_28 (k := 37) qh_cX11_order rfl rfl
theorem dX11_order_8 : decode cX11_order 8 = .ok (.iload_n 3, 1) := dqn_29 (k := 36) qh_cX11_order rfl rfl
theorem dX11_order_9 : decode cX11_order 9 = .ok (.invokevirtual 346, 3) := dqn_182 (k := 33) qh_cX11_order rfl rfl rfl
theorem dX11_order_12 : decode cX11_order 12 = .ok (.ifCond .eq 18, 3) := dqn_153 (k := 30) (u := 18) qh_cX11_order rfl rfl rfl (sg_p rfl rfl)
theorem dX11_order_15 : decode cX11_order 15 = .ok (.iload 4, 2) := dqn_21 (k := 28) qh_cX11_order rfl rfl rfl
theorem dX11_order_17 : decode cX11_order 17 = .ok (.iconst 0, 1) := dqn_3 (k := 27) qh_cX11_order rfl rfl
theorem dX11_order_18 : decode cX11_order 18 = .ok (.iload_n 3, 1) := dqn_29 (k := 26) qh_cX11_order rfl rfl
theorem dX11_order_19 : decode cX11_order 19 = .ok (.invokestatic 305, 3) := dqn_184 (k := 23) qh_cX11_order rfl rfl rfl
theorem dX11_order_22 : decode cX11_order 22 = .ok (.iconst 1, 1) := dqn_4 (k := 22) qh_cX11_order rfl rfl
theorem dX11_order_23 : decode cX11_order 23 = .ok (.isub, 1) := dqn_100 (k := 21) qh_cX11_order rfl rfl
theorem dX11_order_24 : decode cX11_order 24 = .ok (.invokestatic 78, 3) := dqn_184 (k := 18) qh_cX11_order rfl rfl rfl
theorem dX11_order_27 : decode cX11_order 27 = .ok (.ifCond .ne 5, 3) := dqn_154 (k := 15) (u := 5) qh_cX11_order rfl rfl rfl (sg_p rfl rfl)
theorem dX11_order_30 : decode cX11_order 30 = .ok (.iconst (-1), 1) := dqn_2 (k := 14) qh_cX11_order rfl rfl
theorem dX11_order_31 : decode cX11_order 31 = .ok (.ireturn, 1) := dqn_172 (k := 13) qh_cX11_order rfl rfl
theorem dX11_order_32 : decode cX11_order 32 = .ok (.aload_n 0, 1) := dqn_42 (k := 12) qh_cX11_order rfl rfl
theorem dX11_order_33 : decode cX11_order 33 = .ok (.iload_n 3, 1) := dqn_29 (k := 11) qh_cX11_order rfl rfl
theorem dX11_order_34 : decode cX11_order 34 = .ok (.invokevirtual 349, 3) := dqn_182 (k := 8) qh_cX11_order rfl rfl rfl
theorem dX11_order_37 : decode cX11_order 37 = .ok (.aload_n 0, 1) := dqn_42 (k := 7) qh_cX11_order rfl rfl
theorem dX11_order_38 : decode cX11_order 38 = .ok (.getfield 63, 3) := dqn_180 (k := 4) qh_cX11_order rfl rfl rfl
theorem dX11_order_41 : decode cX11_order 41 = .ok (.iload 4, 2) := dqn_21 (k := 2) qh_cX11_order rfl rfl rfl
theorem dX11_order_43 : decode cX11_order 43 = .ok (.iaload, 1) := dqn_46 (k := 1) qh_cX11_order rfl rfl
theorem dX11_order_44 : decode cX11_order 44 = .ok (.ireturn, 1) := dqn_172 (k := 0) qh_cX11_order rfl rfl
set_option maxHeartbeats 4000000 in
set_option maxRecDepth 100000 in
theorem c_M_draw100 {d : Nat} {u : Nat → Nat → Int32} {g : Nat → Nat → Int64} {ex : List MC}  (hd : 0 ≤ d)  : CT con0 d 0 0 yX11_draw cX11_draw 2 (some .int) [.ref 162, .int 100] (Wd u g ex) (fun r h2 => ∃ (z : Int32) (u2 : Nat → Nat → Int32), r = some (.int z) ∧ h2 = Wd u2 g ex ∧ Bd 0 99 z ∧ (∀ c, c ≠ 162 → u2 c = u c) ∧ (∀ j, j ≠ 41 → u2 162 j = u 162 j)) := by
  refine CT_of (by decide) (Nat.le_of_ble_eq_true rfl) (fun x hq => ?_)
  show J x yX11_draw cX11_draw 2 (some .int) d 0 0 (Wd u g ex).length 0 [(0, .ref 162), (1, .int 100)] [] (Wd u g ex) 0 0
  refine J_aload_n (i := 0) (j := 0) dX11_draw_0 rfl rfl ?_
  refine J_aload_n (i := 0) (j := 0) dX11_draw_1 rfl rfl ?_
  refine J_get (C := RX11) (T := TX11) (Z := 43) (ci := 11) (f := 41) dX11_draw_2 inG11 rfl (by decide) k1305 wc_162 rfl ?_
  refine J_ldcw (v := 1103515245) dX11_draw_5 k1726 ?_
  refine J_imul dX11_draw_8 ?_
  refine J_sipush (v := 12345) dX11_draw_9 (by decide) ?_
  refine J_iadd dX11_draw_12 ?_
  obtain ⟨u1, e2⟩ : ∃ z, z = ms u 162 41 (((u 162 41) * 1103515245) + 12345) := ⟨_, rfl⟩
  refine J_put (C := RX11) (T := TX11) (Z := 43) (ci := 11) (f := 41) (ty0 := tyX11) dX11_draw_13 inG11 rfl tyX11_ok nmX11 (by decide) k1305 rfl rfl wc_162 (Nat.le_of_ble_eq_true rfl) (fun _ _ => ⟨rfl, rfl⟩) (ws e2 wk_162 rfl) ?_
  refine J_aload_n (i := 0) (j := 0) dX11_draw_16 rfl rfl ?_
  refine J_get (C := RX11) (T := TX11) (Z := 43) (ci := 11) (f := 41) dX11_draw_17 inG11 rfl (by decide) k1305 wc_162 rfl ?_
  refine J_ci (v := (((u 162 41) * 1103515245) + 12345)) (ms_e e2) ?_
  refine J_bipush (v := 16) dX11_draw_20 (by decide) ?_
  obtain ⟨v3, qv3⟩ : ∃ z : Int32, z = ((((u 162 41) * 1103515245) + 12345).toUInt32 >>> ((16 : Int32).toUInt32 &&& Int32.toUInt32 31)).toInt32 := ⟨_, rfl⟩
  refine J_iushr dX11_draw_22 qv3.symm ?_
  refine J_iload_n (i := 1) (j := 1) dX11_draw_23 rfl rfl ?_
  refine J_irem dX11_draw_24 (by decide) ?_
  exact J_iret hq dX11_draw_25 rfl wlen (Nat.le_refl _) (Nat.le_refl _) ⟨(v3 - v3 / 100 * 100), u1, rfl, rfl, (bd_rem (c := 100) (bd_ush qv3) (by decide)), (fun c k0_ => (ms_c e2 k0_)), (fun j k41_ => (ms_i e2 k41_))⟩
set_option maxHeartbeats 4000000 in
set_option maxRecDepth 100000 in
theorem c_M_draw10 {d : Nat} {u : Nat → Nat → Int32} {g : Nat → Nat → Int64} {ex : List MC}  (hd : 0 ≤ d)  : CT con0 d 0 0 yX11_draw cX11_draw 2 (some .int) [.ref 162, .int 10] (Wd u g ex) (fun r h2 => ∃ (z : Int32) (u2 : Nat → Nat → Int32), r = some (.int z) ∧ h2 = Wd u2 g ex ∧ Bd 0 9 z ∧ (∀ c, c ≠ 162 → u2 c = u c) ∧ (∀ j, j ≠ 41 → u2 162 j = u 162 j)) := by
  refine CT_of (by decide) (Nat.le_of_ble_eq_true rfl) (fun x hq => ?_)
  show J x yX11_draw cX11_draw 2 (some .int) d 0 0 (Wd u g ex).length 0 [(0, .ref 162), (1, .int 10)] [] (Wd u g ex) 0 0
  refine J_aload_n (i := 0) (j := 0) dX11_draw_0 rfl rfl ?_
  refine J_aload_n (i := 0) (j := 0) dX11_draw_1 rfl rfl ?_
  refine J_get (C := RX11) (T := TX11) (Z := 43) (ci := 11) (f := 41) dX11_draw_2 inG11 rfl (by decide) k1305 wc_162 rfl ?_
  refine J_ldcw (v := 1103515245) dX11_draw_5 k1726 ?_
  refine J_imul dX11_draw_8 ?_
  refine J_sipush (v := 12345) dX11_draw_9 (by decide) ?_
  refine J_iadd dX11_draw_12 ?_
  obtain ⟨u1, e2⟩ : ∃ z, z = ms u 162 41 (((u 162 41) * 1103515245) + 12345) := ⟨_, rfl⟩
  refine J_put (C := RX11) (T := TX11) (Z := 43) (ci := 11) (f := 41) (ty0 := tyX11) dX11_draw_13 inG11 rfl tyX11_ok nmX11 (by decide) k1305 rfl rfl wc_162 (Nat.le_of_ble_eq_true rfl) (fun _ _ => ⟨rfl, rfl⟩) (ws e2 wk_162 rfl) ?_
  refine J_aload_n (i := 0) (j := 0) dX11_draw_16 rfl rfl ?_
  refine J_get (C := RX11) (T := TX11) (Z := 43) (ci := 11) (f := 41) dX11_draw_17 inG11 rfl (by decide) k1305 wc_162 rfl ?_
  refine J_ci (v := (((u 162 41) * 1103515245) + 12345)) (ms_e e2) ?_
  refine J_bipush (v := 16) dX11_draw_20 (by decide) ?_
  obtain ⟨v3, qv3⟩ : ∃ z : Int32, z = ((((u 162 41) * 1103515245) + 12345).toUInt32 >>> ((16 : Int32).toUInt32 &&& Int32.toUInt32 31)).toInt32 := ⟨_, rfl⟩
  refine J_iushr dX11_draw_22 qv3.symm ?_
  refine J_iload_n (i := 1) (j := 1) dX11_draw_23 rfl rfl ?_
  refine J_irem dX11_draw_24 (by decide) ?_
  exact J_iret hq dX11_draw_25 rfl wlen (Nat.le_refl _) (Nat.le_refl _) ⟨(v3 - v3 / 10 * 10), u1, rfl, rfl, (bd_rem (c := 10) (bd_ush qv3) (by decide)), (fun c k0_ => (ms_c e2 k0_)), (fun j k41_ => (ms_i e2 k41_))⟩
set_option maxHeartbeats 4000000 in
set_option maxRecDepth 100000 in
theorem c_M_year {d : Nat} {u : Nat → Nat → Int32} {g : Nat → Nat → Int64} {ex : List MC}  (hd : 4 ≤ d) (hp0 : Bd 0 9 (u 162 22)) (hp1 : (DN u)) (hp2 : (RC u)) (hp3 : Bd 0 511 (u 162 31)) : CT con0 d 0 0 yX11_year cX11_year 5 none [.ref 162] (Wd u g ex) (fun r h2 => ∃ (u2 : Nat → Nat → Int32), r = none ∧ h2 = Wd u2 g ex ∧ Bd 0 511 (u2 162 31) ∧ (∀ c, nin c [(162, 162), (173, 175)] = true → u2 c = u c) ∧ (∀ j, j ≠ 31 → j ≠ 32 → j ≠ 33 → j ≠ 41 → u2 162 j = u 162 j)) := by
  refine CT_of (by decide) (Nat.le_of_ble_eq_true rfl) (fun x hq => ?_)
  show J x yX11_year cX11_year 5 none d 0 0 (Wd u g ex).length 0 [(0, .ref 162)] [] (Wd u g ex) 0 0
  refine J_aload_n (i := 0) (j := 0) dX11_year_0 rfl rfl ?_
  refine J_bipush (v := 100) dX11_year_1 (by decide) ?_
  refine J_callV (As := [.int 100]) (rest := []) dX11_year_3 (c_M_draw100 (d := 0) (u := u) (g := g) (ex := ex)   (by decide) ) hq.n k1722 k1724 k82 wc_162 rfl rfl k97 k1725 np_X11_draw (Nat.le_trans (by decide) hd) (by decide) (Nat.le_refl _) (Nat.le_refl _) wlen rfl (Nat.le_of_ble_eq_true rfl) (fun r_ h_ p1 => ?_)
  obtain ⟨v2, u3, rfl, rfl, h4, fr5, fc6⟩ := p1
  refine J_istore_n (i := 1) (lw := [(1, .int v2), (0, .ref 162)]) dX11_year_6 rfl (by decide) rfl ?_
  refine J_iconst (v := 0) dX11_year_7 (by decide) ?_
  refine J_istore_n (i := 2) (lw := [(2, .int 0), (1, .int v2), (0, .ref 162)]) dX11_year_8 rfl (by decide) rfl ?_
  have lp656 : ∀ (n657 : Nat) (w493 : Int32) (w494 : Int32), Bd 0 3 w494 → YI u3 w494 w493 → (3 - w494.toInt).toNat < n657 → J x yX11_year cX11_year 5 none d 0 0 (Wd u g ex).length 9 [(0, .ref 162), (1, .int w493), (2, .int w494)] [] (Wd u3 g ex) 0 0 := by
    intro n657
    induction n657 with
    | zero => intro w493 w494 bw494 hI660 hm659; exact absurd hm659 (Nat.not_lt_zero _)
    | succ n657 ih658 =>
      intro w493 w494 bw494 hI660 hm659
      refine J_iload_n (i := 1) (j := 1) dX11_year_9 rfl rfl ?_
      refine J_aload_n (i := 0) (j := 0) dX11_year_10 rfl rfl ?_
      refine J_get (C := RX11) (T := TX11) (Z := 43) (ci := 11) (f := 21) dX11_year_11 inG11 rfl (by decide) k1285 wc_162 rfl ?_
      refine J_iconst (v := 5) dX11_year_14 (by decide) ?_
      refine J_iconst (v := 2) dX11_year_15 (by decide) ?_
      refine J_iload_n (i := 2) (j := 2) dX11_year_16 rfl rfl ?_
      refine J_imul dX11_year_17 ?_
      refine J_iadd dX11_year_18 ?_
      refine J_iconst (v := 1) dX11_year_19 (by decide) ?_
      refine J_iadd dX11_year_20 ?_
      refine J_iald dX11_year_21 wc_172 (vin (bd_add (l := 6) (h := 12) (bd_add (l := 5) (h := 11) (bd_c (v := 5) (lo := 5) (hi := 5) (by decide)) (bd_mul (l := 0) (h := 6) (bd_c (v := 2) (lo := 2) (hi := 2) (by decide)) (yi_b hI660) (by decide)) (by decide)) (bd_c (v := 1) (lo := 1) (hi := 1) (by decide)) (by decide)) (by decide)) ?_
      refine J_topi (fun v661 qv661 => ?_)
      refine J_icmp_lt (tgt := 46) dX11_year_22 (by decide) (fun c662 => ?_) (fun c662 => ?_)
      · refine J_iconst (v := 0) dX11_year_46 (by decide) ?_
        refine J_istore_n (i := 3) (lw := [(3, .int 0), (0, .ref 162), (1, .int w493), (2, .int w494)]) dX11_year_47 rfl (by decide) rfl ?_
        refine J_iconst (v := 0) dX11_year_48 (by decide) ?_
        refine J_istore (i := 4) (lw := [(4, .int 0), (3, .int 0), (0, .ref 162), (1, .int w493), (2, .int w494)]) dX11_year_49 (by decide) rfl ?_
        have lp791 : ∀ (n792 : Nat) (w758 : Int32) (w759 : Int32) (u760 : Nat → Nat → Int32), Bd 0 511 w758 → Bd 0 9 w759 → (∀ c, c ≠ 162 → u760 c = u3 c) → (∀ j, j ≠ 41 → u760 162 j = u3 162 j) → (9 - w759.toInt).toNat < n792 → J x yX11_year cX11_year 5 none d 0 0 (Wd u g ex).length 51 [(0, .ref 162), (2, .int w494), (3, .int w758), (4, .int w759)] [] (Wd u760 g ex) 0 0 := by
          intro n792
          induction n792 with
          | zero => intro w758 w759 u760 bw758 bw759 fr761 fc762 hm794; exact absurd hm794 (Nat.not_lt_zero _)
          | succ n792 ih793 =>
            intro w758 w759 u760 bw758 bw759 fr761 fc762 hm794
            refine J_iload (i := 4) (j := 3) dX11_year_51 rfl ?_
            refine J_aload_n (i := 0) (j := 0) dX11_year_53 rfl rfl ?_
            refine J_get (C := RX11) (T := TX11) (Z := 43) (ci := 11) (f := 22) dX11_year_54 inG11 rfl (by decide) k1286 wc_162 rfl ?_
            refine J_ci (v := u 162 22) ((fc762 22 (Nat.ne_of_beq_eq_false rfl)).trans (fc6 22 (Nat.ne_of_beq_eq_false rfl))) ?_
            refine J_icmp_ge (tgt := 93) dX11_year_57 (by decide) (fun c795 => ?_) (fun c795 => ?_)
            · refine J_aload_n (i := 0) (j := 0) dX11_year_93 rfl rfl ?_
              refine J_aload_n (i := 0) (j := 0) dX11_year_94 rfl rfl ?_
              refine J_iload_n (i := 2) (j := 1) dX11_year_95 rfl rfl ?_
              refine J_callV (As := [.int w494]) (rest := [.ref 162]) dX11_year_96 (c_M_stepsOf (d := 0) (u := u760) (g := g) (ex := ex) (rain := w494)  (by decide) (bd_w (l := 0) (h := 75) (yi_b hI660) (by decide))) hq.n k1547 k1549 k60 wc_162 rfl rfl k97 k1550 np_X11_stepsOf (Nat.le_trans (by decide) hd) (by decide) (Nat.le_refl _) (Nat.le_refl _) wlen rfl (Nat.le_of_ble_eq_true rfl) (fun r_ h_ p806 => ?_)
              obtain ⟨v807, rfl, rfl⟩ := p806
              refine J_iload_n (i := 3) (j := 2) dX11_year_99 rfl rfl ?_
              refine J_callV (As := [.int v807, .int w758]) (rest := []) dX11_year_100 (c_M_blow (d := 3) (u := u760) (g := g) (ex := ex) (steps := v807) (banks := w758)  (by decide) (bd_r ((fc762 22 (Nat.ne_of_beq_eq_false rfl)).trans (fc6 22 (Nat.ne_of_beq_eq_false rfl))) hp0) (dn_c ((fr761 172 (Nat.ne_of_beq_eq_false rfl)).trans (fr5 172 (Nat.ne_of_beq_eq_false rfl))) hp1)) hq.n k1551 k1553 k61 wc_162 rfl rfl k97 k1554 np_X11_blow (Nat.le_trans (by decide) hd) (by decide) (Nat.le_refl _) (Nat.le_refl _) wlen rfl (Nat.le_of_ble_eq_true rfl) (fun r_ h_ p808 => ?_)
              obtain ⟨u809, rfl, rfl, h810, fr811, fc812⟩ := p808
              exact J_vret hq dX11_year_103 rfl wlen (Nat.le_refl _) (Nat.le_refl _) ⟨u809, rfl, rfl, h810, (fun c k_ => ((fr811 c (nin_sub (M := [(162, 162), (173, 175)]) k_ rfl)).trans ((fr761 c (nin_ne (a := 162) k_ rfl)).trans (fr5 c (nin_ne (a := 162) k_ rfl))))), (fun j k31_ k32_ k33_ k41_ => ((fc812 j k31_ k32_ k33_).trans ((fc762 j k41_).trans (fc6 j k41_))))⟩
            · refine J_iload_n (i := 3) (j := 2) dX11_year_60 rfl rfl ?_
              refine J_aload_n (i := 0) (j := 0) dX11_year_61 rfl rfl ?_
              refine J_bipush (v := 10) dX11_year_62 (by decide) ?_
              refine J_callV (As := [.int 10]) (rest := [.int w758]) dX11_year_64 (c_M_draw10 (d := 0) (u := u760) (g := g) (ex := ex)   (by decide) ) hq.n k1722 k1724 k82 wc_162 rfl rfl k97 k1725 np_X11_draw (Nat.le_trans (by decide) hd) (by decide) (Nat.le_refl _) (Nat.le_refl _) wlen rfl (Nat.le_of_ble_eq_true rfl) (fun r_ h_ p813 => ?_)
              obtain ⟨v814, u815, rfl, rfl, h816, fr817, fc818⟩ := p813
              refine J_aload_n (i := 0) (j := 0) dX11_year_67 rfl rfl ?_
              refine J_iload (i := 4) (j := 3) dX11_year_68 rfl ?_
              refine J_iconst (v := 4) dX11_year_70 (by decide) ?_
              refine J_callV (As := [.int w759, .int 4]) (rest := [.int v814, .int w758]) dX11_year_71 (c_M_of (d := 0) (u := u815) (g := g) (ex := ex) (p := w759) (what := 4)  (by decide) (bd_lt_hi bw759 (i_nle c795) hp0) (bd_w (l := 0) (h := 15) (bd_c (v := 4) (lo := 4) (hi := 4) (by decide)) (by decide))) hq.n k1515 k1517 k55 wc_162 rfl rfl k97 k1518 np_X11_of (Nat.le_trans (by decide) hd) (by decide) (Nat.le_refl _) (Nat.le_refl _) wlen rfl (Nat.le_of_ble_eq_true rfl) (fun r_ h_ p819 => ?_)
              obtain ⟨rfl, rfl⟩ := p819
              refine J_ci (v := (mof u w759 (4 : Int32))) (mof_c ((fr817 172 (Nat.ne_of_beq_eq_false rfl)).trans ((fr761 172 (Nat.ne_of_beq_eq_false rfl)).trans (fr5 172 (Nat.ne_of_beq_eq_false rfl))))) ?_
              have jn822 : ∀ (w821 : Int32), Bd 0 256 w821 → J x yX11_year cX11_year 5 none d 0 0 (Wd u g ex).length 85 [(0, .ref 162), (2, .int w494), (4, .int w759)] [.int w821, .int w758] (Wd u815 g ex) 0 0 := by
                intro w821 bw821
                refine J_ior dX11_year_85 ?_
                refine J_istore_n (i := 3) (lw := [(3, .int (w758 ||| w821)), (0, .ref 162), (2, .int w494), (4, .int w759)]) dX11_year_86 rfl (by decide) rfl ?_
                refine J_iinc (i := 4) (j := 3) (v := (w759 + 1)) (lw := [(4, .int (w759 + 1)), (3, .int (w758 ||| w821)), (0, .ref 162), (2, .int w494)]) dX11_year_87 rfl rfl (by decide) rfl ?_
                refine J_goto (tgt := 51) dX11_year_90 (by decide) ?_
                refine J_lv [2, 3, 1, 0] rfl ?_
                exact ih793 (w758 ||| w821) (w759 + 1) u815 (bd_or (k := 9) (h := 511) bw758 bw821 (by decide)) (bd_w (l := 0) (h := 9) (bd_add (l := 1) (h := 9) (bd_lt_hi bw759 (i_nle c795) hp0) (bd_c (v := 1) (lo := 1) (hi := 1) (by decide)) (by decide)) (by decide)) (fun c k0_ => ((fr817 c k0_).trans (fr761 c k0_))) (fun j k41_ => ((fc818 j k41_).trans (fc762 j k41_))) (mu_up 1 bw759 rfl (by decide) (bd_w (l := 1) (h := 9) (bd_add (l := 1) (h := 9) (bd_lt_hi bw759 (i_nle c795) hp0) (bd_c (v := 1) (lo := 1) (hi := 1) (by decide)) (by decide)) (by decide)) hm794)
              refine J_icmp_ge (tgt := 84) dX11_year_74 (by decide) (fun c820 => ?_) (fun c820 => ?_)
              · refine J_iconst (v := 0) dX11_year_84 (by decide) ?_
                refine J_lv [0, 1, 3] rfl ?_
                exact jn822 (0 : Int32) (bd_w (l := 0) (h := 256) (bd_c (v := 0) (lo := 0) (hi := 0) (by decide)) (by decide))
              · refine J_iconst (v := 1) dX11_year_77 (by decide) ?_
                refine J_iload (i := 4) (j := 3) dX11_year_78 rfl ?_
                refine J_ishl dX11_year_80 ?_
                refine J_goto (tgt := 85) dX11_year_81 (by decide) ?_
                refine J_lv [0, 1, 3] rfl ?_
                exact jn822 ((1 : Int32) <<< (w759 &&& 31)) (bd_w (l := 0) (h := 256) (bd_shl (lo := 0) (hi := 8) (l := 1) (h := 256) (bd_lt_hi bw759 (i_nle c795) hp0) (by decide)) (by decide))
        refine J_lv [2, 4, 1, 0] rfl ?_
        exact lp791 _ (0 : Int32) (0 : Int32) u3 (bd_w (l := 0) (h := 511) (bd_c (v := 0) (lo := 0) (hi := 0) (by decide)) (by decide)) (bd_w (l := 0) (h := 9) (bd_c (v := 0) (lo := 0) (hi := 0) (by decide)) (by decide)) (fun c k0_ => rfl) (fun j k41_ => rfl) (Nat.lt_succ_self _)
      · refine J_iload_n (i := 1) (j := 1) dX11_year_25 rfl rfl ?_
        refine J_aload_n (i := 0) (j := 0) dX11_year_26 rfl rfl ?_
        refine J_get (C := RX11) (T := TX11) (Z := 43) (ci := 11) (f := 21) dX11_year_27 inG11 rfl (by decide) k1285 wc_162 rfl ?_
        refine J_iconst (v := 5) dX11_year_30 (by decide) ?_
        refine J_iconst (v := 2) dX11_year_31 (by decide) ?_
        refine J_iload_n (i := 2) (j := 2) dX11_year_32 rfl rfl ?_
        refine J_imul dX11_year_33 ?_
        refine J_iadd dX11_year_34 ?_
        refine J_iconst (v := 1) dX11_year_35 (by decide) ?_
        refine J_iadd dX11_year_36 ?_
        refine J_iald dX11_year_37 wc_172 (vin (bd_add (l := 6) (h := 12) (bd_add (l := 5) (h := 11) (bd_c (v := 5) (lo := 5) (hi := 5) (by decide)) (bd_mul (l := 0) (h := 6) (bd_c (v := 2) (lo := 2) (hi := 2) (by decide)) (yi_b hI660) (by decide)) (by decide)) (bd_c (v := 1) (lo := 1) (hi := 1) (by decide)) (by decide)) (by decide)) ?_
        refine J_ci (v := v661) qv661.symm ?_
        refine J_isub dX11_year_38 ?_
        refine J_istore_n (i := 1) (lw := [(1, .int (w493 - v661)), (0, .ref 162), (2, .int w494)]) dX11_year_39 rfl (by decide) rfl ?_
        refine J_iinc (i := 2) (j := 2) (v := (w494 + 1)) (lw := [(2, .int (w494 + 1)), (1, .int (w493 - v661)), (0, .ref 162)]) dX11_year_40 rfl rfl (by decide) rfl ?_
        refine J_goto (tgt := 9) dX11_year_43 (by decide) ?_
        have hY823 := yi_s (rc_c (fr5 172 (Nat.ne_of_beq_eq_false rfl)) hp2) hI660 qv661 (i_nlt c662)
        refine J_lv [2, 1, 0] rfl ?_
        exact ih658 (w493 - v661) (w494 + 1) (bd_w (l := 0) (h := 3) (bd_in (l := 1) (h := 3) (bd_add (l := 1) (h := 4) (yi_b hI660) (bd_c (v := 1) (lo := 1) (hi := 1) (by decide)) (by decide)) hY823.2 (by decide)) (by decide)) hY823.1 (mu_up 1 bw494 rfl (by decide) (bd_w (l := 1) (h := 3) (bd_in (l := 1) (h := 3) (bd_add (l := 1) (h := 4) (yi_b hI660) (bd_c (v := 1) (lo := 1) (hi := 1) (by decide)) (by decide)) hY823.2 (by decide)) (by decide)) hm659)
  refine J_lv [2, 1, 0] rfl ?_
  exact lp656 _ v2 (0 : Int32) (bd_w (l := 0) (h := 3) (bd_c (v := 0) (lo := 0) (hi := 0) (by decide)) (by decide)) (yi_0 h4) (Nat.lt_succ_self _)
set_option maxHeartbeats 4000000 in
set_option maxRecDepth 100000 in
theorem c_M_years {d : Nat} {u : Nat → Nat → Int32} {g : Nat → Nat → Int64} {ex : List MC} {hill : Int32} {plan : Int32} {seed : Int32} {n : Int32} {what : Int32} (hd : 5 ≤ d) (hp0 : (MY u)) (hp1 : AB u 168 (-1) 999) (hp2 : (HD u)) (hp3 : (HC u)) (hp4 : (PL u)) (hp5 : (N0 u)) (hp6 : (DN u)) (hp7 : Bd 0 9 (u 162 22)) (hp8 : Bd 0 511 (u 162 31)) (hp9 : AB u 177 (-1) 999) : CT con0 d 0 0 yX11_years cX11_years 12 (some .long) [.ref 162, .int hill, .int plan, .int seed, .int n, .int what] (Wd u g ex) (fun r h2 => ∃ (z : Int64) (u2 : Nat → Nat → Int32), r = some (.long z) ∧ h2 = Wd u2 g ex ∧ Bd 0 9 (u2 162 22) ∧ (DN u2) ∧ (N0 u2) ∧ Bd 0 511 (u2 162 31) ∧ (∀ c, nin c [(162, 162), (172, 175)] = true → u2 c = u c) ∧ (∀ j, j ≠ 0 → j ≠ 22 → j ≠ 23 → j ≠ 24 → j ≠ 25 → j ≠ 26 → j ≠ 27 → j ≠ 31 → j ≠ 32 → j ≠ 33 → j ≠ 41 → u2 162 j = u 162 j)) := by
  refine CT_of (by decide) (Nat.le_of_ble_eq_true rfl) (fun x hq => ?_)
  show J x yX11_years cX11_years 12 (some .long) d 0 0 (Wd u g ex).length 0 [(0, .ref 162), (1, .int hill), (2, .int plan), (3, .int seed), (4, .int n), (5, .int what)] [] (Wd u g ex) 0 0
  refine J_aload_n (i := 0) (j := 0) dX11_years_0 rfl rfl ?_
  refine J_iconst (v := 0) dX11_years_1 (by decide) ?_
  obtain ⟨u1, e2⟩ : ∃ z, z = ms u 162 0 0 := ⟨_, rfl⟩
  refine J_put (C := RX11) (T := TX11) (Z := 43) (ci := 11) (f := 0) (ty0 := tyX11) dX11_years_2 inG11 rfl tyX11_ok nmX11 (by decide) k1264 rfl rfl wc_162 (Nat.le_of_ble_eq_true rfl) (fun _ _ => ⟨rfl, rfl⟩) (ws e2 wk_162 rfl) ?_
  refine J_aload_n (i := 0) (j := 0) dX11_years_5 rfl rfl ?_
  refine J_iload_n (i := 1) (j := 1) dX11_years_6 rfl rfl ?_
  refine J_iload_n (i := 2) (j := 2) dX11_years_7 rfl rfl ?_
  refine J_callV (As := [.int hill, .int plan]) (rest := []) dX11_years_8 (c_M_lay (d := 2) (u := u1) (g := g) (ex := ex) (h := hill) (plan := plan)  (by decide) (my_c (ms_c e2 (Nat.ne_of_beq_eq_false rfl)) hp0) (ab_c (ms_c e2 (Nat.ne_of_beq_eq_false rfl)) hp1) (hd_c (ms_c e2 (Nat.ne_of_beq_eq_false rfl)) hp2) (hc_c (ms_c e2 (Nat.ne_of_beq_eq_false rfl)) (ms_c e2 (Nat.ne_of_beq_eq_false rfl)) hp3) (pl_c (ms_c e2 (Nat.ne_of_beq_eq_false rfl)) hp4) (n0_c (ms_c e2 (Nat.ne_of_beq_eq_false rfl)) hp5) (dn_c (ms_c e2 (Nat.ne_of_beq_eq_false rfl)) hp6) (bd_r (ms_i e2 (Nat.ne_of_beq_eq_false rfl)) hp7)) hq.n k1503 k1505 k52 wc_162 rfl rfl k97 k1506 np_X11_lay (Nat.le_trans (by decide) hd) (by decide) (Nat.le_refl _) (Nat.le_refl _) wlen rfl (Nat.le_of_ble_eq_true rfl) (fun r_ h_ p3 => ?_)
  obtain ⟨t4, u5, rfl, rfl, h6, h7, h8, h9, fr10, fc11⟩ := p3
  refine J_ifB_eq (tgt := 25) dX11_years_11 (by decide) (fun c12 => ?_) (fun c12 => ?_)
  · refine J_ldc2 (v := (-1)) dX11_years_25 k1578 ?_
    exact J_lret hq dX11_years_28 rfl wlen (Nat.le_refl _) (Nat.le_refl _) ⟨((-1) : Int64), u5, rfl, rfl, h6, h7, h8, (bd_r ((fc11 31 (Nat.ne_of_beq_eq_false rfl) (Nat.ne_of_beq_eq_false rfl) (Nat.ne_of_beq_eq_false rfl) (Nat.ne_of_beq_eq_false rfl) (Nat.ne_of_beq_eq_false rfl) (Nat.ne_of_beq_eq_false rfl)).trans (ms_i e2 (Nat.ne_of_beq_eq_false rfl))) hp8), (fun c k_ => ((fr10 c (nin_ne (a := 162) k_ rfl) (nin_ne (a := 172) k_ rfl)).trans (ms_c e2 (nin_ne (a := 162) k_ rfl)))), (fun j k0_ k22_ k23_ k24_ k25_ k26_ k27_ k31_ k32_ k33_ k41_ => ((fc11 j k22_ k23_ k24_ k25_ k26_ k27_).trans (ms_i e2 k0_)))⟩
  · refine J_iload (i := 4) (j := 4) dX11_years_14 rfl ?_
    refine J_iconst (v := 1) dX11_years_16 (by decide) ?_
    refine J_bipush (v := 99) dX11_years_17 (by decide) ?_
    refine J_callS (As := [.int n, .int 1, .int 99]) (rest := []) dX11_years_19 (c_M_in (d := 0) (u := u5) (g := g) (ex := ex) (v := n) (low := 1) (high := 99)  (by decide) ) hq.n k1406 k1407 k97 k1408 np_X11_in (Nat.le_trans (by decide) hd) (by decide) (Nat.le_refl _) (Nat.le_refl _) wlen rfl (Nat.le_of_ble_eq_true rfl) (fun r_ h_ p13 => ?_)
    obtain ⟨t14, rfl, rfl, h15, h16⟩ := p13
    refine J_ifB_ne (tgt := 29) dX11_years_22 (by decide) (fun c17 => ?_) (fun c17 => ?_)
    · refine J_iload (i := 5) (j := 5) dX11_years_29 rfl ?_
      refine J_bipush (v := 10) dX11_years_31 (by decide) ?_
      refine J_bipush (v := 9) dX11_years_33 (by decide) ?_
      refine J_aload_n (i := 0) (j := 0) dX11_years_35 rfl rfl ?_
      refine J_get (C := RX11) (T := TX11) (Z := 43) (ci := 11) (f := 22) dX11_years_36 inG11 rfl (by decide) k1286 wc_162 rfl ?_
      refine J_iadd dX11_years_39 ?_
      refine J_callS (As := [.int what, .int 10, .int ((9 : Int32) + (u5 162 22))]) (rest := []) dX11_years_40 (c_M_in (d := 0) (u := u5) (g := g) (ex := ex) (v := what) (low := 10) (high := ((9 : Int32) + (u5 162 22)))  (by decide) ) hq.n k1406 k1407 k97 k1408 np_X11_in (Nat.le_trans (by decide) hd) (by decide) (Nat.le_refl _) (Nat.le_refl _) wlen rfl (Nat.le_of_ble_eq_true rfl) (fun r_ h_ p18 => ?_)
      obtain ⟨t19, rfl, rfl, h20, h21⟩ := p18
      refine J_istore (i := 6) (lw := [(6, .int (bI t19)), (0, .ref 162), (1, .int hill), (2, .int plan), (3, .int seed), (4, .int n), (5, .int what)]) dX11_years_43 (by decide) rfl ?_
      refine J_iload (i := 6) (j := 0) dX11_years_45 rfl ?_
      refine J_ifB_ne (tgt := 64) dX11_years_47 (by decide) (fun c22 => ?_) (fun c22 => ?_)
      · refine J_aload_n (i := 0) (j := 1) dX11_years_64 rfl rfl ?_
        refine J_iload_n (i := 3) (j := 4) dX11_years_65 rfl rfl ?_
        obtain ⟨u23, e24⟩ : ∃ z, z = ms u5 162 41 seed := ⟨_, rfl⟩
        refine J_put (C := RX11) (T := TX11) (Z := 43) (ci := 11) (f := 41) (ty0 := tyX11) dX11_years_66 inG11 rfl tyX11_ok nmX11 (by decide) k1305 rfl rfl wc_162 (Nat.le_of_ble_eq_true rfl) (fun _ _ => ⟨rfl, rfl⟩) (ws e24 wk_162 rfl) ?_
        refine J_lconst (v := 0) dX11_years_69 (by decide) ?_
        refine J_lstore (i := 7) (lw := [(7, .long 0), (6, .int (bI t19)), (0, .ref 162), (1, .int hill), (2, .int plan), (3, .int seed), (4, .int n), (5, .int what)]) dX11_years_70 (by decide) rfl ?_
        refine J_iconst (v := 0) dX11_years_72 (by decide) ?_
        refine J_istore (i := 9) (lw := [(9, .int 0), (7, .long 0), (6, .int (bI t19)), (0, .ref 162), (1, .int hill), (2, .int plan), (3, .int seed), (4, .int n), (5, .int what)]) dX11_years_73 (by decide) rfl ?_
        refine J_iconst (v := 0) dX11_years_75 (by decide) ?_
        refine J_istore (i := 10) (lw := [(10, .int 0), (9, .int 0), (7, .long 0), (6, .int (bI t19)), (0, .ref 162), (1, .int hill), (2, .int plan), (3, .int seed), (4, .int n), (5, .int what)]) dX11_years_76 (by decide) rfl ?_
        refine J_iconst (v := 0) dX11_years_78 (by decide) ?_
        refine J_istore (i := 11) (lw := [(11, .int 0), (10, .int 0), (9, .int 0), (7, .long 0), (6, .int (bI t19)), (0, .ref 162), (1, .int hill), (2, .int plan), (3, .int seed), (4, .int n), (5, .int what)]) dX11_years_79 (by decide) rfl ?_
        have lp544 : ∀ (n545 : Nat) (w500 : Int64) (w501 : Int32) (w502 : Int32) (w503 : Int32) (u504 : Nat → Nat → Int32), Bd 0 99 w503 → (∀ c, nin c [(162, 162), (173, 175)] = true → u504 c = u23 c) → (∀ j, j ≠ 31 → j ≠ 32 → j ≠ 33 → j ≠ 41 → u504 162 j = u23 162 j) → Bd 0 511 (u504 162 31) → (99 - w503.toInt).toNat < n545 → J x yX11_years cX11_years 12 (some .long) d 0 0 (Wd u g ex).length 81 [(0, .ref 162), (4, .int n), (5, .int what), (6, .int (bI t19)), (7, .long w500), (9, .int w501), (10, .int w502), (11, .int w503)] [] (Wd u504 g ex) 0 0 := by
          intro n545
          induction n545 with
          | zero => intro w500 w501 w502 w503 u504 bw503 fr505 fc506 bm507 hm547; exact absurd hm547 (Nat.not_lt_zero _)
          | succ n545 ih546 =>
            intro w500 w501 w502 w503 u504 bw503 fr505 fc506 bm507 hm547
            refine J_iload (i := 11) (j := 7) dX11_years_81 rfl ?_
            refine J_iload (i := 4) (j := 1) dX11_years_83 rfl ?_
            refine J_icmp_ge (tgt := 156) dX11_years_85 (by decide) (fun c548 => ?_) (fun c548 => ?_)
            · refine J_iload (i := 6) (j := 3) dX11_years_156 rfl ?_
              refine J_ifB_eq (tgt := 167) dX11_years_158 (by decide) (fun q => absurd (c22.symm.trans q) (by decide)) (fun _ => ?_)
              refine J_iload (i := 10) (j := 6) dX11_years_161 rfl ?_
              refine J_i2l dX11_years_163 rfl ?_
              refine J_topl (fun l566 _ => ?_)
              refine J_goto (tgt := 194) dX11_years_164 (by decide) ?_
              exact J_lret hq dX11_years_194 rfl wlen (Nat.le_refl _) (Nat.le_refl _) ⟨l566, u504, rfl, rfl, (bd_r ((fc506 22 (Nat.ne_of_beq_eq_false rfl) (Nat.ne_of_beq_eq_false rfl) (Nat.ne_of_beq_eq_false rfl) (Nat.ne_of_beq_eq_false rfl)).trans (ms_i e24 (Nat.ne_of_beq_eq_false rfl))) h6), (dn_c ((fr505 172 rfl).trans (ms_c e24 (Nat.ne_of_beq_eq_false rfl))) h7), (n0_c ((fr505 172 rfl).trans (ms_c e24 (Nat.ne_of_beq_eq_false rfl))) h8), bm507, (fun c k_ => ((fr505 c (nin_sub (M := [(162, 162), (173, 175)]) k_ rfl)).trans ((ms_c e24 (nin_ne (a := 162) k_ rfl)).trans ((fr10 c (nin_ne (a := 162) k_ rfl) (nin_ne (a := 172) k_ rfl)).trans (ms_c e2 (nin_ne (a := 162) k_ rfl)))))), (fun j k0_ k22_ k23_ k24_ k25_ k26_ k27_ k31_ k32_ k33_ k41_ => ((fc506 j k31_ k32_ k33_ k41_).trans ((ms_i e24 k41_).trans ((fc11 j k22_ k23_ k24_ k25_ k26_ k27_).trans (ms_i e2 k0_)))))⟩
            · refine J_aload_n (i := 0) (j := 0) dX11_years_88 rfl rfl ?_
              refine J_callV (As := []) (rest := []) dX11_years_89 (c_M_year (d := 4) (u := u504) (g := g) (ex := ex)   (by decide) (bd_r ((fc506 22 (Nat.ne_of_beq_eq_false rfl) (Nat.ne_of_beq_eq_false rfl) (Nat.ne_of_beq_eq_false rfl) (Nat.ne_of_beq_eq_false rfl)).trans (ms_i e24 (Nat.ne_of_beq_eq_false rfl))) h6) (dn_c ((fr505 172 rfl).trans (ms_c e24 (Nat.ne_of_beq_eq_false rfl))) h7) (rc_c ((fr505 172 rfl).trans (ms_c e24 (Nat.ne_of_beq_eq_false rfl))) (h9 c12).1) bm507) hq.n k1718 k1720 k81 wc_162 rfl rfl k97 k1721 np_X11_year (Nat.le_trans (by decide) hd) (by decide) (Nat.le_refl _) (Nat.le_refl _) wlen rfl (Nat.le_of_ble_eq_true rfl) (fun r_ h_ p567 => ?_)
              obtain ⟨u568, rfl, rfl, h569, fr570, fc571⟩ := p567
              refine J_lload (i := 7) (j := 4) dX11_years_92 rfl ?_
              refine J_aload_n (i := 0) (j := 0) dX11_years_94 rfl rfl ?_
              refine J_iconst (v := (-1)) dX11_years_95 (by decide) ?_
              refine J_callV (As := [.int (-1)]) (rest := [.long w500]) dX11_years_96 (c_M_harmOf (d := 1) (u := u568) (g := g) (ex := ex) (owner := (-1))  (by decide) (bd_r ((fc571 22 (Nat.ne_of_beq_eq_false rfl) (Nat.ne_of_beq_eq_false rfl) (Nat.ne_of_beq_eq_false rfl) (Nat.ne_of_beq_eq_false rfl)).trans ((fc506 22 (Nat.ne_of_beq_eq_false rfl) (Nat.ne_of_beq_eq_false rfl) (Nat.ne_of_beq_eq_false rfl) (Nat.ne_of_beq_eq_false rfl)).trans (ms_i e24 (Nat.ne_of_beq_eq_false rfl)))) h6)) hq.n k1570 k1572 k65 wc_162 rfl rfl k97 k1573 np_X11_harmOf (Nat.le_trans (by decide) hd) (by decide) (Nat.le_refl _) (Nat.le_refl _) wlen rfl (Nat.le_of_ble_eq_true rfl) (fun r_ h_ p572 => ?_)
              obtain ⟨v573, rfl, rfl⟩ := p572
              refine J_i2l dX11_years_99 rfl ?_
              refine J_topl (fun l574 _ => ?_)
              refine J_ladd dX11_years_100 ?_
              refine J_topl (fun l575 _ => ?_)
              refine J_lstore (i := 7) (lw := [(7, .long l575), (0, .ref 162), (4, .int n), (5, .int what), (6, .int (bI t19)), (9, .int w501), (10, .int w502), (11, .int w503)]) dX11_years_101 (by decide) rfl ?_
              refine J_iload (i := 9) (j := 5) dX11_years_103 rfl ?_
              refine J_aload_n (i := 0) (j := 1) dX11_years_105 rfl rfl ?_
              refine J_get (C := RX11) (T := TX11) (Z := 43) (ci := 11) (f := 31) dX11_years_106 inG11 rfl (by decide) k1295 wc_162 rfl ?_
              have jn578 : ∀ (w577 : Int32), Bd 0 1 w577 → J x yX11_years cX11_years 12 (some .long) d 0 0 (Wd u g ex).length 117 [(0, .ref 162), (4, .int n), (5, .int what), (6, .int (bI t19)), (7, .long l575), (10, .int w502), (11, .int w503)] [.int w577, .int w501] (Wd u568 g ex) 0 0 := by
                intro w577 bw577
                refine J_iadd dX11_years_117 ?_
                refine J_istore (i := 9) (lw := [(9, .int (w501 + w577)), (0, .ref 162), (4, .int n), (5, .int what), (6, .int (bI t19)), (7, .long l575), (10, .int w502), (11, .int w503)]) dX11_years_118 (by decide) rfl ?_
                refine J_iload (i := 10) (j := 6) dX11_years_120 rfl ?_
                refine J_iload (i := 6) (j := 4) dX11_years_122 rfl ?_
                refine J_ifB_eq (tgt := 146) dX11_years_124 (by decide) (fun q => absurd (c22.symm.trans q) (by decide)) (fun _ => ?_)
                refine J_aload_n (i := 0) (j := 1) dX11_years_127 rfl rfl ?_
                refine J_get (C := RX11) (T := TX11) (Z := 43) (ci := 11) (f := 31) dX11_years_128 inG11 rfl (by decide) k1295 wc_162 rfl ?_
                refine J_iload (i := 5) (j := 3) dX11_years_131 rfl ?_
                refine J_bipush (v := 10) dX11_years_133 (by decide) ?_
                refine J_isub dX11_years_135 ?_
                refine J_callS (As := [.int (u568 162 31), .int (what - 10)]) (rest := [.int w502]) dX11_years_136 (c_M_has (d := 0) (u := u568) (g := g) (ex := ex) (set := u568 162 31) (k := (what - 10))  (by decide) ) hq.n k1555 k1556 k97 k1557 np_X11_has (Nat.le_trans (by decide) hd) (by decide) (Nat.le_refl _) (Nat.le_refl _) wlen rfl (Nat.le_of_ble_eq_true rfl) (fun r_ h_ p579 => ?_)
                obtain ⟨t580, rfl, rfl⟩ := p579
                have jn583 : ∀ (w582 : Int32), Bd 0 1 w582 → J x yX11_years cX11_years 12 (some .long) d 0 0 (Wd u g ex).length 147 [(0, .ref 162), (4, .int n), (5, .int what), (6, .int (bI t19)), (7, .long l575), (9, .int (w501 + w577)), (11, .int w503)] [.int w582, .int w502] (Wd u568 g ex) 0 0 := by
                  intro w582 bw582
                  refine J_iadd dX11_years_147 ?_
                  refine J_istore (i := 10) (lw := [(10, .int (w502 + w582)), (0, .ref 162), (4, .int n), (5, .int what), (6, .int (bI t19)), (7, .long l575), (9, .int (w501 + w577)), (11, .int w503)]) dX11_years_148 (by decide) rfl ?_
                  refine J_iinc (i := 11) (j := 7) (v := (w503 + 1)) (lw := [(11, .int (w503 + 1)), (10, .int (w502 + w582)), (0, .ref 162), (4, .int n), (5, .int what), (6, .int (bI t19)), (7, .long l575), (9, .int (w501 + w577))]) dX11_years_150 rfl rfl (by decide) rfl ?_
                  refine J_goto (tgt := 81) dX11_years_153 (by decide) ?_
                  refine J_lv [2, 3, 4, 5, 6, 7, 1, 0] rfl ?_
                  exact ih546 l575 (w501 + w577) (w502 + w582) (w503 + 1) u568 (bd_w (l := 0) (h := 99) (bd_add (l := 1) (h := 99) (bd_lt_hi bw503 (i_nle c548) (bd_le_hi (bd_le_lo (bd_any n) (h15 c17) (bd_c (v := 1) (lo := 1) (hi := 1) (by decide))) (h16 c17) (bd_c (v := 99) (lo := 99) (hi := 99) (by decide)))) (bd_c (v := 1) (lo := 1) (hi := 1) (by decide)) (by decide)) (by decide)) (fun c k_ => ((fr570 c (nin_sub (M := [(162, 162), (173, 175)]) k_ rfl)).trans (fr505 c (nin_sub (M := [(162, 162), (173, 175)]) k_ rfl)))) (fun j k31_ k32_ k33_ k41_ => ((fc571 j k31_ k32_ k33_ k41_).trans (fc506 j k31_ k32_ k33_ k41_))) h569 (mu_up 1 bw503 rfl (by decide) (bd_w (l := 1) (h := 99) (bd_add (l := 1) (h := 99) (bd_lt_hi bw503 (i_nle c548) (bd_le_hi (bd_le_lo (bd_any n) (h15 c17) (bd_c (v := 1) (lo := 1) (hi := 1) (by decide))) (h16 c17) (bd_c (v := 99) (lo := 99) (hi := 99) (by decide)))) (bd_c (v := 1) (lo := 1) (hi := 1) (by decide)) (by decide)) (by decide)) hm547)
                refine J_ifB_eq (tgt := 146) dX11_years_139 (by decide) (fun c581 => ?_) (fun c581 => ?_)
                · refine J_iconst (v := 0) dX11_years_146 (by decide) ?_
                  refine J_lv [1, 2, 3, 4, 5, 0, 7] rfl ?_
                  exact jn583 (0 : Int32) (bd_w (l := 0) (h := 1) (bd_c (v := 0) (lo := 0) (hi := 0) (by decide)) (by decide))
                · refine J_iconst (v := 1) dX11_years_142 (by decide) ?_
                  refine J_goto (tgt := 147) dX11_years_143 (by decide) ?_
                  refine J_lv [1, 2, 3, 4, 5, 0, 7] rfl ?_
                  exact jn583 (1 : Int32) (bd_w (l := 0) (h := 1) (bd_c (v := 1) (lo := 1) (hi := 1) (by decide)) (by decide))
              refine J_if_eq (tgt := 116) dX11_years_109 (by decide) (fun c576 => ?_) (fun c576 => ?_)
              · refine J_iconst (v := 0) dX11_years_116 (by decide) ?_
                refine J_lv [1, 2, 3, 4, 0, 6, 7] rfl ?_
                exact jn578 (0 : Int32) (bd_w (l := 0) (h := 1) (bd_c (v := 0) (lo := 0) (hi := 0) (by decide)) (by decide))
              · refine J_iconst (v := 1) dX11_years_112 (by decide) ?_
                refine J_goto (tgt := 117) dX11_years_113 (by decide) ?_
                refine J_lv [1, 2, 3, 4, 0, 6, 7] rfl ?_
                exact jn578 (1 : Int32) (bd_w (l := 0) (h := 1) (bd_c (v := 1) (lo := 1) (hi := 1) (by decide)) (by decide))
        refine J_lv [5, 9, 10, 4, 3, 2, 1, 0] rfl ?_
        exact lp544 _ (0 : Int64) (0 : Int32) (0 : Int32) (0 : Int32) u23 (bd_w (l := 0) (h := 99) (bd_c (v := 0) (lo := 0) (hi := 0) (by decide)) (by decide)) (fun c k_ => rfl) (fun j k31_ k32_ k33_ k41_ => rfl) (bd_r ((ms_i e24 (Nat.ne_of_beq_eq_false rfl)).trans ((fc11 31 (Nat.ne_of_beq_eq_false rfl) (Nat.ne_of_beq_eq_false rfl) (Nat.ne_of_beq_eq_false rfl) (Nat.ne_of_beq_eq_false rfl) (Nat.ne_of_beq_eq_false rfl) (Nat.ne_of_beq_eq_false rfl)).trans (ms_i e2 (Nat.ne_of_beq_eq_false rfl)))) hp8) (Nat.lt_succ_self _)
      · refine J_iload (i := 5) (j := 6) dX11_years_50 rfl ?_
        refine J_iconst (v := 0) dX11_years_52 (by decide) ?_
        refine J_iconst (v := 2) dX11_years_53 (by decide) ?_
        refine J_callS (As := [.int what, .int 0, .int 2]) (rest := []) dX11_years_54 (c_M_in (d := 0) (u := u5) (g := g) (ex := ex) (v := what) (low := 0) (high := 2)  (by decide) ) hq.n k1406 k1407 k97 k1408 np_X11_in (Nat.le_trans (by decide) hd) (by decide) (Nat.le_refl _) (Nat.le_refl _) wlen rfl (Nat.le_of_ble_eq_true rfl) (fun r_ h_ p584 => ?_)
        obtain ⟨t585, rfl, rfl, h586, h587⟩ := p584
        refine J_ifB_ne (tgt := 64) dX11_years_57 (by decide) (fun c588 => ?_) (fun c588 => ?_)
        · refine J_aload_n (i := 0) (j := 1) dX11_years_64 rfl rfl ?_
          refine J_iload_n (i := 3) (j := 4) dX11_years_65 rfl rfl ?_
          obtain ⟨u589, e590⟩ : ∃ z, z = ms u5 162 41 seed := ⟨_, rfl⟩
          refine J_put (C := RX11) (T := TX11) (Z := 43) (ci := 11) (f := 41) (ty0 := tyX11) dX11_years_66 inG11 rfl tyX11_ok nmX11 (by decide) k1305 rfl rfl wc_162 (Nat.le_of_ble_eq_true rfl) (fun _ _ => ⟨rfl, rfl⟩) (ws e590 wk_162 rfl) ?_
          refine J_lconst (v := 0) dX11_years_69 (by decide) ?_
          refine J_lstore (i := 7) (lw := [(7, .long 0), (6, .int (bI t19)), (0, .ref 162), (1, .int hill), (2, .int plan), (3, .int seed), (4, .int n), (5, .int what)]) dX11_years_70 (by decide) rfl ?_
          refine J_iconst (v := 0) dX11_years_72 (by decide) ?_
          refine J_istore (i := 9) (lw := [(9, .int 0), (7, .long 0), (6, .int (bI t19)), (0, .ref 162), (1, .int hill), (2, .int plan), (3, .int seed), (4, .int n), (5, .int what)]) dX11_years_73 (by decide) rfl ?_
          refine J_iconst (v := 0) dX11_years_75 (by decide) ?_
          refine J_istore (i := 10) (lw := [(10, .int 0), (9, .int 0), (7, .long 0), (6, .int (bI t19)), (0, .ref 162), (1, .int hill), (2, .int plan), (3, .int seed), (4, .int n), (5, .int what)]) dX11_years_76 (by decide) rfl ?_
          refine J_iconst (v := 0) dX11_years_78 (by decide) ?_
          refine J_istore (i := 11) (lw := [(11, .int 0), (10, .int 0), (9, .int 0), (7, .long 0), (6, .int (bI t19)), (0, .ref 162), (1, .int hill), (2, .int plan), (3, .int seed), (4, .int n), (5, .int what)]) dX11_years_79 (by decide) rfl ?_
          have lp1012 : ∀ (n1013 : Nat) (w976 : Int64) (w977 : Int32) (w978 : Int32) (u979 : Nat → Nat → Int32), Bd 0 99 w978 → (∀ c, nin c [(162, 162), (173, 175)] = true → u979 c = u589 c) → (∀ j, j ≠ 31 → j ≠ 32 → j ≠ 33 → j ≠ 41 → u979 162 j = u589 162 j) → Bd 0 511 (u979 162 31) → (99 - w978.toInt).toNat < n1013 → J x yX11_years cX11_years 12 (some .long) d 0 0 (Wd u g ex).length 81 [(0, .ref 162), (4, .int n), (5, .int what), (6, .int (bI t19)), (7, .long w976), (9, .int w977), (10, .int 0), (11, .int w978)] [] (Wd u979 g ex) 0 0 := by
            intro n1013
            induction n1013 with
            | zero => intro w976 w977 w978 u979 bw978 fr980 fc981 bm982 hm1015; exact absurd hm1015 (Nat.not_lt_zero _)
            | succ n1013 ih1014 =>
              intro w976 w977 w978 u979 bw978 fr980 fc981 bm982 hm1015
              refine J_iload (i := 11) (j := 7) dX11_years_81 rfl ?_
              refine J_iload (i := 4) (j := 1) dX11_years_83 rfl ?_
              refine J_icmp_ge (tgt := 156) dX11_years_85 (by decide) (fun c1016 => ?_) (fun c1016 => ?_)
              · refine J_iload (i := 6) (j := 3) dX11_years_156 rfl ?_
                refine J_ifB_eq (tgt := 167) dX11_years_158 (by decide) (fun _ => ?_) (fun q => absurd (c22.symm.trans q) (by decide))
                refine J_iload (i := 5) (j := 2) dX11_years_167 rfl ?_
                refine J_if_ne (tgt := 177) dX11_years_169 (by decide) (fun c1029 => ?_) (fun c1029 => ?_)
                · refine J_iload (i := 5) (j := 2) dX11_years_177 rfl ?_
                  refine J_iconst (v := 1) dX11_years_179 (by decide) ?_
                  refine J_icmp_ne (tgt := 189) dX11_years_180 (by decide) (fun c1030 => ?_) (fun c1030 => ?_)
                  · refine J_aload_n (i := 0) (j := 0) dX11_years_189 rfl rfl ?_
                    refine J_get (C := RX11) (T := TX11) (Z := 43) (ci := 11) (f := 31) dX11_years_190 inG11 rfl (by decide) k1295 wc_162 rfl ?_
                    refine J_i2l dX11_years_193 rfl ?_
                    refine J_topl (fun l1031 _ => ?_)
                    exact J_lret hq dX11_years_194 rfl wlen (Nat.le_refl _) (Nat.le_refl _) ⟨l1031, u979, rfl, rfl, (bd_r ((fc981 22 (Nat.ne_of_beq_eq_false rfl) (Nat.ne_of_beq_eq_false rfl) (Nat.ne_of_beq_eq_false rfl) (Nat.ne_of_beq_eq_false rfl)).trans (ms_i e590 (Nat.ne_of_beq_eq_false rfl))) h6), (dn_c ((fr980 172 rfl).trans (ms_c e590 (Nat.ne_of_beq_eq_false rfl))) h7), (n0_c ((fr980 172 rfl).trans (ms_c e590 (Nat.ne_of_beq_eq_false rfl))) h8), bm982, (fun c k_ => ((fr980 c (nin_sub (M := [(162, 162), (173, 175)]) k_ rfl)).trans ((ms_c e590 (nin_ne (a := 162) k_ rfl)).trans ((fr10 c (nin_ne (a := 162) k_ rfl) (nin_ne (a := 172) k_ rfl)).trans (ms_c e2 (nin_ne (a := 162) k_ rfl)))))), (fun j k0_ k22_ k23_ k24_ k25_ k26_ k27_ k31_ k32_ k33_ k41_ => ((fc981 j k31_ k32_ k33_ k41_).trans ((ms_i e590 k41_).trans ((fc11 j k22_ k23_ k24_ k25_ k26_ k27_).trans (ms_i e2 k0_)))))⟩
                  · refine J_iload (i := 9) (j := 5) dX11_years_183 rfl ?_
                    refine J_i2l dX11_years_185 rfl ?_
                    refine J_topl (fun l1032 _ => ?_)
                    refine J_goto (tgt := 194) dX11_years_186 (by decide) ?_
                    exact J_lret hq dX11_years_194 rfl wlen (Nat.le_refl _) (Nat.le_refl _) ⟨l1032, u979, rfl, rfl, (bd_r ((fc981 22 (Nat.ne_of_beq_eq_false rfl) (Nat.ne_of_beq_eq_false rfl) (Nat.ne_of_beq_eq_false rfl) (Nat.ne_of_beq_eq_false rfl)).trans (ms_i e590 (Nat.ne_of_beq_eq_false rfl))) h6), (dn_c ((fr980 172 rfl).trans (ms_c e590 (Nat.ne_of_beq_eq_false rfl))) h7), (n0_c ((fr980 172 rfl).trans (ms_c e590 (Nat.ne_of_beq_eq_false rfl))) h8), bm982, (fun c k_ => ((fr980 c (nin_sub (M := [(162, 162), (173, 175)]) k_ rfl)).trans ((ms_c e590 (nin_ne (a := 162) k_ rfl)).trans ((fr10 c (nin_ne (a := 162) k_ rfl) (nin_ne (a := 172) k_ rfl)).trans (ms_c e2 (nin_ne (a := 162) k_ rfl)))))), (fun j k0_ k22_ k23_ k24_ k25_ k26_ k27_ k31_ k32_ k33_ k41_ => ((fc981 j k31_ k32_ k33_ k41_).trans ((ms_i e590 k41_).trans ((fc11 j k22_ k23_ k24_ k25_ k26_ k27_).trans (ms_i e2 k0_)))))⟩
                · refine J_lload (i := 7) (j := 4) dX11_years_172 rfl ?_
                  refine J_goto (tgt := 194) dX11_years_174 (by decide) ?_
                  exact J_lret hq dX11_years_194 rfl wlen (Nat.le_refl _) (Nat.le_refl _) ⟨w976, u979, rfl, rfl, (bd_r ((fc981 22 (Nat.ne_of_beq_eq_false rfl) (Nat.ne_of_beq_eq_false rfl) (Nat.ne_of_beq_eq_false rfl) (Nat.ne_of_beq_eq_false rfl)).trans (ms_i e590 (Nat.ne_of_beq_eq_false rfl))) h6), (dn_c ((fr980 172 rfl).trans (ms_c e590 (Nat.ne_of_beq_eq_false rfl))) h7), (n0_c ((fr980 172 rfl).trans (ms_c e590 (Nat.ne_of_beq_eq_false rfl))) h8), bm982, (fun c k_ => ((fr980 c (nin_sub (M := [(162, 162), (173, 175)]) k_ rfl)).trans ((ms_c e590 (nin_ne (a := 162) k_ rfl)).trans ((fr10 c (nin_ne (a := 162) k_ rfl) (nin_ne (a := 172) k_ rfl)).trans (ms_c e2 (nin_ne (a := 162) k_ rfl)))))), (fun j k0_ k22_ k23_ k24_ k25_ k26_ k27_ k31_ k32_ k33_ k41_ => ((fc981 j k31_ k32_ k33_ k41_).trans ((ms_i e590 k41_).trans ((fc11 j k22_ k23_ k24_ k25_ k26_ k27_).trans (ms_i e2 k0_)))))⟩
              · refine J_aload_n (i := 0) (j := 0) dX11_years_88 rfl rfl ?_
                refine J_callV (As := []) (rest := []) dX11_years_89 (c_M_year (d := 4) (u := u979) (g := g) (ex := ex)   (by decide) (bd_r ((fc981 22 (Nat.ne_of_beq_eq_false rfl) (Nat.ne_of_beq_eq_false rfl) (Nat.ne_of_beq_eq_false rfl) (Nat.ne_of_beq_eq_false rfl)).trans (ms_i e590 (Nat.ne_of_beq_eq_false rfl))) h6) (dn_c ((fr980 172 rfl).trans (ms_c e590 (Nat.ne_of_beq_eq_false rfl))) h7) (rc_c ((fr980 172 rfl).trans (ms_c e590 (Nat.ne_of_beq_eq_false rfl))) (h9 c12).1) bm982) hq.n k1718 k1720 k81 wc_162 rfl rfl k97 k1721 np_X11_year (Nat.le_trans (by decide) hd) (by decide) (Nat.le_refl _) (Nat.le_refl _) wlen rfl (Nat.le_of_ble_eq_true rfl) (fun r_ h_ p1033 => ?_)
                obtain ⟨u1034, rfl, rfl, h1035, fr1036, fc1037⟩ := p1033
                refine J_lload (i := 7) (j := 4) dX11_years_92 rfl ?_
                refine J_aload_n (i := 0) (j := 0) dX11_years_94 rfl rfl ?_
                refine J_iconst (v := (-1)) dX11_years_95 (by decide) ?_
                refine J_callV (As := [.int (-1)]) (rest := [.long w976]) dX11_years_96 (c_M_harmOf (d := 1) (u := u1034) (g := g) (ex := ex) (owner := (-1))  (by decide) (bd_r ((fc1037 22 (Nat.ne_of_beq_eq_false rfl) (Nat.ne_of_beq_eq_false rfl) (Nat.ne_of_beq_eq_false rfl) (Nat.ne_of_beq_eq_false rfl)).trans ((fc981 22 (Nat.ne_of_beq_eq_false rfl) (Nat.ne_of_beq_eq_false rfl) (Nat.ne_of_beq_eq_false rfl) (Nat.ne_of_beq_eq_false rfl)).trans (ms_i e590 (Nat.ne_of_beq_eq_false rfl)))) h6)) hq.n k1570 k1572 k65 wc_162 rfl rfl k97 k1573 np_X11_harmOf (Nat.le_trans (by decide) hd) (by decide) (Nat.le_refl _) (Nat.le_refl _) wlen rfl (Nat.le_of_ble_eq_true rfl) (fun r_ h_ p1038 => ?_)
                obtain ⟨v1039, rfl, rfl⟩ := p1038
                refine J_i2l dX11_years_99 rfl ?_
                refine J_topl (fun l1040 _ => ?_)
                refine J_ladd dX11_years_100 ?_
                refine J_topl (fun l1041 _ => ?_)
                refine J_lstore (i := 7) (lw := [(7, .long l1041), (0, .ref 162), (4, .int n), (5, .int what), (6, .int (bI t19)), (9, .int w977), (10, .int 0), (11, .int w978)]) dX11_years_101 (by decide) rfl ?_
                refine J_iload (i := 9) (j := 5) dX11_years_103 rfl ?_
                refine J_aload_n (i := 0) (j := 1) dX11_years_105 rfl rfl ?_
                refine J_get (C := RX11) (T := TX11) (Z := 43) (ci := 11) (f := 31) dX11_years_106 inG11 rfl (by decide) k1295 wc_162 rfl ?_
                have jn1044 : ∀ (w1043 : Int32), Bd 0 1 w1043 → J x yX11_years cX11_years 12 (some .long) d 0 0 (Wd u g ex).length 117 [(0, .ref 162), (4, .int n), (5, .int what), (6, .int (bI t19)), (7, .long l1041), (10, .int 0), (11, .int w978)] [.int w1043, .int w977] (Wd u1034 g ex) 0 0 := by
                  intro w1043 bw1043
                  refine J_iadd dX11_years_117 ?_
                  refine J_istore (i := 9) (lw := [(9, .int (w977 + w1043)), (0, .ref 162), (4, .int n), (5, .int what), (6, .int (bI t19)), (7, .long l1041), (10, .int 0), (11, .int w978)]) dX11_years_118 (by decide) rfl ?_
                  refine J_iload (i := 10) (j := 6) dX11_years_120 rfl ?_
                  refine J_iload (i := 6) (j := 4) dX11_years_122 rfl ?_
                  refine J_ifB_eq (tgt := 146) dX11_years_124 (by decide) (fun _ => ?_) (fun q => absurd (c22.symm.trans q) (by decide))
                  refine J_iconst (v := 0) dX11_years_146 (by decide) ?_
                  refine J_iadd dX11_years_147 ?_
                  refine J_ci (v := 0) (by decide) ?_
                  refine J_istore (i := 10) (lw := [(10, .int 0), (9, .int (w977 + w1043)), (0, .ref 162), (4, .int n), (5, .int what), (6, .int (bI t19)), (7, .long l1041), (11, .int w978)]) dX11_years_148 (by decide) rfl ?_
                  refine J_iinc (i := 11) (j := 7) (v := (w978 + 1)) (lw := [(11, .int (w978 + 1)), (10, .int 0), (9, .int (w977 + w1043)), (0, .ref 162), (4, .int n), (5, .int what), (6, .int (bI t19)), (7, .long l1041)]) dX11_years_150 rfl rfl (by decide) rfl ?_
                  refine J_goto (tgt := 81) dX11_years_153 (by decide) ?_
                  refine J_lv [3, 4, 5, 6, 7, 2, 1, 0] rfl ?_
                  exact ih1014 l1041 (w977 + w1043) (w978 + 1) u1034 (bd_w (l := 0) (h := 99) (bd_add (l := 1) (h := 99) (bd_lt_hi bw978 (i_nle c1016) (bd_le_hi (bd_le_lo (bd_any n) (h15 c17) (bd_c (v := 1) (lo := 1) (hi := 1) (by decide))) (h16 c17) (bd_c (v := 99) (lo := 99) (hi := 99) (by decide)))) (bd_c (v := 1) (lo := 1) (hi := 1) (by decide)) (by decide)) (by decide)) (fun c k_ => ((fr1036 c (nin_sub (M := [(162, 162), (173, 175)]) k_ rfl)).trans (fr980 c (nin_sub (M := [(162, 162), (173, 175)]) k_ rfl)))) (fun j k31_ k32_ k33_ k41_ => ((fc1037 j k31_ k32_ k33_ k41_).trans (fc981 j k31_ k32_ k33_ k41_))) h1035 (mu_up 1 bw978 rfl (by decide) (bd_w (l := 1) (h := 99) (bd_add (l := 1) (h := 99) (bd_lt_hi bw978 (i_nle c1016) (bd_le_hi (bd_le_lo (bd_any n) (h15 c17) (bd_c (v := 1) (lo := 1) (hi := 1) (by decide))) (h16 c17) (bd_c (v := 99) (lo := 99) (hi := 99) (by decide)))) (bd_c (v := 1) (lo := 1) (hi := 1) (by decide)) (by decide)) (by decide)) hm1015)
                refine J_if_eq (tgt := 116) dX11_years_109 (by decide) (fun c1042 => ?_) (fun c1042 => ?_)
                · refine J_iconst (v := 0) dX11_years_116 (by decide) ?_
                  refine J_lv [1, 2, 3, 4, 0, 6, 7] rfl ?_
                  exact jn1044 (0 : Int32) (bd_w (l := 0) (h := 1) (bd_c (v := 0) (lo := 0) (hi := 0) (by decide)) (by decide))
                · refine J_iconst (v := 1) dX11_years_112 (by decide) ?_
                  refine J_goto (tgt := 117) dX11_years_113 (by decide) ?_
                  refine J_lv [1, 2, 3, 4, 0, 6, 7] rfl ?_
                  exact jn1044 (1 : Int32) (bd_w (l := 0) (h := 1) (bd_c (v := 1) (lo := 1) (hi := 1) (by decide)) (by decide))
          refine J_lv [5, 9, 10, 4, 3, 2, 1, 0] rfl ?_
          exact lp1012 _ (0 : Int64) (0 : Int32) (0 : Int32) u589 (bd_w (l := 0) (h := 99) (bd_c (v := 0) (lo := 0) (hi := 0) (by decide)) (by decide)) (fun c k_ => rfl) (fun j k31_ k32_ k33_ k41_ => rfl) (bd_r ((ms_i e590 (Nat.ne_of_beq_eq_false rfl)).trans ((fc11 31 (Nat.ne_of_beq_eq_false rfl) (Nat.ne_of_beq_eq_false rfl) (Nat.ne_of_beq_eq_false rfl) (Nat.ne_of_beq_eq_false rfl) (Nat.ne_of_beq_eq_false rfl) (Nat.ne_of_beq_eq_false rfl)).trans (ms_i e2 (Nat.ne_of_beq_eq_false rfl)))) hp8) (Nat.lt_succ_self _)
        · refine J_ldc2 (v := (-1)) dX11_years_60 k1578 ?_
          exact J_lret hq dX11_years_63 rfl wlen (Nat.le_refl _) (Nat.le_refl _) ⟨((-1) : Int64), u5, rfl, rfl, h6, h7, h8, (bd_r ((fc11 31 (Nat.ne_of_beq_eq_false rfl) (Nat.ne_of_beq_eq_false rfl) (Nat.ne_of_beq_eq_false rfl) (Nat.ne_of_beq_eq_false rfl) (Nat.ne_of_beq_eq_false rfl) (Nat.ne_of_beq_eq_false rfl)).trans (ms_i e2 (Nat.ne_of_beq_eq_false rfl))) hp8), (fun c k_ => ((fr10 c (nin_ne (a := 162) k_ rfl) (nin_ne (a := 172) k_ rfl)).trans (ms_c e2 (nin_ne (a := 162) k_ rfl)))), (fun j k0_ k22_ k23_ k24_ k25_ k26_ k27_ k31_ k32_ k33_ k41_ => ((fc11 j k22_ k23_ k24_ k25_ k26_ k27_).trans (ms_i e2 k0_)))⟩
    · refine J_ldc2 (v := (-1)) dX11_years_25 k1578 ?_
      exact J_lret hq dX11_years_28 rfl wlen (Nat.le_refl _) (Nat.le_refl _) ⟨((-1) : Int64), u5, rfl, rfl, h6, h7, h8, (bd_r ((fc11 31 (Nat.ne_of_beq_eq_false rfl) (Nat.ne_of_beq_eq_false rfl) (Nat.ne_of_beq_eq_false rfl) (Nat.ne_of_beq_eq_false rfl) (Nat.ne_of_beq_eq_false rfl) (Nat.ne_of_beq_eq_false rfl)).trans (ms_i e2 (Nat.ne_of_beq_eq_false rfl))) hp8), (fun c k_ => ((fr10 c (nin_ne (a := 162) k_ rfl) (nin_ne (a := 172) k_ rfl)).trans (ms_c e2 (nin_ne (a := 162) k_ rfl)))), (fun j k0_ k22_ k23_ k24_ k25_ k26_ k27_ k31_ k32_ k33_ k41_ => ((fc11 j k22_ k23_ k24_ k25_ k26_ k27_).trans (ms_i e2 k0_)))⟩
set_option maxHeartbeats 4000000 in
set_option maxRecDepth 100000 in
theorem c_M_common {d : Nat} {u : Nat → Nat → Int32} {g : Nat → Nat → Int64} {ex : List MC} {a : Int32} {b : Int32} (hd : 0 ≤ d) (hp0 : (¬ a = 0 ∨ ¬ b = 0)) : CT con0 d 0 0 yX11_common cX11_common 5 (some .int) [.int a, .int b] (Wd u g ex) (fun r h2 => ∃ (z : Int32), r = some (.int z) ∧ h2 = Wd u g ex ∧ (¬ z = 0)) := by
  refine CT_of (by decide) (Nat.le_of_ble_eq_true rfl) (fun x hq => ?_)
  show J x yX11_common cX11_common 5 (some .int) d 0 0 (Wd u g ex).length 0 [(0, .int a), (1, .int b)] [] (Wd u g ex) 0 0
  refine J_iload_n (i := 0) (j := 0) dX11_common_0 rfl rfl ?_
  refine J_istore_n (i := 2) (lw := [(2, .int a), (0, .int a), (1, .int b)]) dX11_common_1 rfl (by decide) rfl ?_
  refine J_iload_n (i := 1) (j := 2) dX11_common_2 rfl rfl ?_
  refine J_istore_n (i := 3) (lw := [(3, .int b), (2, .int a), (0, .int a), (1, .int b)]) dX11_common_3 rfl (by decide) rfl ?_
  have lp5 : ∀ (n6 : Nat) (w2 : Int32) (w3 : Int32), (¬ w2 = 0 ∨ ¬ w3 = 0) → w2.toInt.natAbs < n6 → J x yX11_common cX11_common 5 (some .int) d 0 0 (Wd u g ex).length 4 [(2, .int w2), (3, .int w3)] [] (Wd u g ex) 0 0 := by
    intro n6
    induction n6 with
    | zero => intro w2 w3 hI9 hm8; exact absurd hm8 (Nat.not_lt_zero _)
    | succ n6 ih7 =>
      intro w2 w3 hI9 hm8
      refine J_iload_n (i := 2) (j := 0) dX11_common_4 rfl rfl ?_
      refine J_if_eq (tgt := 21) dX11_common_5 (by decide) (fun c10 => ?_) (fun c10 => ?_)
      · refine J_iload_n (i := 3) (j := 1) dX11_common_21 rfl rfl ?_
        exact J_iret hq dX11_common_22 rfl wlen (Nat.le_refl _) (Nat.le_refl _) ⟨w3, rfl, rfl, (hI9.resolve_left (fun q => q c10))⟩
      · refine J_iload_n (i := 3) (j := 1) dX11_common_8 rfl rfl ?_
        refine J_iload_n (i := 2) (j := 0) dX11_common_9 rfl rfl ?_
        refine J_irem dX11_common_10 c10 ?_
        refine J_istore (i := 4) (lw := [(4, .int (w3 - w3 / w2 * w2)), (2, .int w2), (3, .int w3)]) dX11_common_11 (by decide) rfl ?_
        refine J_iload_n (i := 2) (j := 1) dX11_common_13 rfl rfl ?_
        refine J_istore_n (i := 3) (lw := [(3, .int w2), (4, .int (w3 - w3 / w2 * w2)), (2, .int w2)]) dX11_common_14 rfl (by decide) rfl ?_
        refine J_iload (i := 4) (j := 1) dX11_common_15 rfl ?_
        refine J_istore_n (i := 2) (lw := [(2, .int (w3 - w3 / w2 * w2)), (3, .int w2), (4, .int (w3 - w3 / w2 * w2))]) dX11_common_17 rfl (by decide) rfl ?_
        refine J_goto (tgt := 4) dX11_common_18 (by decide) ?_
        refine J_lv [0, 1] rfl ?_
        exact ih7 (w3 - w3 / w2 * w2) w2 (Or.inr c10) (Nat.lt_of_lt_of_le (i32_tmod_lt c10) (Nat.le_of_lt_succ hm8))
  refine J_lv [1, 0] rfl ?_
  exact lp5 _ a b hp0 (Nat.lt_succ_self _)
set_option maxHeartbeats 4000000 in
set_option maxRecDepth 100000 in
theorem c_M_think {d : Nat} {u : Nat → Nat → Int32} {g : Nat → Nat → Int64} {ex : List MC} {hill : Int32} {plan : Int32} {pond : Int32} {under : Int32} (hd : 3 ≤ d) (hp0 : (MY u)) (hp1 : AB u 168 (-1) 999) (hp2 : (HD u)) (hp3 : (HC u)) (hp4 : (PL u)) (hp5 : (N0 u)) (hp6 : (DN u)) (hp7 : Bd 0 9 (u 162 22)) (hp8 : Bd 0 511 (u 162 31)) (hp9 : AB u 177 (-1) 999) : CT con0 d 0 0 yX11_think cX11_think 7 (some .int) [.ref 162, .int hill, .int plan, .int pond, .int under] (Wd u g ex) (fun r h2 => ∃ (z : Int32) (u2 : Nat → Nat → Int32), r = some (.int z) ∧ h2 = Wd u2 g ex ∧ Bd 0 9 (u2 162 22) ∧ (DN u2) ∧ (N0 u2) ∧ Bd 0 511 (u2 162 31) ∧ (∀ c, nin c [(162, 162), (172, 175)] = true → u2 c = u c) ∧ (∀ j, j ≠ 0 → j ≠ 22 → j ≠ 23 → j ≠ 24 → j ≠ 25 → j ≠ 26 → j ≠ 27 → j ≠ 31 → j ≠ 32 → j ≠ 33 → u2 162 j = u 162 j)) := by
  refine CT_of (by decide) (Nat.le_of_ble_eq_true rfl) (fun x hq => ?_)
  show J x yX11_think cX11_think 7 (some .int) d 0 0 (Wd u g ex).length 0 [(0, .ref 162), (1, .int hill), (2, .int plan), (3, .int pond), (4, .int under)] [] (Wd u g ex) 0 0
  refine J_aload_n (i := 0) (j := 0) dX11_think_0 rfl rfl ?_
  refine J_iconst (v := 0) dX11_think_1 (by decide) ?_
  obtain ⟨u1, e2⟩ : ∃ z, z = ms u 162 0 0 := ⟨_, rfl⟩
  refine J_put (C := RX11) (T := TX11) (Z := 43) (ci := 11) (f := 0) (ty0 := tyX11) dX11_think_2 inG11 rfl tyX11_ok nmX11 (by decide) k1264 rfl rfl wc_162 (Nat.le_of_ble_eq_true rfl) (fun _ _ => ⟨rfl, rfl⟩) (ws e2 wk_162 rfl) ?_
  refine J_aload_n (i := 0) (j := 0) dX11_think_5 rfl rfl ?_
  refine J_iload_n (i := 1) (j := 1) dX11_think_6 rfl rfl ?_
  refine J_iload_n (i := 2) (j := 2) dX11_think_7 rfl rfl ?_
  refine J_callV (As := [.int hill, .int plan]) (rest := []) dX11_think_8 (c_M_lay (d := 2) (u := u1) (g := g) (ex := ex) (h := hill) (plan := plan)  (by decide) (my_c (ms_c e2 (Nat.ne_of_beq_eq_false rfl)) hp0) (ab_c (ms_c e2 (Nat.ne_of_beq_eq_false rfl)) hp1) (hd_c (ms_c e2 (Nat.ne_of_beq_eq_false rfl)) hp2) (hc_c (ms_c e2 (Nat.ne_of_beq_eq_false rfl)) (ms_c e2 (Nat.ne_of_beq_eq_false rfl)) hp3) (pl_c (ms_c e2 (Nat.ne_of_beq_eq_false rfl)) hp4) (n0_c (ms_c e2 (Nat.ne_of_beq_eq_false rfl)) hp5) (dn_c (ms_c e2 (Nat.ne_of_beq_eq_false rfl)) hp6) (bd_r (ms_i e2 (Nat.ne_of_beq_eq_false rfl)) hp7)) hq.n k1503 k1505 k52 wc_162 rfl rfl k97 k1506 np_X11_lay (Nat.le_trans (by decide) hd) (by decide) (Nat.le_refl _) (Nat.le_refl _) wlen rfl (Nat.le_of_ble_eq_true rfl) (fun r_ h_ p3 => ?_)
  obtain ⟨t4, u5, rfl, rfl, h6, h7, h8, h9, fr10, fc11⟩ := p3
  refine J_ifB_eq (tgt := 22) dX11_think_11 (by decide) (fun c12 => ?_) (fun c12 => ?_)
  · refine J_iconst (v := (-1)) dX11_think_22 (by decide) ?_
    exact J_iret hq dX11_think_23 rfl wlen (Nat.le_refl _) (Nat.le_refl _) ⟨((-1) : Int32), u5, rfl, rfl, h6, h7, h8, (bd_r ((fc11 31 (Nat.ne_of_beq_eq_false rfl) (Nat.ne_of_beq_eq_false rfl) (Nat.ne_of_beq_eq_false rfl) (Nat.ne_of_beq_eq_false rfl) (Nat.ne_of_beq_eq_false rfl) (Nat.ne_of_beq_eq_false rfl)).trans (ms_i e2 (Nat.ne_of_beq_eq_false rfl))) hp8), (fun c k_ => ((fr10 c (nin_ne (a := 162) k_ rfl) (nin_ne (a := 172) k_ rfl)).trans (ms_c e2 (nin_ne (a := 162) k_ rfl)))), (fun j k0_ k22_ k23_ k24_ k25_ k26_ k27_ k31_ k32_ k33_ => ((fc11 j k22_ k23_ k24_ k25_ k26_ k27_).trans (ms_i e2 k0_)))⟩
  · refine J_aload_n (i := 0) (j := 0) dX11_think_14 rfl rfl ?_
    refine J_iload_n (i := 3) (j := 3) dX11_think_15 rfl rfl ?_
    refine J_callV (As := [.int pond]) (rest := []) dX11_think_16 (c_M_isPond (d := 1) (u := u5) (g := g) (ex := ex) (p := pond)  (by decide) h6) hq.n k1523 k1525 k57 wc_162 rfl rfl k97 k1526 np_X11_isPond (Nat.le_trans (by decide) hd) (by decide) (Nat.le_refl _) (Nat.le_refl _) wlen rfl (Nat.le_of_ble_eq_true rfl) (fun r_ h_ p13 => ?_)
    obtain ⟨t14, rfl, rfl, h15⟩ := p13
    refine J_ifB_ne (tgt := 24) dX11_think_19 (by decide) (fun c16 => ?_) (fun c16 => ?_)
    · refine J_aload_n (i := 0) (j := 0) dX11_think_24 rfl rfl ?_
      refine J_iload_n (i := 3) (j := 3) dX11_think_25 rfl rfl ?_
      refine J_callV (As := [.int pond]) (rest := []) dX11_think_26 (c_M_seenBy (d := 1) (u := u5) (g := g) (ex := ex) (p := pond)  (by decide) (h15 c16)) hq.n k1699 k1701 k79 wc_162 rfl rfl k97 k1702 np_X11_seenBy (Nat.le_trans (by decide) hd) (by decide) (Nat.le_refl _) (Nat.le_refl _) wlen rfl (Nat.le_of_ble_eq_true rfl) (fun r_ h_ p17 => ?_)
      obtain ⟨v18, rfl, rfl⟩ := p17
      refine J_istore (i := 5) (lw := [(5, .int v18), (0, .ref 162), (1, .int hill), (2, .int plan), (3, .int pond), (4, .int under)]) dX11_think_29 (by decide) rfl ?_
      refine J_iload (i := 5) (j := 0) dX11_think_31 rfl ?_
      refine J_if_ne (tgt := 40) dX11_think_33 (by decide) (fun c19 => ?_) (fun c19 => ?_)
      · refine J_aload_n (i := 0) (j := 1) dX11_think_40 rfl rfl ?_
        refine J_iload_n (i := 3) (j := 4) dX11_think_41 rfl rfl ?_
        refine J_callV (As := [.int pond]) (rest := []) dX11_think_42 (c_M_seenAll (d := 2) (u := u5) (g := g) (ex := ex) (p := pond)  (by decide) (h15 c16)) hq.n k1703 k1705 k80 wc_162 rfl rfl k97 k1706 np_X11_seenAll (Nat.le_trans (by decide) hd) (by decide) (Nat.le_refl _) (Nat.le_refl _) wlen rfl (Nat.le_of_ble_eq_true rfl) (fun r_ h_ p20 => ?_)
        obtain ⟨v21, rfl, rfl⟩ := p20
        refine J_istore (i := 6) (lw := [(6, .int v21), (5, .int v18), (0, .ref 162), (1, .int hill), (2, .int plan), (3, .int pond), (4, .int under)]) dX11_think_45 (by decide) rfl ?_
        refine J_iload (i := 4) (j := 6) dX11_think_47 rfl ?_
        have jn24 : ∀ (w23 : Int32), J x yX11_think cX11_think 7 (some .int) d 0 0 (Wd u g ex).length 59 [(5, .int v18), (6, .int v21)] [.int w23] (Wd u5 g ex) 0 0 := by
          intro w23
          refine J_iload (i := 5) (j := 0) dX11_think_59 rfl ?_
          refine J_iload (i := 6) (j := 1) dX11_think_61 rfl ?_
          refine J_callS (As := [.int v18, .int v21]) (rest := [.int w23]) dX11_think_63 (c_M_common (d := 0) (u := u5) (g := g) (ex := ex) (a := v18) (b := v21)  (by decide) (Or.inl c19)) hq.n k1707 k1708 k97 k1709 np_X11_common (Nat.le_trans (by decide) hd) (by decide) (Nat.le_refl _) (Nat.le_refl _) wlen rfl (Nat.le_of_ble_eq_true rfl) (fun r_ h_ p25 => ?_)
          obtain ⟨v26, rfl, rfl, h27⟩ := p25
          refine J_idiv dX11_think_66 h27 ?_
          exact J_iret hq dX11_think_67 rfl wlen (Nat.le_refl _) (Nat.le_refl _) ⟨(w23 / v26), u5, rfl, rfl, h6, h7, h8, (bd_r ((fc11 31 (Nat.ne_of_beq_eq_false rfl) (Nat.ne_of_beq_eq_false rfl) (Nat.ne_of_beq_eq_false rfl) (Nat.ne_of_beq_eq_false rfl) (Nat.ne_of_beq_eq_false rfl) (Nat.ne_of_beq_eq_false rfl)).trans (ms_i e2 (Nat.ne_of_beq_eq_false rfl))) hp8), (fun c k_ => ((fr10 c (nin_ne (a := 162) k_ rfl) (nin_ne (a := 172) k_ rfl)).trans (ms_c e2 (nin_ne (a := 162) k_ rfl)))), (fun j k0_ k22_ k23_ k24_ k25_ k26_ k27_ k31_ k32_ k33_ => ((fc11 j k22_ k23_ k24_ k25_ k26_ k27_).trans (ms_i e2 k0_)))⟩
        refine J_if_eq (tgt := 57) dX11_think_49 (by decide) (fun c22 => ?_) (fun c22 => ?_)
        · refine J_iload (i := 5) (j := 1) dX11_think_57 rfl ?_
          refine J_lv [1, 0] rfl ?_
          exact jn24 v18 
        · refine J_iload (i := 6) (j := 0) dX11_think_52 rfl ?_
          refine J_goto (tgt := 59) dX11_think_54 (by decide) ?_
          refine J_lv [1, 0] rfl ?_
          exact jn24 v21 
      · refine J_iconst (v := 1) dX11_think_36 (by decide) ?_
        refine J_goto (tgt := 45) dX11_think_37 (by decide) ?_
        refine J_istore (i := 6) (lw := [(6, .int 1), (5, .int v18), (0, .ref 162), (1, .int hill), (2, .int plan), (3, .int pond), (4, .int under)]) dX11_think_45 (by decide) rfl ?_
        refine J_iload (i := 4) (j := 6) dX11_think_47 rfl ?_
        have jn30 : ∀ (w29 : Int32), Bd 0 1 w29 → J x yX11_think cX11_think 7 (some .int) d 0 0 (Wd u g ex).length 59 [(5, .int v18), (6, .int 1)] [.int w29] (Wd u5 g ex) 0 0 := by
          intro w29 bw29
          refine J_iload (i := 5) (j := 0) dX11_think_59 rfl ?_
          refine J_iload (i := 6) (j := 1) dX11_think_61 rfl ?_
          refine J_callS (As := [.int v18, .int 1]) (rest := [.int w29]) dX11_think_63 (c_M_common (d := 0) (u := u5) (g := g) (ex := ex) (a := v18) (b := 1)  (by decide) (Or.inr (by decide))) hq.n k1707 k1708 k97 k1709 np_X11_common (Nat.le_trans (by decide) hd) (by decide) (Nat.le_refl _) (Nat.le_refl _) wlen rfl (Nat.le_of_ble_eq_true rfl) (fun r_ h_ p31 => ?_)
          obtain ⟨v32, rfl, rfl, h33⟩ := p31
          refine J_idiv dX11_think_66 h33 ?_
          exact J_iret hq dX11_think_67 rfl wlen (Nat.le_refl _) (Nat.le_refl _) ⟨(w29 / v32), u5, rfl, rfl, h6, h7, h8, (bd_r ((fc11 31 (Nat.ne_of_beq_eq_false rfl) (Nat.ne_of_beq_eq_false rfl) (Nat.ne_of_beq_eq_false rfl) (Nat.ne_of_beq_eq_false rfl) (Nat.ne_of_beq_eq_false rfl) (Nat.ne_of_beq_eq_false rfl)).trans (ms_i e2 (Nat.ne_of_beq_eq_false rfl))) hp8), (fun c k_ => ((fr10 c (nin_ne (a := 162) k_ rfl) (nin_ne (a := 172) k_ rfl)).trans (ms_c e2 (nin_ne (a := 162) k_ rfl)))), (fun j k0_ k22_ k23_ k24_ k25_ k26_ k27_ k31_ k32_ k33_ => ((fc11 j k22_ k23_ k24_ k25_ k26_ k27_).trans (ms_i e2 k0_)))⟩
        refine J_if_eq (tgt := 57) dX11_think_49 (by decide) (fun c28 => ?_) (fun c28 => ?_)
        · refine J_iload (i := 5) (j := 1) dX11_think_57 rfl ?_
          refine J_lv [1, 0] rfl ?_
          exact jn30 v18 (bd_w (l := 0) (h := 1) (bd_r c19 (bd_c (v := 0) (lo := 0) (hi := 0) (by decide))) (by decide))
        · refine J_iload (i := 6) (j := 0) dX11_think_52 rfl ?_
          refine J_goto (tgt := 59) dX11_think_54 (by decide) ?_
          refine J_lv [1, 0] rfl ?_
          exact jn30 (1 : Int32) (bd_w (l := 0) (h := 1) (bd_c (v := 1) (lo := 1) (hi := 1) (by decide)) (by decide))
    · refine J_iconst (v := (-1)) dX11_think_22 (by decide) ?_
      exact J_iret hq dX11_think_23 rfl wlen (Nat.le_refl _) (Nat.le_refl _) ⟨((-1) : Int32), u5, rfl, rfl, h6, h7, h8, (bd_r ((fc11 31 (Nat.ne_of_beq_eq_false rfl) (Nat.ne_of_beq_eq_false rfl) (Nat.ne_of_beq_eq_false rfl) (Nat.ne_of_beq_eq_false rfl) (Nat.ne_of_beq_eq_false rfl) (Nat.ne_of_beq_eq_false rfl)).trans (ms_i e2 (Nat.ne_of_beq_eq_false rfl))) hp8), (fun c k_ => ((fr10 c (nin_ne (a := 162) k_ rfl) (nin_ne (a := 172) k_ rfl)).trans (ms_c e2 (nin_ne (a := 162) k_ rfl)))), (fun j k0_ k22_ k23_ k24_ k25_ k26_ k27_ k31_ k32_ k33_ => ((fc11 j k22_ k23_ k24_ k25_ k26_ k27_).trans (ms_i e2 k0_)))⟩
set_option maxHeartbeats 4000000 in
set_option maxRecDepth 100000 in
theorem c_M_commonOf {d : Nat} {u : Nat → Nat → Int32} {g : Nat → Nat → Int64} {ex : List MC} {a : Int64} {b : Int64} (hd : 0 ≤ d) (hp0 : (¬ a = 0 ∨ ¬ b = 0)) : CT con0 d 0 0 yX11_commonOf cX11_commonOf 10 (some .long) [.long a, .long b] (Wd u g ex) (fun r h2 => ∃ (z : Int64), r = some (.long z) ∧ h2 = Wd u g ex ∧ ¬ z = 0) := by
  refine CT_of (by decide) (Nat.le_of_ble_eq_true rfl) (fun x hq => ?_)
  show J x yX11_commonOf cX11_commonOf 10 (some .long) d 0 0 (Wd u g ex).length 0 [(0, .long a), (2, .long b)] [] (Wd u g ex) 0 0
  refine J_lload_n (i := 0) (j := 0) dX11_commonOf_0 rfl rfl ?_
  refine J_lstore (i := 4) (lw := [(4, .long a), (0, .long a), (2, .long b)]) dX11_commonOf_1 (by decide) rfl ?_
  refine J_lload_n (i := 2) (j := 2) dX11_commonOf_3 rfl rfl ?_
  refine J_lstore (i := 6) (lw := [(6, .long b), (4, .long a), (0, .long a), (2, .long b)]) dX11_commonOf_4 (by decide) rfl ?_
  have lp9 : ∀ (n10 : Nat) (w4 : Int64) (w5 : Int64), (¬ w4 = 0 ∨ ¬ w5 = 0) → w4.toInt.natAbs < n10 → J x yX11_commonOf cX11_commonOf 10 (some .long) d 0 0 (Wd u g ex).length 6 [(4, .long w4), (6, .long w5)] [] (Wd u g ex) 0 0 := by
    intro n10
    induction n10 with
    | zero => intro w4 w5 hI13 hm12; exact absurd hm12 (Nat.not_lt_zero _)
    | succ n10 ih11 =>
      intro w4 w5 hI13 hm12
      refine J_lload (i := 4) (j := 0) dX11_commonOf_6 rfl ?_
      refine J_lconst (v := 0) dX11_commonOf_8 (by decide) ?_
      refine J_lcmp dX11_commonOf_9 ?_
      refine J_if_eq (tgt := 31) dX11_commonOf_10 (by decide) (fun c14 => ?_) (fun c14 => ?_)
      · refine J_lload (i := 6) (j := 1) dX11_commonOf_31 rfl ?_
        exact J_lret hq dX11_commonOf_33 rfl wlen (Nat.le_refl _) (Nat.le_refl _) ⟨w5, rfl, rfl, (hI13.resolve_left (fun q => q (lcmp_e c14)))⟩
      · refine J_lload (i := 6) (j := 1) dX11_commonOf_13 rfl ?_
        refine J_lload (i := 4) (j := 0) dX11_commonOf_15 rfl ?_
        refine J_lrem dX11_commonOf_17 (lcmp_ne c14) ?_
        refine J_topl (fun l16 ql16 => ?_)
        refine J_lstore (i := 8) (lw := [(8, .long l16), (4, .long w4), (6, .long w5)]) dX11_commonOf_18 (by decide) rfl ?_
        refine J_lload (i := 4) (j := 1) dX11_commonOf_20 rfl ?_
        refine J_lstore (i := 6) (lw := [(6, .long w4), (8, .long l16), (4, .long w4)]) dX11_commonOf_22 (by decide) rfl ?_
        refine J_lload (i := 8) (j := 1) dX11_commonOf_24 rfl ?_
        refine J_lstore (i := 4) (lw := [(4, .long l16), (6, .long w4), (8, .long l16)]) dX11_commonOf_26 (by decide) rfl ?_
        refine J_goto (tgt := 6) dX11_commonOf_28 (by decide) ?_
        refine J_lv [0, 1] rfl ?_
        exact ih11 l16 w4 (Or.inr (lcmp_ne c14)) (by rw [ql16]; exact Nat.lt_of_lt_of_le (i64_tmod_lt (lcmp_ne c14)) (Nat.le_of_lt_succ hm12))
  refine J_lv [1, 0] rfl ?_
  exact lp9 _ a b hp0 (Nat.lt_succ_self _)
set_option maxHeartbeats 4000000 in
set_option maxRecDepth 100000 in
theorem c_M_given {d : Nat} {u : Nat → Nat → Int32} {g : Nat → Nat → Int64} {ex : List MC} {hill : Int32} {plan : Int32} {one : Int32} {other : Int32} {under : Int32} (hd : 5 ≤ d) (hp0 : (MY u)) (hp1 : AB u 168 (-1) 999) (hp2 : (HD u)) (hp3 : (HC u)) (hp4 : (PL u)) (hp5 : (N0 u)) (hp6 : (DN u)) (hp7 : Bd 0 9 (u 162 22)) (hp8 : Bd 0 511 (u 162 31)) (hp9 : AB u 177 (-1) 999) : CT con0 d 0 0 yX11_given cX11_given 10 (some .long) [.ref 162, .int hill, .int plan, .int one, .int other, .int under] (Wd u g ex) (fun r h2 => ∃ (z : Int64) (u2 : Nat → Nat → Int32), r = some (.long z) ∧ h2 = Wd u2 g ex ∧ Bd 0 9 (u2 162 22) ∧ (DN u2) ∧ (N0 u2) ∧ Bd 0 511 (u2 162 31) ∧ (∀ c, nin c [(162, 162), (172, 175)] = true → u2 c = u c) ∧ (∀ j, j ≠ 0 → j ≠ 22 → j ≠ 23 → j ≠ 24 → j ≠ 25 → j ≠ 26 → j ≠ 27 → j ≠ 31 → j ≠ 32 → j ≠ 33 → u2 162 j = u 162 j)) := by
  refine CT_of (by decide) (Nat.le_of_ble_eq_true rfl) (fun x hq => ?_)
  show J x yX11_given cX11_given 10 (some .long) d 0 0 (Wd u g ex).length 0 [(0, .ref 162), (1, .int hill), (2, .int plan), (3, .int one), (4, .int other), (5, .int under)] [] (Wd u g ex) 0 0
  refine J_aload_n (i := 0) (j := 0) dX11_given_0 rfl rfl ?_
  refine J_iconst (v := 0) dX11_given_1 (by decide) ?_
  obtain ⟨u1, e2⟩ : ∃ z, z = ms u 162 0 0 := ⟨_, rfl⟩
  refine J_put (C := RX11) (T := TX11) (Z := 43) (ci := 11) (f := 0) (ty0 := tyX11) dX11_given_2 inG11 rfl tyX11_ok nmX11 (by decide) k1264 rfl rfl wc_162 (Nat.le_of_ble_eq_true rfl) (fun _ _ => ⟨rfl, rfl⟩) (ws e2 wk_162 rfl) ?_
  refine J_aload_n (i := 0) (j := 0) dX11_given_5 rfl rfl ?_
  refine J_iload_n (i := 1) (j := 1) dX11_given_6 rfl rfl ?_
  refine J_iload_n (i := 2) (j := 2) dX11_given_7 rfl rfl ?_
  refine J_callV (As := [.int hill, .int plan]) (rest := []) dX11_given_8 (c_M_lay (d := 2) (u := u1) (g := g) (ex := ex) (h := hill) (plan := plan)  (by decide) (my_c (ms_c e2 (Nat.ne_of_beq_eq_false rfl)) hp0) (ab_c (ms_c e2 (Nat.ne_of_beq_eq_false rfl)) hp1) (hd_c (ms_c e2 (Nat.ne_of_beq_eq_false rfl)) hp2) (hc_c (ms_c e2 (Nat.ne_of_beq_eq_false rfl)) (ms_c e2 (Nat.ne_of_beq_eq_false rfl)) hp3) (pl_c (ms_c e2 (Nat.ne_of_beq_eq_false rfl)) hp4) (n0_c (ms_c e2 (Nat.ne_of_beq_eq_false rfl)) hp5) (dn_c (ms_c e2 (Nat.ne_of_beq_eq_false rfl)) hp6) (bd_r (ms_i e2 (Nat.ne_of_beq_eq_false rfl)) hp7)) hq.n k1503 k1505 k52 wc_162 rfl rfl k97 k1506 np_X11_lay (Nat.le_trans (by decide) hd) (by decide) (Nat.le_refl _) (Nat.le_refl _) wlen rfl (Nat.le_of_ble_eq_true rfl) (fun r_ h_ p3 => ?_)
  obtain ⟨t4, u5, rfl, rfl, h6, h7, h8, h9, fr10, fc11⟩ := p3
  refine J_ifB_eq (tgt := 31) dX11_given_11 (by decide) (fun c12 => ?_) (fun c12 => ?_)
  · refine J_ldc2 (v := (-1)) dX11_given_31 k1578 ?_
    exact J_lret hq dX11_given_34 rfl wlen (Nat.le_refl _) (Nat.le_refl _) ⟨((-1) : Int64), u5, rfl, rfl, h6, h7, h8, (bd_r ((fc11 31 (Nat.ne_of_beq_eq_false rfl) (Nat.ne_of_beq_eq_false rfl) (Nat.ne_of_beq_eq_false rfl) (Nat.ne_of_beq_eq_false rfl) (Nat.ne_of_beq_eq_false rfl) (Nat.ne_of_beq_eq_false rfl)).trans (ms_i e2 (Nat.ne_of_beq_eq_false rfl))) hp8), (fun c k_ => ((fr10 c (nin_ne (a := 162) k_ rfl) (nin_ne (a := 172) k_ rfl)).trans (ms_c e2 (nin_ne (a := 162) k_ rfl)))), (fun j k0_ k22_ k23_ k24_ k25_ k26_ k27_ k31_ k32_ k33_ => ((fc11 j k22_ k23_ k24_ k25_ k26_ k27_).trans (ms_i e2 k0_)))⟩
  · refine J_aload_n (i := 0) (j := 0) dX11_given_14 rfl rfl ?_
    refine J_iload_n (i := 3) (j := 3) dX11_given_15 rfl rfl ?_
    refine J_callV (As := [.int one]) (rest := []) dX11_given_16 (c_M_isPond (d := 1) (u := u5) (g := g) (ex := ex) (p := one)  (by decide) h6) hq.n k1523 k1525 k57 wc_162 rfl rfl k97 k1526 np_X11_isPond (Nat.le_trans (by decide) hd) (by decide) (Nat.le_refl _) (Nat.le_refl _) wlen rfl (Nat.le_of_ble_eq_true rfl) (fun r_ h_ p13 => ?_)
    obtain ⟨t14, rfl, rfl, h15⟩ := p13
    refine J_ifB_eq (tgt := 31) dX11_given_19 (by decide) (fun c16 => ?_) (fun c16 => ?_)
    · refine J_ldc2 (v := (-1)) dX11_given_31 k1578 ?_
      exact J_lret hq dX11_given_34 rfl wlen (Nat.le_refl _) (Nat.le_refl _) ⟨((-1) : Int64), u5, rfl, rfl, h6, h7, h8, (bd_r ((fc11 31 (Nat.ne_of_beq_eq_false rfl) (Nat.ne_of_beq_eq_false rfl) (Nat.ne_of_beq_eq_false rfl) (Nat.ne_of_beq_eq_false rfl) (Nat.ne_of_beq_eq_false rfl) (Nat.ne_of_beq_eq_false rfl)).trans (ms_i e2 (Nat.ne_of_beq_eq_false rfl))) hp8), (fun c k_ => ((fr10 c (nin_ne (a := 162) k_ rfl) (nin_ne (a := 172) k_ rfl)).trans (ms_c e2 (nin_ne (a := 162) k_ rfl)))), (fun j k0_ k22_ k23_ k24_ k25_ k26_ k27_ k31_ k32_ k33_ => ((fc11 j k22_ k23_ k24_ k25_ k26_ k27_).trans (ms_i e2 k0_)))⟩
    · refine J_aload_n (i := 0) (j := 0) dX11_given_22 rfl rfl ?_
      refine J_iload (i := 4) (j := 4) dX11_given_23 rfl ?_
      refine J_callV (As := [.int other]) (rest := []) dX11_given_25 (c_M_isPond (d := 1) (u := u5) (g := g) (ex := ex) (p := other)  (by decide) h6) hq.n k1523 k1525 k57 wc_162 rfl rfl k97 k1526 np_X11_isPond (Nat.le_trans (by decide) hd) (by decide) (Nat.le_refl _) (Nat.le_refl _) wlen rfl (Nat.le_of_ble_eq_true rfl) (fun r_ h_ p17 => ?_)
      obtain ⟨t18, rfl, rfl, h19⟩ := p17
      refine J_ifB_ne (tgt := 35) dX11_given_28 (by decide) (fun c20 => ?_) (fun c20 => ?_)
      · refine J_aload_n (i := 0) (j := 0) dX11_given_35 rfl rfl ?_
        refine J_iconst (v := 1) dX11_given_36 (by decide) ?_
        refine J_iload_n (i := 3) (j := 3) dX11_given_37 rfl rfl ?_
        refine J_ishl dX11_given_38 ?_
        refine J_callV (As := [.int ((1 : Int32) <<< (one &&& 31))]) (rest := []) dX11_given_39 (c_M_together (d := 4) (u := u5) (g := g) (ex := ex) (set := ((1 : Int32) <<< (one &&& 31)))  (by decide) h6 (h9 c12).1 h7 (bd_r ((fc11 31 (Nat.ne_of_beq_eq_false rfl) (Nat.ne_of_beq_eq_false rfl) (Nat.ne_of_beq_eq_false rfl) (Nat.ne_of_beq_eq_false rfl) (Nat.ne_of_beq_eq_false rfl) (Nat.ne_of_beq_eq_false rfl)).trans (ms_i e2 (Nat.ne_of_beq_eq_false rfl))) hp8)) hq.n k1759 k1761 k84 wc_162 rfl rfl k97 k1762 np_X11_together (Nat.le_trans (by decide) hd) (by decide) (Nat.le_refl _) (Nat.le_refl _) wlen rfl (Nat.le_of_ble_eq_true rfl) (fun r_ h_ p21 => ?_)
        obtain ⟨l22, u23, rfl, rfl, h24, fr25, fc26⟩ := p21
        refine J_lstore (i := 6) (lw := [(6, .long l22), (0, .ref 162), (1, .int hill), (2, .int plan), (3, .int one), (4, .int other), (5, .int under)]) dX11_given_42 (by decide) rfl ?_
        refine J_lload (i := 6) (j := 0) dX11_given_44 rfl ?_
        refine J_lconst (v := 0) dX11_given_46 (by decide) ?_
        refine J_lcmp dX11_given_47 ?_
        refine J_if_ne (tgt := 55) dX11_given_48 (by decide) (fun c27 => ?_) (fun c27 => ?_)
        · refine J_aload_n (i := 0) (j := 1) dX11_given_55 rfl rfl ?_
          refine J_iconst (v := 1) dX11_given_56 (by decide) ?_
          refine J_iload_n (i := 3) (j := 4) dX11_given_57 rfl rfl ?_
          refine J_ishl dX11_given_58 ?_
          refine J_iconst (v := 1) dX11_given_59 (by decide) ?_
          refine J_iload (i := 4) (j := 5) dX11_given_60 rfl ?_
          refine J_ishl dX11_given_62 ?_
          refine J_ior dX11_given_63 ?_
          refine J_callV (As := [.int (((1 : Int32) <<< (one &&& 31)) ||| ((1 : Int32) <<< (other &&& 31)))]) (rest := []) dX11_given_64 (c_M_together (d := 4) (u := u23) (g := g) (ex := ex) (set := (((1 : Int32) <<< (one &&& 31)) ||| ((1 : Int32) <<< (other &&& 31))))  (by decide) (bd_r (fc26 22 (Nat.ne_of_beq_eq_false rfl) (Nat.ne_of_beq_eq_false rfl) (Nat.ne_of_beq_eq_false rfl)) h6) (rc_c (fr25 172 rfl) (h9 c12).1) (dn_c (fr25 172 rfl) h7) h24) hq.n k1759 k1761 k84 wc_162 rfl rfl k97 k1762 np_X11_together (Nat.le_trans (by decide) hd) (by decide) (Nat.le_refl _) (Nat.le_refl _) wlen rfl (Nat.le_of_ble_eq_true rfl) (fun r_ h_ p28 => ?_)
          obtain ⟨l29, u30, rfl, rfl, h31, fr32, fc33⟩ := p28
          refine J_lstore (i := 8) (lw := [(8, .long l29), (6, .long l22), (0, .ref 162), (1, .int hill), (2, .int plan), (3, .int one), (4, .int other), (5, .int under)]) dX11_given_67 (by decide) rfl ?_
          refine J_iload (i := 5) (j := 7) dX11_given_69 rfl ?_
          have jn36 : ∀ (w35 : Int64), J x yX11_given cX11_given 10 (some .long) d 0 0 (Wd u g ex).length 81 [(6, .long l22), (8, .long l29)] [.long w35] (Wd u30 g ex) 0 0 := by
            intro w35
            refine J_lload (i := 8) (j := 1) dX11_given_81 rfl ?_
            refine J_lload (i := 6) (j := 0) dX11_given_83 rfl ?_
            refine J_callS (As := [.long l29, .long l22]) (rest := [.long w35]) dX11_given_85 (c_M_commonOf (d := 0) (u := u30) (g := g) (ex := ex) (a := l29) (b := l22)  (by decide) (Or.inr (lcmp_ne c27))) hq.n k1767 k1768 k97 k1769 np_X11_commonOf (Nat.le_trans (by decide) hd) (by decide) (Nat.le_refl _) (Nat.le_refl _) wlen rfl (Nat.le_of_ble_eq_true rfl) (fun r_ h_ p37 => ?_)
            obtain ⟨l38, rfl, rfl, h39⟩ := p37
            refine J_ldiv dX11_given_88 h39 ?_
            refine J_topl (fun l40 _ => ?_)
            exact J_lret hq dX11_given_89 rfl wlen (Nat.le_refl _) (Nat.le_refl _) ⟨l40, u30, rfl, rfl, (bd_r ((fc33 22 (Nat.ne_of_beq_eq_false rfl) (Nat.ne_of_beq_eq_false rfl) (Nat.ne_of_beq_eq_false rfl)).trans (fc26 22 (Nat.ne_of_beq_eq_false rfl) (Nat.ne_of_beq_eq_false rfl) (Nat.ne_of_beq_eq_false rfl))) h6), (dn_c ((fr32 172 rfl).trans (fr25 172 rfl)) h7), (n0_c ((fr32 172 rfl).trans (fr25 172 rfl)) h8), h31, (fun c k_ => ((fr32 c (nin_sub (M := [(162, 162), (173, 175)]) k_ rfl)).trans ((fr25 c (nin_sub (M := [(162, 162), (173, 175)]) k_ rfl)).trans ((fr10 c (nin_ne (a := 162) k_ rfl) (nin_ne (a := 172) k_ rfl)).trans (ms_c e2 (nin_ne (a := 162) k_ rfl)))))), (fun j k0_ k22_ k23_ k24_ k25_ k26_ k27_ k31_ k32_ k33_ => ((fc33 j k31_ k32_ k33_).trans ((fc26 j k31_ k32_ k33_).trans ((fc11 j k22_ k23_ k24_ k25_ k26_ k27_).trans (ms_i e2 k0_)))))⟩
          refine J_if_eq (tgt := 79) dX11_given_71 (by decide) (fun c34 => ?_) (fun c34 => ?_)
          · refine J_lload (i := 8) (j := 0) dX11_given_79 rfl ?_
            refine J_lv [1, 0] rfl ?_
            exact jn36 l29 
          · refine J_lload (i := 6) (j := 1) dX11_given_74 rfl ?_
            refine J_goto (tgt := 81) dX11_given_76 (by decide) ?_
            refine J_lv [1, 0] rfl ?_
            exact jn36 l22 
        · refine J_ldc2 (v := (-1)) dX11_given_51 k1578 ?_
          exact J_lret hq dX11_given_54 rfl wlen (Nat.le_refl _) (Nat.le_refl _) ⟨((-1) : Int64), u23, rfl, rfl, (bd_r (fc26 22 (Nat.ne_of_beq_eq_false rfl) (Nat.ne_of_beq_eq_false rfl) (Nat.ne_of_beq_eq_false rfl)) h6), (dn_c (fr25 172 rfl) h7), (n0_c (fr25 172 rfl) h8), h24, (fun c k_ => ((fr25 c (nin_sub (M := [(162, 162), (173, 175)]) k_ rfl)).trans ((fr10 c (nin_ne (a := 162) k_ rfl) (nin_ne (a := 172) k_ rfl)).trans (ms_c e2 (nin_ne (a := 162) k_ rfl))))), (fun j k0_ k22_ k23_ k24_ k25_ k26_ k27_ k31_ k32_ k33_ => ((fc26 j k31_ k32_ k33_).trans ((fc11 j k22_ k23_ k24_ k25_ k26_ k27_).trans (ms_i e2 k0_))))⟩
      · refine J_ldc2 (v := (-1)) dX11_given_31 k1578 ?_
        exact J_lret hq dX11_given_34 rfl wlen (Nat.le_refl _) (Nat.le_refl _) ⟨((-1) : Int64), u5, rfl, rfl, h6, h7, h8, (bd_r ((fc11 31 (Nat.ne_of_beq_eq_false rfl) (Nat.ne_of_beq_eq_false rfl) (Nat.ne_of_beq_eq_false rfl) (Nat.ne_of_beq_eq_false rfl) (Nat.ne_of_beq_eq_false rfl) (Nat.ne_of_beq_eq_false rfl)).trans (ms_i e2 (Nat.ne_of_beq_eq_false rfl))) hp8), (fun c k_ => ((fr10 c (nin_ne (a := 162) k_ rfl) (nin_ne (a := 172) k_ rfl)).trans (ms_c e2 (nin_ne (a := 162) k_ rfl)))), (fun j k0_ k22_ k23_ k24_ k25_ k26_ k27_ k31_ k32_ k33_ => ((fc11 j k22_ k23_ k24_ k25_ k26_ k27_).trans (ms_i e2 k0_)))⟩
set_option maxHeartbeats 4000000 in
set_option maxRecDepth 100000 in
theorem c_M_hasE {d : Nat} {u : Nat → Nat → Int32} {g : Nat → Nat → Int64} {ex : List MC} {set : Int32} {k : Int32} (hd : 0 ≤ d)  : CT con0 d 0 0 yX11_has cX11_has 2 (some .boolean) [.int set, .int k] (Wd u g ex) (fun r h2 => ∃ (z : Bool), r = some (.int (bI z)) ∧ h2 = Wd u g ex ∧ (z = true ↔ ((set >>> (k &&& 31)) &&& 1) = 1)) := by
  refine CT_of (by decide) (Nat.le_of_ble_eq_true rfl) (fun x hq => ?_)
  show J x yX11_has cX11_has 2 (some .boolean) d 0 0 (Wd u g ex).length 0 [(0, .int set), (1, .int k)] [] (Wd u g ex) 0 0
  refine J_iload_n (i := 0) (j := 0) dX11_has_0 rfl rfl ?_
  refine J_iload_n (i := 1) (j := 1) dX11_has_1 rfl rfl ?_
  refine J_ishr dX11_has_2 ?_
  refine J_iconst (v := 1) dX11_has_3 (by decide) ?_
  refine J_iand dX11_has_4 ?_
  refine J_iconst (v := 1) dX11_has_5 (by decide) ?_
  refine J_icmp_ne (tgt := 13) dX11_has_6 (by decide) (fun c1 => ?_) (fun c1 => ?_)
  · refine J_iconst (v := 0) dX11_has_13 (by decide) ?_
    exact J_zret hq dX11_has_14 rfl rfl wlen (Nat.le_refl _) (Nat.le_refl _) ⟨false, rfl, rfl, ⟨fun q => absurd q (by decide), fun q => absurd q c1⟩⟩
  · refine J_iconst (v := 1) dX11_has_9 (by decide) ?_
    refine J_goto (tgt := 14) dX11_has_10 (by decide) ?_
    exact J_zret hq dX11_has_14 rfl rfl wlen (Nat.le_refl _) (Nat.le_refl _) ⟨true, rfl, rfl, ⟨fun _ => c1, fun _ => rfl⟩⟩
set_option maxHeartbeats 4000000 in
set_option maxRecDepth 100000 in
theorem c_M_nextOf {d : Nat} {u : Nat → Nat → Int32} {g : Nat → Nat → Int64} {ex : List MC} {some0 : Int32} {set : Int32} {left : Int32} (hd : 6 ≤ d) (hp0 : Bd 0 9 (u 162 22)) (hp1 : (RC u)) (hp2 : (DN u)) (hp3 : Bd 0 511 (u 162 31)) (hp4 : AB u 172 (-1) 999) (hp5 : AB u 177 (-1) 999) (hp6 : (N0 u)) : CT con0 d 0 0 yX11_nextOf cX11_nextOf 14 (some .int) [.ref 162, .int some0, .int set, .int left] (Wd u g ex) (fun r h2 => ∃ (z : Int32) (u2 : Nat → Nat → Int32), r = some (.int z) ∧ h2 = Wd u2 g ex ∧ Bd (-1) 8 z ∧ Bd 0 511 (u2 162 31) ∧ AB u2 172 (-1) 999 ∧ (DN u2) ∧ (RC u2) ∧ (N0 u2) ∧ (z = -1 ∨ ¬ ((set >>> (z &&& 31)) &&& 1) = 1) ∧ (∀ c, nin c [(162, 162), (172, 175)] = true → u2 c = u c) ∧ (∀ j, j ≠ 31 → j ≠ 32 → j ≠ 33 → u2 162 j = u 162 j)) := by
  refine CT_of (by decide) (Nat.le_of_ble_eq_true rfl) (fun x hq => ?_)
  show J x yX11_nextOf cX11_nextOf 14 (some .int) d 0 0 (Wd u g ex).length 0 [(0, .ref 162), (1, .int some0), (2, .int set), (3, .int left)] [] (Wd u g ex) 0 0
  refine J_aload_n (i := 0) (j := 0) dX11_nextOf_0 rfl rfl ?_
  refine J_iload_n (i := 2) (j := 2) dX11_nextOf_1 rfl rfl ?_
  refine J_iconst (v := (-1)) dX11_nextOf_2 (by decide) ?_
  refine J_callV (As := [.int set, .int (-1)]) (rest := []) dX11_nextOf_3 (c_M_meanMendedN (d := 5) (u := u) (g := g) (ex := ex) (set := set) (owner := (-1))  (by decide) hp0 hp1 hp2 hp3 hp4 hp5 hp6) hq.n k1627 k1629 k72 wc_162 rfl rfl k97 k1630 np_X11_meanMended (Nat.le_trans (by decide) hd) (by decide) (Nat.le_refl _) (Nat.le_refl _) wlen rfl (Nat.le_of_ble_eq_true rfl) (fun r_ h_ p1 => ?_)
  obtain ⟨l2, u3, rfl, rfl, h4, h5, h6, h7, h8, fr9, fc10⟩ := p1
  refine J_lstore (i := 4) (lw := [(4, .long l2), (0, .ref 162), (1, .int some0), (2, .int set), (3, .int left)]) dX11_nextOf_6 (by decide) rfl ?_
  refine J_iconst (v := (-1)) dX11_nextOf_8 (by decide) ?_
  refine J_istore (i := 6) (lw := [(6, .int (-1)), (4, .long l2), (0, .ref 162), (1, .int some0), (2, .int set), (3, .int left)]) dX11_nextOf_9 (by decide) rfl ?_
  refine J_lconst (v := 0) dX11_nextOf_11 (by decide) ?_
  refine J_lstore (i := 7) (lw := [(7, .long 0), (6, .int (-1)), (4, .long l2), (0, .ref 162), (1, .int some0), (2, .int set), (3, .int left)]) dX11_nextOf_12 (by decide) rfl ?_
  refine J_iconst (v := 0) dX11_nextOf_14 (by decide) ?_
  refine J_istore (i := 9) (lw := [(9, .int 0), (7, .long 0), (6, .int (-1)), (4, .long l2), (0, .ref 162), (1, .int some0), (2, .int set), (3, .int left)]) dX11_nextOf_15 (by decide) rfl ?_
  refine J_iconst (v := 0) dX11_nextOf_17 (by decide) ?_
  refine J_istore (i := 10) (lw := [(10, .int 0), (9, .int 0), (7, .long 0), (6, .int (-1)), (4, .long l2), (0, .ref 162), (1, .int some0), (2, .int set), (3, .int left)]) dX11_nextOf_18 (by decide) rfl ?_
  have lp156 : ∀ (n157 : Nat) (w115 : Int32) (w116 : Int64) (w117 : Int32) (w118 : Int32) (u119 : Nat → Nat → Int32), Bd (-1) 8 w115 → Bd 0 9 w118 → (∀ c, nin c [(162, 162), (172, 175)] = true → u119 c = u3 c) → (∀ j, j ≠ 31 → j ≠ 32 → j ≠ 33 → u119 162 j = u3 162 j) → Bd 0 511 (u119 162 31) → AB u119 172 (-1) 999 → DN u119 → N0 u119 → RC u119 → (w115 = -1 ∨ ¬ ((set >>> (w115 &&& 31)) &&& 1) = 1) → (9 - w118.toInt).toNat < n157 → J x yX11_nextOf cX11_nextOf 14 (some .int) d 0 0 (Wd u g ex).length 20 [(0, .ref 162), (1, .int some0), (2, .int set), (3, .int left), (4, .long l2), (6, .int w115), (7, .long w116), (9, .int w117), (10, .int w118)] [] (Wd u119 g ex) 0 0 := by
    intro n157
    induction n157 with
    | zero => intro w115 w116 w117 w118 u119 bw115 bw118 fr120 fc121 bm122 ab123 rf124 rf125 rf126 hI160 hm159; exact absurd hm159 (Nat.not_lt_zero _)
    | succ n157 ih158 =>
      intro w115 w116 w117 w118 u119 bw115 bw118 fr120 fc121 bm122 ab123 rf124 rf125 rf126 hI160 hm159
      refine J_iload (i := 10) (j := 8) dX11_nextOf_20 rfl ?_
      refine J_bipush (v := 9) dX11_nextOf_22 (by decide) ?_
      refine J_icmp_ge (tgt := 153) dX11_nextOf_24 (by decide) (fun c161 => ?_) (fun c161 => ?_)
      · refine J_iload (i := 6) (j := 5) dX11_nextOf_153 rfl ?_
        exact J_iret hq dX11_nextOf_155 rfl wlen (Nat.le_refl _) (Nat.le_refl _) ⟨w115, u119, rfl, rfl, bw115, bm122, ab123, rf124, rf126, rf125, hI160, (fun c k_ => ((fr120 c (nin_sub (M := [(162, 162), (172, 175)]) k_ rfl)).trans (fr9 c (nin_sub (M := [(162, 162), (172, 175)]) k_ rfl)))), (fun j k31_ k32_ k33_ => ((fc121 j k31_ k32_ k33_).trans (fc10 j k31_ k32_ k33_)))⟩
      · refine J_iload_n (i := 1) (j := 1) dX11_nextOf_27 rfl rfl ?_
        refine J_iload (i := 10) (j := 8) dX11_nextOf_28 rfl ?_
        refine J_callS (As := [.int some0, .int w118]) (rest := []) dX11_nextOf_30 (c_M_hasE (d := 0) (u := u119) (g := g) (ex := ex) (set := some0) (k := w118)  (by decide) ) hq.n k1555 k1556 k97 k1557 np_X11_has (Nat.le_trans (by decide) hd) (by decide) (Nat.le_refl _) (Nat.le_refl _) wlen rfl (Nat.le_of_ble_eq_true rfl) (fun r_ h_ p162 => ?_)
        obtain ⟨t163, rfl, rfl, h164⟩ := p162
        refine J_ifB_eq (tgt := 147) dX11_nextOf_33 (by decide) (fun c165 => ?_) (fun c165 => ?_)
        · refine J_iinc (i := 10) (j := 8) (v := (w118 + 1)) (lw := [(10, .int (w118 + 1)), (0, .ref 162), (1, .int some0), (2, .int set), (3, .int left), (4, .long l2), (6, .int w115), (7, .long w116), (9, .int w117)]) dX11_nextOf_147 rfl rfl (by decide) rfl ?_
          refine J_goto (tgt := 20) dX11_nextOf_150 (by decide) ?_
          refine J_lv [1, 2, 3, 4, 5, 6, 7, 8, 0] rfl ?_
          exact ih158 w115 w116 w117 (w118 + 1) u119 bw115 (bd_w (l := 0) (h := 9) (bd_add (l := 1) (h := 9) (bd_lt_hi bw118 (i_nle c161) (bd_c (v := 9) (lo := 9) (hi := 9) (by decide))) (bd_c (v := 1) (lo := 1) (hi := 1) (by decide)) (by decide)) (by decide)) (fun c k_ => (fr120 c (nin_sub (M := [(162, 162), (172, 175)]) k_ rfl))) (fun j k31_ k32_ k33_ => (fc121 j k31_ k32_ k33_)) bm122 ab123 rf124 rf125 rf126 hI160 (mu_up 1 bw118 rfl (by decide) (bd_w (l := 1) (h := 9) (bd_add (l := 1) (h := 9) (bd_lt_hi bw118 (i_nle c161) (bd_c (v := 9) (lo := 9) (hi := 9) (by decide))) (bd_c (v := 1) (lo := 1) (hi := 1) (by decide)) (by decide)) (by decide)) hm159)
        · refine J_iload_n (i := 2) (j := 2) dX11_nextOf_36 rfl rfl ?_
          refine J_iload (i := 10) (j := 8) dX11_nextOf_37 rfl ?_
          refine J_callS (As := [.int set, .int w118]) (rest := []) dX11_nextOf_39 (c_M_hasE (d := 0) (u := u119) (g := g) (ex := ex) (set := set) (k := w118)  (by decide) ) hq.n k1555 k1556 k97 k1557 np_X11_has (Nat.le_trans (by decide) hd) (by decide) (Nat.le_refl _) (Nat.le_refl _) wlen rfl (Nat.le_of_ble_eq_true rfl) (fun r_ h_ p166 => ?_)
          obtain ⟨t167, rfl, rfl, h168⟩ := p166
          refine J_ifB_ne (tgt := 147) dX11_nextOf_42 (by decide) (fun c169 => ?_) (fun c169 => ?_)
          · refine J_iinc (i := 10) (j := 8) (v := (w118 + 1)) (lw := [(10, .int (w118 + 1)), (0, .ref 162), (1, .int some0), (2, .int set), (3, .int left), (4, .long l2), (6, .int w115), (7, .long w116), (9, .int w117)]) dX11_nextOf_147 rfl rfl (by decide) rfl ?_
            refine J_goto (tgt := 20) dX11_nextOf_150 (by decide) ?_
            refine J_lv [1, 2, 3, 4, 5, 6, 7, 8, 0] rfl ?_
            exact ih158 w115 w116 w117 (w118 + 1) u119 bw115 (bd_w (l := 0) (h := 9) (bd_add (l := 1) (h := 9) (bd_lt_hi bw118 (i_nle c161) (bd_c (v := 9) (lo := 9) (hi := 9) (by decide))) (bd_c (v := 1) (lo := 1) (hi := 1) (by decide)) (by decide)) (by decide)) (fun c k_ => (fr120 c (nin_sub (M := [(162, 162), (172, 175)]) k_ rfl))) (fun j k31_ k32_ k33_ => (fc121 j k31_ k32_ k33_)) bm122 ab123 rf124 rf125 rf126 hI160 (mu_up 1 bw118 rfl (by decide) (bd_w (l := 1) (h := 9) (bd_add (l := 1) (h := 9) (bd_lt_hi bw118 (i_nle c161) (bd_c (v := 9) (lo := 9) (hi := 9) (by decide))) (bd_c (v := 1) (lo := 1) (hi := 1) (by decide)) (by decide)) (by decide)) hm159)
          · refine J_aload_n (i := 0) (j := 0) dX11_nextOf_45 rfl rfl ?_
            refine J_get (C := RX11) (T := TX11) (Z := 43) (ci := 11) (f := 35) dX11_nextOf_46 inG11 rfl (by decide) k1299 wc_162 rfl ?_
            refine J_iload (i := 10) (j := 8) dX11_nextOf_49 rfl ?_
            refine J_iald dX11_nextOf_51 wc_177 (vin (bd_lt_hi bw118 (i_nle c161) (bd_c (v := 9) (lo := 9) (hi := 9) (by decide))) (by decide)) ?_
            refine J_topi (fun v170 qv170 => ?_)
            refine J_if_eq (tgt := 147) dX11_nextOf_52 (by decide) (fun c171 => ?_) (fun c171 => ?_)
            · refine J_iinc (i := 10) (j := 8) (v := (w118 + 1)) (lw := [(10, .int (w118 + 1)), (0, .ref 162), (1, .int some0), (2, .int set), (3, .int left), (4, .long l2), (6, .int w115), (7, .long w116), (9, .int w117)]) dX11_nextOf_147 rfl rfl (by decide) rfl ?_
              refine J_goto (tgt := 20) dX11_nextOf_150 (by decide) ?_
              refine J_lv [1, 2, 3, 4, 5, 6, 7, 8, 0] rfl ?_
              exact ih158 w115 w116 w117 (w118 + 1) u119 bw115 (bd_w (l := 0) (h := 9) (bd_add (l := 1) (h := 9) (bd_lt_hi bw118 (i_nle c161) (bd_c (v := 9) (lo := 9) (hi := 9) (by decide))) (bd_c (v := 1) (lo := 1) (hi := 1) (by decide)) (by decide)) (by decide)) (fun c k_ => (fr120 c (nin_sub (M := [(162, 162), (172, 175)]) k_ rfl))) (fun j k31_ k32_ k33_ => (fc121 j k31_ k32_ k33_)) bm122 ab123 rf124 rf125 rf126 hI160 (mu_up 1 bw118 rfl (by decide) (bd_w (l := 1) (h := 9) (bd_add (l := 1) (h := 9) (bd_lt_hi bw118 (i_nle c161) (bd_c (v := 9) (lo := 9) (hi := 9) (by decide))) (bd_c (v := 1) (lo := 1) (hi := 1) (by decide)) (by decide)) (by decide)) hm159)
            · refine J_aload_n (i := 0) (j := 0) dX11_nextOf_55 rfl rfl ?_
              refine J_get (C := RX11) (T := TX11) (Z := 43) (ci := 11) (f := 35) dX11_nextOf_56 inG11 rfl (by decide) k1299 wc_162 rfl ?_
              refine J_iload (i := 10) (j := 8) dX11_nextOf_59 rfl ?_
              refine J_iald dX11_nextOf_61 wc_177 (vin (bd_lt_hi bw118 (i_nle c161) (bd_c (v := 9) (lo := 9) (hi := 9) (by decide))) (by decide)) ?_
              refine J_ci (v := v170) qv170.symm ?_
              refine J_aload_n (i := 0) (j := 0) dX11_nextOf_62 rfl rfl ?_
              refine J_get (C := RX11) (T := TX11) (Z := 43) (ci := 11) (f := 21) dX11_nextOf_63 inG11 rfl (by decide) k1285 wc_162 rfl ?_
              refine J_iconst (v := 2) dX11_nextOf_66 (by decide) ?_
              refine J_iald dX11_nextOf_67 wc_172 (vin (bd_c (v := 2) (lo := 2) (hi := 2) (by decide)) (by decide)) ?_
              refine J_ci (v := u119 172 2) rfl ?_
              refine J_imul dX11_nextOf_68 ?_
              refine J_iload_n (i := 3) (j := 3) dX11_nextOf_69 rfl rfl ?_
              refine J_icmp_le (tgt := 76) dX11_nextOf_70 (by decide) (fun c172 => ?_) (fun c172 => ?_)
              · refine J_lload (i := 4) (j := 4) dX11_nextOf_76 rfl ?_
                refine J_aload_n (i := 0) (j := 0) dX11_nextOf_78 rfl rfl ?_
                refine J_iload_n (i := 2) (j := 2) dX11_nextOf_79 rfl rfl ?_
                refine J_iconst (v := 1) dX11_nextOf_80 (by decide) ?_
                refine J_iload (i := 10) (j := 8) dX11_nextOf_81 rfl ?_
                refine J_ishl dX11_nextOf_83 ?_
                refine J_ior dX11_nextOf_84 ?_
                refine J_iconst (v := (-1)) dX11_nextOf_85 (by decide) ?_
                refine J_callV (As := [.int (set ||| ((1 : Int32) <<< (w118 &&& 31))), .int (-1)]) (rest := [.long l2]) dX11_nextOf_86 (c_M_meanMendedN (d := 5) (u := u119) (g := g) (ex := ex) (set := (set ||| ((1 : Int32) <<< (w118 &&& 31)))) (owner := (-1))  (by decide) (bd_r ((fc121 22 (Nat.ne_of_beq_eq_false rfl) (Nat.ne_of_beq_eq_false rfl) (Nat.ne_of_beq_eq_false rfl)).trans (fc10 22 (Nat.ne_of_beq_eq_false rfl) (Nat.ne_of_beq_eq_false rfl) (Nat.ne_of_beq_eq_false rfl))) hp0) rf126 rf124 bm122 ab123 (ab_c ((fr120 177 rfl).trans (fr9 177 rfl)) hp5) rf125) hq.n k1627 k1629 k72 wc_162 rfl rfl k97 k1630 np_X11_meanMended (Nat.le_trans (by decide) hd) (by decide) (Nat.le_refl _) (Nat.le_refl _) wlen rfl (Nat.le_of_ble_eq_true rfl) (fun r_ h_ p173 => ?_)
                obtain ⟨l174, u175, rfl, rfl, h176, h177, h178, h179, h180, fr181, fc182⟩ := p173
                refine J_lsub dX11_nextOf_89 ?_
                refine J_topl (fun l183 _ => ?_)
                refine J_lstore (i := 11) (lw := [(11, .long l183), (0, .ref 162), (1, .int some0), (2, .int set), (3, .int left), (4, .long l2), (6, .int w115), (7, .long w116), (9, .int w117), (10, .int w118)]) dX11_nextOf_90 (by decide) rfl ?_
                refine J_aload_n (i := 0) (j := 1) dX11_nextOf_92 rfl rfl ?_
                refine J_get (C := RX11) (T := TX11) (Z := 43) (ci := 11) (f := 35) dX11_nextOf_93 inG11 rfl (by decide) k1299 wc_162 rfl ?_
                refine J_iload (i := 10) (j := 9) dX11_nextOf_96 rfl ?_
                refine J_iald dX11_nextOf_98 wc_177 (vin (bd_lt_hi bw118 (i_nle c161) (bd_c (v := 9) (lo := 9) (hi := 9) (by decide))) (by decide)) ?_
                refine J_topi (fun v184 qv184 => ?_)
                refine J_aload_n (i := 0) (j := 1) dX11_nextOf_99 rfl rfl ?_
                refine J_get (C := RX11) (T := TX11) (Z := 43) (ci := 11) (f := 21) dX11_nextOf_100 inG11 rfl (by decide) k1285 wc_162 rfl ?_
                refine J_iconst (v := 2) dX11_nextOf_103 (by decide) ?_
                refine J_iald dX11_nextOf_104 wc_172 (vin (bd_c (v := 2) (lo := 2) (hi := 2) (by decide)) (by decide)) ?_
                refine J_ci (v := u175 172 2) rfl ?_
                refine J_imul dX11_nextOf_105 ?_
                refine J_istore (i := 13) (lw := [(13, .int (v184 * (u175 172 2))), (11, .long l183), (0, .ref 162), (1, .int some0), (2, .int set), (3, .int left), (4, .long l2), (6, .int w115), (7, .long w116), (9, .int w117), (10, .int w118)]) dX11_nextOf_106 (by decide) rfl ?_
                refine J_lload (i := 11) (j := 1) dX11_nextOf_108 rfl ?_
                refine J_lconst (v := 0) dX11_nextOf_110 (by decide) ?_
                refine J_lcmp dX11_nextOf_111 ?_
                refine J_if_le (tgt := 147) dX11_nextOf_112 (by decide) (fun c185 => ?_) (fun c185 => ?_)
                · refine J_iinc (i := 10) (j := 10) (v := (w118 + 1)) (lw := [(10, .int (w118 + 1)), (13, .int (v184 * (u175 172 2))), (11, .long l183), (0, .ref 162), (1, .int some0), (2, .int set), (3, .int left), (4, .long l2), (6, .int w115), (7, .long w116), (9, .int w117)]) dX11_nextOf_147 rfl rfl (by decide) rfl ?_
                  refine J_goto (tgt := 20) dX11_nextOf_150 (by decide) ?_
                  refine J_lv [3, 4, 5, 6, 7, 8, 9, 10, 0] rfl ?_
                  exact ih158 w115 w116 w117 (w118 + 1) u175 bw115 (bd_w (l := 0) (h := 9) (bd_add (l := 1) (h := 9) (bd_lt_hi bw118 (i_nle c161) (bd_c (v := 9) (lo := 9) (hi := 9) (by decide))) (bd_c (v := 1) (lo := 1) (hi := 1) (by decide)) (by decide)) (by decide)) (fun c k_ => ((fr181 c (nin_sub (M := [(162, 162), (172, 175)]) k_ rfl)).trans (fr120 c (nin_sub (M := [(162, 162), (172, 175)]) k_ rfl)))) (fun j k31_ k32_ k33_ => ((fc182 j k31_ k32_ k33_).trans (fc121 j k31_ k32_ k33_))) h176 h177 h178 h180 h179 hI160 (mu_up 1 bw118 rfl (by decide) (bd_w (l := 1) (h := 9) (bd_add (l := 1) (h := 9) (bd_lt_hi bw118 (i_nle c161) (bd_c (v := 9) (lo := 9) (hi := 9) (by decide))) (bd_c (v := 1) (lo := 1) (hi := 1) (by decide)) (by decide)) (by decide)) hm159)
                · refine J_iload (i := 6) (j := 7) dX11_nextOf_115 rfl ?_
                  refine J_iconst (v := (-1)) dX11_nextOf_117 (by decide) ?_
                  refine J_icmp_eq (tgt := 135) dX11_nextOf_118 (by decide) (fun c186 => ?_) (fun c186 => ?_)
                  · refine J_iload (i := 10) (j := 10) dX11_nextOf_135 rfl ?_
                    refine J_istore (i := 6) (lw := [(6, .int w118), (13, .int (v184 * (u175 172 2))), (11, .long l183), (0, .ref 162), (1, .int some0), (2, .int set), (3, .int left), (4, .long l2), (7, .long w116), (9, .int w117), (10, .int w118)]) dX11_nextOf_137 (by decide) rfl ?_
                    refine J_lload (i := 11) (j := 2) dX11_nextOf_139 rfl ?_
                    refine J_lstore (i := 7) (lw := [(7, .long l183), (6, .int w118), (13, .int (v184 * (u175 172 2))), (11, .long l183), (0, .ref 162), (1, .int some0), (2, .int set), (3, .int left), (4, .long l2), (9, .int w117), (10, .int w118)]) dX11_nextOf_141 (by decide) rfl ?_
                    refine J_iload (i := 13) (j := 2) dX11_nextOf_143 rfl ?_
                    refine J_istore (i := 9) (lw := [(9, .int (v184 * (u175 172 2))), (7, .long l183), (6, .int w118), (13, .int (v184 * (u175 172 2))), (11, .long l183), (0, .ref 162), (1, .int some0), (2, .int set), (3, .int left), (4, .long l2), (10, .int w118)]) dX11_nextOf_145 (by decide) rfl ?_
                    refine J_iinc (i := 10) (j := 10) (v := (w118 + 1)) (lw := [(10, .int (w118 + 1)), (9, .int (v184 * (u175 172 2))), (7, .long l183), (6, .int w118), (13, .int (v184 * (u175 172 2))), (11, .long l183), (0, .ref 162), (1, .int some0), (2, .int set), (3, .int left), (4, .long l2)]) dX11_nextOf_147 rfl rfl (by decide) rfl ?_
                    refine J_goto (tgt := 20) dX11_nextOf_150 (by decide) ?_
                    refine J_lv [6, 7, 8, 9, 10, 3, 2, 1, 0] rfl ?_
                    exact ih158 w118 l183 (v184 * (u175 172 2)) (w118 + 1) u175 (bd_w (l := (-1)) (h := 8) (bd_lt_hi bw118 (i_nle c161) (bd_c (v := 9) (lo := 9) (hi := 9) (by decide))) (by decide)) (bd_w (l := 0) (h := 9) (bd_add (l := 1) (h := 9) (bd_lt_hi bw118 (i_nle c161) (bd_c (v := 9) (lo := 9) (hi := 9) (by decide))) (bd_c (v := 1) (lo := 1) (hi := 1) (by decide)) (by decide)) (by decide)) (fun c k_ => ((fr181 c (nin_sub (M := [(162, 162), (172, 175)]) k_ rfl)).trans (fr120 c (nin_sub (M := [(162, 162), (172, 175)]) k_ rfl)))) (fun j k31_ k32_ k33_ => ((fc182 j k31_ k32_ k33_).trans (fc121 j k31_ k32_ k33_))) h176 h177 h178 h180 h179 (Or.inr (fun e => absurd ((h168.mpr e).symm.trans c169) (by decide))) (mu_up 1 bw118 rfl (by decide) (bd_w (l := 1) (h := 9) (bd_add (l := 1) (h := 9) (bd_lt_hi bw118 (i_nle c161) (bd_c (v := 9) (lo := 9) (hi := 9) (by decide))) (bd_c (v := 1) (lo := 1) (hi := 1) (by decide)) (by decide)) (by decide)) hm159)
                  · refine J_lload (i := 11) (j := 1) dX11_nextOf_121 rfl ?_
                    refine J_iload (i := 13) (j := 0) dX11_nextOf_123 rfl ?_
                    refine J_lload (i := 7) (j := 8) dX11_nextOf_125 rfl ?_
                    refine J_iload (i := 9) (j := 9) dX11_nextOf_127 rfl ?_
                    refine J_callS (As := [.long l183, .int (v184 * (u175 172 2)), .long w116, .int w117]) (rest := []) dX11_nextOf_129 (c_M_isSooner (d := 0) (u := u175) (g := g) (ex := ex) (by0 := l183) (its := (v184 * (u175 172 2))) (fall := w116) (cost := w117)  (by decide) ) hq.n k1643 k1644 k97 k1645 np_X11_isSooner (Nat.le_trans (by decide) hd) (by decide) (Nat.le_refl _) (Nat.le_refl _) wlen rfl (Nat.le_of_ble_eq_true rfl) (fun r_ h_ p187 => ?_)
                    obtain ⟨t188, rfl, rfl⟩ := p187
                    refine J_ifB_eq (tgt := 147) dX11_nextOf_132 (by decide) (fun c189 => ?_) (fun c189 => ?_)
                    · refine J_iinc (i := 10) (j := 10) (v := (w118 + 1)) (lw := [(10, .int (w118 + 1)), (13, .int (v184 * (u175 172 2))), (11, .long l183), (0, .ref 162), (1, .int some0), (2, .int set), (3, .int left), (4, .long l2), (6, .int w115), (7, .long w116), (9, .int w117)]) dX11_nextOf_147 rfl rfl (by decide) rfl ?_
                      refine J_goto (tgt := 20) dX11_nextOf_150 (by decide) ?_
                      refine J_lv [3, 4, 5, 6, 7, 8, 9, 10, 0] rfl ?_
                      exact ih158 w115 w116 w117 (w118 + 1) u175 (bd_w (l := (-1)) (h := 8) (bd_ne_lo bw115 c186 (by decide)) (by decide)) (bd_w (l := 0) (h := 9) (bd_add (l := 1) (h := 9) (bd_lt_hi bw118 (i_nle c161) (bd_c (v := 9) (lo := 9) (hi := 9) (by decide))) (bd_c (v := 1) (lo := 1) (hi := 1) (by decide)) (by decide)) (by decide)) (fun c k_ => ((fr181 c (nin_sub (M := [(162, 162), (172, 175)]) k_ rfl)).trans (fr120 c (nin_sub (M := [(162, 162), (172, 175)]) k_ rfl)))) (fun j k31_ k32_ k33_ => ((fc182 j k31_ k32_ k33_).trans (fc121 j k31_ k32_ k33_))) h176 h177 h178 h180 h179 hI160 (mu_up 1 bw118 rfl (by decide) (bd_w (l := 1) (h := 9) (bd_add (l := 1) (h := 9) (bd_lt_hi bw118 (i_nle c161) (bd_c (v := 9) (lo := 9) (hi := 9) (by decide))) (bd_c (v := 1) (lo := 1) (hi := 1) (by decide)) (by decide)) (by decide)) hm159)
                    · refine J_iload (i := 10) (j := 10) dX11_nextOf_135 rfl ?_
                      refine J_istore (i := 6) (lw := [(6, .int w118), (13, .int (v184 * (u175 172 2))), (11, .long l183), (0, .ref 162), (1, .int some0), (2, .int set), (3, .int left), (4, .long l2), (7, .long w116), (9, .int w117), (10, .int w118)]) dX11_nextOf_137 (by decide) rfl ?_
                      refine J_lload (i := 11) (j := 2) dX11_nextOf_139 rfl ?_
                      refine J_lstore (i := 7) (lw := [(7, .long l183), (6, .int w118), (13, .int (v184 * (u175 172 2))), (11, .long l183), (0, .ref 162), (1, .int some0), (2, .int set), (3, .int left), (4, .long l2), (9, .int w117), (10, .int w118)]) dX11_nextOf_141 (by decide) rfl ?_
                      refine J_iload (i := 13) (j := 2) dX11_nextOf_143 rfl ?_
                      refine J_istore (i := 9) (lw := [(9, .int (v184 * (u175 172 2))), (7, .long l183), (6, .int w118), (13, .int (v184 * (u175 172 2))), (11, .long l183), (0, .ref 162), (1, .int some0), (2, .int set), (3, .int left), (4, .long l2), (10, .int w118)]) dX11_nextOf_145 (by decide) rfl ?_
                      refine J_iinc (i := 10) (j := 10) (v := (w118 + 1)) (lw := [(10, .int (w118 + 1)), (9, .int (v184 * (u175 172 2))), (7, .long l183), (6, .int w118), (13, .int (v184 * (u175 172 2))), (11, .long l183), (0, .ref 162), (1, .int some0), (2, .int set), (3, .int left), (4, .long l2)]) dX11_nextOf_147 rfl rfl (by decide) rfl ?_
                      refine J_goto (tgt := 20) dX11_nextOf_150 (by decide) ?_
                      refine J_lv [6, 7, 8, 9, 10, 3, 2, 1, 0] rfl ?_
                      exact ih158 w118 l183 (v184 * (u175 172 2)) (w118 + 1) u175 (bd_w (l := (-1)) (h := 8) (bd_lt_hi bw118 (i_nle c161) (bd_c (v := 9) (lo := 9) (hi := 9) (by decide))) (by decide)) (bd_w (l := 0) (h := 9) (bd_add (l := 1) (h := 9) (bd_lt_hi bw118 (i_nle c161) (bd_c (v := 9) (lo := 9) (hi := 9) (by decide))) (bd_c (v := 1) (lo := 1) (hi := 1) (by decide)) (by decide)) (by decide)) (fun c k_ => ((fr181 c (nin_sub (M := [(162, 162), (172, 175)]) k_ rfl)).trans (fr120 c (nin_sub (M := [(162, 162), (172, 175)]) k_ rfl)))) (fun j k31_ k32_ k33_ => ((fc182 j k31_ k32_ k33_).trans (fc121 j k31_ k32_ k33_))) h176 h177 h178 h180 h179 (Or.inr (fun e => absurd ((h168.mpr e).symm.trans c169) (by decide))) (mu_up 1 bw118 rfl (by decide) (bd_w (l := 1) (h := 9) (bd_add (l := 1) (h := 9) (bd_lt_hi bw118 (i_nle c161) (bd_c (v := 9) (lo := 9) (hi := 9) (by decide))) (bd_c (v := 1) (lo := 1) (hi := 1) (by decide)) (by decide)) (by decide)) hm159)
              · refine J_goto (tgt := 147) dX11_nextOf_73 (by decide) ?_
                refine J_iinc (i := 10) (j := 8) (v := (w118 + 1)) (lw := [(10, .int (w118 + 1)), (0, .ref 162), (1, .int some0), (2, .int set), (3, .int left), (4, .long l2), (6, .int w115), (7, .long w116), (9, .int w117)]) dX11_nextOf_147 rfl rfl (by decide) rfl ?_
                refine J_goto (tgt := 20) dX11_nextOf_150 (by decide) ?_
                refine J_lv [1, 2, 3, 4, 5, 6, 7, 8, 0] rfl ?_
                exact ih158 w115 w116 w117 (w118 + 1) u119 bw115 (bd_w (l := 0) (h := 9) (bd_add (l := 1) (h := 9) (bd_lt_hi bw118 (i_nle c161) (bd_c (v := 9) (lo := 9) (hi := 9) (by decide))) (bd_c (v := 1) (lo := 1) (hi := 1) (by decide)) (by decide)) (by decide)) (fun c k_ => (fr120 c (nin_sub (M := [(162, 162), (172, 175)]) k_ rfl))) (fun j k31_ k32_ k33_ => (fc121 j k31_ k32_ k33_)) bm122 ab123 rf124 rf125 rf126 hI160 (mu_up 1 bw118 rfl (by decide) (bd_w (l := 1) (h := 9) (bd_add (l := 1) (h := 9) (bd_lt_hi bw118 (i_nle c161) (bd_c (v := 9) (lo := 9) (hi := 9) (by decide))) (bd_c (v := 1) (lo := 1) (hi := 1) (by decide)) (by decide)) (by decide)) hm159)
  refine J_lv [5, 6, 7, 8, 4, 3, 2, 1, 0] rfl ?_
  exact lp156 _ ((-1) : Int32) (0 : Int64) (0 : Int32) (0 : Int32) u3 (bd_w (l := (-1)) (h := 8) (bd_c (v := (-1)) (lo := (-1)) (hi := (-1)) (by decide)) (by decide)) (bd_w (l := 0) (h := 9) (bd_c (v := 0) (lo := 0) (hi := 0) (by decide)) (by decide)) (fun c k_ => rfl) (fun j k31_ k32_ k33_ => rfl) h4 h5 h6 h8 h7 (Or.inl rfl) (Nat.lt_succ_self _)
set_option maxHeartbeats 4000000 in
set_option maxRecDepth 100000 in
theorem c_M_steps {d : Nat} {u : Nat → Nat → Int32} {g : Nat → Nat → Int64} {ex : List MC} {hill : Int32} {plan : Int32} {ponds : Int32} {days : Int32} (hd : 7 ≤ d) (hp0 : (MY u)) (hp1 : AB u 168 (-1) 999) (hp2 : (HD u)) (hp3 : (HC u)) (hp4 : (PL u)) (hp5 : (N0 u)) (hp6 : (DN u)) (hp7 : Bd 0 9 (u 162 22)) (hp8 : Bd 0 511 (u 162 31)) (hp9 : AB u 177 (-1) 999) : CT con0 d 0 0 yX11_steps cX11_steps 8 (some .int) [.ref 162, .int hill, .int plan, .int ponds, .int days] (Wd u g ex) (fun r h2 => ∃ (z : Int32) (u2 : Nat → Nat → Int32), r = some (.int z) ∧ h2 = Wd u2 g ex ∧ Bd 0 9 (u2 162 22) ∧ (DN u2) ∧ (N0 u2) ∧ Bd 0 511 (u2 162 31) ∧ AB u2 177 (-1) 999 ∧ (∀ c, nin c [(162, 162), (172, 175), (177, 177)] = true → u2 c = u c) ∧ (∀ j, j ≠ 0 → j ≠ 22 → j ≠ 23 → j ≠ 24 → j ≠ 25 → j ≠ 26 → j ≠ 27 → j ≠ 31 → j ≠ 32 → j ≠ 33 → u2 162 j = u 162 j)) := by
  refine CT_of (by decide) (Nat.le_of_ble_eq_true rfl) (fun x hq => ?_)
  show J x yX11_steps cX11_steps 8 (some .int) d 0 0 (Wd u g ex).length 0 [(0, .ref 162), (1, .int hill), (2, .int plan), (3, .int ponds), (4, .int days)] [] (Wd u g ex) 0 0
  refine J_aload_n (i := 0) (j := 0) dX11_steps_0 rfl rfl ?_
  refine J_iconst (v := 0) dX11_steps_1 (by decide) ?_
  obtain ⟨u1, e2⟩ : ∃ z, z = ms u 162 0 0 := ⟨_, rfl⟩
  refine J_put (C := RX11) (T := TX11) (Z := 43) (ci := 11) (f := 0) (ty0 := tyX11) dX11_steps_2 inG11 rfl tyX11_ok nmX11 (by decide) k1264 rfl rfl wc_162 (Nat.le_of_ble_eq_true rfl) (fun _ _ => ⟨rfl, rfl⟩) (ws e2 wk_162 rfl) ?_
  refine J_aload_n (i := 0) (j := 0) dX11_steps_5 rfl rfl ?_
  refine J_iload_n (i := 1) (j := 1) dX11_steps_6 rfl rfl ?_
  refine J_iload_n (i := 2) (j := 2) dX11_steps_7 rfl rfl ?_
  refine J_iload_n (i := 3) (j := 3) dX11_steps_8 rfl rfl ?_
  refine J_iload (i := 4) (j := 4) dX11_steps_9 rfl ?_
  refine J_callV (As := [.int hill, .int plan, .int ponds, .int days]) (rest := []) dX11_steps_11 (c_M_canMend (d := 3) (u := u1) (g := g) (ex := ex) (h := hill) (plan := plan) (set := ponds) (left := days)  (by decide) (my_c (ms_c e2 (Nat.ne_of_beq_eq_false rfl)) hp0) (ab_c (ms_c e2 (Nat.ne_of_beq_eq_false rfl)) hp1) (hd_c (ms_c e2 (Nat.ne_of_beq_eq_false rfl)) hp2) (hc_c (ms_c e2 (Nat.ne_of_beq_eq_false rfl)) (ms_c e2 (Nat.ne_of_beq_eq_false rfl)) hp3) (pl_c (ms_c e2 (Nat.ne_of_beq_eq_false rfl)) hp4) (n0_c (ms_c e2 (Nat.ne_of_beq_eq_false rfl)) hp5) (dn_c (ms_c e2 (Nat.ne_of_beq_eq_false rfl)) hp6) (bd_r (ms_i e2 (Nat.ne_of_beq_eq_false rfl)) hp7) (bd_r (ms_i e2 (Nat.ne_of_beq_eq_false rfl)) hp8) (ab_c (ms_c e2 (Nat.ne_of_beq_eq_false rfl)) hp9)) hq.n k1615 k1617 k69 wc_162 rfl rfl k97 k1618 np_X11_canMend (Nat.le_trans (by decide) hd) (by decide) (Nat.le_refl _) (Nat.le_refl _) wlen rfl (Nat.le_of_ble_eq_true rfl) (fun r_ h_ p3 => ?_)
  obtain ⟨t4, u5, rfl, rfl, h6, h7, h8, h9, h10, h11, fr12, fc13⟩ := p3
  refine J_ifB_ne (tgt := 19) dX11_steps_14 (by decide) (fun c14 => ?_) (fun c14 => ?_)
  · refine J_iconst (v := 0) dX11_steps_19 (by decide) ?_
    refine J_istore (i := 5) (lw := [(5, .int 0), (0, .ref 162), (1, .int hill), (2, .int plan), (3, .int ponds), (4, .int days)]) dX11_steps_20 (by decide) rfl ?_
    refine J_iconst (v := (-1)) dX11_steps_22 (by decide) ?_
    refine J_istore (i := 6) (lw := [(6, .int (-1)), (5, .int 0), (0, .ref 162), (1, .int hill), (2, .int plan), (3, .int ponds), (4, .int days)]) dX11_steps_23 (by decide) rfl ?_
    refine J_iconst (v := 1) dX11_steps_25 (by decide) ?_
    refine J_istore (i := 7) (lw := [(7, .int 1), (6, .int (-1)), (5, .int 0), (0, .ref 162), (1, .int hill), (2, .int plan), (3, .int ponds), (4, .int days)]) dX11_steps_26 (by decide) rfl ?_
    have lp54 : ∀ (n55 : Nat) (w30 : Int32) (u31 : Nat → Nat → Int32), Bd 0 511 w30 → (∀ c, nin c [(162, 162), (172, 175)] = true → u31 c = u5 c) → (∀ j, j ≠ 31 → j ≠ 32 → j ≠ 33 → u31 162 j = u5 162 j) → Bd 0 511 (u31 162 31) → AB u31 172 (-1) 999 → DN u31 → N0 u31 → RC u31 → True → (511 - w30.toInt).toNat < n55 → J x yX11_steps cX11_steps 8 (some .int) d 0 0 (Wd u g ex).length 28 [(0, .ref 162), (3, .int ponds), (4, .int days), (5, .int w30), (7, .int 1)] [] (Wd u31 g ex) 0 0 := by
      intro n55
      induction n55 with
      | zero => intro w30 u31 bw30 fr32 fc33 bm34 ab35 rf36 rf37 rf38 hI58 hm57; exact absurd hm57 (Nat.not_lt_zero _)
      | succ n55 ih56 =>
        intro w30 u31 bw30 fr32 fc33 bm34 ab35 rf36 rf37 rf38 hI58 hm57
        refine J_iload (i := 7) (j := 4) dX11_steps_28 rfl ?_
        refine J_if_eq (tgt := 85) dX11_steps_30 (by decide) (fun q => absurd q (by decide)) (fun _ => ?_)
        refine J_aload_n (i := 0) (j := 0) dX11_steps_33 rfl rfl ?_
        refine J_iload_n (i := 3) (j := 1) dX11_steps_34 rfl rfl ?_
        refine J_iload (i := 5) (j := 3) dX11_steps_35 rfl ?_
        refine J_iload (i := 4) (j := 2) dX11_steps_37 rfl ?_
        refine J_aload_n (i := 0) (j := 0) dX11_steps_39 rfl rfl ?_
        refine J_iload (i := 5) (j := 3) dX11_steps_40 rfl ?_
        refine J_callV (As := [.int w30]) (rest := [.int days, .int w30, .int ponds, .ref 162]) dX11_steps_42 (c_M_costOf (d := 1) (u := u31) (g := g) (ex := ex) (set := w30)  (by decide) (bd_r (fc33 22 (Nat.ne_of_beq_eq_false rfl) (Nat.ne_of_beq_eq_false rfl) (Nat.ne_of_beq_eq_false rfl)) h7)) hq.n k1623 k1625 k71 wc_162 rfl rfl k97 k1626 np_X11_costOf (Nat.le_trans (by decide) hd) (by decide) (Nat.le_refl _) (Nat.le_refl _) wlen rfl (Nat.le_of_ble_eq_true rfl) (fun r_ h_ p59 => ?_)
        obtain ⟨v60, rfl, rfl⟩ := p59
        refine J_isub dX11_steps_45 ?_
        refine J_callV (As := [.int ponds, .int w30, .int (days - v60)]) (rest := []) dX11_steps_46 (c_M_nextOf (d := 6) (u := u31) (g := g) (ex := ex) (some0 := ponds) (set := w30) (left := (days - v60))  (by decide) (bd_r (fc33 22 (Nat.ne_of_beq_eq_false rfl) (Nat.ne_of_beq_eq_false rfl) (Nat.ne_of_beq_eq_false rfl)) h7) rf38 rf36 bm34 ab35 (ab_c (fr32 177 rfl) h10) rf37) hq.n k1639 k1641 k74 wc_162 rfl rfl k97 k1642 np_X11_nextOf (Nat.le_trans (by decide) hd) (by decide) (Nat.le_refl _) (Nat.le_refl _) wlen rfl (Nat.le_of_ble_eq_true rfl) (fun r_ h_ p61 => ?_)
        obtain ⟨v62, u63, rfl, rfl, h64, h65, h66, h67, h68, h69, h70, fr71, fc72⟩ := p61
        refine J_istore (i := 6) (lw := [(6, .int v62), (0, .ref 162), (3, .int ponds), (4, .int days), (5, .int w30), (7, .int 1)]) dX11_steps_49 (by decide) rfl ?_
        refine J_iload (i := 6) (j := 0) dX11_steps_51 rfl ?_
        refine J_iconst (v := (-1)) dX11_steps_53 (by decide) ?_
        refine J_icmp_eq (tgt := 61) dX11_steps_54 (by decide) (fun c73 => ?_) (fun c73 => ?_)
        · refine J_iconst (v := 0) dX11_steps_61 (by decide) ?_
          refine J_istore (i := 7) (lw := [(7, .int 0), (6, .int v62), (0, .ref 162), (3, .int ponds), (4, .int days), (5, .int w30)]) dX11_steps_62 (by decide) rfl ?_
          refine J_iload (i := 5) (j := 5) dX11_steps_64 rfl ?_
          refine J_iload (i := 7) (j := 0) dX11_steps_66 rfl ?_
          refine J_if_eq (tgt := 78) dX11_steps_68 (by decide) (fun _ => ?_) (fun q => absurd (by decide) q)
          refine J_iconst (v := 0) dX11_steps_78 (by decide) ?_
          refine J_ior dX11_steps_79 ?_
          refine J_istore (i := 5) (lw := [(5, .int (w30 ||| 0)), (7, .int 0), (6, .int v62), (0, .ref 162), (3, .int ponds), (4, .int days)]) dX11_steps_80 (by decide) rfl ?_
          refine J_goto (tgt := 28) dX11_steps_82 (by decide) ?_
          refine J_iload (i := 7) (j := 1) dX11_steps_28 rfl ?_
          refine J_if_eq (tgt := 85) dX11_steps_30 (by decide) (fun _ => ?_) (fun q => absurd (by decide) q)
          refine J_iload (i := 5) (j := 0) dX11_steps_85 rfl ?_
          exact J_iret hq dX11_steps_87 rfl wlen (Nat.le_refl _) (Nat.le_refl _) ⟨(w30 ||| 0), u63, rfl, rfl, (bd_r ((fc72 22 (Nat.ne_of_beq_eq_false rfl) (Nat.ne_of_beq_eq_false rfl) (Nat.ne_of_beq_eq_false rfl)).trans (fc33 22 (Nat.ne_of_beq_eq_false rfl) (Nat.ne_of_beq_eq_false rfl) (Nat.ne_of_beq_eq_false rfl))) h7), h67, h69, h65, (ab_c ((fr71 177 rfl).trans (fr32 177 rfl)) h10), (fun c k_ => ((fr71 c (nin_sub (M := [(162, 162), (172, 175)]) k_ rfl)).trans ((fr32 c (nin_sub (M := [(162, 162), (172, 175)]) k_ rfl)).trans ((fr12 c (nin_sub (M := [(162, 162), (172, 172), (177, 177)]) k_ rfl)).trans (ms_c e2 (nin_ne (a := 162) k_ rfl)))))), (fun j k0_ k22_ k23_ k24_ k25_ k26_ k27_ k31_ k32_ k33_ => ((fc72 j k31_ k32_ k33_).trans ((fc33 j k31_ k32_ k33_).trans ((fc13 j k22_ k23_ k24_ k25_ k26_ k27_).trans (ms_i e2 k0_)))))⟩
        · refine J_iconst (v := 1) dX11_steps_57 (by decide) ?_
          refine J_goto (tgt := 62) dX11_steps_58 (by decide) ?_
          refine J_istore (i := 7) (lw := [(7, .int 1), (6, .int v62), (0, .ref 162), (3, .int ponds), (4, .int days), (5, .int w30)]) dX11_steps_62 (by decide) rfl ?_
          refine J_iload (i := 5) (j := 5) dX11_steps_64 rfl ?_
          refine J_iload (i := 7) (j := 0) dX11_steps_66 rfl ?_
          refine J_if_eq (tgt := 78) dX11_steps_68 (by decide) (fun q => absurd q (by decide)) (fun _ => ?_)
          refine J_iconst (v := 1) dX11_steps_71 (by decide) ?_
          refine J_iload (i := 6) (j := 1) dX11_steps_72 rfl ?_
          refine J_ishl dX11_steps_74 ?_
          refine J_goto (tgt := 79) dX11_steps_75 (by decide) ?_
          refine J_ior dX11_steps_79 ?_
          refine J_istore (i := 5) (lw := [(5, .int (w30 ||| ((1 : Int32) <<< (v62 &&& 31)))), (7, .int 1), (6, .int v62), (0, .ref 162), (3, .int ponds), (4, .int days)]) dX11_steps_80 (by decide) rfl ?_
          refine J_goto (tgt := 28) dX11_steps_82 (by decide) ?_
          refine J_lv [3, 4, 5, 0, 1] rfl ?_
          exact ih56 (w30 ||| ((1 : Int32) <<< (v62 &&& 31))) u63 (bd_or (k := 9) (h := 511) bw30 (bd_shl (lo := 0) (hi := 8) (l := 1) (h := 256) (bd_ne_lo h64 c73 (by decide)) (by decide)) (by decide)) (fun c k_ => ((fr71 c (nin_sub (M := [(162, 162), (172, 175)]) k_ rfl)).trans (fr32 c (nin_sub (M := [(162, 162), (172, 175)]) k_ rfl)))) (fun j k31_ k32_ k33_ => ((fc72 j k31_ k32_ k33_).trans (fc33 j k31_ k32_ k33_))) h65 h66 h67 h69 h68 trivial (steps_m (hi := 0) bw30 (bd_ne_lo h64 c73 (by decide)) (h70.resolve_left c73) rfl (bd_or (k := 9) (h := 511) bw30 (bd_shl (lo := 0) (hi := 8) (l := 1) (h := 256) (bd_ne_lo h64 c73 (by decide)) (by decide)) (by decide)) hm57)
    refine J_lv [3, 6, 7, 2, 0] rfl ?_
    exact lp54 _ (0 : Int32) u5 (bd_w (l := 0) (h := 511) (bd_c (v := 0) (lo := 0) (hi := 0) (by decide)) (by decide)) (fun c k_ => rfl) (fun j k31_ k32_ k33_ => rfl) (bd_r ((fc13 31 (Nat.ne_of_beq_eq_false rfl) (Nat.ne_of_beq_eq_false rfl) (Nat.ne_of_beq_eq_false rfl) (Nat.ne_of_beq_eq_false rfl) (Nat.ne_of_beq_eq_false rfl) (Nat.ne_of_beq_eq_false rfl)).trans (ms_i e2 (Nat.ne_of_beq_eq_false rfl))) hp8) (h11 c14).2 h8 h9 (h11 c14).1 trivial (Nat.lt_succ_self _)
  · refine J_iconst (v := (-1)) dX11_steps_17 (by decide) ?_
    exact J_iret hq dX11_steps_18 rfl wlen (Nat.le_refl _) (Nat.le_refl _) ⟨((-1) : Int32), u5, rfl, rfl, h7, h8, h9, (bd_r ((fc13 31 (Nat.ne_of_beq_eq_false rfl) (Nat.ne_of_beq_eq_false rfl) (Nat.ne_of_beq_eq_false rfl) (Nat.ne_of_beq_eq_false rfl) (Nat.ne_of_beq_eq_false rfl) (Nat.ne_of_beq_eq_false rfl)).trans (ms_i e2 (Nat.ne_of_beq_eq_false rfl))) hp8), h10, (fun c k_ => ((fr12 c (nin_sub (M := [(162, 162), (172, 172), (177, 177)]) k_ rfl)).trans (ms_c e2 (nin_ne (a := 162) k_ rfl)))), (fun j k0_ k22_ k23_ k24_ k25_ k26_ k27_ k31_ k32_ k33_ => ((fc13 j k22_ k23_ k24_ k25_ k26_ k27_).trans (ms_i e2 k0_)))⟩
set_option maxHeartbeats 4000000 in
set_option maxRecDepth 100000 in
theorem c_M_fillAll {d : Nat} {u : Nat → Nat → Int32} {g : Nat → Nat → Int64} {ex : List MC} {n : Int32} (hd : 5 ≤ d) (hp0 : Bd 0 9 (u 162 22)) (hp1 : (RC u)) (hp2 : (DN u)) (hp3 : Bd 0 511 (u 162 31)) (hp4 : AB u 172 (-1) 999) (hp5 : (N0 u)) (hp6 : AB u 178 (-1) 999) (hp7 : AB u 179 0 8) (hp8 : Bd 0 4 n) : CT con0 d 0 0 yX11_fillAll cX11_fillAll 5 (some .long) [.ref 162, .int n] (Wd u g ex) (fun r h2 => ∃ (z : Int64) (u2 : Nat → Nat → Int32), r = some (.long z) ∧ h2 = Wd u2 g ex ∧ Bd 0 511 (u2 162 31) ∧ AB u2 172 (-1) 999 ∧ (DN u2) ∧ (RC u2) ∧ (N0 u2) ∧ AB u2 178 (-1) 999 ∧ (∀ c, nin c [(162, 162), (172, 175), (178, 178)] = true → u2 c = u c) ∧ (∀ j, j ≠ 27 → j ≠ 31 → j ≠ 32 → j ≠ 33 → u2 162 j = u 162 j)) := by
  refine CT_of (by decide) (Nat.le_of_ble_eq_true rfl) (fun x hq => ?_)
  show J x yX11_fillAll cX11_fillAll 5 (some .long) d 0 0 (Wd u g ex).length 0 [(0, .ref 162), (1, .int n)] [] (Wd u g ex) 0 0
  refine J_iconst (v := 0) dX11_fillAll_0 (by decide) ?_
  refine J_istore_n (i := 2) (lw := [(2, .int 0), (0, .ref 162), (1, .int n)]) dX11_fillAll_1 rfl (by decide) rfl ?_
  have lp1111 : ∀ (n1112 : Nat) (w613 : Int32) (u614 : Nat → Nat → Int32), Bd 0 9 w613 → (∀ c, c ≠ 178 → u614 c = u c) → AB u614 178 (-1) 999 → (9 - w613.toInt).toNat < n1112 → J x yX11_fillAll cX11_fillAll 5 (some .long) d 0 0 (Wd u g ex).length 2 [(0, .ref 162), (1, .int n), (2, .int w613)] [] (Wd u614 g ex) 0 0 := by
    intro n1112
    induction n1112 with
    | zero => intro w613 u614 bw613 fr615 ab616 hm1114; exact absurd hm1114 (Nat.not_lt_zero _)
    | succ n1112 ih1113 =>
      intro w613 u614 bw613 fr615 ab616 hm1114
      refine J_iload_n (i := 2) (j := 2) dX11_fillAll_2 rfl rfl ?_
      refine J_aload_n (i := 0) (j := 0) dX11_fillAll_3 rfl rfl ?_
      refine J_get (C := RX11) (T := TX11) (Z := 43) (ci := 11) (f := 22) dX11_fillAll_4 inG11 rfl (by decide) k1286 wc_162 rfl ?_
      refine J_ci (v := u 162 22) (congrFun (fr615 162 (Nat.ne_of_beq_eq_false rfl)) 22) ?_
      refine J_icmp_ge (tgt := 28) dX11_fillAll_7 (by decide) (fun c1115 => ?_) (fun c1115 => ?_)
      · refine J_aload_n (i := 0) (j := 0) dX11_fillAll_28 rfl rfl ?_
        refine J_iconst (v := 1) dX11_fillAll_29 (by decide) ?_
        obtain ⟨u1119, e1120⟩ : ∃ z, z = ms u614 162 27 1 := ⟨_, rfl⟩
        refine J_put (C := RX11) (T := TX11) (Z := 43) (ci := 11) (f := 27) (ty0 := tyX11) dX11_fillAll_30 inG11 rfl tyX11_ok nmX11 (by decide) k1291 rfl rfl wc_162 (Nat.le_of_ble_eq_true rfl) (fun _ _ => ⟨rfl, rfl⟩) (ws e1120 wk_162 rfl) ?_
        refine J_lconst (v := 0) dX11_fillAll_33 (by decide) ?_
        refine J_lstore_n (i := 2) (lw := [(2, .long 0), (0, .ref 162), (1, .int n)]) dX11_fillAll_34 rfl (by decide) rfl ?_
        refine J_iconst (v := 0) dX11_fillAll_35 (by decide) ?_
        refine J_istore (i := 4) (lw := [(4, .int 0), (2, .long 0), (0, .ref 162), (1, .int n)]) dX11_fillAll_36 (by decide) rfl ?_
        have lp1511 : ∀ (n1512 : Nat) (w1410 : Int64) (w1411 : Int32) (u1412 : Nat → Nat → Int32), Bd 0 4 w1411 → (∀ c, nin c [(162, 162), (172, 175)] = true → u1412 c = u1119 c) → (∀ j, j ≠ 31 → j ≠ 32 → j ≠ 33 → u1412 162 j = u1119 162 j) → Bd 0 511 (u1412 162 31) → AB u1412 172 (-1) 999 → DN u1412 → N0 u1412 → RC u1412 → (4 - w1411.toInt).toNat < n1512 → J x yX11_fillAll cX11_fillAll 5 (some .long) d 0 0 (Wd u g ex).length 38 [(0, .ref 162), (1, .int n), (2, .long w1410), (4, .int w1411)] [] (Wd u1412 g ex) 0 0 := by
          intro n1512
          induction n1512 with
          | zero => intro w1410 w1411 u1412 bw1411 fr1413 fc1414 bm1415 ab1416 rf1417 rf1418 rf1419 hm1514; exact absurd hm1514 (Nat.not_lt_zero _)
          | succ n1512 ih1513 =>
            intro w1410 w1411 u1412 bw1411 fr1413 fc1414 bm1415 ab1416 rf1417 rf1418 rf1419 hm1514
            refine J_iload (i := 4) (j := 3) dX11_fillAll_38 rfl ?_
            refine J_iload_n (i := 1) (j := 1) dX11_fillAll_40 rfl rfl ?_
            refine J_icmp_ge (tgt := 82) dX11_fillAll_41 (by decide) (fun c1515 => ?_) (fun c1515 => ?_)
            · refine J_aload_n (i := 0) (j := 0) dX11_fillAll_82 rfl rfl ?_
              refine J_iconst (v := 0) dX11_fillAll_83 (by decide) ?_
              obtain ⟨u1530, e1531⟩ : ∃ z, z = ms u1412 162 27 0 := ⟨_, rfl⟩
              refine J_put (C := RX11) (T := TX11) (Z := 43) (ci := 11) (f := 27) (ty0 := tyX11) dX11_fillAll_84 inG11 rfl tyX11_ok nmX11 (by decide) k1291 rfl rfl wc_162 (Nat.le_of_ble_eq_true rfl) (fun _ _ => ⟨rfl, rfl⟩) (ws e1531 wk_162 rfl) ?_
              refine J_iconst (v := 0) dX11_fillAll_87 (by decide) ?_
              refine J_istore (i := 4) (lw := [(4, .int 0), (0, .ref 162), (1, .int n), (2, .long w1410)]) dX11_fillAll_88 (by decide) rfl ?_
              have lp1577 : ∀ (n1578 : Nat) (w1559 : Int32) (u1560 : Nat → Nat → Int32), Bd 0 9 w1559 → (∀ c, c ≠ 172 → u1560 c = u1530 c) → AB u1560 172 (-1) 999 → DN u1560 → N0 u1560 → RC u1560 → (9 - w1559.toInt).toNat < n1578 → J x yX11_fillAll cX11_fillAll 5 (some .long) d 0 0 (Wd u g ex).length 90 [(0, .ref 162), (2, .long w1410), (4, .int w1559)] [] (Wd u1560 g ex) 0 0 := by
                intro n1578
                induction n1578 with
                | zero => intro w1559 u1560 bw1559 fr1561 ab1562 rf1563 rf1564 rf1565 hm1580; exact absurd hm1580 (Nat.not_lt_zero _)
                | succ n1578 ih1579 =>
                  intro w1559 u1560 bw1559 fr1561 ab1562 rf1563 rf1564 rf1565 hm1580
                  refine J_iload (i := 4) (j := 2) dX11_fillAll_90 rfl ?_
                  refine J_aload_n (i := 0) (j := 0) dX11_fillAll_92 rfl rfl ?_
                  refine J_get (C := RX11) (T := TX11) (Z := 43) (ci := 11) (f := 22) dX11_fillAll_93 inG11 rfl (by decide) k1286 wc_162 rfl ?_
                  refine J_ci (v := u 162 22) ((congrFun (fr1561 162 (Nat.ne_of_beq_eq_false rfl)) 22).trans ((ms_i e1531 (Nat.ne_of_beq_eq_false rfl)).trans ((fc1414 22 (Nat.ne_of_beq_eq_false rfl) (Nat.ne_of_beq_eq_false rfl) (Nat.ne_of_beq_eq_false rfl)).trans ((ms_i e1120 (Nat.ne_of_beq_eq_false rfl)).trans (congrFun (fr615 162 (Nat.ne_of_beq_eq_false rfl)) 22))))) ?_
                  refine J_icmp_ge (tgt := 119) dX11_fillAll_96 (by decide) (fun c1581 => ?_) (fun c1581 => ?_)
                  · refine J_lload_n (i := 2) (j := 1) dX11_fillAll_119 rfl rfl ?_
                    exact J_lret hq dX11_fillAll_120 rfl wlen (Nat.le_refl _) (Nat.le_refl _) ⟨w1410, u1560, rfl, rfl, (bd_r ((congrFun (fr1561 162 (Nat.ne_of_beq_eq_false rfl)) 31).trans (ms_i e1531 (Nat.ne_of_beq_eq_false rfl))) bm1415), ab1562, rf1563, rf1565, rf1564, (ab_c ((fr1561 178 (Nat.ne_of_beq_eq_false rfl)).trans ((ms_c e1531 (Nat.ne_of_beq_eq_false rfl)).trans ((fr1413 178 rfl).trans (ms_c e1120 (Nat.ne_of_beq_eq_false rfl))))) ab616), (fun c k_ => ((fr1561 c (nin_ne (a := 172) k_ rfl)).trans ((ms_c e1531 (nin_ne (a := 162) k_ rfl)).trans ((fr1413 c (nin_sub (M := [(162, 162), (172, 175)]) k_ rfl)).trans ((ms_c e1120 (nin_ne (a := 162) k_ rfl)).trans (fr615 c (nin_ne (a := 178) k_ rfl))))))), (fun j k27_ k31_ k32_ k33_ => ((congrFun (fr1561 162 (Nat.ne_of_beq_eq_false rfl)) j).trans ((ms_i e1531 k27_).trans ((fc1414 j k31_ k32_ k33_).trans ((ms_i e1120 k27_).trans (congrFun (fr615 162 (Nat.ne_of_beq_eq_false rfl)) j))))))⟩
                  · refine J_aload_n (i := 0) (j := 0) dX11_fillAll_99 rfl rfl ?_
                    refine J_iload (i := 4) (j := 2) dX11_fillAll_100 rfl ?_
                    refine J_iconst (v := 1) dX11_fillAll_102 (by decide) ?_
                    refine J_aload_n (i := 0) (j := 0) dX11_fillAll_103 rfl rfl ?_
                    refine J_get (C := RX11) (T := TX11) (Z := 43) (ci := 11) (f := 36) dX11_fillAll_104 inG11 rfl (by decide) k1300 wc_162 rfl ?_
                    refine J_iload (i := 4) (j := 2) dX11_fillAll_107 rfl ?_
                    refine J_iald dX11_fillAll_109 wc_178 (vin (bd_lt_hi bw1559 (i_nle c1581) hp0) (by decide)) ?_
                    refine J_topi (fun v1587 qv1587 => ?_)
                    refine J_callV (As := [.int w1559, .int 1, .int v1587]) (rest := []) dX11_fillAll_110 (c_M_set (d := 0) (u := u1560) (g := g) (ex := ex) (p := w1559) (what := 1) (v := v1587)  (by decide) (bd_lt_hi bw1559 (i_nle c1581) hp0) (bd_w (l := 0) (h := 15) (bd_c (v := 1) (lo := 1) (hi := 1) (by decide)) (by decide))) hq.n k1519 k1521 k56 wc_162 rfl rfl k97 k1522 np_X11_set (Nat.le_trans (by decide) hd) (by decide) (Nat.le_refl _) (Nat.le_refl _) wlen rfl (Nat.le_of_ble_eq_true rfl) (fun r_ h_ p1588 => ?_)
                    obtain ⟨u1589, rfl, rfl, h1590, fr1591⟩ := p1588
                    refine J_iinc (i := 4) (j := 2) (v := (w1559 + 1)) (lw := [(4, .int (w1559 + 1)), (0, .ref 162), (2, .long w1410)]) dX11_fillAll_113 rfl rfl (by decide) rfl ?_
                    refine J_goto (tgt := 90) dX11_fillAll_116 (by decide) ?_
                    refine J_lv [1, 2, 0] rfl ?_
                    exact ih1579 (w1559 + 1) u1589 (bd_w (l := 0) (h := 9) (bd_add (l := 1) (h := 9) (bd_lt_hi bw1559 (i_nle c1581) hp0) (bd_c (v := 1) (lo := 1) (hi := 1) (by decide)) (by decide)) (by decide)) (fun c k0_ => ((ms_c h1590 k0_).trans (fr1561 c k0_))) (ab_s h1590 ab1562 (bd_r qv1587 ((ab_c ((fr1561 178 (Nat.ne_of_beq_eq_false rfl)).trans ((ms_c e1531 (Nat.ne_of_beq_eq_false rfl)).trans ((fr1413 178 rfl).trans (ms_c e1120 (Nat.ne_of_beq_eq_false rfl))))) ab616) w1559.toNatClampNeg))) (dn_s h1590 (bd_lt_hi bw1559 (i_nle c1581) hp0) (by decide) rf1563) (n0_s h1590 (bd_lt_hi bw1559 (i_nle c1581) hp0) (bd_w (l := 0) (h := 15) (bd_c (v := 1) (lo := 1) (hi := 1) (by decide)) (by decide)) rf1564) (rc_s h1590 (bd_lt_hi bw1559 (i_nle c1581) hp0) (bd_w (l := 0) (h := 15) (bd_c (v := 1) (lo := 1) (hi := 1) (by decide)) (by decide)) rf1565) (mu_up 1 bw1559 rfl (by decide) (bd_w (l := 1) (h := 9) (bd_add (l := 1) (h := 9) (bd_lt_hi bw1559 (i_nle c1581) hp0) (bd_c (v := 1) (lo := 1) (hi := 1) (by decide)) (by decide)) (by decide)) hm1580)
              refine J_lv [1, 3, 0] rfl ?_
              exact lp1577 _ (0 : Int32) u1530 (bd_w (l := 0) (h := 9) (bd_c (v := 0) (lo := 0) (hi := 0) (by decide)) (by decide)) (fun c k0_ => rfl) (ab_c (ms_c e1531 (Nat.ne_of_beq_eq_false rfl)) ab1416) (dn_c (ms_c e1531 (Nat.ne_of_beq_eq_false rfl)) rf1417) (n0_c (ms_c e1531 (Nat.ne_of_beq_eq_false rfl)) rf1418) (rc_c (ms_c e1531 (Nat.ne_of_beq_eq_false rfl)) rf1419) (Nat.lt_succ_self _)
            · refine J_aload_n (i := 0) (j := 0) dX11_fillAll_44 rfl rfl ?_
              refine J_aload_n (i := 0) (j := 0) dX11_fillAll_45 rfl rfl ?_
              refine J_get (C := RX11) (T := TX11) (Z := 43) (ci := 11) (f := 37) dX11_fillAll_46 inG11 rfl (by decide) k1301 wc_162 rfl ?_
              refine J_iload (i := 4) (j := 3) dX11_fillAll_49 rfl ?_
              refine J_iald dX11_fillAll_51 wc_179 (vin (bd_lt_hi bw1411 (i_nle c1515) hp8) (by decide)) ?_
              refine J_topi (fun v1592 qv1592 => ?_)
              refine J_iconst (v := 1) dX11_fillAll_52 (by decide) ?_
              refine J_aload_n (i := 0) (j := 0) dX11_fillAll_53 rfl rfl ?_
              refine J_aload_n (i := 0) (j := 0) dX11_fillAll_54 rfl rfl ?_
              refine J_get (C := RX11) (T := TX11) (Z := 43) (ci := 11) (f := 37) dX11_fillAll_55 inG11 rfl (by decide) k1301 wc_162 rfl ?_
              refine J_iload (i := 4) (j := 3) dX11_fillAll_58 rfl ?_
              refine J_iald dX11_fillAll_60 wc_179 (vin (bd_lt_hi bw1411 (i_nle c1515) hp8) (by decide)) ?_
              refine J_topi (fun v1593 qv1593 => ?_)
              refine J_iconst (v := 0) dX11_fillAll_61 (by decide) ?_
              refine J_callV (As := [.int v1593, .int 0]) (rest := [.int 1, .int v1592, .ref 162]) dX11_fillAll_62 (c_M_of (d := 0) (u := u1412) (g := g) (ex := ex) (p := v1593) (what := 0)  (by decide) (bd_r qv1593 ((ab_c ((fr1413 179 rfl).trans ((ms_c e1120 (Nat.ne_of_beq_eq_false rfl)).trans (fr615 179 (Nat.ne_of_beq_eq_false rfl)))) hp7) w1411.toNatClampNeg)) (bd_w (l := 0) (h := 15) (bd_c (v := 0) (lo := 0) (hi := 0) (by decide)) (by decide))) hq.n k1515 k1517 k55 wc_162 rfl rfl k97 k1518 np_X11_of (Nat.le_trans (by decide) hd) (by decide) (Nat.le_refl _) (Nat.le_refl _) wlen rfl (Nat.le_of_ble_eq_true rfl) (fun r_ h_ p1594 => ?_)
              obtain ⟨rfl, rfl⟩ := p1594
              refine J_callV (As := [.int v1592, .int 1, .int (mof u1412 v1593 (0 : Int32))]) (rest := []) dX11_fillAll_65 (c_M_set (d := 0) (u := u1412) (g := g) (ex := ex) (p := v1592) (what := 1) (v := (mof u1412 v1593 (0 : Int32)))  (by decide) (bd_r qv1592 ((ab_c ((fr1413 179 rfl).trans ((ms_c e1120 (Nat.ne_of_beq_eq_false rfl)).trans (fr615 179 (Nat.ne_of_beq_eq_false rfl)))) hp7) w1411.toNatClampNeg)) (bd_w (l := 0) (h := 15) (bd_c (v := 1) (lo := 1) (hi := 1) (by decide)) (by decide))) hq.n k1519 k1521 k56 wc_162 rfl rfl k97 k1522 np_X11_set (Nat.le_trans (by decide) hd) (by decide) (Nat.le_refl _) (Nat.le_refl _) wlen rfl (Nat.le_of_ble_eq_true rfl) (fun r_ h_ p1595 => ?_)
              obtain ⟨u1596, rfl, rfl, h1597, fr1598⟩ := p1595
              refine J_lload_n (i := 2) (j := 2) dX11_fillAll_68 rfl rfl ?_
              refine J_aload_n (i := 0) (j := 0) dX11_fillAll_69 rfl rfl ?_
              refine J_iconst (v := (-1)) dX11_fillAll_70 (by decide) ?_
              refine J_callV (As := [.int (-1)]) (rest := [.long w1410]) dX11_fillAll_71 (c_M_meanBy (d := 4) (u := u1596) (g := g) (ex := ex) (owner := (-1))  (by decide) (bd_r ((congrFun (ms_c h1597 (Nat.ne_of_beq_eq_false rfl)) 22).trans ((fc1414 22 (Nat.ne_of_beq_eq_false rfl) (Nat.ne_of_beq_eq_false rfl) (Nat.ne_of_beq_eq_false rfl)).trans ((ms_i e1120 (Nat.ne_of_beq_eq_false rfl)).trans (congrFun (fr615 162 (Nat.ne_of_beq_eq_false rfl)) 22)))) hp0) (rc_s h1597 (bd_r qv1592 ((ab_c ((fr1413 179 rfl).trans ((ms_c e1120 (Nat.ne_of_beq_eq_false rfl)).trans (fr615 179 (Nat.ne_of_beq_eq_false rfl)))) hp7) w1411.toNatClampNeg)) (bd_w (l := 0) (h := 15) (bd_c (v := 1) (lo := 1) (hi := 1) (by decide)) (by decide)) rf1419) (dn_s h1597 (bd_r qv1592 ((ab_c ((fr1413 179 rfl).trans ((ms_c e1120 (Nat.ne_of_beq_eq_false rfl)).trans (fr615 179 (Nat.ne_of_beq_eq_false rfl)))) hp7) w1411.toNatClampNeg)) (by decide) rf1417) (bd_r (congrFun (ms_c h1597 (Nat.ne_of_beq_eq_false rfl)) 31) bm1415)) hq.n k1596 k1598 k68 wc_162 rfl rfl k97 k1599 np_X11_meanBy (Nat.le_trans (by decide) hd) (by decide) (Nat.le_refl _) (Nat.le_refl _) wlen rfl (Nat.le_of_ble_eq_true rfl) (fun r_ h_ p1599 => ?_)
              obtain ⟨l1600, u1601, rfl, rfl, h1602, fr1603, fc1604⟩ := p1599
              refine J_ladd dX11_fillAll_74 ?_
              refine J_topl (fun l1605 _ => ?_)
              refine J_lstore_n (i := 2) (lw := [(2, .long l1605), (0, .ref 162), (1, .int n), (4, .int w1411)]) dX11_fillAll_75 rfl (by decide) rfl ?_
              refine J_iinc (i := 4) (j := 3) (v := (w1411 + 1)) (lw := [(4, .int (w1411 + 1)), (2, .long l1605), (0, .ref 162), (1, .int n)]) dX11_fillAll_76 rfl rfl (by decide) rfl ?_
              refine J_goto (tgt := 38) dX11_fillAll_79 (by decide) ?_
              refine J_lv [2, 3, 1, 0] rfl ?_
              exact ih1513 l1605 (w1411 + 1) u1601 (bd_w (l := 0) (h := 4) (bd_add (l := 1) (h := 4) (bd_lt_hi bw1411 (i_nle c1515) hp8) (bd_c (v := 1) (lo := 1) (hi := 1) (by decide)) (by decide)) (by decide)) (fun c k_ => ((fr1603 c (nin_sub (M := [(162, 162), (173, 175)]) k_ rfl)).trans ((ms_c h1597 (nin_ne (a := 172) k_ rfl)).trans (fr1413 c (nin_sub (M := [(162, 162), (172, 175)]) k_ rfl))))) (fun j k31_ k32_ k33_ => ((fc1604 j k31_ k32_ k33_).trans ((congrFun (ms_c h1597 (Nat.ne_of_beq_eq_false rfl)) j).trans (fc1414 j k31_ k32_ k33_)))) h1602 (ab_c (fr1603 172 rfl) (ab_s h1597 ab1416 (ab1416 _))) (dn_c (fr1603 172 rfl) (dn_s h1597 (bd_r qv1592 ((ab_c ((fr1413 179 rfl).trans ((ms_c e1120 (Nat.ne_of_beq_eq_false rfl)).trans (fr615 179 (Nat.ne_of_beq_eq_false rfl)))) hp7) w1411.toNatClampNeg)) (by decide) rf1417)) (n0_c (fr1603 172 rfl) (n0_s h1597 (bd_r qv1592 ((ab_c ((fr1413 179 rfl).trans ((ms_c e1120 (Nat.ne_of_beq_eq_false rfl)).trans (fr615 179 (Nat.ne_of_beq_eq_false rfl)))) hp7) w1411.toNatClampNeg)) (bd_w (l := 0) (h := 15) (bd_c (v := 1) (lo := 1) (hi := 1) (by decide)) (by decide)) rf1418)) (rc_c (fr1603 172 rfl) (rc_s h1597 (bd_r qv1592 ((ab_c ((fr1413 179 rfl).trans ((ms_c e1120 (Nat.ne_of_beq_eq_false rfl)).trans (fr615 179 (Nat.ne_of_beq_eq_false rfl)))) hp7) w1411.toNatClampNeg)) (bd_w (l := 0) (h := 15) (bd_c (v := 1) (lo := 1) (hi := 1) (by decide)) (by decide)) rf1419)) (mu_up 1 bw1411 rfl (by decide) (bd_w (l := 1) (h := 4) (bd_add (l := 1) (h := 4) (bd_lt_hi bw1411 (i_nle c1515) hp8) (bd_c (v := 1) (lo := 1) (hi := 1) (by decide)) (by decide)) (by decide)) hm1514)
        refine J_lv [2, 3, 1, 0] rfl ?_
        exact lp1511 _ (0 : Int64) (0 : Int32) u1119 (bd_w (l := 0) (h := 4) (bd_c (v := 0) (lo := 0) (hi := 0) (by decide)) (by decide)) (fun c k_ => rfl) (fun j k31_ k32_ k33_ => rfl) (bd_r ((ms_i e1120 (Nat.ne_of_beq_eq_false rfl)).trans (congrFun (fr615 162 (Nat.ne_of_beq_eq_false rfl)) 31)) hp3) (ab_c ((ms_c e1120 (Nat.ne_of_beq_eq_false rfl)).trans (fr615 172 (Nat.ne_of_beq_eq_false rfl))) hp4) (dn_c ((ms_c e1120 (Nat.ne_of_beq_eq_false rfl)).trans (fr615 172 (Nat.ne_of_beq_eq_false rfl))) hp2) (n0_c ((ms_c e1120 (Nat.ne_of_beq_eq_false rfl)).trans (fr615 172 (Nat.ne_of_beq_eq_false rfl))) hp5) (rc_c ((ms_c e1120 (Nat.ne_of_beq_eq_false rfl)).trans (fr615 172 (Nat.ne_of_beq_eq_false rfl))) hp1) (Nat.lt_succ_self _)
      · refine J_aload_n (i := 0) (j := 0) dX11_fillAll_10 rfl rfl ?_
        refine J_get (C := RX11) (T := TX11) (Z := 43) (ci := 11) (f := 36) dX11_fillAll_11 inG11 rfl (by decide) k1300 wc_162 rfl ?_
        refine J_iload_n (i := 2) (j := 2) dX11_fillAll_14 rfl rfl ?_
        refine J_aload_n (i := 0) (j := 0) dX11_fillAll_15 rfl rfl ?_
        refine J_iload_n (i := 2) (j := 2) dX11_fillAll_16 rfl rfl ?_
        refine J_iconst (v := 1) dX11_fillAll_17 (by decide) ?_
        refine J_callV (As := [.int w613, .int 1]) (rest := [.int w613, .ref 178]) dX11_fillAll_18 (c_M_of (d := 0) (u := u614) (g := g) (ex := ex) (p := w613) (what := 1)  (by decide) (bd_lt_hi bw613 (i_nle c1115) hp0) (bd_w (l := 0) (h := 15) (bd_c (v := 1) (lo := 1) (hi := 1) (by decide)) (by decide))) hq.n k1515 k1517 k55 wc_162 rfl rfl k97 k1518 np_X11_of (Nat.le_trans (by decide) hd) (by decide) (Nat.le_refl _) (Nat.le_refl _) wlen rfl (Nat.le_of_ble_eq_true rfl) (fun r_ h_ p1606 => ?_)
        obtain ⟨rfl, rfl⟩ := p1606
        refine J_ci (v := (mof u w613 (1 : Int32))) (mof_c (fr615 172 (Nat.ne_of_beq_eq_false rfl))) ?_
        obtain ⟨u1607, e1608⟩ : ∃ z, z = ms u614 178 w613.toNatClampNeg (mof u w613 (1 : Int32)) := ⟨_, rfl⟩
        refine J_iast dX11_fillAll_21 wc_178 (vin (bd_lt_hi bw613 (i_nle c1115) hp0) (by decide)) (ws e1608 wk_178 rfl) ?_
        refine J_iinc (i := 2) (j := 2) (v := (w613 + 1)) (lw := [(2, .int (w613 + 1)), (0, .ref 162), (1, .int n)]) dX11_fillAll_22 rfl rfl (by decide) rfl ?_
        refine J_goto (tgt := 2) dX11_fillAll_25 (by decide) ?_
        refine J_lv [1, 2, 0] rfl ?_
        exact ih1113 (w613 + 1) u1607 (bd_w (l := 0) (h := 9) (bd_add (l := 1) (h := 9) (bd_lt_hi bw613 (i_nle c1115) hp0) (bd_c (v := 1) (lo := 1) (hi := 1) (by decide)) (by decide)) (by decide)) (fun c k0_ => ((ms_c e1608 k0_).trans (fr615 c k0_))) (ab_s e1608 ab616 (hp4 _)) (mu_up 1 bw613 rfl (by decide) (bd_w (l := 1) (h := 9) (bd_add (l := 1) (h := 9) (bd_lt_hi bw613 (i_nle c1115) hp0) (bd_c (v := 1) (lo := 1) (hi := 1) (by decide)) (by decide)) (by decide)) hm1114)
  refine J_lv [1, 2, 0] rfl ?_
  exact lp1111 _ (0 : Int32) u (bd_w (l := 0) (h := 9) (bd_c (v := 0) (lo := 0) (hi := 0) (by decide)) (by decide)) (fun c k0_ => rfl) hp6 (Nat.lt_succ_self _)
set_option maxHeartbeats 4000000 in
set_option maxRecDepth 100000 in
theorem c_M_findOrder {d : Nat} {u : Nat → Nat → Int32} {g : Nat → Nat → Int64} {ex : List MC} {some0 : Int32} (hd : 6 ≤ d) (hp0 : Bd 0 9 (u 162 22)) (hp1 : (RC u)) (hp2 : (DN u)) (hp3 : Bd 0 511 (u 162 31)) (hp4 : AB u 172 (-1) 999) (hp5 : (N0 u)) (hp6 : AB u 178 (-1) 999) (hp7 : AB u 179 0 8) (hp8 : (Bd 1 4 (onesN some0 9))) : CT con0 d 0 0 yX11_findOrder cX11_findOrder 9 none [.ref 162, .int some0] (Wd u g ex) (fun r h2 => ∃ (u2 : Nat → Nat → Int32) (g2 : Nat → Nat → Int64), r = none ∧ h2 = Wd u2 g2 ex ∧ Bd 0 511 (u2 162 31) ∧ AB u2 172 (-1) 999 ∧ (DN u2) ∧ (RC u2) ∧ (N0 u2) ∧ AB u2 178 (-1) 999 ∧ AB u2 179 0 8 ∧ (∀ c, nin c [(162, 162), (172, 175), (178, 180)] = true → u2 c = u c) ∧ (∀ j, j ≠ 27 → j ≠ 31 → j ≠ 32 → j ≠ 33 → j ≠ 39 → u2 162 j = u 162 j)) := by
  refine CT_of (by decide) (Nat.le_of_ble_eq_true rfl) (fun x hq => ?_)
  show J x yX11_findOrder cX11_findOrder 9 none d 0 0 (Wd u g ex).length 0 [(0, .ref 162), (1, .int some0)] [] (Wd u g ex) 0 0
  refine J_aload_n (i := 0) (j := 0) dX11_findOrder_0 rfl rfl ?_
  refine J_iload_n (i := 1) (j := 1) dX11_findOrder_1 rfl rfl ?_
  refine J_callS (As := [.int some0]) (rest := [.ref 162]) dX11_findOrder_2 (c_M_ones (d := 0) (u := u) (g := g) (ex := ex) (set := some0)  (by decide) ) hq.n k1608 k1609 k97 k1610 np_X11_ones (Nat.le_trans (by decide) hd) (by decide) (Nat.le_refl _) (Nat.le_refl _) wlen rfl (Nat.le_of_ble_eq_true rfl) (fun r_ h_ p1 => ?_)
  obtain ⟨rfl, rfl⟩ := p1
  obtain ⟨u2, e3⟩ : ∃ z, z = ms u 162 39 (onesN some0 9) := ⟨_, rfl⟩
  refine J_put (C := RX11) (T := TX11) (Z := 43) (ci := 11) (f := 39) (ty0 := tyX11) dX11_findOrder_5 inG11 rfl tyX11_ok nmX11 (by decide) k1303 rfl rfl wc_162 (Nat.le_of_ble_eq_true rfl) (fun _ _ => ⟨rfl, rfl⟩) (ws e3 wk_162 rfl) ?_
  refine J_iconst (v := 0) dX11_findOrder_8 (by decide) ?_
  refine J_istore_n (i := 2) (lw := [(2, .int 0), (0, .ref 162), (1, .int some0)]) dX11_findOrder_9 rfl (by decide) rfl ?_
  refine J_iconst (v := 0) dX11_findOrder_10 (by decide) ?_
  refine J_istore_n (i := 3) (lw := [(3, .int 0), (2, .int 0), (0, .ref 162), (1, .int some0)]) dX11_findOrder_11 rfl (by decide) rfl ?_
  have lp9088 : ∀ (n9089 : Nat) (w8036 : Int32) (w8037 : Int32) (u8038 : Nat → Nat → Int32) (g8048 : Nat → Nat → Int64), Bd 0 1 w8036 → Bd 0 6561 w8037 → (∀ c, nin c [(162, 162), (172, 175), (178, 180)] = true → u8038 c = u2 c) → (∀ j, j ≠ 27 → j ≠ 31 → j ≠ 32 → j ≠ 33 → u8038 162 j = u2 162 j) → Bd 0 511 (u8038 162 31) → AB u8038 172 (-1) 999 → AB u8038 178 (-1) 999 → AB u8038 179 0 8 → DN u8038 → N0 u8038 → RC u8038 → (6561 - w8037.toInt).toNat < n9089 → J x yX11_findOrder cX11_findOrder 9 none d 0 0 (Wd u g ex).length 12 [(0, .ref 162), (1, .int some0), (2, .int w8036), (3, .int w8037)] [] (Wd u8038 g8048 ex) 0 0 := by
    intro n9089
    induction n9089 with
    | zero => intro w8036 w8037 u8038 g8048 bw8036 bw8037 fr8039 fc8040 bm8041 ab8042 ab8043 ab8044 rf8045 rf8046 rf8047 hm9091; exact absurd hm9091 (Nat.not_lt_zero _)
    | succ n9089 ih9090 =>
      intro w8036 w8037 u8038 g8048 bw8036 bw8037 fr8039 fc8040 bm8041 ab8042 ab8043 ab8044 rf8045 rf8046 rf8047 hm9091
      refine J_iload_n (i := 3) (j := 3) dX11_findOrder_12 rfl rfl ?_
      refine J_sipush (v := 6561) dX11_findOrder_13 (by decide) ?_
      refine J_icmp_ge (tgt := 179) dX11_findOrder_16 (by decide) (fun c9092 => ?_) (fun c9092 => ?_)
      · exact J_vret hq dX11_findOrder_179 rfl wlen (Nat.le_refl _) (Nat.le_refl _) ⟨u8038, g8048, rfl, rfl, bm8041, ab8042, rf8045, rf8047, rf8046, ab8043, ab8044, (fun c k_ => ((fr8039 c (nin_sub (M := [(162, 162), (172, 175), (178, 180)]) k_ rfl)).trans (ms_c e3 (nin_ne (a := 162) k_ rfl)))), (fun j k27_ k31_ k32_ k33_ k39_ => ((fc8040 j k27_ k31_ k32_ k33_).trans (ms_i e3 k39_)))⟩
      · refine J_iload_n (i := 3) (j := 3) dX11_findOrder_19 rfl rfl ?_
        refine J_istore (i := 4) (lw := [(4, .int w8037), (0, .ref 162), (1, .int some0), (2, .int w8036), (3, .int w8037)]) dX11_findOrder_20 (by decide) rfl ?_
        refine J_iconst (v := 0) dX11_findOrder_22 (by decide) ?_
        refine J_istore (i := 5) (lw := [(5, .int 0), (4, .int w8037), (0, .ref 162), (1, .int some0), (2, .int w8036), (3, .int w8037)]) dX11_findOrder_23 (by decide) rfl ?_
        refine J_iconst (v := 3) dX11_findOrder_25 (by decide) ?_
        refine J_istore (i := 6) (lw := [(6, .int 3), (5, .int 0), (4, .int w8037), (0, .ref 162), (1, .int some0), (2, .int w8036), (3, .int w8037)]) dX11_findOrder_26 (by decide) rfl ?_
        have lp9918 : ∀ (n9919 : Nat) (w9703 : Int32) (w9704 : Int32) (w9705 : Int32) (u9706 : Nat → Nat → Int32), Bd 0 6560 w9703 → Bd 0 511 w9704 → Bd (-1) 3 w9705 → (∀ c, c ≠ 179 → u9706 c = u8038 c) → AB u9706 179 0 8 → (w9705.toInt - (-1)).toNat < n9919 → J x yX11_findOrder cX11_findOrder 9 none d 0 0 (Wd u g ex).length 28 [(0, .ref 162), (1, .int some0), (2, .int w8036), (3, .int w8037), (4, .int w9703), (5, .int w9704), (6, .int w9705)] [] (Wd u9706 g8048 ex) 0 0 := by
          intro n9919
          induction n9919 with
          | zero => intro w9703 w9704 w9705 u9706 bw9703 bw9704 bw9705 fr9707 ab9708 hm9921; exact absurd hm9921 (Nat.not_lt_zero _)
          | succ n9919 ih9920 =>
            intro w9703 w9704 w9705 u9706 bw9703 bw9704 bw9705 fr9707 ab9708 hm9921
            refine J_iload (i := 6) (j := 6) dX11_findOrder_28 rfl ?_
            have jn9940 : ∀ (w9936 : Int32) (u9937 : Nat → Nat → Int32), Bd (-1) 511 w9936 → (∀ c, c ≠ 179 → u9937 c = u9706 c) → AB u9937 179 0 8 → J x yX11_findOrder cX11_findOrder 9 none d 0 0 (Wd u g ex).length 100 [(0, .ref 162), (1, .int some0), (2, .int w8036), (3, .int w8037), (5, .int w9936)] [] (Wd u9937 g8048 ex) 0 0 := by
              intro w9936 u9937 bw9936 fr9938 ab9939
              refine J_iload (i := 5) (j := 4) dX11_findOrder_100 rfl ?_
              refine J_iload_n (i := 1) (j := 1) dX11_findOrder_102 rfl rfl ?_
              have jn10035 : ∀ (w10024 : Int32) (u10025 : Nat → Nat → Int32) (g10034 : Nat → Nat → Int64), Bd 0 1 w10024 → (∀ c, nin c [(162, 162), (172, 175), (178, 178), (180, 180)] = true → u10025 c = u9937 c) → (∀ j, j ≠ 27 → j ≠ 31 → j ≠ 32 → j ≠ 33 → u10025 162 j = u9937 162 j) → Bd 0 511 (u10025 162 31) → AB u10025 172 (-1) 999 → AB u10025 178 (-1) 999 → DN u10025 → N0 u10025 → RC u10025 → J x yX11_findOrder cX11_findOrder 9 none d 0 0 (Wd u g ex).length 173 [(0, .ref 162), (1, .int some0), (2, .int w10024), (3, .int w8037)] [] (Wd u10025 g10034 ex) 0 0 := by
                intro w10024 u10025 g10034 bw10024 fr10026 fc10027 bm10028 ab10029 ab10030 rf10031 rf10032 rf10033
                refine J_iinc (i := 3) (j := 3) (v := (w8037 + 1)) (lw := [(3, .int (w8037 + 1)), (0, .ref 162), (1, .int some0), (2, .int w10024)]) dX11_findOrder_173 rfl rfl (by decide) rfl ?_
                refine J_goto (tgt := 12) dX11_findOrder_176 (by decide) ?_
                refine J_lv [1, 2, 3, 0] rfl ?_
                exact ih9090 w10024 (w8037 + 1) u10025 g10034 bw10024 (bd_w (l := 0) (h := 6561) (bd_add (l := 1) (h := 6561) (bd_lt_hi bw8037 (i_nle c9092) (bd_c (v := 6561) (lo := 6561) (hi := 6561) (by decide))) (bd_c (v := 1) (lo := 1) (hi := 1) (by decide)) (by decide)) (by decide)) (fun c k_ => ((fr10026 c (nin_sub (M := [(162, 162), (172, 175), (178, 178), (180, 180)]) k_ rfl)).trans ((fr9938 c (nin_ne (a := 179) k_ rfl)).trans ((fr9707 c (nin_ne (a := 179) k_ rfl)).trans (fr8039 c (nin_sub (M := [(162, 162), (172, 175), (178, 180)]) k_ rfl)))))) (fun j k27_ k31_ k32_ k33_ => ((fc10027 j k27_ k31_ k32_ k33_).trans ((congrFun (fr9938 162 (Nat.ne_of_beq_eq_false rfl)) j).trans ((congrFun (fr9707 162 (Nat.ne_of_beq_eq_false rfl)) j).trans (fc8040 j k27_ k31_ k32_ k33_))))) bm10028 ab10029 ab10030 (ab_c (fr10026 179 rfl) ab9939) rf10031 rf10032 rf10033 (mu_up 1 bw8037 rfl (by decide) (bd_w (l := 1) (h := 6561) (bd_add (l := 1) (h := 6561) (bd_lt_hi bw8037 (i_nle c9092) (bd_c (v := 6561) (lo := 6561) (hi := 6561) (by decide))) (bd_c (v := 1) (lo := 1) (hi := 1) (by decide)) (by decide)) (by decide)) hm9091)
              refine J_icmp_eq (tgt := 109) dX11_findOrder_103 (by decide) (fun c9941 => ?_) (fun c9941 => ?_)
              · refine J_aload_n (i := 0) (j := 0) dX11_findOrder_109 rfl rfl ?_
                refine J_aload_n (i := 0) (j := 0) dX11_findOrder_110 rfl rfl ?_
                refine J_get (C := RX11) (T := TX11) (Z := 43) (ci := 11) (f := 39) dX11_findOrder_111 inG11 rfl (by decide) k1303 wc_162 rfl ?_
                refine J_ci (v := (onesN some0 9)) ((congrFun (fr9938 162 (Nat.ne_of_beq_eq_false rfl)) 39).trans ((congrFun (fr9707 162 (Nat.ne_of_beq_eq_false rfl)) 39).trans ((fc8040 39 (Nat.ne_of_beq_eq_false rfl) (Nat.ne_of_beq_eq_false rfl) (Nat.ne_of_beq_eq_false rfl) (Nat.ne_of_beq_eq_false rfl)).trans (ms_e e3)))) ?_
                refine J_callV (As := [.int (onesN some0 9)]) (rest := []) dX11_findOrder_114 (c_M_fillAll (d := 5) (u := u9937) (g := g8048) (ex := ex) (n := (onesN some0 9))  (by decide) (bd_r ((congrFun (fr9938 162 (Nat.ne_of_beq_eq_false rfl)) 22).trans ((congrFun (fr9707 162 (Nat.ne_of_beq_eq_false rfl)) 22).trans ((fc8040 22 (Nat.ne_of_beq_eq_false rfl) (Nat.ne_of_beq_eq_false rfl) (Nat.ne_of_beq_eq_false rfl) (Nat.ne_of_beq_eq_false rfl)).trans (ms_i e3 (Nat.ne_of_beq_eq_false rfl))))) hp0) (rc_c ((fr9938 172 (Nat.ne_of_beq_eq_false rfl)).trans (fr9707 172 (Nat.ne_of_beq_eq_false rfl))) rf8047) (dn_c ((fr9938 172 (Nat.ne_of_beq_eq_false rfl)).trans (fr9707 172 (Nat.ne_of_beq_eq_false rfl))) rf8045) (bd_r ((congrFun (fr9938 162 (Nat.ne_of_beq_eq_false rfl)) 31).trans (congrFun (fr9707 162 (Nat.ne_of_beq_eq_false rfl)) 31)) bm8041) (ab_c ((fr9938 172 (Nat.ne_of_beq_eq_false rfl)).trans (fr9707 172 (Nat.ne_of_beq_eq_false rfl))) ab8042) (n0_c ((fr9938 172 (Nat.ne_of_beq_eq_false rfl)).trans (fr9707 172 (Nat.ne_of_beq_eq_false rfl))) rf8046) (ab_c ((fr9938 178 (Nat.ne_of_beq_eq_false rfl)).trans (fr9707 178 (Nat.ne_of_beq_eq_false rfl))) ab8043) ab9939 (bd_w (l := 0) (h := 4) hp8 (by decide))) hq.n k1687 k1689 k78 wc_162 rfl rfl k97 k1690 np_X11_fillAll (Nat.le_trans (by decide) hd) (by decide) (Nat.le_refl _) (Nat.le_refl _) wlen rfl (Nat.le_of_ble_eq_true rfl) (fun r_ h_ p10036 => ?_)
                obtain ⟨l10037, u10038, rfl, rfl, h10039, h10040, h10041, h10042, h10043, h10044, fr10045, fc10046⟩ := p10036
                refine J_lstore (i := 6) (lw := [(6, .long l10037), (0, .ref 162), (1, .int some0), (2, .int w8036), (3, .int w8037), (5, .int w9936)]) dX11_findOrder_117 (by decide) rfl ?_
                refine J_iload_n (i := 2) (j := 3) dX11_findOrder_119 rfl rfl ?_
                refine J_if_eq (tgt := 133) dX11_findOrder_120 (by decide) (fun c10047 => ?_) (fun c10047 => ?_)
                · refine J_iconst (v := 1) dX11_findOrder_133 (by decide) ?_
                  refine J_istore_n (i := 2) (lw := [(2, .int 1), (6, .long l10037), (0, .ref 162), (1, .int some0), (3, .int w8037), (5, .int w9936)]) dX11_findOrder_134 rfl (by decide) rfl ?_
                  refine J_aload_n (i := 0) (j := 2) dX11_findOrder_135 rfl rfl ?_
                  refine J_lload (i := 6) (j := 1) dX11_findOrder_136 rfl ?_
                  obtain ⟨g10048, e10049⟩ : ∃ z, z = ml g8048 162 40 l10037 := ⟨_, rfl⟩
                  refine J_put (C := RX11) (T := TX11) (Z := 43) (ci := 11) (f := 40) (ty0 := tyX11) dX11_findOrder_138 inG11 rfl tyX11_ok nmX11 (by decide) k1304 rfl rfl wc_162 (Nat.le_of_ble_eq_true rfl) (fun _ _ => ⟨rfl, rfl⟩) (wsl e10049 wk_162 rfl) ?_
                  refine J_iconst (v := 0) dX11_findOrder_141 (by decide) ?_
                  refine J_istore (i := 8) (lw := [(8, .int 0), (2, .int 1), (6, .long l10037), (0, .ref 162), (1, .int some0), (3, .int w8037), (5, .int w9936)]) dX11_findOrder_142 (by decide) rfl ?_
                  have lp10074 : ∀ (n10075 : Nat) (w10067 : Int32) (u10068 : Nat → Nat → Int32), Bd 0 4 w10067 → (∀ c, c ≠ 180 → u10068 c = u10038 c) → (4 - w10067.toInt).toNat < n10075 → J x yX11_findOrder cX11_findOrder 9 none d 0 0 (Wd u g ex).length 144 [(0, .ref 162), (1, .int some0), (2, .int 1), (3, .int w8037), (8, .int w10067)] [] (Wd u10068 g10048 ex) 0 0 := by
                    intro n10075
                    induction n10075 with
                    | zero => intro w10067 u10068 bw10067 fr10069 hm10077; exact absurd hm10077 (Nat.not_lt_zero _)
                    | succ n10075 ih10076 =>
                      intro w10067 u10068 bw10067 fr10069 hm10077
                      refine J_iload (i := 8) (j := 4) dX11_findOrder_144 rfl ?_
                      refine J_aload_n (i := 0) (j := 0) dX11_findOrder_146 rfl rfl ?_
                      refine J_get (C := RX11) (T := TX11) (Z := 43) (ci := 11) (f := 39) dX11_findOrder_147 inG11 rfl (by decide) k1303 wc_162 rfl ?_
                      refine J_ci (v := (onesN some0 9)) ((congrFun (fr10069 162 (Nat.ne_of_beq_eq_false rfl)) 39).trans ((fc10046 39 (Nat.ne_of_beq_eq_false rfl) (Nat.ne_of_beq_eq_false rfl) (Nat.ne_of_beq_eq_false rfl) (Nat.ne_of_beq_eq_false rfl)).trans ((congrFun (fr9938 162 (Nat.ne_of_beq_eq_false rfl)) 39).trans ((congrFun (fr9707 162 (Nat.ne_of_beq_eq_false rfl)) 39).trans ((fc8040 39 (Nat.ne_of_beq_eq_false rfl) (Nat.ne_of_beq_eq_false rfl) (Nat.ne_of_beq_eq_false rfl) (Nat.ne_of_beq_eq_false rfl)).trans (ms_e e3)))))) ?_
                      refine J_icmp_ge (tgt := 173) dX11_findOrder_150 (by decide) (fun c10078 => ?_) (fun c10078 => ?_)
                      · refine J_lv [0, 1, 2, 3] rfl ?_
                        exact jn10035 (1 : Int32) u10068 g10048 (bd_w (l := 0) (h := 1) (bd_c (v := 1) (lo := 1) (hi := 1) (by decide)) (by decide)) (fun c k_ => ((fr10069 c (nin_ne (a := 180) k_ rfl)).trans (fr10045 c (nin_sub (M := [(162, 162), (172, 175), (178, 178)]) k_ rfl)))) (fun j k27_ k31_ k32_ k33_ => ((congrFun (fr10069 162 (Nat.ne_of_beq_eq_false rfl)) j).trans (fc10046 j k27_ k31_ k32_ k33_))) (bd_r (congrFun (fr10069 162 (Nat.ne_of_beq_eq_false rfl)) 31) h10039) (ab_c (fr10069 172 (Nat.ne_of_beq_eq_false rfl)) h10040) (ab_c (fr10069 178 (Nat.ne_of_beq_eq_false rfl)) h10044) (dn_c (fr10069 172 (Nat.ne_of_beq_eq_false rfl)) h10041) (n0_c (fr10069 172 (Nat.ne_of_beq_eq_false rfl)) h10043) (rc_c (fr10069 172 (Nat.ne_of_beq_eq_false rfl)) h10042)
                      · refine J_aload_n (i := 0) (j := 0) dX11_findOrder_153 rfl rfl ?_
                        refine J_get (C := RX11) (T := TX11) (Z := 43) (ci := 11) (f := 38) dX11_findOrder_154 inG11 rfl (by decide) k1302 wc_162 rfl ?_
                        refine J_iload (i := 8) (j := 4) dX11_findOrder_157 rfl ?_
                        refine J_aload_n (i := 0) (j := 0) dX11_findOrder_159 rfl rfl ?_
                        refine J_get (C := RX11) (T := TX11) (Z := 43) (ci := 11) (f := 37) dX11_findOrder_160 inG11 rfl (by decide) k1301 wc_162 rfl ?_
                        refine J_iload (i := 8) (j := 4) dX11_findOrder_163 rfl ?_
                        refine J_iald dX11_findOrder_165 wc_179 (vin (bd_lt_hi bw10067 (i_nle c10078) hp8) (by decide)) ?_
                        refine J_topi (fun v10079 qv10079 => ?_)
                        obtain ⟨u10080, e10081⟩ : ∃ z, z = ms u10068 180 w10067.toNatClampNeg v10079 := ⟨_, rfl⟩
                        refine J_iast dX11_findOrder_166 wc_180 (vin (bd_lt_hi bw10067 (i_nle c10078) hp8) (by decide)) (ws e10081 wk_180 rfl) ?_
                        refine J_iinc (i := 8) (j := 4) (v := (w10067 + 1)) (lw := [(8, .int (w10067 + 1)), (0, .ref 162), (1, .int some0), (2, .int 1), (3, .int w8037)]) dX11_findOrder_167 rfl rfl (by decide) rfl ?_
                        refine J_goto (tgt := 144) dX11_findOrder_170 (by decide) ?_
                        refine J_lv [1, 2, 3, 4, 0] rfl ?_
                        exact ih10076 (w10067 + 1) u10080 (bd_w (l := 0) (h := 4) (bd_add (l := 1) (h := 4) (bd_lt_hi bw10067 (i_nle c10078) hp8) (bd_c (v := 1) (lo := 1) (hi := 1) (by decide)) (by decide)) (by decide)) (fun c k0_ => ((ms_c e10081 k0_).trans (fr10069 c k0_))) (mu_up 1 bw10067 rfl (by decide) (bd_w (l := 1) (h := 4) (bd_add (l := 1) (h := 4) (bd_lt_hi bw10067 (i_nle c10078) hp8) (bd_c (v := 1) (lo := 1) (hi := 1) (by decide)) (by decide)) (by decide)) hm10077)
                  refine J_lv [3, 4, 1, 5, 0] rfl ?_
                  exact lp10074 _ (0 : Int32) u10038 (bd_w (l := 0) (h := 4) (bd_c (v := 0) (lo := 0) (hi := 0) (by decide)) (by decide)) (fun c k0_ => rfl) (Nat.lt_succ_self _)
                · refine J_lload (i := 6) (j := 0) dX11_findOrder_123 rfl ?_
                  refine J_aload_n (i := 0) (j := 1) dX11_findOrder_125 rfl rfl ?_
                  refine J_get (C := RX11) (T := TX11) (Z := 43) (ci := 11) (f := 40) dX11_findOrder_126 inG11 rfl (by decide) k1304 wc_162 rfl ?_
                  refine J_topl (fun l10082 _ => ?_)
                  refine J_lcmp dX11_findOrder_129 ?_
                  refine J_if_ge (tgt := 173) dX11_findOrder_130 (by decide) (fun c10083 => ?_) (fun c10083 => ?_)
                  · refine J_lv [1, 2, 3, 4] rfl ?_
                    exact jn10035 w8036 u10038 g8048 (bd_w (l := 0) (h := 1) (bd_ne_lo bw8036 c10047 (by decide)) (by decide)) (fun c k_ => (fr10045 c (nin_sub (M := [(162, 162), (172, 175), (178, 178)]) k_ rfl))) (fun j k27_ k31_ k32_ k33_ => (fc10046 j k27_ k31_ k32_ k33_)) h10039 h10040 h10044 h10041 h10043 h10042
                  · refine J_iconst (v := 1) dX11_findOrder_133 (by decide) ?_
                    refine J_istore_n (i := 2) (lw := [(2, .int 1), (6, .long l10037), (0, .ref 162), (1, .int some0), (3, .int w8037), (5, .int w9936)]) dX11_findOrder_134 rfl (by decide) rfl ?_
                    refine J_aload_n (i := 0) (j := 2) dX11_findOrder_135 rfl rfl ?_
                    refine J_lload (i := 6) (j := 1) dX11_findOrder_136 rfl ?_
                    obtain ⟨g10084, e10085⟩ : ∃ z, z = ml g8048 162 40 l10037 := ⟨_, rfl⟩
                    refine J_put (C := RX11) (T := TX11) (Z := 43) (ci := 11) (f := 40) (ty0 := tyX11) dX11_findOrder_138 inG11 rfl tyX11_ok nmX11 (by decide) k1304 rfl rfl wc_162 (Nat.le_of_ble_eq_true rfl) (fun _ _ => ⟨rfl, rfl⟩) (wsl e10085 wk_162 rfl) ?_
                    refine J_iconst (v := 0) dX11_findOrder_141 (by decide) ?_
                    refine J_istore (i := 8) (lw := [(8, .int 0), (2, .int 1), (6, .long l10037), (0, .ref 162), (1, .int some0), (3, .int w8037), (5, .int w9936)]) dX11_findOrder_142 (by decide) rfl ?_
                    have lp10110 : ∀ (n10111 : Nat) (w10103 : Int32) (u10104 : Nat → Nat → Int32), Bd 0 4 w10103 → (∀ c, c ≠ 180 → u10104 c = u10038 c) → (4 - w10103.toInt).toNat < n10111 → J x yX11_findOrder cX11_findOrder 9 none d 0 0 (Wd u g ex).length 144 [(0, .ref 162), (1, .int some0), (2, .int 1), (3, .int w8037), (8, .int w10103)] [] (Wd u10104 g10084 ex) 0 0 := by
                      intro n10111
                      induction n10111 with
                      | zero => intro w10103 u10104 bw10103 fr10105 hm10113; exact absurd hm10113 (Nat.not_lt_zero _)
                      | succ n10111 ih10112 =>
                        intro w10103 u10104 bw10103 fr10105 hm10113
                        refine J_iload (i := 8) (j := 4) dX11_findOrder_144 rfl ?_
                        refine J_aload_n (i := 0) (j := 0) dX11_findOrder_146 rfl rfl ?_
                        refine J_get (C := RX11) (T := TX11) (Z := 43) (ci := 11) (f := 39) dX11_findOrder_147 inG11 rfl (by decide) k1303 wc_162 rfl ?_
                        refine J_ci (v := (onesN some0 9)) ((congrFun (fr10105 162 (Nat.ne_of_beq_eq_false rfl)) 39).trans ((fc10046 39 (Nat.ne_of_beq_eq_false rfl) (Nat.ne_of_beq_eq_false rfl) (Nat.ne_of_beq_eq_false rfl) (Nat.ne_of_beq_eq_false rfl)).trans ((congrFun (fr9938 162 (Nat.ne_of_beq_eq_false rfl)) 39).trans ((congrFun (fr9707 162 (Nat.ne_of_beq_eq_false rfl)) 39).trans ((fc8040 39 (Nat.ne_of_beq_eq_false rfl) (Nat.ne_of_beq_eq_false rfl) (Nat.ne_of_beq_eq_false rfl) (Nat.ne_of_beq_eq_false rfl)).trans (ms_e e3)))))) ?_
                        refine J_icmp_ge (tgt := 173) dX11_findOrder_150 (by decide) (fun c10114 => ?_) (fun c10114 => ?_)
                        · refine J_lv [0, 1, 2, 3] rfl ?_
                          exact jn10035 (1 : Int32) u10104 g10084 (bd_w (l := 0) (h := 1) (bd_c (v := 1) (lo := 1) (hi := 1) (by decide)) (by decide)) (fun c k_ => ((fr10105 c (nin_ne (a := 180) k_ rfl)).trans (fr10045 c (nin_sub (M := [(162, 162), (172, 175), (178, 178)]) k_ rfl)))) (fun j k27_ k31_ k32_ k33_ => ((congrFun (fr10105 162 (Nat.ne_of_beq_eq_false rfl)) j).trans (fc10046 j k27_ k31_ k32_ k33_))) (bd_r (congrFun (fr10105 162 (Nat.ne_of_beq_eq_false rfl)) 31) h10039) (ab_c (fr10105 172 (Nat.ne_of_beq_eq_false rfl)) h10040) (ab_c (fr10105 178 (Nat.ne_of_beq_eq_false rfl)) h10044) (dn_c (fr10105 172 (Nat.ne_of_beq_eq_false rfl)) h10041) (n0_c (fr10105 172 (Nat.ne_of_beq_eq_false rfl)) h10043) (rc_c (fr10105 172 (Nat.ne_of_beq_eq_false rfl)) h10042)
                        · refine J_aload_n (i := 0) (j := 0) dX11_findOrder_153 rfl rfl ?_
                          refine J_get (C := RX11) (T := TX11) (Z := 43) (ci := 11) (f := 38) dX11_findOrder_154 inG11 rfl (by decide) k1302 wc_162 rfl ?_
                          refine J_iload (i := 8) (j := 4) dX11_findOrder_157 rfl ?_
                          refine J_aload_n (i := 0) (j := 0) dX11_findOrder_159 rfl rfl ?_
                          refine J_get (C := RX11) (T := TX11) (Z := 43) (ci := 11) (f := 37) dX11_findOrder_160 inG11 rfl (by decide) k1301 wc_162 rfl ?_
                          refine J_iload (i := 8) (j := 4) dX11_findOrder_163 rfl ?_
                          refine J_iald dX11_findOrder_165 wc_179 (vin (bd_lt_hi bw10103 (i_nle c10114) hp8) (by decide)) ?_
                          refine J_topi (fun v10115 qv10115 => ?_)
                          obtain ⟨u10116, e10117⟩ : ∃ z, z = ms u10104 180 w10103.toNatClampNeg v10115 := ⟨_, rfl⟩
                          refine J_iast dX11_findOrder_166 wc_180 (vin (bd_lt_hi bw10103 (i_nle c10114) hp8) (by decide)) (ws e10117 wk_180 rfl) ?_
                          refine J_iinc (i := 8) (j := 4) (v := (w10103 + 1)) (lw := [(8, .int (w10103 + 1)), (0, .ref 162), (1, .int some0), (2, .int 1), (3, .int w8037)]) dX11_findOrder_167 rfl rfl (by decide) rfl ?_
                          refine J_goto (tgt := 144) dX11_findOrder_170 (by decide) ?_
                          refine J_lv [1, 2, 3, 4, 0] rfl ?_
                          exact ih10112 (w10103 + 1) u10116 (bd_w (l := 0) (h := 4) (bd_add (l := 1) (h := 4) (bd_lt_hi bw10103 (i_nle c10114) hp8) (bd_c (v := 1) (lo := 1) (hi := 1) (by decide)) (by decide)) (by decide)) (fun c k0_ => ((ms_c e10117 k0_).trans (fr10105 c k0_))) (mu_up 1 bw10103 rfl (by decide) (bd_w (l := 1) (h := 4) (bd_add (l := 1) (h := 4) (bd_lt_hi bw10103 (i_nle c10114) hp8) (bd_c (v := 1) (lo := 1) (hi := 1) (by decide)) (by decide)) (by decide)) hm10113)
                    refine J_lv [3, 4, 1, 5, 0] rfl ?_
                    exact lp10110 _ (0 : Int32) u10038 (bd_w (l := 0) (h := 4) (bd_c (v := 0) (lo := 0) (hi := 0) (by decide)) (by decide)) (fun c k0_ => rfl) (Nat.lt_succ_self _)
              · refine J_goto (tgt := 173) dX11_findOrder_106 (by decide) ?_
                refine J_lv [0, 1, 2, 3] rfl ?_
                exact jn10035 w8036 u9937 g8048 bw8036 (fun c k_ => rfl) (fun j k27_ k31_ k32_ k33_ => rfl) (bd_r ((congrFun (fr9938 162 (Nat.ne_of_beq_eq_false rfl)) 31).trans (congrFun (fr9707 162 (Nat.ne_of_beq_eq_false rfl)) 31)) bm8041) (ab_c ((fr9938 172 (Nat.ne_of_beq_eq_false rfl)).trans (fr9707 172 (Nat.ne_of_beq_eq_false rfl))) ab8042) (ab_c ((fr9938 178 (Nat.ne_of_beq_eq_false rfl)).trans (fr9707 178 (Nat.ne_of_beq_eq_false rfl))) ab8043) (dn_c ((fr9938 172 (Nat.ne_of_beq_eq_false rfl)).trans (fr9707 172 (Nat.ne_of_beq_eq_false rfl))) rf8045) (n0_c ((fr9938 172 (Nat.ne_of_beq_eq_false rfl)).trans (fr9707 172 (Nat.ne_of_beq_eq_false rfl))) rf8046) (rc_c ((fr9938 172 (Nat.ne_of_beq_eq_false rfl)).trans (fr9707 172 (Nat.ne_of_beq_eq_false rfl))) rf8047)
            refine J_if_lt (tgt := 100) dX11_findOrder_30 (by decide) (fun c9922 => ?_) (fun c9922 => ?_)
            · refine J_lv [0, 1, 2, 3, 5] rfl ?_
              exact jn9940 w9704 u9706 (bd_w (l := (-1)) (h := 511) bw9704 (by decide)) (fun c k0_ => rfl) ab9708
            · refine J_iload (i := 4) (j := 4) dX11_findOrder_33 rfl ?_
              refine J_bipush (v := 9) dX11_findOrder_35 (by decide) ?_
              refine J_irem dX11_findOrder_37 (by decide) ?_
              refine J_istore (i := 7) (lw := [(7, .int (w9703 - w9703 / 9 * 9)), (0, .ref 162), (1, .int some0), (2, .int w8036), (3, .int w8037), (4, .int w9703), (5, .int w9704), (6, .int w9705)]) dX11_findOrder_38 (by decide) rfl ?_
              refine J_iload (i := 4) (j := 5) dX11_findOrder_40 rfl ?_
              refine J_bipush (v := 9) dX11_findOrder_42 (by decide) ?_
              refine J_idiv dX11_findOrder_44 (by decide) ?_
              refine J_istore (i := 4) (lw := [(4, .int (w9703 / 9)), (7, .int (w9703 - w9703 / 9 * 9)), (0, .ref 162), (1, .int some0), (2, .int w8036), (3, .int w8037), (5, .int w9704), (6, .int w9705)]) dX11_findOrder_45 (by decide) rfl ?_
              refine J_iload (i := 6) (j := 7) dX11_findOrder_47 rfl ?_
              refine J_aload_n (i := 0) (j := 2) dX11_findOrder_49 rfl rfl ?_
              refine J_get (C := RX11) (T := TX11) (Z := 43) (ci := 11) (f := 39) dX11_findOrder_50 inG11 rfl (by decide) k1303 wc_162 rfl ?_
              refine J_ci (v := (onesN some0 9)) ((congrFun (fr9707 162 (Nat.ne_of_beq_eq_false rfl)) 39).trans ((fc8040 39 (Nat.ne_of_beq_eq_false rfl) (Nat.ne_of_beq_eq_false rfl) (Nat.ne_of_beq_eq_false rfl) (Nat.ne_of_beq_eq_false rfl)).trans (ms_e e3))) ?_
              have jn10126 : ∀ (w10122 : Int32) (u10123 : Nat → Nat → Int32), Bd (-1) 511 w10122 → (∀ c, c ≠ 179 → u10123 c = u9706 c) → AB u10123 179 0 8 → J x yX11_findOrder cX11_findOrder 9 none d 0 0 (Wd u g ex).length 85 [(0, .ref 162), (1, .int some0), (2, .int w8036), (3, .int w8037), (4, .int (w9703 / 9)), (5, .int w10122), (6, .int w9705)] [] (Wd u10123 g8048 ex) 0 0 := by
                intro w10122 u10123 bw10122 fr10124 ab10125
                refine J_iload (i := 5) (j := 5) dX11_findOrder_85 rfl ?_
                refine J_iconst (v := (-1)) dX11_findOrder_87 (by decide) ?_
                refine J_icmp_ne (tgt := 94) dX11_findOrder_88 (by decide) (fun c10127 => ?_) (fun c10127 => ?_)
                · refine J_iinc (i := 6) (j := 6) (v := (w9705 + (-1))) (lw := [(6, .int (w9705 + (-1))), (0, .ref 162), (1, .int some0), (2, .int w8036), (3, .int w8037), (4, .int (w9703 / 9)), (5, .int w10122)]) dX11_findOrder_94 rfl rfl (by decide) rfl ?_
                  refine J_goto (tgt := 28) dX11_findOrder_97 (by decide) ?_
                  refine J_lv [1, 2, 3, 4, 5, 6, 0] rfl ?_
                  exact ih9920 (w9703 / 9) w10122 (w9705 + (-1)) u10123 (bd_w (l := 0) (h := 6560) (bd_div (c := 9) (l := 0) (h := 728) bw9703 (by decide)) (by decide)) (bd_ne_lo bw10122 c10127 (by decide)) (bd_w (l := (-1)) (h := 3) (bd_add (l := (-1)) (h := 2) (bd_le_lo bw9705 (i_nlt c9922) (bd_c (v := 0) (lo := 0) (hi := 0) (by decide))) (bd_c (v := (-1)) (lo := (-1)) (hi := (-1)) (by decide)) (by decide)) (by decide)) (fun c k0_ => ((fr10124 c k0_).trans (fr9707 c k0_))) ab10125 (mu_dn (-1) bw9705 rfl (by decide) (bd_w (l := (-1)) (h := 2) (bd_add (l := (-1)) (h := 2) (bd_le_lo bw9705 (i_nlt c9922) (bd_c (v := 0) (lo := 0) (hi := 0) (by decide))) (bd_c (v := (-1)) (lo := (-1)) (hi := (-1)) (by decide)) (by decide)) (by decide)) hm9921)
                · refine J_goto (tgt := 100) dX11_findOrder_91 (by decide) ?_
                  refine J_lv [0, 1, 2, 3, 5] rfl ?_
                  exact jn9940 w10122 u10123 (bd_w (l := (-1)) (h := 511) (bd_r c10127 (bd_c (v := (-1)) (lo := (-1)) (hi := (-1)) (by decide))) (by decide)) (fun c k0_ => (fr10124 c k0_)) ab10125
              refine J_icmp_ge (tgt := 77) dX11_findOrder_53 (by decide) (fun c10118 => ?_) (fun c10118 => ?_)
              · refine J_iload (i := 7) (j := 1) dX11_findOrder_77 rfl ?_
                refine J_if_le (tgt := 85) dX11_findOrder_79 (by decide) (fun c10128 => ?_) (fun c10128 => ?_)
                · refine J_lv [2, 3, 4, 5, 0, 6, 7] rfl ?_
                  exact jn10126 w9704 u9706 (bd_w (l := (-1)) (h := 511) bw9704 (by decide)) (fun c k0_ => rfl) ab9708
                · refine J_iconst (v := (-1)) dX11_findOrder_82 (by decide) ?_
                  refine J_istore (i := 5) (lw := [(5, .int (-1)), (4, .int (w9703 / 9)), (7, .int (w9703 - w9703 / 9 * 9)), (0, .ref 162), (1, .int some0), (2, .int w8036), (3, .int w8037), (6, .int w9705)]) dX11_findOrder_83 (by decide) rfl ?_
                  refine J_lv [3, 4, 5, 6, 1, 0, 7] rfl ?_
                  exact jn10126 ((-1) : Int32) u9706 (bd_w (l := (-1)) (h := 511) (bd_c (v := (-1)) (lo := (-1)) (hi := (-1)) (by decide)) (by decide)) (fun c k0_ => rfl) ab9708
              · refine J_aload_n (i := 0) (j := 2) dX11_findOrder_56 rfl rfl ?_
                refine J_get (C := RX11) (T := TX11) (Z := 43) (ci := 11) (f := 37) dX11_findOrder_57 inG11 rfl (by decide) k1301 wc_162 rfl ?_
                refine J_iload (i := 6) (j := 7) dX11_findOrder_60 rfl ?_
                refine J_iload (i := 7) (j := 1) dX11_findOrder_62 rfl ?_
                obtain ⟨u10129, e10130⟩ : ∃ z, z = ms u9706 179 w9705.toNatClampNeg (w9703 - w9703 / 9 * 9) := ⟨_, rfl⟩
                refine J_iast dX11_findOrder_64 wc_179 (vin (bd_le_lo bw9705 (i_nlt c9922) (bd_c (v := 0) (lo := 0) (hi := 0) (by decide))) (by decide)) (ws e10130 wk_179 rfl) ?_
                refine J_iload (i := 5) (j := 6) dX11_findOrder_65 rfl ?_
                refine J_iconst (v := 1) dX11_findOrder_67 (by decide) ?_
                refine J_iload (i := 7) (j := 1) dX11_findOrder_68 rfl ?_
                refine J_ishl dX11_findOrder_70 ?_
                refine J_ior dX11_findOrder_71 ?_
                refine J_istore (i := 5) (lw := [(5, .int (w9704 ||| ((1 : Int32) <<< ((w9703 - w9703 / 9 * 9) &&& 31)))), (4, .int (w9703 / 9)), (7, .int (w9703 - w9703 / 9 * 9)), (0, .ref 162), (1, .int some0), (2, .int w8036), (3, .int w8037), (6, .int w9705)]) dX11_findOrder_72 (by decide) rfl ?_
                refine J_goto (tgt := 85) dX11_findOrder_74 (by decide) ?_
                refine J_lv [3, 4, 5, 6, 1, 0, 7] rfl ?_
                exact jn10126 (w9704 ||| ((1 : Int32) <<< ((w9703 - w9703 / 9 * 9) &&& 31))) u10129 (bd_w (l := (-1)) (h := 511) (bd_or (k := 9) (h := 511) bw9704 (bd_shl (lo := 0) (hi := 8) (l := 1) (h := 256) (bd_rem (c := 9) bw9703 (by decide)) (by decide)) (by decide)) (by decide)) (fun c k0_ => (ms_c e10130 k0_)) (ab_s e10130 ab9708 (bd_rem (c := 9) bw9703 (by decide)))
        refine J_lv [3, 4, 5, 6, 2, 1, 0] rfl ?_
        exact lp9918 _ w8037 (0 : Int32) (3 : Int32) u8038 (bd_lt_hi bw8037 (i_nle c9092) (bd_c (v := 6561) (lo := 6561) (hi := 6561) (by decide))) (bd_w (l := 0) (h := 511) (bd_c (v := 0) (lo := 0) (hi := 0) (by decide)) (by decide)) (bd_w (l := (-1)) (h := 3) (bd_c (v := 3) (lo := 3) (hi := 3) (by decide)) (by decide)) (fun c k0_ => rfl) ab8044 (Nat.lt_succ_self _)
  refine J_lv [2, 3, 1, 0] rfl ?_
  exact lp9088 _ (0 : Int32) (0 : Int32) u2 g (bd_w (l := 0) (h := 1) (bd_c (v := 0) (lo := 0) (hi := 0) (by decide)) (by decide)) (bd_w (l := 0) (h := 6561) (bd_c (v := 0) (lo := 0) (hi := 0) (by decide)) (by decide)) (fun c k_ => rfl) (fun j k27_ k31_ k32_ k33_ => rfl) (bd_r (ms_i e3 (Nat.ne_of_beq_eq_false rfl)) hp3) (ab_c (ms_c e3 (Nat.ne_of_beq_eq_false rfl)) hp4) (ab_c (ms_c e3 (Nat.ne_of_beq_eq_false rfl)) hp6) (ab_c (ms_c e3 (Nat.ne_of_beq_eq_false rfl)) hp7) (dn_c (ms_c e3 (Nat.ne_of_beq_eq_false rfl)) hp2) (n0_c (ms_c e3 (Nat.ne_of_beq_eq_false rfl)) hp5) (rc_c (ms_c e3 (Nat.ne_of_beq_eq_false rfl)) hp1) (Nat.lt_succ_self _)
set_option maxHeartbeats 4000000 in
set_option maxRecDepth 100000 in
theorem c_M_isFilled {d : Nat} {u : Nat → Nat → Int32} {g : Nat → Nat → Int64} {ex : List MC} {h : Int32} {plan : Int32} {some0 : Int32} (hd : 3 ≤ d) (hp0 : (MY u)) (hp1 : AB u 168 (-1) 999) (hp2 : (HD u)) (hp3 : (HC u)) (hp4 : (PL u)) (hp5 : (N0 u)) (hp6 : (DN u)) (hp7 : Bd 0 9 (u 162 22)) (hp8 : Bd 0 511 (u 162 31)) (hp9 : AB u 177 (-1) 999) : CT con0 d 0 0 yX11_isFilled cX11_isFilled 4 (some .boolean) [.ref 162, .int h, .int plan, .int some0] (Wd u g ex) (fun r h2 => ∃ (z : Bool) (u2 : Nat → Nat → Int32), r = some (.int (bI z)) ∧ h2 = Wd u2 g ex ∧ (z = true → Bd 0 511 some0) ∧ (z = true → Bd 1 4 (onesN some0 9)) ∧ Bd 0 9 (u2 162 22) ∧ (DN u2) ∧ (N0 u2) ∧ (z = true → RC u2 ∧ AB u2 172 (-1) 999) ∧ (∀ c, c ≠ 162 → c ≠ 172 → u2 c = u c) ∧ (∀ j, j ≠ 22 → j ≠ 23 → j ≠ 24 → j ≠ 25 → j ≠ 26 → j ≠ 27 → u2 162 j = u 162 j)) := by
  refine CT_of (by decide) (Nat.le_of_ble_eq_true rfl) (fun x hq => ?_)
  show J x yX11_isFilled cX11_isFilled 4 (some .boolean) d 0 0 (Wd u g ex).length 0 [(0, .ref 162), (1, .int h), (2, .int plan), (3, .int some0)] [] (Wd u g ex) 0 0
  refine J_aload_n (i := 0) (j := 0) dX11_isFilled_0 rfl rfl ?_
  refine J_iload_n (i := 1) (j := 1) dX11_isFilled_1 rfl rfl ?_
  refine J_iload_n (i := 2) (j := 2) dX11_isFilled_2 rfl rfl ?_
  refine J_callV (As := [.int h, .int plan]) (rest := []) dX11_isFilled_3 (c_M_lay (d := 2) (u := u) (g := g) (ex := ex) (h := h) (plan := plan)  (by decide) hp0 hp1 hp2 hp3 hp4 hp5 hp6 hp7) hq.n k1503 k1505 k52 wc_162 rfl rfl k97 k1506 np_X11_lay (Nat.le_trans (by decide) hd) (by decide) (Nat.le_refl _) (Nat.le_refl _) wlen rfl (Nat.le_of_ble_eq_true rfl) (fun r_ h_ p1 => ?_)
  obtain ⟨t2, u3, rfl, rfl, h4, h5, h6, h7, fr8, fc9⟩ := p1
  refine J_ifB_eq (tgt := 33) dX11_isFilled_6 (by decide) (fun c10 => ?_) (fun c10 => ?_)
  · refine J_iconst (v := 0) dX11_isFilled_33 (by decide) ?_
    exact J_zret hq dX11_isFilled_34 rfl rfl wlen (Nat.le_refl _) (Nat.le_refl _) ⟨false, u3, rfl, rfl, (fun q => absurd q (by decide)), (fun q => absurd q (by decide)), h4, h5, h6, (fun q => absurd q (by decide)), (fun c k0_ k1_ => (fr8 c k0_ k1_)), (fun j k22_ k23_ k24_ k25_ k26_ k27_ => (fc9 j k22_ k23_ k24_ k25_ k26_ k27_))⟩
  · refine J_aload_n (i := 0) (j := 0) dX11_isFilled_9 rfl rfl ?_
    refine J_iload_n (i := 3) (j := 3) dX11_isFilled_10 rfl rfl ?_
    refine J_callV (As := [.int some0]) (rest := []) dX11_isFilled_11 (c_M_arePonds (d := 0) (u := u3) (g := g) (ex := ex) (set := some0)  (by decide) h4) hq.n k1543 k1545 k59 wc_162 rfl rfl k97 k1546 np_X11_arePonds (Nat.le_trans (by decide) hd) (by decide) (Nat.le_refl _) (Nat.le_refl _) wlen rfl (Nat.le_of_ble_eq_true rfl) (fun r_ h_ p11 => ?_)
    obtain ⟨t12, rfl, rfl, h13⟩ := p11
    refine J_ifB_eq (tgt := 33) dX11_isFilled_14 (by decide) (fun c14 => ?_) (fun c14 => ?_)
    · refine J_iconst (v := 0) dX11_isFilled_33 (by decide) ?_
      exact J_zret hq dX11_isFilled_34 rfl rfl wlen (Nat.le_refl _) (Nat.le_refl _) ⟨false, u3, rfl, rfl, (fun q => absurd q (by decide)), (fun q => absurd q (by decide)), h4, h5, h6, (fun q => absurd q (by decide)), (fun c k0_ k1_ => (fr8 c k0_ k1_)), (fun j k22_ k23_ k24_ k25_ k26_ k27_ => (fc9 j k22_ k23_ k24_ k25_ k26_ k27_))⟩
    · refine J_iload_n (i := 3) (j := 3) dX11_isFilled_17 rfl rfl ?_
      refine J_callS (As := [.int some0]) (rest := []) dX11_isFilled_18 (c_M_ones (d := 0) (u := u3) (g := g) (ex := ex) (set := some0)  (by decide) ) hq.n k1608 k1609 k97 k1610 np_X11_ones (Nat.le_trans (by decide) hd) (by decide) (Nat.le_refl _) (Nat.le_refl _) wlen rfl (Nat.le_of_ble_eq_true rfl) (fun r_ h_ p15 => ?_)
      obtain ⟨rfl, rfl⟩ := p15
      refine J_iconst (v := 1) dX11_isFilled_21 (by decide) ?_
      refine J_iconst (v := 4) dX11_isFilled_22 (by decide) ?_
      refine J_callS (As := [.int (onesN some0 9), .int 1, .int 4]) (rest := []) dX11_isFilled_23 (c_M_in (d := 0) (u := u3) (g := g) (ex := ex) (v := (onesN some0 9)) (low := 1) (high := 4)  (by decide) ) hq.n k1406 k1407 k97 k1408 np_X11_in (Nat.le_trans (by decide) hd) (by decide) (Nat.le_refl _) (Nat.le_refl _) wlen rfl (Nat.le_of_ble_eq_true rfl) (fun r_ h_ p16 => ?_)
      obtain ⟨t17, rfl, rfl, h18, h19⟩ := p16
      refine J_ifB_eq (tgt := 33) dX11_isFilled_26 (by decide) (fun c20 => ?_) (fun c20 => ?_)
      · refine J_iconst (v := 0) dX11_isFilled_33 (by decide) ?_
        exact J_zret hq dX11_isFilled_34 rfl rfl wlen (Nat.le_refl _) (Nat.le_refl _) ⟨false, u3, rfl, rfl, (fun q => absurd q (by decide)), (fun q => absurd q (by decide)), h4, h5, h6, (fun q => absurd q (by decide)), (fun c k0_ k1_ => (fr8 c k0_ k1_)), (fun j k22_ k23_ k24_ k25_ k26_ k27_ => (fc9 j k22_ k23_ k24_ k25_ k26_ k27_))⟩
      · refine J_iconst (v := 1) dX11_isFilled_29 (by decide) ?_
        refine J_goto (tgt := 34) dX11_isFilled_30 (by decide) ?_
        exact J_zret hq dX11_isFilled_34 rfl rfl wlen (Nat.le_refl _) (Nat.le_refl _) ⟨true, u3, rfl, rfl, (fun qb => (h13 c14)), (fun qb => (bd_le_hi (bd_le_lo (bd_any (onesN some0 9)) (h18 c20) (bd_c (v := 1) (lo := 1) (hi := 1) (by decide))) (h19 c20) (bd_c (v := 4) (lo := 4) (hi := 4) (by decide)))), h4, h5, h6, (fun _ => ⟨(h7 c10).1, (h7 c10).2⟩), (fun c k0_ k1_ => (fr8 c k0_ k1_)), (fun j k22_ k23_ k24_ k25_ k26_ k27_ => (fc9 j k22_ k23_ k24_ k25_ k26_ k27_))⟩
set_option maxHeartbeats 4000000 in
set_option maxRecDepth 100000 in
theorem c_M_may {d : Nat} {u : Nat → Nat → Int32} {g : Nat → Nat → Int64} {ex : List MC} {hill : Int32} {plan : Int32} {ponds : Int32} {first : Int32} (hd : 7 ≤ d) (hp0 : (MY u)) (hp1 : AB u 168 (-1) 999) (hp2 : (HD u)) (hp3 : (HC u)) (hp4 : (PL u)) (hp5 : (N0 u)) (hp6 : (DN u)) (hp7 : Bd 0 9 (u 162 22)) (hp8 : Bd 0 511 (u 162 31)) (hp9 : AB u 177 (-1) 999) (hp10 : AB u 178 (-1) 999) (hp11 : AB u 179 0 8) : CT con0 d 0 0 yX11_may cX11_may 7 (some .long) [.ref 162, .int hill, .int plan, .int ponds, .int first] (Wd u g ex) (fun r h2 => ∃ (z : Int64) (u2 : Nat → Nat → Int32) (g2 : Nat → Nat → Int64), r = some (.long z) ∧ h2 = Wd u2 g2 ex ∧ Bd 0 9 (u2 162 22) ∧ (DN u2) ∧ (N0 u2) ∧ Bd 0 511 (u2 162 31) ∧ AB u2 178 (-1) 999 ∧ AB u2 179 0 8 ∧ (∀ c, nin c [(162, 162), (172, 175), (178, 180)] = true → u2 c = u c) ∧ (∀ j, j ≠ 0 → j ≠ 22 → j ≠ 23 → j ≠ 24 → j ≠ 25 → j ≠ 26 → j ≠ 27 → j ≠ 31 → j ≠ 32 → j ≠ 33 → j ≠ 39 → u2 162 j = u 162 j)) := by
  refine CT_of (by decide) (Nat.le_of_ble_eq_true rfl) (fun x hq => ?_)
  show J x yX11_may cX11_may 7 (some .long) d 0 0 (Wd u g ex).length 0 [(0, .ref 162), (1, .int hill), (2, .int plan), (3, .int ponds), (4, .int first)] [] (Wd u g ex) 0 0
  refine J_aload_n (i := 0) (j := 0) dX11_may_0 rfl rfl ?_
  refine J_iconst (v := 0) dX11_may_1 (by decide) ?_
  obtain ⟨u1, e2⟩ : ∃ z, z = ms u 162 0 0 := ⟨_, rfl⟩
  refine J_put (C := RX11) (T := TX11) (Z := 43) (ci := 11) (f := 0) (ty0 := tyX11) dX11_may_2 inG11 rfl tyX11_ok nmX11 (by decide) k1264 rfl rfl wc_162 (Nat.le_of_ble_eq_true rfl) (fun _ _ => ⟨rfl, rfl⟩) (ws e2 wk_162 rfl) ?_
  refine J_aload_n (i := 0) (j := 0) dX11_may_5 rfl rfl ?_
  refine J_iload_n (i := 1) (j := 1) dX11_may_6 rfl rfl ?_
  refine J_iload_n (i := 2) (j := 2) dX11_may_7 rfl rfl ?_
  refine J_iload_n (i := 3) (j := 3) dX11_may_8 rfl rfl ?_
  refine J_callV (As := [.int hill, .int plan, .int ponds]) (rest := []) dX11_may_9 (c_M_isFilled (d := 3) (u := u1) (g := g) (ex := ex) (h := hill) (plan := plan) (some0 := ponds)  (by decide) (my_c (ms_c e2 (Nat.ne_of_beq_eq_false rfl)) hp0) (ab_c (ms_c e2 (Nat.ne_of_beq_eq_false rfl)) hp1) (hd_c (ms_c e2 (Nat.ne_of_beq_eq_false rfl)) hp2) (hc_c (ms_c e2 (Nat.ne_of_beq_eq_false rfl)) (ms_c e2 (Nat.ne_of_beq_eq_false rfl)) hp3) (pl_c (ms_c e2 (Nat.ne_of_beq_eq_false rfl)) hp4) (n0_c (ms_c e2 (Nat.ne_of_beq_eq_false rfl)) hp5) (dn_c (ms_c e2 (Nat.ne_of_beq_eq_false rfl)) hp6) (bd_r (ms_i e2 (Nat.ne_of_beq_eq_false rfl)) hp7) (bd_r (ms_i e2 (Nat.ne_of_beq_eq_false rfl)) hp8) (ab_c (ms_c e2 (Nat.ne_of_beq_eq_false rfl)) hp9)) hq.n k1679 k1681 k76 wc_162 rfl rfl k97 k1682 np_X11_isFilled (Nat.le_trans (by decide) hd) (by decide) (Nat.le_refl _) (Nat.le_refl _) wlen rfl (Nat.le_of_ble_eq_true rfl) (fun r_ h_ p3 => ?_)
  obtain ⟨t4, u5, rfl, rfl, h6, h7, h8, h9, h10, h11, fr12, fc13⟩ := p3
  refine J_ifB_ne (tgt := 19) dX11_may_12 (by decide) (fun c14 => ?_) (fun c14 => ?_)
  · refine J_iload (i := 4) (j := 4) dX11_may_19 rfl ?_
    refine J_if_ne (tgt := 34) dX11_may_21 (by decide) (fun c15 => ?_) (fun c15 => ?_)
    · refine J_iconst (v := 0) dX11_may_34 (by decide) ?_
      refine J_istore (i := 5) (lw := [(5, .int 0), (0, .ref 162), (1, .int hill), (2, .int plan), (3, .int ponds), (4, .int first)]) dX11_may_35 (by decide) rfl ?_
      refine J_bipush (v := 8) dX11_may_37 (by decide) ?_
      refine J_istore (i := 6) (lw := [(6, .int 8), (5, .int 0), (0, .ref 162), (1, .int hill), (2, .int plan), (3, .int ponds), (4, .int first)]) dX11_may_39 (by decide) rfl ?_
      have lp125 : ∀ (n126 : Nat) (w94 : Int32) (w95 : Int32) (u96 : Nat → Nat → Int32), Bd 0 4 w94 → Bd (-1) 8 w95 → (∀ c, c ≠ 179 → u96 c = u5 c) → AB u96 179 0 8 → MYI ponds w94 w95 → (w95.toInt - (-1)).toNat < n126 → J x yX11_may cX11_may 7 (some .long) d 0 0 (Wd u g ex).length 41 [(0, .ref 162), (3, .int ponds), (5, .int w94), (6, .int w95)] [] (Wd u96 g ex) 0 0 := by
        intro n126
        induction n126 with
        | zero => intro w94 w95 u96 bw94 bw95 fr97 ab98 hI129 hm128; exact absurd hm128 (Nat.not_lt_zero _)
        | succ n126 ih127 =>
          intro w94 w95 u96 bw94 bw95 fr97 ab98 hI129 hm128
          refine J_iload (i := 6) (j := 3) dX11_may_41 rfl ?_
          refine J_if_lt (tgt := 73) dX11_may_43 (by decide) (fun c130 => ?_) (fun c130 => ?_)
          · refine J_aload_n (i := 0) (j := 0) dX11_may_73 rfl rfl ?_
            refine J_iload (i := 5) (j := 2) dX11_may_74 rfl ?_
            refine J_callV (As := [.int w94]) (rest := []) dX11_may_76 (c_M_fillAll (d := 5) (u := u96) (g := g) (ex := ex) (n := w94)  (by decide) (bd_r (congrFun (fr97 162 (Nat.ne_of_beq_eq_false rfl)) 22) h8) (rc_c (fr97 172 (Nat.ne_of_beq_eq_false rfl)) (h11 c14).1) (dn_c (fr97 172 (Nat.ne_of_beq_eq_false rfl)) h9) (bd_r ((congrFun (fr97 162 (Nat.ne_of_beq_eq_false rfl)) 31).trans ((fc13 31 (Nat.ne_of_beq_eq_false rfl) (Nat.ne_of_beq_eq_false rfl) (Nat.ne_of_beq_eq_false rfl) (Nat.ne_of_beq_eq_false rfl) (Nat.ne_of_beq_eq_false rfl) (Nat.ne_of_beq_eq_false rfl)).trans (ms_i e2 (Nat.ne_of_beq_eq_false rfl)))) hp8) (ab_c (fr97 172 (Nat.ne_of_beq_eq_false rfl)) (h11 c14).2) (n0_c (fr97 172 (Nat.ne_of_beq_eq_false rfl)) h10) (ab_c ((fr97 178 (Nat.ne_of_beq_eq_false rfl)).trans ((fr12 178 (Nat.ne_of_beq_eq_false rfl) (Nat.ne_of_beq_eq_false rfl)).trans (ms_c e2 (Nat.ne_of_beq_eq_false rfl)))) hp10) ab98 bw94) hq.n k1687 k1689 k78 wc_162 rfl rfl k97 k1690 np_X11_fillAll (Nat.le_trans (by decide) hd) (by decide) (Nat.le_refl _) (Nat.le_refl _) wlen rfl (Nat.le_of_ble_eq_true rfl) (fun r_ h_ p138 => ?_)
            obtain ⟨l139, u140, rfl, rfl, h141, h142, h143, h144, h145, h146, fr147, fc148⟩ := p138
            exact J_lret hq dX11_may_79 rfl wlen (Nat.le_refl _) (Nat.le_refl _) ⟨l139, u140, g, rfl, rfl, (bd_r ((fc148 22 (Nat.ne_of_beq_eq_false rfl) (Nat.ne_of_beq_eq_false rfl) (Nat.ne_of_beq_eq_false rfl) (Nat.ne_of_beq_eq_false rfl)).trans (congrFun (fr97 162 (Nat.ne_of_beq_eq_false rfl)) 22)) h8), h143, h145, h141, h146, (ab_c (fr147 179 rfl) ab98), (fun c k_ => ((fr147 c (nin_sub (M := [(162, 162), (172, 175), (178, 178)]) k_ rfl)).trans ((fr97 c (nin_ne (a := 179) k_ rfl)).trans ((fr12 c (nin_ne (a := 162) k_ rfl) (nin_ne (a := 172) k_ rfl)).trans (ms_c e2 (nin_ne (a := 162) k_ rfl)))))), (fun j k0_ k22_ k23_ k24_ k25_ k26_ k27_ k31_ k32_ k33_ k39_ => ((fc148 j k27_ k31_ k32_ k33_).trans ((congrFun (fr97 162 (Nat.ne_of_beq_eq_false rfl)) j).trans ((fc13 j k22_ k23_ k24_ k25_ k26_ k27_).trans (ms_i e2 k0_)))))⟩
          · refine J_iload_n (i := 3) (j := 1) dX11_may_46 rfl rfl ?_
            refine J_iload (i := 6) (j := 3) dX11_may_47 rfl ?_
            refine J_callS (As := [.int ponds, .int w95]) (rest := []) dX11_may_49 (c_M_hasE (d := 0) (u := u96) (g := g) (ex := ex) (set := ponds) (k := w95)  (by decide) ) hq.n k1555 k1556 k97 k1557 np_X11_has (Nat.le_trans (by decide) hd) (by decide) (Nat.le_refl _) (Nat.le_refl _) wlen rfl (Nat.le_of_ble_eq_true rfl) (fun r_ h_ p149 => ?_)
            obtain ⟨t150, rfl, rfl, h151⟩ := p149
            refine J_ifB_eq (tgt := 67) dX11_may_52 (by decide) (fun c152 => ?_) (fun c152 => ?_)
            · refine J_iinc (i := 6) (j := 3) (v := (w95 + (-1))) (lw := [(6, .int (w95 + (-1))), (0, .ref 162), (3, .int ponds), (5, .int w94)]) dX11_may_67 rfl rfl (by decide) rfl ?_
              refine J_goto (tgt := 41) dX11_may_70 (by decide) ?_
              refine J_lv [1, 2, 3, 0] rfl ?_
              exact ih127 w94 (w95 + (-1)) u96 bw94 (bd_w (l := (-1)) (h := 8) (bd_add (l := (-1)) (h := 7) (bd_le_lo bw95 (i_nlt c130) (bd_c (v := 0) (lo := 0) (hi := 0) (by decide))) (bd_c (v := (-1)) (lo := (-1)) (hi := (-1)) (by decide)) (by decide)) (by decide)) (fun c k0_ => (fr97 c k0_)) ab98 (myi_2 hI129 (bd_le_lo bw95 (i_nlt c130) (bd_c (v := 0) (lo := 0) (hi := 0) (by decide))) (fun e => absurd ((h151.mpr e).symm.trans c152) (by decide))) (mu_dn (-1) bw95 rfl (by decide) (bd_w (l := (-1)) (h := 7) (bd_add (l := (-1)) (h := 7) (bd_le_lo bw95 (i_nlt c130) (bd_c (v := 0) (lo := 0) (hi := 0) (by decide))) (bd_c (v := (-1)) (lo := (-1)) (hi := (-1)) (by decide)) (by decide)) (by decide)) hm128)
            · have hM153 := myi_lt hI129 (bd_le_lo bw95 (i_nlt c130) (bd_c (v := 0) (lo := 0) (hi := 0) (by decide))) (h151.mp c152) (h7 c14)
              refine J_aload_n (i := 0) (j := 0) dX11_may_55 rfl rfl ?_
              refine J_get (C := RX11) (T := TX11) (Z := 43) (ci := 11) (f := 37) dX11_may_56 inG11 rfl (by decide) k1301 wc_162 rfl ?_
              refine J_iload (i := 5) (j := 2) dX11_may_59 rfl ?_
              refine J_iload (i := 6) (j := 3) dX11_may_61 rfl ?_
              obtain ⟨u154, e155⟩ : ∃ z, z = ms u96 179 w94.toNatClampNeg w95 := ⟨_, rfl⟩
              refine J_iast dX11_may_63 wc_179 (vin hM153 (by decide)) (ws e155 wk_179 rfl) ?_
              refine J_iinc (i := 5) (j := 2) (v := (w94 + 1)) (lw := [(5, .int (w94 + 1)), (0, .ref 162), (3, .int ponds), (6, .int w95)]) dX11_may_64 rfl rfl (by decide) rfl ?_
              refine J_iinc (i := 6) (j := 3) (v := (w95 + (-1))) (lw := [(6, .int (w95 + (-1))), (5, .int (w94 + 1)), (0, .ref 162), (3, .int ponds)]) dX11_may_67 rfl rfl (by decide) rfl ?_
              refine J_goto (tgt := 41) dX11_may_70 (by decide) ?_
              refine J_lv [2, 3, 1, 0] rfl ?_
              exact ih127 (w94 + 1) (w95 + (-1)) u154 (bd_w (l := 0) (h := 4) (bd_add (l := 1) (h := 4) hM153 (bd_c (v := 1) (lo := 1) (hi := 1) (by decide)) (by decide)) (by decide)) (bd_w (l := (-1)) (h := 8) (bd_add (l := (-1)) (h := 7) (bd_le_lo bw95 (i_nlt c130) (bd_c (v := 0) (lo := 0) (hi := 0) (by decide))) (bd_c (v := (-1)) (lo := (-1)) (hi := (-1)) (by decide)) (by decide)) (by decide)) (fun c k0_ => ((ms_c e155 k0_).trans (fr97 c k0_))) (ab_s e155 ab98 (bd_le_lo bw95 (i_nlt c130) (bd_c (v := 0) (lo := 0) (hi := 0) (by decide)))) (myi_1 hI129 (bd_le_lo bw95 (i_nlt c130) (bd_c (v := 0) (lo := 0) (hi := 0) (by decide))) (h151.mp c152) hM153) (mu_dn (-1) bw95 rfl (by decide) (bd_w (l := (-1)) (h := 7) (bd_add (l := (-1)) (h := 7) (bd_le_lo bw95 (i_nlt c130) (bd_c (v := 0) (lo := 0) (hi := 0) (by decide))) (bd_c (v := (-1)) (lo := (-1)) (hi := (-1)) (by decide)) (by decide)) (by decide)) hm128)
      refine J_lv [2, 5, 1, 0] rfl ?_
      exact lp125 _ (0 : Int32) (8 : Int32) u5 (bd_w (l := 0) (h := 4) (bd_c (v := 0) (lo := 0) (hi := 0) (by decide)) (by decide)) (bd_w (l := (-1)) (h := 8) (bd_c (v := 8) (lo := 8) (hi := 8) (by decide)) (by decide)) (fun c k0_ => rfl) (ab_c ((fr12 179 (Nat.ne_of_beq_eq_false rfl) (Nat.ne_of_beq_eq_false rfl)).trans (ms_c e2 (Nat.ne_of_beq_eq_false rfl))) hp11) myi_0 (Nat.lt_succ_self _)
    · refine J_aload_n (i := 0) (j := 0) dX11_may_24 rfl rfl ?_
      refine J_iload_n (i := 3) (j := 3) dX11_may_25 rfl rfl ?_
      refine J_callV (As := [.int ponds]) (rest := []) dX11_may_26 (c_M_findOrder (d := 6) (u := u5) (g := g) (ex := ex) (some0 := ponds)  (by decide) h8 (h11 c14).1 h9 (bd_r ((fc13 31 (Nat.ne_of_beq_eq_false rfl) (Nat.ne_of_beq_eq_false rfl) (Nat.ne_of_beq_eq_false rfl) (Nat.ne_of_beq_eq_false rfl) (Nat.ne_of_beq_eq_false rfl) (Nat.ne_of_beq_eq_false rfl)).trans (ms_i e2 (Nat.ne_of_beq_eq_false rfl))) hp8) (h11 c14).2 h10 (ab_c ((fr12 178 (Nat.ne_of_beq_eq_false rfl) (Nat.ne_of_beq_eq_false rfl)).trans (ms_c e2 (Nat.ne_of_beq_eq_false rfl))) hp10) (ab_c ((fr12 179 (Nat.ne_of_beq_eq_false rfl) (Nat.ne_of_beq_eq_false rfl)).trans (ms_c e2 (Nat.ne_of_beq_eq_false rfl))) hp11) (h7 c14)) hq.n k1683 k1685 k77 wc_162 rfl rfl k97 k1686 np_X11_findOrder (Nat.le_trans (by decide) hd) (by decide) (Nat.le_refl _) (Nat.le_refl _) wlen rfl (Nat.le_of_ble_eq_true rfl) (fun r_ h_ p156 => ?_)
      obtain ⟨u157, g158, rfl, rfl, h159, h160, h161, h162, h163, h164, h165, fr166, fc167⟩ := p156
      refine J_aload_n (i := 0) (j := 0) dX11_may_29 rfl rfl ?_
      refine J_get (C := RX11) (T := TX11) (Z := 43) (ci := 11) (f := 40) dX11_may_30 inG11 rfl (by decide) k1304 wc_162 rfl ?_
      refine J_topl (fun l168 _ => ?_)
      exact J_lret hq dX11_may_33 rfl wlen (Nat.le_refl _) (Nat.le_refl _) ⟨l168, u157, g158, rfl, rfl, (bd_r (fc167 22 (Nat.ne_of_beq_eq_false rfl) (Nat.ne_of_beq_eq_false rfl) (Nat.ne_of_beq_eq_false rfl) (Nat.ne_of_beq_eq_false rfl) (Nat.ne_of_beq_eq_false rfl)) h8), h161, h163, h159, h164, h165, (fun c k_ => ((fr166 c (nin_sub (M := [(162, 162), (172, 175), (178, 180)]) k_ rfl)).trans ((fr12 c (nin_ne (a := 162) k_ rfl) (nin_ne (a := 172) k_ rfl)).trans (ms_c e2 (nin_ne (a := 162) k_ rfl))))), (fun j k0_ k22_ k23_ k24_ k25_ k26_ k27_ k31_ k32_ k33_ k39_ => ((fc167 j k27_ k31_ k32_ k33_ k39_).trans ((fc13 j k22_ k23_ k24_ k25_ k26_ k27_).trans (ms_i e2 k0_))))⟩
  · refine J_ldc2 (v := (-1)) dX11_may_15 k1578 ?_
    exact J_lret hq dX11_may_18 rfl wlen (Nat.le_refl _) (Nat.le_refl _) ⟨((-1) : Int64), u5, g, rfl, rfl, h8, h9, h10, (bd_r ((fc13 31 (Nat.ne_of_beq_eq_false rfl) (Nat.ne_of_beq_eq_false rfl) (Nat.ne_of_beq_eq_false rfl) (Nat.ne_of_beq_eq_false rfl) (Nat.ne_of_beq_eq_false rfl) (Nat.ne_of_beq_eq_false rfl)).trans (ms_i e2 (Nat.ne_of_beq_eq_false rfl))) hp8), (ab_c ((fr12 178 (Nat.ne_of_beq_eq_false rfl) (Nat.ne_of_beq_eq_false rfl)).trans (ms_c e2 (Nat.ne_of_beq_eq_false rfl))) hp10), (ab_c ((fr12 179 (Nat.ne_of_beq_eq_false rfl) (Nat.ne_of_beq_eq_false rfl)).trans (ms_c e2 (Nat.ne_of_beq_eq_false rfl))) hp11), (fun c k_ => ((fr12 c (nin_ne (a := 162) k_ rfl) (nin_ne (a := 172) k_ rfl)).trans (ms_c e2 (nin_ne (a := 162) k_ rfl)))), (fun j k0_ k22_ k23_ k24_ k25_ k26_ k27_ k31_ k32_ k33_ k39_ => ((fc13 j k22_ k23_ k24_ k25_ k26_ k27_).trans (ms_i e2 k0_)))⟩
set_option maxHeartbeats 4000000 in
set_option maxRecDepth 100000 in
theorem c_M_order {d : Nat} {u : Nat → Nat → Int32} {g : Nat → Nat → Int64} {ex : List MC} {hill : Int32} {plan : Int32} {ponds : Int32} {k : Int32} (hd : 7 ≤ d) (hp0 : (MY u)) (hp1 : AB u 168 (-1) 999) (hp2 : (HD u)) (hp3 : (HC u)) (hp4 : (PL u)) (hp5 : (N0 u)) (hp6 : (DN u)) (hp7 : Bd 0 9 (u 162 22)) (hp8 : Bd 0 511 (u 162 31)) (hp9 : AB u 177 (-1) 999) (hp10 : AB u 178 (-1) 999) (hp11 : AB u 179 0 8) : CT con0 d 0 0 yX11_order cX11_order 5 (some .int) [.ref 162, .int hill, .int plan, .int ponds, .int k] (Wd u g ex) (fun r h2 => ∃ (z : Int32) (u2 : Nat → Nat → Int32) (g2 : Nat → Nat → Int64), r = some (.int z) ∧ h2 = Wd u2 g2 ex ∧ Bd 0 9 (u2 162 22) ∧ (DN u2) ∧ (N0 u2) ∧ Bd 0 511 (u2 162 31) ∧ AB u2 178 (-1) 999 ∧ AB u2 179 0 8 ∧ (∀ c, nin c [(162, 162), (172, 175), (178, 180)] = true → u2 c = u c) ∧ (∀ j, j ≠ 0 → j ≠ 22 → j ≠ 23 → j ≠ 24 → j ≠ 25 → j ≠ 26 → j ≠ 27 → j ≠ 31 → j ≠ 32 → j ≠ 33 → j ≠ 39 → u2 162 j = u 162 j)) := by
  refine CT_of (by decide) (Nat.le_of_ble_eq_true rfl) (fun x hq => ?_)
  show J x yX11_order cX11_order 5 (some .int) d 0 0 (Wd u g ex).length 0 [(0, .ref 162), (1, .int hill), (2, .int plan), (3, .int ponds), (4, .int k)] [] (Wd u g ex) 0 0
  refine J_aload_n (i := 0) (j := 0) dX11_order_0 rfl rfl ?_
  refine J_iconst (v := 0) dX11_order_1 (by decide) ?_
  obtain ⟨u1, e2⟩ : ∃ z, z = ms u 162 0 0 := ⟨_, rfl⟩
  refine J_put (C := RX11) (T := TX11) (Z := 43) (ci := 11) (f := 0) (ty0 := tyX11) dX11_order_2 inG11 rfl tyX11_ok nmX11 (by decide) k1264 rfl rfl wc_162 (Nat.le_of_ble_eq_true rfl) (fun _ _ => ⟨rfl, rfl⟩) (ws e2 wk_162 rfl) ?_
  refine J_aload_n (i := 0) (j := 0) dX11_order_5 rfl rfl ?_
  refine J_iload_n (i := 1) (j := 1) dX11_order_6 rfl rfl ?_
  refine J_iload_n (i := 2) (j := 2) dX11_order_7 rfl rfl ?_
  refine J_iload_n (i := 3) (j := 3) dX11_order_8 rfl rfl ?_
  refine J_callV (As := [.int hill, .int plan, .int ponds]) (rest := []) dX11_order_9 (c_M_isFilled (d := 3) (u := u1) (g := g) (ex := ex) (h := hill) (plan := plan) (some0 := ponds)  (by decide) (my_c (ms_c e2 (Nat.ne_of_beq_eq_false rfl)) hp0) (ab_c (ms_c e2 (Nat.ne_of_beq_eq_false rfl)) hp1) (hd_c (ms_c e2 (Nat.ne_of_beq_eq_false rfl)) hp2) (hc_c (ms_c e2 (Nat.ne_of_beq_eq_false rfl)) (ms_c e2 (Nat.ne_of_beq_eq_false rfl)) hp3) (pl_c (ms_c e2 (Nat.ne_of_beq_eq_false rfl)) hp4) (n0_c (ms_c e2 (Nat.ne_of_beq_eq_false rfl)) hp5) (dn_c (ms_c e2 (Nat.ne_of_beq_eq_false rfl)) hp6) (bd_r (ms_i e2 (Nat.ne_of_beq_eq_false rfl)) hp7) (bd_r (ms_i e2 (Nat.ne_of_beq_eq_false rfl)) hp8) (ab_c (ms_c e2 (Nat.ne_of_beq_eq_false rfl)) hp9)) hq.n k1679 k1681 k76 wc_162 rfl rfl k97 k1682 np_X11_isFilled (Nat.le_trans (by decide) hd) (by decide) (Nat.le_refl _) (Nat.le_refl _) wlen rfl (Nat.le_of_ble_eq_true rfl) (fun r_ h_ p3 => ?_)
  obtain ⟨t4, u5, rfl, rfl, h6, h7, h8, h9, h10, h11, fr12, fc13⟩ := p3
  refine J_ifB_eq (tgt := 30) dX11_order_12 (by decide) (fun c14 => ?_) (fun c14 => ?_)
  · refine J_iconst (v := (-1)) dX11_order_30 (by decide) ?_
    exact J_iret hq dX11_order_31 rfl wlen (Nat.le_refl _) (Nat.le_refl _) ⟨((-1) : Int32), u5, g, rfl, rfl, h8, h9, h10, (bd_r ((fc13 31 (Nat.ne_of_beq_eq_false rfl) (Nat.ne_of_beq_eq_false rfl) (Nat.ne_of_beq_eq_false rfl) (Nat.ne_of_beq_eq_false rfl) (Nat.ne_of_beq_eq_false rfl) (Nat.ne_of_beq_eq_false rfl)).trans (ms_i e2 (Nat.ne_of_beq_eq_false rfl))) hp8), (ab_c ((fr12 178 (Nat.ne_of_beq_eq_false rfl) (Nat.ne_of_beq_eq_false rfl)).trans (ms_c e2 (Nat.ne_of_beq_eq_false rfl))) hp10), (ab_c ((fr12 179 (Nat.ne_of_beq_eq_false rfl) (Nat.ne_of_beq_eq_false rfl)).trans (ms_c e2 (Nat.ne_of_beq_eq_false rfl))) hp11), (fun c k_ => ((fr12 c (nin_ne (a := 162) k_ rfl) (nin_ne (a := 172) k_ rfl)).trans (ms_c e2 (nin_ne (a := 162) k_ rfl)))), (fun j k0_ k22_ k23_ k24_ k25_ k26_ k27_ k31_ k32_ k33_ k39_ => ((fc13 j k22_ k23_ k24_ k25_ k26_ k27_).trans (ms_i e2 k0_)))⟩
  · refine J_iload (i := 4) (j := 4) dX11_order_15 rfl ?_
    refine J_iconst (v := 0) dX11_order_17 (by decide) ?_
    refine J_iload_n (i := 3) (j := 3) dX11_order_18 rfl rfl ?_
    refine J_callS (As := [.int ponds]) (rest := [.int 0, .int k]) dX11_order_19 (c_M_ones (d := 0) (u := u5) (g := g) (ex := ex) (set := ponds)  (by decide) ) hq.n k1608 k1609 k97 k1610 np_X11_ones (Nat.le_trans (by decide) hd) (by decide) (Nat.le_refl _) (Nat.le_refl _) wlen rfl (Nat.le_of_ble_eq_true rfl) (fun r_ h_ p15 => ?_)
    obtain ⟨rfl, rfl⟩ := p15
    refine J_iconst (v := 1) dX11_order_22 (by decide) ?_
    refine J_isub dX11_order_23 ?_
    refine J_callS (As := [.int k, .int 0, .int ((onesN ponds 9) - 1)]) (rest := []) dX11_order_24 (c_M_in (d := 0) (u := u5) (g := g) (ex := ex) (v := k) (low := 0) (high := ((onesN ponds 9) - 1))  (by decide) ) hq.n k1406 k1407 k97 k1408 np_X11_in (Nat.le_trans (by decide) hd) (by decide) (Nat.le_refl _) (Nat.le_refl _) wlen rfl (Nat.le_of_ble_eq_true rfl) (fun r_ h_ p16 => ?_)
    obtain ⟨t17, rfl, rfl, h18, h19⟩ := p16
    refine J_ifB_ne (tgt := 32) dX11_order_27 (by decide) (fun c20 => ?_) (fun c20 => ?_)
    · refine J_aload_n (i := 0) (j := 0) dX11_order_32 rfl rfl ?_
      refine J_iload_n (i := 3) (j := 3) dX11_order_33 rfl rfl ?_
      refine J_callV (As := [.int ponds]) (rest := []) dX11_order_34 (c_M_findOrder (d := 6) (u := u5) (g := g) (ex := ex) (some0 := ponds)  (by decide) h8 (h11 c14).1 h9 (bd_r ((fc13 31 (Nat.ne_of_beq_eq_false rfl) (Nat.ne_of_beq_eq_false rfl) (Nat.ne_of_beq_eq_false rfl) (Nat.ne_of_beq_eq_false rfl) (Nat.ne_of_beq_eq_false rfl) (Nat.ne_of_beq_eq_false rfl)).trans (ms_i e2 (Nat.ne_of_beq_eq_false rfl))) hp8) (h11 c14).2 h10 (ab_c ((fr12 178 (Nat.ne_of_beq_eq_false rfl) (Nat.ne_of_beq_eq_false rfl)).trans (ms_c e2 (Nat.ne_of_beq_eq_false rfl))) hp10) (ab_c ((fr12 179 (Nat.ne_of_beq_eq_false rfl) (Nat.ne_of_beq_eq_false rfl)).trans (ms_c e2 (Nat.ne_of_beq_eq_false rfl))) hp11) (h7 c14)) hq.n k1683 k1685 k77 wc_162 rfl rfl k97 k1686 np_X11_findOrder (Nat.le_trans (by decide) hd) (by decide) (Nat.le_refl _) (Nat.le_refl _) wlen rfl (Nat.le_of_ble_eq_true rfl) (fun r_ h_ p21 => ?_)
      obtain ⟨u22, g23, rfl, rfl, h24, h25, h26, h27, h28, h29, h30, fr31, fc32⟩ := p21
      refine J_aload_n (i := 0) (j := 0) dX11_order_37 rfl rfl ?_
      refine J_get (C := RX11) (T := TX11) (Z := 43) (ci := 11) (f := 38) dX11_order_38 inG11 rfl (by decide) k1302 wc_162 rfl ?_
      refine J_iload (i := 4) (j := 4) dX11_order_41 rfl ?_
      refine J_iald dX11_order_43 wc_180 (vin (bd_le_hi (bd_le_lo (bd_any k) (h18 c20) (bd_c (v := 0) (lo := 0) (hi := 0) (by decide))) (h19 c20) (bd_sub (l := 0) (h := 3) (h7 c14) (bd_c (v := 1) (lo := 1) (hi := 1) (by decide)) (by decide))) (by decide)) ?_
      refine J_topi (fun v33 qv33 => ?_)
      exact J_iret hq dX11_order_44 rfl wlen (Nat.le_refl _) (Nat.le_refl _) ⟨v33, u22, g23, rfl, rfl, (bd_r (fc32 22 (Nat.ne_of_beq_eq_false rfl) (Nat.ne_of_beq_eq_false rfl) (Nat.ne_of_beq_eq_false rfl) (Nat.ne_of_beq_eq_false rfl) (Nat.ne_of_beq_eq_false rfl)) h8), h26, h28, h24, h29, h30, (fun c k_ => ((fr31 c (nin_sub (M := [(162, 162), (172, 175), (178, 180)]) k_ rfl)).trans ((fr12 c (nin_ne (a := 162) k_ rfl) (nin_ne (a := 172) k_ rfl)).trans (ms_c e2 (nin_ne (a := 162) k_ rfl))))), (fun j k0_ k22_ k23_ k24_ k25_ k26_ k27_ k31_ k32_ k33_ k39_ => ((fc32 j k27_ k31_ k32_ k33_ k39_).trans ((fc13 j k22_ k23_ k24_ k25_ k26_ k27_).trans (ms_i e2 k0_))))⟩
    · refine J_iconst (v := (-1)) dX11_order_30 (by decide) ?_
      exact J_iret hq dX11_order_31 rfl wlen (Nat.le_refl _) (Nat.le_refl _) ⟨((-1) : Int32), u5, g, rfl, rfl, h8, h9, h10, (bd_r ((fc13 31 (Nat.ne_of_beq_eq_false rfl) (Nat.ne_of_beq_eq_false rfl) (Nat.ne_of_beq_eq_false rfl) (Nat.ne_of_beq_eq_false rfl) (Nat.ne_of_beq_eq_false rfl) (Nat.ne_of_beq_eq_false rfl)).trans (ms_i e2 (Nat.ne_of_beq_eq_false rfl))) hp8), (ab_c ((fr12 178 (Nat.ne_of_beq_eq_false rfl) (Nat.ne_of_beq_eq_false rfl)).trans (ms_c e2 (Nat.ne_of_beq_eq_false rfl))) hp10), (ab_c ((fr12 179 (Nat.ne_of_beq_eq_false rfl) (Nat.ne_of_beq_eq_false rfl)).trans (ms_c e2 (Nat.ne_of_beq_eq_false rfl))) hp11), (fun c k_ => ((fr12 c (nin_ne (a := 162) k_ rfl) (nin_ne (a := 172) k_ rfl)).trans (ms_c e2 (nin_ne (a := 162) k_ rfl)))), (fun j k0_ k22_ k23_ k24_ k25_ k26_ k27_ k31_ k32_ k33_ k39_ => ((fc13 j k22_ k23_ k24_ k25_ k26_ k27_).trans (ms_i e2 k0_)))⟩
end
