/-! words of the reference: packed letters -/
theorem lg_0 {x y : Int64} : (lg_cmp x y = 0) ↔ x = y := by
  unfold lg_cmp
  by_cases h : x > y
  · rw [if_pos h]
    refine ⟨fun q => absurd q (by decide), fun q => ?_⟩
    rw [q] at h
    exact absurd h Int64.lt_irrefl
  · rw [if_neg h]
    by_cases q : x = y
    · rw [if_pos q]; exact ⟨fun _ => q, fun _ => rfl⟩
    · rw [if_neg q]; exact ⟨fun z => absurd z (by decide), fun z => absurd z q⟩
def tb (x : Int64) : Nat := x.toBitVec.toNat
theorem tb_inj {x y : Int64} (h : tb x = tb y) : x = y := Int64.toBitVec_inj.mp (BitVec.eq_of_toNat_eq h)
theorem ls_b {v : Int32} (h : isL v = true) : Bd 97 122 v := by
  unfold isL at h
  obtain ⟨h1, h2⟩ := (Bool.and_eq_true _ _).mp h
  have e1 := Int32.le_iff_toInt_le.mp (of_decide_eq_true h1)
  have e2 := Int32.le_iff_toInt_le.mp (of_decide_eq_true h2)
  exact ⟨e1, e2⟩
theorem tb_32 {v : Int32} {lo hi : Int} (b : Bd lo hi v) (h : 0 ≤ lo) : tb v.toInt64 = v.toInt.toNat := by
  have h1 : v.toInt64.toInt = v.toInt := Int32.toInt_toInt64 v
  have h2 : v.toInt64.toInt = v.toInt64.toBitVec.toInt := rfl
  have h3 := BitVec.toInt_eq_toNat_cond v.toInt64.toBitVec
  have h4 := b.1
  have h5 := v.toInt64.toBitVec.isLt
  unfold tb
  rw [h2, h3] at h1
  split at h1 <;> omega
theorem tb_sh {x : Int64} {v : Int32} (hx : tb x < 2 ^ 56) (b : Bd 0 255 v) : tb ((x <<< ((8 : Int32).toInt64 &&& 63)) ||| v.toInt64) = tb x * 256 + v.toInt.toNat := by
  have e8 : (((8 : Int32).toInt64 &&& 63).toBitVec.smod 64).toNat = 8 := by decide
  have h1 : ((x <<< ((8 : Int32).toInt64 &&& 63)) ||| v.toInt64).toBitVec = (x.toBitVec <<< (((8 : Int32).toInt64 &&& 63).toBitVec.smod 64)) ||| v.toInt64.toBitVec := by
    rw [Int64.toBitVec_or, Int64.toBitVec_shiftLeft]
  have h2 := tb_32 b (by decide)
  unfold tb at hx h2 ⊢
  rw [h1, BitVec.toNat_or, h2, BitVec.shiftLeft_eq', e8, BitVec.toNat_shiftLeft, Nat.mod_eq_of_lt (by rw [Nat.shiftLeft_eq]; omega), ← Nat.shiftLeft_add_eq_or_of_lt (by have := b.2; have := b.1; omega), Nat.shiftLeft_eq]
/-- letters, the last first -/
def lr (f : Nat → Int32) (s : Nat) : Nat → List Nat
  | 0 => []
  | n + 1 => (f (s + n)).toInt.toNat :: lr f s n
def pr : List Nat → Nat
  | [] => 0
  | c :: l => pr l * 256 + c
theorem pr_inj : ∀ (l m : List Nat), (∀ c ∈ l, 0 < c ∧ c < 256) → (∀ c ∈ m, 0 < c ∧ c < 256) → pr l = pr m → l = m
  | [], [], _, _, _ => rfl
  | [], c :: m, _, h2, h => by
    have := h2 c List.mem_cons_self
    have e : pr ([] : List Nat) = 0 := rfl
    have e2 : pr (c :: m) = pr m * 256 + c := rfl
    omega
  | c :: l, [], h1, _, h => by
    have := h1 c List.mem_cons_self
    have e : pr ([] : List Nat) = 0 := rfl
    have e2 : pr (c :: l) = pr l * 256 + c := rfl
    omega
  | c :: l, e :: m, h1, h2, h => by
    have a1 := h1 c List.mem_cons_self
    have a2 := h2 e List.mem_cons_self
    have e1 : pr (c :: l) = pr l * 256 + c := rfl
    have e2 : pr (e :: m) = pr m * 256 + e := rfl
    have h3 : c = e := by omega
    have h4 : pr l = pr m := by omega
    rw [h3, pr_inj l m (fun q hq => h1 q (List.mem_cons_of_mem _ hq)) (fun q hq => h2 q (List.mem_cons_of_mem _ hq)) h4]
theorem lr_in {f : Nat → Int32} {s : Nat} : ∀ n, (∀ j, s ≤ j → j < s + n → isL (f j) = true) → ∀ c ∈ lr f s n, 0 < c ∧ c < 256 := by
  intro n
  induction n with
  | zero => intro _ c hc; cases hc
  | succ n ih =>
    intro h c hc
    rcases List.mem_cons.mp hc with q | q
    · have b := ls_b (h (s + n) (by omega) (by omega))
      have := b.1
      have := b.2
      omega
    · exact ih (fun j h1 h2 => h j h1 (by omega)) c q
theorem pr_lt {f : Nat → Int32} {s : Nat} : ∀ n, (∀ j, s ≤ j → j < s + n → isL (f j) = true) → pr (lr f s n) < 256 ^ n := by
  intro n
  induction n with
  | zero => intro _; exact Nat.zero_lt_one
  | succ n ih =>
    intro h
    have h1 := ih (fun j q1 q2 => h j q1 (by omega))
    have b := ls_b (h (s + n) (by omega) (by omega))
    have e : pr (lr f s (n + 1)) = pr (lr f s n) * 256 + (f (s + n)).toInt.toNat := rfl
    have := b.1
    have := b.2
    rw [e, Nat.pow_succ]
    omega
theorem pf_n {f : Nat → Int32} {L s : Nat} : ∀ (n a : Nat) (w : Int64), L - a ≤ n → s ≤ a → (∀ j, s ≤ j → j < a → isL (f j) = true) → run isL f L a - s ≤ 8 → tb w = pr (lr f s (a - s)) → tb (pf f L a w) = pr (lr f s (run isL f L a - s)) := by
  intro n
  induction n with
  | zero =>
    intro a w h hs hl hr hw
    rw [pf_e (fun q => by omega), run_e (fun q => by omega)]
    exact hw
  | succ n ih =>
    intro a w h hs hl hr hw
    by_cases c : a < L ∧ isL (f a) = true
    · rw [pf_s c.1 c.2, run_s c.1 c.2]
      rw [run_s c.1 c.2] at hr
      have hr2 := run_le (p := isL) (f := f) (L := L) (a + 1)
      have b := ls_b c.2
      have hp : pr (lr f s (a - s)) < 256 ^ (a - s) := pr_lt (a - s) (fun j q1 q2 => hl j q1 (by omega))
      have hq : 256 ^ (a - s) ≤ 256 ^ 7 := Nat.pow_le_pow_right (by decide) (by omega)
      have e7 : (256 : Nat) ^ 7 = 2 ^ 56 := by decide
      refine ih (a + 1) _ (by omega) (by omega) (fun j q1 q2 => ?_) hr ?_
      · by_cases z : j = a
        · rw [z]; exact c.2
        · exact hl j q1 (by omega)
      · rw [tb_sh (by omega) (bd_w b (by decide)), hw, show a + 1 - s = (a - s) + 1 by omega]
        show _ = pr (lr f s (a - s)) * 256 + (f (s + (a - s))).toInt.toNat
        rw [show s + (a - s) = a by omega]
    · rw [pf_e c, run_e c]
      exact hw
theorem lt_n {v : Int32} {c : Nat} (h : isL v = true) (hc : c ≤ 255) : v.toInt.toNat = c ↔ v = iN c := by
  have b := ls_b h
  have := b.1
  constructor
  · intro q
    refine Int32.toInt_inj.mp ?_
    rw [iN_ti (by omega)]
    omega
  · intro q
    rw [q, iN_ti (by omega)]
    omega
/-- the i-th word's letters, the last first -/
def cl (i : Nat) : List Nat := ((sBy.getD i []).map (fun c => c.toInt.toNat)).reverse
theorem cl_in : ∀ i, i < 18 → ∀ c ∈ cl i, 0 < c ∧ c < 256 := by decide +kernel
theorem cl_len : ∀ i, i < 18 → (cl i).length = sLn.getD i 0 := by decide +kernel
theorem lr_len {f : Nat → Int32} {s : Nat} : ∀ n, (lr f s n).length = n
  | 0 => rfl
  | n + 1 => congrArg (· + 1) (lr_len n)
theorem wd_0 {f : Nat → Int32} {s : Nat} (hl : ∀ j, s ≤ j → j < s + 4 → isL (f j) = true) : lr f s 4 = cl 0 ↔ wq f s (sBy.getD 0 []) = true := by
  have a0 := lt_n (c := 112) (hl (s + 0) (by omega) (by omega)) (by decide)
  have a1 := lt_n (c := 111) (hl (s + 1) (by omega) (by omega)) (by decide)
  have a2 := lt_n (c := 110) (hl (s + 2) (by omega) (by omega)) (by decide)
  have a3 := lt_n (c := 100) (hl (s + 3) (by omega) (by omega)) (by decide)
  show [(f (s + 3)).toInt.toNat, (f (s + 2)).toInt.toNat, (f (s + 1)).toInt.toNat, (f (s + 0)).toInt.toNat] = [100, 110, 111, 112] ↔ ((f (s) == 112) && ((f (s + 1) == 111) && ((f (s + 1 + 1) == 110) && ((f (s + 1 + 1 + 1) == 100) && true)))) = true
  simp only [List.cons.injEq, and_true, Bool.and_true, Bool.and_eq_true, beq_iff_eq]
  constructor
  · rintro ⟨h3, h2, h1, h0⟩
    exact ⟨a0.mp h0, a1.mp h1, a2.mp h2, a3.mp h3⟩
  · rintro ⟨h0, h1, h2, h3⟩
    exact ⟨a3.mpr h3, a2.mpr h2, a1.mpr h1, a0.mpr h0⟩
theorem wd_1 {f : Nat → Int32} {s : Nat} (hl : ∀ j, s ≤ j → j < s + 4 → isL (f j) = true) : lr f s 4 = cl 1 ↔ wq f s (sBy.getD 1 []) = true := by
  have a0 := lt_n (c := 100) (hl (s + 0) (by omega) (by omega)) (by decide)
  have a1 := lt_n (c := 111) (hl (s + 1) (by omega) (by omega)) (by decide)
  have a2 := lt_n (c := 119) (hl (s + 2) (by omega) (by omega)) (by decide)
  have a3 := lt_n (c := 110) (hl (s + 3) (by omega) (by omega)) (by decide)
  show [(f (s + 3)).toInt.toNat, (f (s + 2)).toInt.toNat, (f (s + 1)).toInt.toNat, (f (s + 0)).toInt.toNat] = [110, 119, 111, 100] ↔ ((f (s) == 100) && ((f (s + 1) == 111) && ((f (s + 1 + 1) == 119) && ((f (s + 1 + 1 + 1) == 110) && true)))) = true
  simp only [List.cons.injEq, and_true, Bool.and_true, Bool.and_eq_true, beq_iff_eq]
  constructor
  · rintro ⟨h3, h2, h1, h0⟩
    exact ⟨a0.mp h0, a1.mp h1, a2.mp h2, a3.mp h3⟩
  · rintro ⟨h0, h1, h2, h3⟩
    exact ⟨a3.mpr h3, a2.mpr h2, a1.mpr h1, a0.mpr h0⟩
theorem wd_2 {f : Nat → Int32} {s : Nat} (hl : ∀ j, s ≤ j → j < s + 5 → isL (f j) = true) : lr f s 5 = cl 2 ↔ wq f s (sBy.getD 2 []) = true := by
  have a0 := lt_n (c := 97) (hl (s + 0) (by omega) (by omega)) (by decide)
  have a1 := lt_n (c := 115) (hl (s + 1) (by omega) (by omega)) (by decide)
  have a2 := lt_n (c := 105) (hl (s + 2) (by omega) (by omega)) (by decide)
  have a3 := lt_n (c := 100) (hl (s + 3) (by omega) (by omega)) (by decide)
  have a4 := lt_n (c := 101) (hl (s + 4) (by omega) (by omega)) (by decide)
  show [(f (s + 4)).toInt.toNat, (f (s + 3)).toInt.toNat, (f (s + 2)).toInt.toNat, (f (s + 1)).toInt.toNat, (f (s + 0)).toInt.toNat] = [101, 100, 105, 115, 97] ↔ ((f (s) == 97) && ((f (s + 1) == 115) && ((f (s + 1 + 1) == 105) && ((f (s + 1 + 1 + 1) == 100) && ((f (s + 1 + 1 + 1 + 1) == 101) && true))))) = true
  simp only [List.cons.injEq, and_true, Bool.and_true, Bool.and_eq_true, beq_iff_eq]
  constructor
  · rintro ⟨h4, h3, h2, h1, h0⟩
    exact ⟨a0.mp h0, a1.mp h1, a2.mp h2, a3.mp h3, a4.mp h4⟩
  · rintro ⟨h0, h1, h2, h3, h4⟩
    exact ⟨a4.mpr h4, a3.mpr h3, a2.mpr h2, a1.mpr h1, a0.mpr h0⟩
theorem wd_3 {f : Nat → Int32} {s : Nat} (hl : ∀ j, s ≤ j → j < s + 5 → isL (f j) = true) : lr f s 5 = cl 3 ↔ wq f s (sBy.getD 3 []) = true := by
  have a0 := lt_n (c := 98) (hl (s + 0) (by omega) (by omega)) (by decide)
  have a1 := lt_n (c := 101) (hl (s + 1) (by omega) (by omega)) (by decide)
  have a2 := lt_n (c := 97) (hl (s + 2) (by omega) (by omega)) (by decide)
  have a3 := lt_n (c := 114) (hl (s + 3) (by omega) (by omega)) (by decide)
  have a4 := lt_n (c := 115) (hl (s + 4) (by omega) (by omega)) (by decide)
  show [(f (s + 4)).toInt.toNat, (f (s + 3)).toInt.toNat, (f (s + 2)).toInt.toNat, (f (s + 1)).toInt.toNat, (f (s + 0)).toInt.toNat] = [115, 114, 97, 101, 98] ↔ ((f (s) == 98) && ((f (s + 1) == 101) && ((f (s + 1 + 1) == 97) && ((f (s + 1 + 1 + 1) == 114) && ((f (s + 1 + 1 + 1 + 1) == 115) && true))))) = true
  simp only [List.cons.injEq, and_true, Bool.and_true, Bool.and_eq_true, beq_iff_eq]
  constructor
  · rintro ⟨h4, h3, h2, h1, h0⟩
    exact ⟨a0.mp h0, a1.mp h1, a2.mp h2, a3.mp h3, a4.mp h4⟩
  · rintro ⟨h0, h1, h2, h3, h4⟩
    exact ⟨a4.mpr h4, a3.mpr h3, a2.mpr h2, a1.mpr h1, a0.mpr h0⟩
theorem wd_4 {f : Nat → Int32} {s : Nat} (hl : ∀ j, s ≤ j → j < s + 4 → isL (f j) = true) : lr f s 4 = cl 4 ↔ wq f s (sBy.getD 4 []) = true := by
  have a0 := lt_n (c := 103) (hl (s + 0) (by omega) (by omega)) (by decide)
  have a1 := lt_n (c := 111) (hl (s + 1) (by omega) (by omega)) (by decide)
  have a2 := lt_n (c := 101) (hl (s + 2) (by omega) (by omega)) (by decide)
  have a3 := lt_n (c := 115) (hl (s + 3) (by omega) (by omega)) (by decide)
  show [(f (s + 3)).toInt.toNat, (f (s + 2)).toInt.toNat, (f (s + 1)).toInt.toNat, (f (s + 0)).toInt.toNat] = [115, 101, 111, 103] ↔ ((f (s) == 103) && ((f (s + 1) == 111) && ((f (s + 1 + 1) == 101) && ((f (s + 1 + 1 + 1) == 115) && true)))) = true
  simp only [List.cons.injEq, and_true, Bool.and_true, Bool.and_eq_true, beq_iff_eq]
  constructor
  · rintro ⟨h3, h2, h1, h0⟩
    exact ⟨a0.mp h0, a1.mp h1, a2.mp h2, a3.mp h3⟩
  · rintro ⟨h0, h1, h2, h3⟩
    exact ⟨a3.mpr h3, a2.mpr h2, a1.mpr h1, a0.mpr h0⟩
theorem wd_5 {f : Nat → Int32} {s : Nat} (hl : ∀ j, s ≤ j → j < s + 4 → isL (f j) = true) : lr f s 4 = cl 5 ↔ wq f s (sBy.getD 5 []) = true := by
  have a0 := lt_n (c := 104) (hl (s + 0) (by omega) (by omega)) (by decide)
  have a1 := lt_n (c := 97) (hl (s + 1) (by omega) (by omega)) (by decide)
  have a2 := lt_n (c := 114) (hl (s + 2) (by omega) (by omega)) (by decide)
  have a3 := lt_n (c := 109) (hl (s + 3) (by omega) (by omega)) (by decide)
  show [(f (s + 3)).toInt.toNat, (f (s + 2)).toInt.toNat, (f (s + 1)).toInt.toNat, (f (s + 0)).toInt.toNat] = [109, 114, 97, 104] ↔ ((f (s) == 104) && ((f (s + 1) == 97) && ((f (s + 1 + 1) == 114) && ((f (s + 1 + 1 + 1) == 109) && true)))) = true
  simp only [List.cons.injEq, and_true, Bool.and_true, Bool.and_eq_true, beq_iff_eq]
  constructor
  · rintro ⟨h3, h2, h1, h0⟩
    exact ⟨a0.mp h0, a1.mp h1, a2.mp h2, a3.mp h3⟩
  · rintro ⟨h0, h1, h2, h3⟩
    exact ⟨a3.mpr h3, a2.mpr h2, a1.mpr h1, a0.mpr h0⟩
theorem wd_6 {f : Nat → Int32} {s : Nat} (hl : ∀ j, s ≤ j → j < s + 5 → isL (f j) = true) : lr f s 5 = cl 6 ↔ wq f s (sBy.getD 6 []) = true := by
  have a0 := lt_n (c := 111) (hl (s + 0) (by omega) (by omega)) (by decide)
  have a1 := lt_n (c := 119) (hl (s + 1) (by omega) (by omega)) (by decide)
  have a2 := lt_n (c := 110) (hl (s + 2) (by omega) (by omega)) (by decide)
  have a3 := lt_n (c := 101) (hl (s + 3) (by omega) (by omega)) (by decide)
  have a4 := lt_n (c := 114) (hl (s + 4) (by omega) (by omega)) (by decide)
  show [(f (s + 4)).toInt.toNat, (f (s + 3)).toInt.toNat, (f (s + 2)).toInt.toNat, (f (s + 1)).toInt.toNat, (f (s + 0)).toInt.toNat] = [114, 101, 110, 119, 111] ↔ ((f (s) == 111) && ((f (s + 1) == 119) && ((f (s + 1 + 1) == 110) && ((f (s + 1 + 1 + 1) == 101) && ((f (s + 1 + 1 + 1 + 1) == 114) && true))))) = true
  simp only [List.cons.injEq, and_true, Bool.and_true, Bool.and_eq_true, beq_iff_eq]
  constructor
  · rintro ⟨h4, h3, h2, h1, h0⟩
    exact ⟨a0.mp h0, a1.mp h1, a2.mp h2, a3.mp h3, a4.mp h4⟩
  · rintro ⟨h0, h1, h2, h3, h4⟩
    exact ⟨a4.mpr h4, a3.mpr h3, a2.mpr h2, a1.mpr h1, a0.mpr h0⟩
theorem wd_7 {f : Nat → Int32} {s : Nat} (hl : ∀ j, s ≤ j → j < s + 4 → isL (f j) = true) : lr f s 4 = cl 7 ↔ wq f s (sBy.getD 7 []) = true := by
  have a0 := lt_n (c := 114) (hl (s + 0) (by omega) (by omega)) (by decide)
  have a1 := lt_n (c := 105) (hl (s + 1) (by omega) (by omega)) (by decide)
  have a2 := lt_n (c := 99) (hl (s + 2) (by omega) (by omega)) (by decide)
  have a3 := lt_n (c := 101) (hl (s + 3) (by omega) (by omega)) (by decide)
  show [(f (s + 3)).toInt.toNat, (f (s + 2)).toInt.toNat, (f (s + 1)).toInt.toNat, (f (s + 0)).toInt.toNat] = [101, 99, 105, 114] ↔ ((f (s) == 114) && ((f (s + 1) == 105) && ((f (s + 1 + 1) == 99) && ((f (s + 1 + 1 + 1) == 101) && true)))) = true
  simp only [List.cons.injEq, and_true, Bool.and_true, Bool.and_eq_true, beq_iff_eq]
  constructor
  · rintro ⟨h3, h2, h1, h0⟩
    exact ⟨a0.mp h0, a1.mp h1, a2.mp h2, a3.mp h3⟩
  · rintro ⟨h0, h1, h2, h3⟩
    exact ⟨a3.mpr h3, a2.mpr h2, a1.mpr h1, a0.mpr h0⟩
theorem wd_8 {f : Nat → Int32} {s : Nat} (hl : ∀ j, s ≤ j → j < s + 3 → isL (f j) = true) : lr f s 3 = cl 8 ↔ wq f s (sBy.getD 8 []) = true := by
  have a0 := lt_n (c := 119) (hl (s + 0) (by omega) (by omega)) (by decide)
  have a1 := lt_n (c := 97) (hl (s + 1) (by omega) (by omega)) (by decide)
  have a2 := lt_n (c := 121) (hl (s + 2) (by omega) (by omega)) (by decide)
  show [(f (s + 2)).toInt.toNat, (f (s + 1)).toInt.toNat, (f (s + 0)).toInt.toNat] = [121, 97, 119] ↔ ((f (s) == 119) && ((f (s + 1) == 97) && ((f (s + 1 + 1) == 121) && true))) = true
  simp only [List.cons.injEq, and_true, Bool.and_true, Bool.and_eq_true, beq_iff_eq]
  constructor
  · rintro ⟨h2, h1, h0⟩
    exact ⟨a0.mp h0, a1.mp h1, a2.mp h2⟩
  · rintro ⟨h0, h1, h2⟩
    exact ⟨a2.mpr h2, a1.mpr h1, a0.mpr h0⟩
theorem wd_9 {f : Nat → Int32} {s : Nat} (hl : ∀ j, s ≤ j → j < s + 4 → isL (f j) = true) : lr f s 4 = cl 9 ↔ wq f s (sBy.getD 9 []) = true := by
  have a0 := lt_n (c := 103) (hl (s + 0) (by omega) (by omega)) (by decide)
  have a1 := lt_n (c := 97) (hl (s + 1) (by omega) (by omega)) (by decide)
  have a2 := lt_n (c := 116) (hl (s + 2) (by omega) (by omega)) (by decide)
  have a3 := lt_n (c := 101) (hl (s + 3) (by omega) (by omega)) (by decide)
  show [(f (s + 3)).toInt.toNat, (f (s + 2)).toInt.toNat, (f (s + 1)).toInt.toNat, (f (s + 0)).toInt.toNat] = [101, 116, 97, 103] ↔ ((f (s) == 103) && ((f (s + 1) == 97) && ((f (s + 1 + 1) == 116) && ((f (s + 1 + 1 + 1) == 101) && true)))) = true
  simp only [List.cons.injEq, and_true, Bool.and_true, Bool.and_eq_true, beq_iff_eq]
  constructor
  · rintro ⟨h3, h2, h1, h0⟩
    exact ⟨a0.mp h0, a1.mp h1, a2.mp h2, a3.mp h3⟩
  · rintro ⟨h0, h1, h2, h3⟩
    exact ⟨a3.mpr h3, a2.mpr h2, a1.mpr h1, a0.mpr h0⟩
theorem wd_10 {f : Nat → Int32} {s : Nat} (hl : ∀ j, s ≤ j → j < s + 4 → isL (f j) = true) : lr f s 4 = cl 10 ↔ wq f s (sBy.getD 10 []) = true := by
  have a0 := lt_n (c := 115) (hl (s + 0) (by omega) (by omega)) (by decide)
  have a1 := lt_n (c := 105) (hl (s + 1) (by omega) (by omega)) (by decide)
  have a2 := lt_n (c := 103) (hl (s + 2) (by omega) (by omega)) (by decide)
  have a3 := lt_n (c := 110) (hl (s + 3) (by omega) (by omega)) (by decide)
  show [(f (s + 3)).toInt.toNat, (f (s + 2)).toInt.toNat, (f (s + 1)).toInt.toNat, (f (s + 0)).toInt.toNat] = [110, 103, 105, 115] ↔ ((f (s) == 115) && ((f (s + 1) == 105) && ((f (s + 1 + 1) == 103) && ((f (s + 1 + 1 + 1) == 110) && true)))) = true
  simp only [List.cons.injEq, and_true, Bool.and_true, Bool.and_eq_true, beq_iff_eq]
  constructor
  · rintro ⟨h3, h2, h1, h0⟩
    exact ⟨a0.mp h0, a1.mp h1, a2.mp h2, a3.mp h3⟩
  · rintro ⟨h0, h1, h2, h3⟩
    exact ⟨a3.mpr h3, a2.mpr h2, a1.mpr h1, a0.mpr h0⟩
theorem wd_11 {f : Nat → Int32} {s : Nat} (hl : ∀ j, s ≤ j → j < s + 4 → isL (f j) = true) : lr f s 4 = cl 11 ↔ wq f s (sBy.getD 11 []) = true := by
  have a0 := lt_n (c := 114) (hl (s + 0) (by omega) (by omega)) (by decide)
  have a1 := lt_n (c := 97) (hl (s + 1) (by omega) (by omega)) (by decide)
  have a2 := lt_n (c := 105) (hl (s + 2) (by omega) (by omega)) (by decide)
  have a3 := lt_n (c := 110) (hl (s + 3) (by omega) (by omega)) (by decide)
  show [(f (s + 3)).toInt.toNat, (f (s + 2)).toInt.toNat, (f (s + 1)).toInt.toNat, (f (s + 0)).toInt.toNat] = [110, 105, 97, 114] ↔ ((f (s) == 114) && ((f (s + 1) == 97) && ((f (s + 1 + 1) == 105) && ((f (s + 1 + 1 + 1) == 110) && true)))) = true
  simp only [List.cons.injEq, and_true, Bool.and_true, Bool.and_eq_true, beq_iff_eq]
  constructor
  · rintro ⟨h3, h2, h1, h0⟩
    exact ⟨a0.mp h0, a1.mp h1, a2.mp h2, a3.mp h3⟩
  · rintro ⟨h0, h1, h2, h3⟩
    exact ⟨a3.mpr h3, a2.mpr h2, a1.mpr h1, a0.mpr h0⟩
theorem wd_12 {f : Nat → Int32} {s : Nat} (hl : ∀ j, s ≤ j → j < s + 4 → isL (f j) = true) : lr f s 4 = cl 12 ↔ wq f s (sBy.getD 12 []) = true := by
  have a0 := lt_n (c := 109) (hl (s + 0) (by omega) (by omega)) (by decide)
  have a1 := lt_n (c := 101) (hl (s + 1) (by omega) (by omega)) (by decide)
  have a2 := lt_n (c := 110) (hl (s + 2) (by omega) (by omega)) (by decide)
  have a3 := lt_n (c := 100) (hl (s + 3) (by omega) (by omega)) (by decide)
  show [(f (s + 3)).toInt.toNat, (f (s + 2)).toInt.toNat, (f (s + 1)).toInt.toNat, (f (s + 0)).toInt.toNat] = [100, 110, 101, 109] ↔ ((f (s) == 109) && ((f (s + 1) == 101) && ((f (s + 1 + 1) == 110) && ((f (s + 1 + 1 + 1) == 100) && true)))) = true
  simp only [List.cons.injEq, and_true, Bool.and_true, Bool.and_eq_true, beq_iff_eq]
  constructor
  · rintro ⟨h3, h2, h1, h0⟩
    exact ⟨a0.mp h0, a1.mp h1, a2.mp h2, a3.mp h3⟩
  · rintro ⟨h0, h1, h2, h3⟩
    exact ⟨a3.mpr h3, a2.mpr h2, a1.mpr h1, a0.mpr h0⟩
theorem wd_13 {f : Nat → Int32} {s : Nat} (hl : ∀ j, s ≤ j → j < s + 4 → isL (f j) = true) : lr f s 4 = cl 13 ↔ wq f s (sBy.getD 13 []) = true := by
  have a0 := lt_n (c := 119) (hl (s + 0) (by omega) (by omega)) (by decide)
  have a1 := lt_n (c := 105) (hl (s + 1) (by omega) (by omega)) (by decide)
  have a2 := lt_n (c := 100) (hl (s + 2) (by omega) (by omega)) (by decide)
  have a3 := lt_n (c := 101) (hl (s + 3) (by omega) (by omega)) (by decide)
  show [(f (s + 3)).toInt.toNat, (f (s + 2)).toInt.toNat, (f (s + 1)).toInt.toNat, (f (s + 0)).toInt.toNat] = [101, 100, 105, 119] ↔ ((f (s) == 119) && ((f (s + 1) == 105) && ((f (s + 1 + 1) == 100) && ((f (s + 1 + 1 + 1) == 101) && true)))) = true
  simp only [List.cons.injEq, and_true, Bool.and_true, Bool.and_eq_true, beq_iff_eq]
  constructor
  · rintro ⟨h3, h2, h1, h0⟩
    exact ⟨a0.mp h0, a1.mp h1, a2.mp h2, a3.mp h3⟩
  · rintro ⟨h0, h1, h2, h3⟩
    exact ⟨a3.mpr h3, a2.mpr h2, a1.mpr h1, a0.mpr h0⟩
theorem wd_14 {f : Nat → Int32} {s : Nat} (hl : ∀ j, s ≤ j → j < s + 5 → isL (f j) = true) : lr f s 5 = cl 14 ↔ wq f s (sBy.getD 14 []) = true := by
  have a0 := lt_n (c := 114) (hl (s + 0) (by omega) (by omega)) (by decide)
  have a1 := lt_n (c := 111) (hl (s + 1) (by omega) (by omega)) (by decide)
  have a2 := lt_n (c := 117) (hl (s + 2) (by omega) (by omega)) (by decide)
  have a3 := lt_n (c := 110) (hl (s + 3) (by omega) (by omega)) (by decide)
  have a4 := lt_n (c := 100) (hl (s + 4) (by omega) (by omega)) (by decide)
  show [(f (s + 4)).toInt.toNat, (f (s + 3)).toInt.toNat, (f (s + 2)).toInt.toNat, (f (s + 1)).toInt.toNat, (f (s + 0)).toInt.toNat] = [100, 110, 117, 111, 114] ↔ ((f (s) == 114) && ((f (s + 1) == 111) && ((f (s + 1 + 1) == 117) && ((f (s + 1 + 1 + 1) == 110) && ((f (s + 1 + 1 + 1 + 1) == 100) && true))))) = true
  simp only [List.cons.injEq, and_true, Bool.and_true, Bool.and_eq_true, beq_iff_eq]
  constructor
  · rintro ⟨h4, h3, h2, h1, h0⟩
    exact ⟨a0.mp h0, a1.mp h1, a2.mp h2, a3.mp h3, a4.mp h4⟩
  · rintro ⟨h0, h1, h2, h3, h4⟩
    exact ⟨a4.mpr h4, a3.mpr h3, a2.mpr h2, a1.mpr h1, a0.mpr h0⟩
theorem wd_15 {f : Nat → Int32} {s : Nat} (hl : ∀ j, s ≤ j → j < s + 3 → isL (f j) = true) : lr f s 3 = cl 15 ↔ wq f s (sBy.getD 15 []) = true := by
  have a0 := lt_n (c := 108) (hl (s + 0) (by omega) (by omega)) (by decide)
  have a1 := lt_n (c := 111) (hl (s + 1) (by omega) (by omega)) (by decide)
  have a2 := lt_n (c := 119) (hl (s + 2) (by omega) (by omega)) (by decide)
  show [(f (s + 2)).toInt.toNat, (f (s + 1)).toInt.toNat, (f (s + 0)).toInt.toNat] = [119, 111, 108] ↔ ((f (s) == 108) && ((f (s + 1) == 111) && ((f (s + 1 + 1) == 119) && true))) = true
  simp only [List.cons.injEq, and_true, Bool.and_true, Bool.and_eq_true, beq_iff_eq]
  constructor
  · rintro ⟨h2, h1, h0⟩
    exact ⟨a0.mp h0, a1.mp h1, a2.mp h2⟩
  · rintro ⟨h0, h1, h2⟩
    exact ⟨a2.mpr h2, a1.mpr h1, a0.mpr h0⟩
theorem wd_16 {f : Nat → Int32} {s : Nat} (hl : ∀ j, s ≤ j → j < s + 5 → isL (f j) = true) : lr f s 5 = cl 16 ↔ wq f s (sBy.getD 16 []) = true := by
  have a0 := lt_n (c := 119) (hl (s + 0) (by omega) (by omega)) (by decide)
  have a1 := lt_n (c := 105) (hl (s + 1) (by omega) (by omega)) (by decide)
  have a2 := lt_n (c := 100) (hl (s + 2) (by omega) (by omega)) (by decide)
  have a3 := lt_n (c := 101) (hl (s + 3) (by omega) (by omega)) (by decide)
  have a4 := lt_n (c := 110) (hl (s + 4) (by omega) (by omega)) (by decide)
  show [(f (s + 4)).toInt.toNat, (f (s + 3)).toInt.toNat, (f (s + 2)).toInt.toNat, (f (s + 1)).toInt.toNat, (f (s + 0)).toInt.toNat] = [110, 101, 100, 105, 119] ↔ ((f (s) == 119) && ((f (s + 1) == 105) && ((f (s + 1 + 1) == 100) && ((f (s + 1 + 1 + 1) == 101) && ((f (s + 1 + 1 + 1 + 1) == 110) && true))))) = true
  simp only [List.cons.injEq, and_true, Bool.and_true, Bool.and_eq_true, beq_iff_eq]
  constructor
  · rintro ⟨h4, h3, h2, h1, h0⟩
    exact ⟨a0.mp h0, a1.mp h1, a2.mp h2, a3.mp h3, a4.mp h4⟩
  · rintro ⟨h0, h1, h2, h3, h4⟩
    exact ⟨a4.mpr h4, a3.mpr h3, a2.mpr h2, a1.mpr h1, a0.mpr h0⟩
theorem wd_17 {f : Nat → Int32} {s : Nat} (hl : ∀ j, s ≤ j → j < s + 3 → isL (f j) = true) : lr f s 3 = cl 17 ↔ wq f s (sBy.getD 17 []) = true := by
  have a0 := lt_n (c := 111) (hl (s + 0) (by omega) (by omega)) (by decide)
  have a1 := lt_n (c := 117) (hl (s + 1) (by omega) (by omega)) (by decide)
  have a2 := lt_n (c := 116) (hl (s + 2) (by omega) (by omega)) (by decide)
  show [(f (s + 2)).toInt.toNat, (f (s + 1)).toInt.toNat, (f (s + 0)).toInt.toNat] = [116, 117, 111] ↔ ((f (s) == 111) && ((f (s + 1) == 117) && ((f (s + 1 + 1) == 116) && true))) = true
  simp only [List.cons.injEq, and_true, Bool.and_true, Bool.and_eq_true, beq_iff_eq]
  constructor
  · rintro ⟨h2, h1, h0⟩
    exact ⟨a0.mp h0, a1.mp h1, a2.mp h2⟩
  · rintro ⟨h0, h1, h2⟩
    exact ⟨a2.mpr h2, a1.mpr h1, a0.mpr h0⟩
def kW (i : Nat) : Int64 := [1886350948, 1685026670, 418548114533, 422607680115, 1735353715, 1751216749, 478745093490, 1919509349, 7823737, 1734440037, 1936287598, 1918986606, 1835363940, 2003395685, 491496238692, 7106423, 512869295470, 7304564].getD i 0
theorem kW_tb : ∀ i, i < 18 → tb (kW i) = pr (cl i) := by decide +kernel
theorem wd_all {f : Nat → Int32} {s i : Nat} (hi : i < 18) (hl : ∀ j, s ≤ j → j < s + sLn.getD i 0 → isL (f j) = true) : lr f s (sLn.getD i 0) = cl i ↔ wq f s (sBy.getD i []) = true := by
  rcases (show i = 0 ∨ i = 1 ∨ i = 2 ∨ i = 3 ∨ i = 4 ∨ i = 5 ∨ i = 6 ∨ i = 7 ∨ i = 8 ∨ i = 9 ∨ i = 10 ∨ i = 11 ∨ i = 12 ∨ i = 13 ∨ i = 14 ∨ i = 15 ∨ i = 16 ∨ i = 17 by omega) with h | h | h | h | h | h | h | h | h | h | h | h | h | h | h | h | h | h
  · subst h; exact wd_0 hl
  · subst h; exact wd_1 hl
  · subst h; exact wd_2 hl
  · subst h; exact wd_3 hl
  · subst h; exact wd_4 hl
  · subst h; exact wd_5 hl
  · subst h; exact wd_6 hl
  · subst h; exact wd_7 hl
  · subst h; exact wd_8 hl
  · subst h; exact wd_9 hl
  · subst h; exact wd_10 hl
  · subst h; exact wd_11 hl
  · subst h; exact wd_12 hl
  · subst h; exact wd_13 hl
  · subst h; exact wd_14 hl
  · subst h; exact wd_15 hl
  · subst h; exact wd_16 hl
  · subst h; exact wd_17 hl
/-- the packed word is the i-th just where the letters are -/
theorem wv_i {f : Nat → Int32} {L s i : Nat} (hi : i < 18) (hs : s < L) (hl : isL (f s) = true) : lg_cmp (wv f L s) (kW i) = 0 ↔ wm f s (run isL f L s) i = true := by
  have hr := run_le (p := isL) (f := f) (L := L) s
  have ha := run_all (p := isL) (f := f) (L := L) s
  have h5 := sln_le i
  have hc := cl_len i hi
  rw [lg_0]
  unfold wv wm
  by_cases c : run isL f L s - s ≤ 8
  · rw [if_pos c]
    have e := pf_n (f := f) (L := L) (s := s) (L - s) s 0 (Nat.le_refl _) (Nat.le_refl _) (fun j q1 q2 => by omega) c (by rw [Nat.sub_self]; rfl)
    have hin : ∀ q ∈ lr f s (run isL f L s - s), 0 < q ∧ q < 256 := lr_in _ (fun j q1 q2 => ha j q1 (by omega))
    have key : pf f L s 0 = kW i ↔ lr f s (run isL f L s - s) = cl i := by
      constructor
      · intro q
        refine pr_inj _ _ hin (cl_in i hi) ?_
        rw [← e, ← kW_tb i hi, q]
      · intro q
        refine tb_inj ?_
        rw [e, q, kW_tb i hi]
    rw [key]
    by_cases z : run isL f L s = s + sLn.getD i 0
    · rw [decide_eq_true z, Bool.true_and, show run isL f L s - s = sLn.getD i 0 by omega]
      exact wd_all hi (fun j q1 q2 => ha j q1 (by omega))
    · rw [decide_eq_false z, Bool.false_and]
      refine ⟨fun q => ?_, fun q => absurd q (by decide)⟩
      have := congrArg List.length q
      rw [lr_len, hc] at this
      omega
  · rw [if_neg c]
    have z : ¬ run isL f L s = s + sLn.getD i 0 := by omega
    rw [decide_eq_false z, Bool.false_and]
    refine ⟨fun q => ?_, fun q => absurd q (by decide)⟩
    have k0 : ∀ i, i < 18 → ¬ (0 : Int64) = kW i := by decide +kernel
    exact absurd q (k0 i hi)
theorem kW_n : ∀ i, i < 18 → ¬ (0 : Int64) = kW i := by decide +kernel
theorem sB_inj : ∀ i, i < 18 → ∀ j, j < 18 → sBy.getD i [] = sBy.getD j [] → i = j := by decide +kernel
theorem wq_eq {f : Nat → Int32} : ∀ (l m : List Int32) (s : Nat), l.length = m.length → wq f s l = true → wq f s m = true → l = m
  | [], [], _, _, _, _ => rfl
  | [], _ :: _, _, h, _, _ => by cases h
  | _ :: _, [], _, h, _, _ => by cases h
  | c :: l, e :: m, s, h, h1, h2 => by
    obtain ⟨a1, a2⟩ := (Bool.and_eq_true _ _).mp (show ((f s == c) && wq f (s + 1) l) = true from h1)
    obtain ⟨b1, b2⟩ := (Bool.and_eq_true _ _).mp (show ((f s == e) && wq f (s + 1) m) = true from h2)
    rw [← eq_of_beq a1, ← eq_of_beq b1, wq_eq l m (s + 1) (Nat.succ.inj h) a2 b2]
theorem wm_u {f : Nat → Int32} {s e i j : Nat} (hi : i < 18) (hj : j < 18) (h1 : wm f s e i = true) (h2 : wm f s e j = true) : i = j := by
  obtain ⟨a1, a2⟩ := (Bool.and_eq_true _ _).mp h1
  obtain ⟨b1, b2⟩ := (Bool.and_eq_true _ _).mp h2
  have c1 := of_decide_eq_true a1
  have c2 := of_decide_eq_true b1
  refine sB_inj i hi j hj (wq_eq _ _ s ?_ a2 b2)
  rw [← sB_len i hi, ← sB_len j hj]
  omega
/-- the word that the reference sees -/
def rw0 (v : Nat → Nat → Int32) (g : Nat → Nat → Int64) : Int64 := if v 162 11 = 2 then g 162 13 else 0
theorem km_2 {f : Nat → Int32} {L a : Nat} : km (tK f L a) = 2 ↔ tK f L a = 1 := by
  unfold km
  by_cases h0 : tK f L a = 0
  · rw [if_pos h0, h0]; decide
  · rw [if_neg h0]
    by_cases h1 : tK f L a = 1
    · rw [if_pos h1]; exact ⟨fun _ => h1, fun _ => rfl⟩
    · rw [if_neg h1]
      refine ⟨?_, fun q => absurd q h1⟩
      split
      · exact fun q => absurd q (by decide)
      · split <;> exact fun q => absurd q (by decide)
theorem tk_L1 {f : Nat → Int32} {L a : Nat} (h : tK f L a = 1) : tS f L a < L ∧ isL (f (tS f L a)) = true ∧ tN f L a = run isL f L (tS f L a) := by
  have h0 : ¬ L ≤ tS f L a := fun q => by rw [(tk_0 q).1] at h; exact absurd h (by decide)
  by_cases q : isL (f (tS f L a)) = true
  · exact ⟨by omega, q, (tk_1 h0 q).2⟩
  · exfalso
    unfold tK at h
    rw [if_neg h0, if_neg q] at h
    revert h
    split
    · split <;> decide
    · split <;> decide
theorem rw_i {v : Nat → Nat → Int32} {g : Nat → Nat → Int64} {f : Nat → Int32} {L a i : Nat} (hi : i < 18) (h : TKR v g f L a) : lg_cmp (rw0 v g) (kW i) = 0 ↔ wk f (tS f L a) (tN f L a) (tK f L a) i = true := by
  obtain ⟨-, -, h3, -, h5⟩ := h
  unfold rw0 wk
  by_cases c : tK f L a = 1
  · rw [if_pos (by rw [h3]; exact km_2.mpr c), h5 c, decide_eq_true c, Bool.true_and]
    obtain ⟨c1, c2, c3⟩ := tk_L1 c
    rw [c3]
    exact wv_i hi c1 c2
  · rw [if_neg (fun q => c (km_2.mp (h3 ▸ q))), decide_eq_false c, Bool.false_and, lg_0]
    exact ⟨fun q => absurd q (kW_n i hi), fun q => absurd q (by decide)⟩
