/-! orders by codes: the class -/
theorem nat_x {a b : Nat} (h : ∀ i, a.testBit i = true ↔ b.testBit i = true) : a = b := by
  refine Nat.eq_of_testBit_eq (fun i => ?_)
  have k := h i
  cases t : a.testBit i
  · cases s : b.testBit i
    · rfl
    · exact absurd (k.mpr s) (by rw [t]; exact Bool.false_ne_true)
  · exact (k.mp t).symm
theorem PS_b {o : Nat → Nat} : ∀ k i, (PS o k).testBit i = true ↔ ∃ j, j < k ∧ o j = i := by
  intro k
  induction k with
  | zero =>
    intro i
    show (0 : Nat).testBit i = true ↔ _
    rw [Nat.zero_testBit]
    exact ⟨fun z => absurd z Bool.false_ne_true, fun ⟨j, j1, _⟩ => absurd j1 (Nat.not_lt_zero j)⟩
  | succ k ih =>
    intro i
    show (PS o k ||| 2 ^ o k).testBit i = true ↔ _
    rw [or_b, ih i]
    refine ⟨fun z => ?_, fun ⟨j, j1, j2⟩ => ?_⟩
    · rcases z with ⟨j, j1, j2⟩ | z
      · exact ⟨j, by omega, j2⟩
      · exact ⟨k, by omega, z.symm⟩
    · by_cases y : j = k
      · subst y; exact Or.inr j2.symm
      · exact Or.inl ⟨j, by omega, j2⟩
theorem PS_lt {o : Nat → Nat} {d : Nat} : ∀ k, (∀ j, j < k → o j < d) → PS o k < 2 ^ d := by
  intro k
  induction k with
  | zero => intro _; exact Nat.two_pow_pos d
  | succ k ih =>
    intro h
    exact Nat.or_lt_two_pow (ih (fun j hj => h j (by omega))) (Nat.pow_lt_pow_right (by decide) (h k (by omega)))
theorem MS_b {f : Nat → Nat} {F : Nat} : ∀ k i, (MS f F k).testBit i = true ↔ ∃ j, j < k ∧ F.testBit j = true ∧ f j = i := by
  intro k
  induction k with
  | zero =>
    intro i
    show (0 : Nat).testBit i = true ↔ _
    rw [Nat.zero_testBit]
    exact ⟨fun z => absurd z Bool.false_ne_true, fun ⟨j, j1, _⟩ => absurd j1 (Nat.not_lt_zero j)⟩
  | succ k ih =>
    intro i
    by_cases t : F.testBit k = true
    · rw [show MS f F (k + 1) = MS f F k ||| 2 ^ f k from if_pos t, or_b, ih i]
      refine ⟨fun z => ?_, fun ⟨j, j1, j2, j3⟩ => ?_⟩
      · rcases z with ⟨j, j1, j2, j3⟩ | z
        · exact ⟨j, by omega, j2, j3⟩
        · exact ⟨k, by omega, t, z.symm⟩
      · by_cases y : j = k
        · subst y; exact Or.inr j3.symm
        · exact Or.inl ⟨j, by omega, j2, j3⟩
    · rw [show MS f F (k + 1) = MS f F k from if_neg t, ih i]
      refine ⟨fun ⟨j, j1, j2, j3⟩ => ⟨j, by omega, j2, j3⟩, fun ⟨j, j1, j2, j3⟩ => ?_⟩
      by_cases y : j = k
      · subst y; exact absurd j2 t
      · exact ⟨j, by omega, j2, j3⟩
/-- a code's digits -/
def dg (c C k : Nat) : Nat := C / 4 ^ (c - 1 - k) % 4
theorem dg_4 {c C k : Nat} : dg c C k < 4 := Nat.mod_lt _ (by omega)
theorem dg_E : ∀ c, c < 5 → ∀ k, k < c → ∀ C, C < 256 → ((iN C >>> (((2 : Int32) * ((iN c - 1) - iN k)) &&& 31)) &&& 3) = iN (C / 4 ^ (c - 1 - k) % 4) := by decide +kernel
theorem b3I {p : Nat} {u : MM} {g : GG} (hp : p < 10) : Fx_bit3X (iN p) u g = iN (2 ^ p) := by
  unfold Fx_bit3X
  rw [if_pos (show (0 : Int32) ≤ iN p from (iN_le (a := 0) (by omega) (by omega)).mpr (by omega))]
  exact (all_e p hp).2.1
theorem tk_C {u : MM} {g : GG} {c C : Nat} (h5 : u 56 5 = iN c) (c4 : c ≤ 4) (hC : C < 256) : ∀ (f k : Nat) (x : MM), c - k < f → k ≤ c → (∀ i, i < k → x 77 i = iN (dg c C i)) → (∀ a, a ≠ 77 → x a = u a) → ∃ x', Fx_C_takeOrderX_L4 (iN C) u g f (iN (PS (dg c C) k)) (iN k) x = (decide (PS (dg c C) c = 2 ^ c - 1), x') ∧ (∀ i, i < c → x' 77 i = iN (dg c C i)) ∧ ∀ a, a ≠ 77 → x' a = u a := by
  have p16 : ∀ k, PS (dg c C) k < 2 ^ 4 := fun k => PS_lt k (fun j _ => dg_4)
  have pc : 2 ^ c ≤ 2 ^ 4 := Nat.pow_le_pow_right (by decide) c4
  intro f
  induction f with
  | zero => intro k x h1; omega
  | succ f ih =>
    intro k x h1 h2 h77 hf
    rw [Fx_C_takeOrderX_L4_s, h5]
    by_cases q : c ≤ k
    · have e : k = c := by omega
      subst e
      have pk := p16 k
      rw [if_pos (Int32.le_refl _), (all_e k (by omega)).1]
      refine ⟨x, ?_, h77, hf⟩
      by_cases z : PS (dg k C) k = 2 ^ k - 1
      · rw [if_pos (by rw [z]), decide_eq_true z]
      · rw [if_neg (fun w => z ((iN_eq (by omega) (by omega)).mp w)), decide_eq_false z]
    have e : PS (dg c C) (k + 1) = PS (dg c C) k ||| 2 ^ dg c C k := rfl
    have hd : ((iN C >>> (((2 : Int32) * ((iN c - 1) - iN k)) &&& 31)) &&& 3) = iN (dg c C k) := dg_E c (by omega) k (by omega) C hC
    have d4 := dg_4 (c := c) (C := C) (k := k)
    rw [if_neg (fun z => q ((iN_le (by omega) (by omega)).mp z)), hd, xqb, iN_cl (by omega), xqb, ms_e1, xqb, b3I (by omega), iN_or, ← e, iN_s]
    exact ih (k + 1) (ms x 77 k (iN (dg c C k))) (by omega) (by omega) (fun i hi => by
      by_cases y : i = k
      · rw [y, ms_e1]
      · rw [ms_i1 y]; exact h77 i (by omega)) (fun a ha => (ms_c1 ha).trans (hf a ha))
theorem tk_X {u : MM} {g : GG} {c C : Nat} (h5 : u 56 5 = iN c) (c4 : c ≤ 4) (hC : C < 256) : ∃ x', Fx_C_takeOrderX (iN C) u g = (decide (PS (dg c C) c = 2 ^ c - 1), x') ∧ (∀ i, i < c → x' 77 i = iN (dg c C i)) ∧ ∀ a, a ≠ 77 → x' a = u a := by
  unfold Fx_C_takeOrderX
  have e5 : (4 - (0 : Int32).toInt).toNat + 1 = 5 := by decide
  rw [e5]
  exact tk_C h5 c4 hC 5 0 u (by omega) (by omega) (fun i hi => absurd hi (Nat.not_lt_zero i)) (fun _ _ => rfl)
/-- the mask of the first k is the set of the ponds that it says -/
theorem MS_PS {f o : Nat → Nat} {c k : Nat} (h : ∀ j, j < k → o j < c) : MS f (PS o k) c = PS (fun i => f (o i)) k := nat_x (fun i => by
  rw [MS_b, PS_b]
  refine ⟨fun ⟨j, j1, j2, j3⟩ => ?_, fun ⟨j, j1, j2⟩ => ⟨o j, h j j1, (PS_b k (o j)).mpr ⟨j, j1, rfl⟩, j2⟩⟩
  obtain ⟨l, l1, l2⟩ := (PS_b k j).mp j2
  exact ⟨l, l1, by rw [l2]; exact j3⟩)
theorem my_L {x : MM} {g : GG} {n P c : Nat} {A : Nat → Nat → Int32} {o : Nat → Nat} (K : LKF x g A n P c) (c4 : c ≤ 4) (ho : ∀ j, j < c → o j < c) (h77 : ∀ i, i < c → x 77 i = iN (o i)) : ∀ (f k : Nat), c - k < f → k ≤ c → Fx_C_mayOfTriedX_L7 x g f (MAV A n (fun i => tf P n (o i)) k) (iN (PS o k)) (iN k) = MAV A n (fun i => tf P n (o i)) c := by
  have pc : 2 ^ c ≤ 2 ^ 4 := Nat.pow_le_pow_right (by decide) c4
  intro f
  induction f with
  | zero => intro k h1; omega
  | succ f ih =>
    intro k h1 h2
    rw [Fx_C_mayOfTriedX_L7_s, K.1]
    by_cases q : c ≤ k
    · rw [if_pos ((iN_le (by omega) (by omega)).mpr q), show k = c by omega]
    have ok := ho k (by omega)
    have e : PS o (k + 1) = PS o k ||| 2 ^ o k := rfl
    have lt : PS o (k + 1) < 2 ^ c := PS_lt (k + 1) (fun j hj => ho j (by omega))
    have ge : 1 ≤ PS o (k + 1) := by
      by_cases z : PS o (k + 1) = 0
      · have b := (PS_b (o := o) (k + 1) (o k)).mpr ⟨k, by omega, rfl⟩
        rw [z, Nat.zero_testBit] at b
        exact absurd b Bool.false_ne_true
      · omega
    have hg := K.2.2 (PS o (k + 1)) ge lt
    rw [MS_PS (fun j hj => ho j (by omega))] at hg
    have es : MAV A n (fun i => tf P n (o i)) k + DM A n (PS (fun i => tf P n (o i)) (k + 1)) = MAV A n (fun i => tf P n (o i)) (k + 1) := rfl
    rw [if_neg (fun z => q ((iN_le (by omega) (by omega)).mp z)), xqb, iN_cl (by omega), h77 k (by omega), xqb, b3I (by omega), iN_or, ← e, xqb, iN_cl (by omega), hg, xqb, es, iN_s]
    exact ih (k + 1) (by omega) (by omega)
theorem my_X {x : MM} {g : GG} {n P c : Nat} {A : Nat → Nat → Int32} {o : Nat → Nat} (K : LKF x g A n P c) (c4 : c ≤ 4) (ho : ∀ j, j < c → o j < c) (h77 : ∀ i, i < c → x 77 i = iN (o i)) : Fx_C_mayOfTriedX x g = MAV A n (fun i => tf P n (o i)) c := by
  unfold Fx_C_mayOfTriedX
  have e5 : (4 - (0 : Int32).toInt).toNat + 1 = 5 := by decide
  rw [e5]
  exact my_L K c4 ho h77 5 0 (by omega) (by omega)
