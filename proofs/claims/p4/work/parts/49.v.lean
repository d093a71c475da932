/-! the first of the least, by codes; the class finds it -/
def BST (V : Nat → Prop) (M : Nat → Int64) (C b : Nat) : Prop := b < C ∧ V b ∧ ∀ D, D < C → V D → M b ≤ M D ∧ (D < b → M b < M D)
theorem bst_0 {V : Nat → Prop} {M : Nat → Int64} {C : Nat} (h : ∀ D, D < C → ¬ V D) (v : V C) : BST V M (C + 1) C := ⟨by omega, v, fun D d1 d2 => by
  have e : D = C := by
    by_cases y : D < C
    · exact absurd d2 (h D y)
    · omega
  subst e
  exact ⟨Int64.le_refl _, fun z => by omega⟩⟩
theorem bst_k {V : Nat → Prop} {M : Nat → Int64} {C b : Nat} (h : BST V M C b) (v : V C → M b ≤ M C) : BST V M (C + 1) b := by
  obtain ⟨h1, h2, h3⟩ := h
  refine ⟨by omega, h2, fun D d1 d2 => ?_⟩
  by_cases y : D < C
  · exact h3 D y d2
  · have e : D = C := by omega
    subst e
    exact ⟨v d2, fun z => by omega⟩
theorem bst_n {V : Nat → Prop} {M : Nat → Int64} {C b : Nat} (h : BST V M C b) (v : V C) (l : M C < M b) : BST V M (C + 1) C := by
  obtain ⟨h1, h2, h3⟩ := h
  refine ⟨by omega, v, fun D d1 d2 => ?_⟩
  by_cases y : D < C
  · have k := (h3 D y d2).1
    have k1 := Int64.le_iff_toInt_le.mp k
    have k2 := Int64.lt_iff_toInt_lt.mp l
    exact ⟨Int64.le_iff_toInt_le.mpr (by omega), fun _ => Int64.lt_iff_toInt_lt.mpr (by omega)⟩
  · have e : D = C := by omega
    subst e
    exact ⟨Int64.le_refl _, fun z => by omega⟩
theorem lg_ge {a b : Int64} : 0 ≤ lg_cmp a b ↔ ¬ a < b := by
  rw [← Int32.not_lt]
  exact ⟨fun z w => z ((lg_cmp_lt _ _).mpr w), fun z w => z ((lg_cmp_lt _ _).mp w)⟩
def VC (c C : Nat) : Prop := PS (dg c C) c = 2 ^ c - 1
noncomputable def MCV (A : Nat → Nat → Int32) (n P c C : Nat) : Int64 := MAV A n (fun i => tf P n (dg c C i)) c
theorem vc_d {c C : Nat} (h : VC c C) : ∀ j, j < c → dg c C j < c := fun j hj => by
  have b := (PS_b (o := dg c C) c (dg c C j)).mpr ⟨j, hj, rfl⟩
  rw [show PS (dg c C) c = 2 ^ c - 1 from h, Nat.testBit_two_pow_sub_one] at b
  exact of_decide_eq_true b
theorem vc_e : ∀ c, 1 ≤ c → c ≤ 4 → ∃ C, C < 4 ^ c ∧ VC c C := by
  intro c h1 h4
  rcases (show c = 1 ∨ c = 2 ∨ c = 3 ∨ c = 4 by omega) with e | e | e | e <;> subst e
  · exact ⟨0, by decide, by unfold VC; decide⟩
  · exact ⟨1, by decide, by unfold VC; decide⟩
  · exact ⟨6, by decide, by unfold VC; decide⟩
  · exact ⟨27, by decide, by unfold VC; decide⟩
def STC (x : MM) (g : GG) (fd : Int32) (A : Nat → Nat → Int32) (n P c C : Nat) : Prop := LKF x g A n P c ∧ ((fd = 0 ∧ ∀ D, D < C → ¬ VC c D) ∨ (fd = 1 ∧ ∃ b, BST (VC c) (MCV A n P c) C b ∧ g 56 4 = MCV A n P c b ∧ ∀ i, i < c → x 76 i = iN (dg c b i)))
theorem pw4 : ∀ c, c < 5 → (1 : Int32) <<< (((2 : Int32) * iN c) &&& 31) = iN (4 ^ c) := by decide +kernel
theorem lkf_c {x x' : MM} {g g' : GG} {A : Nat → Nat → Int32} {n P c : Nat} (h : LKF x g A n P c) (e1 : x' 56 = x 56) (e2 : x' 75 = x 75) (e3 : g' 78 = g 78) : LKF x' g' A n P c := by
  unfold LKF
  rw [e1, e2, e3]
  exact h
theorem fo_C {u0 : MM} {A : Nat → Nat → Int32} {n P c : Nat} (h5 : u0 56 5 = iN c) (c4 : c ≤ 4) : ∀ (f C : Nat) (fd : Int32) (x : MM) (g : GG), 4 ^ c - C < f → C ≤ 4 ^ c → STC x g fd A n P c C → ∃ x' g' fd', Fx_C_findOrderX_L13 u0 f fd (iN C) x g = (x', g') ∧ STC x' g' fd' A n P c (4 ^ c) := by
  have pc : 4 ^ c ≤ 4 ^ 4 := Nat.pow_le_pow_right (by decide) c4
  intro f
  induction f with
  | zero => intro C fd x g h1; omega
  | succ f ih =>
    intro C fd x g h1 h2 hS
    by_cases q : 4 ^ c ≤ C
    · have e : C = 4 ^ c := by omega
      subst e
      refine ⟨x, g, fd, ?_, hS⟩
      rw [Fx_C_findOrderX_L13_s, h5, pw4 c (by omega), if_pos (Int32.le_refl _)]
    obtain ⟨K, hS⟩ := hS
    obtain ⟨x1, t1, t2, t3⟩ := tk_X (g := g) (C := C) K.1 c4 (by omega)
    have K1 : LKF x1 g A n P c := lkf_c K (t3 56 (by decide)) (t3 75 (by decide)) rfl
    have nle : ¬ iN (4 ^ c) ≤ iN C := fun z => q ((iN_le (by omega) (by omega)).mp z)
    by_cases v : VC c C
    · have hv : decide (PS (dg c C) c = 2 ^ c - 1) = true := decide_eq_true v
      have mv := my_X (g := g) K1 c4 (vc_d v) t2
      have mv' : Fx_C_mayOfTriedX x1 g = MCV A n P c C := mv
      obtain ⟨x2, hx2⟩ : ∃ x2, x2 = mr x1 76 (va_cpy (x1 77) (x1 76) 0 0 4) := ⟨_, rfl⟩
      have f2 : ∀ a, a ≠ 76 → x2 a = x1 a := fun a ha => by rw [hx2, mr_c1 ha]
      have f76 : ∀ i, i < c → x2 76 i = iN (dg c C i) := fun i hi => by
        rw [hx2, mr_a1, va_cpy, if_pos ⟨by omega, by omega⟩, ← t2 i hi]
        exact congrArg (x1 77) (by omega)
      have K2 : LKF x2 (ml g 56 4 (MCV A n P c C)) A n P c := lkf_c K1 (f2 56 (by decide)) (f2 75 (by decide)) (zl_c (by decide))
      rcases hS with ⟨s1, s2⟩ | ⟨s1, b, s2, s3, s4⟩
      · have e : Fx_C_findOrderX_L13 u0 (f + 1) fd (iN C) x g = Fx_C_findOrderX_L13 u0 f 1 (iN (C + 1)) x2 (ml g 56 4 (MCV A n P c C)) := by
          rw [Fx_C_findOrderX_L13_s, h5, pw4 c (by omega), if_neg nle, t1, c2_mk, if_pos hv, xqb, mv', if_pos s1, xqb, xqb, ← hx2]
          unfold Fx_C_findOrderX_J68
          rw [iN_s]
        rw [e]
        exact ih (C + 1) 1 x2 _ (by omega) (by omega) ⟨K2, Or.inr ⟨rfl, C, bst_0 s2 v, ml_e, f76⟩⟩
      · have nf : ¬ fd = 0 := by rw [s1]; decide
        by_cases l : 0 ≤ lg_cmp (MCV A n P c C) (MCV A n P c b)
        · have e : Fx_C_findOrderX_L13 u0 (f + 1) fd (iN C) x g = Fx_C_findOrderX_L13 u0 f fd (iN (C + 1)) x1 g := by
            rw [Fx_C_findOrderX_L13_s, h5, pw4 c (by omega), if_neg nle, t1, c2_mk, if_pos hv, xqb, mv', if_neg nf, xqb, s3, if_pos l]
            unfold Fx_C_findOrderX_J68
            rw [iN_s]
          have le : MCV A n P c b ≤ MCV A n P c C := by
            have l1 : ¬ (MCV A n P c C).toInt < (MCV A n P c b).toInt := fun z => (lg_ge.mp l) (Int64.lt_iff_toInt_lt.mpr z)
            exact Int64.le_iff_toInt_le.mpr (by omega)
          rw [e]
          exact ih (C + 1) fd x1 g (by omega) (by omega) ⟨K1, Or.inr ⟨s1, b, bst_k s2 (fun _ => le), s3, fun i hi => by rw [t3 76 (by decide)]; exact s4 i hi⟩⟩
        · have e : Fx_C_findOrderX_L13 u0 (f + 1) fd (iN C) x g = Fx_C_findOrderX_L13 u0 f 1 (iN (C + 1)) x2 (ml g 56 4 (MCV A n P c C)) := by
            rw [Fx_C_findOrderX_L13_s, h5, pw4 c (by omega), if_neg nle, t1, c2_mk, if_pos hv, xqb, mv', if_neg nf, xqb, s3, if_neg l, xqb, xqb, ← hx2]
            unfold Fx_C_findOrderX_J68
            rw [iN_s]
          have lt : MCV A n P c C < MCV A n P c b := Classical.byContradiction (fun z => l (lg_ge.mpr z))
          rw [e]
          exact ih (C + 1) 1 x2 _ (by omega) (by omega) ⟨K2, Or.inr ⟨rfl, C, bst_n s2 v lt, ml_e, f76⟩⟩
    · have hv : decide (PS (dg c C) c = 2 ^ c - 1) = false := decide_eq_false v
      have e : Fx_C_findOrderX_L13 u0 (f + 1) fd (iN C) x g = Fx_C_findOrderX_L13 u0 f fd (iN (C + 1)) x1 g := by
        rw [Fx_C_findOrderX_L13_s, h5, pw4 c (by omega), if_neg nle, t1, c2_mk, hv, if_neg Bool.false_ne_true]
        unfold Fx_C_findOrderX_J68
        rw [iN_s]
      rw [e]
      refine ih (C + 1) fd x1 g (by omega) (by omega) ⟨K1, ?_⟩
      rcases hS with ⟨s1, s2⟩ | ⟨s1, b, s2, s3, s4⟩
      · exact Or.inl ⟨s1, fun D hD => by
          by_cases y : D = C
          · rw [y]; exact v
          · exact s2 D (by omega)⟩
      · exact Or.inr ⟨s1, b, bst_k s2 (fun w => absurd w v), s3, fun i hi => by rw [t3 76 (by decide)]; exact s4 i hi⟩
/-- the class's ORDER and its MAY -/
theorem fo_X {x : MM} {g : GG} {A : Nat → Nat → Int32} {n P c : Nat} (K : LKF x g A n P c) (c1 : 1 ≤ c) (c4 : c ≤ 4) : ∃ x' g' b, Fx_C_findOrderX x g = (x', g') ∧ LKF x' g' A n P c ∧ BST (VC c) (MCV A n P c) (4 ^ c) b ∧ g' 56 4 = MCV A n P c b ∧ ∀ i, i < c → x' 76 i = iN (dg c b i) := by
  have pc : 4 ^ c ≤ 4 ^ 4 := Nat.pow_le_pow_right (by decide) c4
  unfold Fx_C_findOrderX
  have e257 : (256 - (0 : Int32).toInt).toNat + 1 = 257 := by decide
  rw [e257]
  obtain ⟨x', g', fd', k1, K', k2⟩ := fo_C K.1 c4 257 0 0 x g (by omega) (Nat.zero_le _) ⟨K, Or.inl ⟨rfl, fun D hD => absurd hD (Nat.not_lt_zero D)⟩⟩
  rcases k2 with ⟨s1, s2⟩ | ⟨s1, b, s2, s3, s4⟩
  · obtain ⟨C, v1, v2⟩ := vc_e c c1 c4
    exact absurd v2 (s2 C v1)
  · exact ⟨x', g', b, k1, K', s2, s3, s4⟩
/-- the class's MAY downwards -/
theorem dn_L {u : MM} {g : GG} {A : Nat → Nat → Int32} {n P c : Nat} (K : LKF u g A n P c) (c4 : c ≤ 4) : ∀ (f k : Nat) (x : MM), c - k < f → k ≤ c → (∀ i, i < k → x 77 i = iN (c - 1 - i)) → (∀ a, a ≠ 77 → x a = u a) → ∃ x', Fx_C_downwardsX_L2 u g f (iN k) x = (MAV A n (fun i => tf P n (c - 1 - i)) c, x') := by
  intro f
  induction f with
  | zero => intro k x h1; omega
  | succ f ih =>
    intro k x h1 h2 h77 hf
    rw [Fx_C_downwardsX_L2_s, K.1]
    by_cases q : c ≤ k
    · have e : k = c := by omega
      subst e
      have K1 : LKF x g A n P k := lkf_c K (hf 56 (by decide)) (hf 75 (by decide)) rfl
      rw [if_pos (Int32.le_refl _), xqb, my_X (o := fun i => k - 1 - i) K1 c4 (fun j hj => by omega) h77]
      exact ⟨x, rfl⟩
    have e1 : iN c - 1 = iN (c - 1) := iN_sub (a := c) (b := 1) (by omega)
    rw [if_neg (fun z => q ((iN_le (by omega) (by omega)).mp z)), xqb, iN_cl (by omega), e1, iN_sub (by omega), iN_s]
    exact ih (k + 1) (ms x 77 k (iN (c - 1 - k))) (by omega) (by omega) (fun i hi => by
      by_cases y : i = k
      · rw [y, ms_e1]
      · rw [ms_i1 y]; exact h77 i (by omega)) (fun a ha => (ms_c1 ha).trans (hf a ha))
theorem dn_X {u : MM} {g : GG} {A : Nat → Nat → Int32} {n P c : Nat} (K : LKF u g A n P c) (c4 : c ≤ 4) : ∃ x', Fx_C_downwardsX u g = (MAV A n (fun i => tf P n (c - 1 - i)) c, x') := by
  unfold Fx_C_downwardsX
  have e5 : (4 - (0 : Int32).toInt).toNat + 1 = 5 := by decide
  rw [e5]
  exact dn_L K c4 5 0 u (by omega) (by omega) (fun i hi => absurd hi (Nat.not_lt_zero i)) (fun _ _ => rfl)
