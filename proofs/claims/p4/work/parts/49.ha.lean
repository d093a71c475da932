/-! the mean of all, of a hill in three cells -/
theorem wm44_X {x : MM} {g : GG} {n m : Nat} {A : Nat → Nat → Int32} {sr cr : Nat → Int32} (h0 : HA x 44 n A) (n9 : n ≤ 9) (m4 : m ≤ 4) (aw : AWF n A) (hr : RNS x 44 m sr cr) : ∃ x' g', Fx_O_wholeMean_44X (-1) x g = (MN A n m sr cr, x', g') ∧ (∀ c, c < 58 ∨ 67 < c → x' c = x c) ∧ ∀ a, a ≠ 68 → g' a = g a := by
  unfold Fx_O_wholeMean_44X
  obtain ⟨x', g', k1, k2, k3, k4⟩ := lk44_X (g := g) (mg := iN (bset (wkF A) n)) h0 n9 m4 hr.1 hr.2
  rw [xqb, wk_X h0 n9, k1, c2_mk, xqb, all_X k2.2.2.1.1 n9, xqb, cmn_eq (y := x) (g' := g) (o := -1) (ch2 := fun p => A p 4) k2 (sup_m (md := 0) n9 aw) (c := 2 ^ n - 1) (by have := Nat.two_pow_pos n; omega) (fun p hp => chM_0 (by omega)) cnt_all]
  exact ⟨x', g', rfl, k3, k4⟩
theorem wm70_X {x : MM} {g : GG} {n m : Nat} {A : Nat → Nat → Int32} {sr cr : Nat → Int32} (h0 : HA x 70 n A) (n9 : n ≤ 9) (m4 : m ≤ 4) (aw : AWF n A) (hr : RNS x 70 m sr cr) : ∃ x' g', Fx_O_wholeMean_70X (-1) x g = (MN A n m sr cr, x', g') ∧ (∀ c, c < 58 ∨ 67 < c → x' c = x c) ∧ ∀ a, a ≠ 68 → g' a = g a := by
  unfold Fx_O_wholeMean_70X
  obtain ⟨x', g', k1, k2, k3, k4⟩ := lk70_X (g := g) (mg := iN (bset (wkF A) n)) h0 n9 m4 hr.1 hr.2
  rw [xqb, wk_X h0 n9, k1, c2_mk, xqb, all_X k2.2.2.1.1 n9, xqb, cmn_eq (y := x) (g' := g) (o := -1) (ch2 := fun p => A p 4) k2 (sup_m (md := 0) n9 aw) (c := 2 ^ n - 1) (by have := Nat.two_pow_pos n; omega) (fun p hp => chM_0 (by omega)) cnt_all]
  exact ⟨x', g', rfl, k3, k4⟩
theorem wm79_X {x : MM} {g : GG} {n m : Nat} {A : Nat → Nat → Int32} {sr cr : Nat → Int32} (h0 : HA x 79 n A) (n9 : n ≤ 9) (m4 : m ≤ 4) (aw : AWF n A) (hr : RNS x 79 m sr cr) : ∃ x' g', Fx_O_wholeMean_79X (-1) x g = (MN A n m sr cr, x', g') ∧ (∀ c, c < 58 ∨ 67 < c → x' c = x c) ∧ ∀ a, a ≠ 68 → g' a = g a := by
  unfold Fx_O_wholeMean_79X
  obtain ⟨x', g', k1, k2, k3, k4⟩ := lk79_X (g := g) (mg := iN (bset (wkF A) n)) h0 n9 m4 hr.1 hr.2
  rw [xqb, wk_X h0 n9, k1, c2_mk, xqb, all_X k2.2.2.1.1 n9, xqb, cmn_eq (y := x) (g' := g) (o := -1) (ch2 := fun p => A p 4) k2 (sup_m (md := 0) n9 aw) (c := 2 ^ n - 1) (by have := Nat.two_pow_pos n; omega) (fun p hp => chM_0 (by omega)) cnt_all]
  exact ⟨x', g', rfl, k3, k4⟩
