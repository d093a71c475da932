/-! weak banks, owners; the class looks -/
def wkF (A : Nat → Nat → Int32) (p : Nat) : Bool := decide (¬ A p 4 ≤ 0)
theorem wk_L {x : MM} {g : GG} {t n : Nat} {A : Nat → Nat → Int32} (h : HA x t n A) (n9 : n ≤ 9) : ∀ (f p : Nat), n - p < f → p ≤ n → Fx_H_weakX_L4 t x g f (iN (bset (wkF A) p)) (iN p) = iN (bset (wkF A) n) := by
  intro f
  induction f with
  | zero => intro p h1; omega
  | succ f ih =>
    intro p h1 h2
    rw [Fx_H_weakX_L4_s, h.1]
    by_cases q : n ≤ p
    · rw [if_pos ((iN_le (by omega) (by omega)).mpr q), show p = n by omega]
    · have e : bset (wkF A) (p + 1) = if wkF A p = true then bset (wkF A) p + 2 ^ p else bset (wkF A) p := rfl
      have k := ih (p + 1) (by omega) (by omega)
      rw [if_neg (fun z => q ((iN_le (by omega) (by omega)).mp z)), show hof x t (iN p) (4 : Int32) = A p 4 from ha_r (c := 4) h n9 (by omega) (by decide)]
      unfold Fx_H_weakX_J28
      rw [iN_s]
      by_cases y : A p 4 ≤ 0
      · rw [if_neg (show ¬ wkF A p = true from fun z => (of_decide_eq_true z) y)] at e
        rw [if_pos y, ← e]
        exact k
      · rw [if_pos (show wkF A p = true from decide_eq_true y)] at e
        rw [if_neg y, xqb, b9I (by omega), bset_or (by omega), ← e]
        exact k
theorem wk_X {x : MM} {g : GG} {t n : Nat} {A : Nat → Nat → Int32} (h : HA x t n A) (n9 : n ≤ 9) : Fx_H_weakX t x g = iN (bset (wkF A) n) := by
  unfold Fx_H_weakX
  have e : (9 - (0 : Int32).toInt).toNat + 1 = 10 := by decide
  rw [e]
  exact wk_L h n9 10 0 (by omega) (by omega)
theorem chM_m {A : Nat → Nat → Int32} {md : Int32} {p : Nat} (hp : p < 9) : chM A md 0 p = if inB md p = true then 0 else A p 4 := by
  unfold chM
  rw [inB_0 p hp, if_neg Bool.false_ne_true, Int32.add_zero]
theorem chM_0 {A : Nat → Nat → Int32} {p : Nat} (hp : p < 9) : chM A 0 0 p = A p 4 := by
  rw [chM_m hp, inB_0 p hp, if_neg Bool.false_ne_true]
theorem sup_w {A : Nat → Nat → Int32} {ch : Nat → Int32} {n : Nat} (n9 : n ≤ 9) (h : ∀ p, p < n → A p 4 ≤ 0 → ch p = 0) : SUP n (iN (bset (wkF A) n)) ch := by
  intro b hb q
  refine sub_0 hb n9 (fun p hp y => ?_)
  rw [bset_b n p hp]
  by_cases z : A p 4 ≤ 0
  · exact absurd (wB_0 y (h p hp z) n hp) q
  · exact decide_eq_true z
theorem sup_m {A : Nat → Nat → Int32} {n : Nat} {md : Int32} (n9 : n ≤ 9) (aw : AWF n A) : SUP n (iN (bset (wkF A) n)) (chM A md 0) := by
  refine sup_w n9 (fun p hp y => ?_)
  have b4 : Bd 0 10 (A p 4) := (aw p hp).1 4 (by decide)
  have y1 := Int32.le_iff_toInt_le.mp y
  have l0 : (0 : Int32).toInt = 0 := rfl
  have e : A p 4 = 0 := Int32.toInt_inj.mp (by have := b4.1; omega)
  rw [chM_m (by omega), e]
  split <;> rfl
def sR (y : MM) (i : Nat) : Int32 := y 172 (5 + 2 * i)
def cR (y : MM) (i : Nat) : Int32 := y 172 (6 + 2 * i)
/-- the class has looked at what is laid -/
def LKD (x' : MM) (g1 : GG) (y : MM) (n m : Nat) : Prop := OK x' g1 n m (rwA y) (sR y) (cR y) (iN (bset (wkF (rwA y)) n)) (chM (rwA y) 0 0) ∧ LDF x' y n m
theorem lo_Y {x y : MM} {g : GG} {n m : Nat} (L : LDF x y n m) : ∃ x' g1, Fx_O_look_44X (-1) (Fx_H_weakX 44 x g) x g = (x', g1) ∧ LKD x' g1 y n m ∧ ∀ a, a ≠ 68 → g1 a = g a := by
  have n9 := L.1
  rw [wk_X L.2.2.2.1 n9]
  obtain ⟨x', g1, k1, k2, k3, k4⟩ := lk44_X (g := g) (mg := iN (bset (wkF (rwA y)) n)) (sr := sR y) (cr := cR y) L.2.2.2.1 n9 L.2.2.1 L.2.2.2.2.2.2.1 (fun i hi => ⟨(L.2.2.2.2.2.2.2.2.1 i hi).1, (L.2.2.2.2.2.2.2.2.1 i hi).2.1⟩)
  exact ⟨x', g1, k1, ⟨k2, ldf_c L (fun c c1 c2 => k3 c (by omega)) rfl (fun _ _ _ => rfl)⟩, k4⟩
theorem looks_F {u x : MM} {g : GG} {hill plan : Int32} (p1 : Fx_P_laysX hill plan u g = (false, x)) : Fx_P_looksX hill plan u g = (false, x, g) := by
  unfold Fx_P_looksX
  rw [p1]
  rfl
theorem looks_T {u x y : MM} {g : GG} {n m : Nat} {hill plan : Int32} (p1 : Fx_P_laysX hill plan u g = (true, x)) (L : LDF x y n m) : ∃ x' g1, Fx_P_looksX hill plan u g = (true, x', g1) ∧ LKD x' g1 y n m ∧ ∀ a, a ≠ 68 → g1 a = g a := by
  unfold Fx_P_looksX
  rw [p1, c2_mk, if_pos rfl, xqb]
  obtain ⟨x', g1, k1, k2, k3⟩ := lo_Y (g := g) L
  rw [k1, c2_mk]
  exact ⟨x', g1, rfl, k2, k3⟩
/-! the reference's sums -/
/-- the reference is ready for storms -/
def RR (y : MM) (n m : Nat) (A : Nat → Nat → Int32) (sr cr : Nat → Int32) : Prop := n ≤ 9 ∧ m ≤ 4 ∧ RMA y n A ∧ AWF n A ∧ y 162 26 = -1 ∧ y 162 27 = 0 ∧ y 172 1 = iN m ∧ ∀ i, i < m → y 172 (5 + 2 * i) = sr i ∧ y 172 (6 + 2 * i) = cr i ∧ Bd 0 9 (sr i)
def FRM (y' y : MM) : Prop := (∀ c, c ≠ 162 → c ≠ 173 → c ≠ 174 → c ≠ 175 → y' c = y c) ∧ ∀ j, j ≠ 31 → j ≠ 32 → j ≠ 33 → y' 162 j = y 162 j
theorem frm_0 {y : MM} : FRM y y := ⟨fun _ _ _ _ _ => rfl, fun _ _ _ _ => rfl⟩
theorem frm_t {a b c : MM} (h1 : FRM a b) (h2 : FRM b c) : FRM a c := ⟨fun i i1 i2 i3 i4 => (h1.1 i i1 i2 i3 i4).trans (h2.1 i i1 i2 i3 i4), fun j j1 j2 j3 => (h1.2 j j1 j2 j3).trans (h2.2 j j1 j2 j3)⟩
theorem rr_c {y y' : MM} {n m : Nat} {A : Nat → Nat → Int32} {sr cr : Nat → Int32} (h : RR y n m A sr cr) (f : FRM y' y) : RR y' n m A sr cr := by
  obtain ⟨n9, m4, ma, aw, h26, h27, h1, hr⟩ := h
  have e172 : y' 172 = y 172 := f.1 172 (by decide) (by decide) (by decide) (by decide)
  refine ⟨n9, m4, ma_c ma (f.2 22 (by decide) (by decide) (by decide)) e172, aw, ?_, ?_, ?_, ?_⟩
  · rw [f.2 26 (by decide) (by decide) (by decide)]; exact h26
  · rw [f.2 27 (by decide) (by decide) (by decide)]; exact h27
  · rw [e172]; exact h1
  · rw [e172]; exact hr
theorem rr_L {x y : MM} {n m : Nat} (L : LDF x y n m) : RR y n m (rwA y) (sR y) (cR y) := ⟨L.1, L.2.2.1, L.2.2.2.2.1, L.2.2.2.2.2.1, L.2.2.2.2.2.2.2.2.2.2.2.1, L.2.2.2.2.2.2.2.2.2.2.2.2.1, L.2.2.2.2.2.2.2.1, fun i hi => ⟨rfl, rfl, (L.2.2.2.2.2.2.2.2.1 i hi).2.2.1⟩⟩
theorem pr_L {y : MM} {g : GG} {n m b : Nat} {A : Nat → Nat → Int32} {sr cr : Nat → Int32} {c : Int64} (h : RR y n m A sr cr) (hb : b < 2 ^ n) : ∀ (f p : Nat), n - p < f → p ≤ n → Fx_M_partsOfX_L17 (iN b) y g f (prB (fun p => A p 4) b c p) (iN p) = prB (fun p => A p 4) b c n := by
  have n9 := h.1
  have p2 := p2_le n9
  intro f
  induction f with
  | zero => intro p h1; omega
  | succ f ih =>
    intro p h1 h2
    rw [Fx_M_partsOfX_L17_s, h.2.2.1.1]
    by_cases q : n ≤ p
    · rw [if_pos ((iN_le (by omega) (by omega)).mpr q), show p = n by omega]
    · have k := ih (p + 1) (by omega) (by omega)
      have e : prB (fun p => A p 4) b c (p + 1) = prB (fun p => A p 4) b c p * (if b.testBit p = true then A p 4 else 10 - A p 4).toInt64 := rfl
      rw [e] at k
      rw [if_neg (fun z => q ((iN_le (by omega) (by omega)).mp z)), xqb, hasI, inN b (by omega) p (by omega), show mof y (iN p) (4 : Int32) = A p 4 from ma_r (c := 4) h.2.2.1 n9 (by omega) (by decide)]
      unfold Fx_M_partsOfX_J58
      rw [iN_s]
      by_cases t : b.testBit p = true
      · rw [if_pos t] at k ⊢
        rw [xqb, xqb]
        exact k
      · rw [if_neg t] at k ⊢
        rw [xqb, xqb]
        exact k
theorem pr_X {y : MM} {g : GG} {n m r b : Nat} {A : Nat → Nat → Int32} {sr cr : Nat → Int32} (h : RR y n m A sr cr) (hr : r < m) (hb : b < 2 ^ n) : Fx_M_partsOfX (iN r) (iN b) y g = wB (fun p => A p 4) b n * (cr r).toInt64 := by
  unfold Fx_M_partsOfX
  have n9 := h.1
  have m4 := h.2.1
  have e : (((5 : Int32) + ((2 : Int32) * iN r)) + 1).toNatClampNeg = 6 + 2 * r := by
    show ((iN 5 + iN 2 * iN r) + iN 1).toNatClampNeg = _
    rw [iN_m, iN_a, iN_a, iN_cl (by omega)]
    omega
  have e10 : (9 - (0 : Int32).toInt).toNat + 1 = 10 := by decide
  rw [xqb, xqb, e, (h.2.2.2.2.2.2.2 r hr).2.1, e10, ← prB_e]
  exact pr_L h hb 10 0 (by omega) (by omega)
/-- a storm of the reference, ready for the next one -/
theorem sto_X {y : MM} {g : GG} {n m r : Nat} {A : Nat → Nat → Int32} {sr cr : Nat → Int32} {bk : Int32} (h : RR y n m A sr cr) (hr : r < m) : ∃ y1, Fx_M_blowX (Fx_M_stepsOfX (iN r) y g) bk y g = y1 ∧ RS y1 (stN A n (sr r) bk (-1) n) n n ∧ FRM y1 y := by
  obtain ⟨n9, m4, ma, aw, h26, h27, h1, hs⟩ := h
  obtain ⟨r1, r2, r3⟩ := hs r hr
  have es : Fx_M_stepsOfX (iN r) y g = sr r := by
    unfold Fx_M_stepsOfX
    have e : ((5 : Int32) + ((2 : Int32) * iN r)).toNatClampNeg = 5 + 2 * r := by
      show (iN 5 + iN 2 * iN r).toNatClampNeg = _
      rw [iN_m, iN_a, iN_cl (by omega)]
    rw [h27, if_pos rfl, xqb, e]
    exact r1
  rw [es]
  obtain ⟨y1, b0, b1, b2, b3⟩ := rbl_X (g := g) (bk := bk) ma n9 aw h26 r3
  exact ⟨y1, b0, b1, b2, b3⟩
