section
/-! weak banks, owners; the class looks -/
def sR (y : MM) (i : Nat) : Int32 := y 172 (5 + 2 * i)
def cR (y : MM) (i : Nat) : Int32 := y 172 (6 + 2 * i)
/-! the reference's sums -/
/-- the reference is ready for storms -/
def RR (y : MM) (n m : Nat) (A : Nat → Nat → Int32) (sr cr : Nat → Int32) : Prop := n ≤ 9 ∧ m ≤ 4 ∧ RMA y n A ∧ AWF n A ∧ y 162 26 = -1 ∧ y 162 27 = 0 ∧ y 172 1 = iN m ∧ ∀ i, i < m → y 172 (5 + 2 * i) = sr i ∧ y 172 (6 + 2 * i) = cr i ∧ Bd 0 9 (sr i)
def FRM (y' y : MM) : Prop := (∀ c, c ≠ 162 → c ≠ 173 → c ≠ 174 → c ≠ 175 → y' c = y c) ∧ ∀ j, j ≠ 31 → j ≠ 32 → j ≠ 33 → y' 162 j = y 162 j
theorem rr_c {y y' : MM} {n m : Nat} {A : Nat → Nat → Int32} {sr cr : Nat → Int32} (h : RR y n m A sr cr) (f : FRM y' y) : RR y' n m A sr cr := by
  obtain ⟨n9, m4, ma, aw, h26, h27, h1, hr⟩ := h
  have e172 : y' 172 = y 172 := f.1 172 (by decide) (by decide) (by decide) (by decide)
  refine ⟨n9, m4, ma_c ma (f.2 22 (by decide) (by decide) (by decide)) e172, aw, ?_, ?_, ?_, ?_⟩
  · rw [f.2 26 (by decide) (by decide) (by decide)]; exact h26
  · rw [f.2 27 (by decide) (by decide) (by decide)]; exact h27
  · rw [e172]; exact h1
  · rw [e172]; exact hr
theorem rr_L {x y : MM} {n m : Nat} (L : LDF x y n m) : RR y n m (rwA y) (sR y) (cR y) := ⟨L.1, L.2.2.1, L.2.2.2.2.1, L.2.2.2.2.2.1, L.2.2.2.2.2.2.2.2.2.2.2.1, L.2.2.2.2.2.2.2.2.2.2.2.2.1, L.2.2.2.2.2.2.2.1, fun i hi => ⟨rfl, rfl, (L.2.2.2.2.2.2.2.2.1 i hi).2.2.1⟩⟩
/-- a storm of the reference, ready for the next one -/
theorem sto_X {y : MM} {g : GG} {n m r : Nat} {A : Nat → Nat → Int32} {sr cr : Nat → Int32} {bk : Int32} (h : RR y n m A sr cr) (hr : r < m) : ∃ y1, Fx_M_blowX (Fx_M_stepsOfX (iN r) y g) bk y g = y1 ∧ RS y1 (stN A n (sr r) bk (-1) n) n n ∧ FRM y1 y := by
  obtain ⟨n9, m4, ma, aw, h26, h27, h1, hs⟩ := h
  obtain ⟨r1, r2, r3⟩ := hs r hr
  have es : Fx_M_stepsOfX (iN r) y g = sr r := by
    unfold Fx_M_stepsOfX
    have e : ((5 : Int32) + ((2 : Int32) * iN r)).toNatClampNeg = 5 + 2 * r := by
      show (iN 5 + iN 2 * iN r).toNatClampNeg = _
      rw [iN_m, iN_a, iN_cl (by omega)]
    rw [h27, if_pos rfl, xqb, e]
    exact r1
  rw [es]
  obtain ⟨y1, b0, b1, b2, b3⟩ := rbl_X (g := g) (bk := bk) ma n9 aw h26 r3
  exact ⟨y1, b0, b1, b2, b3⟩
end
section
/-! sums over storms as numbers; likely, given -/
def sN (G : Nat → Nat) : Nat → Nat
  | 0 => 0
  | b + 1 => sN G b + G b
/-- the chances of a hill, as numbers -/
def cN (y : MM) (i : Nat) : Nat := (cR y i).toNatClampNeg
theorem cN_s {x y : MM} {n m : Nat} (L : LDF x y n m) : (∀ r, r < m → cR y r = iN (cN y r) ∧ cN y r ≤ 100) ∧ sN (cN y) m = 100 := by
  have hr : ∀ r, r < m → cR y r = iN (cN y r) ∧ cN y r ≤ 100 := fun r hr => by
    obtain ⟨k, hk, h1⟩ := iN_ex (hi := 100) (show Bd 0 100 (cR y r) from (L.2.2.2.2.2.2.2.2.1 r hr).2.2.2)
    have e : cN y r = k := by
      unfold cN
      rw [hk, iN_cl (by omega)]
    rw [e]
    exact ⟨hk, h1⟩
  refine ⟨hr, ?_⟩
  have m1 := L.2.1
  have m4 := L.2.2.1
  have e1 := L.2.2.2.2.2.2.2.1
  have hs := L.2.2.2.2.2.2.2.2.2.2.1
  have e100 : (100 : Int32) = iN 100 := rfl
  unfold sm at hs
  rw [e1] at hs
  rcases (show m = 1 ∨ m = 2 ∨ m = 3 ∨ m = 4 by omega) with w | w | w | w
  · subst w
    have a0 : y 172 6 = iN (cN y 0) := (hr 0 (by omega)).1
    rw [if_pos (by decide), a0, Int32.zero_add, e100] at hs
    have b0 := (hr 0 (by omega)).2
    have := (iN_eq (by omega) (by omega)).mp hs
    show 0 + cN y 0 = 100
    omega
  · subst w
    have a0 : y 172 6 = iN (cN y 0) := (hr 0 (by omega)).1
    have a1 : y 172 8 = iN (cN y 1) := (hr 1 (by omega)).1
    rw [if_neg (by decide), if_pos (by decide), a0, a1, Int32.zero_add, iN_a, e100] at hs
    have b0 := (hr 0 (by omega)).2
    have b1 := (hr 1 (by omega)).2
    have := (iN_eq (by omega) (by omega)).mp hs
    show 0 + cN y 0 + cN y 1 = 100
    omega
  · subst w
    have a0 : y 172 6 = iN (cN y 0) := (hr 0 (by omega)).1
    have a1 : y 172 8 = iN (cN y 1) := (hr 1 (by omega)).1
    have a2 : y 172 10 = iN (cN y 2) := (hr 2 (by omega)).1
    rw [if_neg (by decide), if_neg (by decide), if_pos (by decide), a0, a1, a2, Int32.zero_add, iN_a, iN_a, e100] at hs
    have b0 := (hr 0 (by omega)).2
    have b1 := (hr 1 (by omega)).2
    have b2 := (hr 2 (by omega)).2
    have := (iN_eq (by omega) (by omega)).mp hs
    show 0 + cN y 0 + cN y 1 + cN y 2 = 100
    omega
  · subst w
    have a0 : y 172 6 = iN (cN y 0) := (hr 0 (by omega)).1
    have a1 : y 172 8 = iN (cN y 1) := (hr 1 (by omega)).1
    have a2 : y 172 10 = iN (cN y 2) := (hr 2 (by omega)).1
    have a3 : y 172 12 = iN (cN y 3) := (hr 3 (by omega)).1
    rw [if_neg (by decide), if_neg (by decide), if_neg (by decide), a0, a1, a2, a3, Int32.zero_add, iN_a, iN_a, iN_a, e100] at hs
    have b0 := (hr 0 (by omega)).2
    have b1 := (hr 1 (by omega)).2
    have b2 := (hr 2 (by omega)).2
    have b3 := (hr 3 (by omega)).2
    have := (iN_eq (by omega) (by omega)).mp hs
    show 0 + cN y 0 + cN y 1 + cN y 2 + cN y 3 = 100
    omega
end
section
/-! one number of a pond set, on both sides; the mean of all of a hill, in three cells -/
/-- rains that a hill in cell t has -/
def RNS (x : MM) (t m : Nat) (sr cr : Nat → Int32) : Prop := x t 2 = iN m ∧ ∀ i, i < m → x (t + 2) i = sr i ∧ x (t + 3) i = cr i
theorem rns_L {x y : MM} {n m : Nat} (L : LDF x y n m) : RNS x 44 m (sR y) (cR y) := ⟨L.2.2.2.2.2.2.1, fun i hi => ⟨(L.2.2.2.2.2.2.2.2.1 i hi).1, (L.2.2.2.2.2.2.2.2.1 i hi).2.1⟩⟩
theorem rns_c {x x' : MM} {t m : Nat} {sr cr : Nat → Int32} (h : RNS x t m sr cr) (e0 : x' t = x t) (e2 : x' (t + 2) = x (t + 2)) (e3 : x' (t + 3) = x (t + 3)) : RNS x' t m sr cr := by
  unfold RNS
  rw [e0, e2, e3]
  exact h
end
section
/-! years -/
def VV (X : Int32) : Nat := (X.toUInt32 >>> 16).toNat
theorem sh16 (X : Int32) : (X.toUInt32 >>> ((16 : Int32).toUInt32 &&& Int32.toUInt32 31)).toInt32 = iN (VV X) ∧ VV X < 65536 := by
  have hc : ((16 : Int32).toUInt32 &&& Int32.toUInt32 31) = 16 := by decide
  rw [hc]
  refine ⟨?_, ?_⟩
  · refine Int32.toBitVec_inj.mp ?_
    show (X.toUInt32 >>> 16).toBitVec = BitVec.ofNat 32 (X.toUInt32 >>> 16).toBitVec.toNat
    rw [BitVec.ofNat_toNat, BitVec.setWidth_eq]
  · unfold VV
    rw [UInt32.toNat_shiftRight]
    show X.toUInt32.toNat >>> 16 < 65536
    rw [Nat.shiftRight_eq_div_pow]
    have := X.toUInt32.toNat_lt
    omega
theorem rem_X {V k : Nat} (hV : V < 65536) (hk2 : k ≤ 1000) : iN V - iN V / iN k * iN k = iN (V % k) := by
  have hd : V / k * k ≤ V := Nat.div_mul_le_self V k
  have d : iN V / iN k = iN (V / k) := (Int32.ofNat_div (by omega) (by omega)).symm
  rw [d, iN_m, iN_sub hd]
  congr 1
  have := Nat.div_add_mod V k
  rw [Nat.mul_comm] at this
  omega
/-- the next number -/
def nxS (x : Int32) : Int32 := (x * (1103515245 : Int32)) + (12345 : Int32)
theorem yd_X {x : Int32} {u : MM} {g : GG} {k : Nat} (hk : 0 < k) (hk2 : k ≤ 1000) : Fx_Y_drawX (iN k) x u g = (iN (VV (nxS x) % k), nxS x) := by
  unfold Fx_Y_drawX
  rw [xqb, if_neg (show ¬ iN k ≤ (0 : Int32) from fun z => by have := (iN_le (b := 0) (by omega) (by omega)).mp z; omega), xqb, (sh16 _).1, rem_X (sh16 _).2 hk2]
  rfl
theorem rd_100 {y : MM} {g : GG} : Fx_M_draw100X y g = (iN (VV (nxS (y 162 41)) % 100), ms y 162 41 (nxS (y 162 41))) := by
  unfold Fx_M_draw100X
  rw [xqb, xqb, (sh16 _).1]
  have e := rem_X (V := VV (nxS (y 162 41))) (k := 100) (sh16 _).2 (by omega)
  have e' : iN (VV (nxS (y 162 41))) - iN (VV (nxS (y 162 41))) / 100 * 100 = iN (VV (nxS (y 162 41)) % 100) := e
  rw [← e']
  rfl
theorem rd_10 {y : MM} {g : GG} : Fx_M_draw10X y g = (iN (VV (nxS (y 162 41)) % 10), ms y 162 41 (nxS (y 162 41))) := by
  unfold Fx_M_draw10X
  rw [xqb, xqb, (sh16 _).1]
  have e := rem_X (V := VV (nxS (y 162 41))) (k := 10) (sh16 _).2 (by omega)
  have e' : iN (VV (nxS (y 162 41))) - iN (VV (nxS (y 162 41))) / 10 * 10 = iN (VV (nxS (y 162 41)) % 10) := e
  rw [← e']
  rfl
theorem rr_41 {y : MM} {n m : Nat} {A : Nat → Nat → Int32} {sr cr : Nat → Int32} {z : Int32} (h : RR y n m A sr cr) : RR (ms y 162 41 z) n m A sr cr := by
  obtain ⟨n9, m4, ma, aw, h26, h27, h1, hr⟩ := h
  exact ⟨n9, m4, ma_c ma (ms_i1 (by decide)) (ms_c1 (by decide)), aw, by rw [ms_i1 (by decide)]; exact h26, by rw [ms_i1 (by decide)]; exact h27, by rw [ms_c1 (by decide)]; exact h1, by rw [ms_c1 (by decide)]; exact hr⟩
theorem cho_X {x : MM} {g : GG} {m r : Nat} {sr cr : Nat → Int32} (h : RNS x 44 m sr cr) (m4 : m ≤ 4) (hr : r < m) : Fx_H_chanceOfX (iN r) 44 x g = cr r := by
  unfold Fx_H_chanceOfX
  rw [if_neg (show ¬ iN r < (0 : Int32) from fun z => by have := (iN_lt (b := 0) (by omega) (by omega)).mp z; omega), h.1, if_neg (fun z => by have := (iN_le (by omega) (by omega)).mp z; omega), xqb, iN_cl (by omega)]
  exact (h.2 r hr).2
theorem sp44_X {x : MM} {g : GG} {m r : Nat} {sr cr : Nat → Int32} (h : RNS x 44 m sr cr) (m4 : m ≤ 4) (hr : r < m) : Fx_H_stepsOfX (iN r) 44 x g = sr r := by
  unfold Fx_H_stepsOfX
  rw [if_neg (show ¬ iN r < (0 : Int32) from fun z => by have := (iN_lt (b := 0) (by omega) (by omega)).mp z; omega), h.1, if_neg (fun z => by have := (iN_le (by omega) (by omega)).mp z; omega), xqb, iN_cl (by omega)]
  exact (h.2 r hr).1
/-- the rain drawn, on both sides -/
theorem yr_R {x u y : MM} {g g' : GG} {n m V : Nat} {A : Nat → Nat → Int32} {sr cr : Nat → Int32} {cn : Nat → Nat} {y3 : Int32} (hn : RNS x 44 m sr cr) (rr : RR y n m A sr cr) (hc : ∀ r, r < m → cr r = iN (cn r) ∧ cn r ≤ 100) (hs : sN cn m = 100) (hV : V < 100) : ∀ (f f2 r : Nat), m - r < f → m - r ≤ f2 → r ≤ m → sN cn r ≤ V → ∃ r', r' < m ∧ Fx_Y_drawRainX_L12 x g (iN V) y3 f (iN (sN cn r)) (iN r) = (iN r', y3) ∧ Fx_M_yearX_L9 u g' y f2 (iN (V - sN cn r)) (iN r) = Fx_M_yearX_L51 u g' (iN r') 10 0 0 y := by
  have m4 := rr.2.1
  intro f
  induction f with
  | zero => intro f2 r h1; omega
  | succ f ih =>
    intro f2 r h1 h2 h3 h4
    have hr : r < m := by
      by_cases z : r < m
      · exact z
      · rw [show r = m by omega, hs] at h4
        omega
    obtain ⟨f2, rfl⟩ : ∃ k, f2 = k + 1 := ⟨f2 - 1, by omega⟩
    obtain ⟨c1, c2⟩ := hc r hr
    have e : sN cn (r + 1) = sN cn r + cn r := rfl
    have hx : ((((5 : Int32) + ((2 : Int32) * iN r)) + 1).toNatClampNeg) = 6 + 2 * r := by
      show ((iN 5 + iN 2 * iN r) + iN 1).toNatClampNeg = _
      rw [iN_m, iN_a, iN_a, iN_cl (by omega)]
      omega
    have hy : y 172 (6 + 2 * r) = iN (cn r) := ((rr.2.2.2.2.2.2.2 r hr).2.1).trans c1
    have e10 : (9 - (0 : Int32).toInt).toNat + 1 = 10 := by decide
    have ca : Fx_Y_drawRainX_L12 x g (iN V) y3 (f + 1) (iN (sN cn r)) (iN r) = if iN (sN cn r + cn r) ≤ iN V then Fx_Y_drawRainX_L12 x g (iN V) y3 f (iN (sN cn r + cn r)) (iN (r + 1)) else (iN r, y3) := by
      rw [Fx_Y_drawRainX_L12_s, hn.1, if_neg (fun z => by have := (iN_le (by omega) (by omega)).mp z; omega), xqb, cho_X hn m4 hr, c1, iN_a, iN_s]
    have ra : Fx_M_yearX_L9 u g' y (f2 + 1) (iN (V - sN cn r)) (iN r) = if iN (V - sN cn r) < iN (cn r) then Fx_M_yearX_L51 u g' (iN r) 10 0 0 y else Fx_M_yearX_L9 u g' y f2 (iN (V - sN cn r) - iN (cn r)) (iN (r + 1)) := by
      rw [Fx_M_yearX_L9_s, xqb, hx, hy, e10, iN_s]
    rw [ca, ra]
    by_cases z : sN cn r + cn r ≤ V
    · obtain ⟨r', a1, a2, a3⟩ := ih f2 (r + 1) (by omega) (by omega) (by omega) (by rw [e]; exact z)
      rw [e] at a2 a3
      rw [if_pos ((iN_le (by omega) (by omega)).mpr z), if_neg (fun w => by have := (iN_lt (by omega) (by omega)).mp w; omega), iN_sub (by omega), show V - sN cn r - cn r = V - (sN cn r + cn r) by omega]
      exact ⟨r', a1, a2, a3⟩
    · rw [if_neg (fun w => z ((iN_le (by omega) (by omega)).mp w)), if_pos ((iN_lt (by omega) (by omega)).mpr (by omega))]
      exact ⟨r, hr, rfl, rfl⟩
/-- the banks drawn, on both sides -/
theorem yr_B {x u : MM} {g g' : GG} {n m : Nat} {A : Nat → Nat → Int32} {sr cr : Nat → Int32} {rain : Int32} (ha : HA x 44 n A) (n9 : n ≤ 9) (ma : RMA u n A) : ∀ (f p : Nat) (B X : Int32) (y : MM), n - p < f → p ≤ n → RR y n m A sr cr → y 162 41 = X → ∃ B' X' y', Fx_Y_drawBanksX_L4 x g f B (iN p) X = (B', X') ∧ Fx_M_yearX_L51 u g' rain f B (iN p) y = Fx_M_blowX (Fx_M_stepsOfX rain y' g') B' y' g' ∧ RR y' n m A sr cr ∧ y' 162 41 = X' := by
  intro f
  induction f with
  | zero => intro p B X y h1; omega
  | succ f ih =>
    intro p B X y h1 h2 rr h41
    by_cases q : n ≤ p
    · refine ⟨B, X, y, ?_, ?_, rr, h41⟩
      · rw [Fx_Y_drawBanksX_L4_s, ha.1, if_pos ((iN_le (by omega) (by omega)).mpr q)]
      · rw [Fx_M_yearX_L51_s, ma.1, if_pos ((iN_le (by omega) (by omega)).mpr q), xqb, xqb]
    have hp : p < n := by omega
    have e10 : Fx_Y_drawX (10 : Int32) X x g = (iN (VV (nxS X) % 10), nxS X) := yd_X (k := 10) (by omega) (by omega)
    have ca : Fx_Y_drawBanksX_L4 x g (f + 1) B (iN p) X = if A p 4 ≤ iN (VV (nxS X) % 10) then Fx_Y_drawBanksX_L4 x g f B (iN (p + 1)) (nxS X) else Fx_Y_drawBanksX_L4 x g f (B ||| bt p) (iN (p + 1)) (nxS X) := by
      rw [Fx_Y_drawBanksX_L4_s, ha.1, if_neg (fun w => q ((iN_le (by omega) (by omega)).mp w)), e10, c2_mk, show hof x 44 (iN p) (4 : Int32) = A p 4 from ha_r (c := 4) ha n9 hp (by decide), xqb, b9I (by omega)]
      unfold Fx_Y_drawBanksX_J34
      rw [iN_s]
    have ra : Fx_M_yearX_L51 u g' rain (f + 1) B (iN p) y = if A p 4 ≤ iN (VV (nxS X) % 10) then Fx_M_yearX_L51 u g' rain f B (iN (p + 1)) (ms y 162 41 (nxS X)) else Fx_M_yearX_L51 u g' rain f (B ||| bt p) (iN (p + 1)) (ms y 162 41 (nxS X)) := by
      rw [Fx_M_yearX_L51_s, ma.1, if_neg (fun w => q ((iN_le (by omega) (by omega)).mp w)), rd_10, h41, c2_mk, show mof u (iN p) (4 : Int32) = A p 4 from ma_r (c := 4) ma n9 hp (by decide)]
      unfold Fx_M_yearX_J85
      rw [iN_s, Int32.or_zero]
      rfl
    rw [ca, ra]
    by_cases w : A p 4 ≤ iN (VV (nxS X) % 10)
    · rw [if_pos w, if_pos w]
      exact ih (p + 1) B (nxS X) _ (by omega) (by omega) (rr_41 rr) ms_e1
    · rw [if_neg w, if_neg w]
      exact ih (p + 1) (B ||| bt p) (nxS X) _ (by omega) (by omega) (rr_41 rr) ms_e1
/-- a year, on both sides -/
theorem yr_Y {x y : MM} {g g' : GG} {n m : Nat} {A : Nat → Nat → Int32} {sr cr : Nat → Int32} {cn : Nat → Nat} {X : Int32} (ha : HA x 44 n A) (hn : RNS x 44 m sr cr) (rr : RR y n m A sr cr) (hc : ∀ r, r < m → cr r = iN (cn r) ∧ cn r ≤ 100) (hs : sN cn m = 100) (h41 : y 162 41 = X) : ∃ r B X1 X2 y2, r < m ∧ Fx_Y_drawRainX X x g = (iN r, X1) ∧ Fx_Y_drawBanksX X1 x g = (B, X2) ∧ Fx_M_yearX y g' = y2 ∧ RS y2 (stN A n (sr r) B (-1) n) n n ∧ RR y2 n m A sr cr ∧ y2 162 41 = X2 := by
  have n9 := rr.1
  have m4 := rr.2.1
  have e5 : (4 - (0 : Int32).toInt).toNat + 1 = 5 := by decide
  have e4 : (3 - (0 : Int32).toInt).toNat + 1 = 4 := by decide
  have e10 : (9 - (0 : Int32).toInt).toNat + 1 = 10 := by decide
  obtain ⟨V, hV, hV2⟩ : ∃ V, V = VV (nxS X) % 100 ∧ V < 100 := ⟨_, rfl, Nat.mod_lt _ (by omega)⟩
  obtain ⟨X1, hX1⟩ : ∃ X1, X1 = nxS X := ⟨_, rfl⟩
  have e100 : Fx_Y_drawX (100 : Int32) X x g = (iN V, X1) := by
    rw [hV, hX1]
    exact yd_X (k := 100) (by omega) (by omega)
  have f100 : Fx_M_draw100X y g' = (iN V, ms y 162 41 X1) := by rw [rd_100, h41, ← hV, ← hX1]
  clear hV hX1
  have rr1 : RR (ms y 162 41 X1) n m A sr cr := rr_41 rr
  obtain ⟨r, r1, r2, r3⟩ := yr_R (x := x) (u := y) (g := g) (g' := g') (y3 := X1) hn rr1 hc hs (V := V) hV2 5 4 0 (by omega) (by omega) (by omega) (Nat.zero_le _)
  have s0 : sN cn 0 = 0 := rfl
  rw [s0] at r2
  rw [s0, Nat.sub_zero] at r3
  obtain ⟨B, X2, y1, b1, b2, b3, b4⟩ := yr_B (g := g) (g' := g') (rain := iN r) ha n9 rr.2.2.1 10 0 0 X1 (ms y 162 41 X1) (by omega) (by omega) rr1 ms_e1
  obtain ⟨y2, s1, s2, s3⟩ := sto_X (g := g') (bk := B) b3 r1
  refine ⟨r, B, X1, X2, y2, r1, ?_, ?_, ?_, s2, rr_c b3 s3, (s3.2 41 (by decide) (by decide) (by decide)).trans b4⟩
  · unfold Fx_Y_drawRainX
    rw [e100, c2_mk, e5]
    exact r2
  · unfold Fx_Y_drawBanksX
    rw [e10]
    exact b1
  · unfold Fx_M_yearX
    rw [f100, c2_mk, e4]
    exact r3.trans (b2.trans s1)
/-- what a year adds -/
def nxt (what : Int32) (s : Int64) (went harm : Int32) : Int64 := if what = 0 then s + harm.toInt64 else if what = 1 then s + (if went = 0 then 0 else 1) else if what = 2 then went.toInt64 else s + (((went >>> ((what - 10) &&& 31)) &&& 1).toInt64)
theorem ty_C {u : MM} {g : GG} {n m yr N r : Nat} {A : Nat → Nat → Int32} {sr cr : Nat → Int32} {what X X1 X2 B : Int32} {s : Int64} {f : Nat} (ha : HA u 44 n A) (hn : RNS u 44 m sr cr) (n9 : n ≤ 9) (m4 : m ≤ 4) (hr : r < m) (hN : N ≤ 99) (hy : yr < N) (d1 : Fx_Y_drawRainX X u g = (iN r, X1)) (d2 : Fx_Y_drawBanksX X1 u g = (B, X2)) : ∃ u2, Fx_Y_tallyX_L6 (iN N) what g (f + 1) s (iN yr) X u = Fx_Y_tallyX_L6 (iN N) what g f (nxt what s (stN A n (sr r) B (-1) n).1 (hrm A (stN A n (sr r) B (-1) n).1 n)) (iN (yr + 1)) X2 u2 ∧ HA u2 44 n A ∧ RNS u2 44 m sr cr := by
  obtain ⟨u2, q0, q1, q2, q3, q4⟩ := rn53_X (g := g) (st := sr r) (bk := B) (kp := -1) ha (by decide) n9
  refine ⟨u2, ?_, ha_c ha (q3 44 (by decide)) (q3 45 (by decide)), rns_c hn (q3 44 (by decide)) (q3 46 (by decide)) (q3 47 (by decide))⟩
  rw [Fx_Y_tallyX_L6_s, if_neg (fun z => by have := (iN_le (by omega) (by omega)).mp z; omega), d1, c2_mk, xqb, sp44_X hn m4 hr, d2, c2_mk, xqb, q0]
  unfold Fx_Y_tallyX_J74 Fx_Y_tallyX_J114 nxt
  rw [iN_s, q1.1, q2]
  by_cases c0 : what = 0
  · rw [if_pos c0, if_pos c0, xqb, xqb]
  by_cases c1 : what = 1
  · rw [if_neg c0, if_neg c0, if_pos c1, if_pos c1]
    by_cases w : (stN A n (sr r) B (-1) n).1 = 0
    · rw [if_pos w, if_pos w, xqb]
    · rw [if_neg w, if_neg w, xqb]
  by_cases c2 : what = 2
  · rw [if_neg c0, if_neg c0, if_neg c1, if_neg c1, if_pos c2, if_pos c2, xqb]
  rw [if_neg c0, if_neg c0, if_neg c1, if_neg c1, if_neg c2, if_neg c2, xqb, xqb]
theorem l64_1 {k : Nat} (h : k ≤ 99) : (iN k).toInt64 + 1 = (iN (k + 1)).toInt64 := by
  rw [iN_l (by omega), iN_l (by omega)]
  exact zN_a (a := k) (b := 1)
theorem ty_b {g g' : GG} {n m N : Nat} {A : Nat → Nat → Int32} {sr cr : Nat → Int32} {cn : Nat → Nat} {what : Int32} (hc : ∀ r, r < m → cr r = iN (cn r) ∧ cn r ≤ 100) (hs : sN cn m = 100) (hN : N ≤ 99) (hN1 : 1 ≤ N) (hw : what = 0 ∨ what = 1 ∨ what = 2) : ∀ (f yr : Nat) (u y : MM) (s w5 : Int64) (k : Nat) (X : Int32), N - yr < f → yr ≤ N → HA u 44 n A → RNS u 44 m sr cr → RR y n m A sr cr → y 162 41 = X → k ≤ yr → (what = 0 → s = w5) → (what = 1 → s = (iN k).toInt64) → (what = 2 → 0 < yr → s = (y 162 31).toInt64) → (Fx_Y_tallyX_L6 (iN N) what g f s (iN yr) X u).1 = (Fx_M_yearsX_L81b (iN N) what g' f w5 (iN k) (iN yr) y).1 := by
  intro f
  induction f with
  | zero => intro yr u y s w5 k X h1; omega
  | succ f ih =>
    intro yr u y s w5 k X h1 h2 ha hn rr h41 hk i0 i1 i2
    have n9 := rr.1
    have m4 := rr.2.1
    by_cases q : N ≤ yr
    · have ca : Fx_Y_tallyX_L6 (iN N) what g (f + 1) s (iN yr) X u = (s, u, X) := by
        rw [Fx_Y_tallyX_L6_s, if_pos ((iN_le (by omega) (by omega)).mpr q)]
      have ra : Fx_M_yearsX_L81b (iN N) what g' (f + 1) w5 (iN k) (iN yr) y = if what = 0 then (w5, y) else if what = 1 then ((iN k).toInt64, y) else ((y 162 31).toInt64, y) := by
        rw [Fx_M_yearsX_L81b_s, if_pos ((iN_le (by omega) (by omega)).mpr q), xqb, xqb]
      rw [ca, ra]
      rcases hw with c | c | c
      · rw [if_pos c]; exact i0 c
      · rw [if_neg (show ¬ what = 0 by rw [c]; decide), if_pos c]; exact i1 c
      · rw [if_neg (show ¬ what = 0 by rw [c]; decide), if_neg (show ¬ what = 1 by rw [c]; decide)]; exact i2 c (by omega)
    obtain ⟨r, B, X1, X2, y2, r1, d1, d2, e1, e2, e3, e4⟩ := yr_Y (g := g) (g' := g') ha hn rr hc hs h41
    obtain ⟨u2, ca, ha2, hn2⟩ := ty_C (what := what) (s := s) (f := f) ha hn n9 m4 r1 hN (show yr < N by omega) d1 d2
    have hh := ho_X (g := g') (o := -1) e3.2.2.1 n9
    rw [e2.1, hro_all] at hh
    have ra : Fx_M_yearsX_L81b (iN N) what g' (f + 1) w5 (iN k) (iN yr) y = Fx_M_yearsX_L81b (iN N) what g' f (w5 + (hrm A (stN A n (sr r) B (-1) n).1 n).toInt64) (iN (if (stN A n (sr r) B (-1) n).1 = 0 then k else k + 1)) (iN (yr + 1)) y2 := by
      rw [Fx_M_yearsX_L81b_s, if_neg (fun z => q ((iN_le (by omega) (by omega)).mp z)), xqb, e1, xqb, hh, xqb, xqb, e2.1]
      unfold Fx_M_yearsX_J117b
      rw [iN_s]
      by_cases w : (stN A n (sr r) B (-1) n).1 = 0
      · rw [if_pos w, if_pos w, Int32.add_zero]
      · rw [if_neg w, if_neg w, iN_s]
    rw [ca, ra]
    refine ih (yr + 1) u2 y2 _ _ _ X2 (by omega) (by omega) ha2 hn2 e3 e4 (by split <;> omega) (fun c => ?_) (fun c => ?_) (fun c _ => ?_)
    · unfold nxt
      rw [if_pos c, i0 c]
    · unfold nxt
      rw [if_neg (show ¬ what = 0 by rw [c]; decide), if_pos c, i1 c]
      by_cases w : (stN A n (sr r) B (-1) n).1 = 0
      · rw [if_pos w, if_pos w, Int64.add_zero]
      · rw [if_neg w, if_neg w, l64_1 (by omega)]
    · unfold nxt
      rw [if_neg (show ¬ what = 0 by rw [c]; decide), if_neg (show ¬ what = 1 by rw [c]; decide), if_pos c, e2.1]
theorem bit_01 : ∀ k, k < 512 → ∀ q, q < 9 → (iN k >>> (iN q &&& 31)) &&& 1 = if inB (iN k) q = true then 1 else 0 := by decide +kernel
theorem ty_a {g g' : GG} {n m N p : Nat} {A : Nat → Nat → Int32} {sr cr : Nat → Int32} {cn : Nat → Nat} {what : Int32} (hc : ∀ r, r < m → cr r = iN (cn r) ∧ cn r ≤ 100) (hs : sN cn m = 100) (hN : N ≤ 99) (hw : what - 10 = iN p) (hp : p < 9) (w0 : ¬ what = 0) (w1 : ¬ what = 1) (w2 : ¬ what = 2) : ∀ (f yr : Nat) (u y : MM) (s w5 : Int64) (c : Int32) (k : Nat) (X : Int32), N - yr < f → yr ≤ N → HA u 44 n A → RNS u 44 m sr cr → RR y n m A sr cr → y 162 41 = X → k ≤ yr → s = (iN k).toInt64 → (Fx_Y_tallyX_L6 (iN N) what g f s (iN yr) X u).1 = (Fx_M_yearsX_L81 (iN N) what g' f w5 c (iN k) (iN yr) y).1 := by
  intro f
  induction f with
  | zero => intro yr u y s w5 c k X h1; omega
  | succ f ih =>
    intro yr u y s w5 c k X h1 h2 ha hn rr h41 hk i0
    have n9 := rr.1
    have m4 := rr.2.1
    have pn := p2_le n9
    by_cases q : N ≤ yr
    · rw [Fx_Y_tallyX_L6_s, Fx_M_yearsX_L81_s, if_pos ((iN_le (by omega) (by omega)).mpr q), if_pos ((iN_le (by omega) (by omega)).mpr q), xqb]
      exact i0
    obtain ⟨r, B, X1, X2, y2, r1, d1, d2, e1, e2, e3, e4⟩ := yr_Y (g := g) (g' := g') ha hn rr hc hs h41
    obtain ⟨u2, ca, ha2, hn2⟩ := ty_C (what := what) (s := s) (f := f) ha hn n9 m4 r1 hN (show yr < N by omega) d1 d2
    have hh := ho_X (g := g') (o := -1) e3.2.2.1 n9
    rw [e2.1, hro_all] at hh
    obtain ⟨w, hw2, ew⟩ := (st_sb (A := A) (n := n) (st := sr r) (bk := B) (kp := -1) n n9).1
    have ra : ∃ c', Fx_M_yearsX_L81 (iN N) what g' (f + 1) w5 c (iN k) (iN yr) y = Fx_M_yearsX_L81 (iN N) what g' f (w5 + (hrm A (stN A n (sr r) B (-1) n).1 n).toInt64) c' (iN (if inB (iN w) p = true then k + 1 else k)) (iN (yr + 1)) y2 := by
      rw [Fx_M_yearsX_L81_s, if_neg (fun z => q ((iN_le (by omega) (by omega)).mp z)), xqb, e1, xqb, hh, xqb, xqb]
      have J : ∀ c2 : Int32, Fx_M_yearsX_J117 (Fx_M_yearsX_L81 (iN N) what g' f) what g' c (iN k) (iN yr) y2 (w5 + (hrm A (stN A n (sr r) B (-1) n).1 n).toInt64) c2 = Fx_M_yearsX_L81 (iN N) what g' f (w5 + (hrm A (stN A n (sr r) B (-1) n).1 n).toInt64) (c + c2) (iN (if inB (iN w) p = true then k + 1 else k)) (iN (yr + 1)) y2 := fun c2 => by
        unfold Fx_M_yearsX_J117 Fx_M_yearsX_J147
        rw [hw, xqb, hasI, e2.1, ew, iN_s]
        by_cases t : inB (iN w) p = true
        · rw [if_pos t, if_pos t, iN_s]
        · rw [if_neg t, if_neg t, Int32.add_zero, iN_s]
      rw [J, J]
      by_cases z : y2 162 31 = 0
      · rw [if_pos z]; exact ⟨_, rfl⟩
      · rw [if_neg z]; exact ⟨_, rfl⟩
    obtain ⟨c', ra⟩ := ra
    rw [ca, ra]
    refine ih (yr + 1) u2 y2 _ _ _ _ X2 (by omega) (by omega) ha2 hn2 e3 e4 (by split <;> omega) ?_
    unfold nxt
    rw [if_neg w0, if_neg w1, if_neg w2, hw, ew, bit_01 w (by omega) p hp, i0]
    by_cases t : inB (iN w) p = true
    · rw [if_pos t, if_pos t]
      exact l64_1 (by omega)
    · rw [if_neg t, if_neg t]
      exact Int64.add_zero _
theorem R5_years {u v u1 v2 : MM} {g g' : GG} {hill plan seed n what : Int32} {z w : Int64} (h : RLY u v) (b5 : Bd 0 2 (u 1 5)) (b7 : Bd 0 3 (u 1 7)) (hd : HD v) (pl : PL v) (e1 : (z, u1) = Fx_P_yearsX hill plan seed n what u g) (e2 : (w, v2) = Fx_M_yearsX hill plan seed n what v g') : z = w := by
  obtain ⟨b, x, y, p1, p2, p3⟩ := lay_Y (g := g) (g' := g') (hill := hill) (plan := plan) h b5 b7 hd pl
  unfold Fx_P_yearsX at e1
  unfold Fx_M_yearsX at e2
  rw [p1, c2_mk] at e1
  rw [xqb, p2, c2_mk] at e2
  cases b
  · rw [if_neg Bool.false_ne_true] at e1 e2
    exact (congrArg Prod.fst e1).trans (congrArg Prod.fst e2).symm
  obtain ⟨nn, m, L⟩ := p3 rfl
  have n9 := L.1
  have ha := L.2.2.2.1
  have hn := rns_L L
  have rr := rr_L L
  obtain ⟨hc, hs⟩ := cN_s L
  rw [if_pos rfl] at e1
  rw [if_pos rfl, xqb, in_X] at e2
  have l0 : (0 : Int32).toInt = 0 := rfl
  have l1 : (1 : Int32).toInt = 1 := rfl
  have l2 : (2 : Int32).toInt = 2 := rfl
  have l10 : (10 : Int32).toInt = 10 := rfl
  have l99 : (99 : Int32).toInt = 99 := rfl
  by_cases hN : 1 ≤ n.toInt ∧ n.toInt ≤ 99
  rotate_left
  · rw [(Bool.not_eq_true _).mp (inF (v := n) (lo := 1) (hi := 99) (by omega)), if_neg Bool.false_ne_true] at e2
    by_cases c : n.toInt < 1
    · rw [if_pos (ltI (by omega))] at e1
      exact (congrArg Prod.fst e1).trans (congrArg Prod.fst e2).symm
    · rw [if_neg (nltI (by omega)), if_neg (nleI (by omega))] at e1
      exact (congrArg Prod.fst e1).trans (congrArg Prod.fst e2).symm
  obtain ⟨N, eN, hN99⟩ := iN_ex (hi := 99) (show Bd 0 99 n from ⟨by omega, by omega⟩)
  have hN1 : 1 ≤ N := by
    have := hN.1
    rw [eN, iN_ti (by omega)] at this
    omega
  rw [if_neg (nltI (by omega)), if_pos (leI (by omega)), eN] at e1
  rw [inT (by omega) (by omega), if_pos rfl, xqb, in_X, eN] at e2
  have e100 : (99 - (0 : Int32).toInt).toNat + 1 = 100 := by decide
  have ei : ∀ (s x0 : Int32), Fx_Y_initX s x0 x g = s := fun s x0 => by
    unfold Fx_Y_initX
    rw [xqb]
  have ht : ∀ y16 : Int32, Fx_Y_tallyX (iN N) what y16 x g = Fx_Y_tallyX_L6 (iN N) what g 100 0 0 y16 x := fun y16 => by
    unfold Fx_Y_tallyX
    rw [e100]
  have e22 : ((9 : Int32) + y 162 22) = iN (9 + nn) := by
    rw [L.2.2.2.2.1.1]
    exact iN_a (n := 9)
  rw [e22] at e2
  by_cases lo : what = 0 ∨ what = 1 ∨ what = 2
  · have k := ty_b (g := g) (g' := g') (what := what) hc hs hN99 hN1 lo 100 0 x (ms y 162 41 seed) 0 0 0 seed (by omega) (by omega) ha hn (rr_41 rr) ms_e1 (by omega) (fun _ => rfl) (fun _ => rfl) (fun _ c => by omega)
    have f1 : ¬ (decide ((10 : Int32) ≤ what) && decide (what ≤ iN (9 + nn))) = true := by
      rcases lo with c | c | c <;> rw [c, decide_eq_false (by decide), Bool.false_and] <;> exact Bool.false_ne_true
    have f2 : (decide ((0 : Int32) ≤ what) && decide (what ≤ (2 : Int32))) = true := by
      rcases lo with c | c | c <;> rw [c] <;> decide
    rw [if_neg f1, xqb, in_X, if_pos f2, xqb, e100] at e2
    have z1 : z = (Fx_Y_tallyX_L6 (iN N) what g 100 0 0 seed x).1 := by
      obtain ⟨R, hR⟩ : ∃ R, R = Fx_Y_tallyX_L6 (iN N) what g 100 0 0 seed x := ⟨_, rfl⟩
      rw [← hR]
      have k3 : ∀ y16, y16 = seed → Fx_Y_tallyX (iN N) what y16 x g = R := fun y16 e => by rw [e, ht, hR]
      have k4 : xq_c3 R (fun (a : Int64) (b : MM) (_ : Int32) => (a, b)) = (R.1, R.2.1) := rfl
      by_cases c0 : what = 0
      · rw [if_pos c0, xqb, ei, k3 _ rfl, k4] at e1
        exact congrArg Prod.fst e1
      by_cases c1 : what = 1
      · rw [if_neg c0, if_pos c1, xqb, ei, k3 _ rfl, k4] at e1
        exact congrArg Prod.fst e1
      have c2 : what = 2 := (lo.resolve_left c0).resolve_left c1
      rw [if_neg c0, if_neg c1, if_pos c2, xqb, ei, k3 _ rfl, k4] at e1
      exact congrArg Prod.fst e1
    exact z1.trans (k.trans (congrArg Prod.fst e2).symm)
  have c0 : ¬ what = 0 := fun c => lo (Or.inl c)
  have c1 : ¬ what = 1 := fun c => lo (Or.inr (Or.inl c))
  have c2 : ¬ what = 2 := fun c => lo (Or.inr (Or.inr c))
  rw [if_neg c0, if_neg c1, if_neg c2] at e1
  by_cases c10 : what.toInt < 10
  · have f1 : ¬ (decide ((10 : Int32) ≤ what) && decide (what ≤ iN (9 + nn))) = true := by
      rw [decide_eq_false (nleI (by omega)), Bool.false_and]
      exact Bool.false_ne_true
    have f2 : ¬ (decide ((0 : Int32) ≤ what) && decide (what ≤ (2 : Int32))) = true := fun q => by
      obtain ⟨q1, q2⟩ := (Bool.and_eq_true _ _).mp q
      have q3 := Int32.le_iff_toInt_le.mp (of_decide_eq_true q1)
      have q4 := Int32.le_iff_toInt_le.mp (of_decide_eq_true q2)
      have d0 : ¬ what.toInt = 0 := fun q => c0 (Int32.toInt_inj.mp q)
      have d1 : ¬ what.toInt = 1 := fun q => c1 (Int32.toInt_inj.mp q)
      have d2 : ¬ what.toInt = 2 := fun q => c2 (Int32.toInt_inj.mp q)
      omega
    rw [if_pos (ltI (by omega))] at e1
    rw [if_neg f1, xqb, in_X, if_neg f2] at e2
    exact (congrArg Prod.fst e1).trans (congrArg Prod.fst e2).symm
  rw [if_neg (nltI (by omega))] at e1
  obtain ⟨t, t1, t2, t3⟩ := q_pond (g := g) (g' := g') (p := what - 10) L
  rw [xqb, t1] at e1
  have l9n : (iN (9 + nn)).toInt = 9 + nn := iN_ti (by omega)
  by_cases hi : what.toInt ≤ 9 + nn
  · obtain ⟨W, hW, hWb⟩ := iN_ex (hi := 100) (show Bd 0 100 what from ⟨by omega, by omega⟩)
    have hW10 : 10 ≤ W ∧ W ≤ 9 + nn := by
      rw [hW, iN_ti (by omega)] at c10 hi
      omega
    have ew : what - 10 = iN (W - 10) := by
      rw [hW]
      exact iN_sub (a := W) (b := 10) hW10.1
    have tt : t = true := by
      rw [← t1, ew, hs_ps ha.1 n9 (by rw [iN_ti (by omega)]; omega)]
      exact decide_eq_true (by rw [iN_ti (by omega)]; omega)
    have k := ty_a (g := g) (g' := g') (what := what) hc hs hN99 ew (show W - 10 < 9 by omega) c0 c1 c2 100 0 x (ms y 162 41 seed) 0 0 0 0 seed (by omega) (by omega) ha hn (rr_41 rr) ms_e1 (by omega) rfl
    have f1 : (decide ((10 : Int32) ≤ what) && decide (what ≤ iN (9 + nn))) = true := inT (by omega) (by omega)
    rw [if_pos f1, xqb, e100] at e2
    rw [tt, if_pos rfl, xqb, ei, ht] at e1
    have z1 : z = (Fx_Y_tallyX_L6 (iN N) what g 100 0 0 seed x).1 := by
      obtain ⟨R, hR⟩ : ∃ R, R = Fx_Y_tallyX_L6 (iN N) what g 100 0 0 seed x := ⟨_, rfl⟩
      rw [← hR] at e1 ⊢
      have k4 : xq_c3 R (fun (a : Int64) (b : MM) (_ : Int32) => (a, b)) = (R.1, R.2.1) := rfl
      rw [k4] at e1
      exact congrArg Prod.fst e1
    exact z1.trans (k.trans (congrArg Prod.fst e2).symm)
  · have f1 : ¬ (decide ((10 : Int32) ≤ what) && decide (what ≤ iN (9 + nn))) = true := by
      rw [decide_eq_false (nleI (a := what) (b := iN (9 + nn)) (by omega)), Bool.and_false]
      exact Bool.false_ne_true
    have f2 : ¬ (decide ((0 : Int32) ≤ what) && decide (what ≤ (2 : Int32))) = true := by
      rw [decide_eq_false (nleI (a := what) (b := 2) (by omega)), Bool.and_false]
      exact Bool.false_ne_true
    rw [if_neg f1, xqb, in_X, if_neg f2] at e2
    cases t
    · rw [if_neg Bool.false_ne_true] at e1
      exact (congrArg Prod.fst e1).trans (congrArg Prod.fst e2).symm
    · obtain ⟨q, q1, q2⟩ := t3 rfl
      have ew : what = iN (q + 10) := by
        have : what - 10 + 10 = iN q + iN 10 := congrArg (· + (10 : Int32)) q2
        rw [Int32.sub_add_cancel, iN_a] at this
        exact this
      rw [ew, iN_ti (by omega)] at hi
      omega
end
section
/-! means as numbers; rains that are all dry are as one of them -/
noncomputable def hN (A : Nat → Nat → Int32) (n : Nat) (st : Int32) (b : Nat) : Nat := (hro A (-1) (stN A n st (iN b) (-1) n).1 n).toNatClampNeg
/-! ponds filled -/
end
