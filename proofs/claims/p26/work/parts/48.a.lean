section
/-! what has been laid -/
/-- the row of the reference, by ponds and columns -/
def rwA (y : MM) (p c : Nat) : Int32 := y 172 (13 + 16 * p + c)
/-- what has been laid on both sides: n ponds, m rains -/
def LDF (x y : MM) (n m : Nat) : Prop := n ≤ 9 ∧ 1 ≤ m ∧ m ≤ 4 ∧ HA x 44 n (rwA y) ∧ RMA y n (rwA y) ∧ AWF n (rwA y) ∧ x 44 2 = iN m ∧ y 172 1 = iN m ∧ (∀ i, i < m → x 46 i = y 172 (5 + 2 * i) ∧ x 47 i = y 172 (6 + 2 * i) ∧ RW (y 172) i) ∧ (∀ i, i < 3 → x 48 i = y 172 (2 + i) ∧ Bd 0 99 (y 172 (2 + i))) ∧ sm (y 172) = 100 ∧ y 162 26 = -1 ∧ y 162 27 = 0 ∧ SIT x y ∧ HWF (y 172)
theorem ld_of {x y : MM} (s : SIT x y) (h : HWF (y 172)) : ∃ n m, LDF x y n m := by
  obtain ⟨⟨n, m, n9, m4, e0, e1, hr, hd, hp⟩, h2, h3⟩ := h
  obtain ⟨⟨g0, g1, g2, g3, g4⟩, s1, s2, s3, s4, s5, s6⟩ := s
  have m1 : 1 ≤ m := by
    have := h2.1
    rw [e1, iN_ti (by omega)] at this
    omega
  refine ⟨n, m, n9, m1, m4, ⟨g0.trans e0, fun p c hp' hc => ?_⟩, ⟨s1.trans e0, fun _ _ _ _ => rfl⟩, fun p hp' => hp p hp', g1.trans e1, e1, fun i hi => ?_, fun i hi => ⟨g2 i hi, hd i hi⟩, h3, s5, s6, ⟨⟨g0, g1, g2, g3, g4⟩, s1, s2, s3, s4, s5, s6⟩, ⟨n, m, n9, m4, e0, e1, hr, hd, hp⟩, h2, h3⟩
  · exact g4 p c (by omega) hc (by rw [e0, iN_ti (by omega)]; omega)
  · obtain ⟨a, b⟩ := g3 i (by omega) (by rw [e1, iN_ti (by omega)]; omega)
    exact ⟨a, b, hr i hi⟩
/-- lay, as every question begins -/
theorem lay_Y {u v : MM} {g g' : GG} {hill plan : Int32} (h : RLY u v) (b5 : Bd 0 2 (u 1 5)) (b7 : Bd 0 3 (u 1 7)) (hd : HD v) (pl : PL v) : ∃ b x y, Fx_P_laysX hill plan u g = (b, x) ∧ Fx_M_layX hill plan (ms v 162 0 0) g' = (b, y) ∧ (b = true → ∃ n m, LDF x y n m) := by
  have h' : RLX u (ms v 162 0 0) := rlx_v (fun c hc => ms_c1 (by omega)) h.1
  obtain ⟨k1, k2⟩ := lay_X (g := g) (g' := g') (hill := hill) (plan := plan) h' b5 b7 (hd_c (ms_c1 (by decide)) hd) (pl_c (ms_c1 (by decide)) pl) (wfa_c (ms_c1 (by decide)) (ms_c1 (by decide)) h.2.1) h.2.2
  refine ⟨(Fx_P_laysX hill plan u g).1, (Fx_P_laysX hill plan u g).2, (Fx_M_layX hill plan (ms v 162 0 0) g').2, rfl, by rw [k1], fun q => ?_⟩
  obtain ⟨s, f⟩ := k2 q
  exact ld_of s f
/-! what is there: ponds, rains, sets; pond -/
end
section
/-! longs; fractions; think, now -/
def zN (n : Nat) : Int64 := Int64.ofNat n
theorem zN_ti {n : Nat} (h : n < 2 ^ 62) : (zN n).toInt = n := Int64.toInt_ofNat_of_lt (by omega)
theorem zN_m {a b : Nat} : zN a * zN b = zN (a * b) := (Int64.ofNat_mul a b).symm
theorem zN_le {a b : Nat} (ha : a < 2 ^ 62) (hb : b < 2 ^ 62) : zN a ≤ zN b ↔ a ≤ b := Int64.ofNat_le_iff_le (by omega) (by omega)
theorem iN_l {n : Nat} (h : n ≤ 100000) : (iN n).toInt64 = zN n := by
  refine Int64.toInt_inj.mp ?_
  rw [Int32.toInt_toInt64, iN_ti h, zN_ti (by omega)]
/-- signs of a pond, as numbers -/
theorem sn_X {x y : MM} {g g' : GG} {n m q : Nat} (L : LDF x y n m) (hq : q < n) : ∃ s r h, Fx_H_seenAndGoesX (iN q) 44 x g = iN s ∧ Fx_H_seenX (iN q) 44 x g = iN (s + r) ∧ Fx_M_seenByX (iN q) y g' = iN s ∧ Fx_M_seenAllX (iN q) y g' = iN (s + r) ∧ rwA y q 5 = iN h ∧ s ≤ 100 ∧ r ≤ 100 ∧ h ≤ 999 := by
  obtain ⟨n9, m1, m4, ha, ma, aw, -⟩ := L
  obtain ⟨a1, -, -⟩ := aw q hq
  obtain ⟨c, hc, c10⟩ := iN_ex (hi := 10) (show Bd 0 10 (rwA y q 4) from a1 4 (by decide))
  obtain ⟨t, ht, t10⟩ := iN_ex (hi := 10) (show Bd 0 10 (rwA y q 13) from a1 13 (by decide))
  obtain ⟨f, hf, f10⟩ := iN_ex (hi := 10) (show Bd 0 10 (rwA y q 14) from a1 14 (by decide))
  obtain ⟨h, hh, h999⟩ := iN_ex (hi := 999) (show Bd 0 999 (rwA y q 5) from a1 5 (by decide))
  have x4 : hof x 44 (iN q) (4 : Int32) = iN c := (ha_r (c := 4) ha n9 hq (by decide)).trans hc
  have x13 : hof x 44 (iN q) (13 : Int32) = iN t := (ha_r (c := 13) ha n9 hq (by decide)).trans ht
  have x14 : hof x 44 (iN q) (14 : Int32) = iN f := (ha_r (c := 14) ha n9 hq (by decide)).trans hf
  have y4 : mof y (iN q) (4 : Int32) = iN c := (ma_r (c := 4) ma n9 hq (by decide)).trans hc
  have y13 : mof y (iN q) (13 : Int32) = iN t := (ma_r (c := 13) ma n9 hq (by decide)).trans ht
  have y14 : mof y (iN q) (14 : Int32) = iN f := (ma_r (c := 14) ma n9 hq (by decide)).trans hf
  have s10 : (10 : Int32) - iN c = iN (10 - c) := iN_sub (a := 10) c10
  have b1 : c * t ≤ 10 * 10 := Nat.mul_le_mul c10 t10
  have b2 : (10 - c) * f ≤ 10 * 10 := Nat.mul_le_mul (by omega) f10
  refine ⟨c * t, (10 - c) * f, h, ?_, ?_, ?_, ?_, hh, by omega, by omega, h999⟩
  · unfold Fx_H_seenAndGoesX
    rw [x4, x13, iN_m]
  · unfold Fx_H_seenX Fx_H_seenAndGoesX
    rw [xqb, x4, x13, x14, iN_m, s10, iN_m, iN_a]
  · unfold Fx_M_seenByX
    rw [y4, y13, iN_m]
  · unfold Fx_M_seenAllX Fx_M_seenByX
    rw [xqb, y4, y13, y14, iN_m, s10, iN_m, iN_a]
theorem iN_lg {a b : Nat} (ha : a ≤ 100000000) (hb : b ≤ 100000000) : iN a ≤ iN b ↔ a ≤ b := Int32.ofNat_le_iff_le (by omega) (by omega)
theorem no_L {x y : MM} {g g' : GG} {n m : Nat} (L : LDF x y n m) : ∀ (f k o d : Nat) (best : Int32), n - k < f → k ≤ n → o ≤ 99900 → d ≤ 200 → Fx_C_mostUrgentX_L10 x g f best (iN o) (iN d) (iN k) = (Fx_M_nowX_L27 g' y f best (zN o) (zN d) (iN k)).1 := by
  intro f
  induction f with
  | zero => intro k o d best h; omega
  | succ f ih =>
    intro k o d best h1 h2 ho hd
    have n9 := L.1
    rw [Fx_C_mostUrgentX_L10_s, Fx_M_nowX_L27_s, L.2.2.2.1.1, L.2.2.2.2.1.1]
    by_cases q : n ≤ k
    · rw [if_pos ((iN_le (by omega) (by omega)).mpr q), if_pos ((iN_le (by omega) (by omega)).mpr q)]
    obtain ⟨s, r, hm, k1, k2, k3, k4, k5, s100, r100, h999⟩ := sn_X (g := g) (g' := g') (q := k) L (by omega)
    have x5 : hof x 44 (iN k) (5 : Int32) = iN hm := (ha_r (c := 5) L.2.2.2.1 n9 (by omega) (by decide)).trans k5
    have y5 : mof y (iN k) (5 : Int32) = iN hm := (ma_r (c := 5) L.2.2.2.2.1 n9 (by omega) (by decide)).trans k5
    have b1 : s * hm ≤ 100 * 999 := Nat.mul_le_mul s100 h999
    have b2 : s * hm * d ≤ 99900 * 200 := Nat.mul_le_mul (by omega) hd
    have b3 : o * (s + r) ≤ 99900 * 200 := Nat.mul_le_mul ho (by omega)
    rw [if_neg (fun z => q ((iN_le (by omega) (by omega)).mp z)), if_neg (fun z => q ((iN_le (by omega) (by omega)).mp z)), xqb, k1, xqb, k2, xqb, k3, xqb, x5, y5, iN_l (by omega), xqb, iN_l (by omega), xqb, iN_m, zN_m]
    unfold Fx_C_mostUrgentX_J70 Fx_M_nowX_J96
    rw [iN_s]
    have e0 : (0 : Int64) = zN 0 := rfl
    by_cases p0 : s * hm = 0
    · rw [if_pos (show iN (s * hm) ≤ 0 by rw [p0]; exact Int32.le_refl _), if_pos ((lg_cmp_le _ _).mpr (by rw [p0, e0]; exact (zN_le (by omega) (by omega)).mpr (Nat.le_refl _)))]
      exact ih (k + 1) o d best (by omega) (by omega) ho hd
    · rw [if_neg (fun z => p0 (by have := (iN_le (b := 0) (by omega) (by omega)).mp z; omega)), if_neg (show ¬ lg_cmp (zN (s * hm)) (0 : Int64) ≤ 0 from fun z => p0 (by
        have z1 := (lg_cmp_le _ _).mp z
        rw [e0] at z1
        have := (zN_le (a := s * hm) (b := 0) (by omega) (by omega)).mp z1
        omega)), iN_m, iN_m, xqb, zN_m, xqb, k4, xqb, iN_l (by omega), xqb, zN_m, xqb, xqb]
      by_cases p1 : s * hm * d ≤ o * (s + r)
      · rw [if_pos ((iN_lg (by omega) (by omega)).mpr p1), if_pos ((lg_cmp_le _ _).mpr ((zN_le (by omega) (by omega)).mpr p1))]
        exact ih (k + 1) o d best (by omega) (by omega) ho hd
      · rw [if_neg (fun z => p1 ((iN_lg (by omega) (by omega)).mp z)), if_neg (fun z => p1 ((zN_le (by omega) (by omega)).mp ((lg_cmp_le _ _).mp z)))]
        rw [iN_l (n := s + r) (by omega)]
        exact ih (k + 1) (s * hm) (s + r) (iN k) (by omega) (by omega) (by omega) (by omega)
theorem R5_now {u v u1 v2 : MM} {g g' : GG} {hill plan z w : Int32} (h : RLY u v) (b5 : Bd 0 2 (u 1 5)) (b7 : Bd 0 3 (u 1 7)) (hd : HD v) (pl : PL v) (e1 : (z, u1) = Fx_P_nowX hill plan u g) (e2 : (w, v2) = Fx_M_nowX hill plan v g') : z = w := by
  obtain ⟨b, x, y, p1, p2, p3⟩ := lay_Y (g := g) (g' := g') (hill := hill) (plan := plan) h b5 b7 hd pl
  unfold Fx_P_nowX at e1
  unfold Fx_M_nowX at e2
  rw [p1, c2_mk] at e1
  rw [xqb, p2, c2_mk] at e2
  cases b
  · rw [if_neg (by decide)] at e1 e2
    exact (congrArg Prod.fst e1).trans (congrArg Prod.fst e2).symm
  obtain ⟨n, m, L⟩ := p3 rfl
  have e10 : (9 - (0 : Int32).toInt).toNat + 1 = 10 := by decide
  have n9 := L.1
  rw [if_pos rfl, xqb] at e1
  unfold Fx_C_mostUrgentX at e1
  rw [if_pos rfl, e10] at e2
  rw [e10] at e1
  exact (congrArg Prod.fst e1).trans ((no_L (g := g) (g' := g') L 10 0 0 1 (-1) (by omega) (by omega) (by omega) (by omega)).trans (congrArg Prod.fst e2).symm)
end
