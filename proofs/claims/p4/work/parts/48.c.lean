/-! longs; fractions; think, now -/
def zN (n : Nat) : Int64 := Int64.ofNat n
theorem zN_ti {n : Nat} (h : n < 2 ^ 62) : (zN n).toInt = n := Int64.toInt_ofNat_of_lt (by omega)
theorem zN_m {a b : Nat} : zN a * zN b = zN (a * b) := (Int64.ofNat_mul a b).symm
theorem zN_a {a b : Nat} : zN a + zN b = zN (a + b) := (Int64.ofNat_add a b).symm
theorem zN_s {a b : Nat} (h : b ≤ a) : zN a - zN b = zN (a - b) := (Int64.ofNat_sub a b h).symm
theorem zN_d {a b : Nat} (ha : a < 2 ^ 62) (hb : b < 2 ^ 62) : zN a / zN b = zN (a / b) := (Int64.ofNat_div (by omega) (by omega)).symm
theorem zN_lt {a b : Nat} (ha : a < 2 ^ 62) (hb : b < 2 ^ 62) : zN a < zN b ↔ a < b := Int64.ofNat_lt_iff_lt (by omega) (by omega)
theorem zN_le {a b : Nat} (ha : a < 2 ^ 62) (hb : b < 2 ^ 62) : zN a ≤ zN b ↔ a ≤ b := Int64.ofNat_le_iff_le (by omega) (by omega)
theorem zN_eq {a b : Nat} (ha : a < 2 ^ 62) (hb : b < 2 ^ 62) : zN a = zN b ↔ a = b :=
  ⟨fun h => by have h1 := congrArg Int64.toInt h; rw [zN_ti ha, zN_ti hb] at h1; omega, fun h => h ▸ rfl⟩
theorem iN_l {n : Nat} (h : n ≤ 100000) : (iN n).toInt64 = zN n := by
  refine Int64.toInt_inj.mp ?_
  rw [Int32.toInt_toInt64, iN_ti h, zN_ti (by omega)]
theorem zN_i {n : Nat} : (zN n).toInt32 = iN n := Int64.toInt32_ofNat'
/-- the rest -/
theorem zN_r {a b : Nat} (ha : a < 2 ^ 62) (hb : b < 2 ^ 62) : zN a - zN a / zN b * zN b = zN (a % b) := by
  have h : a / b * b ≤ a := Nat.div_mul_le_self a b
  rw [zN_d ha hb, zN_m, zN_s h]
  congr 1
  have := Nat.div_add_mod a b
  rw [Nat.mul_comm] at this
  omega
/-- two rounds halve the lesser -/
theorem mod2 {b r : Nat} (h0 : 0 < r) (h : r < b) : b % r < (b + 1) / 2 := by
  by_cases q : r ≤ b / 2
  · have := Nat.mod_lt b h0
    omega
  · have e : b % r = b - r := by
      rw [Nat.mod_eq_sub_mod (by omega), Nat.mod_eq_of_lt (by omega)]
    omega
theorem mx1 {a : Nat} {u : MM} {g : GG} (h : a < 2 ^ 62) : Fx_maxJ1X (zN a) u g = zN (max a 1) := by
  unfold Fx_maxJ1X
  have e1 : (1 : Int64) = zN 1 := rfl
  by_cases q : a < 1
  · rw [if_pos ((lg_cmp_lt _ _).mpr (by rw [e1]; exact (zN_lt h (by omega)).mpr q)), Nat.max_eq_right (by omega)]
    rfl
  · rw [if_neg (fun z => q ((zN_lt h (by omega)).mp (by rw [← e1]; exact (lg_cmp_lt _ _).mp z))), Nat.max_eq_left (by omega)]
theorem cd_L {u : MM} {g : GG} : ∀ (k f a b r : Nat), b < 2 ^ k → k ≤ 40 → a < 2 ^ 62 → r + 2 * k < 100 → 2 * k + 1 < f → Fx_P_commonDivisorX_L9 u g f (zN a) (zN b) (iN r) = zN (max (Nat.gcd a b) 1) := by
  have J : ∀ a : Nat, a < 2 ^ 62 → Fx_P_commonDivisorX_J44 u g (zN a) = zN (max a 1) := by
    intro a ha
    unfold Fx_P_commonDivisorX_J44
    rw [xqb, mx1 ha]
  have e0 : (0 : Int64) = zN 0 := rfl
  have stop : ∀ f a r, a < 2 ^ 62 → r < 100 → 0 < f → Fx_P_commonDivisorX_L9 u g f (zN a) (zN 0) (iN r) = zN (max (Nat.gcd a 0) 1) := by
    intro f a r ha hr hf
    obtain ⟨f, rfl⟩ : ∃ k, f = k + 1 := ⟨f - 1, by omega⟩
    rw [Fx_P_commonDivisorX_L9_s, if_neg (show ¬ (100 : Int32) ≤ iN r from fun z => by have := (iN_le (a := 100) (by omega) (by omega)).mp z; omega), if_pos ((lg_cmp_eq _ _).mpr e0.symm), J a ha, Nat.gcd_zero_right]
  have step : ∀ f a b r, a < 2 ^ 62 → b < 2 ^ 62 → 0 < b → r < 100 → Fx_P_commonDivisorX_L9 u g (f + 1) (zN a) (zN b) (iN r) = Fx_P_commonDivisorX_L9 u g f (zN b) (zN (a % b)) (iN (r + 1)) := by
    intro f a b r ha hb h0 hr
    rw [Fx_P_commonDivisorX_L9_s, if_neg (show ¬ (100 : Int32) ≤ iN r from fun z => by have := (iN_le (a := 100) (by omega) (by omega)).mp z; omega), if_neg (fun z => by
      have z1 := (lg_cmp_eq _ _).mp z
      rw [e0] at z1
      have := (zN_eq hb (by omega)).mp z1
      omega), xqb, zN_r ha hb, iN_s]
  intro k
  induction k with
  | zero =>
    intro f a b r hb _ ha hr hf
    have e : b = 0 := by rw [Nat.pow_zero] at hb; omega
    subst e
    exact stop f a r ha (by omega) (by omega)
  | succ k ih =>
    intro f a b r hb hk ha hr hf
    have hp : 2 ^ (k + 1) ≤ 2 ^ 40 := Nat.pow_le_pow_right (by decide) (by omega)
    have hb2 : b < 2 ^ 62 := by omega
    by_cases b0 : b = 0
    · subst b0
      exact stop f a r ha (by omega) (by omega)
    obtain ⟨f, rfl⟩ : ∃ k, f = k + 1 := ⟨f - 1, by omega⟩
    rw [step f a b r ha hb2 (by omega) (by omega)]
    have g1 : Nat.gcd a b = Nat.gcd b (a % b) := by rw [Nat.gcd_comm a b, Nat.gcd_rec b a, Nat.gcd_comm]
    have m1 : a % b < b := Nat.mod_lt a (by omega)
    rw [g1]
    by_cases c0 : a % b = 0
    · rw [c0]
      exact stop f b (r + 1) hb2 (by omega) (by omega)
    obtain ⟨f, rfl⟩ : ∃ k, f = k + 1 := ⟨f - 1, by omega⟩
    rw [step f b (a % b) (r + 1) hb2 (by omega) (by omega) (by omega)]
    have g2 : Nat.gcd b (a % b) = Nat.gcd (a % b) (b % (a % b)) := by rw [Nat.gcd_comm b, Nat.gcd_rec (a % b) b, Nat.gcd_comm]
    rw [g2]
    have m2 := mod2 (b := b) (r := a % b) (by omega) m1
    have hs : 2 ^ (k + 1) = 2 ^ k * 2 := Nat.pow_succ ..
    exact ih f (a % b) (b % (a % b)) (r + 2) (by omega) (by omega) (by omega) (by omega) (by omega)
theorem cd_X {u : MM} {g : GG} {a b : Nat} (ha : a < 2 ^ 40) (hb : b < 2 ^ 40) : Fx_P_commonDivisorX (zN a) (zN b) u g = zN (max (Nat.gcd a b) 1) := by
  unfold Fx_P_commonDivisorX
  have e : (100 - (0 : Int32).toInt).toNat + 1 = 101 := by decide
  rw [e]
  exact cd_L 40 101 a b 0 hb (by omega) (by omega) (by omega) (by omega)
theorem lt_X {u : MM} {g : GG} {a b : Nat} {under : Int32} (ha : a < 2 ^ 40) (hb : b < 2 ^ 40) (h0 : 0 < b) : Fx_P_inLeastTermsX (zN a) (zN b) under u g = zN ((if under = 0 then a else b) / Nat.gcd a b) := by
  unfold Fx_P_inLeastTermsX
  have e0 : (0 : Int64) = zN 0 := rfl
  have gp : 0 < Nat.gcd a b := Nat.gcd_pos_of_pos_right a h0
  have gl : Nat.gcd a b ≤ b := Nat.le_of_dvd h0 (Nat.gcd_dvd_right a b)
  rw [if_neg (fun z => by
    have z1 := (lg_cmp_eq _ _).mp z
    rw [e0] at z1
    have := (zN_eq (by omega) (by omega)).mp z1
    omega), xqb, cd_X ha hb, Nat.max_eq_left gp]
  unfold Fx_P_inLeastTermsX_J34
  rw [xqb, xqb, zN_d (by omega) (by omega), zN_d (by omega) (by omega)]
  by_cases y : under = 0
  · rw [if_pos y, if_pos y]
  · rw [if_neg y, if_neg y]
/-- the reference's divisor -/
theorem co_L : ∀ (f a b : Nat), a < f → a ≤ 100000 → b ≤ 100000 → Fx_M_commonX_L4 f (iN a) (iN b) = iN (Nat.gcd a b) := by
  intro f
  induction f with
  | zero => intro a b h; omega
  | succ f ih =>
    intro a b h ha hb
    rw [Fx_M_commonX_L4_s]
    by_cases q : a = 0
    · rw [if_pos (show iN a = 0 by rw [q]; rfl), q, Nat.gcd_zero_left]
    · have hm := Nat.mod_lt b (show a > 0 by omega)
      have hd : b / a * a ≤ b := Nat.div_mul_le_self b a
      have d : iN b / iN a = iN (b / a) := (Int32.ofNat_div (by omega) (by omega)).symm
      have e : iN b - iN b / iN a * iN a = iN (b % a) := by
        rw [d, iN_m, iN_sub hd]
        congr 1
        have := Nat.div_add_mod b a
        rw [Nat.mul_comm] at this
        omega
      rw [if_neg (show ¬ iN a = (0 : Int32) from fun z => q ((iN_eq (b := 0) ha (by omega)).mp z)), e, ih (b % a) a (by omega) (by omega) ha, ← Nat.gcd_rec a b]
theorem co_X {u : MM} {g : GG} {a b : Nat} (ha : a ≤ 100000) (hb : b ≤ 100000) : Fx_M_commonX (iN a) (iN b) u g = iN (Nat.gcd a b) := by
  unfold Fx_M_commonX
  rw [iN_ti ha]
  exact co_L _ a b (by omega) ha hb
/-- signs of a pond, as numbers -/
theorem sn_X {x y : MM} {g g' : GG} {n m q : Nat} (L : LDF x y n m) (hq : q < n) : ∃ s r h, Fx_H_seenAndGoesX (iN q) 44 x g = iN s ∧ Fx_H_seenX (iN q) 44 x g = iN (s + r) ∧ Fx_M_seenByX (iN q) y g' = iN s ∧ Fx_M_seenAllX (iN q) y g' = iN (s + r) ∧ rwA y q 5 = iN h ∧ s ≤ 100 ∧ r ≤ 100 ∧ h ≤ 999 := by
  obtain ⟨n9, m1, m4, ha, ma, aw, -⟩ := L
  obtain ⟨a1, -, -⟩ := aw q hq
  obtain ⟨c, hc, c10⟩ := iN_ex (hi := 10) (show Bd 0 10 (rwA y q 4) from a1 4 (by decide))
  obtain ⟨t, ht, t10⟩ := iN_ex (hi := 10) (show Bd 0 10 (rwA y q 13) from a1 13 (by decide))
  obtain ⟨f, hf, f10⟩ := iN_ex (hi := 10) (show Bd 0 10 (rwA y q 14) from a1 14 (by decide))
  obtain ⟨h, hh, h999⟩ := iN_ex (hi := 999) (show Bd 0 999 (rwA y q 5) from a1 5 (by decide))
  have x4 : hof x 44 (iN q) (4 : Int32) = iN c := (ha_r (c := 4) ha n9 hq (by decide)).trans hc
  have x13 : hof x 44 (iN q) (13 : Int32) = iN t := (ha_r (c := 13) ha n9 hq (by decide)).trans ht
  have x14 : hof x 44 (iN q) (14 : Int32) = iN f := (ha_r (c := 14) ha n9 hq (by decide)).trans hf
  have y4 : mof y (iN q) (4 : Int32) = iN c := (ma_r (c := 4) ma n9 hq (by decide)).trans hc
  have y13 : mof y (iN q) (13 : Int32) = iN t := (ma_r (c := 13) ma n9 hq (by decide)).trans ht
  have y14 : mof y (iN q) (14 : Int32) = iN f := (ma_r (c := 14) ma n9 hq (by decide)).trans hf
  have s10 : (10 : Int32) - iN c = iN (10 - c) := iN_sub (a := 10) c10
  have b1 : c * t ≤ 10 * 10 := Nat.mul_le_mul c10 t10
  have b2 : (10 - c) * f ≤ 10 * 10 := Nat.mul_le_mul (by omega) f10
  refine ⟨c * t, (10 - c) * f, h, ?_, ?_, ?_, ?_, hh, by omega, by omega, h999⟩
  · unfold Fx_H_seenAndGoesX
    rw [x4, x13, iN_m]
  · unfold Fx_H_seenX Fx_H_seenAndGoesX
    rw [xqb, x4, x13, x14, iN_m, s10, iN_m, iN_a]
  · unfold Fx_M_seenByX
    rw [y4, y13, iN_m]
  · unfold Fx_M_seenAllX Fx_M_seenByX
    rw [xqb, y4, y13, y14, iN_m, s10, iN_m, iN_a]
theorem R5_think {u v u1 v2 : MM} {g g' : GG} {hill plan pond under z w : Int32} (h : RLY u v) (b5 : Bd 0 2 (u 1 5)) (b7 : Bd 0 3 (u 1 7)) (hd : HD v) (pl : PL v) (e1 : (z, u1) = Fx_P_thinkX hill plan pond under u g) (e2 : (w, v2) = Fx_M_thinkX hill plan pond under v g') : z = w := by
  obtain ⟨b, x, y, p1, p2, p3⟩ := lay_Y (g := g) (g' := g') (hill := hill) (plan := plan) h b5 b7 hd pl
  unfold Fx_P_thinkX at e1
  unfold Fx_M_thinkX at e2
  rw [xqb, p2, c2_mk] at e2
  cases b
  · rw [hpd_F p1, c2_mk, if_neg Bool.false_ne_true] at e1
    rw [if_neg Bool.false_ne_true] at e2
    exact (congrArg Prod.fst e1).trans (congrArg Prod.fst e2).symm
  obtain ⟨n, m, L⟩ := p3 rfl
  obtain ⟨t, t1, t2, t3⟩ := q_pond (g := g) (g' := g') (p := pond) L
  rw [hpd_T p1 t1, c2_mk] at e1
  rw [if_pos rfl, xqb, t2] at e2
  cases t
  · rw [if_neg Bool.false_ne_true] at e1 e2
    exact (congrArg Prod.fst e1).trans (congrArg Prod.fst e2).symm
  obtain ⟨q, q1, q2⟩ := t3 rfl
  obtain ⟨s, r, hm, k1, k2, k3, k4, k5, s100, r100, h999⟩ := sn_X (g := g) (g' := g') L q1
  rw [if_pos rfl, q2, xqb, k1, xqb, k2, xqb, xqb, xqb, xqb, iN_l (by omega), iN_l (by omega)] at e1
  rw [if_pos rfl, q2, xqb, k3] at e2
  have z1 := congrArg Prod.fst e1
  dsimp only at z1
  rw [z1]
  clear z1 e1
  by_cases s0 : s = 0
  · subst s0
    rw [if_pos (show iN 0 = 0 from rfl)] at e2
    unfold Fx_M_thinkX_J59b at e2
    have c1 : Fx_M_commonX (iN 0) (1 : Int32) y g' = 1 := co_X (a := 0) (b := 1) (by omega) (by omega)
    rw [xqb, xqb, c1] at e2
    by_cases y0 : under = 0
    · rw [if_pos y0] at e2
      have w1 : w = iN 0 / 1 := congrArg Prod.fst e2
      rw [w1]
      by_cases rz : r = 0
      · subst rz
        unfold Fx_P_inLeastTermsX
        rw [if_pos (show lg_cmp (zN (0 + 0)) (0 : Int64) = 0 from (lg_cmp_eq _ _).mpr rfl), if_pos y0]
        rfl
      · rw [lt_X (by omega) (by omega) (by omega), if_pos y0, Nat.zero_div]
        rfl
    · rw [if_neg y0] at e2
      have w1 : w = 1 / 1 := congrArg Prod.fst e2
      rw [w1]
      by_cases rz : r = 0
      · subst rz
        unfold Fx_P_inLeastTermsX
        rw [if_pos (show lg_cmp (zN (0 + 0)) (0 : Int64) = 0 from (lg_cmp_eq _ _).mpr rfl), if_neg y0]
        rfl
      · rw [lt_X (by omega) (by omega) (by omega), if_neg y0, Nat.gcd_zero_left, Nat.zero_add, Nat.div_self (by omega)]
        rfl
  · rw [if_neg (show ¬ iN s = (0 : Int32) from fun z => s0 ((iN_eq (b := 0) (by omega) (by omega)).mp z)), xqb, k4] at e2
    unfold Fx_M_thinkX_J59 at e2
    rw [xqb, xqb, co_X (by omega) (by omega)] at e2
    have gp : 0 < Nat.gcd s (s + r) := Nat.gcd_pos_of_pos_left _ (by omega)
    have gl : Nat.gcd s (s + r) ≤ s := Nat.le_of_dvd (by omega) (Nat.gcd_dvd_left s (s + r))
    rw [lt_X (by omega) (by omega) (by omega), zN_i]
    by_cases y0 : under = 0
    · rw [if_pos y0] at e2
      have w1 : w = iN s / iN (Nat.gcd s (s + r)) := congrArg Prod.fst e2
      rw [w1, if_pos y0]
      exact Int32.ofNat_div (by omega) (by omega)
    · rw [if_neg y0] at e2
      have w1 : w = iN (s + r) / iN (Nat.gcd s (s + r)) := congrArg Prod.fst e2
      rw [w1, if_neg y0]
      exact Int32.ofNat_div (by omega) (by omega)
theorem iN_lg {a b : Nat} (ha : a ≤ 100000000) (hb : b ≤ 100000000) : iN a ≤ iN b ↔ a ≤ b := Int32.ofNat_le_iff_le (by omega) (by omega)
theorem no_L {x y : MM} {g g' : GG} {n m : Nat} (L : LDF x y n m) : ∀ (f k o d : Nat) (best : Int32), n - k < f → k ≤ n → o ≤ 99900 → d ≤ 200 → Fx_C_mostUrgentX_L10 x g f best (iN o) (iN d) (iN k) = (Fx_M_nowX_L27 g' y f best (zN o) (zN d) (iN k)).1 := by
  intro f
  induction f with
  | zero => intro k o d best h; omega
  | succ f ih =>
    intro k o d best h1 h2 ho hd
    have n9 := L.1
    rw [Fx_C_mostUrgentX_L10_s, Fx_M_nowX_L27_s, L.2.2.2.1.1, L.2.2.2.2.1.1]
    by_cases q : n ≤ k
    · rw [if_pos ((iN_le (by omega) (by omega)).mpr q), if_pos ((iN_le (by omega) (by omega)).mpr q)]
    obtain ⟨s, r, hm, k1, k2, k3, k4, k5, s100, r100, h999⟩ := sn_X (g := g) (g' := g') (q := k) L (by omega)
    have x5 : hof x 44 (iN k) (5 : Int32) = iN hm := (ha_r (c := 5) L.2.2.2.1 n9 (by omega) (by decide)).trans k5
    have y5 : mof y (iN k) (5 : Int32) = iN hm := (ma_r (c := 5) L.2.2.2.2.1 n9 (by omega) (by decide)).trans k5
    have b1 : s * hm ≤ 100 * 999 := Nat.mul_le_mul s100 h999
    have b2 : s * hm * d ≤ 99900 * 200 := Nat.mul_le_mul (by omega) hd
    have b3 : o * (s + r) ≤ 99900 * 200 := Nat.mul_le_mul ho (by omega)
    rw [if_neg (fun z => q ((iN_le (by omega) (by omega)).mp z)), if_neg (fun z => q ((iN_le (by omega) (by omega)).mp z)), xqb, k1, xqb, k2, xqb, k3, xqb, x5, y5, iN_l (by omega), xqb, iN_l (by omega), xqb, iN_m, zN_m]
    unfold Fx_C_mostUrgentX_J70 Fx_M_nowX_J96
    rw [iN_s]
    have e0 : (0 : Int64) = zN 0 := rfl
    by_cases p0 : s * hm = 0
    · rw [if_pos (show iN (s * hm) ≤ 0 by rw [p0]; exact Int32.le_refl _), if_pos ((lg_cmp_le _ _).mpr (by rw [p0, e0]; exact (zN_le (by omega) (by omega)).mpr (Nat.le_refl _)))]
      exact ih (k + 1) o d best (by omega) (by omega) ho hd
    · rw [if_neg (fun z => p0 (by have := (iN_le (b := 0) (by omega) (by omega)).mp z; omega)), if_neg (show ¬ lg_cmp (zN (s * hm)) (0 : Int64) ≤ 0 from fun z => p0 (by
        have z1 := (lg_cmp_le _ _).mp z
        rw [e0] at z1
        have := (zN_le (a := s * hm) (b := 0) (by omega) (by omega)).mp z1
        omega)), iN_m, iN_m, xqb, zN_m, xqb, k4, xqb, iN_l (by omega), xqb, zN_m, xqb, xqb]
      by_cases p1 : s * hm * d ≤ o * (s + r)
      · rw [if_pos ((iN_lg (by omega) (by omega)).mpr p1), if_pos ((lg_cmp_le _ _).mpr ((zN_le (by omega) (by omega)).mpr p1))]
        exact ih (k + 1) o d best (by omega) (by omega) ho hd
      · rw [if_neg (fun z => p1 ((iN_lg (by omega) (by omega)).mp z)), if_neg (fun z => p1 ((zN_le (by omega) (by omega)).mp ((lg_cmp_le _ _).mp z)))]
        rw [iN_l (n := s + r) (by omega)]
        exact ih (k + 1) (s * hm) (s + r) (iN k) (by omega) (by omega) (by omega) (by omega)
theorem R5_now {u v u1 v2 : MM} {g g' : GG} {hill plan z w : Int32} (h : RLY u v) (b5 : Bd 0 2 (u 1 5)) (b7 : Bd 0 3 (u 1 7)) (hd : HD v) (pl : PL v) (e1 : (z, u1) = Fx_P_nowX hill plan u g) (e2 : (w, v2) = Fx_M_nowX hill plan v g') : z = w := by
  obtain ⟨b, x, y, p1, p2, p3⟩ := lay_Y (g := g) (g' := g') (hill := hill) (plan := plan) h b5 b7 hd pl
  unfold Fx_P_nowX at e1
  unfold Fx_M_nowX at e2
  rw [p1, c2_mk] at e1
  rw [xqb, p2, c2_mk] at e2
  cases b
  · rw [if_neg (by decide)] at e1 e2
    exact (congrArg Prod.fst e1).trans (congrArg Prod.fst e2).symm
  obtain ⟨n, m, L⟩ := p3 rfl
  have e10 : (9 - (0 : Int32).toInt).toNat + 1 = 10 := by decide
  have n9 := L.1
  rw [if_pos rfl, xqb] at e1
  unfold Fx_C_mostUrgentX at e1
  rw [if_pos rfl, e10] at e2
  rw [e10] at e1
  exact (congrArg Prod.fst e1).trans ((no_L (g := g) (g' := g') L 10 0 0 1 (-1) (by omega) (by omega) (by omega) (by omega)).trans (congrArg Prod.fst e2).symm)
