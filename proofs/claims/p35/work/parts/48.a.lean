section
/-! what has been laid -/
/-- the row of the reference, by ponds and columns -/
def rwA (y : MM) (p c : Nat) : Int32 := y 172 (13 + 16 * p + c)
/-- what has been laid on both sides: n ponds, m rains -/
def LDF (x y : MM) (n m : Nat) : Prop := n ≤ 9 ∧ 1 ≤ m ∧ m ≤ 4 ∧ HA x 44 n (rwA y) ∧ RMA y n (rwA y) ∧ AWF n (rwA y) ∧ x 44 2 = iN m ∧ y 172 1 = iN m ∧ (∀ i, i < m → x 46 i = y 172 (5 + 2 * i) ∧ x 47 i = y 172 (6 + 2 * i) ∧ RW (y 172) i) ∧ (∀ i, i < 3 → x 48 i = y 172 (2 + i) ∧ Bd 0 99 (y 172 (2 + i))) ∧ sm (y 172) = 100 ∧ y 162 26 = -1 ∧ y 162 27 = 0 ∧ SIT x y ∧ HWF (y 172)
theorem ld_of {x y : MM} (s : SIT x y) (h : HWF (y 172)) : ∃ n m, LDF x y n m := by
  obtain ⟨⟨n, m, n9, m4, e0, e1, hr, hd, hp⟩, h2, h3⟩ := h
  obtain ⟨⟨g0, g1, g2, g3, g4⟩, s1, s2, s3, s4, s5, s6⟩ := s
  have m1 : 1 ≤ m := by
    have := h2.1
    rw [e1, iN_ti (by omega)] at this
    omega
  refine ⟨n, m, n9, m1, m4, ⟨g0.trans e0, fun p c hp' hc => ?_⟩, ⟨s1.trans e0, fun _ _ _ _ => rfl⟩, fun p hp' => hp p hp', g1.trans e1, e1, fun i hi => ?_, fun i hi => ⟨g2 i hi, hd i hi⟩, h3, s5, s6, ⟨⟨g0, g1, g2, g3, g4⟩, s1, s2, s3, s4, s5, s6⟩, ⟨n, m, n9, m4, e0, e1, hr, hd, hp⟩, h2, h3⟩
  · exact g4 p c (by omega) hc (by rw [e0, iN_ti (by omega)]; omega)
  · obtain ⟨a, b⟩ := g3 i (by omega) (by rw [e1, iN_ti (by omega)]; omega)
    exact ⟨a, b, hr i hi⟩
/-- lay, as every question begins -/
theorem lay_Y {u v : MM} {g g' : GG} {hill plan : Int32} (h : RLY u v) (b5 : Bd 0 2 (u 1 5)) (b7 : Bd 0 3 (u 1 7)) (hd : HD v) (pl : PL v) : ∃ b x y, Fx_P_laysX hill plan u g = (b, x) ∧ Fx_M_layX hill plan (ms v 162 0 0) g' = (b, y) ∧ (b = true → ∃ n m, LDF x y n m) := by
  have h' : RLX u (ms v 162 0 0) := rlx_v (fun c hc => ms_c1 (by omega)) h.1
  obtain ⟨k1, k2⟩ := lay_X (g := g) (g' := g') (hill := hill) (plan := plan) h' b5 b7 (hd_c (ms_c1 (by decide)) hd) (pl_c (ms_c1 (by decide)) pl) (wfa_c (ms_c1 (by decide)) (ms_c1 (by decide)) h.2.1) h.2.2
  refine ⟨(Fx_P_laysX hill plan u g).1, (Fx_P_laysX hill plan u g).2, (Fx_M_layX hill plan (ms v 162 0 0) g').2, rfl, by rw [k1], fun q => ?_⟩
  obtain ⟨s, f⟩ := k2 q
  exact ld_of s f
/-! what is there: ponds, rains, sets; pond -/
theorem all_e : ∀ n, n < 10 → ((1 : Int32) <<< (iN n &&& 31)) - 1 = iN (2 ^ n - 1) ∧ (1 : Int32) <<< (iN n &&& 31) = iN (2 ^ n) ∧ (iN n &&& 31) = iN n := by decide +kernel
theorem all_X {x : MM} {g : GG} {t n : Nat} (h : x t 0 = iN n) (n9 : n ≤ 9) : Fx_H_allX t x g = iN (2 ^ n - 1) := by
  unfold Fx_H_allX
  rw [h]
  exact (all_e n (by omega)).1
theorem q_pond {x y : MM} {g g' : GG} {n m : Nat} {p : Int32} (h : LDF x y n m) : ∃ b, Fx_H_hasX p 44 x g = b ∧ Fx_M_isPondX p y g' = b ∧ (b = true → ∃ q, q < n ∧ p = iN q) := by
  obtain ⟨n9, m1, m4, ha, ma, -⟩ := h
  unfold Fx_H_hasX Fx_M_isPondX
  rw [xqb, in_X, ha.1, ma.1]
  rcases nb_cl (x := p) (c := iN n) (n := n) rfl (by omega) with ⟨k, k1, k2, k3, k4, k5⟩ | ⟨k3, k5⟩
  · rw [if_neg k3, if_neg k4, k5]
    exact ⟨true, rfl, rfl, fun _ => ⟨k, k1, k2⟩⟩
  · rw [(Bool.not_eq_true _).mp k5]
    rcases k3 with k | ⟨k, k'⟩
    · rw [if_pos k]
      exact ⟨false, rfl, rfl, fun z => absurd z (by decide)⟩
    · rw [if_neg k, if_pos k']
      exact ⟨false, rfl, rfl, fun z => absurd z (by decide)⟩
end
section
/-! storms asked for: storm, runs, safe, spared, brings -/
theorem ldf_c {x y x1 y1 : MM} {n m : Nat} (L : LDF x y n m) (hx : ∀ c, 43 ≤ c → c ≤ 48 → x1 c = x c) (hy : y1 172 = y 172) (hj : ∀ j, 22 ≤ j → j ≤ 27 → y1 162 j = y 162 j) : LDF x1 y1 n m := by
  obtain ⟨n9, m1, m4, ha, ma, aw, x2, y1', hr, hd, h3, k26, k27, s, hf⟩ := L
  have er : rwA y1 = rwA y := by
    funext p c
    unfold rwA
    rw [hy]
  refine ⟨n9, m1, m4, ?_, ?_, ?_, ?_, ?_, fun i hi => ?_, fun i hi => ?_, ?_, ?_, ?_, ?_, ?_⟩
  · rw [er]; exact ha_c ha (hx 44 (by decide) (by decide)) (hx 45 (by decide) (by decide))
  · rw [er]; exact ma_c ma (hj 22 (by decide) (by decide)) hy
  · rw [er]; exact aw
  · rw [hx 44 (by decide) (by decide)]; exact x2
  · rw [hy]; exact y1'
  · rw [hx 46 (by decide) (by decide), hx 47 (by decide) (by decide), hy]; exact hr i hi
  · rw [hx 48 (by decide) (by decide), hy]; exact hd i hi
  · rw [hy]; exact h3
  · rw [hj 26 (by decide) (by decide)]; exact k26
  · rw [hj 27 (by decide) (by decide)]; exact k27
  · unfold SIT GRW at s ⊢
    rw [hx 43 (by decide) (by decide), hx 44 (by decide) (by decide), hx 45 (by decide) (by decide), hx 46 (by decide) (by decide), hx 47 (by decide) (by decide), hx 48 (by decide) (by decide), hy, hj 22 (by decide) (by decide), hj 23 (by decide) (by decide), hj 24 (by decide) (by decide), hj 25 (by decide) (by decide), hj 26 (by decide) (by decide), hj 27 (by decide) (by decide)]
    exact s
  · rw [hy]; exact hf
theorem heard_e {s : Int32} {q : Nat} : ((s >>> (iN q &&& 31)) &&& 1) = if inB s q = true then 1 else 0 := by
  unfold inB
  by_cases h : ((s >>> (iN q &&& 31)) &&& 1) = 1
  · rw [decide_eq_true h, if_pos rfl]; exact h
  · rw [decide_eq_false h, if_neg (by decide)]
    exact Int32.toInt_inj.mp (bit01 h)
end
section
/-! longs; fractions; think, now -/
def zN (n : Nat) : Int64 := Int64.ofNat n
theorem zN_ti {n : Nat} (h : n < 2 ^ 62) : (zN n).toInt = n := Int64.toInt_ofNat_of_lt (by omega)
theorem zN_m {a b : Nat} : zN a * zN b = zN (a * b) := (Int64.ofNat_mul a b).symm
theorem zN_a {a b : Nat} : zN a + zN b = zN (a + b) := (Int64.ofNat_add a b).symm
theorem zN_s {a b : Nat} (h : b ≤ a) : zN a - zN b = zN (a - b) := (Int64.ofNat_sub a b h).symm
theorem zN_d {a b : Nat} (ha : a < 2 ^ 62) (hb : b < 2 ^ 62) : zN a / zN b = zN (a / b) := (Int64.ofNat_div (by omega) (by omega)).symm
theorem zN_lt {a b : Nat} (ha : a < 2 ^ 62) (hb : b < 2 ^ 62) : zN a < zN b ↔ a < b := Int64.ofNat_lt_iff_lt (by omega) (by omega)
theorem zN_le {a b : Nat} (ha : a < 2 ^ 62) (hb : b < 2 ^ 62) : zN a ≤ zN b ↔ a ≤ b := Int64.ofNat_le_iff_le (by omega) (by omega)
theorem zN_eq {a b : Nat} (ha : a < 2 ^ 62) (hb : b < 2 ^ 62) : zN a = zN b ↔ a = b :=
  ⟨fun h => by have h1 := congrArg Int64.toInt h; rw [zN_ti ha, zN_ti hb] at h1; omega, fun h => h ▸ rfl⟩
theorem iN_l {n : Nat} (h : n ≤ 100000) : (iN n).toInt64 = zN n := by
  refine Int64.toInt_inj.mp ?_
  rw [Int32.toInt_toInt64, iN_ti h, zN_ti (by omega)]
/-- the rest -/
theorem zN_r {a b : Nat} (ha : a < 2 ^ 62) (hb : b < 2 ^ 62) : zN a - zN a / zN b * zN b = zN (a % b) := by
  have h : a / b * b ≤ a := Nat.div_mul_le_self a b
  rw [zN_d ha hb, zN_m, zN_s h]
  congr 1
  have := Nat.div_add_mod a b
  rw [Nat.mul_comm] at this
  omega
/-- two rounds halve the lesser -/
theorem mod2 {b r : Nat} (h0 : 0 < r) (h : r < b) : b % r < (b + 1) / 2 := by
  by_cases q : r ≤ b / 2
  · have := Nat.mod_lt b h0
    omega
  · have e : b % r = b - r := by
      rw [Nat.mod_eq_sub_mod (by omega), Nat.mod_eq_of_lt (by omega)]
    omega
theorem mx1 {a : Nat} {u : MM} {g : GG} (h : a < 2 ^ 62) : Fx_maxJ1X (zN a) u g = zN (max a 1) := by
  unfold Fx_maxJ1X
  have e1 : (1 : Int64) = zN 1 := rfl
  by_cases q : a < 1
  · rw [if_pos ((lg_cmp_lt _ _).mpr (by rw [e1]; exact (zN_lt h (by omega)).mpr q)), Nat.max_eq_right (by omega)]
    rfl
  · rw [if_neg (fun z => q ((zN_lt h (by omega)).mp (by rw [← e1]; exact (lg_cmp_lt _ _).mp z))), Nat.max_eq_left (by omega)]
theorem cd_L {u : MM} {g : GG} : ∀ (k f a b r : Nat), b < 2 ^ k → k ≤ 40 → a < 2 ^ 62 → r + 2 * k < 100 → 2 * k + 1 < f → Fx_P_commonDivisorX_L9 u g f (zN a) (zN b) (iN r) = zN (max (Nat.gcd a b) 1) := by
  have J : ∀ a : Nat, a < 2 ^ 62 → Fx_P_commonDivisorX_J44 u g (zN a) = zN (max a 1) := by
    intro a ha
    unfold Fx_P_commonDivisorX_J44
    rw [xqb, mx1 ha]
  have e0 : (0 : Int64) = zN 0 := rfl
  have stop : ∀ f a r, a < 2 ^ 62 → r < 100 → 0 < f → Fx_P_commonDivisorX_L9 u g f (zN a) (zN 0) (iN r) = zN (max (Nat.gcd a 0) 1) := by
    intro f a r ha hr hf
    obtain ⟨f, rfl⟩ : ∃ k, f = k + 1 := ⟨f - 1, by omega⟩
    rw [Fx_P_commonDivisorX_L9_s, if_neg (show ¬ (100 : Int32) ≤ iN r from fun z => by have := (iN_le (a := 100) (by omega) (by omega)).mp z; omega), if_pos ((lg_cmp_eq _ _).mpr e0.symm), J a ha, Nat.gcd_zero_right]
  have step : ∀ f a b r, a < 2 ^ 62 → b < 2 ^ 62 → 0 < b → r < 100 → Fx_P_commonDivisorX_L9 u g (f + 1) (zN a) (zN b) (iN r) = Fx_P_commonDivisorX_L9 u g f (zN b) (zN (a % b)) (iN (r + 1)) := by
    intro f a b r ha hb h0 hr
    rw [Fx_P_commonDivisorX_L9_s, if_neg (show ¬ (100 : Int32) ≤ iN r from fun z => by have := (iN_le (a := 100) (by omega) (by omega)).mp z; omega), if_neg (fun z => by
      have z1 := (lg_cmp_eq _ _).mp z
      rw [e0] at z1
      have := (zN_eq hb (by omega)).mp z1
      omega), xqb, zN_r ha hb, iN_s]
  intro k
  induction k with
  | zero =>
    intro f a b r hb _ ha hr hf
    have e : b = 0 := by rw [Nat.pow_zero] at hb; omega
    subst e
    exact stop f a r ha (by omega) (by omega)
  | succ k ih =>
    intro f a b r hb hk ha hr hf
    have hp : 2 ^ (k + 1) ≤ 2 ^ 40 := Nat.pow_le_pow_right (by decide) (by omega)
    have hb2 : b < 2 ^ 62 := by omega
    by_cases b0 : b = 0
    · subst b0
      exact stop f a r ha (by omega) (by omega)
    obtain ⟨f, rfl⟩ : ∃ k, f = k + 1 := ⟨f - 1, by omega⟩
    rw [step f a b r ha hb2 (by omega) (by omega)]
    have g1 : Nat.gcd a b = Nat.gcd b (a % b) := by rw [Nat.gcd_comm a b, Nat.gcd_rec b a, Nat.gcd_comm]
    have m1 : a % b < b := Nat.mod_lt a (by omega)
    rw [g1]
    by_cases c0 : a % b = 0
    · rw [c0]
      exact stop f b (r + 1) hb2 (by omega) (by omega)
    obtain ⟨f, rfl⟩ : ∃ k, f = k + 1 := ⟨f - 1, by omega⟩
    rw [step f b (a % b) (r + 1) hb2 (by omega) (by omega) (by omega)]
    have g2 : Nat.gcd b (a % b) = Nat.gcd (a % b) (b % (a % b)) := by rw [Nat.gcd_comm b, Nat.gcd_rec (a % b) b, Nat.gcd_comm]
    rw [g2]
    have m2 := mod2 (b := b) (r := a % b) (by omega) m1
    have hs : 2 ^ (k + 1) = 2 ^ k * 2 := Nat.pow_succ ..
    exact ih f (a % b) (b % (a % b)) (r + 2) (by omega) (by omega) (by omega) (by omega) (by omega)
theorem cd_X {u : MM} {g : GG} {a b : Nat} (ha : a < 2 ^ 40) (hb : b < 2 ^ 40) : Fx_P_commonDivisorX (zN a) (zN b) u g = zN (max (Nat.gcd a b) 1) := by
  unfold Fx_P_commonDivisorX
  have e : (100 - (0 : Int32).toInt).toNat + 1 = 101 := by decide
  rw [e]
  exact cd_L 40 101 a b 0 hb (by omega) (by omega) (by omega) (by omega)
theorem lt_X {u : MM} {g : GG} {a b : Nat} {under : Int32} (ha : a < 2 ^ 40) (hb : b < 2 ^ 40) (h0 : 0 < b) : Fx_P_inLeastTermsX (zN a) (zN b) under u g = zN ((if under = 0 then a else b) / Nat.gcd a b) := by
  unfold Fx_P_inLeastTermsX
  have e0 : (0 : Int64) = zN 0 := rfl
  have gp : 0 < Nat.gcd a b := Nat.gcd_pos_of_pos_right a h0
  have gl : Nat.gcd a b ≤ b := Nat.le_of_dvd h0 (Nat.gcd_dvd_right a b)
  rw [if_neg (fun z => by
    have z1 := (lg_cmp_eq _ _).mp z
    rw [e0] at z1
    have := (zN_eq (by omega) (by omega)).mp z1
    omega), xqb, cd_X ha hb, Nat.max_eq_left gp]
  unfold Fx_P_inLeastTermsX_J34
  rw [xqb, xqb, zN_d (by omega) (by omega), zN_d (by omega) (by omega)]
  by_cases y : under = 0
  · rw [if_pos y, if_pos y]
  · rw [if_neg y, if_neg y]
end
