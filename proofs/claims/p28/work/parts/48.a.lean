section
/-! what has been laid -/
/-- the row of the reference, by ponds and columns -/
def rwA (y : MM) (p c : Nat) : Int32 := y 172 (13 + 16 * p + c)
/-- what has been laid on both sides: n ponds, m rains -/
def LDF (x y : MM) (n m : Nat) : Prop := n ≤ 9 ∧ 1 ≤ m ∧ m ≤ 4 ∧ HA x 44 n (rwA y) ∧ RMA y n (rwA y) ∧ AWF n (rwA y) ∧ x 44 2 = iN m ∧ y 172 1 = iN m ∧ (∀ i, i < m → x 46 i = y 172 (5 + 2 * i) ∧ x 47 i = y 172 (6 + 2 * i) ∧ RW (y 172) i) ∧ (∀ i, i < 3 → x 48 i = y 172 (2 + i) ∧ Bd 0 99 (y 172 (2 + i))) ∧ sm (y 172) = 100 ∧ y 162 26 = -1 ∧ y 162 27 = 0 ∧ SIT x y ∧ HWF (y 172)
theorem ld_of {x y : MM} (s : SIT x y) (h : HWF (y 172)) : ∃ n m, LDF x y n m := by
  obtain ⟨⟨n, m, n9, m4, e0, e1, hr, hd, hp⟩, h2, h3⟩ := h
  obtain ⟨⟨g0, g1, g2, g3, g4⟩, s1, s2, s3, s4, s5, s6⟩ := s
  have m1 : 1 ≤ m := by
    have := h2.1
    rw [e1, iN_ti (by omega)] at this
    omega
  refine ⟨n, m, n9, m1, m4, ⟨g0.trans e0, fun p c hp' hc => ?_⟩, ⟨s1.trans e0, fun _ _ _ _ => rfl⟩, fun p hp' => hp p hp', g1.trans e1, e1, fun i hi => ?_, fun i hi => ⟨g2 i hi, hd i hi⟩, h3, s5, s6, ⟨⟨g0, g1, g2, g3, g4⟩, s1, s2, s3, s4, s5, s6⟩, ⟨n, m, n9, m4, e0, e1, hr, hd, hp⟩, h2, h3⟩
  · exact g4 p c (by omega) hc (by rw [e0, iN_ti (by omega)]; omega)
  · obtain ⟨a, b⟩ := g3 i (by omega) (by rw [e1, iN_ti (by omega)]; omega)
    exact ⟨a, b, hr i hi⟩
/-- lay, as every question begins -/
theorem lay_Y {u v : MM} {g g' : GG} {hill plan : Int32} (h : RLY u v) (b5 : Bd 0 2 (u 1 5)) (b7 : Bd 0 3 (u 1 7)) (hd : HD v) (pl : PL v) : ∃ b x y, Fx_P_laysX hill plan u g = (b, x) ∧ Fx_M_layX hill plan (ms v 162 0 0) g' = (b, y) ∧ (b = true → ∃ n m, LDF x y n m) := by
  have h' : RLX u (ms v 162 0 0) := rlx_v (fun c hc => ms_c1 (by omega)) h.1
  obtain ⟨k1, k2⟩ := lay_X (g := g) (g' := g') (hill := hill) (plan := plan) h' b5 b7 (hd_c (ms_c1 (by decide)) hd) (pl_c (ms_c1 (by decide)) pl) (wfa_c (ms_c1 (by decide)) (ms_c1 (by decide)) h.2.1) h.2.2
  refine ⟨(Fx_P_laysX hill plan u g).1, (Fx_P_laysX hill plan u g).2, (Fx_M_layX hill plan (ms v 162 0 0) g').2, rfl, by rw [k1], fun q => ?_⟩
  obtain ⟨s, f⟩ := k2 q
  exact ld_of s f
/-! what is there: ponds, rains, sets; pond -/
theorem all_e : ∀ n, n < 10 → ((1 : Int32) <<< (iN n &&& 31)) - 1 = iN (2 ^ n - 1) ∧ (1 : Int32) <<< (iN n &&& 31) = iN (2 ^ n) ∧ (iN n &&& 31) = iN n := by decide +kernel
theorem all_X {x : MM} {g : GG} {t n : Nat} (h : x t 0 = iN n) (n9 : n ≤ 9) : Fx_H_allX t x g = iN (2 ^ n - 1) := by
  unfold Fx_H_allX
  rw [h]
  exact (all_e n (by omega)).1
theorem q_rain {x y : MM} {g g' : GG} {n m : Nat} {r : Int32} (h : LDF x y n m) : ∃ b, Fx_H_hasRainX r 44 x g = b ∧ Fx_M_isRainX r y g' = b ∧ (b = true → ∃ i, i < m ∧ r = iN i) := by
  obtain ⟨n9, m1, m4, ha, ma, aw, x2, y1, -⟩ := h
  unfold Fx_H_hasRainX Fx_M_isRainX
  rw [xqb, in_X, x2, y1]
  rcases nb_cl (x := r) (c := iN m) (n := m) rfl (by omega) with ⟨k, k1, k2, k3, k4, k5⟩ | ⟨k3, k5⟩
  · rw [if_neg k3, if_neg k4, k5]
    exact ⟨true, rfl, rfl, fun _ => ⟨k, k1, k2⟩⟩
  · rw [(Bool.not_eq_true _).mp k5]
    rcases k3 with k | ⟨k, k'⟩
    · rw [if_pos k]
      exact ⟨false, rfl, rfl, fun z => absurd z (by decide)⟩
    · rw [if_neg k, if_pos k']
      exact ⟨false, rfl, rfl, fun z => absurd z (by decide)⟩
end
section
/-! storms asked for: storm, runs, safe, spared, brings -/
theorem ldf_c {x y x1 y1 : MM} {n m : Nat} (L : LDF x y n m) (hx : ∀ c, 43 ≤ c → c ≤ 48 → x1 c = x c) (hy : y1 172 = y 172) (hj : ∀ j, 22 ≤ j → j ≤ 27 → y1 162 j = y 162 j) : LDF x1 y1 n m := by
  obtain ⟨n9, m1, m4, ha, ma, aw, x2, y1', hr, hd, h3, k26, k27, s, hf⟩ := L
  have er : rwA y1 = rwA y := by
    funext p c
    unfold rwA
    rw [hy]
  refine ⟨n9, m1, m4, ?_, ?_, ?_, ?_, ?_, fun i hi => ?_, fun i hi => ?_, ?_, ?_, ?_, ?_, ?_⟩
  · rw [er]; exact ha_c ha (hx 44 (by decide) (by decide)) (hx 45 (by decide) (by decide))
  · rw [er]; exact ma_c ma (hj 22 (by decide) (by decide)) hy
  · rw [er]; exact aw
  · rw [hx 44 (by decide) (by decide)]; exact x2
  · rw [hy]; exact y1'
  · rw [hx 46 (by decide) (by decide), hx 47 (by decide) (by decide), hy]; exact hr i hi
  · rw [hx 48 (by decide) (by decide), hy]; exact hd i hi
  · rw [hy]; exact h3
  · rw [hj 26 (by decide) (by decide)]; exact k26
  · rw [hj 27 (by decide) (by decide)]; exact k27
  · unfold SIT GRW at s ⊢
    rw [hx 43 (by decide) (by decide), hx 44 (by decide) (by decide), hx 45 (by decide) (by decide), hx 46 (by decide) (by decide), hx 47 (by decide) (by decide), hx 48 (by decide) (by decide), hy, hj 22 (by decide) (by decide), hj 23 (by decide) (by decide), hj 24 (by decide) (by decide), hj 25 (by decide) (by decide), hj 26 (by decide) (by decide), hj 27 (by decide) (by decide)]
    exact s
  · rw [hy]; exact hf
/-- a storm on both sides -/
theorem st_Y {x y : MM} {g g' : GG} {n m : Nat} {st bk : Int32} (L : LDF x y n m) (bs : Bd 0 9 st) : ∃ x1 y1, Fx_S53_runX st bk (-1) 44 x g = x1 ∧ Fx_M_blowX st bk y g' = y1 ∧ CS53 x1 (stN (rwA y) n st bk (-1) n) n ∧ RS y1 (stN (rwA y) n st bk (-1) n) n n ∧ x1 53 2 = hrm (rwA y) (stN (rwA y) n st bk (-1) n).1 n ∧ x1 53 0 = iN n ∧ LDF x1 y1 n m ∧ LDF x1 y n m ∧ rwA y1 = rwA y := by
  have L2 := L
  obtain ⟨n9, m1, m4, ha, ma, aw, -, -, -, -, -, k26, -⟩ := L2
  obtain ⟨x1, a0, a1, a2, a3, a4⟩ := rn53_X (g := g) (st := st) (bk := bk) (kp := -1) ha (by decide) n9
  obtain ⟨y1, b0, b1, b2, b3⟩ := rbl_X (g := g') (bk := bk) ma n9 aw k26 bs
  have e172 : y1 172 = y 172 := b2 172 (by decide) (by decide) (by decide) (by decide)
  refine ⟨x1, y1, a0, b0, a1, b1, a2, a4, ldf_c L (fun c c1 c2 => a3 c (by omega)) e172 (fun j j1 j2 => b3 j (by omega) (by omega) (by omega)), ldf_c L (fun c c1 c2 => a3 c (by omega)) rfl (fun _ _ _ => rfl), ?_⟩
  funext p c
  unfold rwA
  rw [e172]
theorem q_steps {x y : MM} {g g' : GG} {n m i : Nat} (L : LDF x y n m) (hi : i < m) : Fx_H_stepsOfX (iN i) 44 x g = y 172 (5 + 2 * i) ∧ Fx_M_stepsOfX (iN i) y g' = y 172 (5 + 2 * i) ∧ Bd 0 9 (y 172 (5 + 2 * i)) := by
  obtain ⟨n9, m1, m4, ha, ma, aw, x2, y1', hr, hd, h3, k26, k27, s, hf⟩ := L
  obtain ⟨r1, r2, r3⟩ := hr i hi
  refine ⟨?_, ?_, r3.1⟩
  · unfold Fx_H_stepsOfX
    rw [if_neg (fun z => by have := (iN_lt (b := 0) (by omega) (by omega)).mp z; omega), x2, if_neg (fun z => by have := (iN_le (by omega) (by omega)).mp z; omega), xqb, iN_cl (by omega)]
    exact r1
  · unfold Fx_M_stepsOfX
    rw [k27, if_pos rfl, xqb]
    have e : ((5 : Int32) + ((2 : Int32) * iN i)).toNatClampNeg = 5 + 2 * i := by
      show (iN 5 + iN 2 * iN i).toNatClampNeg = _
      rw [iN_m, iN_a, iN_cl (by omega)]
    rw [e]
theorem sp_L {g g' : GG} {n m i : Nat} (hi : i < m) {u5 : MM} (h5 : u5 162 22 = iN n) : ∀ (f k : Nat) (c : Int32) (x y : MM), 2 ^ n - k < f → k ≤ 2 ^ n → LDF x y n m → (Fx_P_sparedX_L31 (iN i) g f c (iN k) x).1 = (Fx_M_sparedX_L30 (iN i) g' u5 f c (iN k) y).1 := by
  intro f
  induction f with
  | zero => intro k c x y h; omega
  | succ f ih =>
    intro k c x y h1 h2 L
    have h3 := p2_le L.1
    have h4 : 0 < 2 ^ n := Nat.two_pow_pos n
    rw [Fx_P_sparedX_L31_s, Fx_M_sparedX_L30_s, all_X L.2.2.2.1.1 L.1, xqb, h5, (all_e n (by have := L.1; omega)).2.1]
    by_cases q : 2 ^ n ≤ k
    · rw [if_pos ((iN_lt (by omega) (by omega)).mpr (by omega)), if_pos ((iN_le (by omega) (by omega)).mpr q)]
    · obtain ⟨a1, a2, a3⟩ := q_steps (g := g) (g' := g') L hi
      obtain ⟨x1, y1, c1, c2, c3, c4, c5, c6, c7, c8, c9⟩ := st_Y (g := g) (g' := g') (bk := iN k) L a3
      rw [if_neg (fun z => by have := (iN_lt (by omega) (by omega)).mp z; omega), if_neg (fun z => q ((iN_le (by omega) (by omega)).mp z)), xqb, a1, xqb, c1, xqb, a2, xqb, c2, c3.1, c4.1]
      unfold Fx_P_sparedX_J92 Fx_M_sparedX_J71
      rw [iN_s, Int32.add_zero]
      by_cases t : (stN (rwA y) n (y 172 (5 + 2 * i)) (iN k) (-1) n).1 &&& (iN k ^^^ (-1)) = 0
      · rw [if_pos t, if_pos t]
        exact ih (k + 1) _ x1 y1 (by omega) (by omega) c7
      · rw [if_neg t, if_neg t]
        exact ih (k + 1) _ x1 y1 (by omega) (by omega) c7
theorem R5_spared {u v u1 v2 : MM} {g g' : GG} {hill plan rain z w : Int32} (h : RLY u v) (b5 : Bd 0 2 (u 1 5)) (b7 : Bd 0 3 (u 1 7)) (hd : HD v) (pl : PL v) (e1 : (z, u1) = Fx_P_sparedX hill plan rain u g) (e2 : (w, v2) = Fx_M_sparedX hill plan rain v g') : z = w := by
  obtain ⟨b, x, y, p1, p2, p3⟩ := lay_Y (g := g) (g' := g') (hill := hill) (plan := plan) h b5 b7 hd pl
  unfold Fx_P_sparedX at e1
  unfold Fx_M_sparedX at e2
  rw [p1, c2_mk] at e1
  rw [xqb, p2, c2_mk] at e2
  cases b
  · rw [if_neg (by decide)] at e1 e2
    exact (congrArg Prod.fst e1).trans (congrArg Prod.fst e2).symm
  obtain ⟨n, m, L⟩ := p3 rfl
  obtain ⟨t, t1, t2, t3⟩ := q_rain (g := g) (g' := g') (r := rain) L
  rw [if_pos rfl, xqb, t1] at e1
  rw [if_pos rfl, xqb, t2] at e2
  cases t
  · rw [if_neg (by decide)] at e1 e2
    exact (congrArg Prod.fst e1).trans (congrArg Prod.fst e2).symm
  obtain ⟨i, hi, ri⟩ := t3 rfl
  have e513 : (512 - (0 : Int32).toInt).toNat + 1 = 513 := by decide
  rw [if_pos rfl, ri, e513] at e1
  rw [if_pos rfl, ri, e513] at e2
  have h3 := p2_le L.1
  exact (congrArg Prod.fst e1).trans ((sp_L hi L.2.2.2.2.1.1 513 0 0 x y (by omega) (Nat.zero_le _) L).trans (congrArg Prod.fst e2).symm)
end
