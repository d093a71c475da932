section
/-! what has been laid -/
/-- the row of the reference, by ponds and columns -/
def rwA (y : MM) (p c : Nat) : Int32 := y 172 (13 + 16 * p + c)
/-- what has been laid on both sides: n ponds, m rains -/
def LDF (x y : MM) (n m : Nat) : Prop := n ≤ 9 ∧ 1 ≤ m ∧ m ≤ 4 ∧ HA x 44 n (rwA y) ∧ RMA y n (rwA y) ∧ AWF n (rwA y) ∧ x 44 2 = iN m ∧ y 172 1 = iN m ∧ (∀ i, i < m → x 46 i = y 172 (5 + 2 * i) ∧ x 47 i = y 172 (6 + 2 * i) ∧ RW (y 172) i) ∧ (∀ i, i < 3 → x 48 i = y 172 (2 + i) ∧ Bd 0 99 (y 172 (2 + i))) ∧ sm (y 172) = 100 ∧ y 162 26 = -1 ∧ y 162 27 = 0 ∧ SIT x y ∧ HWF (y 172)
theorem ld_of {x y : MM} (s : SIT x y) (h : HWF (y 172)) : ∃ n m, LDF x y n m := by
  obtain ⟨⟨n, m, n9, m4, e0, e1, hr, hd, hp⟩, h2, h3⟩ := h
  obtain ⟨⟨g0, g1, g2, g3, g4⟩, s1, s2, s3, s4, s5, s6⟩ := s
  have m1 : 1 ≤ m := by
    have := h2.1
    rw [e1, iN_ti (by omega)] at this
    omega
  refine ⟨n, m, n9, m1, m4, ⟨g0.trans e0, fun p c hp' hc => ?_⟩, ⟨s1.trans e0, fun _ _ _ _ => rfl⟩, fun p hp' => hp p hp', g1.trans e1, e1, fun i hi => ?_, fun i hi => ⟨g2 i hi, hd i hi⟩, h3, s5, s6, ⟨⟨g0, g1, g2, g3, g4⟩, s1, s2, s3, s4, s5, s6⟩, ⟨n, m, n9, m4, e0, e1, hr, hd, hp⟩, h2, h3⟩
  · exact g4 p c (by omega) hc (by rw [e0, iN_ti (by omega)]; omega)
  · obtain ⟨a, b⟩ := g3 i (by omega) (by rw [e1, iN_ti (by omega)]; omega)
    exact ⟨a, b, hr i hi⟩
/-- lay, as every question begins -/
theorem lay_Y {u v : MM} {g g' : GG} {hill plan : Int32} (h : RLY u v) (b5 : Bd 0 2 (u 1 5)) (b7 : Bd 0 3 (u 1 7)) (hd : HD v) (pl : PL v) : ∃ b x y, Fx_P_laysX hill plan u g = (b, x) ∧ Fx_M_layX hill plan (ms v 162 0 0) g' = (b, y) ∧ (b = true → ∃ n m, LDF x y n m) := by
  have h' : RLX u (ms v 162 0 0) := rlx_v (fun c hc => ms_c1 (by omega)) h.1
  obtain ⟨k1, k2⟩ := lay_X (g := g) (g' := g') (hill := hill) (plan := plan) h' b5 b7 (hd_c (ms_c1 (by decide)) hd) (pl_c (ms_c1 (by decide)) pl) (wfa_c (ms_c1 (by decide)) (ms_c1 (by decide)) h.2.1) h.2.2
  refine ⟨(Fx_P_laysX hill plan u g).1, (Fx_P_laysX hill plan u g).2, (Fx_M_layX hill plan (ms v 162 0 0) g').2, rfl, by rw [k1], fun q => ?_⟩
  obtain ⟨s, f⟩ := k2 q
  exact ld_of s f
/-! what is there: ponds, rains, sets; pond -/
theorem q_pond {x y : MM} {g g' : GG} {n m : Nat} {p : Int32} (h : LDF x y n m) : ∃ b, Fx_H_hasX p 44 x g = b ∧ Fx_M_isPondX p y g' = b ∧ (b = true → ∃ q, q < n ∧ p = iN q) := by
  obtain ⟨n9, m1, m4, ha, ma, -⟩ := h
  unfold Fx_H_hasX Fx_M_isPondX
  rw [xqb, in_X, ha.1, ma.1]
  rcases nb_cl (x := p) (c := iN n) (n := n) rfl (by omega) with ⟨k, k1, k2, k3, k4, k5⟩ | ⟨k3, k5⟩
  · rw [if_neg k3, if_neg k4, k5]
    exact ⟨true, rfl, rfl, fun _ => ⟨k, k1, k2⟩⟩
  · rw [(Bool.not_eq_true _).mp k5]
    rcases k3 with k | ⟨k, k'⟩
    · rw [if_pos k]
      exact ⟨false, rfl, rfl, fun z => absurd z (by decide)⟩
    · rw [if_neg k, if_pos k']
      exact ⟨false, rfl, rfl, fun z => absurd z (by decide)⟩
end
section
/-! storms asked for: storm, runs, safe, spared, brings -/
theorem ldf_c {x y x1 y1 : MM} {n m : Nat} (L : LDF x y n m) (hx : ∀ c, 43 ≤ c → c ≤ 48 → x1 c = x c) (hy : y1 172 = y 172) (hj : ∀ j, 22 ≤ j → j ≤ 27 → y1 162 j = y 162 j) : LDF x1 y1 n m := by
  obtain ⟨n9, m1, m4, ha, ma, aw, x2, y1', hr, hd, h3, k26, k27, s, hf⟩ := L
  have er : rwA y1 = rwA y := by
    funext p c
    unfold rwA
    rw [hy]
  refine ⟨n9, m1, m4, ?_, ?_, ?_, ?_, ?_, fun i hi => ?_, fun i hi => ?_, ?_, ?_, ?_, ?_, ?_⟩
  · rw [er]; exact ha_c ha (hx 44 (by decide) (by decide)) (hx 45 (by decide) (by decide))
  · rw [er]; exact ma_c ma (hj 22 (by decide) (by decide)) hy
  · rw [er]; exact aw
  · rw [hx 44 (by decide) (by decide)]; exact x2
  · rw [hy]; exact y1'
  · rw [hx 46 (by decide) (by decide), hx 47 (by decide) (by decide), hy]; exact hr i hi
  · rw [hx 48 (by decide) (by decide), hy]; exact hd i hi
  · rw [hy]; exact h3
  · rw [hj 26 (by decide) (by decide)]; exact k26
  · rw [hj 27 (by decide) (by decide)]; exact k27
  · unfold SIT GRW at s ⊢
    rw [hx 43 (by decide) (by decide), hx 44 (by decide) (by decide), hx 45 (by decide) (by decide), hx 46 (by decide) (by decide), hx 47 (by decide) (by decide), hx 48 (by decide) (by decide), hy, hj 22 (by decide) (by decide), hj 23 (by decide) (by decide), hj 24 (by decide) (by decide), hj 25 (by decide) (by decide), hj 26 (by decide) (by decide), hj 27 (by decide) (by decide)]
    exact s
  · rw [hy]; exact hf
/-- a storm on both sides -/
theorem st_Y {x y : MM} {g g' : GG} {n m : Nat} {st bk : Int32} (L : LDF x y n m) (bs : Bd 0 9 st) : ∃ x1 y1, Fx_S53_runX st bk (-1) 44 x g = x1 ∧ Fx_M_blowX st bk y g' = y1 ∧ CS53 x1 (stN (rwA y) n st bk (-1) n) n ∧ RS y1 (stN (rwA y) n st bk (-1) n) n n ∧ x1 53 2 = hrm (rwA y) (stN (rwA y) n st bk (-1) n).1 n ∧ x1 53 0 = iN n ∧ LDF x1 y1 n m ∧ LDF x1 y n m ∧ rwA y1 = rwA y := by
  have L2 := L
  obtain ⟨n9, m1, m4, ha, ma, aw, -, -, -, -, -, k26, -⟩ := L2
  obtain ⟨x1, a0, a1, a2, a3, a4⟩ := rn53_X (g := g) (st := st) (bk := bk) (kp := -1) ha (by decide) n9
  obtain ⟨y1, b0, b1, b2, b3⟩ := rbl_X (g := g') (bk := bk) ma n9 aw k26 bs
  have e172 : y1 172 = y 172 := b2 172 (by decide) (by decide) (by decide) (by decide)
  refine ⟨x1, y1, a0, b0, a1, b1, a2, a4, ldf_c L (fun c c1 c2 => a3 c (by omega)) e172 (fun j j1 j2 => b3 j (by omega) (by omega) (by omega)), ldf_c L (fun c c1 c2 => a3 c (by omega)) rfl (fun _ _ _ => rfl), ?_⟩
  funext p c
  unfold rwA
  rw [e172]
theorem bdN {k : Nat} (h : k ≤ 9) : Bd 0 9 (iN k) := by
  rw [Bd, iN_ti (by omega)]
  omega
theorem ru_L {g g' : GG} {n m q : Nat} : ∀ (f k : Nat) (x y : MM), 10 - k < f → k ≤ 10 → LDF x y n m → (Fx_P_runsX_L15 (iN q) g f (iN k) x).1 = (Fx_M_runsX_L27 (iN q) g' f (iN k) y).1 := by
  intro f
  induction f with
  | zero => intro k x y h; omega
  | succ f ih =>
    intro k x y h1 h2 L
    rw [Fx_P_runsX_L15_s, Fx_M_runsX_L27_s]
    by_cases c : k ≤ 9
    · obtain ⟨x1, y1, c1, c2, c3, c4, c5, c6, c7, c8, c9⟩ := st_Y (g := g) (g' := g') (bk := 0) L (bdN c)
      rw [if_neg (fun z => by have := (iN_lt (a := 9) (by omega) (by omega)).mp z; omega), if_neg (fun z => by have := (iN_lt (a := 9) (by omega) (by omega)).mp z; omega), xqb, c1, xqb, c2, xqb, xqb, isI, hasI, c3.1, c4.1, iN_s]
      by_cases t : inB (stN (rwA y) n (iN k) 0 (-1) n).1 q = true
      · rw [if_pos t, if_pos t]
      · rw [if_neg t, if_neg t]
        exact ih (k + 1) x1 y1 (by omega) (by omega) c7
    · have l9 : (9 : Int32) < iN k := (iN_lt (a := 9) (by omega) (by omega)).mpr (by omega)
      rw [if_pos l9, if_pos l9]
theorem hpd_F {u x : MM} {g : GG} {hill plan pond : Int32} (p1 : Fx_P_laysX hill plan u g = (false, x)) : Fx_P_hasPondX hill plan pond u g = (false, x) := by
  unfold Fx_P_hasPondX
  rw [p1]
  rfl
theorem hpd_T {u x : MM} {g : GG} {hill plan pond : Int32} {t : Bool} (p1 : Fx_P_laysX hill plan u g = (true, x)) (t1 : Fx_H_hasX pond 44 x g = t) : Fx_P_hasPondX hill plan pond u g = (t, x) := by
  unfold Fx_P_hasPondX
  rw [p1, c2_mk, if_pos rfl, xqb, t1]
  cases t <;> rfl
theorem R5_runs {u v u1 v2 : MM} {g g' : GG} {hill plan pond z w : Int32} (h : RLY u v) (b5 : Bd 0 2 (u 1 5)) (b7 : Bd 0 3 (u 1 7)) (hd : HD v) (pl : PL v) (e1 : (z, u1) = Fx_P_runsX hill plan pond u g) (e2 : (w, v2) = Fx_M_runsX hill plan pond v g') : z = w := by
  obtain ⟨b, x, y, p1, p2, p3⟩ := lay_Y (g := g) (g' := g') (hill := hill) (plan := plan) h b5 b7 hd pl
  unfold Fx_P_runsX at e1
  unfold Fx_M_runsX at e2
  rw [xqb, p2, c2_mk] at e2
  cases b
  · rw [hpd_F p1, c2_mk, if_neg Bool.false_ne_true] at e1
    rw [if_neg Bool.false_ne_true] at e2
    exact (congrArg Prod.fst e1).trans (congrArg Prod.fst e2).symm
  obtain ⟨n, m, L⟩ := p3 rfl
  obtain ⟨t, t1, t2, t3⟩ := q_pond (g := g) (g' := g') (p := pond) L
  rw [hpd_T p1 t1, c2_mk] at e1
  rw [if_pos rfl, xqb, t2] at e2
  cases t
  · rw [if_neg Bool.false_ne_true] at e1 e2
    exact (congrArg Prod.fst e1).trans (congrArg Prod.fst e2).symm
  obtain ⟨q, q1, q2⟩ := t3 rfl
  rw [if_pos rfl, q2] at e1
  rw [if_pos rfl, q2] at e2
  have e11 : (10 - (0 : Int32).toInt).toNat + 1 = 11 := by decide
  rw [e11] at e1 e2
  exact (congrArg Prod.fst e1).trans ((ru_L 11 0 x y (by omega) (by omega) L).trans (congrArg Prod.fst e2).symm)
end
