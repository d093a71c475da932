section
/-! what has been laid -/
/-- the row of the reference, by ponds and columns -/
def rwA (y : MM) (p c : Nat) : Int32 := y 172 (13 + 16 * p + c)
/-- what has been laid on both sides: n ponds, m rains -/
def LDF (x y : MM) (n m : Nat) : Prop := n ≤ 9 ∧ 1 ≤ m ∧ m ≤ 4 ∧ HA x 44 n (rwA y) ∧ RMA y n (rwA y) ∧ AWF n (rwA y) ∧ x 44 2 = iN m ∧ y 172 1 = iN m ∧ (∀ i, i < m → x 46 i = y 172 (5 + 2 * i) ∧ x 47 i = y 172 (6 + 2 * i) ∧ RW (y 172) i) ∧ (∀ i, i < 3 → x 48 i = y 172 (2 + i) ∧ Bd 0 99 (y 172 (2 + i))) ∧ sm (y 172) = 100 ∧ y 162 26 = -1 ∧ y 162 27 = 0 ∧ SIT x y ∧ HWF (y 172)
theorem ld_of {x y : MM} (s : SIT x y) (h : HWF (y 172)) : ∃ n m, LDF x y n m := by
  obtain ⟨⟨n, m, n9, m4, e0, e1, hr, hd, hp⟩, h2, h3⟩ := h
  obtain ⟨⟨g0, g1, g2, g3, g4⟩, s1, s2, s3, s4, s5, s6⟩ := s
  have m1 : 1 ≤ m := by
    have := h2.1
    rw [e1, iN_ti (by omega)] at this
    omega
  refine ⟨n, m, n9, m1, m4, ⟨g0.trans e0, fun p c hp' hc => ?_⟩, ⟨s1.trans e0, fun _ _ _ _ => rfl⟩, fun p hp' => hp p hp', g1.trans e1, e1, fun i hi => ?_, fun i hi => ⟨g2 i hi, hd i hi⟩, h3, s5, s6, ⟨⟨g0, g1, g2, g3, g4⟩, s1, s2, s3, s4, s5, s6⟩, ⟨n, m, n9, m4, e0, e1, hr, hd, hp⟩, h2, h3⟩
  · exact g4 p c (by omega) hc (by rw [e0, iN_ti (by omega)]; omega)
  · obtain ⟨a, b⟩ := g3 i (by omega) (by rw [e1, iN_ti (by omega)]; omega)
    exact ⟨a, b, hr i hi⟩
/-- lay, as every question begins -/
theorem lay_Y {u v : MM} {g g' : GG} {hill plan : Int32} (h : RLY u v) (b5 : Bd 0 2 (u 1 5)) (b7 : Bd 0 3 (u 1 7)) (hd : HD v) (pl : PL v) : ∃ b x y, Fx_P_laysX hill plan u g = (b, x) ∧ Fx_M_layX hill plan (ms v 162 0 0) g' = (b, y) ∧ (b = true → ∃ n m, LDF x y n m) := by
  have h' : RLX u (ms v 162 0 0) := rlx_v (fun c hc => ms_c1 (by omega)) h.1
  obtain ⟨k1, k2⟩ := lay_X (g := g) (g' := g') (hill := hill) (plan := plan) h' b5 b7 (hd_c (ms_c1 (by decide)) hd) (pl_c (ms_c1 (by decide)) pl) (wfa_c (ms_c1 (by decide)) (ms_c1 (by decide)) h.2.1) h.2.2
  refine ⟨(Fx_P_laysX hill plan u g).1, (Fx_P_laysX hill plan u g).2, (Fx_M_layX hill plan (ms v 162 0 0) g').2, rfl, by rw [k1], fun q => ?_⟩
  obtain ⟨s, f⟩ := k2 q
  exact ld_of s f
/-! what is there: ponds, rains, sets; pond -/
theorem all_e : ∀ n, n < 10 → ((1 : Int32) <<< (iN n &&& 31)) - 1 = iN (2 ^ n - 1) ∧ (1 : Int32) <<< (iN n &&& 31) = iN (2 ^ n) ∧ (iN n &&& 31) = iN n := by decide +kernel
theorem shrN {s : Int32} {k : Nat} (hk : k ≤ 9) : (s >>> (iN k &&& 31)).toInt = s.toInt / ((2 ^ k : Nat) : Int) := by
  rw [(all_e k (by omega)).2.2]
  show (s >>> Int32.ofNat k).toBitVec.toInt = _
  rw [Int32.toBitVec_shiftRight, BitVec.sshiftRight', sh_dec k (by omega), BitVec.toInt_sshiftRight, Int.shiftRight_eq_div_pow]
  rfl
/-- a set of ponds, or none -/
theorem set_cl {n : Nat} (n9 : n ≤ 9) (s : Int32) : (∃ k, k < 2 ^ n ∧ s = iN k ∧ ¬ s < 0 ∧ ¬ iN (2 ^ n - 1) < s ∧ s >>> (iN n &&& 31) = 0) ∨ (s < 0 ∨ (¬ s < 0 ∧ iN (2 ^ n - 1) < s ∧ ¬ s >>> (iN n &&& 31) = 0)) := by
  have h3 := p2_le n9
  have l0 : (0 : Int32).toInt = 0 := rfl
  have h4 : 0 < 2 ^ n := Nat.two_pow_pos n
  by_cases h : s.toInt < 0
  · exact Or.inr (Or.inl (ltI (by omega)))
  have e := shrN (s := s) n9
  by_cases q : s.toInt < ((2 ^ n : Nat) : Int)
  · refine Or.inl ⟨s.toInt.toNat, by omega, iN_of (lo := 0) (hi := 100000) ⟨by omega, by omega⟩ (by decide), nltI (by omega), nltI (by rw [iN_ti (by omega)]; omega), ?_⟩
    rw [Int.ediv_eq_zero_of_lt (by omega) q] at e
    exact Int32.toInt_inj.mp (e.trans l0.symm)
  · refine Or.inr (Or.inr ⟨nltI (by omega), ltI (by rw [iN_ti (by omega)]; omega), fun z => ?_⟩)
    rw [z, l0] at e
    have h5 : (1 : Int) ≤ s.toInt / ((2 ^ n : Nat) : Int) := by
      have := Int.ediv_le_ediv (c := ((2 ^ n : Nat) : Int)) (by omega) (show ((2 ^ n : Nat) : Int) ≤ s.toInt by omega)
      rw [Int.ediv_self (by omega)] at this
      exact this
    omega
theorem all_X {x : MM} {g : GG} {t n : Nat} (h : x t 0 = iN n) (n9 : n ≤ 9) : Fx_H_allX t x g = iN (2 ^ n - 1) := by
  unfold Fx_H_allX
  rw [h]
  exact (all_e n (by omega)).1
theorem q_set {x y : MM} {g g' : GG} {n m : Nat} {s : Int32} (h : LDF x y n m) : ∃ b, Fx_H_hasSetX s 44 x g = b ∧ Fx_M_arePondsX s y g' = b ∧ (b = true → ∃ k, k < 2 ^ n ∧ s = iN k) := by
  obtain ⟨n9, m1, m4, ha, ma, -⟩ := h
  unfold Fx_H_hasSetX Fx_M_arePondsX
  rw [all_X ha.1 n9, xqb, ma.1]
  rcases set_cl n9 s with ⟨k, k1, k2, k3, k4, k5⟩ | k | ⟨k3, k4, k5⟩
  · rw [if_neg k3, if_neg k3, if_neg k4, if_pos k5]
    exact ⟨true, rfl, rfl, fun _ => ⟨k, k1, k2⟩⟩
  · rw [if_pos k, if_pos k]
    exact ⟨false, rfl, rfl, fun z => absurd z (by decide)⟩
  · rw [if_neg k3, if_neg k3, if_pos k4, if_neg k5]
    exact ⟨false, rfl, rfl, fun z => absurd z (by decide)⟩
theorem q_rain {x y : MM} {g g' : GG} {n m : Nat} {r : Int32} (h : LDF x y n m) : ∃ b, Fx_H_hasRainX r 44 x g = b ∧ Fx_M_isRainX r y g' = b ∧ (b = true → ∃ i, i < m ∧ r = iN i) := by
  obtain ⟨n9, m1, m4, ha, ma, aw, x2, y1, -⟩ := h
  unfold Fx_H_hasRainX Fx_M_isRainX
  rw [xqb, in_X, x2, y1]
  rcases nb_cl (x := r) (c := iN m) (n := m) rfl (by omega) with ⟨k, k1, k2, k3, k4, k5⟩ | ⟨k3, k5⟩
  · rw [if_neg k3, if_neg k4, k5]
    exact ⟨true, rfl, rfl, fun _ => ⟨k, k1, k2⟩⟩
  · rw [(Bool.not_eq_true _).mp k5]
    rcases k3 with k | ⟨k, k'⟩
    · rw [if_pos k]
      exact ⟨false, rfl, rfl, fun z => absurd z (by decide)⟩
    · rw [if_neg k, if_pos k']
      exact ⟨false, rfl, rfl, fun z => absurd z (by decide)⟩
end
section
/-! storms asked for: storm, runs, safe, spared, brings -/
theorem ldf_c {x y x1 y1 : MM} {n m : Nat} (L : LDF x y n m) (hx : ∀ c, 43 ≤ c → c ≤ 48 → x1 c = x c) (hy : y1 172 = y 172) (hj : ∀ j, 22 ≤ j → j ≤ 27 → y1 162 j = y 162 j) : LDF x1 y1 n m := by
  obtain ⟨n9, m1, m4, ha, ma, aw, x2, y1', hr, hd, h3, k26, k27, s, hf⟩ := L
  have er : rwA y1 = rwA y := by
    funext p c
    unfold rwA
    rw [hy]
  refine ⟨n9, m1, m4, ?_, ?_, ?_, ?_, ?_, fun i hi => ?_, fun i hi => ?_, ?_, ?_, ?_, ?_, ?_⟩
  · rw [er]; exact ha_c ha (hx 44 (by decide) (by decide)) (hx 45 (by decide) (by decide))
  · rw [er]; exact ma_c ma (hj 22 (by decide) (by decide)) hy
  · rw [er]; exact aw
  · rw [hx 44 (by decide) (by decide)]; exact x2
  · rw [hy]; exact y1'
  · rw [hx 46 (by decide) (by decide), hx 47 (by decide) (by decide), hy]; exact hr i hi
  · rw [hx 48 (by decide) (by decide), hy]; exact hd i hi
  · rw [hy]; exact h3
  · rw [hj 26 (by decide) (by decide)]; exact k26
  · rw [hj 27 (by decide) (by decide)]; exact k27
  · unfold SIT GRW at s ⊢
    rw [hx 43 (by decide) (by decide), hx 44 (by decide) (by decide), hx 45 (by decide) (by decide), hx 46 (by decide) (by decide), hx 47 (by decide) (by decide), hx 48 (by decide) (by decide), hy, hj 22 (by decide) (by decide), hj 23 (by decide) (by decide), hj 24 (by decide) (by decide), hj 25 (by decide) (by decide), hj 26 (by decide) (by decide), hj 27 (by decide) (by decide)]
    exact s
  · rw [hy]; exact hf
/-- a storm on both sides -/
theorem st_Y {x y : MM} {g g' : GG} {n m : Nat} {st bk : Int32} (L : LDF x y n m) (bs : Bd 0 9 st) : ∃ x1 y1, Fx_S53_runX st bk (-1) 44 x g = x1 ∧ Fx_M_blowX st bk y g' = y1 ∧ CS53 x1 (stN (rwA y) n st bk (-1) n) n ∧ RS y1 (stN (rwA y) n st bk (-1) n) n n ∧ x1 53 2 = hrm (rwA y) (stN (rwA y) n st bk (-1) n).1 n ∧ x1 53 0 = iN n ∧ LDF x1 y1 n m ∧ LDF x1 y n m ∧ rwA y1 = rwA y := by
  have L2 := L
  obtain ⟨n9, m1, m4, ha, ma, aw, -, -, -, -, -, k26, -⟩ := L2
  obtain ⟨x1, a0, a1, a2, a3, a4⟩ := rn53_X (g := g) (st := st) (bk := bk) (kp := -1) ha (by decide) n9
  obtain ⟨y1, b0, b1, b2, b3⟩ := rbl_X (g := g') (bk := bk) ma n9 aw k26 bs
  have e172 : y1 172 = y 172 := b2 172 (by decide) (by decide) (by decide) (by decide)
  refine ⟨x1, y1, a0, b0, a1, b1, a2, a4, ldf_c L (fun c c1 c2 => a3 c (by omega)) e172 (fun j j1 j2 => b3 j (by omega) (by omega) (by omega)), ldf_c L (fun c c1 c2 => a3 c (by omega)) rfl (fun _ _ _ => rfl), ?_⟩
  funext p c
  unfold rwA
  rw [e172]
theorem q_steps {x y : MM} {g g' : GG} {n m i : Nat} (L : LDF x y n m) (hi : i < m) : Fx_H_stepsOfX (iN i) 44 x g = y 172 (5 + 2 * i) ∧ Fx_M_stepsOfX (iN i) y g' = y 172 (5 + 2 * i) ∧ Bd 0 9 (y 172 (5 + 2 * i)) := by
  obtain ⟨n9, m1, m4, ha, ma, aw, x2, y1', hr, hd, h3, k26, k27, s, hf⟩ := L
  obtain ⟨r1, r2, r3⟩ := hr i hi
  refine ⟨?_, ?_, r3.1⟩
  · unfold Fx_H_stepsOfX
    rw [if_neg (fun z => by have := (iN_lt (b := 0) (by omega) (by omega)).mp z; omega), x2, if_neg (fun z => by have := (iN_le (by omega) (by omega)).mp z; omega), xqb, iN_cl (by omega)]
    exact r1
  · unfold Fx_M_stepsOfX
    rw [k27, if_pos rfl, xqb]
    have e : ((5 : Int32) + ((2 : Int32) * iN i)).toNatClampNeg = 5 + 2 * i := by
      show (iN 5 + iN 2 * iN i).toNatClampNeg = _
      rw [iN_m, iN_a, iN_cl (by omega)]
    rw [e]
theorem heard_e {s : Int32} {q : Nat} : ((s >>> (iN q &&& 31)) &&& 1) = if inB s q = true then 1 else 0 := by
  unfold inB
  by_cases h : ((s >>> (iN q &&& 31)) &&& 1) = 1
  · rw [decide_eq_true h, if_pos rfl]; exact h
  · rw [decide_eq_false h, if_neg (by decide)]
    exact Int32.toInt_inj.mp (bit01 h)
theorem dv10 : ∀ w, w < 50 → iN w / 10 = iN (w / 10) ∧ iN w - iN w / 10 * 10 = iN (w % 10) := by decide +kernel
/-- what is told of a storm -/
def tolS (A : Nat → Nat → Int32) (n : Nat) (S : ST) (w : Nat) : Int32 := if 10 ≤ w ∧ w < 10 + n then S.2.2.2.1 (w - 10) else if 20 ≤ w ∧ w < 20 + n then S.2.2.2.2 (w - 20) else if 30 ≤ w ∧ w < 30 + n then (if inB S.2.1 (w - 30) = true then 1 else 0) else if w = 0 then S.1 else if w = 1 then hrm A S.1 n else if w = 40 then S.2.2.1 else -1
theorem tl_row {row pond : Int32} {x : MM} {g : GG} (h1 : ¬ row = 1) (h2 : ¬ row = 2) (h3 : ¬ row = 3) : Fx_S53_toldOfPondX row pond x g = -1 := by
  unfold Fx_S53_toldOfPondX
  rw [if_neg h1, if_neg h2, if_neg h3]
  by_cases a : pond < 0
  · rw [if_pos a]
  · rw [if_neg a]
    by_cases b : pond < x 53 0
    · rw [if_pos b]
    · rw [if_neg b]
theorem tl_P {x : MM} {g : GG} {A : Nat → Nat → Int32} {n w : Nat} {S : ST} (hw : w < 50) (n9 : n ≤ 9) (cs : CS53 x S n) (h0 : x 53 0 = iN n) (hm : x 53 2 = hrm A S.1 n) : Fx_S53_toldX (iN w) x g = tolS A n S w := by
  obtain ⟨c1, c3, c4, cW, cL⟩ := cs
  have e0 : iN w = 0 ↔ w = 0 := iN_eq (b := 0) (by omega) (by omega)
  have e1 : iN w = 1 ↔ w = 1 := iN_eq (b := 1) (by omega) (by omega)
  have e40 : iN w = 40 ↔ w = 40 := iN_eq (b := 40) (by omega) (by omega)
  unfold Fx_S53_toldX tolS
  by_cases q0 : w = 0
  · rw [if_pos (e0.mpr q0), if_neg (by omega), if_neg (by omega), if_neg (by omega), if_pos q0]
    exact c1
  rw [if_neg (fun z => q0 (e0.mp z))]
  by_cases q1 : w = 1
  · rw [if_pos (e1.mpr q1), if_neg (by omega), if_neg (by omega), if_neg (by omega), if_neg q0, if_pos q1]
    exact hm
  rw [if_neg (fun z => q1 (e1.mp z))]
  by_cases q40 : w = 40
  · rw [if_pos (e40.mpr q40), if_neg (by omega), if_neg (by omega), if_neg (by omega), if_neg q0, if_neg q1, if_pos q40]
    exact c4
  obtain ⟨d1, d2⟩ := dv10 w hw
  have f1 : iN (w / 10) = (1 : Int32) ↔ w / 10 = 1 := iN_eq (b := 1) (by omega) (by omega)
  have f2 : iN (w / 10) = (2 : Int32) ↔ w / 10 = 2 := iN_eq (b := 2) (by omega) (by omega)
  have f3 : iN (w / 10) = (3 : Int32) ↔ w / 10 = 3 := iN_eq (b := 3) (by omega) (by omega)
  rw [if_neg (fun z => q40 (e40.mp z)), xqb, d2, d1]
  by_cases row : w / 10 = 1 ∨ w / 10 = 2 ∨ w / 10 = 3
  rotate_left
  · rw [tl_row (fun z => row (Or.inl (f1.mp z))) (fun z => row (Or.inr (Or.inl (f2.mp z)))) (fun z => row (Or.inr (Or.inr (f3.mp z)))), if_neg (by omega), if_neg (by omega), if_neg (by omega), if_neg q0, if_neg q1, if_neg q40]
  unfold Fx_S53_toldOfPondX
  rw [if_neg (fun z => by have := (iN_lt (b := 0) (by omega) (by omega)).mp z; omega), h0]
  by_cases pn : w % 10 < n
  · rw [if_pos ((iN_lt (by omega) (by omega)).mpr pn), iN_cl (by omega), xqb, xqb]
    rcases row with q | q | q
    · rw [if_pos (f1.mpr q), if_pos (by omega), cW _ (by omega), show w - 10 = w % 10 by omega]
    · rw [if_neg (fun z => by have := f1.mp z; omega), if_pos (f2.mpr q), if_neg (by omega), if_pos (by omega), cL _ (by omega), show w - 20 = w % 10 by omega]
    · rw [if_neg (fun z => by have := f1.mp z; omega), if_neg (fun z => by have := f2.mp z; omega), if_pos (f3.mpr q), if_neg (by omega), if_neg (by omega), if_pos (by omega), c3, heard_e, show w - 30 = w % 10 by omega]
  · rw [if_neg (fun z => pn ((iN_lt (by omega) (by omega)).mp z)), if_neg (by omega), if_neg (by omega), if_neg (by omega), if_neg q0, if_neg q1, if_neg q40]
theorem tl_in {w a n : Nat} (hw : w < 50) (n9 : n ≤ 9) (ha : a ≤ 40) : ((decide (iN a ≤ iN w) && decide (iN w ≤ iN (a - 1) + iN n)) = true ↔ a ≤ w ∧ w < a + n) ∨ a = 0 := by
  by_cases a0 : a = 0
  · exact Or.inr a0
  left
  rw [iN_a]
  refine ⟨fun z => ?_, fun z => ?_⟩
  · obtain ⟨z1, z2⟩ := (Bool.and_eq_true _ _).mp z
    have y1 := (iN_le (by omega) (by omega)).mp (of_decide_eq_true z1)
    have y2 := (iN_le (by omega) (by omega)).mp (of_decide_eq_true z2)
    omega
  · rw [decide_eq_true ((iN_le (by omega) (by omega)).mpr z.1), decide_eq_true ((iN_le (by omega) (by omega)).mpr (by omega))]
    rfl
theorem tl_M {y : MM} {g : GG} {A : Nat → Nat → Int32} {n w : Nat} {S : ST} (hw : w < 50) (n9 : n ≤ 9) (rs : RS y S n n) (ma : RMA y n A) : Fx_M_toldX (iN w) y g = tolS A n S w := by
  obtain ⟨r1, r2, r3, r4, r5, r6⟩ := rs
  have i10 : (decide ((10 : Int32) ≤ iN w) && decide (iN w ≤ (9 : Int32) + iN n)) = true ↔ 10 ≤ w ∧ w < 10 + n := (tl_in (a := 10) hw n9 (by omega)).resolve_right (by omega)
  have i20 : (decide ((20 : Int32) ≤ iN w) && decide (iN w ≤ (19 : Int32) + iN n)) = true ↔ 20 ≤ w ∧ w < 20 + n := (tl_in (a := 20) hw n9 (by omega)).resolve_right (by omega)
  have i30 : (decide ((30 : Int32) ≤ iN w) && decide (iN w ≤ (29 : Int32) + iN n)) = true ↔ 30 ≤ w ∧ w < 30 + n := (tl_in (a := 30) hw n9 (by omega)).resolve_right (by omega)
  have e0 : iN w = (0 : Int32) ↔ w = 0 := iN_eq (b := 0) (by omega) (by omega)
  have e1 : iN w = (1 : Int32) ↔ w = 1 := iN_eq (b := 1) (by omega) (by omega)
  have e40 : iN w = (40 : Int32) ↔ w = 40 := iN_eq (b := 40) (by omega) (by omega)
  have hh : Fx_M_harmOfX ((-1) : Int32) y g = hrm A S.1 n := by rw [ho_X ma n9, hro_all, r1]
  have s10 : 10 ≤ w → iN w - 10 = iN (w - 10) := fun h => iN_sub (b := 10) h
  have s20 : 20 ≤ w → iN w - 20 = iN (w - 20) := fun h => iN_sub (b := 20) h
  have s30 : 30 ≤ w → iN w - 30 = iN (w - 30) := fun h => iN_sub (b := 30) h
  unfold Fx_M_toldX tolS
  rw [xqb, in_X, ma.1]
  by_cases q10 : 10 ≤ w ∧ w < 10 + n
  · rw [if_pos (i10.mpr q10), if_pos q10, xqb, s10 q10.1, iN_cl (by omega)]
    exact r5 _ (by omega)
  rw [if_neg (fun z => q10 (i10.mp z)), if_neg q10, xqb, in_X]
  by_cases q20 : 20 ≤ w ∧ w < 20 + n
  · rw [if_pos (i20.mpr q20), if_pos q20, xqb, s20 q20.1, iN_cl (by omega)]
    exact r6 _ (by omega)
  rw [if_neg (fun z => q20 (i20.mp z)), if_neg q20, xqb, in_X]
  by_cases q30 : 30 ≤ w ∧ w < 30 + n
  · rw [if_pos (i30.mpr q30), if_pos q30, xqb, s30 q30.1, hasI, r2]
  rw [if_neg (fun z => q30 (i30.mp z)), if_neg q30, hh, xqb, r1, r3]
  by_cases q0 : w = 0
  · rw [if_pos (e0.mpr q0), if_pos q0]
  rw [if_neg (fun z => q0 (e0.mp z)), if_neg q0]
  by_cases q1 : w = 1
  · rw [if_pos (e1.mpr q1), if_pos q1]
  rw [if_neg (fun z => q1 (e1.mp z)), if_neg q1]
  by_cases q40 : w = 40
  · rw [if_pos (e40.mpr q40), if_pos q40]
  · rw [if_neg (fun z => q40 (e40.mp z)), if_neg q40]
theorem tl_X {x y : MM} {g g' : GG} {A : Nat → Nat → Int32} {n : Nat} {S : ST} {what : Int32} (n9 : n ≤ 9) (cs : CS53 x S n) (h0 : x 53 0 = iN n) (hm : x 53 2 = hrm A S.1 n) (rs : RS y S n n) (ma : RMA y n A) : Fx_S53_toldX what x g = Fx_M_toldX what y g' := by
  by_cases h : 0 ≤ what.toInt ∧ what.toInt ≤ 49
  · obtain ⟨w, hw, w49⟩ := iN_ex (v := what) (hi := 49) ⟨h.1, h.2⟩
    rw [hw, tl_P (by omega) n9 cs h0 hm, tl_M (by omega) n9 rs ma]
  · have l0 : (0 : Int32).toInt = 0 := rfl
    have l1 : (1 : Int32).toInt = 1 := rfl
    have l2 : (2 : Int32).toInt = 2 := rfl
    have l3 : (3 : Int32).toInt = 3 := rfl
    have l10 : (10 : Int32).toInt = 10 := rfl
    have l20 : (20 : Int32).toInt = 20 := rfl
    have l30 : (30 : Int32).toInt = 30 := rfl
    have l40 : (40 : Int32).toInt = 40 := rfl
    have k9 : ((9 : Int32) + iN n).toInt = 9 + n := by show (iN 9 + iN n).toInt = _; rw [iN_a, iN_ti (by omega)]; omega
    have k19 : ((19 : Int32) + iN n).toInt = 19 + n := by show (iN 19 + iN n).toInt = _; rw [iN_a, iN_ti (by omega)]; omega
    have k29 : ((29 : Int32) + iN n).toInt = 29 + n := by show (iN 29 + iN n).toInt = _; rw [iN_a, iN_ti (by omega)]; omega
    have hrow : (what / 10).toInt < 1 ∨ 5 ≤ (what / 10).toInt := by
      by_cases s : 0 ≤ what.toInt
      · right
        rw [ti_div s (by omega), l10]
        omega
      · left
        rw [Int32.toInt_div_of_ne_right _ _ (by decide), l10]
        have e : what.toInt.tdiv 10 = -((-what.toInt).tdiv 10) := by rw [Int.neg_tdiv]; omega
        have p : 0 ≤ (-what.toInt).tdiv 10 := Int.tdiv_nonneg (by omega) (by omega)
        omega
    have eP : Fx_S53_toldX what x g = -1 := by
      unfold Fx_S53_toldX
      rw [if_neg (neI (by omega)), if_neg (neI (by omega)), if_neg (neI (by omega)), xqb]
      exact tl_row (neI (by omega)) (neI (by omega)) (neI (by omega))
    have eM : Fx_M_toldX what y g' = -1 := by
      unfold Fx_M_toldX
      rw [xqb, in_X, ma.1, if_neg (inF (by omega)), xqb, in_X, if_neg (inF (by omega)), xqb, in_X, if_neg (inF (by omega)), if_neg (neI (by omega)), if_neg (neI (by omega)), if_neg (neI (by omega))]
    rw [eP, eM]
theorem hst_X {x : MM} {g : GG} {r s : Int32} {a b : Bool} (h1 : Fx_H_hasRainX r 44 x g = a) (h2 : Fx_H_hasSetX s 44 x g = b) : Fx_H_hasStormX r s 44 x g = (a && b) := by
  unfold Fx_H_hasStormX
  rw [xqb, h1, xqb, h2]
  cases a <;> cases b <;> rfl
end
section
/-! twice: what a storm leaves, and a second one -/
theorem st_wb {A : Nat → Nat → Int32} {n : Nat} {st bk : Int32} (n9 : n ≤ 9) (aw : AWF n A) (bs : Bd 0 9 st) : ∀ k, k ≤ n → ∀ j, j < k → Bd 0 200000 ((stN A n st bk (-1) k).2.2.2.1 j) := by
  intro k
  induction k with
  | zero => intro _ j hj; omega
  | succ k ih =>
    intro hk j hj
    have h3 := p2_le (p := k) (by omega)
    have h := st_bw (bk := bk) n9 aw bs k (by omega)
    obtain ⟨S, hS⟩ : ∃ S, S = stN A n st bk (-1) k := ⟨_, rfl⟩
    have e : stN A n st bk (-1) (k + 1) = stp A n st bk (-1) k S := by rw [hS]; rfl
    rw [← hS] at h
    have bc := h k (Nat.le_refl _) (by omega)
    have bl := lef_b (hr := hrB A S.1 k) (go := gos A bk (-1) k (wat A st (hrB A S.1 k) k (S.2.2.2.1 k))) aw (show k < n by omega) bs bc (by omega)
    have lo := (pw_n (W := upd S.2.2.2.1 k (wat A st (hrB A S.1 k) k (S.2.2.2.1 k))) n9 (show k < n by omega) aw bl (by omega) (fun j j1 j2 => by rw [show upd S.2.2.2.1 k (wat A st (hrB A S.1 k) k (S.2.2.2.1 k)) j = S.2.2.2.1 j from if_neg (by omega)]; exact h j (by omega) j2)).1
    rw [e]
    show Bd 0 200000 (pW A n k (lef A (-1) (hrB A S.1 k) (gos A bk (-1) k (wat A st (hrB A S.1 k) k (S.2.2.2.1 k))) k (wat A st (hrB A S.1 k) k (S.2.2.2.1 k))) (upd S.2.2.2.1 k (wat A st (hrB A S.1 k) k (S.2.2.2.1 k))) j)
    rw [lo j (by omega)]
    unfold upd
    by_cases y : j = k
    · rw [if_pos y]
      exact bd_w (num_p (hr := hrB A S.1 k) aw (show k < n by omega) bs bc (by omega)).1 ⟨by omega, by omega⟩
    · rw [if_neg y, hS]
      exact ih (by omega) j (by omega)
/-- the class's row and the reference's, alike -/
def RQ (f g : Nat → Int32) (n : Nat) : Prop := ∀ q c, q < n → c < 16 → f (16 * q + c) = g (13 + 16 * q + c)
theorem rq_u {f g : Nat → Int32} {n p c : Nat} {z : Int32} (h : RQ f g n) (hc : c < 16) : RQ (upd f (16 * p + c) z) (upd g (13 + 16 * p + c) z) n := by
  intro q d hq hd
  unfold upd
  by_cases y : 16 * q + d = 16 * p + c
  · rw [if_pos y, if_pos (by omega)]
  · rw [if_neg y, if_neg (by omega)]
    exact h q d hq hd
theorem pu79 {u : MM} {g : GG} {q c : Nat} {z : Int32} (hq : q < 9) (hc : c < 16) : Fx_H_putX (iN q) (iN c) z 79 u g = ms u 80 (16 * q + c) z := by
  unfold Fx_H_putX
  rw [if_neg (show ¬ iN q < (0 : Int32) from fun q => by have := (iN_lt (b := 0) (by omega) (by omega)).mp q; omega), if_neg (show ¬ (9 : Int32) ≤ iN q from fun q => by have := (iN_le (a := 9) (by omega) (by omega)).mp q; omega), if_neg (show ¬ iN c < (0 : Int32) from fun q => by have := (iN_lt (b := 0) (by omega) (by omega)).mp q; omega), if_neg (show ¬ (16 : Int32) ≤ iN c from fun q => by have := (iN_le (a := 16) (by omega) (by omega)).mp q; omega)]
  have e : ((iN q * 16) + iN c).toNatClampNeg = 16 * q + c := by
    show (iN q * iN 16 + iN c).toNatClampNeg = _
    rw [iN_m, iN_a, iN_cl (by omega)]
    omega
  rw [e]
  rfl
/-- the pond is taken out, on both sides -/
theorem to79 {u : MM} {g : GG} {q : Nat} (hq : q < 9) : Fx_H_takeOutX (iN q) 79 u g = ms (ms (ms (ms u 80 (16 * q + 15) 1) 80 (16 * q + 1) 0) 80 (16 * q + 0) 0) 80 (16 * q + 4) 0 := by
  unfold Fx_H_takeOutX
  rw [xqb, xqb, xqb, xqb, show ∀ (x : MM) (z : Int32), Fx_H_putX (iN q) (15 : Int32) z 79 x g = ms x 80 (16 * q + 15) z from fun x z => pu79 (c := 15) hq (by decide), show ∀ (x : MM) (z : Int32), Fx_H_putX (iN q) (1 : Int32) z 79 x g = ms x 80 (16 * q + 1) z from fun x z => pu79 (c := 1) hq (by decide), show ∀ (x : MM) (z : Int32), Fx_H_putX (iN q) (0 : Int32) z 79 x g = ms x 80 (16 * q + 0) z from fun x z => pu79 (c := 0) hq (by decide), show ∀ (x : MM) (z : Int32), Fx_H_putX (iN q) (4 : Int32) z 79 x g = ms x 80 (16 * q + 4) z from fun x z => pu79 (c := 4) hq (by decide)]
theorem rq_out {f g : Nat → Int32} {n q : Nat} (h : RQ f g n) : RQ (upd (upd (upd (upd f (16 * q + 15) 1) (16 * q + 1) 0) (16 * q + 0) 0) (16 * q + 4) 0) (upd (upd (upd (upd g (13 + 16 * q + 0) 0) (13 + 16 * q + 1) 0) (13 + 16 * q + 4) 0) (13 + 16 * q + 15) 1) n := by
  intro a c ha hc
  have k := h a c ha hc
  unfold upd
  by_cases y : a = q
  · subst y
    by_cases c15 : c = 15
    · rw [if_neg (by omega), if_neg (by omega), if_neg (by omega), if_pos (by omega), if_pos (by omega)]
    by_cases c4 : c = 4
    · rw [if_pos (by omega), if_neg (by omega), if_pos (by omega)]
    by_cases c0 : c = 0
    · rw [if_neg (by omega), if_pos (by omega), if_neg (by omega), if_neg (by omega), if_neg (by omega), if_pos (by omega)]
    by_cases c1 : c = 1
    · rw [if_neg (by omega), if_neg (by omega), if_pos (by omega), if_neg (by omega), if_neg (by omega), if_pos (by omega)]
    rw [if_neg (by omega), if_neg (by omega), if_neg (by omega), if_neg (by omega), if_neg (by omega), if_neg (by omega), if_neg (by omega), if_neg (by omega)]
    exact k
  · rw [if_neg (by omega), if_neg (by omega), if_neg (by omega), if_neg (by omega), if_neg (by omega), if_neg (by omega), if_neg (by omega), if_neg (by omega)]
    exact k
/-- what the storm leaves -/
theorem lb_L {x0 y0 y1 : MM} {g g' : GG} {n : Nat} {S : ST} {next others what : Int32} (n9 : n ≤ 9) (x53 : x0 53 0 = iN n) (xw : x0 53 1 = S.1) (y22 : y0 162 22 = iN n) (yw : y1 162 31 = S.1) (xW : ∀ j, j < 9 → x0 54 j = S.2.2.2.1 j) (yW : ∀ j, j < n → y1 173 j = S.2.2.2.1 j) (wb : ∀ j, j < n → Bd 0 200000 (S.2.2.2.1 j)) : ∀ (f p : Nat) (x y : MM), n - p < f → p ≤ n → (∀ c, c ≠ 80 → x c = x0 c) → (∀ c, c ≠ 172 → y c = y1 c) → (∀ j, j < 13 → y 172 j = y1 172 j) → RQ (x 80) (y 172) n → HWF (y 172) → y 172 0 = iN n →
    ∃ x' y', Fx_S53_leaveBehindX_L2 79 x0 g f (iN p) x = x' ∧ Fx_M_twiceX_L65 next others what g' y0 y1 f (iN p) y = (xq_lt (Fx_M_stepsOfX next y' g') fun v662 => xq_lt (Fx_M_blowX v662 others y' g') fun u665 => xq_lt (Fx_M_toldX what u665 g') fun v671 => (v671, u665)) ∧ (∀ c, c ≠ 80 → x' c = x0 c) ∧ (∀ c, c ≠ 172 → y' c = y1 c) ∧ (∀ j, j < 13 → y' 172 j = y1 172 j) ∧ RQ (x' 80) (y' 172) n ∧ HWF (y' 172) ∧ y' 172 0 = iN n := by
  intro f
  induction f with
  | zero => intro p x y h1; omega
  | succ f ih =>
    intro p x y h1 h2 hx hy hj rq hf h0
    rw [Fx_S53_leaveBehindX_L2_s, Fx_M_twiceX_L65_s, x53, y22]
    by_cases q : n ≤ p
    · rw [if_pos ((iN_le (by omega) (by omega)).mpr q), if_pos ((iN_le (by omega) (by omega)).mpr q)]
      exact ⟨x, y, rfl, rfl, hx, hy, hj, rq, hf, h0⟩
    have hp : p < n := by omega
    have p9 : p < 9 := by omega
    rw [if_neg (fun z => q ((iN_le (by omega) (by omega)).mp z)), if_neg (fun z => q ((iN_le (by omega) (by omega)).mp z)), if_neg (show ¬ (9 : Int32) ≤ iN p from fun z => by have := (iN_le (a := 9) (by omega) (by omega)).mp z; omega), xqb, isI, xqb (x := Fx_M_hasX (y1 162 31) (iN p) y g'), hasI, xw, yw]
    have hr : ∀ c, c < 16 → mof y (iN p) (iN c) = y 172 (13 + 16 * p + c) := fun c hc => mofE p9 hc
    have cr : ∀ c, c < 16 → hof x 79 (iN p) (iN c) = y 172 (13 + 16 * p + c) := fun c hc => (hofE p9 hc).trans (rq p c hp hc)
    obtain ⟨n', m', n9', m4', f0, f1, fr, fd, fp⟩ := hf.1
    have en : n' = n := (iN_eq (by omega) (by omega)).mp (f0.symm.trans h0)
    obtain ⟨a1, a2, a3⟩ := fp p (by omega)
    have b0 : Bd 0 24 (y 172 (13 + 16 * p + 0)) := a1 0 (by decide)
    have b15 : Bd 0 1 (y 172 (13 + 16 * p + 15)) := a1 15 (by decide)
    have s0 : ∀ (v : MM) (z : Int32), Fx_M_setX (iN p) (0 : Int32) z v g' = ms v 172 (13 + 16 * p + 0) z := fun v z => msE (c := 0) p9 (by decide)
    have s1 : ∀ (v : MM) (z : Int32), Fx_M_setX (iN p) (1 : Int32) z v g' = ms v 172 (13 + 16 * p + 1) z := fun v z => msE (c := 1) p9 (by decide)
    have s4 : ∀ (v : MM) (z : Int32), Fx_M_setX (iN p) (4 : Int32) z v g' = ms v 172 (13 + 16 * p + 4) z := fun v z => msE (c := 4) p9 (by decide)
    have s15 : ∀ (v : MM) (z : Int32), Fx_M_setX (iN p) (15 : Int32) z v g' = ms v 172 (13 + 16 * p + 15) z := fun v z => msE (c := 15) p9 (by decide)
    unfold Fx_S53_leaveBehindX_J64 Fx_M_twiceX_J171 Fx_M_twiceX_J174
    rw [iN_s]
    by_cases t : inB S.1 p = true
    · rw [if_pos t, if_pos t, to79 p9, xqb, xqb, xqb, xqb, xqb, s0, s1, s4, s15]
      refine ih (p + 1) _ _ (by omega) (by omega) (fun c hc => ?_) (fun c hc => ?_) (fun j j1 => ?_) ?_ ?_ ?_
      · rw [ms_c1 hc, ms_c1 hc, ms_c1 hc, ms_c1 hc, hx c hc]
      · rw [ms_c1 hc, ms_c1 hc, ms_c1 hc, ms_c1 hc, hy c hc]
      · rw [ms_i1 (by omega), ms_i1 (by omega), ms_i1 (by omega), ms_i1 (by omega), hj j j1]
      · rw [ms_a1, ms_a1, ms_a1, ms_a1, ms_a1, ms_a1, ms_a1, ms_a1]
        exact rq_out rq
      · rw [ms_a1, ms_a1, ms_a1, ms_a1]
        exact hwf_u (hwf_u (hwf_u (hwf_u hf (by decide) (show Bd 0 24 (0 : Int32) by decide) (fun _ _ _ y => by omega)) (by decide) (show Bd 0 24 (0 : Int32) by decide) (fun _ _ _ y => by omega)) (by decide) (show Bd 0 10 (0 : Int32) by decide) (fun _ _ _ y => by omega)) (by decide) (show Bd 0 1 (1 : Int32) by decide) (fun _ _ _ y => by omega)
      · rw [ms_i1 (by omega), ms_i1 (by omega), ms_i1 (by omega), ms_i1 (by omega), h0]
    · have ew : x 54 (iN p).toNatClampNeg = S.2.2.2.1 p := by rw [iN_cl (by omega), hx 54 (by decide)]; exact xW p p9
      have ev : y 173 (iN p).toNatClampNeg = S.2.2.2.1 p := by rw [iN_cl (by omega), hy 173 (by decide)]; exact yW p hp
      have eo : Fx_H_isOutX (iN p) 79 x g = decide (y 172 (13 + 16 * p + 15) = 1) := by
        unfold Fx_H_isOutX
        rw [show hof x 79 (iN p) (15 : Int32) = y 172 (13 + 16 * p + 15) from cr 15 (by decide)]
        by_cases w : y 172 (13 + 16 * p + 15) = 1
        · rw [if_pos w, decide_eq_true w]
        · rw [if_neg w, decide_eq_false w]
      rw [if_neg t, if_neg t, xqb, eo, ew, ev, show hof x 79 (iN p) (0 : Int32) = y 172 (13 + 16 * p + 0) from cr 0 (by decide), show mof y (iN p) (15 : Int32) = y 172 (13 + 16 * p + 15) from hr 15 (by decide), show mof y (iN p) (0 : Int32) = y 172 (13 + 16 * p + 0) from hr 0 (by decide)]
      have o01 : y 172 (13 + 16 * p + 15) = 0 ∨ y 172 (13 + 16 * p + 15) = 1 := by
        obtain ⟨k, hk, k1⟩ := iN_ex (hi := 1) b15
        rcases (show k = 0 ∨ k = 1 by omega) with w | w
        · left; rw [hk, w]; rfl
        · right; rw [hk, w]; rfl
      rcases o01 with o | o
      · rw [o, if_pos rfl, if_neg (show ¬ decide ((0 : Int32) = 1) = true by decide)]
        obtain ⟨lv, hlv⟩ : ∃ lv, lv = if y 172 (13 + 16 * p + 0) < S.2.2.2.1 p then y 172 (13 + 16 * p + 0) else S.2.2.2.1 p := ⟨_, rfl⟩
        have bw := wb p hp
        have bl : Bd 0 24 lv := by
          rw [hlv]
          by_cases w : y 172 (13 + 16 * p + 0) < S.2.2.2.1 p
          · rw [if_pos w]; exact b0
          · rw [if_neg w]
            have w1 := Int32.le_iff_toInt_le.mp (i_nlt w)
            exact ⟨bw.1, by have := b0.2; omega⟩
        have el : (if y 172 (13 + 16 * p + 0) ≤ S.2.2.2.1 p then y 172 (13 + 16 * p + 0) else S.2.2.2.1 p) = lv := by
          rw [hlv]
          by_cases w : y 172 (13 + 16 * p + 0) < S.2.2.2.1 p
          · rw [if_pos w, if_pos (Int32.le_of_lt w)]
          · rw [if_neg w]
            by_cases w2 : y 172 (13 + 16 * p + 0) ≤ S.2.2.2.1 p
            · rw [if_pos w2]
              have w1 := Int32.le_iff_toInt_le.mp (i_nlt w)
              have w3 := Int32.le_iff_toInt_le.mp w2
              exact Int32.toInt_inj.mp (by omega)
            · rw [if_neg w2]
        have eM : ∀ K : Int32 → Int32 × MM, (xq_lt (S.2.2.2.1 p) fun v721 => if y 172 (13 + 16 * p + 0) ≤ v721 then K (y 172 (13 + 16 * p + 0)) else (xq_lt (S.2.2.2.1 p) fun v734 => K v734)) = K lv := by
          intro K
          rw [xqb, xqb, ← el]
          by_cases w : y 172 (13 + 16 * p + 0) ≤ S.2.2.2.1 p
          · rw [if_pos w, if_pos w]
          · rw [if_neg w, if_neg w]
        rw [xqb (x := S.2.2.2.1 p) (K := fun v153 => _), ← hlv, xqb (x := lv), show Fx_H_putX (iN p) (1 : Int32) lv 79 x g = ms x 80 (16 * p + 1) lv from pu79 (c := 1) p9 (by decide), xqb (x := ms x 80 (16 * p + 1) lv)]
        have e2 := eM (fun v => xq_lt (Fx_M_setX (iN p) (1 : Int32) v y g') fun u729 => Fx_M_twiceX_L65 next others what g' y0 y1 f (iN (p + 1)) u729)
        rw [e2, xqb (x := Fx_M_setX (iN p) (1 : Int32) lv y g'), s1]
        refine ih (p + 1) _ _ (by omega) (by omega) (fun c hc => ?_) (fun c hc => ?_) (fun j j1 => ?_) ?_ ?_ ?_
        · rw [ms_c1 hc, hx c hc]
        · rw [ms_c1 hc, hy c hc]
        · rw [ms_i1 (by omega), hj j j1]
        · rw [ms_a1, ms_a1]
          exact rq_u rq (by decide)
        · rw [ms_a1]
          exact hwf_u hf (by decide) (show Bd 0 24 lv from bl) (fun _ _ _ y => by omega)
        · rw [ms_i1 (by omega), h0]
      · rw [o, if_neg (show ¬ (1 : Int32) = 0 by decide), if_pos (show decide ((1 : Int32) = 1) = true by decide)]
        exact ih (p + 1) x y (by omega) (by omega) hx hy hj rq hf h0
theorem cpE {t f : Nat} {u : MM} {g : GG} : Fx_H_copyX t f u g = Fx_H_copyBX t f u g := rfl
theorem R5_twice {u v u1 v2 : MM} {g g' : GG} {hill plan rain banks next others what z w : Int32} (h : RLY u v) (b5 : Bd 0 2 (u 1 5)) (b7 : Bd 0 3 (u 1 7)) (hd : HD v) (pl : PL v) (e1 : (z, u1) = Fx_P_twiceX hill plan rain banks next others what u g) (e2 : (w, v2) = Fx_M_twiceX hill plan rain banks next others what v g') : z = w := by
  obtain ⟨b, x, y, p1, p2, p3⟩ := lay_Y (g := g) (g' := g') (hill := hill) (plan := plan) h b5 b7 hd pl
  unfold Fx_P_twiceX at e1
  unfold Fx_M_twiceX at e2
  rw [p1, c2_mk] at e1
  rw [xqb, p2, c2_mk] at e2
  cases b
  · rw [if_neg Bool.false_ne_true] at e1 e2
    exact (congrArg Prod.fst e1).trans (congrArg Prod.fst e2).symm
  rw [if_pos rfl] at e1 e2
  obtain ⟨n, m, L⟩ := p3 rfl
  obtain ⟨t, t1, t2, t3⟩ := q_rain (g := g) (g' := g') (r := rain) L
  obtain ⟨s, s1, s2, s3⟩ := q_set (g := g) (g' := g') (s := banks) L
  obtain ⟨t', t1', t2', t3'⟩ := q_rain (g := g) (g' := g') (r := next) L
  obtain ⟨s', s1', s2', s3'⟩ := q_set (g := g) (g' := g') (s := others) L
  rw [xqb, hst_X t1 s1] at e1
  rw [xqb, t2] at e2
  have fin : z = -1 → w = -1 → z = w := fun a b => a.trans b.symm
  cases t
  · rw [if_neg Bool.false_ne_true] at e2
    rw [show (false && s) = false from rfl, if_neg Bool.false_ne_true] at e1
    exact fin (congrArg Prod.fst e1) (congrArg Prod.fst e2)
  rw [show (true && s) = s by cases s <;> rfl] at e1
  rw [if_pos rfl, xqb, t2'] at e2
  cases s
  · rw [if_neg Bool.false_ne_true] at e1
    refine fin (congrArg Prod.fst e1) ?_
    cases t'
    · rw [if_neg Bool.false_ne_true] at e2
      exact congrArg Prod.fst e2
    · rw [if_pos rfl, xqb, s2, if_neg Bool.false_ne_true] at e2
      exact congrArg Prod.fst e2
  rw [if_pos rfl, xqb, hst_X t1' s1'] at e1
  cases t'
  · rw [show (false && s') = false from rfl, if_neg Bool.false_ne_true] at e1
    rw [if_neg Bool.false_ne_true] at e2
    exact fin (congrArg Prod.fst e1) (congrArg Prod.fst e2)
  rw [show (true && s') = s' by cases s' <;> rfl] at e1
  rw [if_pos rfl, xqb, s2, if_pos rfl, xqb, s2'] at e2
  cases s'
  · rw [if_neg Bool.false_ne_true] at e1 e2
    exact fin (congrArg Prod.fst e1) (congrArg Prod.fst e2)
  obtain ⟨i, hi, ri⟩ := t3 rfl
  obtain ⟨i', hi', ri'⟩ := t3' rfl
  obtain ⟨a1, a2, a3⟩ := q_steps (g := g) (g' := g') L hi
  obtain ⟨x1, y1, c1, c2, c3, c4, c5, c6, c7, c8, c9⟩ := st_Y (g := g) (g' := g') (bk := banks) L a3
  have n9 := L.1
  have e10 : (9 - (0 : Int32).toInt).toNat + 1 = 10 := by decide
  rw [if_pos rfl, xqb, ri, a1, xqb, c1, cpE, xqb, xqb] at e1
  rw [if_pos rfl, xqb, ri, a2, xqb, c2, e10] at e2
  obtain ⟨x2, hx2⟩ : ∃ x2, x2 = Fx_H_copyBX 79 44 x1 g := ⟨_, rfl⟩
  rw [← hx2] at e1
  have cp := hcB (u := x1) (g := g) (t := 79) (f := 44) (by omega)
  rw [← hx2] at cp
  obtain ⟨⟨p0, p2', p3', p4', p5', p6'⟩, pc'⟩ := cp
  have hf1 : HWF (y1 172) := c7.2.2.2.2.2.2.2.2.2.2.2.2.2.2
  have y0 : y1 172 0 = iN n := by
    have := c7.2.2.2.2.2.2.2.2.2.2.2.2.2.1
    have g0 := this.1.1
    rw [← g0]
    exact c7.2.2.2.1.1
  unfold Fx_S53_leaveBehindX at e1
  rw [e10] at e1
  have rq : RQ (x2 80) (y1 172) n := by
    intro q c hq hc
    have k := c7.2.2.2.1.2 q c hq hc
    exact (p3' (16 * q + c) (by omega)).trans k
  obtain ⟨x3, y3, k1, k2, k3, k4, k5, k6, k7, k8⟩ := lb_L (x0 := x2) (y0 := y) (y1 := y1) (g := g) (g' := g') (S := stN (rwA y) n (y 172 (5 + 2 * i)) banks (-1) n) (next := next) (others := others) (what := what) n9 (by rw [pc' 53 (by omega)]; exact c6) (by rw [pc' 53 (by omega)]; exact c3.1) L.2.2.2.2.1.1 c4.1 (fun j hj => by rw [pc' 54 (by omega)]; exact c3.2.2.2.1 j hj) c4.2.2.2.2.1 (st_wb n9 L.2.2.2.2.2.1 a3 n (Nat.le_refl _)) 10 0 x2 y1 (by omega) (by omega) (fun _ _ => rfl) (fun _ _ => rfl) (fun _ _ => rfl) rq hf1 y0
  have k1' : Fx_S53_leaveBehindX_L2 79 x2 g 10 0 x2 = x3 := k1
  have k2' : Fx_M_twiceX_L65 next others what g' y y1 10 0 y1 = (xq_lt (Fx_M_stepsOfX next y3 g') fun v662 => xq_lt (Fx_M_blowX v662 others y3 g') fun u665 => xq_lt (Fx_M_toldX what u665 g') fun v671 => (v671, u665)) := k2
  rw [k1'] at e1
  rw [k2'] at e2
  have ha3 : HA x3 79 n (rwA y3) := ⟨by rw [k3 79 (by decide), p0]; exact c7.2.2.2.1.1, fun p c hp hc => k6 p c hp hc⟩
  have ma3 : RMA y3 n (rwA y3) := ⟨by rw [k4 162 (by decide)]; exact c7.2.2.2.2.1.1, fun _ _ _ _ => rfl⟩
  have aw3 : AWF n (rwA y3) := by
    obtain ⟨n', m', n9', m4', f0, f1, fr, fd, fp⟩ := k7.1
    have en : n' = n := (iN_eq (by omega) (by omega)).mp (f0.symm.trans k8)
    intro p hp
    have k := fp p (by omega)
    rw [en] at k
    exact k
  have m4 := L.2.2.1
  obtain ⟨r46, r47, r9⟩ := c7.2.2.2.2.2.2.2.2.1 i' hi'
  have st1 : Fx_H_stepsOfX (iN i') 79 x3 g = y1 172 (5 + 2 * i') := by
    unfold Fx_H_stepsOfX
    rw [if_neg (show ¬ iN i' < (0 : Int32) from fun z => by have := (iN_lt (b := 0) (by omega) (by omega)).mp z; omega), k3 79 (by decide), p2', c7.2.2.2.2.2.2.1, if_neg (fun z => by have := (iN_le (by omega) (by omega)).mp z; omega), xqb, iN_cl (by omega), k3 (79 + 2) (by decide), p4' i' (by omega)]
    exact r46
  have st2 : Fx_M_stepsOfX (iN i') y3 g' = y1 172 (5 + 2 * i') := by
    unfold Fx_M_stepsOfX
    have e : ((5 : Int32) + ((2 : Int32) * iN i')).toNatClampNeg = 5 + 2 * i' := by
      show (iN 5 + iN 2 * iN i').toNatClampNeg = _
      rw [iN_m, iN_a, iN_cl (by omega)]
    rw [k4 162 (by decide), c7.2.2.2.2.2.2.2.2.2.2.2.2.1, if_pos rfl, xqb, e]
    exact k5 _ (by omega)
  obtain ⟨x4, d0, d1, d2, d3, d4⟩ := rn53_X (g := g) (st := y1 172 (5 + 2 * i')) (bk := others) (kp := -1) ha3 (by decide) n9
  obtain ⟨y4, f0, f1, f2, f3⟩ := rbl_X (g := g') (bk := others) ma3 n9 aw3 (by rw [k4 162 (by decide)]; exact c7.2.2.2.2.2.2.2.2.2.2.2.1) r9.1
  rw [xqb, ri', st1, xqb, d0, xqb] at e1
  rw [ri', st2, xqb, xqb, f0, xqb] at e2
  have ma4 : RMA y4 n (rwA y3) := ma_c ma3 (f3 22 (by decide) (by decide) (by decide)) (f2 172 (by decide) (by decide) (by decide) (by decide))
  exact (congrArg Prod.fst e1).trans ((tl_X n9 d1 d4 d2 f1 ma4).trans (congrArg Prod.fst e2).symm)
end
