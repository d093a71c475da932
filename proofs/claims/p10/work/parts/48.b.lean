/-! storms asked for: storm, runs, safe, spared, brings -/
theorem ldf_c {x y x1 y1 : MM} {n m : Nat} (L : LDF x y n m) (hx : ∀ c, 43 ≤ c → c ≤ 48 → x1 c = x c) (hy : y1 172 = y 172) (hj : ∀ j, 22 ≤ j → j ≤ 27 → y1 162 j = y 162 j) : LDF x1 y1 n m := by
  obtain ⟨n9, m1, m4, ha, ma, aw, x2, y1', hr, hd, h3, k26, k27, s, hf⟩ := L
  have er : rwA y1 = rwA y := by
    funext p c
    unfold rwA
    rw [hy]
  refine ⟨n9, m1, m4, ?_, ?_, ?_, ?_, ?_, fun i hi => ?_, fun i hi => ?_, ?_, ?_, ?_, ?_, ?_⟩
  · rw [er]; exact ha_c ha (hx 44 (by decide) (by decide)) (hx 45 (by decide) (by decide))
  · rw [er]; exact ma_c ma (hj 22 (by decide) (by decide)) hy
  · rw [er]; exact aw
  · rw [hx 44 (by decide) (by decide)]; exact x2
  · rw [hy]; exact y1'
  · rw [hx 46 (by decide) (by decide), hx 47 (by decide) (by decide), hy]; exact hr i hi
  · rw [hx 48 (by decide) (by decide), hy]; exact hd i hi
  · rw [hy]; exact h3
  · rw [hj 26 (by decide) (by decide)]; exact k26
  · rw [hj 27 (by decide) (by decide)]; exact k27
  · unfold SIT GRW at s ⊢
    rw [hx 43 (by decide) (by decide), hx 44 (by decide) (by decide), hx 45 (by decide) (by decide), hx 46 (by decide) (by decide), hx 47 (by decide) (by decide), hx 48 (by decide) (by decide), hy, hj 22 (by decide) (by decide), hj 23 (by decide) (by decide), hj 24 (by decide) (by decide), hj 25 (by decide) (by decide), hj 26 (by decide) (by decide), hj 27 (by decide) (by decide)]
    exact s
  · rw [hy]; exact hf
/-- a storm on both sides -/
theorem st_Y {x y : MM} {g g' : GG} {n m : Nat} {st bk : Int32} (L : LDF x y n m) (bs : Bd 0 9 st) : ∃ x1 y1, Fx_S53_runX st bk (-1) 44 x g = x1 ∧ Fx_M_blowX st bk y g' = y1 ∧ CS53 x1 (stN (rwA y) n st bk (-1) n) n ∧ RS y1 (stN (rwA y) n st bk (-1) n) n n ∧ x1 53 2 = hrm (rwA y) (stN (rwA y) n st bk (-1) n).1 n ∧ x1 53 0 = iN n ∧ LDF x1 y1 n m ∧ LDF x1 y n m ∧ rwA y1 = rwA y := by
  have L2 := L
  obtain ⟨n9, m1, m4, ha, ma, aw, -, -, -, -, -, k26, -⟩ := L2
  obtain ⟨x1, a0, a1, a2, a3, a4⟩ := rn53_X (g := g) (st := st) (bk := bk) (kp := -1) ha (by decide) n9
  obtain ⟨y1, b0, b1, b2, b3⟩ := rbl_X (g := g') (bk := bk) ma n9 aw k26 bs
  have e172 : y1 172 = y 172 := b2 172 (by decide) (by decide) (by decide) (by decide)
  refine ⟨x1, y1, a0, b0, a1, b1, a2, a4, ldf_c L (fun c c1 c2 => a3 c (by omega)) e172 (fun j j1 j2 => b3 j (by omega) (by omega) (by omega)), ldf_c L (fun c c1 c2 => a3 c (by omega)) rfl (fun _ _ _ => rfl), ?_⟩
  funext p c
  unfold rwA
  rw [e172]
theorem q_steps {x y : MM} {g g' : GG} {n m i : Nat} (L : LDF x y n m) (hi : i < m) : Fx_H_stepsOfX (iN i) 44 x g = y 172 (5 + 2 * i) ∧ Fx_M_stepsOfX (iN i) y g' = y 172 (5 + 2 * i) ∧ Bd 0 9 (y 172 (5 + 2 * i)) := by
  obtain ⟨n9, m1, m4, ha, ma, aw, x2, y1', hr, hd, h3, k26, k27, s, hf⟩ := L
  obtain ⟨r1, r2, r3⟩ := hr i hi
  refine ⟨?_, ?_, r3.1⟩
  · unfold Fx_H_stepsOfX
    rw [if_neg (fun z => by have := (iN_lt (b := 0) (by omega) (by omega)).mp z; omega), x2, if_neg (fun z => by have := (iN_le (by omega) (by omega)).mp z; omega), xqb, iN_cl (by omega)]
    exact r1
  · unfold Fx_M_stepsOfX
    rw [k27, if_pos rfl, xqb]
    have e : ((5 : Int32) + ((2 : Int32) * iN i)).toNatClampNeg = 5 + 2 * i := by
      show (iN 5 + iN 2 * iN i).toNatClampNeg = _
      rw [iN_m, iN_a, iN_cl (by omega)]
    rw [e]
theorem heard_e {s : Int32} {q : Nat} : ((s >>> (iN q &&& 31)) &&& 1) = if inB s q = true then 1 else 0 := by
  unfold inB
  by_cases h : ((s >>> (iN q &&& 31)) &&& 1) = 1
  · rw [decide_eq_true h, if_pos rfl]; exact h
  · rw [decide_eq_false h, if_neg (by decide)]
    exact Int32.toInt_inj.mp (bit01 h)
theorem dv10 : ∀ w, w < 50 → iN w / 10 = iN (w / 10) ∧ iN w - iN w / 10 * 10 = iN (w % 10) := by decide +kernel
/-- what is told of a storm -/
def tolS (A : Nat → Nat → Int32) (n : Nat) (S : ST) (w : Nat) : Int32 := if 10 ≤ w ∧ w < 10 + n then S.2.2.2.1 (w - 10) else if 20 ≤ w ∧ w < 20 + n then S.2.2.2.2 (w - 20) else if 30 ≤ w ∧ w < 30 + n then (if inB S.2.1 (w - 30) = true then 1 else 0) else if w = 0 then S.1 else if w = 1 then hrm A S.1 n else if w = 40 then S.2.2.1 else -1
theorem tl_row {row pond : Int32} {x : MM} {g : GG} (h1 : ¬ row = 1) (h2 : ¬ row = 2) (h3 : ¬ row = 3) : Fx_S53_toldOfPondX row pond x g = -1 := by
  unfold Fx_S53_toldOfPondX
  rw [if_neg h1, if_neg h2, if_neg h3]
  by_cases a : pond < 0
  · rw [if_pos a]
  · rw [if_neg a]
    by_cases b : pond < x 53 0
    · rw [if_pos b]
    · rw [if_neg b]
theorem tl_P {x : MM} {g : GG} {A : Nat → Nat → Int32} {n w : Nat} {S : ST} (hw : w < 50) (n9 : n ≤ 9) (cs : CS53 x S n) (h0 : x 53 0 = iN n) (hm : x 53 2 = hrm A S.1 n) : Fx_S53_toldX (iN w) x g = tolS A n S w := by
  obtain ⟨c1, c3, c4, cW, cL⟩ := cs
  have e0 : iN w = 0 ↔ w = 0 := iN_eq (b := 0) (by omega) (by omega)
  have e1 : iN w = 1 ↔ w = 1 := iN_eq (b := 1) (by omega) (by omega)
  have e40 : iN w = 40 ↔ w = 40 := iN_eq (b := 40) (by omega) (by omega)
  unfold Fx_S53_toldX tolS
  by_cases q0 : w = 0
  · rw [if_pos (e0.mpr q0), if_neg (by omega), if_neg (by omega), if_neg (by omega), if_pos q0]
    exact c1
  rw [if_neg (fun z => q0 (e0.mp z))]
  by_cases q1 : w = 1
  · rw [if_pos (e1.mpr q1), if_neg (by omega), if_neg (by omega), if_neg (by omega), if_neg q0, if_pos q1]
    exact hm
  rw [if_neg (fun z => q1 (e1.mp z))]
  by_cases q40 : w = 40
  · rw [if_pos (e40.mpr q40), if_neg (by omega), if_neg (by omega), if_neg (by omega), if_neg q0, if_neg q1, if_pos q40]
    exact c4
  obtain ⟨d1, d2⟩ := dv10 w hw
  have f1 : iN (w / 10) = (1 : Int32) ↔ w / 10 = 1 := iN_eq (b := 1) (by omega) (by omega)
  have f2 : iN (w / 10) = (2 : Int32) ↔ w / 10 = 2 := iN_eq (b := 2) (by omega) (by omega)
  have f3 : iN (w / 10) = (3 : Int32) ↔ w / 10 = 3 := iN_eq (b := 3) (by omega) (by omega)
  rw [if_neg (fun z => q40 (e40.mp z)), xqb, d2, d1]
  by_cases row : w / 10 = 1 ∨ w / 10 = 2 ∨ w / 10 = 3
  rotate_left
  · rw [tl_row (fun z => row (Or.inl (f1.mp z))) (fun z => row (Or.inr (Or.inl (f2.mp z)))) (fun z => row (Or.inr (Or.inr (f3.mp z)))), if_neg (by omega), if_neg (by omega), if_neg (by omega), if_neg q0, if_neg q1, if_neg q40]
  unfold Fx_S53_toldOfPondX
  rw [if_neg (fun z => by have := (iN_lt (b := 0) (by omega) (by omega)).mp z; omega), h0]
  by_cases pn : w % 10 < n
  · rw [if_pos ((iN_lt (by omega) (by omega)).mpr pn), iN_cl (by omega), xqb, xqb]
    rcases row with q | q | q
    · rw [if_pos (f1.mpr q), if_pos (by omega), cW _ (by omega), show w - 10 = w % 10 by omega]
    · rw [if_neg (fun z => by have := f1.mp z; omega), if_pos (f2.mpr q), if_neg (by omega), if_pos (by omega), cL _ (by omega), show w - 20 = w % 10 by omega]
    · rw [if_neg (fun z => by have := f1.mp z; omega), if_neg (fun z => by have := f2.mp z; omega), if_pos (f3.mpr q), if_neg (by omega), if_neg (by omega), if_pos (by omega), c3, heard_e, show w - 30 = w % 10 by omega]
  · rw [if_neg (fun z => pn ((iN_lt (by omega) (by omega)).mp z)), if_neg (by omega), if_neg (by omega), if_neg (by omega), if_neg q0, if_neg q1, if_neg q40]
theorem tl_in {w a n : Nat} (hw : w < 50) (n9 : n ≤ 9) (ha : a ≤ 40) : ((decide (iN a ≤ iN w) && decide (iN w ≤ iN (a - 1) + iN n)) = true ↔ a ≤ w ∧ w < a + n) ∨ a = 0 := by
  by_cases a0 : a = 0
  · exact Or.inr a0
  left
  rw [iN_a]
  refine ⟨fun z => ?_, fun z => ?_⟩
  · obtain ⟨z1, z2⟩ := (Bool.and_eq_true _ _).mp z
    have y1 := (iN_le (by omega) (by omega)).mp (of_decide_eq_true z1)
    have y2 := (iN_le (by omega) (by omega)).mp (of_decide_eq_true z2)
    omega
  · rw [decide_eq_true ((iN_le (by omega) (by omega)).mpr z.1), decide_eq_true ((iN_le (by omega) (by omega)).mpr (by omega))]
    rfl
theorem tl_M {y : MM} {g : GG} {A : Nat → Nat → Int32} {n w : Nat} {S : ST} (hw : w < 50) (n9 : n ≤ 9) (rs : RS y S n n) (ma : RMA y n A) : Fx_M_toldX (iN w) y g = tolS A n S w := by
  obtain ⟨r1, r2, r3, r4, r5, r6⟩ := rs
  have i10 : (decide ((10 : Int32) ≤ iN w) && decide (iN w ≤ (9 : Int32) + iN n)) = true ↔ 10 ≤ w ∧ w < 10 + n := (tl_in (a := 10) hw n9 (by omega)).resolve_right (by omega)
  have i20 : (decide ((20 : Int32) ≤ iN w) && decide (iN w ≤ (19 : Int32) + iN n)) = true ↔ 20 ≤ w ∧ w < 20 + n := (tl_in (a := 20) hw n9 (by omega)).resolve_right (by omega)
  have i30 : (decide ((30 : Int32) ≤ iN w) && decide (iN w ≤ (29 : Int32) + iN n)) = true ↔ 30 ≤ w ∧ w < 30 + n := (tl_in (a := 30) hw n9 (by omega)).resolve_right (by omega)
  have e0 : iN w = (0 : Int32) ↔ w = 0 := iN_eq (b := 0) (by omega) (by omega)
  have e1 : iN w = (1 : Int32) ↔ w = 1 := iN_eq (b := 1) (by omega) (by omega)
  have e40 : iN w = (40 : Int32) ↔ w = 40 := iN_eq (b := 40) (by omega) (by omega)
  have hh : Fx_M_harmOfX ((-1) : Int32) y g = hrm A S.1 n := by rw [ho_X ma n9, hro_all, r1]
  have s10 : 10 ≤ w → iN w - 10 = iN (w - 10) := fun h => iN_sub (b := 10) h
  have s20 : 20 ≤ w → iN w - 20 = iN (w - 20) := fun h => iN_sub (b := 20) h
  have s30 : 30 ≤ w → iN w - 30 = iN (w - 30) := fun h => iN_sub (b := 30) h
  unfold Fx_M_toldX tolS
  rw [xqb, in_X, ma.1]
  by_cases q10 : 10 ≤ w ∧ w < 10 + n
  · rw [if_pos (i10.mpr q10), if_pos q10, xqb, s10 q10.1, iN_cl (by omega)]
    exact r5 _ (by omega)
  rw [if_neg (fun z => q10 (i10.mp z)), if_neg q10, xqb, in_X]
  by_cases q20 : 20 ≤ w ∧ w < 20 + n
  · rw [if_pos (i20.mpr q20), if_pos q20, xqb, s20 q20.1, iN_cl (by omega)]
    exact r6 _ (by omega)
  rw [if_neg (fun z => q20 (i20.mp z)), if_neg q20, xqb, in_X]
  by_cases q30 : 30 ≤ w ∧ w < 30 + n
  · rw [if_pos (i30.mpr q30), if_pos q30, xqb, s30 q30.1, hasI, r2]
  rw [if_neg (fun z => q30 (i30.mp z)), if_neg q30, hh, xqb, r1, r3]
  by_cases q0 : w = 0
  · rw [if_pos (e0.mpr q0), if_pos q0]
  rw [if_neg (fun z => q0 (e0.mp z)), if_neg q0]
  by_cases q1 : w = 1
  · rw [if_pos (e1.mpr q1), if_pos q1]
  rw [if_neg (fun z => q1 (e1.mp z)), if_neg q1]
  by_cases q40 : w = 40
  · rw [if_pos (e40.mpr q40), if_pos q40]
  · rw [if_neg (fun z => q40 (e40.mp z)), if_neg q40]
theorem tl_X {x y : MM} {g g' : GG} {A : Nat → Nat → Int32} {n : Nat} {S : ST} {what : Int32} (n9 : n ≤ 9) (cs : CS53 x S n) (h0 : x 53 0 = iN n) (hm : x 53 2 = hrm A S.1 n) (rs : RS y S n n) (ma : RMA y n A) : Fx_S53_toldX what x g = Fx_M_toldX what y g' := by
  by_cases h : 0 ≤ what.toInt ∧ what.toInt ≤ 49
  · obtain ⟨w, hw, w49⟩ := iN_ex (v := what) (hi := 49) ⟨h.1, h.2⟩
    rw [hw, tl_P (by omega) n9 cs h0 hm, tl_M (by omega) n9 rs ma]
  · have l0 : (0 : Int32).toInt = 0 := rfl
    have l1 : (1 : Int32).toInt = 1 := rfl
    have l2 : (2 : Int32).toInt = 2 := rfl
    have l3 : (3 : Int32).toInt = 3 := rfl
    have l10 : (10 : Int32).toInt = 10 := rfl
    have l20 : (20 : Int32).toInt = 20 := rfl
    have l30 : (30 : Int32).toInt = 30 := rfl
    have l40 : (40 : Int32).toInt = 40 := rfl
    have k9 : ((9 : Int32) + iN n).toInt = 9 + n := by show (iN 9 + iN n).toInt = _; rw [iN_a, iN_ti (by omega)]; omega
    have k19 : ((19 : Int32) + iN n).toInt = 19 + n := by show (iN 19 + iN n).toInt = _; rw [iN_a, iN_ti (by omega)]; omega
    have k29 : ((29 : Int32) + iN n).toInt = 29 + n := by show (iN 29 + iN n).toInt = _; rw [iN_a, iN_ti (by omega)]; omega
    have hrow : (what / 10).toInt < 1 ∨ 5 ≤ (what / 10).toInt := by
      by_cases s : 0 ≤ what.toInt
      · right
        rw [ti_div s (by omega), l10]
        omega
      · left
        rw [Int32.toInt_div_of_ne_right _ _ (by decide), l10]
        have e : what.toInt.tdiv 10 = -((-what.toInt).tdiv 10) := by rw [Int.neg_tdiv]; omega
        have p : 0 ≤ (-what.toInt).tdiv 10 := Int.tdiv_nonneg (by omega) (by omega)
        omega
    have eP : Fx_S53_toldX what x g = -1 := by
      unfold Fx_S53_toldX
      rw [if_neg (neI (by omega)), if_neg (neI (by omega)), if_neg (neI (by omega)), xqb]
      exact tl_row (neI (by omega)) (neI (by omega)) (neI (by omega))
    have eM : Fx_M_toldX what y g' = -1 := by
      unfold Fx_M_toldX
      rw [xqb, in_X, ma.1, if_neg (inF (by omega)), xqb, in_X, if_neg (inF (by omega)), xqb, in_X, if_neg (inF (by omega)), if_neg (neI (by omega)), if_neg (neI (by omega)), if_neg (neI (by omega))]
    rw [eP, eM]
theorem hst_X {x : MM} {g : GG} {r s : Int32} {a b : Bool} (h1 : Fx_H_hasRainX r 44 x g = a) (h2 : Fx_H_hasSetX s 44 x g = b) : Fx_H_hasStormX r s 44 x g = (a && b) := by
  unfold Fx_H_hasStormX
  rw [xqb, h1, xqb, h2]
  cases a <;> cases b <;> rfl
theorem R5_storm {u v u1 v2 : MM} {g g' : GG} {hill plan rain banks what z w : Int32} (h : RLY u v) (b5 : Bd 0 2 (u 1 5)) (b7 : Bd 0 3 (u 1 7)) (hd : HD v) (pl : PL v) (e1 : (z, u1) = Fx_P_stormX hill plan rain banks what u g) (e2 : (w, v2) = Fx_M_stormX hill plan rain banks what v g') : z = w := by
  obtain ⟨b, x, y, p1, p2, p3⟩ := lay_Y (g := g) (g' := g') (hill := hill) (plan := plan) h b5 b7 hd pl
  unfold Fx_P_stormX at e1
  unfold Fx_M_stormX at e2
  rw [p1, c2_mk] at e1
  rw [xqb, p2, c2_mk] at e2
  cases b
  · rw [if_neg (by decide)] at e1 e2
    exact (congrArg Prod.fst e1).trans (congrArg Prod.fst e2).symm
  rw [if_pos rfl, xqb] at e1
  rw [if_pos rfl, xqb] at e2
  obtain ⟨n, m, L⟩ := p3 rfl
  obtain ⟨t, t1, t2, t3⟩ := q_rain (g := g) (g' := g') (r := rain) L
  obtain ⟨s, s1, s2, s3⟩ := q_set (g := g) (g' := g') (s := banks) L
  rw [hst_X t1 s1] at e1
  rw [t2] at e2
  cases t
  · rw [if_neg Bool.false_ne_true] at e2
    rw [show (false && s) = false from rfl, if_neg Bool.false_ne_true] at e1
    exact (congrArg Prod.fst e1).trans (congrArg Prod.fst e2).symm
  rw [if_pos rfl, xqb, s2] at e2
  rw [show (true && s) = s by cases s <;> rfl] at e1
  cases s
  · rw [if_neg Bool.false_ne_true] at e1 e2
    exact (congrArg Prod.fst e1).trans (congrArg Prod.fst e2).symm
  obtain ⟨i, hi, ri⟩ := t3 rfl
  obtain ⟨a1, a2, a3⟩ := q_steps (g := g) (g' := g') L hi
  obtain ⟨x1, y1, c1, c2, c3, c4, c5, c6, c7, c8, c9⟩ := st_Y (g := g) (g' := g') (bk := banks) L a3
  rw [if_pos rfl, xqb, ri, a1, xqb, c1, xqb] at e1
  rw [if_pos rfl, xqb, ri, a2, xqb, c2, xqb] at e2
  have ma := c7.2.2.2.2.1
  rw [c9] at ma
  exact (congrArg Prod.fst e1).trans ((tl_X L.1 c3 c6 c5 c4 ma).trans (congrArg Prod.fst e2).symm)
