/-! answers: hill, work -/
theorem ltI {a b : Int32} (h : a.toInt < b.toInt) : a < b := Int32.lt_iff_toInt_lt.mpr h
theorem leI {a b : Int32} (h : a.toInt ≤ b.toInt) : a ≤ b := Int32.le_iff_toInt_le.mpr h
theorem nltI {a b : Int32} (h : b.toInt ≤ a.toInt) : ¬ a < b := fun q => by have := Int32.lt_iff_toInt_lt.mp q; omega
theorem nleI {a b : Int32} (h : b.toInt < a.toInt) : ¬ a ≤ b := fun q => by have := Int32.le_iff_toInt_le.mp q; omega
theorem neI {a b : Int32} (h : a.toInt ≠ b.toInt) : ¬ a = b := fun q => h (by rw [q])
theorem inT {v lo hi : Int32} (h1 : lo.toInt ≤ v.toInt) (h2 : v.toInt ≤ hi.toInt) : (decide (lo ≤ v) && decide (v ≤ hi)) = true := by
  rw [decide_eq_true (leI h1), decide_eq_true (leI h2)]
  rfl
theorem inF {v lo hi : Int32} (h : v.toInt < lo.toInt ∨ hi.toInt < v.toInt) : ¬ (decide (lo ≤ v) && decide (v ≤ hi)) = true := by
  intro q
  obtain ⟨q1, q2⟩ := (Bool.and_eq_true _ _).mp q
  have a1 := Int32.le_iff_toInt_le.mp (of_decide_eq_true q1)
  have a2 := Int32.le_iff_toInt_le.mp (of_decide_eq_true q2)
  omega
theorem fst_ite {α β : Type} {c : Prop} {i : Decidable c} {a b : α × β} : (if c then a else b).1 = if c then a.1 else b.1 := by split <;> rfl
/-- a number below a count, or none -/
theorem nb_cl {c x : Int32} {n : Nat} (hc : c = iN n) (hn : n ≤ 1000) : (∃ k, k < n ∧ x = iN k ∧ ¬ x < 0 ∧ ¬ c ≤ x ∧ (decide (0 ≤ x) && decide (x ≤ c - 1)) = true) ∨ ((x < 0 ∨ (¬ x < 0 ∧ c ≤ x)) ∧ ¬ (decide (0 ≤ x) && decide (x ≤ c - 1)) = true) := by
  have l0 : (0 : Int32).toInt = 0 := rfl
  have l1 : (1 : Int32).toInt = 1 := rfl
  have tc : c.toInt = n := by rw [hc, iN_ti (by omega)]
  have tp : (c - 1).toInt = (n : Int) - 1 := by rw [ti_sub (by omega) (by omega), tc, l1]
  by_cases h1 : x.toInt < 0
  · exact Or.inr ⟨Or.inl (ltI (by omega)), inF (Or.inl (by omega))⟩
  · by_cases h2 : (n : Int) ≤ x.toInt
    · exact Or.inr ⟨Or.inr ⟨nltI (by omega), leI (by omega)⟩, inF (Or.inr (by omega))⟩
    · obtain ⟨k, hk, hk2⟩ := iN_ex (v := x) (hi := n) ⟨by omega, by omega⟩
      have tk : x.toInt = k := by rw [hk, iN_ti (by omega)]
      exact Or.inl ⟨k, by omega, hk, nltI (by omega), nleI (by omega), inT (by omega) (by omega)⟩
theorem hs_t {x : Int32} {u : MM} {g : GG} (h1 : ¬ x < 0) (h2 : ¬ u 1 5 ≤ x) : Fx_T_hasHillX x u g = true := by unfold Fx_T_hasHillX; rw [if_neg h1, if_neg h2]
theorem hs_f {x : Int32} {u : MM} {g : GG} (h : x < 0 ∨ (¬ x < 0 ∧ u 1 5 ≤ x)) : Fx_T_hasHillX x u g = false := by
  unfold Fx_T_hasHillX
  rcases h with h | ⟨h, q⟩
  · rw [if_pos h]
  · rw [if_neg h, if_pos q]
theorem ih_X {x : Int32} {u : MM} {g : GG} : Fx_M_isHillX x u g = (decide (0 ≤ x) && decide (x ≤ u 167 0 - 1)) := by
  unfold Fx_M_isHillX
  simp only [xq_lt, in_X]
theorem ix1 {k j : Nat} (hk : k ≤ 12) (hj : j ≤ 1000) : (((157 : Int32) * iN k) + iN j).toNatClampNeg = 157 * k + j := by
  show ((iN 157 * iN k) + iN j).toNatClampNeg = _
  rw [iN_m, iN_a, iN_cl (by omega)]
theorem R5_hill {u v v2 : MM} {g g' : GG} {hill what z w : Int32} (h : RLX u v) (b5 : Bd 0 2 (u 1 5)) (hd : HD v) (e1 : z = Fx_P_hillX hill what u g) (e2 : (w, v2) = Fx_M_hillX hill what v g') : z = w := by
  obtain ⟨t0, t1, t2, t3, t5, t7, th, tw⟩ := h.1
  obtain ⟨n, hn, n2⟩ := iN_ex (hi := 2) b5
  have v5 : v 167 0 = iN n := t5.symm.trans hn
  obtain ⟨y, hy⟩ : ∃ y, y = ms v 162 0 0 := ⟨_, rfl⟩
  have y7 : y 167 = v 167 := by rw [hy]; rfl
  have y8 : y 168 = v 168 := by rw [hy]; rfl
  have e3 := congrArg Prod.fst e2
  unfold Fx_M_hillX at e3
  simp only [xq_lt] at e3
  rw [← hy] at e3
  simp only [ih_X, in_X, fst_ite, y7, y8, v5] at e3
  unfold Fx_P_hillX at e1
  simp only [xq_lt] at e1
  rcases nb_cl (x := hill) (c := u 1 5) hn (by omega) with ⟨k, k1, k2, k3, k4, k5⟩ | ⟨k3, k5⟩
  rotate_left
  · rw [hs_f k3, if_neg (by decide)] at e1
    rw [hn] at k5
    rw [if_neg k5] at e3
    exact e1.trans e3.symm
  rw [hn] at k5
  rw [if_pos k5, k2] at e3
  have e4 : z = Fx_H_toldX what (5 + 5 * k) u g := by
    rw [hs_t k3 k4, if_pos rfl, k2] at e1
    rcases (show k = 0 ∨ k = 1 by omega) with q | q <;> subst q
    · rw [if_pos (by decide)] at e1; exact e1
    · rw [if_neg (by decide)] at e1; exact e1
  have hr := th k (by omega) (by rw [hn, iN_ti (by omega)]; omega)
  obtain ⟨r0, r1, r2, r3, r4⟩ := hr
  have bm : Bd 0 4 (v 168 (314 * 0 + (157 * k + 1))) := by
    have := (hd k (by omega)).2.2
    rw [show 314 * 0 + (157 * k + 1) = 157 * k + 1 by omega]
    exact this
  obtain ⟨m, hm, m4⟩ := iN_ex (hi := 4) bm
  have um : u (5 + 5 * k) 2 = iN m := r1.trans hm
  have vm : v 168 (157 * k + 1) = iN m := by rw [← hm]; exact congrArg (v 168) (by omega)
  have ei1 : (((157 : Int32) * iN k) + 1).toNatClampNeg = 157 * k + 1 := ix1 (j := 1) (by omega) (by omega)
  rw [ei1, vm] at e3
  have l0 : (0 : Int32).toInt = 0 := rfl
  have l1 : (1 : Int32).toInt = 1 := rfl
  have l2 : (2 : Int32).toInt = 2 := rfl
  have l4 : (4 : Int32).toInt = 4 := rfl
  have l10 : (10 : Int32).toInt = 10 := rfl
  have l20 : (20 : Int32).toInt = 20 := rfl
  have r9 : ((9 : Int32) + iN m).toInt = 9 + m := by
    show (iN 9 + iN m).toInt = _
    rw [iN_a, iN_ti (by omega)]
    omega
  have r19 : ((19 : Int32) + iN m).toInt = 19 + m := by
    show (iN 19 + iN m).toInt = _
    rw [iN_a, iN_ti (by omega)]
    omega
  have rm : (iN m).toInt = m := iN_ti (by omega)
  have bw := bd_any what
  unfold Fx_H_toldX at e4
  simp only [xq_lt] at e4
  have R : ∀ {o : Nat}, v 168 (314 * 0 + (157 * k + o)) = v 168 (157 * k + o) := fun {o} => congrArg (v 168) (by omega)
  by_cases w0 : what.toInt < 0
  · rw [if_neg (neI (by omega)), if_neg (neI (by omega)), if_pos (ltI (by omega)), if_pos (ltI (by omega)), if_pos (ltI (by omega))] at e4
    rw [if_neg (inF (by omega)), if_neg (inF (by omega)), if_neg (inF (by omega))] at e3
    exact e4.trans e3.symm
  by_cases w4 : what.toInt ≤ 4
  · rw [if_pos (inT (by omega) (by omega))] at e3
    obtain ⟨q, hq, q4⟩ := iN_ex (v := what) (hi := 4) ⟨by omega, w4⟩
    rw [hq] at e3 e4
    rw [ix1 (by omega) (by omega)] at e3
    rw [e3]
    rcases (show q = 0 ∨ q = 1 ∨ q = 2 ∨ q = 3 ∨ q = 4 by omega) with y | y | y | y | y <;> subst y
    · rw [if_pos (by decide)] at e4
      exact e4.trans (r0.trans R)
    · rw [if_neg (by decide), if_pos (by decide)] at e4
      exact e4.trans (r1.trans R)
    · rw [if_neg (by decide), if_neg (by decide), if_neg (by decide), if_neg (by decide)] at e4
      exact e4.trans ((r2 0 (by omega)).trans R)
    · rw [if_neg (by decide), if_neg (by decide), if_neg (by decide), if_neg (by decide)] at e4
      exact e4.trans ((r2 1 (by omega)).trans R)
    · rw [if_neg (by decide), if_neg (by decide), if_neg (by decide), if_neg (by decide)] at e4
      exact e4.trans ((r2 2 (by omega)).trans R)
  rw [if_neg (neI (by omega)), if_neg (neI (by omega)), if_neg (nltI (by omega)), if_pos (ltI (by omega))] at e4
  rw [if_neg (inF (by omega))] at e3
  by_cases w10 : what.toInt < 10
  · rw [if_pos (ltI (by omega)), if_pos (ltI (by omega))] at e4
    rw [if_neg (inF (by omega)), if_neg (inF (by omega))] at e3
    exact e4.trans e3.symm
  have s10 : (what - 10).toInt = what.toInt - 10 := by rw [ti_sub (by omega) (by omega), l10]
  have s20 : (what - 20).toInt = what.toInt - 20 := by rw [ti_sub (by omega) (by omega), l20]
  rw [if_neg (nltI (by omega))] at e4
  have hR : ∀ x : Int32, 0 ≤ x.toInt → x.toInt < m → Fx_H_hasRainX x (5 + 5 * k) u g = true := by
    intro x x1 x2
    unfold Fx_H_hasRainX
    rw [if_neg (nltI (by omega)), if_neg (nleI (by rw [um]; omega))]
  have hRn : ∀ x : Int32, x.toInt < 0 ∨ (m : Int) ≤ x.toInt → Fx_H_hasRainX x (5 + 5 * k) u g = false := by
    intro x hx
    unfold Fx_H_hasRainX
    by_cases x1 : x.toInt < 0
    · rw [if_pos (ltI (by omega))]
    · rw [if_neg (nltI (by omega)), if_pos (leI (by rw [um]; omega))]
  by_cases w14 : what.toInt < 10 + m
  · rw [hR _ (by omega) (by omega), if_pos rfl] at e4
    rw [if_pos (inT (by omega) (by omega))] at e3
    obtain ⟨q, hq, q4⟩ := iN_ex (v := what - 10) (hi := 3) ⟨by omega, by omega⟩
    have tq : (what - 10).toInt = q := by rw [hq, iN_ti (by omega)]
    unfold Fx_H_stepsOfX at e4
    rw [if_neg (nltI (by omega)), if_neg (nleI (by rw [um]; omega))] at e4
    rw [hq] at e3 e4
    rw [iN_cl (by omega)] at e4
    have ei : ((((157 : Int32) * iN k) + 5) + ((2 : Int32) * iN q)).toNatClampNeg = 157 * k + (5 + 2 * q) := by
      show (((iN 157 * iN k) + iN 5) + (iN 2 * iN q)).toNatClampNeg = _
      rw [iN_m, iN_m, iN_a, iN_a, iN_cl (by omega)]
      omega
    rw [ei] at e3
    rw [e3]
    have r3' := (r3 q (by omega) (by rw [hm, iN_ti (by omega)]; omega)).1
    exact e4.trans (r3'.trans R)
  rw [hRn _ (Or.inr (by omega)), if_neg (by decide)] at e4
  rw [if_neg (inF (by omega))] at e3
  by_cases w20 : what.toInt < 20
  · rw [if_pos (ltI (by omega))] at e4
    rw [if_neg (inF (by omega))] at e3
    exact e4.trans e3.symm
  rw [if_neg (nltI (by omega))] at e4
  by_cases w24 : what.toInt < 20 + m
  · rw [hR _ (by omega) (by omega), if_pos rfl] at e4
    rw [if_pos (inT (by omega) (by omega))] at e3
    obtain ⟨q, hq, q4⟩ := iN_ex (v := what - 20) (hi := 3) ⟨by omega, by omega⟩
    have tq : (what - 20).toInt = q := by rw [hq, iN_ti (by omega)]
    unfold Fx_H_chanceOfX at e4
    rw [if_neg (nltI (by omega)), if_neg (nleI (by rw [um]; omega))] at e4
    rw [hq] at e3 e4
    rw [iN_cl (by omega)] at e4
    have ei : (((((157 : Int32) * iN k) + 5) + ((2 : Int32) * iN q)) + 1).toNatClampNeg = 157 * k + (6 + 2 * q) := by
      show ((((iN 157 * iN k) + iN 5) + (iN 2 * iN q)) + iN 1).toNatClampNeg = _
      rw [iN_m, iN_m, iN_a, iN_a, iN_a, iN_cl (by omega)]
      omega
    rw [ei] at e3
    rw [e3]
    have r3' := (r3 q (by omega) (by rw [hm, iN_ti (by omega)]; omega)).2
    exact e4.trans (r3'.trans R)
  rw [hRn _ (Or.inr (by omega)), if_neg (by decide)] at e4
  rw [if_neg (inF (by omega))] at e3
  exact e4.trans e3.symm
