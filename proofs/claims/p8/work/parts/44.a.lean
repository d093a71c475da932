/-! answers: hill, work -/
theorem ltI {a b : Int32} (h : a.toInt < b.toInt) : a < b := Int32.lt_iff_toInt_lt.mpr h
theorem leI {a b : Int32} (h : a.toInt ≤ b.toInt) : a ≤ b := Int32.le_iff_toInt_le.mpr h
theorem nltI {a b : Int32} (h : b.toInt ≤ a.toInt) : ¬ a < b := fun q => by have := Int32.lt_iff_toInt_lt.mp q; omega
theorem nleI {a b : Int32} (h : b.toInt < a.toInt) : ¬ a ≤ b := fun q => by have := Int32.le_iff_toInt_le.mp q; omega
theorem neI {a b : Int32} (h : a.toInt ≠ b.toInt) : ¬ a = b := fun q => h (by rw [q])
theorem inT {v lo hi : Int32} (h1 : lo.toInt ≤ v.toInt) (h2 : v.toInt ≤ hi.toInt) : (decide (lo ≤ v) && decide (v ≤ hi)) = true := by
  rw [decide_eq_true (leI h1), decide_eq_true (leI h2)]
  rfl
theorem inF {v lo hi : Int32} (h : v.toInt < lo.toInt ∨ hi.toInt < v.toInt) : ¬ (decide (lo ≤ v) && decide (v ≤ hi)) = true := by
  intro q
  obtain ⟨q1, q2⟩ := (Bool.and_eq_true _ _).mp q
  have a1 := Int32.le_iff_toInt_le.mp (of_decide_eq_true q1)
  have a2 := Int32.le_iff_toInt_le.mp (of_decide_eq_true q2)
  omega
theorem fst_ite {α β : Type} {c : Prop} {i : Decidable c} {a b : α × β} : (if c then a else b).1 = if c then a.1 else b.1 := by split <;> rfl
/-- a number below a count, or none -/
theorem nb_cl {c x : Int32} {n : Nat} (hc : c = iN n) (hn : n ≤ 1000) : (∃ k, k < n ∧ x = iN k ∧ ¬ x < 0 ∧ ¬ c ≤ x ∧ (decide (0 ≤ x) && decide (x ≤ c - 1)) = true) ∨ ((x < 0 ∨ (¬ x < 0 ∧ c ≤ x)) ∧ ¬ (decide (0 ≤ x) && decide (x ≤ c - 1)) = true) := by
  have l0 : (0 : Int32).toInt = 0 := rfl
  have l1 : (1 : Int32).toInt = 1 := rfl
  have tc : c.toInt = n := by rw [hc, iN_ti (by omega)]
  have tp : (c - 1).toInt = (n : Int) - 1 := by rw [ti_sub (by omega) (by omega), tc, l1]
  by_cases h1 : x.toInt < 0
  · exact Or.inr ⟨Or.inl (ltI (by omega)), inF (Or.inl (by omega))⟩
  · by_cases h2 : (n : Int) ≤ x.toInt
    · exact Or.inr ⟨Or.inr ⟨nltI (by omega), leI (by omega)⟩, inF (Or.inr (by omega))⟩
    · obtain ⟨k, hk, hk2⟩ := iN_ex (v := x) (hi := n) ⟨by omega, by omega⟩
      have tk : x.toInt = k := by rw [hk, iN_ti (by omega)]
      exact Or.inl ⟨k, by omega, hk, nltI (by omega), nleI (by omega), inT (by omega) (by omega)⟩
theorem hs_t {x : Int32} {u : MM} {g : GG} (h1 : ¬ x < 0) (h2 : ¬ u 1 5 ≤ x) : Fx_T_hasHillX x u g = true := by unfold Fx_T_hasHillX; rw [if_neg h1, if_neg h2]
theorem hs_f {x : Int32} {u : MM} {g : GG} (h : x < 0 ∨ (¬ x < 0 ∧ u 1 5 ≤ x)) : Fx_T_hasHillX x u g = false := by
  unfold Fx_T_hasHillX
  rcases h with h | ⟨h, q⟩
  · rw [if_pos h]
  · rw [if_neg h, if_pos q]
theorem ps_t {x : Int32} {u : MM} {g : GG} (h1 : ¬ x < 0) (h2 : ¬ u 1 7 ≤ x) : Fx_T_hasPlanX x u g = true := by unfold Fx_T_hasPlanX; rw [if_neg h1, if_neg h2]
theorem ps_f {x : Int32} {u : MM} {g : GG} (h : x < 0 ∨ (¬ x < 0 ∧ u 1 7 ≤ x)) : Fx_T_hasPlanX x u g = false := by
  unfold Fx_T_hasPlanX
  rcases h with h | ⟨h, q⟩
  · rw [if_pos h]
  · rw [if_neg h, if_pos q]
theorem ip_X {x : Int32} {u : MM} {g : GG} : Fx_M_isPlanX x u g = (decide (0 ≤ x) && decide (x ≤ u 167 1 - 1)) := by
  unfold Fx_M_isPlanX
  simp only [xq_lt, in_X]
theorem R5_work {u v v2 : MM} {g g' : GG} {plan work what z w : Int32} (h : RLX u v) (b7 : Bd 0 3 (u 1 7)) (pl : PL v) (e1 : z = Fx_P_workX plan work what u g) (e2 : (w, v2) = Fx_M_workX plan work what v g') : z = w := by
  obtain ⟨t0, t1, t2, t3, t5, t7, th, tw⟩ := h.1
  obtain ⟨n, hn, n2⟩ := iN_ex (hi := 3) b7
  have v7 : v 167 1 = iN n := t7.symm.trans hn
  obtain ⟨y, hy⟩ : ∃ y, y = ms v 162 0 0 := ⟨_, rfl⟩
  have y7 : y 167 = v 167 := by rw [hy]; rfl
  have y9 : y 169 = v 169 := by rw [hy]; rfl
  have e3 := congrArg Prod.fst e2
  unfold Fx_M_workX at e3
  simp only [xq_lt] at e3
  rw [← hy] at e3
  simp only [ip_X, in_X, fst_ite, y7, y9, v7] at e3
  unfold Fx_P_workX at e1
  simp only [xq_lt] at e1
  rcases nb_cl (x := plan) (c := u 1 7) hn (by omega) with ⟨k, k1, k2, k3, k4, k5⟩ | ⟨k3, k5⟩
  rotate_left
  · rw [ps_f k3, if_neg (by decide)] at e1
    rw [hn] at k5
    rw [if_neg k5] at e3
    exact e1.trans e3.symm
  rw [hn] at k5
  rw [if_pos k5, k2] at e3
  have e4 : z = Fx_W_toldX work what (15 + 4 * k) u g := by
    rw [ps_t k3 k4, if_pos rfl, k2] at e1
    rcases (show k = 0 ∨ k = 1 ∨ k = 2 by omega) with q | q | q <;> subst q
    · rw [if_pos (by decide)] at e1; exact e1
    · rw [if_neg (by decide), if_pos (by decide)] at e1; exact e1
    · rw [if_neg (by decide), if_neg (by decide)] at e1; exact e1
  have hr := tw k (by omega) (by rw [hn, iN_ti (by omega)]; omega)
  obtain ⟨r0, r1⟩ := hr
  have bm : Bd 0 12 (v 169 (111 * 0 + (37 * k + 0))) := by
    have := (pl k (by omega)).1
    rw [show 111 * 0 + (37 * k + 0) = 37 * k by omega]
    exact this
  obtain ⟨m, hm, m4⟩ := iN_ex (hi := 12) bm
  have um : u (15 + 4 * k) 0 = iN m := r0.trans hm
  have vm : v 169 (37 * k) = iN m := by rw [← hm]; exact congrArg (v 169) (by omega)
  have ei1 : ((37 : Int32) * iN k).toNatClampNeg = 37 * k := by
    show (iN 37 * iN k).toNatClampNeg = _
    rw [iN_m, iN_cl (by omega)]
  rw [ei1, vm] at e3
  unfold Fx_W_toldX at e4
  simp only [xq_lt] at e4
  have l0 : (0 : Int32).toInt = 0 := rfl
  have l2 : (2 : Int32).toInt = 2 := rfl
  rcases nb_cl (x := work) (c := u (15 + 4 * k) 0) um (by omega) with ⟨i, i1, i2, i3, i4, i5⟩ | ⟨i3, i5⟩
  rotate_left
  · rw [um] at i5
    rw [if_neg i5] at e3
    rcases i3 with q | ⟨q, q2⟩
    · rw [if_pos q] at e4
      exact e4.trans e3.symm
    · rw [if_neg q, if_neg (fun q3 => lt_le_no q3 q2)] at e4
      exact e4.trans e3.symm
  rw [um] at i5
  rw [if_pos i5, i2] at e3
  rw [if_neg i3, if_pos (i_nle i4), i2, iN_cl (by omega)] at e4
  obtain ⟨a, b, d⟩ := r1 i (by omega) (by rw [hm, iN_ti (by omega)]; omega)
  have bw := bd_any what
  by_cases q : 0 ≤ what.toInt ∧ what.toInt ≤ 2
  · rw [if_pos (inT (by omega) (by omega))] at e3
    obtain ⟨x, hx, x2⟩ := iN_ex (v := what) (hi := 2) ⟨q.1, q.2⟩
    rw [hx] at e3 e4
    have ei : (((((37 : Int32) * iN k) + 1) + ((3 : Int32) * iN i)) + iN x).toNatClampNeg = 37 * k + (1 + x + 3 * i) := by
      show ((((iN 37 * iN k) + iN 1) + (iN 3 * iN i)) + iN x).toNatClampNeg = _
      rw [iN_m, iN_m, iN_a, iN_a, iN_a, iN_cl (by omega)]
      omega
    rw [ei] at e3
    rw [e3]
    rcases (show x = 0 ∨ x = 1 ∨ x = 2 by omega) with y | y | y <;> subst y
    · rw [if_pos (by decide)] at e4
      exact e4.trans (a.trans (congrArg (v 169) (by omega)))
    · rw [if_neg (by decide), if_pos (by decide)] at e4
      exact e4.trans (b.trans (congrArg (v 169) (by omega)))
    · rw [if_neg (by decide), if_neg (by decide), if_pos (by decide)] at e4
      exact e4.trans (d.trans (congrArg (v 169) (by omega)))
  · rw [if_neg (inF (by omega))] at e3
    have l1 : (1 : Int32).toInt = 1 := rfl
    rw [if_neg (neI (by omega)), if_neg (neI (by omega)), if_neg (neI (by omega))] at e4
    exact e4.trans e3.symm
