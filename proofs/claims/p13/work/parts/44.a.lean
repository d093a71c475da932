/-! answers: hill, work -/
theorem ltI {a b : Int32} (h : a.toInt < b.toInt) : a < b := Int32.lt_iff_toInt_lt.mpr h
theorem leI {a b : Int32} (h : a.toInt ≤ b.toInt) : a ≤ b := Int32.le_iff_toInt_le.mpr h
theorem nltI {a b : Int32} (h : b.toInt ≤ a.toInt) : ¬ a < b := fun q => by have := Int32.lt_iff_toInt_lt.mp q; omega
theorem nleI {a b : Int32} (h : b.toInt < a.toInt) : ¬ a ≤ b := fun q => by have := Int32.le_iff_toInt_le.mp q; omega
theorem inT {v lo hi : Int32} (h1 : lo.toInt ≤ v.toInt) (h2 : v.toInt ≤ hi.toInt) : (decide (lo ≤ v) && decide (v ≤ hi)) = true := by
  rw [decide_eq_true (leI h1), decide_eq_true (leI h2)]
  rfl
theorem inF {v lo hi : Int32} (h : v.toInt < lo.toInt ∨ hi.toInt < v.toInt) : ¬ (decide (lo ≤ v) && decide (v ≤ hi)) = true := by
  intro q
  obtain ⟨q1, q2⟩ := (Bool.and_eq_true _ _).mp q
  have a1 := Int32.le_iff_toInt_le.mp (of_decide_eq_true q1)
  have a2 := Int32.le_iff_toInt_le.mp (of_decide_eq_true q2)
  omega
/-- a number below a count, or none -/
theorem nb_cl {c x : Int32} {n : Nat} (hc : c = iN n) (hn : n ≤ 1000) : (∃ k, k < n ∧ x = iN k ∧ ¬ x < 0 ∧ ¬ c ≤ x ∧ (decide (0 ≤ x) && decide (x ≤ c - 1)) = true) ∨ ((x < 0 ∨ (¬ x < 0 ∧ c ≤ x)) ∧ ¬ (decide (0 ≤ x) && decide (x ≤ c - 1)) = true) := by
  have l0 : (0 : Int32).toInt = 0 := rfl
  have l1 : (1 : Int32).toInt = 1 := rfl
  have tc : c.toInt = n := by rw [hc, iN_ti (by omega)]
  have tp : (c - 1).toInt = (n : Int) - 1 := by rw [ti_sub (by omega) (by omega), tc, l1]
  by_cases h1 : x.toInt < 0
  · exact Or.inr ⟨Or.inl (ltI (by omega)), inF (Or.inl (by omega))⟩
  · by_cases h2 : (n : Int) ≤ x.toInt
    · exact Or.inr ⟨Or.inr ⟨nltI (by omega), leI (by omega)⟩, inF (Or.inr (by omega))⟩
    · obtain ⟨k, hk, hk2⟩ := iN_ex (v := x) (hi := n) ⟨by omega, by omega⟩
      have tk : x.toInt = k := by rw [hk, iN_ti (by omega)]
      exact Or.inl ⟨k, by omega, hk, nltI (by omega), nleI (by omega), inT (by omega) (by omega)⟩
theorem hs_t {x : Int32} {u : MM} {g : GG} (h1 : ¬ x < 0) (h2 : ¬ u 1 5 ≤ x) : Fx_T_hasHillX x u g = true := by unfold Fx_T_hasHillX; rw [if_neg h1, if_neg h2]
theorem hs_f {x : Int32} {u : MM} {g : GG} (h : x < 0 ∨ (¬ x < 0 ∧ u 1 5 ≤ x)) : Fx_T_hasHillX x u g = false := by
  unfold Fx_T_hasHillX
  rcases h with h | ⟨h, q⟩
  · rw [if_pos h]
  · rw [if_neg h, if_pos q]
theorem ps_t {x : Int32} {u : MM} {g : GG} (h1 : ¬ x < 0) (h2 : ¬ u 1 7 ≤ x) : Fx_T_hasPlanX x u g = true := by unfold Fx_T_hasPlanX; rw [if_neg h1, if_neg h2]
theorem ps_f {x : Int32} {u : MM} {g : GG} (h : x < 0 ∨ (¬ x < 0 ∧ u 1 7 ≤ x)) : Fx_T_hasPlanX x u g = false := by
  unfold Fx_T_hasPlanX
  rcases h with h | ⟨h, q⟩
  · rw [if_pos h]
  · rw [if_neg h, if_pos q]
theorem ih_X {x : Int32} {u : MM} {g : GG} : Fx_M_isHillX x u g = (decide (0 ≤ x) && decide (x ≤ u 167 0 - 1)) := by
  unfold Fx_M_isHillX
  simp only [xq_lt, in_X]
theorem ip_X {x : Int32} {u : MM} {g : GG} : Fx_M_isPlanX x u g = (decide (0 ≤ x) && decide (x ≤ u 167 1 - 1)) := by
  unfold Fx_M_isPlanX
  simp only [xq_lt, in_X]
