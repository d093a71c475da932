/-! answers: hill, work -/
theorem hs_t {x : Int32} {u : MM} {g : GG} (h1 : ¬ x < 0) (h2 : ¬ u 1 5 ≤ x) : Fx_T_hasHillX x u g = true := by unfold Fx_T_hasHillX; rw [if_neg h1, if_neg h2]
theorem hs_f {x : Int32} {u : MM} {g : GG} (h : x < 0 ∨ (¬ x < 0 ∧ u 1 5 ≤ x)) : Fx_T_hasHillX x u g = false := by
  unfold Fx_T_hasHillX
  rcases h with h | ⟨h, q⟩
  · rw [if_pos h]
  · rw [if_neg h, if_pos q]
