/-! answers: fault, count -/
theorem R5_fault {u v v2 : MM} {g g' : GG} {what z w : Int32} (h : RLX u v) (e1 : z = Fx_P_faultX what u g) (e2 : (w, v2) = Fx_M_faultX what v g') : z = w := by
  obtain ⟨t0, t1, t2, t3, t5, t7, th, tw⟩ := h.1
  have hM : Fx_M_faultX what v g' = (if what = 0 then v 165 0 else if what = 1 then v 166 0 else -1, ms v 162 0 0) := by
    unfold Fx_M_faultX
    simp only [xq_lt]
    by_cases h0 : what = 0
    · rw [if_pos h0, if_pos h0]
    · rw [if_neg h0, if_neg h0]
      by_cases h1 : what = 1
      · rw [if_pos h1, if_pos h1]
      · rw [if_neg h1, if_neg h1]
  have e3 : w = if what = 0 then v 165 0 else if what = 1 then v 166 0 else -1 := congrArg Prod.fst (e2.trans hM)
  have e4 : z = if what = 0 then u 1 2 else if what = 1 then u 1 3 else -1 := e1
  rw [e4, e3, t2, t3]
/-! the relation in the law -/
theorem rlx_v {u v v2 : MM} (hv : ∀ c, (163 ≤ c ∧ c ≤ 169) ∨ c = 181 → v2 c = v c) (h : RLX u v) : RLX u v2 := rlx_c (fun _ _ => rfl) (fun c hc => hv c (Or.inl hc)) (hv 181 (Or.inr rfl)) h
theorem rlx_u {u v u2 : MM} (hu : ∀ c, (1 ≤ c ∧ c ≤ 28) ∨ (84 ≤ c ∧ c ≤ 161) → u2 c = u c) (h : RLX u v) : RLX u2 v := rlx_c hu (fun _ _ => rfl) rfl h
theorem rlx_2 {u u2 : MM} (hu : ∀ c, (1 ≤ c ∧ c ≤ 28) ∨ (84 ≤ c ∧ c ≤ 161) ∨ (163 ≤ c ∧ c ≤ 169) ∨ c = 181 → u2 c = u c) (h : RLX u u) : RLX u2 u2 := rlx_c (fun c hc => hu c (by omega)) (fun c hc => hu c (by omega)) (hu 181 (by omega)) h
theorem rn_v {c a : Nat} (h : (163 ≤ c ∧ c ≤ 169) ∨ c = 181) (r : (a < 163 ∨ 169 < a) ∧ a ≠ 181) : c ≠ a := by omega
theorem rn_u {c a : Nat} (h : (1 ≤ c ∧ c ≤ 28) ∨ (84 ≤ c ∧ c ≤ 161)) (r : (a < 1 ∨ 28 < a) ∧ (a < 84 ∨ 161 < a)) : c ≠ a := by omega
theorem rn_2 {c a : Nat} (h : (1 ≤ c ∧ c ≤ 28) ∨ (84 ≤ c ∧ c ≤ 161) ∨ (163 ≤ c ∧ c ≤ 169) ∨ c = 181) (r : (a < 1 ∨ 28 < a) ∧ (a < 84 ∨ 161 < a) ∧ (a < 163 ∨ 169 < a) ∧ a ≠ 181) : c ≠ a := by omega
theorem bf3 {u : MM} (h0 : BF u 85) (h1 : BF u 111) (h2 : BF u 137) : ∀ n, n ≤ 2 → BF u (84 + 26 * n + 1) := by
  intro n hn
  rcases (show n = 0 ∨ n = 1 ∨ n = 2 by omega) with q | q | q <;> subst q
  · exact h0
  · exact h1
  · exact h2
