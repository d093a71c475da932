/-! answers: fault, count -/
/-! the relation in the law -/
theorem rlx_v {u v v2 : MM} (hv : ∀ c, (163 ≤ c ∧ c ≤ 169) ∨ c = 181 → v2 c = v c) (h : RLX u v) : RLX u v2 := rlx_c (fun _ _ => rfl) (fun c hc => hv c (Or.inl hc)) (hv 181 (Or.inr rfl)) h
theorem rlx_u {u v u2 : MM} (hu : ∀ c, (1 ≤ c ∧ c ≤ 28) ∨ (84 ≤ c ∧ c ≤ 161) → u2 c = u c) (h : RLX u v) : RLX u2 v := rlx_c hu (fun _ _ => rfl) rfl h
theorem rn_v {c a : Nat} (h : (163 ≤ c ∧ c ≤ 169) ∨ c = 181) (r : (a < 163 ∨ 169 < a) ∧ a ≠ 181) : c ≠ a := by omega
theorem bf3 {u : MM} (h0 : BF u 85) (h1 : BF u 111) (h2 : BF u 137) : ∀ n, n ≤ 2 → BF u (84 + 26 * n + 1) := by
  intro n hn
  rcases (show n = 0 ∨ n = 1 ∨ n = 2 by omega) with q | q | q <;> subst q
  · exact h0
  · exact h1
  · exact h2
