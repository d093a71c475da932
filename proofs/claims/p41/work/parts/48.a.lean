section
/-! what has been laid -/
/-- the row of the reference, by ponds and columns -/
def rwA (y : MM) (p c : Nat) : Int32 := y 172 (13 + 16 * p + c)
/-- what has been laid on both sides: n ponds, m rains -/
def LDF (x y : MM) (n m : Nat) : Prop := n ≤ 9 ∧ 1 ≤ m ∧ m ≤ 4 ∧ HA x 44 n (rwA y) ∧ RMA y n (rwA y) ∧ AWF n (rwA y) ∧ x 44 2 = iN m ∧ y 172 1 = iN m ∧ (∀ i, i < m → x 46 i = y 172 (5 + 2 * i) ∧ x 47 i = y 172 (6 + 2 * i) ∧ RW (y 172) i) ∧ (∀ i, i < 3 → x 48 i = y 172 (2 + i) ∧ Bd 0 99 (y 172 (2 + i))) ∧ sm (y 172) = 100 ∧ y 162 26 = -1 ∧ y 162 27 = 0 ∧ SIT x y ∧ HWF (y 172)
theorem ld_of {x y : MM} (s : SIT x y) (h : HWF (y 172)) : ∃ n m, LDF x y n m := by
  obtain ⟨⟨n, m, n9, m4, e0, e1, hr, hd, hp⟩, h2, h3⟩ := h
  obtain ⟨⟨g0, g1, g2, g3, g4⟩, s1, s2, s3, s4, s5, s6⟩ := s
  have m1 : 1 ≤ m := by
    have := h2.1
    rw [e1, iN_ti (by omega)] at this
    omega
  refine ⟨n, m, n9, m1, m4, ⟨g0.trans e0, fun p c hp' hc => ?_⟩, ⟨s1.trans e0, fun _ _ _ _ => rfl⟩, fun p hp' => hp p hp', g1.trans e1, e1, fun i hi => ?_, fun i hi => ⟨g2 i hi, hd i hi⟩, h3, s5, s6, ⟨⟨g0, g1, g2, g3, g4⟩, s1, s2, s3, s4, s5, s6⟩, ⟨n, m, n9, m4, e0, e1, hr, hd, hp⟩, h2, h3⟩
  · exact g4 p c (by omega) hc (by rw [e0, iN_ti (by omega)]; omega)
  · obtain ⟨a, b⟩ := g3 i (by omega) (by rw [e1, iN_ti (by omega)]; omega)
    exact ⟨a, b, hr i hi⟩
/-- lay, as every question begins -/
theorem lay_Y {u v : MM} {g g' : GG} {hill plan : Int32} (h : RLY u v) (b5 : Bd 0 2 (u 1 5)) (b7 : Bd 0 3 (u 1 7)) (hd : HD v) (pl : PL v) : ∃ b x y, Fx_P_laysX hill plan u g = (b, x) ∧ Fx_M_layX hill plan (ms v 162 0 0) g' = (b, y) ∧ (b = true → ∃ n m, LDF x y n m) := by
  have h' : RLX u (ms v 162 0 0) := rlx_v (fun c hc => ms_c1 (by omega)) h.1
  obtain ⟨k1, k2⟩ := lay_X (g := g) (g' := g') (hill := hill) (plan := plan) h' b5 b7 (hd_c (ms_c1 (by decide)) hd) (pl_c (ms_c1 (by decide)) pl) (wfa_c (ms_c1 (by decide)) (ms_c1 (by decide)) h.2.1) h.2.2
  refine ⟨(Fx_P_laysX hill plan u g).1, (Fx_P_laysX hill plan u g).2, (Fx_M_layX hill plan (ms v 162 0 0) g').2, rfl, by rw [k1], fun q => ?_⟩
  obtain ⟨s, f⟩ := k2 q
  exact ld_of s f
/-! what is there: ponds, rains, sets; pond -/
theorem all_e : ∀ n, n < 10 → ((1 : Int32) <<< (iN n &&& 31)) - 1 = iN (2 ^ n - 1) ∧ (1 : Int32) <<< (iN n &&& 31) = iN (2 ^ n) ∧ (iN n &&& 31) = iN n := by decide +kernel
theorem shrN {s : Int32} {k : Nat} (hk : k ≤ 9) : (s >>> (iN k &&& 31)).toInt = s.toInt / ((2 ^ k : Nat) : Int) := by
  rw [(all_e k (by omega)).2.2]
  show (s >>> Int32.ofNat k).toBitVec.toInt = _
  rw [Int32.toBitVec_shiftRight, BitVec.sshiftRight', sh_dec k (by omega), BitVec.toInt_sshiftRight, Int.shiftRight_eq_div_pow]
  rfl
/-- a set of ponds, or none -/
theorem set_cl {n : Nat} (n9 : n ≤ 9) (s : Int32) : (∃ k, k < 2 ^ n ∧ s = iN k ∧ ¬ s < 0 ∧ ¬ iN (2 ^ n - 1) < s ∧ s >>> (iN n &&& 31) = 0) ∨ (s < 0 ∨ (¬ s < 0 ∧ iN (2 ^ n - 1) < s ∧ ¬ s >>> (iN n &&& 31) = 0)) := by
  have h3 := p2_le n9
  have l0 : (0 : Int32).toInt = 0 := rfl
  have h4 : 0 < 2 ^ n := Nat.two_pow_pos n
  by_cases h : s.toInt < 0
  · exact Or.inr (Or.inl (ltI (by omega)))
  have e := shrN (s := s) n9
  by_cases q : s.toInt < ((2 ^ n : Nat) : Int)
  · refine Or.inl ⟨s.toInt.toNat, by omega, iN_of (lo := 0) (hi := 100000) ⟨by omega, by omega⟩ (by decide), nltI (by omega), nltI (by rw [iN_ti (by omega)]; omega), ?_⟩
    rw [Int.ediv_eq_zero_of_lt (by omega) q] at e
    exact Int32.toInt_inj.mp (e.trans l0.symm)
  · refine Or.inr (Or.inr ⟨nltI (by omega), ltI (by rw [iN_ti (by omega)]; omega), fun z => ?_⟩)
    rw [z, l0] at e
    have h5 : (1 : Int) ≤ s.toInt / ((2 ^ n : Nat) : Int) := by
      have := Int.ediv_le_ediv (c := ((2 ^ n : Nat) : Int)) (by omega) (show ((2 ^ n : Nat) : Int) ≤ s.toInt by omega)
      rw [Int.ediv_self (by omega)] at this
      exact this
    omega
theorem all_X {x : MM} {g : GG} {t n : Nat} (h : x t 0 = iN n) (n9 : n ≤ 9) : Fx_H_allX t x g = iN (2 ^ n - 1) := by
  unfold Fx_H_allX
  rw [h]
  exact (all_e n (by omega)).1
theorem q_set {x y : MM} {g g' : GG} {n m : Nat} {s : Int32} (h : LDF x y n m) : ∃ b, Fx_H_hasSetX s 44 x g = b ∧ Fx_M_arePondsX s y g' = b ∧ (b = true → ∃ k, k < 2 ^ n ∧ s = iN k) := by
  obtain ⟨n9, m1, m4, ha, ma, -⟩ := h
  unfold Fx_H_hasSetX Fx_M_arePondsX
  rw [all_X ha.1 n9, xqb, ma.1]
  rcases set_cl n9 s with ⟨k, k1, k2, k3, k4, k5⟩ | k | ⟨k3, k4, k5⟩
  · rw [if_neg k3, if_neg k3, if_neg k4, if_pos k5]
    exact ⟨true, rfl, rfl, fun _ => ⟨k, k1, k2⟩⟩
  · rw [if_pos k, if_pos k]
    exact ⟨false, rfl, rfl, fun z => absurd z (by decide)⟩
  · rw [if_neg k3, if_neg k3, if_pos k4, if_neg k5]
    exact ⟨false, rfl, rfl, fun z => absurd z (by decide)⟩
end
section
/-! storms asked for: storm, runs, safe, spared, brings -/
theorem heard_e {s : Int32} {q : Nat} : ((s >>> (iN q &&& 31)) &&& 1) = if inB s q = true then 1 else 0 := by
  unfold inB
  by_cases h : ((s >>> (iN q &&& 31)) &&& 1) = 1
  · rw [decide_eq_true h, if_pos rfl]; exact h
  · rw [decide_eq_false h, if_neg (by decide)]
    exact Int32.toInt_inj.mp (bit01 h)
theorem bc_e {u v : MM} {g : GG} : ∀ k, k < 512 → Fx_bitCountX (iN k) u g = onesN (iN k) 9 := by
  have e : ∀ k, k < 512 → Fx_bitCountX (iN k) (fun _ _ => 0) (fun _ _ => 0) = onesN (iN k) 9 := by
    unfold Fx_bitCountX xq_lt
    decide +kernel
  exact fun k hk => e k hk
end
