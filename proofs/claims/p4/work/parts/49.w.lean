/-! orders by codes: the reference -/
def rg (R k : Nat) : Nat := R / 9 ^ (3 - k) % 9
theorem rg_9 {R k : Nat} : rg R k < 9 := Nat.mod_lt _ (by omega)
def VR (P c R : Nat) : Prop := (∀ j, c ≤ j → j < 4 → rg R j = 0) ∧ PS (rg R) c = P
theorem vr_n {P c R n : Nat} (h : VR P c R) (hP : P < 2 ^ n) : ∀ j, j < c → rg R j < n := fun j hj => by
  have b := (PS_b (o := rg R) c (rg R j)).mpr ⟨j, hj, rfl⟩
  rw [h.2] at b
  by_cases z : rg R j < n
  · exact z
  · rw [Nat.testBit_lt_two_pow (Nat.lt_of_lt_of_le hP (Nat.pow_le_pow_right (by decide) (by omega)))] at b
    exact absurd b Bool.false_ne_true
/-- the digits, from the last one -/
theorem fr_L {ih : Int32 → Int32 → MM → GG → MM × GG} {gg : GG} {P c R : Nat} {fd : Int32} (c4 : c ≤ 4) (hon : onesN (iN P) 9 = iN c) (hR : R < 6561) : ∀ (f t s : Nat) (y : MM), t < f → t ≤ 4 → s < 2 ^ 9 → (∀ i, s.testBit i = true ↔ ∃ j, t ≤ j ∧ j < c ∧ rg R j = i) → (∀ j, t ≤ j → c ≤ j → j < 4 → rg R j = 0) → (∀ j, t ≤ j → j < c → y 179 j = iN (rg R j)) → ∃ S y', Fx_M_findOrderX_L28 ih (iN P) fd (iN R) gg f (iN (R / 9 ^ (4 - t))) (iN s) (iN t - 1) y = Fx_M_findOrderX_J100 ih (iN P) fd (iN R) gg S y' ∧ (∀ a, a ≠ 179 → y' a = y a) ∧ ((S = -1 ∧ ∃ j, c ≤ j ∧ j < 4 ∧ ¬ rg R j = 0) ∨ (S = iN (PS (rg R) c) ∧ (∀ j, c ≤ j → j < 4 → rg R j = 0) ∧ ∀ j, j < c → y' 179 j = iN (rg R j))) := by
  intro f
  induction f with
  | zero => intro t s y h1; omega
  | succ f ihf =>
    intro t s y h1 h2 hs hb hz hy
    by_cases t0 : t = 0
    · subst t0
      refine ⟨iN s, y, ?_, fun _ _ => rfl, Or.inr ⟨?_, fun j j1 j2 => hz j (Nat.zero_le _) j1 j2, fun j hj => hy j (Nat.zero_le _) hj⟩⟩
      · rw [Fx_M_findOrderX_L28_s, if_pos (show iN 0 - 1 < (0 : Int32) by decide)]
      · have e : s = PS (rg R) c := nat_x (fun i => by
          rw [hb i, PS_b]
          exact ⟨fun ⟨j, _, j2, j3⟩ => ⟨j, j2, j3⟩, fun ⟨j, j2, j3⟩ => ⟨j, Nat.zero_le _, j2, j3⟩⟩)
        rw [e]
    obtain ⟨k, rfl⟩ : ∃ k, t = k + 1 := ⟨t - 1, by omega⟩
    have e1 : iN (k + 1) - 1 = iN k := iN_sub (a := k + 1) (b := 1) (by omega)
    have e2 : iN k + (-1) = iN k - 1 := (Int32.sub_eq_add_neg _ _).symm
    have ek : 4 - (k + 1) = 3 - k := by omega
    have hw : R / 9 ^ (3 - k) ≤ R := Nat.div_le_self _ _
    have er : iN (R / 9 ^ (3 - k)) - iN (R / 9 ^ (3 - k)) / 9 * 9 = iN (rg R k) := rem_X (V := R / 9 ^ (3 - k)) (k := 9) (by omega) (by omega)
    have ed : iN (R / 9 ^ (3 - k)) / 9 = iN (R / 9 ^ (4 - k)) := by
      have d : iN (R / 9 ^ (3 - k)) / iN 9 = iN (R / 9 ^ (3 - k) / 9) := (Int32.ofNat_div (by omega) (by omega)).symm
      have p : 9 ^ (4 - k) = 9 ^ (3 - k) * 9 := by rw [← Nat.pow_succ]; congr 1; omega
      rw [p, ← Nat.div_div_eq_div_mul]
      exact d
    have ns : ∀ a : Nat, a < 2 ^ 9 → ¬ iN a = -1 := fun a ha z => by
      have z1 := congrArg Int32.toInt z
      rw [iN_ti (by omega)] at z1
      have : (-1 : Int32).toInt = -1 := rfl
      omega
    have nk : ¬ iN k < (0 : Int32) := fun z => by have := (iN_lt (b := 0) (by omega) (by omega)).mp z; omega
    rw [ek, e1]
    by_cases ck : c ≤ k
    · by_cases z : rg R k = 0
      · have e : Fx_M_findOrderX_L28 ih (iN P) fd (iN R) gg (f + 1) (iN (R / 9 ^ (3 - k))) (iN s) (iN k) y = Fx_M_findOrderX_L28 ih (iN P) fd (iN R) gg f (iN (R / 9 ^ (4 - k))) (iN s) (iN k - 1) y := by
          rw [Fx_M_findOrderX_L28_s, if_neg nk, hon, if_pos ((iN_le (by omega) (by omega)).mpr ck), er, if_pos (show iN (rg R k) ≤ (0 : Int32) by rw [z]; decide)]
          unfold Fx_M_findOrderX_J85
          rw [if_neg (ns s hs), ed, e2]
        rw [e]
        refine ihf k s y (by omega) (by omega) hs (fun i => ?_) (fun j j1 j2 j3 => ?_) (fun j j1 j2 => hy j (by omega) j2)
        · rw [hb i]
          exact ⟨fun ⟨j, j1, j2, j3⟩ => ⟨j, by omega, j2, j3⟩, fun ⟨j, j1, j2, j3⟩ => ⟨j, by omega, j2, j3⟩⟩
        · by_cases w : j = k
          · rw [w]; exact z
          · exact hz j (by omega) j2 j3
      · refine ⟨-1, y, ?_, fun _ _ => rfl, Or.inl ⟨rfl, k, ck, by omega, z⟩⟩
        have r9 := rg_9 (R := R) (k := k)
        rw [Fx_M_findOrderX_L28_s, if_neg nk, hon, if_pos ((iN_le (by omega) (by omega)).mpr ck), er, if_neg (show ¬ iN (rg R k) ≤ (0 : Int32) from fun w => by have := (iN_le (b := 0) (by omega) (by omega)).mp w; omega)]
        unfold Fx_M_findOrderX_J85
        rw [if_pos rfl]
    · have r9 := rg_9 (R := R) (k := k)
      have hs2 : s ||| 2 ^ rg R k < 2 ^ 9 := Nat.or_lt_two_pow hs (Nat.pow_lt_pow_right (by decide) r9)
      have eb : (1 : Int32) <<< (iN (rg R k) &&& 31) = iN (2 ^ rg R k) := (all_e (rg R k) (by omega)).2.1
      have e : Fx_M_findOrderX_L28 ih (iN P) fd (iN R) gg (f + 1) (iN (R / 9 ^ (3 - k))) (iN s) (iN k) y = Fx_M_findOrderX_L28 ih (iN P) fd (iN R) gg f (iN (R / 9 ^ (4 - k))) (iN (s ||| 2 ^ rg R k)) (iN k - 1) (ms y 179 k (iN (rg R k))) := by
        rw [Fx_M_findOrderX_L28_s, if_neg nk, hon, if_neg (fun w => ck ((iN_le (by omega) (by omega)).mp w)), er, xqb, eb, iN_or, iN_cl (by omega)]
        unfold Fx_M_findOrderX_J85
        rw [if_neg (ns _ hs2), ed, e2]
      rw [e]
      obtain ⟨S, y', a1, a2, a3⟩ := ihf k (s ||| 2 ^ rg R k) (ms y 179 k (iN (rg R k))) (by omega) (by omega) hs2 (fun i => by
        rw [or_b, hb i]
        refine ⟨fun z => ?_, fun ⟨j, j1, j2, j3⟩ => ?_⟩
        · rcases z with ⟨j, j1, j2, j3⟩ | z
          · exact ⟨j, by omega, j2, j3⟩
          · exact ⟨k, by omega, by omega, z.symm⟩
        · by_cases w : j = k
          · subst w; exact Or.inr j3.symm
          · exact Or.inl ⟨j, by omega, j2, j3⟩) (fun j j1 j2 j3 => hz j (by omega) j2 j3) (fun j j1 j2 => by
        by_cases w : j = k
        · rw [w, ms_e1]
        · rw [ms_i1 w]; exact hy j (by omega) j2)
      exact ⟨S, y', a1, fun a ha => (a2 a ha).trans (ms_c1 ha), a3⟩
theorem cy_L {ih : Int32 → Int32 → MM → GG → MM × GG} {gg : GG} {P c R : Nat} (c4 : c ≤ 4) (hon : onesN (iN P) 9 = iN c) : ∀ (f k : Nat) (y : MM), c - k < f → k ≤ c → (∀ i, i < k → y 180 i = y 179 i) → ∃ y', Fx_M_findOrderX_L144 ih (iN P) (iN R) gg f (iN k) y = ih 1 (iN (R + 1)) y' gg ∧ (∀ i, i < c → y' 180 i = y 179 i) ∧ ∀ a, a ≠ 180 → y' a = y a := by
  intro f
  induction f with
  | zero => intro k y h1; omega
  | succ f ihf =>
    intro k y h1 h2 h
    rw [Fx_M_findOrderX_L144_s, hon]
    by_cases q : c ≤ k
    · unfold Fx_M_findOrderX_J173
      rw [if_pos ((iN_le (by omega) (by omega)).mpr q), iN_s]
      exact ⟨y, rfl, fun i hi => h i (by omega), fun _ _ => rfl⟩
    rw [if_neg (fun z => q ((iN_le (by omega) (by omega)).mp z)), xqb, xqb, iN_cl (by omega), iN_s]
    obtain ⟨y', a1, a2, a3⟩ := ihf (k + 1) (ms y 180 k (y 179 k)) (by omega) (by omega) (fun i hi => by
      rw [ms_c1 (a := 180) (b := 179) (by decide)]
      by_cases w : i = k
      · rw [w, ms_e1]
      · rw [ms_i1 w]; exact h i (by omega))
    exact ⟨y', a1, fun i hi => (a2 i hi).trans (congrFun (ms_c1 (by decide)) i), fun a ha => (a3 a ha).trans (ms_c1 ha)⟩
theorem cy_Lb {ih : Int32 → Int32 → MM → GG → MM × GG} {gg : GG} {P c R : Nat} (c4 : c ≤ 4) (hon : onesN (iN P) 9 = iN c) : ∀ (f k : Nat) (y : MM), c - k < f → k ≤ c → (∀ i, i < k → y 180 i = y 179 i) → ∃ y', Fx_M_findOrderX_L144b ih (iN P) (iN R) gg f (iN k) y = ih 1 (iN (R + 1)) y' gg ∧ (∀ i, i < c → y' 180 i = y 179 i) ∧ ∀ a, a ≠ 180 → y' a = y a := by
  intro f
  induction f with
  | zero => intro k y h1; omega
  | succ f ihf =>
    intro k y h1 h2 h
    rw [Fx_M_findOrderX_L144b_s, hon]
    by_cases q : c ≤ k
    · unfold Fx_M_findOrderX_J173
      rw [if_pos ((iN_le (by omega) (by omega)).mpr q), iN_s]
      exact ⟨y, rfl, fun i hi => h i (by omega), fun _ _ => rfl⟩
    rw [if_neg (fun z => q ((iN_le (by omega) (by omega)).mp z)), xqb, xqb, iN_cl (by omega), iN_s]
    obtain ⟨y', a1, a2, a3⟩ := ihf (k + 1) (ms y 180 k (y 179 k)) (by omega) (by omega) (fun i hi => by
      rw [ms_c1 (a := 180) (b := 179) (by decide)]
      by_cases w : i = k
      · rw [w, ms_e1]
      · rw [ms_i1 w]; exact h i (by omega))
    exact ⟨y', a1, fun i hi => (a2 i hi).trans (congrFun (ms_c1 (by decide)) i), fun a ha => (a3 a ha).trans (ms_c1 ha)⟩
