/-! the reference's text -/
theorem cy_0a {at0 : Int32} {g : GG} : ∀ (n i : Nat) (w : MM), 157 - i < n → i ≤ 157 → ∃ x, Fx_M_textRX_L138 at0 g n (iN i) w = (at0, x, g) ∧ ∀ b, b ≠ 168 → x b = w b := by
  intro n
  induction n with
  | zero => intro i w h; omega
  | succ n ih =>
    intro i w h hi
    rw [Fx_M_textRX_L138_s]
    by_cases c : 157 ≤ i
    · rw [if_pos (show (157 : Int32) ≤ iN i from (iN_le (a := 157) (by omega) (by omega)).mpr c)]
      exact ⟨w, rfl, fun _ _ => rfl⟩
    · rw [if_neg (show ¬ (157 : Int32) ≤ iN i from fun q => c ((iN_le (a := 157) (by omega) (by omega)).mp q)), iN_s]
      simp only [xq_lt]
      obtain ⟨x, x1, x2⟩ := ih (i + 1) (ms w 168 ((((157 : Int32) * at0) + iN i).toNatClampNeg) (w 170 (iN i).toNatClampNeg)) (by omega) (by omega)
      exact ⟨x, x1, fun b hb => (x2 b hb).trans (ms_c1 hb)⟩
theorem cy_0b {u : MM} {g : GG} : ∀ (n i : Nat) (w : MM), 157 - i < n → i ≤ 157 → ∃ x, Fx_M_textRX_L138b u g n (iN i) w = (u 167 0, x, g) ∧ ∀ b, b ≠ 168 → x b = w b := by
  intro n
  induction n with
  | zero => intro i w h; omega
  | succ n ih =>
    intro i w h hi
    rw [Fx_M_textRX_L138b_s]
    by_cases c : 157 ≤ i
    · rw [if_pos (show (157 : Int32) ≤ iN i from (iN_le (a := 157) (by omega) (by omega)).mpr c)]
      exact ⟨w, rfl, fun _ _ => rfl⟩
    · rw [if_neg (show ¬ (157 : Int32) ≤ iN i from fun q => c ((iN_le (a := 157) (by omega) (by omega)).mp q)), iN_s]
      simp only [xq_lt]
      obtain ⟨x, x1, x2⟩ := ih (i + 1) (ms w 168 ((((157 : Int32) * (u 167 0)) + iN i).toNatClampNeg) (w 170 (iN i).toNatClampNeg)) (by omega) (by omega)
      exact ⟨x, x1, fun b hb => (x2 b hb).trans (ms_c1 hb)⟩
theorem tm_0 {at0 : Int32} {u : MM} {g : GG} {L : Nat} {F : Int32 × Int32 × (Nat → Int32)} (hb : L ≤ 600) (hL : u 164 0 = iN L) (hf : ∀ j, j < L → Bd (-128) 127 (u 163 j)) (bq : Bd 0 2 (u 167 0)) (hF : txF 0 (u 163) L (u 170) = F) :
    (nuT 0 at0 (u 167 0) (u 167 1) = -1 → ∃ x, Fx_M_textRX 0 at0 u g = (-2, x, g) ∧ x 165 0 = 0 ∧ x 166 0 = -1) ∧
    (¬ nuT 0 at0 (u 167 0) (u 167 1) = -1 → F.1 = 0 → ∃ x g2, Fx_M_textRX 0 at0 u g = (nuT 0 at0 (u 167 0) (u 167 1), x, g2) ∧ x 165 0 = F.1 ∧ x 166 0 = F.2.1 ∧ x 170 = F.2.2) ∧
    (¬ nuT 0 at0 (u 167 0) (u 167 1) = -1 → ¬ F.1 = 0 → ∃ x g2, Fx_M_textRX 0 at0 u g = (-1, x, g2) ∧ x 165 0 = F.1 ∧ x 166 0 = F.2.1) := by
  obtain ⟨y, hy⟩ : ∃ y, y = ms (ms (ms (ms (ms u 162 0 0) 162 9 (u 164 0)) 164 0 0) 165 0 0) 166 0 (-1) := ⟨_, rfl⟩
  have y9 : y 162 9 = iN L := by rw [hy]; exact hL
  have y163 : y 163 = u 163 := by rw [hy]; rfl
  have y170 : y 170 = u 170 := by rw [hy]; rfl
  have y5 : y 165 0 = 0 := by rw [hy]; rfl
  have y6 : y 166 0 = -1 := by rw [hy]; rfl
  have hF2 : txF 0 (y 163) L (y 170) = F := by rw [y163, y170]; exact hF
  obtain ⟨x, g2, e, x1, x2, x3⟩ := t0_X (v := y) (g := g) hb y9 (by rw [y163]; exact hf) hF2
  have en : nuT 0 at0 (u 167 0) (u 167 1) = if at0 = -1 then (if 2 ≤ u 167 0 then -1 else u 167 0) else if at0 < 0 then -1 else if u 167 0 ≤ at0 then -1 else at0 := rfl
  have e1 : (1 : Int32).toInt = 1 := rfl
  have ep : (u 167 0 - 1).toInt = (u 167 0).toInt - 1 := by
    rw [ti_sub (by have := bq.1; have := bq.2; omega) (by have := bq.1; have := bq.2; omega), e1]
  have hX : Fx_M_textRX 0 at0 u g = if at0 = -1 then (if u 167 0 = 2 then (-2, y, g) else (xq_c3 (Fx_M_readText0X y g) fun t z g3 => if t = true then Fx_M_textRX_L138b u g3 158 (iN 0) (ms z 167 0 ((u 167 0) + 1)) else (-1, z, g3))) else (if Fx_M_inEX at0 0 ((u 167 0) - 1) y g = true then (xq_c3 (Fx_M_readText0X y g) fun t z g3 => if t = true then Fx_M_textRX_L138 at0 g3 158 (iN 0) (ms z 167 0 ((u 167 0) + 0)) else (-1, z, g3)) else (-2, y, g)) := by
    by_cases h : at0 = -1
    · subst h
      unfold Fx_M_textRX
      simp (config := { decide := true }) only [xq_lt, if_false, if_true, in_X]
      subst hy
      rfl
    · unfold Fx_M_textRX
      simp (config := { decide := true }) only [xq_lt, h, if_false, if_true, in_X]
      subst hy
      rfl
  rw [hX, en]
  by_cases h : at0 = -1
  · rw [if_pos h, if_pos h]
    by_cases h2 : u 167 0 = 2
    · rw [if_pos h2, if_pos (show (2 : Int32) ≤ u 167 0 by rw [h2]; decide)]
      exact ⟨fun _ => ⟨y, rfl, y5, y6⟩, fun z => absurd rfl z, fun z => absurd rfl z⟩
    · have h3 : ¬ (2 : Int32) ≤ u 167 0 := by
        intro z
        have z1 := Int32.le_iff_toInt_le.mp z
        have e2 : (2 : Int32).toInt = 2 := rfl
        exact h2 (Int32.toInt_inj.mp (by have := bq.2; omega))
      rw [if_neg h2, if_neg h3, e, c3_mk]
      have hnz : ¬ u 167 0 = -1 := by
        intro z
        have := congrArg Int32.toInt z
        have e2 : (-1 : Int32).toInt = -1 := rfl
        have := bq.1
        omega
      refine ⟨fun z => absurd z hnz, fun _ q => ?_, fun _ q => ?_⟩
      · rw [if_pos (decide_eq_true q)]
        obtain ⟨z, z1, z2⟩ := cy_0b (u := u) (g := g2) 158 0 (ms x 167 0 ((u 167 0) + 1)) (by omega) (by omega)
        refine ⟨z, g2, z1, ?_, ?_, ?_⟩
        · rw [z2 165 (by decide), ms_c1 (by decide)]; exact x1
        · rw [z2 166 (by decide), ms_c1 (by decide)]; exact x2
        · rw [z2 170 (by decide), ms_c1 (by decide)]; exact x3 q
      · rw [if_neg (fun z => q (of_decide_eq_true z))]
        exact ⟨x, g2, rfl, x1, x2⟩
  · rw [if_neg h, if_neg h, in_X]
    by_cases h2 : 0 ≤ at0 ∧ at0 ≤ u 167 0 - 1
    · have a1 := Int32.le_iff_toInt_le.mp h2.1
      have a2 := Int32.le_iff_toInt_le.mp h2.2
      have e0 : (0 : Int32).toInt = 0 := rfl
      rw [decide_eq_true h2.1, decide_eq_true h2.2, if_pos (show (true && true) = true from rfl), if_neg (fun z => lt_le_no z h2.1), if_neg (show ¬ u 167 0 ≤ at0 by rw [Int32.le_iff_toInt_le]; omega), e, c3_mk]
      refine ⟨fun z => absurd z h, fun _ q => ?_, fun _ q => ?_⟩
      · rw [if_pos (decide_eq_true q)]
        obtain ⟨z, z1, z2⟩ := cy_0a (at0 := at0) (g := g2) 158 0 (ms x 167 0 ((u 167 0) + 0)) (by omega) (by omega)
        refine ⟨z, g2, z1, ?_, ?_, ?_⟩
        · rw [z2 165 (by decide), ms_c1 (by decide)]; exact x1
        · rw [z2 166 (by decide), ms_c1 (by decide)]; exact x2
        · rw [z2 170 (by decide), ms_c1 (by decide)]; exact x3 q
      · rw [if_neg (fun z => q (of_decide_eq_true z))]
        exact ⟨x, g2, rfl, x1, x2⟩
    · have h3 : ¬ (decide (0 ≤ at0) && decide (at0 ≤ u 167 0 - 1)) = true := by
        intro z
        obtain ⟨z1, z2⟩ := (Bool.and_eq_true _ _).mp z
        exact h2 ⟨of_decide_eq_true z1, of_decide_eq_true z2⟩
      have h4 : (if at0 < 0 then (-1 : Int32) else if u 167 0 ≤ at0 then -1 else at0) = -1 := by
        by_cases z : at0 < 0
        · rw [if_pos z]
        · rw [if_neg z]
          by_cases z2 : u 167 0 ≤ at0
          · rw [if_pos z2]
          · exfalso
            have z3 := Int32.lt_iff_toInt_lt.mp (i_nle z2)
            exact h2 ⟨i_nlt z, by rw [Int32.le_iff_toInt_le]; omega⟩
      rw [if_neg h3, h4]
      exact ⟨fun _ => ⟨y, rfl, y5, y6⟩, fun z => absurd rfl z, fun z => absurd rfl z⟩
theorem cy_1a {at0 : Int32} {g : GG} : ∀ (n i : Nat) (w : MM), 37 - i < n → i ≤ 37 → ∃ x, Fx_M_textRX_L179 at0 g n (iN i) w = (at0, x, g) ∧ ∀ b, b ≠ 169 → x b = w b := by
  intro n
  induction n with
  | zero => intro i w h; omega
  | succ n ih =>
    intro i w h hi
    rw [Fx_M_textRX_L179_s]
    by_cases c : 37 ≤ i
    · rw [if_pos (show (37 : Int32) ≤ iN i from (iN_le (a := 37) (by omega) (by omega)).mpr c)]
      exact ⟨w, rfl, fun _ _ => rfl⟩
    · rw [if_neg (show ¬ (37 : Int32) ≤ iN i from fun q => c ((iN_le (a := 37) (by omega) (by omega)).mp q)), iN_s]
      simp only [xq_lt]
      obtain ⟨x, x1, x2⟩ := ih (i + 1) (ms w 169 ((((37 : Int32) * at0) + iN i).toNatClampNeg) (w 170 (iN i).toNatClampNeg)) (by omega) (by omega)
      exact ⟨x, x1, fun b hb => (x2 b hb).trans (ms_c1 hb)⟩
theorem cy_1b {u : MM} {g : GG} : ∀ (n i : Nat) (w : MM), 37 - i < n → i ≤ 37 → ∃ x, Fx_M_textRX_L179b u g n (iN i) w = (u 167 1, x, g) ∧ ∀ b, b ≠ 169 → x b = w b := by
  intro n
  induction n with
  | zero => intro i w h; omega
  | succ n ih =>
    intro i w h hi
    rw [Fx_M_textRX_L179b_s]
    by_cases c : 37 ≤ i
    · rw [if_pos (show (37 : Int32) ≤ iN i from (iN_le (a := 37) (by omega) (by omega)).mpr c)]
      exact ⟨w, rfl, fun _ _ => rfl⟩
    · rw [if_neg (show ¬ (37 : Int32) ≤ iN i from fun q => c ((iN_le (a := 37) (by omega) (by omega)).mp q)), iN_s]
      simp only [xq_lt]
      obtain ⟨x, x1, x2⟩ := ih (i + 1) (ms w 169 ((((37 : Int32) * (u 167 1)) + iN i).toNatClampNeg) (w 170 (iN i).toNatClampNeg)) (by omega) (by omega)
      exact ⟨x, x1, fun b hb => (x2 b hb).trans (ms_c1 hb)⟩
theorem tm_1 {at0 : Int32} {u : MM} {g : GG} {L : Nat} {F : Int32 × Int32 × (Nat → Int32)} (hb : L ≤ 600) (hL : u 164 0 = iN L) (hf : ∀ j, j < L → Bd (-128) 127 (u 163 j)) (bq : Bd 0 3 (u 167 1)) (hF : txF 1 (u 163) L (u 170) = F) :
    (nuT 1 at0 (u 167 0) (u 167 1) = -1 → ∃ x, Fx_M_textRX 1 at0 u g = (-2, x, g) ∧ x 165 0 = 0 ∧ x 166 0 = -1) ∧
    (¬ nuT 1 at0 (u 167 0) (u 167 1) = -1 → F.1 = 0 → ∃ x g2, Fx_M_textRX 1 at0 u g = (nuT 1 at0 (u 167 0) (u 167 1), x, g2) ∧ x 165 0 = F.1 ∧ x 166 0 = F.2.1 ∧ x 170 = F.2.2) ∧
    (¬ nuT 1 at0 (u 167 0) (u 167 1) = -1 → ¬ F.1 = 0 → ∃ x g2, Fx_M_textRX 1 at0 u g = (-1, x, g2) ∧ x 165 0 = F.1 ∧ x 166 0 = F.2.1) := by
  obtain ⟨y, hy⟩ : ∃ y, y = ms (ms (ms (ms (ms u 162 0 0) 162 9 (u 164 0)) 164 0 0) 165 0 0) 166 0 (-1) := ⟨_, rfl⟩
  have y9 : y 162 9 = iN L := by rw [hy]; exact hL
  have y163 : y 163 = u 163 := by rw [hy]; rfl
  have y170 : y 170 = u 170 := by rw [hy]; rfl
  have y5 : y 165 0 = 0 := by rw [hy]; rfl
  have y6 : y 166 0 = -1 := by rw [hy]; rfl
  have hF2 : txF 1 (y 163) L (y 170) = F := by rw [y163, y170]; exact hF
  obtain ⟨x, g2, e, x1, x2, x3⟩ := t1_X (v := y) (g := g) hb y9 (by rw [y163]; exact hf) hF2
  have en : nuT 1 at0 (u 167 0) (u 167 1) = if at0 = -1 then (if 3 ≤ u 167 1 then -1 else u 167 1) else if at0 < 0 then -1 else if u 167 1 ≤ at0 then -1 else at0 := rfl
  have e1 : (1 : Int32).toInt = 1 := rfl
  have ep : (u 167 1 - 1).toInt = (u 167 1).toInt - 1 := by
    rw [ti_sub (by have := bq.1; have := bq.2; omega) (by have := bq.1; have := bq.2; omega), e1]
  have hX : Fx_M_textRX 1 at0 u g = if at0 = -1 then (if u 167 1 = 3 then (-2, y, g) else (xq_c3 (Fx_M_readText1X y g) fun t z g3 => if t = true then Fx_M_textRX_L179b u g3 38 (iN 0) (ms z 167 1 ((u 167 1) + 1)) else (-1, z, g3))) else (if Fx_M_inEX at0 0 ((u 167 1) - 1) y g = true then (xq_c3 (Fx_M_readText1X y g) fun t z g3 => if t = true then Fx_M_textRX_L179 at0 g3 38 (iN 0) (ms z 167 1 ((u 167 1) + 0)) else (-1, z, g3)) else (-2, y, g)) := by
    by_cases h : at0 = -1
    · subst h
      unfold Fx_M_textRX
      simp (config := { decide := true }) only [xq_lt, if_false, if_true, in_X]
      subst hy
      rfl
    · unfold Fx_M_textRX
      simp (config := { decide := true }) only [xq_lt, h, if_false, if_true, in_X]
      subst hy
      rfl
  rw [hX, en]
  by_cases h : at0 = -1
  · rw [if_pos h, if_pos h]
    by_cases h2 : u 167 1 = 3
    · rw [if_pos h2, if_pos (show (3 : Int32) ≤ u 167 1 by rw [h2]; decide)]
      exact ⟨fun _ => ⟨y, rfl, y5, y6⟩, fun z => absurd rfl z, fun z => absurd rfl z⟩
    · have h3 : ¬ (3 : Int32) ≤ u 167 1 := by
        intro z
        have z1 := Int32.le_iff_toInt_le.mp z
        have e2 : (3 : Int32).toInt = 3 := rfl
        exact h2 (Int32.toInt_inj.mp (by have := bq.2; omega))
      rw [if_neg h2, if_neg h3, e, c3_mk]
      have hnz : ¬ u 167 1 = -1 := by
        intro z
        have := congrArg Int32.toInt z
        have e2 : (-1 : Int32).toInt = -1 := rfl
        have := bq.1
        omega
      refine ⟨fun z => absurd z hnz, fun _ q => ?_, fun _ q => ?_⟩
      · rw [if_pos (decide_eq_true q)]
        obtain ⟨z, z1, z2⟩ := cy_1b (u := u) (g := g2) 38 0 (ms x 167 1 ((u 167 1) + 1)) (by omega) (by omega)
        refine ⟨z, g2, z1, ?_, ?_, ?_⟩
        · rw [z2 165 (by decide), ms_c1 (by decide)]; exact x1
        · rw [z2 166 (by decide), ms_c1 (by decide)]; exact x2
        · rw [z2 170 (by decide), ms_c1 (by decide)]; exact x3 q
      · rw [if_neg (fun z => q (of_decide_eq_true z))]
        exact ⟨x, g2, rfl, x1, x2⟩
  · rw [if_neg h, if_neg h, in_X]
    by_cases h2 : 0 ≤ at0 ∧ at0 ≤ u 167 1 - 1
    · have a1 := Int32.le_iff_toInt_le.mp h2.1
      have a2 := Int32.le_iff_toInt_le.mp h2.2
      have e0 : (0 : Int32).toInt = 0 := rfl
      rw [decide_eq_true h2.1, decide_eq_true h2.2, if_pos (show (true && true) = true from rfl), if_neg (fun z => lt_le_no z h2.1), if_neg (show ¬ u 167 1 ≤ at0 by rw [Int32.le_iff_toInt_le]; omega), e, c3_mk]
      refine ⟨fun z => absurd z h, fun _ q => ?_, fun _ q => ?_⟩
      · rw [if_pos (decide_eq_true q)]
        obtain ⟨z, z1, z2⟩ := cy_1a (at0 := at0) (g := g2) 38 0 (ms x 167 1 ((u 167 1) + 0)) (by omega) (by omega)
        refine ⟨z, g2, z1, ?_, ?_, ?_⟩
        · rw [z2 165 (by decide), ms_c1 (by decide)]; exact x1
        · rw [z2 166 (by decide), ms_c1 (by decide)]; exact x2
        · rw [z2 170 (by decide), ms_c1 (by decide)]; exact x3 q
      · rw [if_neg (fun z => q (of_decide_eq_true z))]
        exact ⟨x, g2, rfl, x1, x2⟩
    · have h3 : ¬ (decide (0 ≤ at0) && decide (at0 ≤ u 167 1 - 1)) = true := by
        intro z
        obtain ⟨z1, z2⟩ := (Bool.and_eq_true _ _).mp z
        exact h2 ⟨of_decide_eq_true z1, of_decide_eq_true z2⟩
      have h4 : (if at0 < 0 then (-1 : Int32) else if u 167 1 ≤ at0 then -1 else at0) = -1 := by
        by_cases z : at0 < 0
        · rw [if_pos z]
        · rw [if_neg z]
          by_cases z2 : u 167 1 ≤ at0
          · rw [if_pos z2]
          · exfalso
            have z3 := Int32.lt_iff_toInt_lt.mp (i_nle z2)
            exact h2 ⟨i_nlt z, by rw [Int32.le_iff_toInt_le]; omega⟩
      rw [if_neg h3, h4]
      exact ⟨fun _ => ⟨y, rfl, y5, y6⟩, fun z => absurd rfl z, fun z => absurd rfl z⟩
