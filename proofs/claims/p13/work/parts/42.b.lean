/-! copies of the reference; image, again -/
theorem fr_ix {N a i : Nat} (ha : a ≤ 3) (hi : i < N) (hN : N ≤ 600) : ((iN N * iN a) + iN i).toNatClampNeg = N * a + i := by
  have : N * a ≤ 600 * 3 := Nat.mul_le_mul hN ha
  rw [iN_m, iN_a, iN_cl (by omega)]
theorem dj_ix {N a b i k : Nat} (hab : a ≠ b) (hi : i < N) (hk : k < N) : N * a + i ≠ N * b + k := by
  intro h
  rcases Nat.lt_or_gt_of_ne hab with q | q
  · have : N * (a + 1) ≤ N * b := Nat.mul_le_mul_left N q
    rw [Nat.mul_add] at this
    omega
  · have : N * (b + 1) ≤ N * a := Nat.mul_le_mul_left N q
    rw [Nat.mul_add] at this
    omega
theorem nb_fit {v : Int32} (h : fits .byte (.int v) = true) : vp_nar .byte v = v := by
  unfold vp_nar
  rw [narrow_of_fits h]
noncomputable def Fx_M_copyRX_T (a b : Int32) (x : MM) (g : GG) : MM := Fx_M_move_169X a b (Fx_M_move_168X a b (Fx_M_move_167X a b (Fx_M_move_166X a b (Fx_M_move_165X a b (Fx_M_move_164X a b x g) g) g) g) g) g
theorem mv_164 {a b : Nat} (ha : a ≤ 3) (hb : b ≤ 3) (hab : a ≠ b) : ∀ (n i : Nat) (w : MM), 1 - i < n → i ≤ 1 → ∃ x, Fx_M_move_164X_L3 (iN a) (iN b) n (iN i) w = x ∧ (∀ c, c ≠ 164 → x c = w c) ∧ (∀ j, i ≤ j → j < 1 → x 164 (1 * b + j) = w 164 (1 * a + j)) ∧ ∀ j, (j < 1 * b + i ∨ 1 * b + 1 ≤ j) → x 164 j = w 164 j := by
  intro n
  induction n with
  | zero => intro i w h; omega
  | succ n ih =>
    intro i w h hi
    rw [Fx_M_move_164X_L3_s]
    by_cases c : 1 ≤ i
    · rw [if_pos (show (1 : Int32) ≤ iN i from (iN_le (a := 1) (by omega) (by omega)).mpr c)]
      exact ⟨w, rfl, fun _ _ => rfl, fun j h1 h2 => by omega, fun j _ => rfl⟩
    · rw [if_neg (show ¬ (1 : Int32) ≤ iN i from fun q => c ((iN_le (a := 1) (by omega) (by omega)).mp q)), iN_s]
      have q1 : (((1 : Int32) * iN a) + iN i).toNatClampNeg = 1 * a + i := fr_ix (N := 1) ha (by omega) (by omega)
      have q2 : (((1 : Int32) * iN b) + iN i).toNatClampNeg = 1 * b + i := fr_ix (N := 1) hb (by omega) (by omega)
      simp only [xq_lt, q1, q2]
      obtain ⟨x, x1, x2, x3, x4⟩ := ih (i + 1) (ms w 164 (1 * b + i) (w 164 (1 * a + i))) (by omega) (by omega)
      refine ⟨x, x1, fun c hc => (x2 c hc).trans (ms_c1 hc), fun j h1 h2 => ?_, fun j hj => ?_⟩
      · by_cases z : j = i
        · rw [z, x4 _ (by omega), ms_e1]
        · rw [x3 j (by omega) h2, ms_i1 (dj_ix hab (by omega) (by omega))]
      · rw [x4 j (by omega), ms_i1 (by omega)]
theorem mv_165 {a b : Nat} (ha : a ≤ 3) (hb : b ≤ 3) (hab : a ≠ b) : ∀ (n i : Nat) (w : MM), 1 - i < n → i ≤ 1 → ∃ x, Fx_M_move_165X_L3 (iN a) (iN b) n (iN i) w = x ∧ (∀ c, c ≠ 165 → x c = w c) ∧ (∀ j, i ≤ j → j < 1 → x 165 (1 * b + j) = w 165 (1 * a + j)) ∧ ∀ j, (j < 1 * b + i ∨ 1 * b + 1 ≤ j) → x 165 j = w 165 j := by
  intro n
  induction n with
  | zero => intro i w h; omega
  | succ n ih =>
    intro i w h hi
    rw [Fx_M_move_165X_L3_s]
    by_cases c : 1 ≤ i
    · rw [if_pos (show (1 : Int32) ≤ iN i from (iN_le (a := 1) (by omega) (by omega)).mpr c)]
      exact ⟨w, rfl, fun _ _ => rfl, fun j h1 h2 => by omega, fun j _ => rfl⟩
    · rw [if_neg (show ¬ (1 : Int32) ≤ iN i from fun q => c ((iN_le (a := 1) (by omega) (by omega)).mp q)), iN_s]
      have q1 : (((1 : Int32) * iN a) + iN i).toNatClampNeg = 1 * a + i := fr_ix (N := 1) ha (by omega) (by omega)
      have q2 : (((1 : Int32) * iN b) + iN i).toNatClampNeg = 1 * b + i := fr_ix (N := 1) hb (by omega) (by omega)
      simp only [xq_lt, q1, q2]
      obtain ⟨x, x1, x2, x3, x4⟩ := ih (i + 1) (ms w 165 (1 * b + i) (w 165 (1 * a + i))) (by omega) (by omega)
      refine ⟨x, x1, fun c hc => (x2 c hc).trans (ms_c1 hc), fun j h1 h2 => ?_, fun j hj => ?_⟩
      · by_cases z : j = i
        · rw [z, x4 _ (by omega), ms_e1]
        · rw [x3 j (by omega) h2, ms_i1 (dj_ix hab (by omega) (by omega))]
      · rw [x4 j (by omega), ms_i1 (by omega)]
theorem mv_166 {a b : Nat} (ha : a ≤ 3) (hb : b ≤ 3) (hab : a ≠ b) : ∀ (n i : Nat) (w : MM), 1 - i < n → i ≤ 1 → ∃ x, Fx_M_move_166X_L3 (iN a) (iN b) n (iN i) w = x ∧ (∀ c, c ≠ 166 → x c = w c) ∧ (∀ j, i ≤ j → j < 1 → x 166 (1 * b + j) = w 166 (1 * a + j)) ∧ ∀ j, (j < 1 * b + i ∨ 1 * b + 1 ≤ j) → x 166 j = w 166 j := by
  intro n
  induction n with
  | zero => intro i w h; omega
  | succ n ih =>
    intro i w h hi
    rw [Fx_M_move_166X_L3_s]
    by_cases c : 1 ≤ i
    · rw [if_pos (show (1 : Int32) ≤ iN i from (iN_le (a := 1) (by omega) (by omega)).mpr c)]
      exact ⟨w, rfl, fun _ _ => rfl, fun j h1 h2 => by omega, fun j _ => rfl⟩
    · rw [if_neg (show ¬ (1 : Int32) ≤ iN i from fun q => c ((iN_le (a := 1) (by omega) (by omega)).mp q)), iN_s]
      have q1 : (((1 : Int32) * iN a) + iN i).toNatClampNeg = 1 * a + i := fr_ix (N := 1) ha (by omega) (by omega)
      have q2 : (((1 : Int32) * iN b) + iN i).toNatClampNeg = 1 * b + i := fr_ix (N := 1) hb (by omega) (by omega)
      simp only [xq_lt, q1, q2]
      obtain ⟨x, x1, x2, x3, x4⟩ := ih (i + 1) (ms w 166 (1 * b + i) (w 166 (1 * a + i))) (by omega) (by omega)
      refine ⟨x, x1, fun c hc => (x2 c hc).trans (ms_c1 hc), fun j h1 h2 => ?_, fun j hj => ?_⟩
      · by_cases z : j = i
        · rw [z, x4 _ (by omega), ms_e1]
        · rw [x3 j (by omega) h2, ms_i1 (dj_ix hab (by omega) (by omega))]
      · rw [x4 j (by omega), ms_i1 (by omega)]
theorem mv_167 {a b : Nat} (ha : a ≤ 3) (hb : b ≤ 3) (hab : a ≠ b) : ∀ (n i : Nat) (w : MM), 2 - i < n → i ≤ 2 → ∃ x, Fx_M_move_167X_L3 (iN a) (iN b) n (iN i) w = x ∧ (∀ c, c ≠ 167 → x c = w c) ∧ (∀ j, i ≤ j → j < 2 → x 167 (2 * b + j) = w 167 (2 * a + j)) ∧ ∀ j, (j < 2 * b + i ∨ 2 * b + 2 ≤ j) → x 167 j = w 167 j := by
  intro n
  induction n with
  | zero => intro i w h; omega
  | succ n ih =>
    intro i w h hi
    rw [Fx_M_move_167X_L3_s]
    by_cases c : 2 ≤ i
    · rw [if_pos (show (2 : Int32) ≤ iN i from (iN_le (a := 2) (by omega) (by omega)).mpr c)]
      exact ⟨w, rfl, fun _ _ => rfl, fun j h1 h2 => by omega, fun j _ => rfl⟩
    · rw [if_neg (show ¬ (2 : Int32) ≤ iN i from fun q => c ((iN_le (a := 2) (by omega) (by omega)).mp q)), iN_s]
      have q1 : (((2 : Int32) * iN a) + iN i).toNatClampNeg = 2 * a + i := fr_ix (N := 2) ha (by omega) (by omega)
      have q2 : (((2 : Int32) * iN b) + iN i).toNatClampNeg = 2 * b + i := fr_ix (N := 2) hb (by omega) (by omega)
      simp only [xq_lt, q1, q2]
      obtain ⟨x, x1, x2, x3, x4⟩ := ih (i + 1) (ms w 167 (2 * b + i) (w 167 (2 * a + i))) (by omega) (by omega)
      refine ⟨x, x1, fun c hc => (x2 c hc).trans (ms_c1 hc), fun j h1 h2 => ?_, fun j hj => ?_⟩
      · by_cases z : j = i
        · rw [z, x4 _ (by omega), ms_e1]
        · rw [x3 j (by omega) h2, ms_i1 (dj_ix hab (by omega) (by omega))]
      · rw [x4 j (by omega), ms_i1 (by omega)]
theorem mv_168 {a b : Nat} (ha : a ≤ 3) (hb : b ≤ 3) (hab : a ≠ b) : ∀ (n i : Nat) (w : MM), 314 - i < n → i ≤ 314 → ∃ x, Fx_M_move_168X_L3 (iN a) (iN b) n (iN i) w = x ∧ (∀ c, c ≠ 168 → x c = w c) ∧ (∀ j, i ≤ j → j < 314 → x 168 (314 * b + j) = w 168 (314 * a + j)) ∧ ∀ j, (j < 314 * b + i ∨ 314 * b + 314 ≤ j) → x 168 j = w 168 j := by
  intro n
  induction n with
  | zero => intro i w h; omega
  | succ n ih =>
    intro i w h hi
    rw [Fx_M_move_168X_L3_s]
    by_cases c : 314 ≤ i
    · rw [if_pos (show (314 : Int32) ≤ iN i from (iN_le (a := 314) (by omega) (by omega)).mpr c)]
      exact ⟨w, rfl, fun _ _ => rfl, fun j h1 h2 => by omega, fun j _ => rfl⟩
    · rw [if_neg (show ¬ (314 : Int32) ≤ iN i from fun q => c ((iN_le (a := 314) (by omega) (by omega)).mp q)), iN_s]
      have q1 : (((314 : Int32) * iN a) + iN i).toNatClampNeg = 314 * a + i := fr_ix (N := 314) ha (by omega) (by omega)
      have q2 : (((314 : Int32) * iN b) + iN i).toNatClampNeg = 314 * b + i := fr_ix (N := 314) hb (by omega) (by omega)
      simp only [xq_lt, q1, q2]
      obtain ⟨x, x1, x2, x3, x4⟩ := ih (i + 1) (ms w 168 (314 * b + i) (w 168 (314 * a + i))) (by omega) (by omega)
      refine ⟨x, x1, fun c hc => (x2 c hc).trans (ms_c1 hc), fun j h1 h2 => ?_, fun j hj => ?_⟩
      · by_cases z : j = i
        · rw [z, x4 _ (by omega), ms_e1]
        · rw [x3 j (by omega) h2, ms_i1 (dj_ix hab (by omega) (by omega))]
      · rw [x4 j (by omega), ms_i1 (by omega)]
theorem mv_169 {a b : Nat} (ha : a ≤ 3) (hb : b ≤ 3) (hab : a ≠ b) : ∀ (n i : Nat) (w : MM), 111 - i < n → i ≤ 111 → ∃ x, Fx_M_move_169X_L3 (iN a) (iN b) n (iN i) w = x ∧ (∀ c, c ≠ 169 → x c = w c) ∧ (∀ j, i ≤ j → j < 111 → x 169 (111 * b + j) = w 169 (111 * a + j)) ∧ ∀ j, (j < 111 * b + i ∨ 111 * b + 111 ≤ j) → x 169 j = w 169 j := by
  intro n
  induction n with
  | zero => intro i w h; omega
  | succ n ih =>
    intro i w h hi
    rw [Fx_M_move_169X_L3_s]
    by_cases c : 111 ≤ i
    · rw [if_pos (show (111 : Int32) ≤ iN i from (iN_le (a := 111) (by omega) (by omega)).mpr c)]
      exact ⟨w, rfl, fun _ _ => rfl, fun j h1 h2 => by omega, fun j _ => rfl⟩
    · rw [if_neg (show ¬ (111 : Int32) ≤ iN i from fun q => c ((iN_le (a := 111) (by omega) (by omega)).mp q)), iN_s]
      have q1 : (((111 : Int32) * iN a) + iN i).toNatClampNeg = 111 * a + i := fr_ix (N := 111) ha (by omega) (by omega)
      have q2 : (((111 : Int32) * iN b) + iN i).toNatClampNeg = 111 * b + i := fr_ix (N := 111) hb (by omega) (by omega)
      simp only [xq_lt, q1, q2]
      obtain ⟨x, x1, x2, x3, x4⟩ := ih (i + 1) (ms w 169 (111 * b + i) (w 169 (111 * a + i))) (by omega) (by omega)
      refine ⟨x, x1, fun c hc => (x2 c hc).trans (ms_c1 hc), fun j h1 h2 => ?_, fun j hj => ?_⟩
      · by_cases z : j = i
        · rw [z, x4 _ (by omega), ms_e1]
        · rw [x3 j (by omega) h2, ms_i1 (dj_ix hab (by omega) (by omega))]
      · rw [x4 j (by omega), ms_i1 (by omega)]
theorem mv_163 {a b : Nat} (ha : a ≤ 3) (hb : b ≤ 3) (hab : a ≠ b) {g : GG} : ∀ (n i : Nat) (w : MM), 600 - i < n → i ≤ 600 → (∀ j, j < 600 → fits .byte (.int (w 163 (600 * a + j))) = true) → ∃ x, Fx_M_copyRX_L2 (iN a) (iN b) g n (iN i) w = Fx_M_copyRX_T (iN a) (iN b) x g ∧ (∀ c, c ≠ 163 → x c = w c) ∧ (∀ j, i ≤ j → j < 600 → x 163 (600 * b + j) = w 163 (600 * a + j)) ∧ ∀ j, (j < 600 * b + i ∨ 600 * b + 600 ≤ j) → x 163 j = w 163 j := by
  intro n
  induction n with
  | zero => intro i w h; omega
  | succ n ih =>
    intro i w h hi hf
    rw [Fx_M_copyRX_L2_s]
    by_cases c : 600 ≤ i
    · rw [if_pos (show (600 : Int32) ≤ iN i from (iN_le (a := 600) (by omega) (by omega)).mpr c), xqb, xqb, xqb, xqb, xqb, xqb]
      exact ⟨w, rfl, fun _ _ => rfl, fun j h1 h2 => by omega, fun j _ => rfl⟩
    · rw [if_neg (show ¬ (600 : Int32) ≤ iN i from fun q => c ((iN_le (a := 600) (by omega) (by omega)).mp q)), iN_s]
      have q1 : (((600 : Int32) * iN a) + iN i).toNatClampNeg = 600 * a + i := fr_ix (N := 600) ha (by omega) (by omega)
      have q2 : (((600 : Int32) * iN b) + iN i).toNatClampNeg = 600 * b + i := fr_ix (N := 600) hb (by omega) (by omega)
      simp only [xq_lt, q1, q2]
      rw [nb_fit (hf i (by omega))]
      obtain ⟨x, x1, x2, x3, x4⟩ := ih (i + 1) (ms w 163 (600 * b + i) (w 163 (600 * a + i))) (by omega) (by omega) (fun j hj => by rw [ms_i1 (dj_ix hab hj (by omega))]; exact hf j hj)
      refine ⟨x, x1, fun c hc => (x2 c hc).trans (ms_c1 hc), fun j h1 h2 => ?_, fun j hj => ?_⟩
      · by_cases z : j = i
        · rw [z, x4 _ (by omega), ms_e1]
        · rw [x3 j (by omega) h2, ms_i1 (dj_ix hab (by omega) (by omega))]
      · rw [x4 j (by omega), ms_i1 (by omega)]
theorem mw_164 {a b : Nat} {w : MM} {g : GG} (ha : a ≤ 3) (hb : b ≤ 3) (hab : a ≠ b) : (∀ c, c ≠ 164 → Fx_M_move_164X (iN a) (iN b) w g c = w c) ∧ (∀ j, j < 1 → Fx_M_move_164X (iN a) (iN b) w g 164 (1 * b + j) = w 164 (1 * a + j)) ∧ ∀ j, (j < 1 * b ∨ 1 * b + 1 ≤ j) → Fx_M_move_164X (iN a) (iN b) w g 164 j = w 164 j := by
  have e : Fx_M_move_164X (iN a) (iN b) w g = Fx_M_move_164X_L3 (iN a) (iN b) 2 (iN 0) w := rfl
  obtain ⟨x, x1, x2, x3, x4⟩ := mv_164 ha hb hab 2 0 w (by omega) (by omega)
  rw [e, x1]
  exact ⟨x2, fun j hj => x3 j (by omega) hj, fun j hj => x4 j (by omega)⟩
theorem mw_165 {a b : Nat} {w : MM} {g : GG} (ha : a ≤ 3) (hb : b ≤ 3) (hab : a ≠ b) : (∀ c, c ≠ 165 → Fx_M_move_165X (iN a) (iN b) w g c = w c) ∧ (∀ j, j < 1 → Fx_M_move_165X (iN a) (iN b) w g 165 (1 * b + j) = w 165 (1 * a + j)) ∧ ∀ j, (j < 1 * b ∨ 1 * b + 1 ≤ j) → Fx_M_move_165X (iN a) (iN b) w g 165 j = w 165 j := by
  have e : Fx_M_move_165X (iN a) (iN b) w g = Fx_M_move_165X_L3 (iN a) (iN b) 2 (iN 0) w := rfl
  obtain ⟨x, x1, x2, x3, x4⟩ := mv_165 ha hb hab 2 0 w (by omega) (by omega)
  rw [e, x1]
  exact ⟨x2, fun j hj => x3 j (by omega) hj, fun j hj => x4 j (by omega)⟩
theorem mw_166 {a b : Nat} {w : MM} {g : GG} (ha : a ≤ 3) (hb : b ≤ 3) (hab : a ≠ b) : (∀ c, c ≠ 166 → Fx_M_move_166X (iN a) (iN b) w g c = w c) ∧ (∀ j, j < 1 → Fx_M_move_166X (iN a) (iN b) w g 166 (1 * b + j) = w 166 (1 * a + j)) ∧ ∀ j, (j < 1 * b ∨ 1 * b + 1 ≤ j) → Fx_M_move_166X (iN a) (iN b) w g 166 j = w 166 j := by
  have e : Fx_M_move_166X (iN a) (iN b) w g = Fx_M_move_166X_L3 (iN a) (iN b) 2 (iN 0) w := rfl
  obtain ⟨x, x1, x2, x3, x4⟩ := mv_166 ha hb hab 2 0 w (by omega) (by omega)
  rw [e, x1]
  exact ⟨x2, fun j hj => x3 j (by omega) hj, fun j hj => x4 j (by omega)⟩
theorem mw_167 {a b : Nat} {w : MM} {g : GG} (ha : a ≤ 3) (hb : b ≤ 3) (hab : a ≠ b) : (∀ c, c ≠ 167 → Fx_M_move_167X (iN a) (iN b) w g c = w c) ∧ (∀ j, j < 2 → Fx_M_move_167X (iN a) (iN b) w g 167 (2 * b + j) = w 167 (2 * a + j)) ∧ ∀ j, (j < 2 * b ∨ 2 * b + 2 ≤ j) → Fx_M_move_167X (iN a) (iN b) w g 167 j = w 167 j := by
  have e : Fx_M_move_167X (iN a) (iN b) w g = Fx_M_move_167X_L3 (iN a) (iN b) 3 (iN 0) w := rfl
  obtain ⟨x, x1, x2, x3, x4⟩ := mv_167 ha hb hab 3 0 w (by omega) (by omega)
  rw [e, x1]
  exact ⟨x2, fun j hj => x3 j (by omega) hj, fun j hj => x4 j (by omega)⟩
theorem mw_168 {a b : Nat} {w : MM} {g : GG} (ha : a ≤ 3) (hb : b ≤ 3) (hab : a ≠ b) : (∀ c, c ≠ 168 → Fx_M_move_168X (iN a) (iN b) w g c = w c) ∧ (∀ j, j < 314 → Fx_M_move_168X (iN a) (iN b) w g 168 (314 * b + j) = w 168 (314 * a + j)) ∧ ∀ j, (j < 314 * b ∨ 314 * b + 314 ≤ j) → Fx_M_move_168X (iN a) (iN b) w g 168 j = w 168 j := by
  have e : Fx_M_move_168X (iN a) (iN b) w g = Fx_M_move_168X_L3 (iN a) (iN b) 315 (iN 0) w := rfl
  obtain ⟨x, x1, x2, x3, x4⟩ := mv_168 ha hb hab 315 0 w (by omega) (by omega)
  rw [e, x1]
  exact ⟨x2, fun j hj => x3 j (by omega) hj, fun j hj => x4 j (by omega)⟩
theorem mw_169 {a b : Nat} {w : MM} {g : GG} (ha : a ≤ 3) (hb : b ≤ 3) (hab : a ≠ b) : (∀ c, c ≠ 169 → Fx_M_move_169X (iN a) (iN b) w g c = w c) ∧ (∀ j, j < 111 → Fx_M_move_169X (iN a) (iN b) w g 169 (111 * b + j) = w 169 (111 * a + j)) ∧ ∀ j, (j < 111 * b ∨ 111 * b + 111 ≤ j) → Fx_M_move_169X (iN a) (iN b) w g 169 j = w 169 j := by
  have e : Fx_M_move_169X (iN a) (iN b) w g = Fx_M_move_169X_L3 (iN a) (iN b) 112 (iN 0) w := rfl
  obtain ⟨x, x1, x2, x3, x4⟩ := mv_169 ha hb hab 112 0 w (by omega) (by omega)
  rw [e, x1]
  exact ⟨x2, fun j hj => x3 j (by omega) hj, fun j hj => x4 j (by omega)⟩
theorem dj_lt {N s b j : Nat} (h : s ≠ b) (hj : j < N) : N * s + j < N * b ∨ N * b + N ≤ N * s + j := by
  rcases Nat.lt_or_gt_of_ne h with q | q
  · have : N * (s + 1) ≤ N * b := Nat.mul_le_mul_left N q
    rw [Nat.mul_add] at this
    omega
  · have : N * (b + 1) ≤ N * s := Nat.mul_le_mul_left N q
    rw [Nat.mul_add] at this
    omega
/-- the reference's copy: place b is as place a was, the others stay -/
theorem cpR_X {a b : Nat} {v : MM} {g : GG} (ha : a ≤ 3) (hb : b ≤ 3) (hab : a ≠ b) (hf : ∀ j, j < 600 → fits .byte (.int (v 163 (600 * a + j))) = true) : SCP (Fx_M_copyRX (iN a) (iN b) v g) v b a ∧ (∀ s, s ≠ b → SCP (Fx_M_copyRX (iN a) (iN b) v g) v s s) ∧ ∀ c, (c < 163 ∨ 169 < c) → Fx_M_copyRX (iN a) (iN b) v g c = v c := by
  have e : Fx_M_copyRX (iN a) (iN b) v g = Fx_M_copyRX_L2 (iN a) (iN b) g 601 (iN 0) v := rfl
  obtain ⟨x3, y3, p3, q3, r3⟩ := mv_163 ha hb hab (g := g) 601 0 v (by omega) (by omega) hf
  obtain ⟨x4, h4⟩ : ∃ x, x = Fx_M_move_164X (iN a) (iN b) x3 g := ⟨_, rfl⟩
  have m4 := mw_164 (w := x3) (g := g) ha hb hab
  rw [← h4] at m4
  obtain ⟨p4, q4, r4⟩ := m4
  obtain ⟨x5, h5⟩ : ∃ x, x = Fx_M_move_165X (iN a) (iN b) x4 g := ⟨_, rfl⟩
  have m5 := mw_165 (w := x4) (g := g) ha hb hab
  rw [← h5] at m5
  obtain ⟨p5, q5, r5⟩ := m5
  obtain ⟨x6, h6⟩ : ∃ x, x = Fx_M_move_166X (iN a) (iN b) x5 g := ⟨_, rfl⟩
  have m6 := mw_166 (w := x5) (g := g) ha hb hab
  rw [← h6] at m6
  obtain ⟨p6, q6, r6⟩ := m6
  obtain ⟨x7, h7⟩ : ∃ x, x = Fx_M_move_167X (iN a) (iN b) x6 g := ⟨_, rfl⟩
  have m7 := mw_167 (w := x6) (g := g) ha hb hab
  rw [← h7] at m7
  obtain ⟨p7, q7, r7⟩ := m7
  obtain ⟨x8, h8⟩ : ∃ x, x = Fx_M_move_168X (iN a) (iN b) x7 g := ⟨_, rfl⟩
  have m8 := mw_168 (w := x7) (g := g) ha hb hab
  rw [← h8] at m8
  obtain ⟨p8, q8, r8⟩ := m8
  obtain ⟨x9, h9⟩ : ∃ x, x = Fx_M_move_169X (iN a) (iN b) x8 g := ⟨_, rfl⟩
  have m9 := mw_169 (w := x8) (g := g) ha hb hab
  rw [← h9] at m9
  obtain ⟨p9, q9, r9⟩ := m9
  have ex : Fx_M_copyRX_T (iN a) (iN b) x3 g = x9 := by rw [h9, h8, h7, h6, h5, h4]; rfl
  rw [e, y3, ex]
  refine ⟨⟨fun j hj => ?_, ?_, ?_, ?_, ?_, ?_, fun j hj => ?_, fun j hj => ?_⟩, fun s hs => ⟨fun j hj => ?_, ?_, ?_, ?_, ?_, ?_, fun j hj => ?_, fun j hj => ?_⟩, fun c hc => ?_⟩
  · rw [p9 163 (by decide), p8 163 (by decide), p7 163 (by decide), p6 163 (by decide), p5 163 (by decide), p4 163 (by decide), q3 j (Nat.zero_le _) hj]
  · have h := q4 0 (by omega)
    rw [Nat.one_mul, Nat.one_mul, Nat.add_zero, Nat.add_zero] at h
    rw [p9 164 (by decide), p8 164 (by decide), p7 164 (by decide), p6 164 (by decide), p5 164 (by decide), h, p3 164 (by decide)]
  · have h := q5 0 (by omega)
    rw [Nat.one_mul, Nat.one_mul, Nat.add_zero, Nat.add_zero] at h
    rw [p9 165 (by decide), p8 165 (by decide), p7 165 (by decide), p6 165 (by decide), h, p4 165 (by decide), p3 165 (by decide)]
  · have h := q6 0 (by omega)
    rw [Nat.one_mul, Nat.one_mul, Nat.add_zero, Nat.add_zero] at h
    rw [p9 166 (by decide), p8 166 (by decide), p7 166 (by decide), h, p5 166 (by decide), p4 166 (by decide), p3 166 (by decide)]
  · have h := q7 0 (by omega)
    rw [Nat.add_zero, Nat.add_zero] at h
    rw [p9 167 (by decide), p8 167 (by decide), h, p6 167 (by decide), p5 167 (by decide), p4 167 (by decide), p3 167 (by decide)]
  · rw [p9 167 (by decide), p8 167 (by decide), q7 1 (by omega), p6 167 (by decide), p5 167 (by decide), p4 167 (by decide), p3 167 (by decide)]
  · rw [p9 168 (by decide), q8 j hj, p7 168 (by decide), p6 168 (by decide), p5 168 (by decide), p4 168 (by decide), p3 168 (by decide)]
  · rw [q9 j hj, p8 169 (by decide), p7 169 (by decide), p6 169 (by decide), p5 169 (by decide), p4 169 (by decide), p3 169 (by decide)]
  · rw [p9 163 (by decide), p8 163 (by decide), p7 163 (by decide), p6 163 (by decide), p5 163 (by decide), p4 163 (by decide), r3 _ (by have := dj_lt (N := 600) (j := j) hs (by omega); omega)]
  · rw [p9 164 (by decide), p8 164 (by decide), p7 164 (by decide), p6 164 (by decide), p5 164 (by decide), r4 _ (by omega), p3 164 (by decide)]
  · rw [p9 165 (by decide), p8 165 (by decide), p7 165 (by decide), p6 165 (by decide), r5 _ (by omega), p4 165 (by decide), p3 165 (by decide)]
  · rw [p9 166 (by decide), p8 166 (by decide), p7 166 (by decide), r6 _ (by omega), p5 166 (by decide), p4 166 (by decide), p3 166 (by decide)]
  · rw [p9 167 (by decide), p8 167 (by decide), r7 _ (by omega), p6 167 (by decide), p5 167 (by decide), p4 167 (by decide), p3 167 (by decide)]
  · rw [p9 167 (by decide), p8 167 (by decide), r7 _ (by omega), p6 167 (by decide), p5 167 (by decide), p4 167 (by decide), p3 167 (by decide)]
  · rw [p9 168 (by decide), r8 _ (by have := dj_lt (N := 314) (j := j) hs (by omega); omega), p7 168 (by decide), p6 168 (by decide), p5 168 (by decide), p4 168 (by decide), p3 168 (by decide)]
  · rw [r9 _ (by have := dj_lt (N := 111) (j := j) hs (by omega); omega), p8 169 (by decide), p7 169 (by decide), p6 169 (by decide), p5 169 (by decide), p4 169 (by decide), p3 169 (by decide)]
  · rw [p9 c (by omega), p8 c (by omega), p7 c (by omega), p6 c (by omega), p5 c (by omega), p4 c (by omega), p3 c (by omega)]
