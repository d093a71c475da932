section
/-! text: what the reference leaves alone -/
theorem iN_nm {n : Nat} (h : n ≤ 100000) : ¬ iN n = -1 := by
  intro q
  have := congrArg Int32.toInt q
  rw [iN_ti h] at this
  have e : (-1 : Int32).toInt = -1 := rfl
  omega
theorem iN_ex {v : Int32} {hi : Nat} (b : Bd 0 hi v) : ∃ n, v = iN n ∧ n ≤ hi := ⟨_, iN_of b (Int.le_refl _), by have := b.1; have := b.2; omega⟩
theorem tx_2 {sort at0 : Int32} {u : MM} {g : GG} (h0 : ¬ sort = 0) (h1 : ¬ sort = 1) : Fx_M_textRX sort at0 u g = (-2, T9 u, g) := by
  have hn : ¬ (decide (0 ≤ sort) && decide (sort ≤ 1)) = true := by
    intro z
    obtain ⟨z1, z2⟩ := (Bool.and_eq_true _ _).mp z
    have a1 := Int32.le_iff_toInt_le.mp (of_decide_eq_true z1)
    have a2 := Int32.le_iff_toInt_le.mp (of_decide_eq_true z2)
    have e0 : (0 : Int32).toInt = 0 := rfl
    have e1 : (1 : Int32).toInt = 1 := rfl
    have : sort.toInt = 0 ∨ sort.toInt = 1 := by omega
    rcases this with z | z
    · exact h0 (Int32.toInt_inj.mp z)
    · exact h1 (Int32.toInt_inj.mp z)
  unfold Fx_M_textRX
  rw [if_neg h0, if_neg h1]
  simp only [xq_lt, in_X]
  rw [if_neg hn]
  rfl
/-- which number: none, or the n-th -/
theorem nu_cl {m h : Nat} {at0 : Int32} (hm : m ≤ 3) (hh : h ≤ m) : ((if at0 = -1 then (if iN m ≤ iN h then (-1 : Int32) else iN h) else if at0 < 0 then -1 else if iN h ≤ at0 then -1 else at0) = -1 ∧ ((at0 = -1 ∧ h = m) ∨ (¬ at0 = -1 ∧ (at0 < 0 ∨ iN h ≤ at0)))) ∨ (¬ (if at0 = -1 then (if iN m ≤ iN h then (-1 : Int32) else iN h) else if at0 < 0 then -1 else if iN h ≤ at0 then -1 else at0) = -1 ∧ ∃ n, (if at0 = -1 then (if iN m ≤ iN h then (-1 : Int32) else iN h) else if at0 < 0 then -1 else if iN h ≤ at0 then -1 else at0) = iN n ∧ ((at0 = -1 ∧ n = h ∧ h < m) ∨ (¬ at0 = -1 ∧ n < h ∧ at0 = iN n))) := by
  by_cases a : at0 = -1
  · rw [if_pos a]
    by_cases b : m ≤ h
    · rw [if_pos ((iN_le (by omega) (by omega)).mpr b)]
      exact Or.inl ⟨rfl, Or.inl ⟨a, by omega⟩⟩
    · rw [if_neg (fun q => b ((iN_le (by omega) (by omega)).mp q))]
      exact Or.inr ⟨iN_nm (by omega), h, rfl, Or.inl ⟨a, rfl, by omega⟩⟩
  · rw [if_neg a]
    by_cases b : at0 < 0
    · rw [if_pos b]
      exact Or.inl ⟨rfl, Or.inr ⟨a, Or.inl b⟩⟩
    · rw [if_neg b]
      by_cases c : iN h ≤ at0
      · rw [if_pos c]
        exact Or.inl ⟨rfl, Or.inr ⟨a, Or.inr c⟩⟩
      · rw [if_neg c]
        have b1 := Int32.le_iff_toInt_le.mp (i_nlt b)
        have c1 := Int32.lt_iff_toInt_lt.mp (i_nle c)
        have e0 : (0 : Int32).toInt = 0 := rfl
        rw [iN_ti (by omega)] at c1
        obtain ⟨n, hn1, hn2⟩ := iN_ex (v := at0) (hi := 3) ⟨by omega, by omega⟩
        have hn3 : at0.toInt = n := by rw [hn1, iN_ti (by omega)]
        exact Or.inr ⟨a, n, hn1, Or.inr ⟨a, by omega, hn1⟩⟩
theorem cw_0 {n : Nat} {g : GG} (hn : n ≤ 3) : ∀ (m i : Nat) (w : MM), 157 - i < m → i ≤ 157 → ∃ x, Fx_M_textRX_L138 (iN n) g m (iN i) w = (iN n, x, g) ∧ (∀ b, b ≠ 168 → x b = w b) ∧ ∀ j, x 168 j = if 157 * n + i ≤ j ∧ j < 157 * n + 157 then w 170 (j - 157 * n) else w 168 j := by
  intro m
  induction m with
  | zero => intro i w h; omega
  | succ m ih =>
    intro i w h hi
    rw [Fx_M_textRX_L138_s]
    by_cases c : 157 ≤ i
    · rw [if_pos (show (157 : Int32) ≤ iN i from (iN_le (a := 157) (by omega) (by omega)).mpr c)]
      refine ⟨w, rfl, fun _ _ => rfl, fun j => ?_⟩
      rw [if_neg (by omega)]
    · rw [if_neg (show ¬ (157 : Int32) ≤ iN i from fun q => c ((iN_le (a := 157) (by omega) (by omega)).mp q)), iN_s]
      have q1 : (((157 : Int32) * iN n) + iN i).toNatClampNeg = 157 * n + i := fr_ix (N := 157) hn (by omega) (by omega)
      have q2 : (iN i).toNatClampNeg = i := iN_cl (by omega)
      simp only [xq_lt, q1, q2]
      obtain ⟨x, x1, x2, x3⟩ := ih (i + 1) (ms w 168 (157 * n + i) (w 170 i)) (by omega) (by omega)
      refine ⟨x, x1, fun b hb => (x2 b hb).trans (ms_c1 hb), fun j => ?_⟩
      rw [x3 j, ms_c1 (by decide)]
      by_cases z : j = 157 * n + i
      · rw [if_neg (by omega), z, ms_e1, if_pos (by omega), Nat.add_sub_cancel_left]
      · rw [ms_i1 z]
        by_cases z2 : 157 * n + i ≤ j ∧ j < 157 * n + 157
        · rw [if_pos (by omega), if_pos z2]
        · rw [if_neg (by omega), if_neg z2]
theorem hX_0 {at0 : Int32} {u : MM} {g : GG} : Fx_M_textRX 0 at0 u g = if at0 = -1 then (if u 167 0 = 2 then (-2, T9 u, g) else (xq_c3 (Fx_M_readText0X (T9 u) g) fun t z g3 => if t = true then Fx_M_textRX_L138b u g3 158 (iN 0) (ms z 167 0 ((u 167 0) + 1)) else (-1, z, g3))) else (if Fx_M_inEX at0 0 ((u 167 0) - 1) (T9 u) g = true then (xq_c3 (Fx_M_readText0X (T9 u) g) fun t z g3 => if t = true then Fx_M_textRX_L138 at0 g3 158 (iN 0) (ms z 167 0 ((u 167 0) + 0)) else (-1, z, g3)) else (-2, T9 u, g)) := by
  by_cases h : at0 = -1
  · subst h
    unfold Fx_M_textRX
    simp (config := { decide := true }) only [xq_lt, if_false, if_true, in_X]
    rfl
  · unfold Fx_M_textRX
    simp (config := { decide := true }) only [xq_lt, h, if_false, if_true, in_X]
    rfl
theorem txn_0 {at0 : Int32} {u : MM} {g : GG} {h : Nat} (h0 : u 167 0 = iN h) (hh : h ≤ 2) (hn : (at0 = -1 ∧ h = 2) ∨ (¬ at0 = -1 ∧ (at0 < 0 ∨ iN h ≤ at0))) : Fx_M_textRX 0 at0 u g = (-2, T9 u, g) := by
  rw [hX_0]
  rcases hn with ⟨a1, a2⟩ | ⟨a1, a2⟩
  · rw [if_pos a1, if_pos (show u 167 0 = 2 by rw [h0, a2]; rfl)]
  · rw [if_neg a1, in_X, if_neg]
    intro z
    obtain ⟨z1, z2⟩ := (Bool.and_eq_true _ _).mp z
    have z3 := of_decide_eq_true z1
    have z4 := of_decide_eq_true z2
    rcases a2 with q | q
    · exact lt_le_no q z3
    · have q1 := Int32.le_iff_toInt_le.mp q
      have q2 := Int32.le_iff_toInt_le.mp z4
      have e1 : (1 : Int32).toInt = 1 := rfl
      rw [h0, ti_sub (by rw [iN_ti (by omega)]; omega) (by rw [iN_ti (by omega)]; omega), iN_ti (by omega)] at q2
      rw [iN_ti (by omega)] at q1
      omega
theorem tx_0 {at0 : Int32} {u : MM} {g : GG} {L n h : Nat} {F : Int32 × Int32 × (Nat → Int32)} (hb : L ≤ 600) (hL : u 164 0 = iN L) (hf : ∀ j, j < L → Bd (-128) 127 (u 163 j)) (h0 : u 167 0 = iN h) (hh : h ≤ 2) (hn : (at0 = -1 ∧ n = h ∧ h < 2) ∨ (¬ at0 = -1 ∧ n < h ∧ at0 = iN n)) (hF : txF 0 (u 163) L (u 170) = F) (hr : ∀ c, c ≠ 162 → c ≠ 165 → c ≠ 166 → c ≠ 170 → c ≠ 171 → (Fx_M_readText0X (T9 u) g).2.1 c = T9 u c) :
    (F.1 = 0 → ∃ x g2, Fx_M_textRX 0 at0 u g = (iN n, x, g2) ∧ x 165 0 = F.1 ∧ x 166 0 = F.2.1 ∧ x 167 = upd (u 167) 0 (iN (if at0 = -1 then h + 1 else h)) ∧ x 169 = u 169 ∧ ∀ j, x 168 j = if 157 * n ≤ j ∧ j < 157 * n + 157 then F.2.2 (j - 157 * n) else u 168 j) ∧
    (¬ F.1 = 0 → ∃ x g2, Fx_M_textRX 0 at0 u g = (-1, x, g2) ∧ x 165 0 = F.1 ∧ x 166 0 = F.2.1 ∧ x 167 = u 167 ∧ x 168 = u 168 ∧ x 169 = u 169) := by
  have hX := hX_0 (at0 := at0) (u := u) (g := g)
  obtain ⟨y, hy⟩ : ∃ y, y = T9 u := ⟨_, rfl⟩
  have y9 : y 162 9 = iN L := by rw [hy]; exact hL
  have y163 : y 163 = u 163 := by rw [hy]; rfl
  have y170 : y 170 = u 170 := by rw [hy]; rfl
  have y167 : y 167 = u 167 := by rw [hy]; rfl
  have y168 : y 168 = u 168 := by rw [hy]; rfl
  have y169 : y 169 = u 169 := by rw [hy]; rfl
  have hF2 : txF 0 (y 163) L (y 170) = F := by rw [y163, y170]; exact hF
  obtain ⟨x, g2, e, x1, x2, x3⟩ := t0_X (v := y) (g := g) hb y9 (by rw [y163]; exact hf) hF2
  rw [← hy] at hr hX
  rw [e] at hr hX
  have xc : ∀ c, c ≠ 162 → c ≠ 165 → c ≠ 166 → c ≠ 170 → c ≠ 171 → x c = y c := hr
  have x167 : x 167 = u 167 := (xc 167 (by decide) (by decide) (by decide) (by decide) (by decide)).trans y167
  have x168 : x 168 = u 168 := (xc 168 (by decide) (by decide) (by decide) (by decide) (by decide)).trans y168
  have x169 : x 169 = u 169 := (xc 169 (by decide) (by decide) (by decide) (by decide) (by decide)).trans y169
  rw [hX]
  rcases hn with ⟨a1, a2, a3⟩ | ⟨a1, a2, a3⟩
  · rw [if_pos a1, if_neg (show ¬ u 167 0 = 2 by rw [h0]; intro q; have := (iN_eq (b := 2) (by omega) (by omega)).mp q; omega), c3_mk]
    refine ⟨fun q => ?_, fun q => ?_⟩
    · have eb : ∀ w : MM, Fx_M_textRX_L138b u g2 158 (iN 0) w = Fx_M_textRX_L138 (u 167 0) g2 158 (iN 0) w := fun w => rfl
      rw [if_pos (decide_eq_true q), eb, h0, iN_s, if_pos a1, a2]
      obtain ⟨z, z1, z2, z3⟩ := cw_0 (n := h) (by omega) (g := g2) 158 0 (ms x 167 0 (iN (h + 1))) (by omega) (by omega)
      refine ⟨z, g2, z1, ?_, ?_, ?_, ?_, fun j => ?_⟩
      · rw [z2 165 (by decide), ms_c1 (by decide)]; exact x1
      · rw [z2 166 (by decide), ms_c1 (by decide)]; exact x2
      · rw [z2 167 (by decide), ms_a1, x167]
      · rw [z2 169 (by decide), ms_c1 (by decide), x169]
      · rw [z3 j, ms_c1 (by decide), ms_c1 (by decide), x3 q, Nat.add_zero, x168]
    · rw [if_neg (fun z => q (of_decide_eq_true z))]
      exact ⟨x, g2, rfl, x1, x2, x167, x168, x169⟩
  · have p1 : (0 : Int32) ≤ at0 := by rw [a3]; exact (iN_le (a := 0) (by omega) (by omega)).mpr (Nat.zero_le _)
    have p2 : at0 ≤ u 167 0 - 1 := by
      rw [a3, h0, show (1 : Int32) = iN 1 from rfl, iN_sub (by omega)]
      exact (iN_le (by omega) (by omega)).mpr (by omega)
    have p3 : u 167 0 + 0 = iN h := by rw [h0]; exact Int32.add_zero _
    rw [if_neg a1, in_X, decide_eq_true p1, decide_eq_true p2, if_pos (show (true && true) = true from rfl), c3_mk]
    refine ⟨fun q => ?_, fun q => ?_⟩
    · rw [if_pos (decide_eq_true q), p3, if_neg a1, a3]
      obtain ⟨z, z1, z2, z3⟩ := cw_0 (n := n) (by omega) (g := g2) 158 0 (ms x 167 0 (iN h)) (by omega) (by omega)
      refine ⟨z, g2, z1, ?_, ?_, ?_, ?_, fun j => ?_⟩
      · rw [z2 165 (by decide), ms_c1 (by decide)]; exact x1
      · rw [z2 166 (by decide), ms_c1 (by decide)]; exact x2
      · rw [z2 167 (by decide), ms_a1, x167]
      · rw [z2 169 (by decide), ms_c1 (by decide), x169]
      · rw [z3 j, ms_c1 (by decide), ms_c1 (by decide), x3 q, Nat.add_zero, x168]
    · rw [if_neg (fun z => q (of_decide_eq_true z))]
      exact ⟨x, g2, rfl, x1, x2, x167, x168, x169⟩
theorem cw_1 {n : Nat} {g : GG} (hn : n ≤ 3) : ∀ (m i : Nat) (w : MM), 37 - i < m → i ≤ 37 → ∃ x, Fx_M_textRX_L179 (iN n) g m (iN i) w = (iN n, x, g) ∧ (∀ b, b ≠ 169 → x b = w b) ∧ ∀ j, x 169 j = if 37 * n + i ≤ j ∧ j < 37 * n + 37 then w 170 (j - 37 * n) else w 169 j := by
  intro m
  induction m with
  | zero => intro i w h; omega
  | succ m ih =>
    intro i w h hi
    rw [Fx_M_textRX_L179_s]
    by_cases c : 37 ≤ i
    · rw [if_pos (show (37 : Int32) ≤ iN i from (iN_le (a := 37) (by omega) (by omega)).mpr c)]
      refine ⟨w, rfl, fun _ _ => rfl, fun j => ?_⟩
      rw [if_neg (by omega)]
    · rw [if_neg (show ¬ (37 : Int32) ≤ iN i from fun q => c ((iN_le (a := 37) (by omega) (by omega)).mp q)), iN_s]
      have q1 : (((37 : Int32) * iN n) + iN i).toNatClampNeg = 37 * n + i := fr_ix (N := 37) hn (by omega) (by omega)
      have q2 : (iN i).toNatClampNeg = i := iN_cl (by omega)
      simp only [xq_lt, q1, q2]
      obtain ⟨x, x1, x2, x3⟩ := ih (i + 1) (ms w 169 (37 * n + i) (w 170 i)) (by omega) (by omega)
      refine ⟨x, x1, fun b hb => (x2 b hb).trans (ms_c1 hb), fun j => ?_⟩
      rw [x3 j, ms_c1 (by decide)]
      by_cases z : j = 37 * n + i
      · rw [if_neg (by omega), z, ms_e1, if_pos (by omega), Nat.add_sub_cancel_left]
      · rw [ms_i1 z]
        by_cases z2 : 37 * n + i ≤ j ∧ j < 37 * n + 37
        · rw [if_pos (by omega), if_pos z2]
        · rw [if_neg (by omega), if_neg z2]
theorem hX_1 {at0 : Int32} {u : MM} {g : GG} : Fx_M_textRX 1 at0 u g = if at0 = -1 then (if u 167 1 = 3 then (-2, T9 u, g) else (xq_c3 (Fx_M_readText1X (T9 u) g) fun t z g3 => if t = true then Fx_M_textRX_L179b u g3 38 (iN 0) (ms z 167 1 ((u 167 1) + 1)) else (-1, z, g3))) else (if Fx_M_inEX at0 0 ((u 167 1) - 1) (T9 u) g = true then (xq_c3 (Fx_M_readText1X (T9 u) g) fun t z g3 => if t = true then Fx_M_textRX_L179 at0 g3 38 (iN 0) (ms z 167 1 ((u 167 1) + 0)) else (-1, z, g3)) else (-2, T9 u, g)) := by
  by_cases h : at0 = -1
  · subst h
    unfold Fx_M_textRX
    simp (config := { decide := true }) only [xq_lt, if_false, if_true, in_X]
    rfl
  · unfold Fx_M_textRX
    simp (config := { decide := true }) only [xq_lt, h, if_false, if_true, in_X]
    rfl
theorem txn_1 {at0 : Int32} {u : MM} {g : GG} {h : Nat} (h0 : u 167 1 = iN h) (hh : h ≤ 3) (hn : (at0 = -1 ∧ h = 3) ∨ (¬ at0 = -1 ∧ (at0 < 0 ∨ iN h ≤ at0))) : Fx_M_textRX 1 at0 u g = (-2, T9 u, g) := by
  rw [hX_1]
  rcases hn with ⟨a1, a2⟩ | ⟨a1, a2⟩
  · rw [if_pos a1, if_pos (show u 167 1 = 3 by rw [h0, a2]; rfl)]
  · rw [if_neg a1, in_X, if_neg]
    intro z
    obtain ⟨z1, z2⟩ := (Bool.and_eq_true _ _).mp z
    have z3 := of_decide_eq_true z1
    have z4 := of_decide_eq_true z2
    rcases a2 with q | q
    · exact lt_le_no q z3
    · have q1 := Int32.le_iff_toInt_le.mp q
      have q2 := Int32.le_iff_toInt_le.mp z4
      have e1 : (1 : Int32).toInt = 1 := rfl
      rw [h0, ti_sub (by rw [iN_ti (by omega)]; omega) (by rw [iN_ti (by omega)]; omega), iN_ti (by omega)] at q2
      rw [iN_ti (by omega)] at q1
      omega
theorem tx_1 {at0 : Int32} {u : MM} {g : GG} {L n h : Nat} {F : Int32 × Int32 × (Nat → Int32)} (hb : L ≤ 600) (hL : u 164 0 = iN L) (hf : ∀ j, j < L → Bd (-128) 127 (u 163 j)) (h0 : u 167 1 = iN h) (hh : h ≤ 3) (hn : (at0 = -1 ∧ n = h ∧ h < 3) ∨ (¬ at0 = -1 ∧ n < h ∧ at0 = iN n)) (hF : txF 1 (u 163) L (u 170) = F) (hr : ∀ c, c ≠ 162 → c ≠ 165 → c ≠ 166 → c ≠ 170 → c ≠ 171 → (Fx_M_readText1X (T9 u) g).2.1 c = T9 u c) :
    (F.1 = 0 → ∃ x g2, Fx_M_textRX 1 at0 u g = (iN n, x, g2) ∧ x 165 0 = F.1 ∧ x 166 0 = F.2.1 ∧ x 167 = upd (u 167) 1 (iN (if at0 = -1 then h + 1 else h)) ∧ x 168 = u 168 ∧ ∀ j, x 169 j = if 37 * n ≤ j ∧ j < 37 * n + 37 then F.2.2 (j - 37 * n) else u 169 j) ∧
    (¬ F.1 = 0 → ∃ x g2, Fx_M_textRX 1 at0 u g = (-1, x, g2) ∧ x 165 0 = F.1 ∧ x 166 0 = F.2.1 ∧ x 167 = u 167 ∧ x 168 = u 168 ∧ x 169 = u 169) := by
  have hX := hX_1 (at0 := at0) (u := u) (g := g)
  obtain ⟨y, hy⟩ : ∃ y, y = T9 u := ⟨_, rfl⟩
  have y9 : y 162 9 = iN L := by rw [hy]; exact hL
  have y163 : y 163 = u 163 := by rw [hy]; rfl
  have y170 : y 170 = u 170 := by rw [hy]; rfl
  have y167 : y 167 = u 167 := by rw [hy]; rfl
  have y168 : y 168 = u 168 := by rw [hy]; rfl
  have y169 : y 169 = u 169 := by rw [hy]; rfl
  have hF2 : txF 1 (y 163) L (y 170) = F := by rw [y163, y170]; exact hF
  obtain ⟨x, g2, e, x1, x2, x3⟩ := t1_X (v := y) (g := g) hb y9 (by rw [y163]; exact hf) hF2
  rw [← hy] at hr hX
  rw [e] at hr hX
  have xc : ∀ c, c ≠ 162 → c ≠ 165 → c ≠ 166 → c ≠ 170 → c ≠ 171 → x c = y c := hr
  have x167 : x 167 = u 167 := (xc 167 (by decide) (by decide) (by decide) (by decide) (by decide)).trans y167
  have x168 : x 168 = u 168 := (xc 168 (by decide) (by decide) (by decide) (by decide) (by decide)).trans y168
  have x169 : x 169 = u 169 := (xc 169 (by decide) (by decide) (by decide) (by decide) (by decide)).trans y169
  rw [hX]
  rcases hn with ⟨a1, a2, a3⟩ | ⟨a1, a2, a3⟩
  · rw [if_pos a1, if_neg (show ¬ u 167 1 = 3 by rw [h0]; intro q; have := (iN_eq (b := 3) (by omega) (by omega)).mp q; omega), c3_mk]
    refine ⟨fun q => ?_, fun q => ?_⟩
    · have eb : ∀ w : MM, Fx_M_textRX_L179b u g2 38 (iN 0) w = Fx_M_textRX_L179 (u 167 1) g2 38 (iN 0) w := fun w => rfl
      rw [if_pos (decide_eq_true q), eb, h0, iN_s, if_pos a1, a2]
      obtain ⟨z, z1, z2, z3⟩ := cw_1 (n := h) (by omega) (g := g2) 38 0 (ms x 167 1 (iN (h + 1))) (by omega) (by omega)
      refine ⟨z, g2, z1, ?_, ?_, ?_, ?_, fun j => ?_⟩
      · rw [z2 165 (by decide), ms_c1 (by decide)]; exact x1
      · rw [z2 166 (by decide), ms_c1 (by decide)]; exact x2
      · rw [z2 167 (by decide), ms_a1, x167]
      · rw [z2 168 (by decide), ms_c1 (by decide), x168]
      · rw [z3 j, ms_c1 (by decide), ms_c1 (by decide), x3 q, Nat.add_zero, x169]
    · rw [if_neg (fun z => q (of_decide_eq_true z))]
      exact ⟨x, g2, rfl, x1, x2, x167, x168, x169⟩
  · have p1 : (0 : Int32) ≤ at0 := by rw [a3]; exact (iN_le (a := 0) (by omega) (by omega)).mpr (Nat.zero_le _)
    have p2 : at0 ≤ u 167 1 - 1 := by
      rw [a3, h0, show (1 : Int32) = iN 1 from rfl, iN_sub (by omega)]
      exact (iN_le (by omega) (by omega)).mpr (by omega)
    have p3 : u 167 1 + 0 = iN h := by rw [h0]; exact Int32.add_zero _
    rw [if_neg a1, in_X, decide_eq_true p1, decide_eq_true p2, if_pos (show (true && true) = true from rfl), c3_mk]
    refine ⟨fun q => ?_, fun q => ?_⟩
    · rw [if_pos (decide_eq_true q), p3, if_neg a1, a3]
      obtain ⟨z, z1, z2, z3⟩ := cw_1 (n := n) (by omega) (g := g2) 38 0 (ms x 167 1 (iN h)) (by omega) (by omega)
      refine ⟨z, g2, z1, ?_, ?_, ?_, ?_, fun j => ?_⟩
      · rw [z2 165 (by decide), ms_c1 (by decide)]; exact x1
      · rw [z2 166 (by decide), ms_c1 (by decide)]; exact x2
      · rw [z2 167 (by decide), ms_a1, x167]
      · rw [z2 168 (by decide), ms_c1 (by decide), x168]
      · rw [z3 j, ms_c1 (by decide), ms_c1 (by decide), x3 q, Nat.add_zero, x169]
    · rw [if_neg (fun z => q (of_decide_eq_true z))]
      exact ⟨x, g2, rfl, x1, x2, x167, x168, x169⟩
end
section
/-! text on both sides -/
theorem fb_bd {v : Int32} (h : fits .byte (.int v) = true) : Bd (-128) 127 v := by
  obtain ⟨h1, h2⟩ := (Bool.and_eq_true _ _).mp (show (decide (-128 ≤ v) && decide (v ≤ 127)) = true from h)
  have a := Int32.le_iff_toInt_le.mp (of_decide_eq_true h1)
  have b := Int32.le_iff_toInt_le.mp (of_decide_eq_true h2)
  have e1 : (-128 : Int32).toInt = -128 := rfl
  have e2 : (127 : Int32).toInt = 127 := rfl
  exact ⟨by omega, by omega⟩
theorem rlx_g {u v x y : MM} (h : RLX u v) (hu : ∀ c, c = 28 ∨ (84 ≤ c ∧ c ≤ 161) → x c = u c) (h81 : y 181 = v 181) (t : TLD x y 1 0) (q : ∀ s, 1 ≤ s → s ≤ 3 → SCP y v s s) : RLX x y := by
  obtain ⟨-, h1, h2⟩ := h
  refine ⟨t, by rw [hu 28 (Or.inl rfl), h81, h1], fun k hk hn => ?_⟩
  rw [hu 28 (Or.inl rfl)] at hn
  exact tld_cp (h2 k hk hn) (tcp_r (fun c c1 c2 => hu c (by omega))) (q (k + 1) (by omega) (by omega))
theorem scp_1 {y v : MM} (a : ∀ j, 600 ≤ j → y 163 j = v 163 j) (b : ∀ j, j ≠ 0 → y 164 j = v 164 j) (c : ∀ j, j ≠ 0 → y 165 j = v 165 j) (d : ∀ j, j ≠ 0 → y 166 j = v 166 j) (e : ∀ j, 2 ≤ j → y 167 j = v 167 j) (f : ∀ j, 314 ≤ j → y 168 j = v 168 j) (g : ∀ j, 111 ≤ j → y 169 j = v 169 j) : ∀ s, 1 ≤ s → s ≤ 3 → SCP y v s s := by
  intro s s1 s2
  exact ⟨fun j _ => a _ (by omega), b s (by omega), c s (by omega), d s (by omega), e _ (by omega), e _ (by omega), fun j _ => f _ (by omega), fun j _ => g _ (by omega)⟩
theorem tld_n {u v x y : MM} (h : TLD u v 1 0) (hx : ∀ c, 2 ≤ c → c ≤ 26 → x c = u c) (x1 : x 1 1 = y 164 0) (x2 : x 1 2 = y 165 0) (x3 : x 1 3 = y 166 0) (x5 : x 1 5 = u 1 5) (x7 : x 1 7 = u 1 7) (y3 : y 163 = v 163) (y7 : y 167 = v 167) (y8 : y 168 = v 168) (y9 : y 169 = v 169) : TLD x y 1 0 := by
  obtain ⟨t0, t1, t2, t3, t5, t7, th, tw⟩ := h
  refine ⟨fun j hj => ?_, x1, x2, x3, ?_, ?_, fun k hk hl => ?_, fun k hk hl => ?_⟩
  · rw [hx (1 + 1) (by omega) (by omega), y3]; exact t0 j hj
  · rw [x5, y7]; exact t5
  · rw [x7, y7]; exact t7
  · rw [x5] at hl
    exact hrw_cp (th k hk hl) (hcp_r (fun c c1 c2 => hx c (by omega) (by omega))) (fun j hj => by rw [y8])
  · rw [x7] at hl
    exact prw_cp (tw k hk hl) (wcp_r (fun c c1 c2 => hx c (by omega) (by omega))) (fun j hj => by rw [y9])
theorem hrw_new {x x' y : MM} {R : Nat → Int32} {t n : Nat} (c : HCP x x' t 32) (hr : RepH x' R True) (e : ∀ o, o < 157 → y 168 (314 * 0 + (157 * n + o)) = R o) : HRW x y t 0 n := by
  obtain ⟨r0, r1, r2, r3, r4⟩ := hr
  obtain ⟨c0, c1, c2, c3, c4, c5⟩ := c
  refine ⟨(c0.trans r0).trans (e 0 (by omega)).symm, (c1.trans r1).trans (e 1 (by omega)).symm, fun i hi => ((c5 i hi).trans (r2 i hi)).trans (e (2 + i) (by omega)).symm, fun i hi hl => ?_, fun p c hp hc hl => ?_⟩
  · rw [e 1 (by omega)] at hl
    exact ⟨((c3 i hi).trans (r3 i hl).1).trans (e (5 + 2 * i) (by omega)).symm, ((c4 i hi).trans (r3 i hl).2).trans (e (6 + 2 * i) (by omega)).symm⟩
  · rw [e 0 (by omega)] at hl
    exact ((c2 (16 * p + c) (by omega)).trans (r4 trivial p c hl hc)).trans (e (13 + 16 * p + c) (by omega)).symm
theorem prw_new {x x' y : MM} {R : Nat → Int32} {t n : Nat} (c : WCP x x' t 37) (hr : RepP x' R) (e : ∀ o, o < 37 → y 169 (111 * 0 + (37 * n + o)) = R o) : PRW x y t 0 n := by
  obtain ⟨r0, r1⟩ := hr
  obtain ⟨c0, c1, c2, c3⟩ := c
  refine ⟨(c0.trans r0).trans (e 0 (by omega)).symm, fun i hi hl => ?_⟩
  rw [e 0 (by omega)] at hl
  obtain ⟨a, b, d⟩ := r1 i hl
  exact ⟨((c1 i hi).trans a).trans (e (1 + 3 * i) (by omega)).symm, ((c2 i hi).trans b).trans (e (2 + 3 * i) (by omega)).symm, ((c3 i hi).trans d).trans (e (3 + 3 * i) (by omega)).symm⟩
theorem rep_w {w x : MM} {R : Nat → Int32} (h : RepH x R True) (e : ∀ c, 32 ≤ c → c ≤ 36 → w c = x c) : RepH w R True := by
  unfold RepH
  rw [e 32 (by omega) (by omega), e 33 (by omega) (by omega), e 34 (by omega) (by omega), e 35 (by omega) (by omega), e 36 (by omega) (by omega)]
  exact h
theorem repp_w {w x : MM} {R : Nat → Int32} (h : RepP x R) (e : ∀ c, 37 ≤ c → c ≤ 40 → w c = x c) : RepP w R := by
  unfold RepP
  rw [e 37 (by omega) (by omega), e 38 (by omega) (by omega), e 39 (by omega) (by omega), e 40 (by omega) (by omega)]
  exact h
theorem keep_0 {n : Nat} {w : MM} {g : GG} (h : n < 2) : Fx_T_keepX 0 (iN n) w g = ms (Fx_H_copyBX (5 + 5 * n) 32 w g) 1 5 (if w 1 5 < iN n + 1 then iN n + 1 else w 1 5) := by
  rcases (show n = 0 ∨ n = 1 by omega) with q | q <;> subst q <;> rfl
theorem keep_1 {n : Nat} {w : MM} {g : GG} (h : n < 3) : Fx_T_keepX 1 (iN n) w g = ms (wcx w (15 + 4 * n) 37) 1 7 (if w 1 7 < iN n + 1 then iN n + 1 else w 1 7) := by
  rcases (show n = 0 ∨ n = 1 ∨ n = 2 by omega) with q | q | q <;> subst q <;> rfl
theorem y3_c {u : MM} {c : Nat} (h : c ≠ 1) : Y3 u c = u c := by unfold Y3; rw [ms_c1 h, ms_c1 h, ms_c1 h]
theorem y3_j {u : MM} {j : Nat} (h1 : j ≠ 1) (h2 : j ≠ 2) (h3 : j ≠ 3) : Y3 u 1 j = u 1 j := by unfold Y3; rw [ms_i1 h3, ms_i1 h2, ms_i1 h1]
theorem t9_c {u : MM} {c : Nat} (h : c ≠ 162 ∧ c ≠ 164 ∧ c ≠ 165 ∧ c ≠ 166) : T9 u c = u c := by unfold T9; rw [ms_c1 h.2.2.2, ms_c1 h.2.2.1, ms_c1 h.2.1, ms_c1 h.1, ms_c1 h.1]
theorem up_c {h n : Nat} {at0 : Int32} (hh : h ≤ 3) (hn : (at0 = -1 ∧ n = h) ∨ (¬ at0 = -1 ∧ n < h)) : (if iN h < iN n + 1 then iN n + 1 else iN h) = iN (if at0 = -1 then h + 1 else h) := by
  rcases hn with ⟨a1, a2⟩ | ⟨a1, a2⟩
  · rw [if_pos a1, a2, iN_s, if_pos ((iN_lt (by omega) (by omega)).mpr (by omega))]
  · rw [if_neg a1, iN_s, if_neg (fun q => by have := (iN_lt (by omega) (by omega)).mp q; omega)]
theorem R3_text {u v u1 v2 : MM} {g g' g2 : GG} {sort at0 z w : Int32} (h : RLX u v) (bl : Bd 0 600 (u 1 1)) (b5 : Bd 0 2 (u 1 5)) (b7 : Bd 0 3 (u 1 7)) (bf : BF u 2) (hd : z = -2 ∨ RDF sort u g) (ht : w = -2 ∨ RTF sort v g') (e1 : (z, u1) = Fx_P_textRX sort at0 u g) (e2 : (w, v2, g2) = Fx_M_textRX sort at0 v g') (f3 : v2 163 = v 163) (f4 : ∀ j, j ≠ 0 → v2 164 j = v 164 j) (f4z : v2 164 0 = 0) (f5 : ∀ j, j ≠ 0 → v2 165 j = v 165 j) (f6 : ∀ j, j ≠ 0 → v2 166 j = v 166 j) (f81 : v2 181 = v 181) : z = w ∧ RLX u1 v2 := by
  obtain ⟨t0, t1, t2, t3, t5, t7, th, tw⟩ := h.1
  obtain ⟨L, hL, hb⟩ := iN_ex (hi := 600) bl
  have hL' : v 164 0 = iN L := t1.symm.trans hL
  have htp : ∀ j, j < L → u 2 j = v 163 j := fun j hj => (t0 j (by omega)).trans (congrArg (v 163) (by omega))
  have hby : ∀ j, j < L → Bd (-128) 127 (v 163 j) := fun j hj => by rw [← htp j hj]; exact fb_bd (bf j)
  obtain ⟨F, hF⟩ : ∃ F, txF sort (u 2) L (v 170) = F := ⟨_, rfl⟩
  have hF' : txF sort (v 163) L (v 170) = F := by
    rw [← hF]
    unfold txF
    rw [cg_HR htp 601 0 _ _ (Nat.zero_le _), cg_PT htp 601 0 _ _ (Nat.zero_le _)]
  obtain ⟨h5, e5, l5⟩ := iN_ex (hi := 2) b5
  obtain ⟨h7, e7, l7⟩ := iN_ex (hi := 3) b7
  have v5 : v 167 0 = iN h5 := t5.symm.trans e5
  have v7 : v 167 1 = iN h7 := t7.symm.trans e7
  obtain ⟨k1, k2⟩ := tc_X (sort := sort) (at0 := at0) (g := g) hb hL b5 b7 hF
  have refused : nuT sort at0 (u 1 5) (u 1 7) = -1 → Fx_M_textRX sort at0 v g' = (-2, T9 v, g') → z = w ∧ RLX u1 v2 := by
    intro q1 q2
    have q3 : (z, u1) = ((-2 : Int32), Y3 u) := e1.trans (k1 q1)
    have q4 : (w, v2, g2) = ((-2 : Int32), T9 v, g') := e2.trans q2
    have z1 : z = -2 := congrArg Prod.fst q3
    have z2 : u1 = Y3 u := congrArg Prod.snd q3
    have z3 : w = -2 := congrArg Prod.fst q4
    have z4 : v2 = T9 v := congrArg (fun p => p.2.1) q4
    refine ⟨z1.trans z3.symm, ?_⟩
    have c7 : ∀ c, 167 ≤ c → v2 c = v c := fun c hc => by rw [z4]; exact t9_c ⟨by omega, by omega, by omega, by omega⟩
    have cu : ∀ c, c ≠ 1 → u1 c = u c := fun c hc => by rw [z2]; exact y3_c hc
    refine rlx_g h (fun c hc => cu c (by omega)) f81 (tld_n h.1 (fun c c1 c2 => cu c (by omega)) ?_ ?_ ?_ ?_ ?_ f3 (c7 167 (by omega)) (c7 168 (by omega)) (c7 169 (by omega))) (scp_1 (fun j _ => by rw [f3]) f4 f5 f6 (fun j _ => by rw [c7 167 (by omega)]) (fun j _ => by rw [c7 168 (by omega)]) (fun j _ => by rw [c7 169 (by omega)]))
    · rw [z2, f4z]; rfl
    · rw [z2, z4]; rfl
    · rw [z2, z4]; rfl
    · rw [z2]; exact y3_j (by decide) (by decide) (by decide)
    · rw [z2]; exact y3_j (by decide) (by decide) (by decide)
  have faulty : ∀ x : MM, (∀ c, c < 29 ∨ 42 < c → x c = Y3 u c) → (z, u1) = ((-1 : Int32), ms (ms x 1 2 F.1) 1 3 F.2.1) → (∃ x2 g3, Fx_M_textRX sort at0 v g' = (-1, x2, g3) ∧ x2 165 0 = F.1 ∧ x2 166 0 = F.2.1 ∧ x2 167 = v 167 ∧ x2 168 = v 168 ∧ x2 169 = v 169) → z = w ∧ RLX u1 v2 := by
    intro x hx q3 hq
    obtain ⟨x2, g3, q2, w5, w6, w7, w8, w9⟩ := hq
    have q4 : (w, v2, g2) = ((-1 : Int32), x2, g3) := e2.trans q2
    have z1 : z = -1 := congrArg Prod.fst q3
    have z2 : u1 = ms (ms x 1 2 F.1) 1 3 F.2.1 := congrArg Prod.snd q3
    have z3 : w = -1 := congrArg Prod.fst q4
    have z4 : v2 = x2 := congrArg (fun p => p.2.1) q4
    refine ⟨z1.trans z3.symm, ?_⟩
    have cu : ∀ c, c ≠ 1 → c < 29 ∨ 42 < c → u1 c = u c := fun c hc hc2 => by rw [z2, ms_c1 hc, ms_c1 hc, hx c hc2, y3_c hc]
    rw [← z4] at w5 w6 w7 w8 w9
    refine rlx_g h (fun c hc => cu c (by omega) (by omega)) f81 (tld_n h.1 (fun c c1 c2 => cu c (by omega) (by omega)) ?_ ?_ ?_ ?_ ?_ f3 w7 w8 w9) (scp_1 (fun j _ => by rw [f3]) f4 f5 f6 (fun j _ => by rw [w7]) (fun j _ => by rw [w8]) (fun j _ => by rw [w9]))
    · rw [z2, ms_i1 (by decide), ms_i1 (by decide), hx 1 (by omega), f4z]; rfl
    · rw [z2, ms_i1 (by decide), ms_e1, w5]
    · rw [z2, ms_e1, w6]
    · rw [z2, ms_i1 (by decide), ms_i1 (by decide), hx 1 (by omega)]; exact y3_j (by decide) (by decide) (by decide)
    · rw [z2, ms_i1 (by decide), ms_i1 (by decide), hx 1 (by omega)]; exact y3_j (by decide) (by decide) (by decide)
  by_cases s0 : sort = 0
  · subst s0
    have nq : nuT 0 at0 (u 1 5) (u 1 7) = if at0 = -1 then (if iN 2 ≤ iN h5 then (-1 : Int32) else iN h5) else if at0 < 0 then -1 else if iN h5 ≤ at0 then -1 else at0 := by rw [← e5]; rfl
    rcases nu_cl (at0 := at0) (show 2 ≤ 3 by omega) l5 with ⟨q1, q2⟩ | ⟨q1, n, q2, q3⟩
    · exact refused (nq.trans q1) (txn_0 v5 l5 q2)
    rw [← nq] at q1 q2
    have hn : n < 2 := by omega
    obtain ⟨x, ⟨k3a, k3b, k4⟩, kx, kz⟩ := k2 q1
    have hz : ¬ z = -2 := by
      intro y
      have y1 := congrArg Prod.fst (e1.trans kz)
      by_cases q : F.1 = 0
      · rw [if_pos q, q2] at y1
        have y2 : z = iN n := y1
        rw [y] at y2
        have y3 := congrArg Int32.toInt y2
        rw [iN_ti (by omega)] at y3
        have y4 : (-2 : Int32).toInt = -2 := rfl
        omega
      · rw [if_neg q] at y1
        have y2 : z = -1 := y1
        rw [y] at y2
        exact absurd y2 (by decide)
    have hx : ∀ c, c < 29 ∨ 42 < c → x c = Y3 u c := by
      rcases hd with y | y
      · exact absurd y hz
      · unfold RDF at y
        rw [hL] at y
        intro c hc
        rw [kx]
        exact y c hc
    have bq : Bd 0 2 (v 167 0) := by rw [v5]; exact ⟨by rw [iN_ti (by omega)]; omega, by rw [iN_ti (by omega)]; omega⟩
    have nv : nuT 0 at0 (v 167 0) (v 167 1) = nuT 0 at0 (u 1 5) (u 1 7) := by rw [v5, v7, e5, e7]
    have tm := tm_0 (at0 := at0) (u := v) (g := g') hb hL' hby bq hF'
    rw [nv] at tm
    have hw : ¬ w = -2 := by
      intro y
      by_cases q : F.1 = 0
      · obtain ⟨x2, g3, y2, -⟩ := tm.2.1 q1 q
        have y3 : w = nuT 0 at0 (u 1 5) (u 1 7) := congrArg Prod.fst (e2.trans y2)
        rw [y, q2] at y3
        have y4 := congrArg Int32.toInt y3
        rw [iN_ti (by omega)] at y4
        have y5 : (-2 : Int32).toInt = -2 := rfl
        omega
      · obtain ⟨x2, g3, y2, -⟩ := tm.2.2 q1 q
        have y3 : w = -1 := congrArg Prod.fst (e2.trans y2)
        rw [y] at y3
        exact absurd y3 (by decide)
    have hr := (ht.resolve_left hw).1 rfl
    obtain ⟨m1, m2⟩ := tx_0 (at0 := at0) (u := v) (g := g') hb hL' hby v5 l5 q3 hF' hr
    by_cases q : F.1 = 0
    rotate_left
    · rw [if_neg q] at kz
      exact faulty x hx (e1.trans kz) (m2 q)
    obtain ⟨x2, g3, y1, w5, w6, w7, w8, w9⟩ := m1 q
    rw [if_pos q, q2, keep_0 hn] at kz
    have z0 := e1.trans kz
    have z1 : z = iN n := congrArg Prod.fst z0
    have z2 : u1 = ms (Fx_H_copyBX (5 + 5 * n) 32 (ms (ms x 1 2 F.1) 1 3 F.2.1) g) 1 5 (if (ms (ms x 1 2 F.1) 1 3 F.2.1) 1 5 < iN n + 1 then iN n + 1 else (ms (ms x 1 2 F.1) 1 3 F.2.1) 1 5) := congrArg Prod.snd z0
    have z4 := e2.trans y1
    have z5 : w = iN n := congrArg Prod.fst z4
    have z6 : v2 = x2 := congrArg (fun p => p.2.1) z4
    refine ⟨z1.trans z5.symm, ?_⟩
    rw [← z6] at w5 w6 w7 w8 w9
    have p := hcB (u := ms (ms x 1 2 F.1) 1 3 F.2.1) (g := g) (t := 5 + 5 * n) (f := 32) (by omega)
    have w0c : ∀ c, c ≠ 1 → (ms (ms x 1 2 F.1) 1 3 F.2.1) c = x c := fun c hc => by rw [ms_c1 hc, ms_c1 hc]
    have w0j : ∀ j, j ≠ 2 → j ≠ 3 → (ms (ms x 1 2 F.1) 1 3 F.2.1) 1 j = Y3 u 1 j := fun j j2 j3 => by rw [ms_i1 j3, ms_i1 j2, hx 1 (by omega)]
    have cu : ∀ c, c ≠ 1 → c < (5 + 5 * n) ∨ (5 + 5 * n) + 4 < c → c < 29 ∨ 42 < c → u1 c = u c := fun c c1 c2 c3 => by rw [z2, ms_c1 c1, p.2 c c2, w0c c c1, hx c c3, y3_c c1]
    have cj : ∀ j, j ≠ 5 → u1 1 j = (ms (ms x 1 2 F.1) 1 3 F.2.1) 1 j := fun j hj => by rw [z2, ms_i1 hj, p.2 1 (by omega)]
    have cn : u1 1 5 = iN (if at0 = -1 then h5 + 1 else h5) := by
      rw [z2, ms_e1, w0j 5 (by decide) (by decide), y3_j (by decide) (by decide) (by decide), e5]
      exact up_c (by omega) (q3.imp (fun y => ⟨y.1, y.2.1⟩) (fun y => ⟨y.1, y.2.1⟩))
    have cv : v2 167 0 = iN (if at0 = -1 then h5 + 1 else h5) := by rw [w7]; exact if_pos rfl
    have co : v2 167 1 = v 167 1 := by rw [w7]; exact if_neg (by decide)
    have ck : ∀ k, k ≠ n → k < (u1 1 5).toInt.toNat → k < (u 1 5).toInt.toNat := by
      intro k hk hl
      rw [cn, iN_ti (by split <;> omega)] at hl
      rw [e5, iN_ti (by omega)]
      rcases q3 with ⟨a1, a2, a3⟩ | ⟨a1, a2, a3⟩
      · rw [if_pos a1] at hl
        omega
      · rw [if_neg a1] at hl
        omega
    have c1o : u1 1 7 = u 1 7 := by rw [cj 7 (by decide), w0j 7 (by decide) (by decide), y3_j (by decide) (by decide) (by decide)]
    refine rlx_g h (fun c hc => cu c (by omega) (by omega) (by omega)) f81 ⟨fun j hj => ?_, ?_, ?_, ?_, cn.trans cv.symm, (c1o.trans t7).trans co.symm, fun k hk hl => ?_, fun k hk hl => ?_⟩ (scp_1 (fun j _ => by rw [f3]) f4 f5 f6 (fun j hj => by rw [w7]; exact if_neg (by omega)) (fun j hj => by rw [w9, if_neg (by omega)]) (fun j hj => by rw [w8]))
    · rw [cu (1 + 1) (by omega) (by omega) (by omega), f3]; exact t0 j hj
    · rw [cj 1 (by decide), w0j 1 (by decide) (by decide), f4z]; rfl
    · rw [cj 2 (by decide), ms_i1 (by decide), ms_e1, w5]
    · rw [cj 3 (by decide), ms_e1, w6]
    · by_cases kn : k = n
      · rw [kn]
        exact hrw_new (hcp_t p.1 (fun c c1 c2 => by rw [z2, ms_c1 (by omega)])) (rep_w ((k4 q).1 rfl) (fun c c1 c2 => w0c c (by omega))) (fun o ho => by rw [w9, if_pos (by omega)]; exact congrArg F.2.2 (by omega))
      · exact hrw_cp (th k hk (ck k kn hl)) (hcp_r (fun c c1 c2 => cu c (by omega) (by omega) (by omega))) (fun o ho => by rw [w9, if_neg (by omega)])
    · rw [c1o] at hl
      exact prw_cp (tw k hk hl) (wcp_r (fun c c1 c2 => cu c (by omega) (by omega) (by omega))) (fun o ho => by rw [w8])
  · by_cases s1 : sort = 1
    · subst s1
      have nq : nuT 1 at0 (u 1 5) (u 1 7) = if at0 = -1 then (if iN 3 ≤ iN h7 then (-1 : Int32) else iN h7) else if at0 < 0 then -1 else if iN h7 ≤ at0 then -1 else at0 := by rw [← e7]; rfl
      rcases nu_cl (at0 := at0) (show 3 ≤ 3 by omega) l7 with ⟨q1, q2⟩ | ⟨q1, n, q2, q3⟩
      · exact refused (nq.trans q1) (txn_1 v7 l7 q2)
      rw [← nq] at q1 q2
      have hn : n < 3 := by omega
      obtain ⟨x, ⟨k3a, k3b, k4⟩, kx, kz⟩ := k2 q1
      have hz : ¬ z = -2 := by
        intro y
        have y1 := congrArg Prod.fst (e1.trans kz)
        by_cases q : F.1 = 0
        · rw [if_pos q, q2] at y1
          have y2 : z = iN n := y1
          rw [y] at y2
          have y3 := congrArg Int32.toInt y2
          rw [iN_ti (by omega)] at y3
          have y4 : (-2 : Int32).toInt = -2 := rfl
          omega
        · rw [if_neg q] at y1
          have y2 : z = -1 := y1
          rw [y] at y2
          exact absurd y2 (by decide)
      have hx : ∀ c, c < 29 ∨ 42 < c → x c = Y3 u c := by
        rcases hd with y | y
        · exact absurd y hz
        · unfold RDF at y
          rw [hL] at y
          intro c hc
          rw [kx]
          exact y c hc
      have bq : Bd 0 3 (v 167 1) := by rw [v7]; exact ⟨by rw [iN_ti (by omega)]; omega, by rw [iN_ti (by omega)]; omega⟩
      have nv : nuT 1 at0 (v 167 0) (v 167 1) = nuT 1 at0 (u 1 5) (u 1 7) := by rw [v5, v7, e5, e7]
      have tm := tm_1 (at0 := at0) (u := v) (g := g') hb hL' hby bq hF'
      rw [nv] at tm
      have hw : ¬ w = -2 := by
        intro y
        by_cases q : F.1 = 0
        · obtain ⟨x2, g3, y2, -⟩ := tm.2.1 q1 q
          have y3 : w = nuT 1 at0 (u 1 5) (u 1 7) := congrArg Prod.fst (e2.trans y2)
          rw [y, q2] at y3
          have y4 := congrArg Int32.toInt y3
          rw [iN_ti (by omega)] at y4
          have y5 : (-2 : Int32).toInt = -2 := rfl
          omega
        · obtain ⟨x2, g3, y2, -⟩ := tm.2.2 q1 q
          have y3 : w = -1 := congrArg Prod.fst (e2.trans y2)
          rw [y] at y3
          exact absurd y3 (by decide)
      have hr := (ht.resolve_left hw).2 rfl
      obtain ⟨m1, m2⟩ := tx_1 (at0 := at0) (u := v) (g := g') hb hL' hby v7 l7 q3 hF' hr
      by_cases q : F.1 = 0
      rotate_left
      · rw [if_neg q] at kz
        exact faulty x hx (e1.trans kz) (m2 q)
      obtain ⟨x2, g3, y1, w5, w6, w7, w8, w9⟩ := m1 q
      rw [if_pos q, q2, keep_1 hn] at kz
      have z0 := e1.trans kz
      have z1 : z = iN n := congrArg Prod.fst z0
      have z2 : u1 = ms (wcx (ms (ms x 1 2 F.1) 1 3 F.2.1) (15 + 4 * n) 37) 1 7 (if (ms (ms x 1 2 F.1) 1 3 F.2.1) 1 7 < iN n + 1 then iN n + 1 else (ms (ms x 1 2 F.1) 1 3 F.2.1) 1 7) := congrArg Prod.snd z0
      have z4 := e2.trans y1
      have z5 : w = iN n := congrArg Prod.fst z4
      have z6 : v2 = x2 := congrArg (fun p => p.2.1) z4
      refine ⟨z1.trans z5.symm, ?_⟩
      rw [← z6] at w5 w6 w7 w8 w9
      have p := wcK (u := ms (ms x 1 2 F.1) 1 3 F.2.1) (t := 15 + 4 * n) (f := 37) (by omega)
      have w0c : ∀ c, c ≠ 1 → (ms (ms x 1 2 F.1) 1 3 F.2.1) c = x c := fun c hc => by rw [ms_c1 hc, ms_c1 hc]
      have w0j : ∀ j, j ≠ 2 → j ≠ 3 → (ms (ms x 1 2 F.1) 1 3 F.2.1) 1 j = Y3 u 1 j := fun j j2 j3 => by rw [ms_i1 j3, ms_i1 j2, hx 1 (by omega)]
      have cu : ∀ c, c ≠ 1 → c < (15 + 4 * n) ∨ (15 + 4 * n) + 3 < c → c < 29 ∨ 42 < c → u1 c = u c := fun c c1 c2 c3 => by rw [z2, ms_c1 c1, p.2 c c2, w0c c c1, hx c c3, y3_c c1]
      have cj : ∀ j, j ≠ 7 → u1 1 j = (ms (ms x 1 2 F.1) 1 3 F.2.1) 1 j := fun j hj => by rw [z2, ms_i1 hj, p.2 1 (by omega)]
      have cn : u1 1 7 = iN (if at0 = -1 then h7 + 1 else h7) := by
        rw [z2, ms_e1, w0j 7 (by decide) (by decide), y3_j (by decide) (by decide) (by decide), e7]
        exact up_c (by omega) (q3.imp (fun y => ⟨y.1, y.2.1⟩) (fun y => ⟨y.1, y.2.1⟩))
      have cv : v2 167 1 = iN (if at0 = -1 then h7 + 1 else h7) := by rw [w7]; exact if_pos rfl
      have co : v2 167 0 = v 167 0 := by rw [w7]; exact if_neg (by decide)
      have ck : ∀ k, k ≠ n → k < (u1 1 7).toInt.toNat → k < (u 1 7).toInt.toNat := by
        intro k hk hl
        rw [cn, iN_ti (by split <;> omega)] at hl
        rw [e7, iN_ti (by omega)]
        rcases q3 with ⟨a1, a2, a3⟩ | ⟨a1, a2, a3⟩
        · rw [if_pos a1] at hl
          omega
        · rw [if_neg a1] at hl
          omega
      have c1o : u1 1 5 = u 1 5 := by rw [cj 5 (by decide), w0j 5 (by decide) (by decide), y3_j (by decide) (by decide) (by decide)]
      refine rlx_g h (fun c hc => cu c (by omega) (by omega) (by omega)) f81 ⟨fun j hj => ?_, ?_, ?_, ?_, (c1o.trans t5).trans co.symm, cn.trans cv.symm, fun k hk hl => ?_, fun k hk hl => ?_⟩ (scp_1 (fun j _ => by rw [f3]) f4 f5 f6 (fun j hj => by rw [w7]; exact if_neg (by omega)) (fun j hj => by rw [w8]) (fun j hj => by rw [w9, if_neg (by omega)]))
      · rw [cu (1 + 1) (by omega) (by omega) (by omega), f3]; exact t0 j hj
      · rw [cj 1 (by decide), w0j 1 (by decide) (by decide), f4z]; rfl
      · rw [cj 2 (by decide), ms_i1 (by decide), ms_e1, w5]
      · rw [cj 3 (by decide), ms_e1, w6]
      · rw [c1o] at hl
        exact hrw_cp (th k hk hl) (hcp_r (fun c c1 c2 => cu c (by omega) (by omega) (by omega))) (fun o ho => by rw [w8])
      · by_cases kn : k = n
        · rw [kn]
          exact prw_new (wcp_t p.1 (fun c c1 c2 => by rw [z2, ms_c1 (by omega)])) (repp_w ((k4 q).2 rfl) (fun c c1 c2 => w0c c (by omega))) (fun o ho => by rw [w9, if_pos (by omega)]; exact congrArg F.2.2 (by omega))
        · exact prw_cp (tw k hk (ck k kn hl)) (wcp_r (fun c c1 c2 => cu c (by omega) (by omega) (by omega))) (fun o ho => by rw [w9, if_neg (by omega)])
    · refine refused ?_ (tx_2 s0 s1)
      unfold nuT
      rw [if_neg s0, if_neg s1]
end
section
/-! feed, end, image, again on both sides -/
theorem tld_f {u v x y : MM} (h : TLD u v 1 0) (tp : ∀ j, j < 600 → x 2 j = y 163 j) (ln : x 1 1 = y 164 0) (xj : ∀ j, j ≠ 1 → x 1 j = u 1 j) (hx : ∀ c, 3 ≤ c → c ≤ 26 → x c = u c) (hy : ∀ c, 165 ≤ c → c ≤ 169 → y c = v c) : TLD x y 1 0 := by
  obtain ⟨t0, t1, t2, t3, t5, t7, th, tw⟩ := h
  refine ⟨fun j hj => (tp j hj).trans (congrArg (y 163) (by omega)), ln, ?_, ?_, ?_, ?_, fun k hk hl => ?_, fun k hk hl => ?_⟩
  · rw [xj 2 (by decide), hy 165 (by decide) (by decide)]; exact t2
  · rw [xj 3 (by decide), hy 166 (by decide) (by decide)]; exact t3
  · rw [xj 5 (by decide), hy 167 (by decide) (by decide)]; exact t5
  · rw [xj 7 (by decide), hy 167 (by decide) (by decide)]; exact t7
  · rw [xj 5 (by decide)] at hl
    exact hrw_cp (th k hk hl) (hcp_r (fun c c1 c2 => hx c (by omega) (by omega))) (fun o _ => by rw [hy 168 (by decide) (by decide)])
  · rw [xj 7 (by decide)] at hl
    exact prw_cp (tw k hk hl) (wcp_r (fun c c1 c2 => hx c (by omega) (by omega))) (fun o _ => by rw [hy 169 (by decide) (by decide)])
theorem R3_feed {u v u1 v2 : MM} {g g' : GG} {a b c d e z w : Int32} (h : RLX u v) (bl : Bd 0 600 (u 1 1)) (e1 : (z, u1) = Fx_P_feedRX a b c d e u g) (f1 : ∀ c, c ≠ 1 → c ≠ 2 → u1 c = u c) (e2 : (w, v2) = Fx_M_feedRX a b c d e v g') (f2 : ∀ c, c ≠ 162 → c ≠ 163 → c ≠ 164 → v2 c = v c) (f4 : ∀ j, j ≠ 0 → v2 164 j = v 164 j) : z = w ∧ RLX u1 v2 := by
  have t0 := h.1.1
  have t1 := h.1.2.1
  obtain ⟨L, hL, hb⟩ := iN_ex (hi := 600) bl
  have htp : TPE u v := fun j hj => (t0 j hj).trans (congrArg (v 163) (by omega))
  obtain ⟨k1, k2, k3, k4, k5⟩ := fd_X (g := g) (g2 := g') (a := a) (b := b) (c := c) (d := d) (e := e) hb hL (t1.symm.trans hL) htp
  rw [← e1, ← e2] at k1 k2 k3
  rw [← e1] at k4
  rw [← e2] at k5
  have hy : ∀ c, 165 ≤ c → v2 c = v c := fun c hc => f2 c (by omega) (by omega) (by omega)
  refine ⟨k1, rlx_g h (fun c hc => f1 c (by omega) (by omega)) (hy 181 (by decide)) (tld_f h.1 k2 k3 k4 (fun c c1 c2 => f1 c (by omega) (by omega)) (fun c c1 c2 => hy c c1)) (scp_1 (fun j hj => k5 j hj) f4 (fun j _ => by rw [hy 165 (by decide)]) (fun j _ => by rw [hy 166 (by decide)]) (fun j _ => by rw [hy 167 (by decide)]) (fun j _ => by rw [hy 168 (by decide)]) (fun j _ => by rw [hy 169 (by decide)]))⟩
theorem R3_end {u v u1 v2 : MM} {g g' : GG} {n z w : Int32} (h : RLX u v) (e1 : (z, u1) = Fx_P_endRX n u g) (f1 : ∀ c, c ≠ 1 → u1 c = u c) (fj : ∀ j, j ≠ 1 → u1 1 j = u 1 j) (e2 : (w, v2) = Fx_M_endRX n v g') (f2 : ∀ c, c ≠ 162 → c ≠ 164 → v2 c = v c) (f4 : ∀ j, j ≠ 0 → v2 164 j = v 164 j) : z = w ∧ RLX u1 v2 := by
  have t0 := h.1.1
  have t1 := h.1.2.1
  have htp : TPE u v := fun j hj => (t0 j hj).trans (congrArg (v 163) (by omega))
  obtain ⟨k1, k2, k3⟩ := en_X (g := g) (g2 := g') (n := n) t1 htp
  rw [← e1, ← e2] at k1 k2 k3
  have hy : ∀ c, 165 ≤ c → v2 c = v c := fun c hc => f2 c (by omega) (by omega)
  have y3 : v2 163 = v 163 := f2 163 (by decide) (by decide)
  refine ⟨k1, rlx_g h (fun c hc => f1 c (by omega)) (hy 181 (by decide)) (tld_f h.1 k2 k3 fj (fun c c1 c2 => f1 c (by omega)) (fun c c1 c2 => hy c c1)) (scp_1 (fun j hj => by rw [y3]) f4 (fun j _ => by rw [hy 165 (by decide)]) (fun j _ => by rw [hy 166 (by decide)]) (fun j _ => by rw [hy 167 (by decide)]) (fun j _ => by rw [hy 168 (by decide)]) (fun j _ => by rw [hy 169 (by decide)]))⟩
theorem tcp_t {x y u : MM} {T F : Nat} (h : TCP y u T F) (e : ∀ c, T ≤ c → c ≤ T + 25 → x c = y c) : TCP x u T F := by
  obtain ⟨c0, c1, c2, c3, c5, c7, ch, cw⟩ := h
  refine ⟨fun j hj => by rw [e (T + 1) (by omega) (by omega)]; exact c0 j hj, by rw [e T (by omega) (by omega)]; exact c1, by rw [e T (by omega) (by omega)]; exact c2, by rw [e T (by omega) (by omega)]; exact c3, by rw [e T (by omega) (by omega)]; exact c5, by rw [e T (by omega) (by omega)]; exact c7, fun k hk => hcp_t (ch k hk) (fun c c1 c2 => e c (by omega) (by omega)), fun k hk => wcp_t (cw k hk) (fun c c1 c2 => e c (by omega) (by omega))⟩
theorem scp_t {x y v w : MM} {s r : Nat} (h : SCP y w s r) (e : ∀ c, 163 ≤ c → c ≤ 169 → x c = y c) (f : ∀ c, 163 ≤ c → c ≤ 169 → w c = v c) : SCP x v s r := by
  unfold SCP at h ⊢
  rw [e 163 (by decide) (by decide), e 164 (by decide) (by decide), e 165 (by decide) (by decide), e 166 (by decide) (by decide), e 167 (by decide) (by decide), e 168 (by decide) (by decide), e 169 (by decide) (by decide)]
  rw [f 163 (by decide) (by decide), f 164 (by decide) (by decide), f 165 (by decide) (by decide), f 166 (by decide) (by decide), f 167 (by decide) (by decide), f 168 (by decide) (by decide), f 169 (by decide) (by decide)] at h
  exact h
theorem k2_ex {k : Int32} (q : 0 ≤ k ∧ k ≤ 2) : ∃ n, k = iN n ∧ n ≤ 2 := by
  have h1 := Int32.le_iff_toInt_le.mp q.1
  have h2 := Int32.le_iff_toInt_le.mp q.2
  have e0 : (0 : Int32).toInt = 0 := rfl
  have e2 : (2 : Int32).toInt = 2 := rfl
  exact iN_ex (hi := 2) ⟨by omega, by omega⟩
theorem k2_no {k : Int32} (q : ¬ (0 ≤ k ∧ k ≤ 2)) : ¬ (decide (0 ≤ k) && decide (k ≤ 2)) = true := by
  intro z
  obtain ⟨z1, z2⟩ := (Bool.and_eq_true _ _).mp z
  exact q ⟨of_decide_eq_true z1, of_decide_eq_true z2⟩
theorem k2_3 {k : Int32} (q : ¬ (0 ≤ k ∧ k ≤ 2)) (h : ¬ k < 0) : 3 ≤ k := by
  have h1 := Int32.le_iff_toInt_le.mp (i_nlt h)
  have e0 : (0 : Int32).toInt = 0 := rfl
  have e2 : (2 : Int32).toInt = 2 := rfl
  have e3 : (3 : Int32).toInt = 3 := rfl
  rw [Int32.le_iff_toInt_le]
  have h2 : ¬ k.toInt ≤ 2 := fun z => q ⟨i_nlt h, by rw [Int32.le_iff_toInt_le]; omega⟩
  omega
theorem imP {u : MM} {g : GG} {n : Nat} (hn : n ≤ 2) : Fx_P_imageRX (iN n) u g = (true, ms (tcx u g (84 + 26 * n) 1) 28 n (vp_nar .boolean 1)) := by
  unfold Fx_P_imageRX
  simp only [xq_lt]
  rw [iN_cl (by omega)]
  rcases (show n = 0 ∨ n = 1 ∨ n = 2 by omega) with y | y | y <;> subst y
  · rw [if_neg (by decide), if_pos (by decide), if_pos (by decide), tcX_84_1]
  · rw [if_neg (by decide), if_pos (by decide), if_neg (by decide), if_pos (by decide), tcX_110_1]
  · rw [if_neg (by decide), if_pos (by decide), if_neg (by decide), if_neg (by decide), tcX_136_1]
theorem agP {u : MM} {g : GG} {n : Nat} (hn : n ≤ 2) : Fx_P_againRX (iN n) u g = if u 28 n = 0 then (false, u) else (true, tcx u g 1 (84 + 26 * n)) := by
  unfold Fx_P_againRX
  simp only [xq_lt]
  rw [iN_cl (by omega)]
  rcases (show n = 0 ∨ n = 1 ∨ n = 2 by omega) with y | y | y <;> subst y
  · rw [if_neg (by decide), if_neg (by decide), if_pos (show iN 0 = 0 by decide), tcX_1_84]
  · rw [if_neg (by decide), if_neg (by decide), if_neg (show ¬ iN 1 = 0 by decide), if_pos (show iN 1 = 1 by decide), tcX_1_110]
  · rw [if_neg (by decide), if_neg (by decide), if_neg (show ¬ iN 2 = 0 by decide), if_neg (show ¬ iN 2 = 1 by decide), tcX_1_136]
theorem R3_image {u v u1 v2 : MM} {g g' : GG} {k : Int32} {z w : Bool} (h : RLX u v) (bf : BF u 2) (e1 : (z, u1) = Fx_P_imageRX k u g) (e2 : (w, v2) = Fx_M_imageRX k v g') : z = w ∧ RLX u1 v2 := by
  have hX : Fx_M_imageRX k v g' = if (decide (0 ≤ k) && decide (k ≤ 2)) = true then (true, ms (Fx_M_copyRX 0 (k + 1) (ms v 162 0 0) g') 181 k.toNatClampNeg (vp_nar .boolean 1)) else (false, ms v 162 0 0) := by
    unfold Fx_M_imageRX
    simp only [xq_lt, in_X]
  rw [hX] at e2
  have v1c : ∀ c, 163 ≤ c → (ms v 162 0 0) c = v c := fun c hc => ms_c1 (by omega)
  by_cases q : 0 ≤ k ∧ k ≤ 2
  · obtain ⟨n, hn, n2⟩ := k2_ex q
    rw [decide_eq_true q.1, decide_eq_true q.2, if_pos (show (true && true) = true from rfl), hn, iN_s, iN_cl (by omega)] at e2
    rw [hn, imP n2] at e1
    have z1 : z = true := congrArg Prod.fst e1
    have z2 : u1 = ms (tcx u g (84 + 26 * n) 1) 28 n (vp_nar .boolean 1) := congrArg Prod.snd e1
    have z3 : w = true := congrArg Prod.fst e2
    have z4 : v2 = ms (Fx_M_copyRX (iN 0) (iN (n + 1)) (ms v 162 0 0) g') 181 n (vp_nar .boolean 1) := congrArg Prod.snd e2
    obtain ⟨s1, s2, s3⟩ := cpR_X (a := 0) (b := n + 1) (v := ms v 162 0 0) (g := g') (by omega) (by omega) (by omega) (fun j hj => by rw [v1c 163 (by omega), ← h.1.1 j hj]; exact bf j)
    obtain ⟨p1, p2⟩ := tc_A (u := u) (g := g) (T := 84 + 26 * n) (F := 1) (by omega)
    have cu : ∀ c, c ≠ 28 → u1 c = tcx u g (84 + 26 * n) 1 c := fun c hc => by rw [z2, ms_c1 hc]
    have cv : ∀ c, 163 ≤ c → c ≤ 169 → v2 c = Fx_M_copyRX (iN 0) (iN (n + 1)) (ms v 162 0 0) g' c := fun c c1 c2 => by rw [z4, ms_c1 (by omega)]
    have vc : ∀ c, 163 ≤ c → c ≤ 169 → (ms v 162 0 0) c = v c := fun c c1 _ => v1c c c1
    refine ⟨z1.trans z3.symm, tld_cp h.1 (tcp_r (fun c c1 c2 => by rw [cu c (by omega), p2 c (by omega)])) (scp_t (s2 0 (by omega)) cv vc), ?_, fun i hi hl => ?_⟩
    · rw [z2, z4, ms_a1, ms_a1, p2 28 (by omega), s3 181 (by omega), v1c 181 (by omega), h.2.1]
    · by_cases y : i = n
      · rw [y]
        exact tld_cp h.1 (tcp_t p1 (fun c c1 c2 => cu c (by omega))) (scp_t s1 cv vc)
      · rw [z2, ms_i1 y, p2 28 (by omega)] at hl
        exact tld_cp (h.2.2 i hi hl) (tcp_r (fun c c1 c2 => by rw [cu c (by omega), p2 c (by omega)])) (scp_t (s2 (i + 1) (by omega)) cv vc)
  · rw [if_neg (k2_no q)] at e2
    have hP : Fx_P_imageRX k u g = (false, u) := by
      unfold Fx_P_imageRX
      simp only [xq_lt]
      by_cases y : k < 0
      · rw [if_pos y]
      · rw [if_neg y, if_neg (fun y2 => lt_le_no y2 (k2_3 q y))]
    rw [hP] at e1
    have z1 : z = false := congrArg Prod.fst e1
    have z2 : u1 = u := congrArg Prod.snd e1
    have z3 : w = false := congrArg Prod.fst e2
    have z4 : v2 = ms v 162 0 0 := congrArg Prod.snd e2
    refine ⟨z1.trans z3.symm, rlx_c (fun c _ => by rw [z2]) (fun c hc => by rw [z4]; exact v1c c hc.1) (by rw [z4]; exact v1c 181 (by decide)) h⟩
theorem R3_again {u v u1 v2 : MM} {g g' : GG} {k : Int32} {z w : Bool} (h : RLX u v) (bf : ∀ n, n ≤ 2 → BF u (84 + 26 * n + 1)) (e1 : (z, u1) = Fx_P_againRX k u g) (e2 : (w, v2) = Fx_M_againRX k v g') : z = w ∧ RLX u1 v2 := by
  have hX : Fx_M_againRX k v g' = if (decide (0 ≤ k) && decide (k ≤ 2)) = true then (if v 181 k.toNatClampNeg = 0 then (false, ms v 162 0 0) else (true, Fx_M_copyRX (k + 1) 0 (ms v 162 0 0) g')) else (false, ms v 162 0 0) := by
    unfold Fx_M_againRX
    simp only [xq_lt, in_X]
    rw [show (ms v 162 0 0) 181 = v 181 from ms_c1 (by decide)]
  rw [hX] at e2
  have v1c : ∀ c, 163 ≤ c → (ms v 162 0 0) c = v c := fun c hc => ms_c1 (by omega)
  have stay : (z, u1) = (false, u) → (w, v2) = (false, ms v 162 0 0) → z = w ∧ RLX u1 v2 := by
    intro q1 q2
    have z1 : z = false := congrArg Prod.fst q1
    have z2 : u1 = u := congrArg Prod.snd q1
    have z3 : w = false := congrArg Prod.fst q2
    have z4 : v2 = ms v 162 0 0 := congrArg Prod.snd q2
    exact ⟨z1.trans z3.symm, rlx_c (fun c _ => by rw [z2]) (fun c hc => by rw [z4]; exact v1c c hc.1) (by rw [z4]; exact v1c 181 (by decide)) h⟩
  by_cases q : 0 ≤ k ∧ k ≤ 2
  · obtain ⟨n, hn, n2⟩ := k2_ex q
    rw [decide_eq_true q.1, decide_eq_true q.2, if_pos (show (true && true) = true from rfl), hn, iN_s, iN_cl (by omega), ← h.2.1] at e2
    rw [hn, agP n2] at e1
    by_cases y : u 28 n = 0
    · rw [if_pos y] at e1 e2
      exact stay e1 e2
    · rw [if_neg y] at e1 e2
      have z1 : z = true := congrArg Prod.fst e1
      have z2 : u1 = tcx u g 1 (84 + 26 * n) := congrArg Prod.snd e1
      have z3 : w = true := congrArg Prod.fst e2
      have z4a := (Prod.mk.inj e2).2
      rw [show (0 : Int32) = iN 0 from rfl] at z4a
      have z4 : v2 = Fx_M_copyRX (iN (n + 1)) (iN 0) (ms v 162 0 (iN 0)) g' := by
        rw [z4a]
      rw [show iN 0 = (0 : Int32) from rfl] at z4
      change v2 = Fx_M_copyRX (iN (n + 1)) (iN 0) (ms v 162 0 0) g' at z4
      have hT := h.2.2 n (by omega) y
      obtain ⟨s1, s2, s3⟩ := cpR_X (a := n + 1) (b := 0) (v := ms v 162 0 0) (g := g') (by omega) (by omega) (by omega) (fun j hj => by rw [v1c 163 (by omega), ← hT.1 j hj]; exact bf n n2 j)
      obtain ⟨p1, p2⟩ := tc_A (u := u) (g := g) (T := 1) (F := 84 + 26 * n) (by omega)
      have cv : ∀ c, 163 ≤ c → c ≤ 169 → v2 c = Fx_M_copyRX (iN (n + 1)) (iN 0) (ms v 162 0 0) g' c := fun c c1 c2 => by rw [z4]
      have vc : ∀ c, 163 ≤ c → c ≤ 169 → (ms v 162 0 0) c = v c := fun c c1 _ => v1c c c1
      refine ⟨z1.trans z3.symm, tld_cp hT (tcp_t p1 (fun c _ _ => by rw [z2])) (scp_t s1 cv vc), ?_, fun i hi hl => ?_⟩
      · rw [z2, z4, p2 28 (by omega), s3 181 (by omega), v1c 181 (by omega), h.2.1]
      · rw [z2, p2 28 (by omega)] at hl
        exact tld_cp (h.2.2 i hi hl) (tcp_r (fun c c1 c2 => by rw [z2, p2 c (by omega)])) (scp_t (s2 (i + 1) (by omega)) cv vc)
  · rw [if_neg (k2_no q)] at e2
    refine stay (e1.trans ?_) e2
    unfold Fx_P_againRX
    simp only [xq_lt]
    by_cases y : k < 0
    · rw [if_pos y]
    · rw [if_neg y, if_pos (k2_3 q y)]
end
section
/-! answers: fault, count -/
/-! the relation in the law -/
theorem rlx_v {u v v2 : MM} (hv : ∀ c, (163 ≤ c ∧ c ≤ 169) ∨ c = 181 → v2 c = v c) (h : RLX u v) : RLX u v2 := rlx_c (fun _ _ => rfl) (fun c hc => hv c (Or.inl hc)) (hv 181 (Or.inr rfl)) h
theorem rlx_u {u v u2 : MM} (hu : ∀ c, (1 ≤ c ∧ c ≤ 28) ∨ (84 ≤ c ∧ c ≤ 161) → u2 c = u c) (h : RLX u v) : RLX u2 v := rlx_c hu (fun _ _ => rfl) rfl h
theorem rn_v {c a : Nat} (h : (163 ≤ c ∧ c ≤ 169) ∨ c = 181) (r : (a < 163 ∨ 169 < a) ∧ a ≠ 181) : c ≠ a := by omega
theorem bf3 {u : MM} (h0 : BF u 85) (h1 : BF u 111) (h2 : BF u 137) : ∀ n, n ≤ 2 → BF u (84 + 26 * n + 1) := by
  intro n hn
  rcases (show n = 0 ∨ n = 1 ∨ n = 2 by omega) with q | q | q <;> subst q
  · exact h0
  · exact h1
  · exact h2
end
section
/-! answers: hill, work -/
theorem ltI {a b : Int32} (h : a.toInt < b.toInt) : a < b := Int32.lt_iff_toInt_lt.mpr h
theorem leI {a b : Int32} (h : a.toInt ≤ b.toInt) : a ≤ b := Int32.le_iff_toInt_le.mpr h
theorem nltI {a b : Int32} (h : b.toInt ≤ a.toInt) : ¬ a < b := fun q => by have := Int32.lt_iff_toInt_lt.mp q; omega
theorem nleI {a b : Int32} (h : b.toInt < a.toInt) : ¬ a ≤ b := fun q => by have := Int32.le_iff_toInt_le.mp q; omega
theorem inT {v lo hi : Int32} (h1 : lo.toInt ≤ v.toInt) (h2 : v.toInt ≤ hi.toInt) : (decide (lo ≤ v) && decide (v ≤ hi)) = true := by
  rw [decide_eq_true (leI h1), decide_eq_true (leI h2)]
  rfl
theorem inF {v lo hi : Int32} (h : v.toInt < lo.toInt ∨ hi.toInt < v.toInt) : ¬ (decide (lo ≤ v) && decide (v ≤ hi)) = true := by
  intro q
  obtain ⟨q1, q2⟩ := (Bool.and_eq_true _ _).mp q
  have a1 := Int32.le_iff_toInt_le.mp (of_decide_eq_true q1)
  have a2 := Int32.le_iff_toInt_le.mp (of_decide_eq_true q2)
  omega
/-- a number below a count, or none -/
theorem nb_cl {c x : Int32} {n : Nat} (hc : c = iN n) (hn : n ≤ 1000) : (∃ k, k < n ∧ x = iN k ∧ ¬ x < 0 ∧ ¬ c ≤ x ∧ (decide (0 ≤ x) && decide (x ≤ c - 1)) = true) ∨ ((x < 0 ∨ (¬ x < 0 ∧ c ≤ x)) ∧ ¬ (decide (0 ≤ x) && decide (x ≤ c - 1)) = true) := by
  have l0 : (0 : Int32).toInt = 0 := rfl
  have l1 : (1 : Int32).toInt = 1 := rfl
  have tc : c.toInt = n := by rw [hc, iN_ti (by omega)]
  have tp : (c - 1).toInt = (n : Int) - 1 := by rw [ti_sub (by omega) (by omega), tc, l1]
  by_cases h1 : x.toInt < 0
  · exact Or.inr ⟨Or.inl (ltI (by omega)), inF (Or.inl (by omega))⟩
  · by_cases h2 : (n : Int) ≤ x.toInt
    · exact Or.inr ⟨Or.inr ⟨nltI (by omega), leI (by omega)⟩, inF (Or.inr (by omega))⟩
    · obtain ⟨k, hk, hk2⟩ := iN_ex (v := x) (hi := n) ⟨by omega, by omega⟩
      have tk : x.toInt = k := by rw [hk, iN_ti (by omega)]
      exact Or.inl ⟨k, by omega, hk, nltI (by omega), nleI (by omega), inT (by omega) (by omega)⟩
theorem hs_t {x : Int32} {u : MM} {g : GG} (h1 : ¬ x < 0) (h2 : ¬ u 1 5 ≤ x) : Fx_T_hasHillX x u g = true := by unfold Fx_T_hasHillX; rw [if_neg h1, if_neg h2]
theorem hs_f {x : Int32} {u : MM} {g : GG} (h : x < 0 ∨ (¬ x < 0 ∧ u 1 5 ≤ x)) : Fx_T_hasHillX x u g = false := by
  unfold Fx_T_hasHillX
  rcases h with h | ⟨h, q⟩
  · rw [if_pos h]
  · rw [if_neg h, if_pos q]
theorem ps_t {x : Int32} {u : MM} {g : GG} (h1 : ¬ x < 0) (h2 : ¬ u 1 7 ≤ x) : Fx_T_hasPlanX x u g = true := by unfold Fx_T_hasPlanX; rw [if_neg h1, if_neg h2]
theorem ps_f {x : Int32} {u : MM} {g : GG} (h : x < 0 ∨ (¬ x < 0 ∧ u 1 7 ≤ x)) : Fx_T_hasPlanX x u g = false := by
  unfold Fx_T_hasPlanX
  rcases h with h | ⟨h, q⟩
  · rw [if_pos h]
  · rw [if_neg h, if_pos q]
theorem ih_X {x : Int32} {u : MM} {g : GG} : Fx_M_isHillX x u g = (decide (0 ≤ x) && decide (x ≤ u 167 0 - 1)) := by
  unfold Fx_M_isHillX
  simp only [xq_lt, in_X]
theorem ip_X {x : Int32} {u : MM} {g : GG} : Fx_M_isPlanX x u g = (decide (0 ≤ x) && decide (x ≤ u 167 1 - 1)) := by
  unfold Fx_M_isPlanX
  simp only [xq_lt, in_X]
end
section
/-! a plan on a hill, on both sides -/
/-- the class's ground (cell 44 on) is the row in the reference's cell 172 -/
def GRW (u v : MM) : Prop := u 44 0 = v 172 0 ∧ u 44 2 = v 172 1 ∧ (∀ i, i < 3 → u 48 i = v 172 (2 + i)) ∧ (∀ i, i < 4 → i < (v 172 1).toInt.toNat → u 46 i = v 172 (5 + 2 * i) ∧ u 47 i = v 172 (6 + 2 * i)) ∧ ∀ p c, p < 9 → c < 16 → p < (v 172 0).toInt.toNat → u 45 (16 * p + c) = v 172 (13 + 16 * p + c)
/-- and what has been done there -/
def SIT (u v : MM) : Prop := GRW u v ∧ v 162 22 = v 172 0 ∧ u 43 1 = v 162 23 ∧ u 43 2 = v 162 24 ∧ u 43 3 = v 162 25 ∧ v 162 26 = -1 ∧ v 162 27 = 0
theorem sit_put {u v : MM} {q c : Nat} {z : Int32} (h : SIT u v) (hc : c < 16) : SIT (ms u 45 (16 * q + c) z) (ms v 172 (13 + 16 * q + c) z) := by
  obtain ⟨⟨g0, g1, g2, g3, g4⟩, s1, s2, s3, s4, s5, s6⟩ := h
  refine ⟨⟨?_, ?_, fun i hi => ?_, fun i hi hl => ?_, fun p d hp hd hl => ?_⟩, ?_, ?_, ?_, ?_, ?_, ?_⟩
  · rw [ms_c1 (by decide), ms_i1 (by omega)]; exact g0
  · rw [ms_c1 (by decide), ms_i1 (by omega)]; exact g1
  · rw [ms_c1 (by decide), ms_i1 (by omega)]; exact g2 i hi
  · rw [ms_i1 (by omega)] at hl
    rw [ms_c1 (a := 45) (b := 46) (by decide), ms_c1 (a := 45) (b := 47) (by decide), ms_i1 (by omega), ms_i1 (by omega)]
    exact g3 i hi hl
  · rw [ms_i1 (by omega)] at hl
    by_cases y : 16 * p + d = 16 * q + c
    · rw [y, show 13 + 16 * p + d = 13 + 16 * q + c by omega, ms_e1, ms_e1]
    · rw [ms_i1 y, ms_i1 (by omega)]
      exact g4 p d hp hd hl
  · rw [ms_c1 (by decide), ms_i1 (by omega)]; exact s1
  · rw [ms_c1 (by decide), ms_c1 (by decide)]; exact s2
  · rw [ms_c1 (by decide), ms_c1 (by decide)]; exact s3
  · rw [ms_c1 (by decide), ms_c1 (by decide)]; exact s4
  · rw [ms_c1 (by decide)]; exact s5
  · rw [ms_c1 (by decide)]; exact s6
theorem grw_c {u v x y : MM} (h : GRW u v) (e4 : x 44 = u 44) (e5 : x 45 = u 45) (e6 : x 46 = u 46) (e7 : x 47 = u 47) (e8 : x 48 = u 48) (e : y 172 = v 172) : GRW x y := by
  unfold GRW
  rw [e4, e5, e6, e7, e8, e]
  exact h
theorem sit_day {u v : MM} {a b : Int32} (h : SIT u v) (e : a = b) : SIT (ms u 43 2 a) (ms v 162 24 b) := by
  obtain ⟨hg, s1, s2, s3, s4, s5, s6⟩ := h
  refine ⟨grw_c hg (ms_c1 (by decide)) (ms_c1 (by decide)) (ms_c1 (by decide)) (ms_c1 (by decide)) (ms_c1 (by decide)) (ms_c1 (by decide)), ?_, by rw [ms_i1 (by decide), ms_i1 (by decide)]; exact s2, by rw [ms_e1, ms_e1]; exact e, by rw [ms_i1 (by decide), ms_i1 (by decide)]; exact s4, ?_, ?_⟩
  · rw [ms_i1 (by decide), ms_c1 (by decide)]; exact s1
  · rw [ms_i1 (by decide)]; exact s5
  · rw [ms_i1 (by decide)]; exact s6
theorem sit_los {u v : MM} {a b : Int32} (h : SIT u v) (e : a = b) : SIT (ms u 43 3 a) (ms v 162 25 b) := by
  obtain ⟨hg, s1, s2, s3, s4, s5, s6⟩ := h
  refine ⟨grw_c hg (ms_c1 (by decide)) (ms_c1 (by decide)) (ms_c1 (by decide)) (ms_c1 (by decide)) (ms_c1 (by decide)) (ms_c1 (by decide)), ?_, by rw [ms_i1 (by decide), ms_i1 (by decide)]; exact s2, by rw [ms_i1 (by decide), ms_i1 (by decide)]; exact s3, by rw [ms_e1, ms_e1]; exact e, ?_, ?_⟩
  · rw [ms_i1 (by decide), ms_c1 (by decide)]; exact s1
  · rw [ms_i1 (by decide)]; exact s5
  · rw [ms_i1 (by decide)]; exact s6
theorem sit_don {u v : MM} {a b : Int32} (h : SIT u v) (e : a = b) : SIT (ms u 43 1 a) (ms v 162 23 b) := by
  obtain ⟨hg, s1, s2, s3, s4, s5, s6⟩ := h
  refine ⟨grw_c hg (ms_c1 (by decide)) (ms_c1 (by decide)) (ms_c1 (by decide)) (ms_c1 (by decide)) (ms_c1 (by decide)) (ms_c1 (by decide)), ?_, by rw [ms_e1, ms_e1]; exact e, by rw [ms_i1 (by decide), ms_i1 (by decide)]; exact s3, by rw [ms_i1 (by decide), ms_i1 (by decide)]; exact s4, ?_, ?_⟩
  · rw [ms_i1 (by decide), ms_c1 (by decide)]; exact s1
  · rw [ms_i1 (by decide)]; exact s5
  · rw [ms_i1 (by decide)]; exact s6
theorem hofE {u : MM} {t q c : Nat} (hq : q < 9) (hc : c < 16) : hof u t (iN q) (iN c) = u (t + 1) (16 * q + c) := by
  unfold hof
  rw [if_neg]
  · have e : ((iN q * 16) + iN c).toNatClampNeg = 16 * q + c := by
      show (iN q * iN 16 + iN c).toNatClampNeg = _
      rw [iN_m, iN_a, iN_cl (by omega)]
      omega
    exact congrArg (u (t + 1)) e
  · intro z
    rcases z with z | z | z | z
    · have := (iN_lt (b := 0) (by omega) (by omega)).mp z; omega
    · have := (iN_le (a := 9) (by omega) (by omega)).mp z; omega
    · have := (iN_lt (b := 0) (by omega) (by omega)).mp z; omega
    · have := (iN_le (a := 16) (by omega) (by omega)).mp z; omega
theorem mofI {q c : Nat} (hq : q < 9) (hc : c < 16) : (((13 : Int32) + ((16 : Int32) * iN q)) + iN c).toNatClampNeg = 13 + 16 * q + c := by
  show (iN 13 + iN 16 * iN q + iN c).toNatClampNeg = _
  rw [iN_m, iN_a, iN_a, iN_cl (by omega)]
theorem mofE {v : MM} {q c : Nat} (hq : q < 9) (hc : c < 16) : mof v (iN q) (iN c) = v 172 (13 + 16 * q + c) := by
  unfold mof
  exact congrArg (v 172) (mofI hq hc)
theorem sit_of {u v : MM} {q c : Nat} (h : SIT u v) (hq : q < 9) (hc : c < 16) (hl : q < (v 172 0).toInt.toNat) : hof u 44 (iN q) (iN c) = mof v (iN q) (iN c) := by
  rw [hofE hq hc, mofE hq hc]
  exact h.1.2.2.2.2 q c hq hc hl
theorem puE {u : MM} {g : GG} {q c : Nat} {z : Int32} (hq : q < 9) (hc : c < 16) : Fx_H_putBX (iN q) (iN c) z 44 u g = ms u 45 (16 * q + c) z := by
  unfold Fx_H_putBX
  rw [if_neg (show ¬ iN q < (0 : Int32) from fun q => by have := (iN_lt (b := 0) (by omega) (by omega)).mp q; omega), if_neg (show ¬ (9 : Int32) ≤ iN q from fun q => by have := (iN_le (a := 9) (by omega) (by omega)).mp q; omega), if_neg (show ¬ iN c < (0 : Int32) from fun q => by have := (iN_lt (b := 0) (by omega) (by omega)).mp q; omega), if_neg (show ¬ (16 : Int32) ≤ iN c from fun q => by have := (iN_le (a := 16) (by omega) (by omega)).mp q; omega)]
  have e : ((iN q * 16) + iN c).toNatClampNeg = 16 * q + c := by
    show (iN q * iN 16 + iN c).toNatClampNeg = _
    rw [iN_m, iN_a, iN_cl (by omega)]
    omega
  rw [e]
  rfl
theorem msE {v : MM} {g : GG} {q c : Nat} {z : Int32} (hq : q < 9) (hc : c < 16) : Fx_M_setX (iN q) (iN c) z v g = ms v 172 (13 + 16 * q + c) z := by
  unfold Fx_M_setX
  rw [xqb, mofI hq hc]
theorem ms_cm {u : MM} {a i j : Nat} {x y : Int32} (h : i ≠ j) : ms (ms u a i x) a j y = ms (ms u a j y) a i x := by
  funext b
  by_cases q : b = a
  · subst q
    rw [ms_a1, ms_a1, ms_a1, ms_a1]
    funext k
    unfold upd
    by_cases q1 : k = j
    · rw [if_pos q1, if_neg (by omega), if_pos q1]
    · rw [if_neg q1, if_neg q1]
  · rw [ms_c1 q, ms_c1 q, ms_c1 q, ms_c1 q]
/-- what a work leaves alone -/
def LFT (x u : MM) : Prop := (∀ c, c ≠ 43 → c ≠ 45 → x c = u c) ∧ ∀ j, j ≠ 2 → j ≠ 3 → x 43 j = u 43 j
def RFT (y v : MM) : Prop := (∀ c, c ≠ 162 → c ≠ 172 → y c = v c) ∧ (∀ j, j ≠ 24 → j ≠ 25 → y 162 j = v 162 j) ∧ ∀ j, j < 13 → y 172 j = v 172 j
theorem lft_0 {u : MM} : LFT u u := ⟨fun _ _ _ => rfl, fun _ _ _ => rfl⟩
theorem rft_0 {v : MM} : RFT v v := ⟨fun _ _ _ => rfl, fun _ _ _ => rfl, fun _ _ => rfl⟩
theorem lft_p {u : MM} {x : MM} {i : Nat} {z : Int32} (h : LFT x u) : LFT (ms x 45 i z) u := ⟨fun c c1 c2 => (ms_c1 c2).trans (h.1 c c1 c2), fun j j1 j2 => (congrFun (ms_c1 (by decide)) j).trans (h.2 j j1 j2)⟩
theorem lft_d {u : MM} {x : MM} {i : Nat} {z : Int32} (hi : i = 2 ∨ i = 3) (h : LFT x u) : LFT (ms x 43 i z) u := ⟨fun c c1 c2 => (ms_c1 c1).trans (h.1 c c1 c2), fun j j1 j2 => (ms_i1 (by omega)).trans (h.2 j j1 j2)⟩
theorem rft_p {v y : MM} {i : Nat} {z : Int32} (hi : 13 ≤ i) (h : RFT y v) : RFT (ms y 172 i z) v := ⟨fun c c1 c2 => (ms_c1 c2).trans (h.1 c c1 c2), fun j j1 j2 => (congrFun (ms_c1 (by decide)) j).trans (h.2.1 j j1 j2), fun j hj => (ms_i1 (by omega)).trans (h.2.2 j hj)⟩
theorem rft_d {v y : MM} {i : Nat} {z : Int32} (hi : i = 24 ∨ i = 25) (h : RFT y v) : RFT (ms y 162 i z) v := ⟨fun c c1 c2 => (ms_c1 c1).trans (h.1 c c1 c2), fun j j1 j2 => (ms_i1 (by omega)).trans (h.2.1 j j1 j2), fun j hj => (congrFun (ms_c1 (by decide)) j).trans (h.2.2 j hj)⟩
/-- a step's two answers -/
def STP (a b : Bool × MM) (u v : MM) : Prop := a.1 = b.1 ∧ SIT a.2 b.2 ∧ LFT a.2 u ∧ RFT b.2 v
theorem stp_f {u v : MM} (h : SIT u v) : STP (false, u) (false, v) u v := ⟨rfl, h, lft_0, rft_0⟩
theorem hs_ps {u : MM} {g : GG} {x : Int32} {n : Nat} (hu : u 44 0 = iN n) (hn : n ≤ 9) (b0 : 0 ≤ x.toInt) : Fx_H_hasX x 44 u g = decide (x.toInt < n) := by
  have l0 : (0 : Int32).toInt = 0 := rfl
  unfold Fx_H_hasX
  rw [if_neg (nltI (by omega)), hu]
  by_cases q : x.toInt < n
  · rw [if_neg (nleI (by rw [iN_ti (by omega)]; exact q)), decide_eq_true q]
  · rw [if_pos (leI (by rw [iN_ti (by omega)]; omega)), decide_eq_false q]
/-- taken out -/
theorem out_X {u v : MM} {g g' : GG} {q : Nat} (h : SIT u v) (hq : q < 9) (hl : q < (v 172 0).toInt.toNat) : STP (xq_lt (ms u 43 3 ((u 43 3) + ((hof u 44 (iN q) (7 : Int32)) * (hof u 44 (iN q) (1 : Int32))))) fun x => xq_lt (Fx_H_takeOutBX (iN q) 44 x g) fun x2 => (true, x2)) (xq_lt (ms v 162 25 ((v 162 25) + ((mof v (iN q) (1 : Int32)) * (mof v (iN q) (7 : Int32))))) fun y => xq_lt (Fx_M_setX (iN q) (1 : Int32) (0 : Int32) y g') fun y2 => xq_lt (Fx_M_setX (iN q) (0 : Int32) (0 : Int32) y2 g') fun y3 => xq_lt (Fx_M_setX (iN q) (4 : Int32) (0 : Int32) y3 g') fun y4 => xq_lt (Fx_M_setX (iN q) (15 : Int32) (1 : Int32) y4 g') fun y5 => (true, y5)) u v := by
  rw [xqb, xqb, xqb, xqb, xqb, xqb, xqb]
  unfold Fx_H_takeOutBX
  rw [xqb, xqb, xqb, xqb]
  have h7 := sit_of (c := 7) h hq (by decide) hl
  have h1 := sit_of (c := 1) h hq (by decide) hl
  have e : (u 43 3) + ((hof u 44 (iN q) (7 : Int32)) * (hof u 44 (iN q) (1 : Int32))) = (v 162 25) + ((mof v (iN q) (1 : Int32)) * (mof v (iN q) (7 : Int32))) := by
    rw [show hof u 44 (iN q) (7 : Int32) = mof v (iN q) (7 : Int32) from h7, show hof u 44 (iN q) (1 : Int32) = mof v (iN q) (1 : Int32) from h1, h.2.2.2.2.1, Int32.mul_comm]
  have s0 := sit_los h e
  rw [show ∀ (x : MM) (z : Int32), Fx_H_putBX (iN q) (15 : Int32) z 44 x g = ms x 45 (16 * q + 15) z from fun x z => puE (c := 15) hq (by decide), show ∀ (x : MM) (z : Int32), Fx_H_putBX (iN q) (1 : Int32) z 44 x g = ms x 45 (16 * q + 1) z from fun x z => puE (c := 1) hq (by decide), show ∀ (x : MM) (z : Int32), Fx_H_putBX (iN q) (0 : Int32) z 44 x g = ms x 45 (16 * q + 0) z from fun x z => puE (c := 0) hq (by decide), show ∀ (x : MM) (z : Int32), Fx_H_putBX (iN q) (4 : Int32) z 44 x g = ms x 45 (16 * q + 4) z from fun x z => puE (c := 4) hq (by decide)]
  rw [show ∀ (x : MM) (z : Int32), Fx_M_setX (iN q) (15 : Int32) z x g' = ms x 172 (13 + 16 * q + 15) z from fun x z => msE (c := 15) hq (by decide), show ∀ (x : MM) (z : Int32), Fx_M_setX (iN q) (1 : Int32) z x g' = ms x 172 (13 + 16 * q + 1) z from fun x z => msE (c := 1) hq (by decide), show ∀ (x : MM) (z : Int32), Fx_M_setX (iN q) (0 : Int32) z x g' = ms x 172 (13 + 16 * q + 0) z from fun x z => msE (c := 0) hq (by decide), show ∀ (x : MM) (z : Int32), Fx_M_setX (iN q) (4 : Int32) z x g' = ms x 172 (13 + 16 * q + 4) z from fun x z => msE (c := 4) hq (by decide)]
  rw [ms_cm (a := 172) (i := 13 + 16 * q + 4) (j := 13 + 16 * q + 15) (by omega), ms_cm (a := 172) (i := 13 + 16 * q + 0) (j := 13 + 16 * q + 15) (by omega), ms_cm (a := 172) (i := 13 + 16 * q + 1) (j := 13 + 16 * q + 15) (by omega)]
  exact ⟨rfl, sit_put (sit_put (sit_put (sit_put s0 (by decide)) (by decide)) (by decide)) (by decide), lft_p (lft_p (lft_p (lft_p (lft_d (Or.inr rfl) lft_0)))), rft_p (by omega) (rft_p (by omega) (rft_p (by omega) (rft_p (by omega) (rft_d (Or.inr rfl) rft_0))))⟩
/-- the gate of every work -/
theorem gate_X {u v : MM} {g : GG} {p : Int32} {A B : Bool × MM} (h : SIT u v) (b9 : Bd 0 9 (v 172 0)) (bp : Bd 0 999 p) (K : ∀ q, q < 9 → p = iN q → q < (v 172 0).toInt.toNat → STP A B u v) : STP (xq_lt (Fx_H_hasX p 44 u g) fun t => if t = true then (xq_lt (Fx_H_isOutX p 44 u g) fun t2 => if t2 = true then (false, u) else A) else (false, u)) (if v 162 22 ≤ p then (false, v) else if mof v p (15 : Int32) = 1 then (false, v) else B) u v := by
  obtain ⟨n, hn, n9⟩ := iN_ex (hi := 9) b9
  obtain ⟨q, hq, q999⟩ := iN_ex (hi := 999) bp
  have un : u 44 0 = iN n := h.1.1.trans hn
  have vn : v 162 22 = iN n := h.2.1.trans hn
  have tq : p.toInt = q := by rw [hq, iN_ti (by omega)]
  rw [xqb, hs_ps un n9 (by omega), vn]
  by_cases c : q < n
  rotate_left
  · rw [decide_eq_false (show ¬ p.toInt < n by omega), if_neg (by decide), if_pos (leI (by rw [iN_ti (by omega)]; omega))]
    exact stp_f h
  have q9 : q < 9 := by omega
  have ql : q < (v 172 0).toInt.toNat := by rw [hn, iN_ti (by omega)]; omega
  rw [decide_eq_true (show p.toInt < n by omega), if_pos rfl, if_neg (nleI (by rw [iN_ti (by omega)]; omega)), xqb]
  have eo : Fx_H_isOutX p 44 u g = decide (mof v p (15 : Int32) = 1) := by
    unfold Fx_H_isOutX
    rw [hq, show hof u 44 (iN q) (15 : Int32) = mof v (iN q) (15 : Int32) from sit_of h q9 (by decide) ql]
    by_cases y : mof v (iN q) (15 : Int32) = 1
    · rw [if_pos y, decide_eq_true y]
    · rw [if_neg y, decide_eq_false y]
  rw [eo]
  by_cases y : mof v p (15 : Int32) = 1
  · rw [decide_eq_true y, if_pos rfl, if_pos y]
    exact stp_f h
  · rw [decide_eq_false y, if_neg (by decide), if_neg y]
    exact K q q9 hq ql
theorem xqc_id {α β : Type} {P : α × β} : (xq_c2 P fun t z => (t, z)) = P := rfl
/-- a work on both sides -/
theorem st_X {u v : MM} {g g' : GG} {kind p much : Int32} (h : SIT u v) (b9 : Bd 0 9 (v 172 0)) (bp : Bd 0 999 p) (bm : kind = 4 ∨ Bd 0 999 much) : STP (Fx_Si_buildsX kind p much u g) (Fx_M_doesX kind p much v g') u v := by
  have hs := h
  obtain ⟨⟨g0, g1, g2, g3, g4⟩, s1, s2, s3, s4, s5, s6⟩ := h
  unfold Fx_Si_buildsX Fx_M_doesX
  by_cases k4 : kind = 4
  · rw [if_pos k4, if_pos k4]
    refine gate_X hs b9 bp (fun q q9 hq ql => ?_)
    rw [k4, if_neg (by decide), if_neg (by decide), if_neg (by decide), if_neg (by decide), if_neg (by decide), if_neg (by decide), if_neg (by decide), if_neg (by decide), hq]
    exact out_X hs q9 ql
  rw [if_neg k4, if_neg k4]
  have bm2 := bm.resolve_left k4
  refine gate_X hs b9 bp (fun q q9 hq ql => ?_)
  rw [hq]
  have so : ∀ c, c < 16 → hof u 44 (iN q) (iN c) = mof v (iN q) (iN c) := fun c hc => sit_of hs q9 hc ql
  by_cases k0 : kind = 0
  · rw [if_pos k0, if_pos k0, xqc_id]
    unfold Fx_Si_mendsX
    rw [show hof u 44 (iN q) (4 : Int32) = mof v (iN q) (4 : Int32) from so 4 (by decide)]
    by_cases y : much ≤ mof v (iN q) (4 : Int32)
    rotate_left
    · rw [if_neg y, if_neg y]
      exact stp_f hs
    rw [if_pos y, if_pos y, xqb, xqb, xqb, xqb, show ∀ z : Int32, Fx_H_putBX (iN q) (4 : Int32) z 44 u g = ms u 45 (16 * q + 4) z from fun z => puE (c := 4) q9 (by decide), show ∀ z : Int32, Fx_M_setX (iN q) (4 : Int32) z v g' = ms v 172 (13 + 16 * q + 4) z from fun z => msE (c := 4) q9 (by decide), ms_i1 (a := 172) (show (2 : Nat) ≠ 13 + 16 * q + 4 by omega)]
    exact ⟨rfl, sit_day (sit_put hs (by decide)) (by rw [s3, Int32.mul_comm, show u 48 0 = v 172 2 from g2 0 (by decide)]), lft_d (Or.inl rfl) (lft_p lft_0), rft_d (Or.inl rfl) (rft_p (by omega) rft_0)⟩
  by_cases k1 : kind = 1
  · rw [if_neg k0, if_pos k1, if_neg k0, if_pos k1, xqc_id]
    unfold Fx_Si_lowersX
    rw [show hof u 44 (iN q) (1 : Int32) = mof v (iN q) (1 : Int32) from so 1 (by decide)]
    by_cases y : much ≤ mof v (iN q) (1 : Int32)
    rotate_left
    · rw [if_neg y, if_neg y]
      exact stp_f hs
    rw [if_pos y, if_pos y, xqb, xqb, xqb, xqb, show ∀ z : Int32, Fx_H_putBX (iN q) (1 : Int32) z 44 u g = ms u 45 (16 * q + 1) z from fun z => puE (c := 1) q9 (by decide), show ∀ z : Int32, Fx_M_setX (iN q) (1 : Int32) z v g' = ms v 172 (13 + 16 * q + 1) z from fun z => msE (c := 1) q9 (by decide)]
    have sp := sit_put (q := q) (c := 1) (z := mof v (iN q) (1 : Int32) - much) hs (by decide)
    have h7 := sit_of (q := q) (c := 7) sp q9 (by decide) (by rw [ms_i1 (by omega)]; exact ql)
    exact ⟨rfl, sit_los sp (by rw [show hof (ms u 45 (16 * q + 1) (mof v (iN q) (1 : Int32) - much)) 44 (iN q) (7 : Int32) = mof (ms v 172 (13 + 16 * q + 1) (mof v (iN q) (1 : Int32) - much)) (iN q) (7 : Int32) from h7, s4, Int32.mul_comm]), lft_d (Or.inr rfl) (lft_p lft_0), rft_d (Or.inr rfl) (rft_p (by omega) rft_0)⟩
  by_cases k2 : kind = 2
  · rw [if_neg k0, if_neg k1, if_pos k2, if_neg k0, if_neg k1, if_pos k2, xqc_id]
    unfold Fx_Si_widensX
    rw [show hof u 44 (iN q) (3 : Int32) = mof v (iN q) (3 : Int32) from so 3 (by decide)]
    by_cases y : mof v (iN q) (3 : Int32) + much ≤ 24
    rotate_left
    · rw [if_neg y, if_neg y]
      exact stp_f hs
    rw [if_pos y, if_pos y, xqb, xqb, xqb, xqb, show ∀ z : Int32, Fx_H_putBX (iN q) (3 : Int32) z 44 u g = ms u 45 (16 * q + 3) z from fun z => puE (c := 3) q9 (by decide), show ∀ z : Int32, Fx_M_setX (iN q) (3 : Int32) z v g' = ms v 172 (13 + 16 * q + 3) z from fun z => msE (c := 3) q9 (by decide), ms_i1 (a := 172) (show (3 : Nat) ≠ 13 + 16 * q + 3 by omega)]
    exact ⟨rfl, sit_day (sit_put hs (by decide)) (by rw [s3, Int32.mul_comm, show u 48 1 = v 172 3 from g2 1 (by decide)]), lft_d (Or.inl rfl) (lft_p lft_0), rft_d (Or.inl rfl) (rft_p (by omega) rft_0)⟩
  by_cases k3 : kind = 3
  · rw [if_neg k0, if_neg k1, if_neg k2, if_pos k3, if_neg k0, if_neg k1, if_neg k2, if_pos k3, xqc_id]
    unfold Fx_Si_leadsX
    obtain ⟨n, hn, n9⟩ := iN_ex (hi := 9) b9
    obtain ⟨r, hr, r999⟩ := iN_ex (hi := 999) bm2
    have tr : much.toInt = r := by rw [hr, iN_ti (by omega)]
    have qn : q < n := by rw [hn, iN_ti (by omega)] at ql; omega
    have l1 : (1 : Int32).toInt = 1 := rfl
    have tq1 : (iN q + 1).toInt = q + 1 := by rw [iN_s, iN_ti (by omega)]; omega
    have tn1 : (v 162 22 - 1).toInt = (n : Int) - 1 := by rw [s1, hn, ti_sub (by rw [iN_ti (by omega)]; omega) (by rw [iN_ti (by omega)]; omega), iN_ti (by omega), l1]
    rw [xqb, hs_ps (g0.trans hn) n9 (by omega), in_X, xqb (x := (decide (iN q + 1 ≤ much) && decide (much ≤ v 162 22 - 1)))]
    by_cases y : r < n ∧ q < r
    · rw [decide_eq_true (show much.toInt < n by omega), if_pos rfl, if_pos (ltI (by rw [iN_ti (by omega)]; omega)), if_pos (inT (by omega) (by omega)), xqb, xqb, xqb, xqb, show ∀ z : Int32, Fx_H_putBX (iN q) (8 : Int32) z 44 u g = ms u 45 (16 * q + 8) z from fun z => puE (c := 8) q9 (by decide), show ∀ z : Int32, Fx_M_setX (iN q) (8 : Int32) z v g' = ms v 172 (13 + 16 * q + 8) z from fun z => msE (c := 8) q9 (by decide), ms_i1 (a := 172) (show (4 : Nat) ≠ 13 + 16 * q + 8 by omega)]
      exact ⟨rfl, sit_day (sit_put hs (by decide)) (by rw [s3, show u 48 2 = v 172 4 from g2 2 (by decide)]), lft_d (Or.inl rfl) (lft_p lft_0), rft_d (Or.inl rfl) (rft_p (by omega) rft_0)⟩
    · rw [if_neg (inF (by omega))]
      by_cases z : r < n
      · rw [decide_eq_true (show much.toInt < n by omega), if_pos rfl, if_neg (nltI (by rw [iN_ti (by omega)]; omega))]
        exact stp_f hs
      · rw [decide_eq_false (show ¬ much.toInt < n by omega), if_neg (by decide)]
        exact stp_f hs
  rw [if_neg k0, if_neg k1, if_neg k2, if_neg k3, if_neg k0, if_neg k1, if_neg k2, if_neg k3]
  exact out_X hs q9 ql
end
section
/-! a hill that was told is in order -/
def cLo (c : Nat) : Int := if c = 8 ∨ c = 9 ∨ c = 12 then -1 else 0
def cHi (c : Nat) : Int := ([24, 24, 9, 24, 10, 999, 3, 99, 8, 8, 10, 99, 99, 10, 10, 1] : List Int).getD c 0
/-- a pond's way down -/
def LK (n p : Nat) (d : Int32) : Prop := d = -1 ∨ ∃ q, p < q ∧ q < n ∧ d = iN q
/-- pond p of n in row f -/
def PW (n p : Nat) (f : Nat → Int32) : Prop := (∀ c, c < 16 → Bd (cLo c) (cHi c) (f (13 + 16 * p + c))) ∧ LK n p (f (13 + 16 * p + 8)) ∧ LK n p (f (13 + 16 * p + 9))
/-- rain i -/
def RW (f : Nat → Int32) (i : Nat) : Prop := Bd 0 9 (f (5 + 2 * i)) ∧ Bd 0 100 (f (6 + 2 * i))
def HWp (f : Nat → Int32) : Prop := ∃ n m, n ≤ 9 ∧ m ≤ 4 ∧ f 0 = iN n ∧ f 1 = iN m ∧ (∀ i, i < m → RW f i) ∧ (∀ i, i < 3 → Bd 0 99 (f (2 + i))) ∧ ∀ p, p < n → PW n p f
def HWF (f : Nat → Int32) : Prop := HWp f ∧ Bd 1 4 (f 1) ∧ sm f = 100
theorem lk_s {n p : Nat} {d : Int32} (h : LK n p d) : LK (n + 1) p d := by
  rcases h with h | ⟨q, h1, h2, h3⟩
  · exact Or.inl h
  · exact Or.inr ⟨q, h1, by omega, h3⟩
theorem pw_u {n p q c : Nat} {z : Int32} {R : Nat → Int32} (h : PW n p R) (b : Bd (cLo c) (cHi c) z) (l : c = 8 ∨ c = 9 → LK n q z) (hc : c < 16) : PW n p (upd R (13 + 16 * q + c) z) := by
  obtain ⟨h1, h2, h3⟩ := h
  have e : ∀ d, d < 16 → (p = q ∧ d = c ∧ upd R (13 + 16 * q + c) z (13 + 16 * p + d) = z) ∨ upd R (13 + 16 * q + c) z (13 + 16 * p + d) = R (13 + 16 * p + d) := by
    intro d hd
    unfold upd
    by_cases y : 13 + 16 * p + d = 13 + 16 * q + c
    · exact Or.inl ⟨by omega, by omega, if_pos y⟩
    · exact Or.inr (if_neg y)
  refine ⟨fun d hd => ?_, ?_, ?_⟩
  · rcases e d hd with ⟨e1, e2, e3⟩ | e3
    · rw [e3, e2]; exact b
    · rw [e3]; exact h1 d hd
  · rcases e 8 (by decide) with ⟨e1, e2, e3⟩ | e3
    · rw [e3, e1]; exact l (Or.inl e2.symm)
    · rw [e3]; exact h2
  · rcases e 9 (by decide) with ⟨e1, e2, e3⟩ | e3
    · rw [e3, e1]; exact l (Or.inr e2.symm)
    · rw [e3]; exact h3
theorem hwp_u {q c : Nat} {z : Int32} {R : Nat → Int32} (h : HWp R) (hc : c < 16) (b : Bd (cLo c) (cHi c) z) (l : ∀ n, n ≤ 9 → R 0 = iN n → c = 8 ∨ c = 9 → LK n q z) : HWp (upd R (13 + 16 * q + c) z) := by
  obtain ⟨n, m, n9, m4, e0, e1, hr, hd, hp⟩ := h
  have u : ∀ j, j < 13 → upd R (13 + 16 * q + c) z j = R j := fun j hj => if_neg (by omega)
  refine ⟨n, m, n9, m4, (u 0 (by decide)).trans e0, (u 1 (by decide)).trans e1, fun i hi => ?_, fun i hi => by rw [u _ (by omega)]; exact hd i hi, fun p hp' => pw_u (hp p hp') b (l n n9 e0) hc⟩
  unfold RW
  rw [u _ (by omega), u _ (by omega)]
  exact hr i hi
theorem nb_b {f : Nat → Int32} {L : Nat} : ∀ (r p : Nat), nb f L r p = none → ∀ j, j < r → Bd 0 999 (vv f L p j) := by
  intro r
  induction r with
  | zero => intro p h j hj; omega
  | succ r ih =>
    intro p h j hj
    by_cases z : tK f L p = 2
    · have h2 : nb f L r (tN f L p) = none := by
        have e : nb f L (r + 1) p = nb f L r (tN f L p) := if_pos z
        rw [← e]; exact h
      cases j with
      | zero => exact tV_b z
      | succ j => exact ih (tN f L p) h2 j (by omega)
    · have e : nb f L (r + 1) p = some (tS f L p) := if_neg z
      rw [e] at h
      cases h
theorem cHi_0 : ∀ c, c < 16 → 0 ≤ cHi c := by decide +kernel
theorem col_b : ∀ w, w < 11 → 3 ≤ w → ((sAr 2).getD (3 * w + 1) 0).toInt ≤ cHi (hcol w) ∧ hcol w < 16 ∧ cLo (hcol w) ≤ 0 ∧ hcol w ≠ 8 ∧ hcol w ≠ 9 := by decide +kernel
theorem day_b : ∀ w, w < 15 → 11 < w → ((sAr 2).getD (3 * w + 0) 0).toInt = 99 ∧ 1 ≤ cnt w := by decide +kernel
theorem cnt_2 : ∀ w, w < 11 → 1 ≤ w → 2 ≤ cnt w := by decide +kernel
theorem chk_1 {w i : Nat} {n v0 v : Int32} (h : chk w i n v0 v = true) : v.toInt ≤ ((sAr 2).getD (3 * w + i) 0).toInt := Int32.le_iff_toInt_le.mp (of_decide_eq_true ((Bool.and_eq_true _ _).mp h).1)
theorem chk_2 {w i : Nat} {n v0 v : Int32} (h : chk w i n v0 v = true) : (if w = 0 then decide (¬ i = 1 ∨ v ≤ v0) else if 10 < w then true else if i = 0 then decide (v < n) else decide (1 < i ∨ 2 < w ∨ (v0 < v ∧ v < n))) = true := ((Bool.and_eq_true _ _).mp h).2
theorem lk_of {n : Nat} {v0 v1 : Int32} (b0 : Bd 0 999 v0) (b1 : Bd 0 999 v1) (h1 : v0 < v1) (h2 : v1 < iN n) (hn : n ≤ 9) : LK n v0.toInt.toNat v1 := by
  have q1 := Int32.lt_iff_toInt_lt.mp h1
  have q2 := Int32.lt_iff_toInt_lt.mp h2
  rw [iN_ti (by omega)] at q2
  exact Or.inr ⟨v1.toInt.toNat, by have := b0.1; omega, by have := b1.1; omega, iN_of b1 (by decide)⟩
/-- a pond more -/
theorem hw_r0 {R V : Nat → Int32} (h : HWp R) (b : ∀ j, j < 3 → Bd 0 999 (V j)) (hf : fl 0 (R 0) (R 1) = false) (k : ∀ j, j < 3 → chk 0 j (R 0) (V 0) (V j) = true) {gd : Bool} : HWp (rowH 0 R (V 0) (V 1) (V 2) gd) := by
  obtain ⟨n, m, n9, m4, e0, e1, hr, hd, hp⟩ := h
  have n8 : n < 9 := by
    have q : ¬ (0 = 0 ∧ (9 : Int32) ≤ R 0 ∨ 0 = 11 ∧ (4 : Int32) ≤ R 1) := of_decide_eq_false hf
    by_cases y : n < 9
    · exact y
    · exfalso
      refine q (Or.inl ⟨rfl, ?_⟩)
      rw [e0]
      exact (iN_le (a := 9) (by omega) (by omega)).mpr (by omega)
  have en : (R 0).toInt.toNat = n := by rw [e0, iN_ti (by omega)]; omega
  have k0 : (V 0).toInt ≤ 24 := chk_1 (k 0 (by decide))
  have k1 : (V 1).toInt ≤ 24 := chk_1 (k 1 (by decide))
  have k2 : (V 2).toInt ≤ 9 := chk_1 (k 2 (by decide))
  have hpc : ∀ c, c < 16 → Bd (cLo c) (cHi c) (pc (V 0) (V 1) (V 2) c) := by
    intro c hc
    by_cases y0 : c = 0
    · rw [y0]; exact (show Bd 0 24 (V 0) from ⟨(b 0 (by decide)).1, k0⟩)
    by_cases y1 : c = 1
    · rw [y1]; exact (show Bd 0 24 (V 1) from ⟨(b 1 (by decide)).1, k1⟩)
    by_cases y2 : c = 2
    · rw [y2]; exact (show Bd 0 9 (V 2) from ⟨(b 2 (by decide)).1, k2⟩)
    unfold pc
    rw [if_neg y0, if_neg y1, if_neg y2]
    have c0 := cHi_0 c hc
    by_cases y : c = 8 ∨ c = 9 ∨ c = 12
    · rw [if_pos y]
      unfold cLo
      rw [if_pos y]
      have e : (-1 : Int32).toInt = -1 := rfl
      exact ⟨by omega, by omega⟩
    · rw [if_neg y]
      unfold cLo
      rw [if_neg y]
      have e : (0 : Int32).toInt = 0 := rfl
      exact ⟨by omega, by omega⟩
  unfold rowH
  rw [if_pos rfl, en, if_pos (show R 0 < 9 by rw [e0]; exact (iN_lt (b := 9) (by omega) (by omega)).mpr n8)]
  have lo : ∀ j, 1 ≤ j → j < 13 → upd (fun j => if 13 + 16 * n ≤ j ∧ j < 29 + 16 * n then pc (V 0) (V 1) (V 2) (j - (13 + 16 * n)) else R j) 0 (R 0 + 1) j = R j := by
    intro j j1 j2
    unfold upd
    rw [if_neg (by omega)]
    dsimp only
    rw [if_neg (by omega)]
  have pn : ∀ c, c < 16 → upd (fun j => if 13 + 16 * n ≤ j ∧ j < 29 + 16 * n then pc (V 0) (V 1) (V 2) (j - (13 + 16 * n)) else R j) 0 (R 0 + 1) (13 + 16 * n + c) = pc (V 0) (V 1) (V 2) c := by
    intro c hc
    unfold upd
    rw [if_neg (by omega)]
    dsimp only
    rw [if_pos (by omega), Nat.add_sub_cancel_left]
  have po : ∀ p c, p < n → c < 16 → upd (fun j => if 13 + 16 * n ≤ j ∧ j < 29 + 16 * n then pc (V 0) (V 1) (V 2) (j - (13 + 16 * n)) else R j) 0 (R 0 + 1) (13 + 16 * p + c) = R (13 + 16 * p + c) := by
    intro p c hp' hc
    unfold upd
    rw [if_neg (by omega)]
    dsimp only
    rw [if_neg (by omega)]
  refine ⟨n + 1, m, by omega, m4, ?_, (lo 1 (by decide) (by decide)).trans e1, fun i hi => ?_, fun i hi => ?_, fun p hp' => ?_⟩
  · rw [← iN_s, ← e0]; exact if_pos rfl
  · unfold RW
    rw [lo _ (by omega) (by omega), lo _ (by omega) (by omega)]
    exact hr i hi
  · rw [lo _ (by omega) (by omega)]
    exact hd i hi
  · by_cases y : p = n
    · subst y
      refine ⟨fun c hc => ?_, ?_, ?_⟩
      · rw [pn c hc]; exact hpc c hc
      · rw [pn 8 (by decide)]; exact Or.inl rfl
      · rw [pn 9 (by decide)]; exact Or.inl rfl
    · obtain ⟨p1, p2, p3⟩ := hp p (by omega)
      refine ⟨fun c hc => ?_, ?_, ?_⟩
      · rw [po p c (by omega) hc]; exact p1 c hc
      · rw [po p 8 (by omega) (by decide)]; exact lk_s p2
      · rw [po p 9 (by omega) (by decide)]; exact lk_s p3
/-- a rain more -/
theorem hw_r11 {R V : Nat → Int32} (h : HWp R) (b : ∀ j, j < 2 → Bd 0 999 (V j)) (hf : fl 11 (R 0) (R 1) = false) (k : ∀ j, j < 2 → chk 11 j (R 0) (V 0) (V j) = true) {gd : Bool} : HWp (rowH 11 R (V 0) (V 1) (V 2) gd) := by
  obtain ⟨n, m, n9, m4, e0, e1, hr, hd, hp⟩ := h
  have m3 : m < 4 := by
    have q : ¬ (11 = 0 ∧ (9 : Int32) ≤ R 0 ∨ 11 = 11 ∧ (4 : Int32) ≤ R 1) := of_decide_eq_false hf
    by_cases y : m < 4
    · exact y
    · exfalso
      refine q (Or.inr ⟨rfl, ?_⟩)
      rw [e1]
      exact (iN_le (a := 4) (by omega) (by omega)).mpr (by omega)
  have em : (R 1).toInt.toNat = m := by rw [e1, iN_ti (by omega)]; omega
  have k0 : (V 0).toInt ≤ 9 := chk_1 (k 0 (by decide))
  have k1 : (V 1).toInt ≤ 100 := chk_1 (k 1 (by decide))
  unfold rowH
  rw [if_neg (by decide), if_pos rfl, em, if_pos (show R 1 < 4 by rw [e1]; exact (iN_lt (b := 4) (by omega) (by omega)).mpr m3)]
  have o : ∀ j, j ≠ 1 → j ≠ 5 + 2 * m → j ≠ 6 + 2 * m → upd (upd (upd R (5 + 2 * m) (V 0)) (6 + 2 * m) (V 1)) 1 (R 1 + 1) j = R j := by
    intro j j1 j2 j3
    unfold upd
    rw [if_neg j1, if_neg j3, if_neg j2]
  refine ⟨n, m + 1, n9, by omega, (o 0 (by decide) (by omega) (by omega)).trans e0, ?_, fun i hi => ?_, fun i hi => ?_, fun p hp' => ?_⟩
  · rw [← iN_s, ← e1]; exact if_pos rfl
  · by_cases y : i = m
    · subst y
      have a1 : upd (upd (upd R (5 + 2 * i) (V 0)) (6 + 2 * i) (V 1)) 1 (R 1 + 1) (5 + 2 * i) = V 0 := by
        unfold upd
        rw [if_neg (by omega), if_neg (by omega), if_pos rfl]
      have a2 : upd (upd (upd R (5 + 2 * i) (V 0)) (6 + 2 * i) (V 1)) 1 (R 1 + 1) (6 + 2 * i) = V 1 := by
        unfold upd
        rw [if_neg (by omega), if_pos rfl]
      unfold RW
      rw [a1, a2]
      exact ⟨⟨(b 0 (by decide)).1, k0⟩, ⟨(b 1 (by decide)).1, k1⟩⟩
    · unfold RW
      rw [o _ (by omega) (by omega) (by omega), o _ (by omega) (by omega) (by omega)]
      exact hr i (by omega)
  · rw [o _ (by omega) (by omega) (by omega)]
    exact hd i hi
  · obtain ⟨p1, p2, p3⟩ := hp p hp'
    refine ⟨fun c hc => ?_, ?_, ?_⟩
    · rw [o _ (by omega) (by omega) (by omega)]; exact p1 c hc
    · rw [o _ (by omega) (by omega) (by omega)]; exact p2
    · rw [o _ (by omega) (by omega) (by omega)]; exact p3
/-- days -/
theorem hw_d {R : Nat → Int32} {i : Nat} {z : Int32} (h : HWp R) (hi : i < 3) (b : Bd 0 99 z) : HWp (upd R (2 + i) z) := by
  obtain ⟨n, m, n9, m4, e0, e1, hr, hd, hp⟩ := h
  have o : ∀ j, j ≠ 2 + i → upd R (2 + i) z j = R j := fun j hj => if_neg hj
  refine ⟨n, m, n9, m4, (o 0 (by omega)).trans e0, (o 1 (by omega)).trans e1, fun r hr' => ?_, fun r hr' => ?_, fun p hp' => ?_⟩
  · unfold RW
    rw [o _ (by omega), o _ (by omega)]
    exact hr r hr'
  · by_cases y : r = i
    · subst y
      rw [show upd R (2 + r) z (2 + r) = z from if_pos rfl]
      exact b
    · rw [o _ (by omega)]
      exact hd r hr'
  · obtain ⟨p1, p2, p3⟩ := hp p hp'
    refine ⟨fun c hc => ?_, ?_, ?_⟩
    · rw [o _ (by omega)]; exact p1 c hc
    · rw [o _ (by omega)]; exact p2
    · rw [o _ (by omega)]; exact p3
theorem hw_row {R V : Nat → Int32} {w : Nat} (h : HWp R) (hw : w < 15) (b : ∀ j, j < cnt w → Bd 0 999 (V j)) (hf : fl w (R 0) (R 1) = false) (k : ∀ j, j < cnt w → chk w j (R 0) (V 0) (V j) = true) : HWp (rowH w R (V 0) (V 1) (V 2) (gdH w (R 0) (V 0) (V 1) (V 2))) := by
  by_cases w0 : w = 0
  · subst w0; exact hw_r0 h b hf k
  by_cases w11 : w = 11
  · subst w11; exact hw_r11 h b hf k
  by_cases wd : 11 < w
  · obtain ⟨d1, d2⟩ := day_b w hw wd
    have k0 := chk_1 (k 0 (by omega))
    rw [d1] at k0
    unfold rowH
    rw [if_neg w0, if_neg w11, if_pos wd, show w - 10 = 2 + (w - 12) by omega]
    exact hw_d h (by omega) ⟨(b 0 (by omega)).1, k0⟩
  have c2 := cnt_2 w (by omega) (by omega)
  have hg : gdH w (R 0) (V 0) (V 1) (V 2) = true := gd_c (by omega) (by omega) (fun j hj => by
    have h3 : cnt w ≤ 3 := (cnt_b w hw).2.1
    rcases (show j = 0 ∨ j = 1 ∨ j = 2 by omega) with y | y | y <;> subst y
    · exact k 0 hj
    · exact k 1 hj
    · exact k 2 hj)
  have b0 := b 0 (by omega)
  have b1 := b 1 (by omega)
  have k1 := chk_1 (k 1 (by omega))
  have s1 := chk_2 (k 1 (by omega))
  rw [if_neg w0, if_neg (show ¬ 10 < w by omega), if_neg (by decide)] at s1
  have s2 := of_decide_eq_true s1
  unfold rowH
  rw [if_neg w0, if_neg w11, if_neg wd, if_pos hg]
  by_cases w1 : w = 1
  · subst w1
    have s3 : V 0 < V 1 ∧ V 1 < R 0 := by
      rcases s2 with y | y | y
      · exact absurd y (by decide)
      · exact absurd y (by decide)
      · exact y
    rw [if_neg (by decide)]
    refine hwp_u (c := 8) h (by decide) (show Bd (-1) 8 (V 1) from ⟨by have := b1.1; omega, k1⟩) (fun n n9 e0 _ => ?_)
    rw [e0] at s3
    exact lk_of b0 b1 s3.1 s3.2 n9
  by_cases w2 : w = 2
  · subst w2
    have s3 : V 0 < V 1 ∧ V 1 < R 0 := by
      rcases s2 with y | y | y
      · exact absurd y (by decide)
      · exact absurd y (by decide)
      · exact y
    have k2 : (V 2).toInt ≤ 10 := chk_1 (k 2 (by decide))
    rw [if_pos (by decide)]
    have h1 : HWp (upd R (13 + 16 * (V 0).toInt.toNat + 9) (V 1)) := by
      refine hwp_u (c := 9) h (by decide) (show Bd (-1) 8 (V 1) from ⟨by have := b1.1; omega, k1⟩) (fun n n9 e0 _ => ?_)
      rw [e0] at s3
      exact lk_of b0 b1 s3.1 s3.2 n9
    have h2 := hwp_u (q := (V 0).toInt.toNat) (c := 10) (z := V 2) h1 (by decide) (show Bd 0 10 (V 2) from ⟨(b 2 (by decide)).1, k2⟩) (fun n n9 e0 y => by omega)
    rw [show 13 + 16 * (V 0).toInt.toNat + hcol 2 = 13 + 16 * (V 0).toInt.toNat + 9 from rfl, show 14 + 16 * (V 0).toInt.toNat + hcol 2 = 13 + 16 * (V 0).toInt.toNat + 10 by show 14 + 16 * (V 0).toInt.toNat + 9 = _; omega]
    exact h2
  obtain ⟨d1, d2, d3, d4, d5⟩ := col_b w (by omega) (by omega)
  have h1 : HWp (upd R (13 + 16 * (V 0).toInt.toNat + hcol w) (V 1)) := hwp_u h d2 ⟨by have := b1.1; omega, by omega⟩ (fun n n9 e0 y => by omega)
  by_cases w10 : w = 10
  · subst w10
    have k2 : (V 2).toInt ≤ 10 := chk_1 (k 2 (by decide))
    rw [if_pos (by decide)]
    have h2 := hwp_u (q := (V 0).toInt.toNat) (c := 14) (z := V 2) h1 (by decide) (show Bd 0 10 (V 2) from ⟨(b 2 (by decide)).1, k2⟩) (fun n n9 e0 y => by omega)
    rw [show 14 + 16 * (V 0).toInt.toNat + hcol 10 = 13 + 16 * (V 0).toInt.toNat + 14 by show 14 + 16 * (V 0).toInt.toNat + 13 = _; omega]
    exact h2
  · rw [if_neg (by omega)]
    exact h1
theorem ln_z {f : Nat → Int32} {L a w : Nat} {P : Int32 × Int32} {R : Nat → Int32} (hz : (lnP w f L a R P).1 = 0) : P.1 = 0 ∧ fl w (R 0) (R 1) = false ∧ ∀ j, j < cnt w → chk w j (R 0) (vv f L (tN f L a) 0) (vv f L (tN f L a) j) = true := by
  obtain ⟨z1, z2⟩ := fo_z (cnt w) 0 _ (by omega) hz
  obtain ⟨z3, z4⟩ := rmb_z (by decide) z1
  refine ⟨z4, ?_, fun j hj => z2 j (Nat.zero_le _) hj⟩
  cases h : fl w (R 0) (R 1) with
  | false => rfl
  | true => rw [h] at z3; exact absurd z3 (by decide)
theorem hr_z {f : Nat → Int32} {L : Nat} : ∀ (n a : Nat) (P : Int32 × Int32) (R : Nat → Int32), (HR f L n a P R).2.1.1 = 0 → P.1 = 0 := by
  intro n
  induction n with
  | zero => intro a P R h; exact h
  | succ n ih =>
    intro a P R h
    unfold HR at h
    split at h
    · exact h
    · split at h
      · exact h
      · split at h
        · exact h
        · exact (ln_z (ih _ _ _ h)).1
theorem hw_HR {f : Nat → Int32} {L : Nat} : ∀ (n a : Nat) (P : Int32 × Int32) (R : Nat → Int32), (HR f L n a P R).1 = none → (HR f L n a P R).2.1.1 = 0 → HWp R → HWp (HR f L n a P R).2.2 := by
  intro n
  induction n with
  | zero => intro a P R _ _ h; exact h
  | succ n ih =>
    intro a P R hn hz h
    have hH : HR f L (n + 1) a P R = if tK f L a = 0 then (none, P, R) else if hX f L a = -1 then (some (tS f L a), P, R) else
      match nb f L (cnt (hX f L a).toInt.toNat) (tN f L a) with
      | some q => (some q, P, R)
      | none => HR f L n (sk f L (cnt (hX f L a).toInt.toNat + 1) (tN f L a)) (lnP (hX f L a).toInt.toNat f L a R P) (lnR (hX f L a).toInt.toNat f L a R) := rfl
    rw [hH] at hn hz ⊢
    by_cases k0 : tK f L a = 0
    · rw [if_pos k0]; exact h
    rw [if_neg k0] at hn hz ⊢
    by_cases kx : hX f L a = -1
    · rw [if_pos kx]; exact h
    rw [if_neg kx] at hn hz ⊢
    have w15 := (hX_n kx).1
    generalize (hX f L a).toInt.toNat = w at *
    cases hN : nb f L (cnt w) (tN f L a) with
    | some q =>
      rw [hN] at hn
      exact absurd (show some q = none from hn) (Option.some_ne_none q)
    | none =>
      rw [hN] at hn hz
      obtain ⟨y1, y2, y3⟩ := ln_z (hr_z _ _ _ _ hz)
      exact ih _ _ _ hn hz (hw_row h w15 (nb_b (cnt w) (tN f L a) hN) y2 y3)
theorem hw_R0 {r : Nat → Int32} : HWp (R0 true r) := by
  refine ⟨0, 0, by decide, by decide, rfl, rfl, fun i hi => by omega, fun i hi => ?_, fun p hp => by omega⟩
  rcases (show i = 0 ∨ i = 1 ∨ i = 2 by omega) with y | y | y <;> subst y <;> exact (show Bd 0 99 (1 : Int32) from by decide)
theorem hw_fin {L : Nat} {z : Option Nat × (Int32 × Int32) × (Nat → Int32)} (h1 : z.1 = none → z.2.1.1 = 0 → HWp z.2.2) (h2 : (finH L z).1 = 0) : HWF (finH L z).2.2 := by
  obtain ⟨o, P, R⟩ := z
  cases o with
  | some q => exact absurd (show (1 : Int32) = 0 from h2) (by decide)
  | none =>
    have e : finH L (none, P, R) = if R 1 = 0 then (P.1, P.2, upd (upd (upd R 1 1) 5 0) 6 100) else if P.1 = 0 ∧ ¬ sm R = 100 then (4, iN L, R) else (P.1, P.2, R) := rfl
    rw [e] at h2 ⊢
    by_cases q : R 1 = 0
    · rw [if_pos q] at h2 ⊢
      obtain ⟨n, m, n9, m4, e0, e1, hr, hd, hp⟩ := h1 rfl h2
      have o : ∀ j, j ≠ 1 → j ≠ 5 → j ≠ 6 → upd (upd (upd R 1 1) 5 0) 6 100 j = R j := by
        intro j j1 j2 j3
        unfold upd
        rw [if_neg j3, if_neg j2, if_neg j1]
      refine ⟨⟨n, 1, n9, by decide, (o 0 (by decide) (by decide) (by decide)).trans e0, rfl, fun i hi => ?_, fun i hi => ?_, fun p hp' => ?_⟩, (show Bd 1 4 (1 : Int32) by decide), rfl⟩
      · rw [show i = 0 by omega]
        exact ⟨(show Bd 0 9 (0 : Int32) by decide), (show Bd 0 100 (100 : Int32) by decide)⟩
      · show Bd 0 99 (upd (upd (upd R 1 1) 5 0) 6 100 (2 + i))
        rw [o _ (by omega) (by omega) (by omega)]
        exact hd i hi
      · obtain ⟨p1, p2, p3⟩ := hp p hp'
        show PW n p (upd (upd (upd R 1 1) 5 0) 6 100)
        refine ⟨fun c hc => ?_, ?_, ?_⟩
        · rw [o _ (by omega) (by omega) (by omega)]; exact p1 c hc
        · rw [o _ (by omega) (by omega) (by omega)]; exact p2
        · rw [o _ (by omega) (by omega) (by omega)]; exact p3
    · rw [if_neg q] at h2 ⊢
      by_cases s : P.1 = 0 ∧ ¬ sm R = 100
      · rw [if_pos s] at h2
        exact absurd (show (4 : Int32) = 0 from h2) (by decide)
      · rw [if_neg s] at h2 ⊢
        have hw : HWp R := h1 rfl h2
        refine ⟨hw, ?_, ?_⟩
        · obtain ⟨n, m, n9, m4, e0, e1, hr, hd, hp⟩ := hw
          show Bd 1 4 (R 1)
          have m0 : m ≠ 0 := fun y => q (by rw [e1, y]; rfl)
          rw [e1, Bd, iN_ti (by omega)]
          omega
        · by_cases y : sm R = 100
          · exact y
          · exact absurd ⟨h2, y⟩ s
theorem tw_H {f r : Nat → Int32} {L : Nat} (h : (txF 0 f L r).1 = 0) : HWF (txF 0 f L r).2.2 := hw_fin (fun h1 h2 => hw_HR _ _ _ _ h1 h2 hw_R0) h
theorem hwf_c {f f' : Nat → Int32} (e : ∀ j, j < 157 → f' j = f j) (h : HWF f) : HWF f' := by
  obtain ⟨⟨n, m, n9, m4, e0, e1, hr, hd, hp⟩, h2, h3⟩ := h
  refine ⟨⟨n, m, n9, m4, (e 0 (by decide)).trans e0, (e 1 (by decide)).trans e1, fun i hi => ?_, fun i hi => ?_, fun p hp' => ?_⟩, ?_, ?_⟩
  · unfold RW
    rw [e _ (by omega), e _ (by omega)]
    exact hr i hi
  · rw [e _ (by omega)]
    exact hd i hi
  · obtain ⟨p1, p2, p3⟩ := hp p hp'
    refine ⟨fun c hc => ?_, ?_, ?_⟩
    · rw [e _ (by omega)]; exact p1 c hc
    · rw [e _ (by omega)]; exact p2
    · rw [e _ (by omega)]; exact p3
  · rw [e 1 (by decide)]; exact h2
  · unfold sm at h3 ⊢
    rw [e 1 (by decide), e 6 (by decide), e 8 (by decide), e 10 (by decide), e 12 (by decide)]
    exact h3
end
section
/-! hills told are in order, in every place; kept by every state call -/
/-- in place s -/
def WFP (v : MM) (s : Nat) : Prop := ∀ h, h < 2 → h < (v 167 (2 * s)).toInt.toNat → HWF (fun o => v 168 (314 * s + (157 * h + o)))
def WFA (v : MM) : Prop := ∀ s, s < 4 → WFP v s
theorem wfa_c {v v2 : MM} (e7 : v2 167 = v 167) (e8 : v2 168 = v 168) (h : WFA v) : WFA v2 := by
  unfold WFA WFP
  rw [e7, e8]
  exact h
theorem wfp_s {y v : MM} {s r : Nat} (h : SCP y v s r) (w : WFP v r) : WFP y s := by
  obtain ⟨-, -, -, -, e7, -, e8, -⟩ := h
  intro k hk hl
  rw [e7] at hl
  refine hwf_c (fun j hj => ?_) (w k hk hl)
  exact e8 (157 * k + j) (by omega)
theorem W4_text {v v2 : MM} {g' g2 : GG} {L : Nat} {sort at0 w : Int32} (hL' : v 164 0 = iN L) (hb : L ≤ 600) (hby : ∀ j, j < L → Bd (-128) 127 (v 163 j)) (b5 : Bd 0 2 (v 167 0)) (b7 : Bd 0 3 (v 167 1)) (ht : w = -2 ∨ RTF sort v g') (e2 : (w, v2, g2) = Fx_M_textRX sort at0 v g') (h : WFA v) : WFA v2 := by
  obtain ⟨h5, v5, l5⟩ := iN_ex (hi := 2) b5
  obtain ⟨h7, v7, l7⟩ := iN_ex (hi := 3) b7
  have refused : Fx_M_textRX sort at0 v g' = (-2, T9 v, g') → WFA v2 := by
    intro q
    have z4 : v2 = T9 v := congrArg (fun p => p.2.1) (e2.trans q)
    rw [z4]
    exact wfa_c (t9_c ⟨by decide, by decide, by decide, by decide⟩) (t9_c ⟨by decide, by decide, by decide, by decide⟩) h
  have faulty : (∃ x2 g3, Fx_M_textRX sort at0 v g' = (-1, x2, g3) ∧ x2 167 = v 167 ∧ x2 168 = v 168) → WFA v2 := by
    intro q
    obtain ⟨x2, g3, q2, w7, w8⟩ := q
    have z4 : v2 = x2 := congrArg (fun p => p.2.1) (e2.trans q2)
    rw [z4]
    exact wfa_c w7 w8 h
  by_cases s0 : sort = 0
  · subst s0
    obtain ⟨F, hF⟩ : ∃ F, txF 0 (v 163) L (v 170) = F := ⟨_, rfl⟩
    have nq : nuT 0 at0 (v 167 0) (v 167 1) = if at0 = -1 then (if iN 2 ≤ iN h5 then (-1 : Int32) else iN h5) else if at0 < 0 then -1 else if iN h5 ≤ at0 then -1 else at0 := by rw [← v5]; rfl
    rcases nu_cl (at0 := at0) (show 2 ≤ 3 by omega) l5 with ⟨q1, q2⟩ | ⟨q1, n, q2, q3⟩
    · exact refused (txn_0 v5 l5 q2)
    rw [← nq] at q1 q2
    have hn : n < 2 := by omega
    have tm := tm_0 (at0 := at0) (u := v) (g := g') hb hL' hby b5 hF
    have hw : ¬ w = -2 := by
      intro y
      by_cases q : F.1 = 0
      · obtain ⟨x2, g3, y2, -⟩ := tm.2.1 q1 q
        have y3 : w = nuT 0 at0 (v 167 0) (v 167 1) := congrArg Prod.fst (e2.trans y2)
        rw [y, q2] at y3
        have y4 := congrArg Int32.toInt y3
        rw [iN_ti (by omega)] at y4
        have y5 : (-2 : Int32).toInt = -2 := rfl
        omega
      · obtain ⟨x2, g3, y2, -⟩ := tm.2.2 q1 q
        have y3 : w = -1 := congrArg Prod.fst (e2.trans y2)
        rw [y] at y3
        exact absurd y3 (by decide)
    have hr := (ht.resolve_left hw).1 rfl
    obtain ⟨m1, m2⟩ := tx_0 (at0 := at0) (u := v) (g := g') hb hL' hby v5 l5 q3 hF hr
    by_cases q : F.1 = 0
    rotate_left
    · obtain ⟨x2, g3, y1, -, -, w7, w8, -⟩ := m2 q
      exact faulty ⟨x2, g3, y1, w7, w8⟩
    obtain ⟨x2, g3, y1, w5, w6, w7, w8, w9⟩ := m1 q
    have z6 : v2 = x2 := congrArg (fun p => p.2.1) (e2.trans y1)
    rw [← z6] at w7 w9
    have hF2 : HWF F.2.2 := by
      rw [← hF] at q ⊢
      exact tw_H q
    have cv : v2 167 0 = iN (if at0 = -1 then h5 + 1 else h5) := by rw [w7]; exact if_pos rfl
    have c2 : ∀ j, j ≠ 0 → v2 167 j = v 167 j := fun j hj => by rw [w7]; exact if_neg hj
    intro s hs k hk hl
    by_cases y : s = 0
    · subst y
      by_cases kn : k = n
      · subst kn
        refine hwf_c (fun j hj => ?_) hF2
        show v2 168 (314 * 0 + (157 * k + j)) = _
        rw [w9, if_pos (by omega)]
        exact congrArg F.2.2 (by omega)
      · have hl2 : k < (v 167 (2 * 0)).toInt.toNat := by
          rw [show v2 167 (2 * 0) = v2 167 0 from rfl, cv, iN_ti (by split <;> omega)] at hl
          rw [show v 167 (2 * 0) = v 167 0 from rfl, v5, iN_ti (by omega)]
          rcases q3 with ⟨a1, a2, a3⟩ | ⟨a1, a2, a3⟩
          · rw [if_pos a1] at hl
            omega
          · rw [if_neg a1] at hl
            omega
        refine hwf_c (fun j hj => ?_) (h 0 (by decide) k hk hl2)
        show v2 168 (314 * 0 + (157 * k + j)) = v 168 (314 * 0 + (157 * k + j))
        rw [w9, if_neg (by omega)]
    · rw [c2 _ (by omega)] at hl
      refine hwf_c (fun j hj => ?_) (h s hs k hk hl)
      show v2 168 (314 * s + (157 * k + j)) = v 168 (314 * s + (157 * k + j))
      rw [w9, if_neg (by omega)]
  · by_cases s1 : sort = 1
    · subst s1
      obtain ⟨F, hF⟩ : ∃ F, txF 1 (v 163) L (v 170) = F := ⟨_, rfl⟩
      have nq : nuT 1 at0 (v 167 0) (v 167 1) = if at0 = -1 then (if iN 3 ≤ iN h7 then (-1 : Int32) else iN h7) else if at0 < 0 then -1 else if iN h7 ≤ at0 then -1 else at0 := by rw [← v7]; rfl
      rcases nu_cl (at0 := at0) (show 3 ≤ 3 by omega) l7 with ⟨q1, q2⟩ | ⟨q1, n, q2, q3⟩
      · exact refused (txn_1 v7 l7 q2)
      rw [← nq] at q1 q2
      have hn : n < 3 := by omega
      have tm := tm_1 (at0 := at0) (u := v) (g := g') hb hL' hby b7 hF
      have hw : ¬ w = -2 := by
        intro y
        by_cases q : F.1 = 0
        · obtain ⟨x2, g3, y2, -⟩ := tm.2.1 q1 q
          have y3 : w = nuT 1 at0 (v 167 0) (v 167 1) := congrArg Prod.fst (e2.trans y2)
          rw [y, q2] at y3
          have y4 := congrArg Int32.toInt y3
          rw [iN_ti (by omega)] at y4
          have y5 : (-2 : Int32).toInt = -2 := rfl
          omega
        · obtain ⟨x2, g3, y2, -⟩ := tm.2.2 q1 q
          have y3 : w = -1 := congrArg Prod.fst (e2.trans y2)
          rw [y] at y3
          exact absurd y3 (by decide)
      have hr := (ht.resolve_left hw).2 rfl
      obtain ⟨m1, m2⟩ := tx_1 (at0 := at0) (u := v) (g := g') hb hL' hby v7 l7 q3 hF hr
      by_cases q : F.1 = 0
      rotate_left
      · obtain ⟨x2, g3, y1, -, -, w7, w8, -⟩ := m2 q
        exact faulty ⟨x2, g3, y1, w7, w8⟩
      obtain ⟨x2, g3, y1, w5, w6, w7, w8, w9⟩ := m1 q
      have z6 : v2 = x2 := congrArg (fun p => p.2.1) (e2.trans y1)
      rw [← z6] at w7 w8
      intro s hs k hk hl
      rw [w7, show upd (v 167) 1 (iN (if at0 = -1 then h7 + 1 else h7)) (2 * s) = v 167 (2 * s) from if_neg (by omega)] at hl
      have := h s hs k hk hl
      rw [← w8] at this
      exact this
    · exact refused (tx_2 s0 s1)
/-- both objects: what is told is the same, hills are in order, the plan NONE has no works -/
def RLY (u v : MM) : Prop := RLX u v ∧ WFA v ∧ u 49 0 = 0
theorem R4_feed {u v u1 v2 : MM} {g g' : GG} {a b c d e z w : Int32} (h : RLY u v) (bl : Bd 0 600 (u 1 1)) (e1 : (z, u1) = Fx_P_feedRX a b c d e u g) (f1 : ∀ c, c ≠ 1 → c ≠ 2 → u1 c = u c) (e2 : (w, v2) = Fx_M_feedRX a b c d e v g') (f2 : ∀ c, c ≠ 162 → c ≠ 163 → c ≠ 164 → v2 c = v c) (f4 : ∀ j, j ≠ 0 → v2 164 j = v 164 j) : z = w ∧ RLY u1 v2 := by
  obtain ⟨k1, k2⟩ := R3_feed h.1 bl e1 f1 e2 f2 f4
  exact ⟨k1, k2, wfa_c (f2 167 (by decide) (by decide) (by decide)) (f2 168 (by decide) (by decide) (by decide)) h.2.1, by rw [f1 49 (by decide) (by decide)]; exact h.2.2⟩
theorem R4_end {u v u1 v2 : MM} {g g' : GG} {n z w : Int32} (h : RLY u v) (e1 : (z, u1) = Fx_P_endRX n u g) (f1 : ∀ c, c ≠ 1 → u1 c = u c) (fj : ∀ j, j ≠ 1 → u1 1 j = u 1 j) (e2 : (w, v2) = Fx_M_endRX n v g') (f2 : ∀ c, c ≠ 162 → c ≠ 164 → v2 c = v c) (f4 : ∀ j, j ≠ 0 → v2 164 j = v 164 j) : z = w ∧ RLY u1 v2 := by
  obtain ⟨k1, k2⟩ := R3_end h.1 e1 f1 fj e2 f2 f4
  exact ⟨k1, k2, wfa_c (f2 167 (by decide) (by decide)) (f2 168 (by decide) (by decide)) h.2.1, by rw [f1 49 (by decide)]; exact h.2.2⟩
theorem R4_text {u v u1 v2 : MM} {g g' g2 : GG} {sort at0 z w : Int32} (h : RLY u v) (bl : Bd 0 600 (u 1 1)) (b5 : Bd 0 2 (u 1 5)) (b7 : Bd 0 3 (u 1 7)) (bf : BF u 2) (hd : z = -2 ∨ RDF sort u g) (ht : w = -2 ∨ RTF sort v g') (e1 : (z, u1) = Fx_P_textRX sort at0 u g) (f49 : u1 49 = u 49) (e2 : (w, v2, g2) = Fx_M_textRX sort at0 v g') (f3 : v2 163 = v 163) (f4 : ∀ j, j ≠ 0 → v2 164 j = v 164 j) (f4z : v2 164 0 = 0) (f5 : ∀ j, j ≠ 0 → v2 165 j = v 165 j) (f6 : ∀ j, j ≠ 0 → v2 166 j = v 166 j) (f81 : v2 181 = v 181) : z = w ∧ RLY u1 v2 := by
  obtain ⟨k1, k2⟩ := R3_text h.1 bl b5 b7 bf hd ht e1 e2 f3 f4 f4z f5 f6 f81
  obtain ⟨t0, t1, t2, t3, t5, t7, th, tw⟩ := h.1.1
  obtain ⟨L, hL, hb⟩ := iN_ex (hi := 600) bl
  have hby : ∀ j, j < L → Bd (-128) 127 (v 163 j) := fun j hj => by
    rw [← show u 2 j = v 163 j from (t0 j (by omega)).trans (congrArg (v 163) (by omega))]
    exact fb_bd (bf j)
  refine ⟨k1, k2, W4_text (t1.symm.trans hL) hb hby ?_ ?_ ht e2 h.2.1, by rw [f49]; exact h.2.2⟩
  · rw [show v 167 0 = u 1 5 from t5.symm]; exact b5
  · rw [show v 167 1 = u 1 7 from t7.symm]; exact b7
theorem R4_image {u v u1 v2 : MM} {g g' : GG} {k : Int32} {z w : Bool} (h : RLY u v) (bf : BF u 2) (e1 : (z, u1) = Fx_P_imageRX k u g) (f49 : u1 49 = u 49) (e2 : (w, v2) = Fx_M_imageRX k v g') : z = w ∧ RLY u1 v2 := by
  obtain ⟨k1, k2⟩ := R3_image h.1 bf e1 e2
  refine ⟨k1, k2, ?_, by rw [f49]; exact h.2.2⟩
  have hX : Fx_M_imageRX k v g' = if (decide (0 ≤ k) && decide (k ≤ 2)) = true then (true, ms (Fx_M_copyRX 0 (k + 1) (ms v 162 0 0) g') 181 k.toNatClampNeg (vp_nar .boolean 1)) else (false, ms v 162 0 0) := by
    unfold Fx_M_imageRX
    simp only [xq_lt, in_X]
  rw [hX] at e2
  have v1c : ∀ c, 163 ≤ c → (ms v 162 0 0) c = v c := fun c hc => ms_c1 (by omega)
  have h' : WFA (ms v 162 0 0) := wfa_c (v1c 167 (by decide)) (v1c 168 (by decide)) h.2.1
  by_cases q : 0 ≤ k ∧ k ≤ 2
  · obtain ⟨n, hn, n2⟩ := k2_ex q
    rw [decide_eq_true q.1, decide_eq_true q.2, if_pos (show (true && true) = true from rfl), hn, iN_s, iN_cl (by omega)] at e2
    have z4 : v2 = ms (Fx_M_copyRX (iN 0) (iN (n + 1)) (ms v 162 0 0) g') 181 n (vp_nar .boolean 1) := congrArg Prod.snd e2
    obtain ⟨s1, s2, s3⟩ := cpR_X (a := 0) (b := n + 1) (v := ms v 162 0 0) (g := g') (by omega) (by omega) (by omega) (fun j hj => by rw [v1c 163 (by omega), ← h.1.1.1 j hj]; exact bf j)
    have hc : WFA (Fx_M_copyRX (iN 0) (iN (n + 1)) (ms v 162 0 0) g') := by
      intro s hs
      by_cases y : s = n + 1
      · rw [y]; exact wfp_s s1 (h' 0 (by decide))
      · exact wfp_s (s2 s y) (h' s hs)
    rw [z4]
    exact wfa_c (ms_c1 (by decide)) (ms_c1 (by decide)) hc
  · rw [if_neg (k2_no q)] at e2
    have z4 : v2 = ms v 162 0 0 := congrArg Prod.snd e2
    rw [z4]
    exact h'
theorem R4_again {u v u1 v2 : MM} {g g' : GG} {k : Int32} {z w : Bool} (h : RLY u v) (bf : ∀ n, n ≤ 2 → BF u (84 + 26 * n + 1)) (e1 : (z, u1) = Fx_P_againRX k u g) (f49 : u1 49 = u 49) (e2 : (w, v2) = Fx_M_againRX k v g') : z = w ∧ RLY u1 v2 := by
  obtain ⟨k1, k2⟩ := R3_again h.1 bf e1 e2
  refine ⟨k1, k2, ?_, by rw [f49]; exact h.2.2⟩
  have hX : Fx_M_againRX k v g' = if (decide (0 ≤ k) && decide (k ≤ 2)) = true then (if v 181 k.toNatClampNeg = 0 then (false, ms v 162 0 0) else (true, Fx_M_copyRX (k + 1) 0 (ms v 162 0 0) g')) else (false, ms v 162 0 0) := by
    unfold Fx_M_againRX
    simp only [xq_lt, in_X]
    rw [show (ms v 162 0 0) 181 = v 181 from ms_c1 (by decide)]
  rw [hX] at e2
  have v1c : ∀ c, 163 ≤ c → (ms v 162 0 0) c = v c := fun c hc => ms_c1 (by omega)
  have h' : WFA (ms v 162 0 0) := wfa_c (v1c 167 (by decide)) (v1c 168 (by decide)) h.2.1
  have stay : (w, v2) = (false, ms v 162 0 0) → WFA v2 := by
    intro q2
    have z4 : v2 = ms v 162 0 0 := congrArg Prod.snd q2
    rw [z4]
    exact h'
  by_cases q : 0 ≤ k ∧ k ≤ 2
  · obtain ⟨n, hn, n2⟩ := k2_ex q
    rw [decide_eq_true q.1, decide_eq_true q.2, if_pos (show (true && true) = true from rfl), hn, iN_s, iN_cl (by omega), ← h.1.2.1] at e2
    by_cases y : u 28 n = 0
    · rw [if_pos y] at e2
      exact stay e2
    · rw [if_neg y] at e2
      have z4 : v2 = Fx_M_copyRX (iN (n + 1)) (iN 0) (ms v 162 0 0) g' := (Prod.mk.inj e2).2
      have hT := h.1.2.2 n (by omega) y
      obtain ⟨s1, s2, s3⟩ := cpR_X (a := n + 1) (b := 0) (v := ms v 162 0 0) (g := g') (by omega) (by omega) (by omega) (fun j hj => by rw [v1c 163 (by omega), ← hT.1 j hj]; exact bf n n2 j)
      rw [z4]
      intro s hs
      by_cases y : s = 0
      · rw [y]; exact wfp_s s1 (h' (n + 1) (by omega))
      · exact wfp_s (s2 s y) (h' s hs)
  · rw [if_neg (k2_no q)] at e2
    exact stay e2
theorem rly_v {u v v2 : MM} (hv : ∀ c, (163 ≤ c ∧ c ≤ 169) ∨ c = 181 → v2 c = v c) (h : RLY u v) : RLY u v2 := ⟨rlx_v hv h.1, wfa_c (hv 167 (by decide)) (hv 168 (by decide)) h.2.1, h.2.2⟩
theorem rly_u {u v u2 : MM} (hu : ∀ c, (1 ≤ c ∧ c ≤ 28) ∨ c = 49 ∨ (84 ≤ c ∧ c ≤ 161) → u2 c = u c) (h : RLY u v) : RLY u2 v := ⟨rlx_u (fun c hc => hu c (by omega)) h.1, h.2.1, by rw [hu 49 (by decide)]; exact h.2.2⟩
theorem rly_2 {u u2 : MM} (hu : ∀ c, (1 ≤ c ∧ c ≤ 28) ∨ c = 49 ∨ (84 ≤ c ∧ c ≤ 161) ∨ (163 ≤ c ∧ c ≤ 169) ∨ c = 181 → u2 c = u c) (h : RLY u u) : RLY u2 u2 := rly_v (fun c hc => hu c (by omega)) (rly_u (fun c hc => hu c (by omega)) h)
theorem rn_yu {c a : Nat} (h : (1 ≤ c ∧ c ≤ 28) ∨ c = 49 ∨ (84 ≤ c ∧ c ≤ 161)) (r : (a < 1 ∨ 28 < a) ∧ a ≠ 49 ∧ (a < 84 ∨ 161 < a)) : c ≠ a := by omega
theorem rn_y2 {c a : Nat} (h : (1 ≤ c ∧ c ≤ 28) ∨ c = 49 ∨ (84 ≤ c ∧ c ≤ 161) ∨ (163 ≤ c ∧ c ≤ 169) ∨ c = 181) (r : (a < 1 ∨ 28 < a) ∧ a ≠ 49 ∧ (a < 84 ∨ 161 < a) ∧ (a < 163 ∨ 169 < a) ∧ a ≠ 181) : c ≠ a := by omega
theorem nin_yu {c : Nat} {L : List (Nat × Nat)} (h : (1 ≤ c ∧ c ≤ 28) ∨ c = 49 ∨ (84 ≤ c ∧ c ≤ 161)) (m : ((apart 1 28 L && apart 84 161 L) && apart 49 49 L) = true) : nin c L = true := by
  obtain ⟨m1, m2⟩ := (Bool.and_eq_true _ _).mp m
  rcases h with h | h | h
  · exact nin_u (Or.inl h) m1
  · exact nin_rg (lo := 49) (hi := 49) ⟨by omega, by omega⟩ m2
  · exact nin_u (Or.inr h) m1
theorem nin_y2 {c : Nat} {L : List (Nat × Nat)} (h : (1 ≤ c ∧ c ≤ 28) ∨ c = 49 ∨ (84 ≤ c ∧ c ≤ 161) ∨ (163 ≤ c ∧ c ≤ 169) ∨ c = 181) (m : (((apart 1 28 L && apart 84 161 L) && apart 49 49 L) && (apart 163 169 L && apart 181 181 L)) = true) : nin c L = true := by
  obtain ⟨m1, m2⟩ := (Bool.and_eq_true _ _).mp m
  rcases h with h | h | h | h
  · exact nin_yu (Or.inl h) m1
  · exact nin_yu (Or.inr (Or.inl h)) m1
  · exact nin_yu (Or.inr (Or.inr h)) m1
  · exact nin_v h m2
end
