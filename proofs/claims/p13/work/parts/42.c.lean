/-! text: what the reference leaves alone -/
theorem iN_nm {n : Nat} (h : n ≤ 100000) : ¬ iN n = -1 := by
  intro q
  have := congrArg Int32.toInt q
  rw [iN_ti h] at this
  have e : (-1 : Int32).toInt = -1 := rfl
  omega
theorem iN_ex {v : Int32} {hi : Nat} (b : Bd 0 hi v) : ∃ n, v = iN n ∧ n ≤ hi := ⟨_, iN_of b (Int.le_refl _), by have := b.1; have := b.2; omega⟩
theorem tx_2 {sort at0 : Int32} {u : MM} {g : GG} (h0 : ¬ sort = 0) (h1 : ¬ sort = 1) : Fx_M_textRX sort at0 u g = (-2, T9 u, g) := by
  have hn : ¬ (decide (0 ≤ sort) && decide (sort ≤ 1)) = true := by
    intro z
    obtain ⟨z1, z2⟩ := (Bool.and_eq_true _ _).mp z
    have a1 := Int32.le_iff_toInt_le.mp (of_decide_eq_true z1)
    have a2 := Int32.le_iff_toInt_le.mp (of_decide_eq_true z2)
    have e0 : (0 : Int32).toInt = 0 := rfl
    have e1 : (1 : Int32).toInt = 1 := rfl
    have : sort.toInt = 0 ∨ sort.toInt = 1 := by omega
    rcases this with z | z
    · exact h0 (Int32.toInt_inj.mp z)
    · exact h1 (Int32.toInt_inj.mp z)
  unfold Fx_M_textRX
  rw [if_neg h0, if_neg h1]
  simp only [xq_lt, in_X]
  rw [if_neg hn]
  rfl
/-- which number: none, or the n-th -/
theorem nu_cl {m h : Nat} {at0 : Int32} (hm : m ≤ 3) (hh : h ≤ m) : ((if at0 = -1 then (if iN m ≤ iN h then (-1 : Int32) else iN h) else if at0 < 0 then -1 else if iN h ≤ at0 then -1 else at0) = -1 ∧ ((at0 = -1 ∧ h = m) ∨ (¬ at0 = -1 ∧ (at0 < 0 ∨ iN h ≤ at0)))) ∨ (¬ (if at0 = -1 then (if iN m ≤ iN h then (-1 : Int32) else iN h) else if at0 < 0 then -1 else if iN h ≤ at0 then -1 else at0) = -1 ∧ ∃ n, (if at0 = -1 then (if iN m ≤ iN h then (-1 : Int32) else iN h) else if at0 < 0 then -1 else if iN h ≤ at0 then -1 else at0) = iN n ∧ ((at0 = -1 ∧ n = h ∧ h < m) ∨ (¬ at0 = -1 ∧ n < h ∧ at0 = iN n))) := by
  by_cases a : at0 = -1
  · rw [if_pos a]
    by_cases b : m ≤ h
    · rw [if_pos ((iN_le (by omega) (by omega)).mpr b)]
      exact Or.inl ⟨rfl, Or.inl ⟨a, by omega⟩⟩
    · rw [if_neg (fun q => b ((iN_le (by omega) (by omega)).mp q))]
      exact Or.inr ⟨iN_nm (by omega), h, rfl, Or.inl ⟨a, rfl, by omega⟩⟩
  · rw [if_neg a]
    by_cases b : at0 < 0
    · rw [if_pos b]
      exact Or.inl ⟨rfl, Or.inr ⟨a, Or.inl b⟩⟩
    · rw [if_neg b]
      by_cases c : iN h ≤ at0
      · rw [if_pos c]
        exact Or.inl ⟨rfl, Or.inr ⟨a, Or.inr c⟩⟩
      · rw [if_neg c]
        have b1 := Int32.le_iff_toInt_le.mp (i_nlt b)
        have c1 := Int32.lt_iff_toInt_lt.mp (i_nle c)
        have e0 : (0 : Int32).toInt = 0 := rfl
        rw [iN_ti (by omega)] at c1
        obtain ⟨n, hn1, hn2⟩ := iN_ex (v := at0) (hi := 3) ⟨by omega, by omega⟩
        have hn3 : at0.toInt = n := by rw [hn1, iN_ti (by omega)]
        exact Or.inr ⟨a, n, hn1, Or.inr ⟨a, by omega, hn1⟩⟩
theorem cw_0 {n : Nat} {g : GG} (hn : n ≤ 3) : ∀ (m i : Nat) (w : MM), 157 - i < m → i ≤ 157 → ∃ x, Fx_M_textRX_L138 (iN n) g m (iN i) w = (iN n, x, g) ∧ (∀ b, b ≠ 168 → x b = w b) ∧ ∀ j, x 168 j = if 157 * n + i ≤ j ∧ j < 157 * n + 157 then w 170 (j - 157 * n) else w 168 j := by
  intro m
  induction m with
  | zero => intro i w h; omega
  | succ m ih =>
    intro i w h hi
    rw [Fx_M_textRX_L138_s]
    by_cases c : 157 ≤ i
    · rw [if_pos (show (157 : Int32) ≤ iN i from (iN_le (a := 157) (by omega) (by omega)).mpr c)]
      refine ⟨w, rfl, fun _ _ => rfl, fun j => ?_⟩
      rw [if_neg (by omega)]
    · rw [if_neg (show ¬ (157 : Int32) ≤ iN i from fun q => c ((iN_le (a := 157) (by omega) (by omega)).mp q)), iN_s]
      have q1 : (((157 : Int32) * iN n) + iN i).toNatClampNeg = 157 * n + i := fr_ix (N := 157) hn (by omega) (by omega)
      have q2 : (iN i).toNatClampNeg = i := iN_cl (by omega)
      simp only [xq_lt, q1, q2]
      obtain ⟨x, x1, x2, x3⟩ := ih (i + 1) (ms w 168 (157 * n + i) (w 170 i)) (by omega) (by omega)
      refine ⟨x, x1, fun b hb => (x2 b hb).trans (ms_c1 hb), fun j => ?_⟩
      rw [x3 j, ms_c1 (by decide)]
      by_cases z : j = 157 * n + i
      · rw [if_neg (by omega), z, ms_e1, if_pos (by omega), Nat.add_sub_cancel_left]
      · rw [ms_i1 z]
        by_cases z2 : 157 * n + i ≤ j ∧ j < 157 * n + 157
        · rw [if_pos (by omega), if_pos z2]
        · rw [if_neg (by omega), if_neg z2]
theorem hX_0 {at0 : Int32} {u : MM} {g : GG} : Fx_M_textRX 0 at0 u g = if at0 = -1 then (if u 167 0 = 2 then (-2, T9 u, g) else (xq_c3 (Fx_M_readText0X (T9 u) g) fun t z g3 => if t = true then Fx_M_textRX_L138b u g3 158 (iN 0) (ms z 167 0 ((u 167 0) + 1)) else (-1, z, g3))) else (if Fx_M_inEX at0 0 ((u 167 0) - 1) (T9 u) g = true then (xq_c3 (Fx_M_readText0X (T9 u) g) fun t z g3 => if t = true then Fx_M_textRX_L138 at0 g3 158 (iN 0) (ms z 167 0 ((u 167 0) + 0)) else (-1, z, g3)) else (-2, T9 u, g)) := by
  by_cases h : at0 = -1
  · subst h
    unfold Fx_M_textRX
    simp (config := { decide := true }) only [xq_lt, if_false, if_true, in_X]
    rfl
  · unfold Fx_M_textRX
    simp (config := { decide := true }) only [xq_lt, h, if_false, if_true, in_X]
    rfl
theorem txn_0 {at0 : Int32} {u : MM} {g : GG} {h : Nat} (h0 : u 167 0 = iN h) (hh : h ≤ 2) (hn : (at0 = -1 ∧ h = 2) ∨ (¬ at0 = -1 ∧ (at0 < 0 ∨ iN h ≤ at0))) : Fx_M_textRX 0 at0 u g = (-2, T9 u, g) := by
  rw [hX_0]
  rcases hn with ⟨a1, a2⟩ | ⟨a1, a2⟩
  · rw [if_pos a1, if_pos (show u 167 0 = 2 by rw [h0, a2]; rfl)]
  · rw [if_neg a1, in_X, if_neg]
    intro z
    obtain ⟨z1, z2⟩ := (Bool.and_eq_true _ _).mp z
    have z3 := of_decide_eq_true z1
    have z4 := of_decide_eq_true z2
    rcases a2 with q | q
    · exact lt_le_no q z3
    · have q1 := Int32.le_iff_toInt_le.mp q
      have q2 := Int32.le_iff_toInt_le.mp z4
      have e1 : (1 : Int32).toInt = 1 := rfl
      rw [h0, ti_sub (by rw [iN_ti (by omega)]; omega) (by rw [iN_ti (by omega)]; omega), iN_ti (by omega)] at q2
      rw [iN_ti (by omega)] at q1
      omega
theorem tx_0 {at0 : Int32} {u : MM} {g : GG} {L n h : Nat} {F : Int32 × Int32 × (Nat → Int32)} (hb : L ≤ 600) (hL : u 164 0 = iN L) (hf : ∀ j, j < L → Bd (-128) 127 (u 163 j)) (h0 : u 167 0 = iN h) (hh : h ≤ 2) (hn : (at0 = -1 ∧ n = h ∧ h < 2) ∨ (¬ at0 = -1 ∧ n < h ∧ at0 = iN n)) (hF : txF 0 (u 163) L (u 170) = F) (hr : ∀ c, c ≠ 162 → c ≠ 165 → c ≠ 166 → c ≠ 170 → c ≠ 171 → (Fx_M_readText0X (T9 u) g).2.1 c = T9 u c) :
    (F.1 = 0 → ∃ x g2, Fx_M_textRX 0 at0 u g = (iN n, x, g2) ∧ x 165 0 = F.1 ∧ x 166 0 = F.2.1 ∧ x 167 = upd (u 167) 0 (iN (if at0 = -1 then h + 1 else h)) ∧ x 169 = u 169 ∧ ∀ j, x 168 j = if 157 * n ≤ j ∧ j < 157 * n + 157 then F.2.2 (j - 157 * n) else u 168 j) ∧
    (¬ F.1 = 0 → ∃ x g2, Fx_M_textRX 0 at0 u g = (-1, x, g2) ∧ x 165 0 = F.1 ∧ x 166 0 = F.2.1 ∧ x 167 = u 167 ∧ x 168 = u 168 ∧ x 169 = u 169) := by
  have hX := hX_0 (at0 := at0) (u := u) (g := g)
  obtain ⟨y, hy⟩ : ∃ y, y = T9 u := ⟨_, rfl⟩
  have y9 : y 162 9 = iN L := by rw [hy]; exact hL
  have y163 : y 163 = u 163 := by rw [hy]; rfl
  have y170 : y 170 = u 170 := by rw [hy]; rfl
  have y167 : y 167 = u 167 := by rw [hy]; rfl
  have y168 : y 168 = u 168 := by rw [hy]; rfl
  have y169 : y 169 = u 169 := by rw [hy]; rfl
  have hF2 : txF 0 (y 163) L (y 170) = F := by rw [y163, y170]; exact hF
  obtain ⟨x, g2, e, x1, x2, x3⟩ := t0_X (v := y) (g := g) hb y9 (by rw [y163]; exact hf) hF2
  rw [← hy] at hr hX
  rw [e] at hr hX
  have xc : ∀ c, c ≠ 162 → c ≠ 165 → c ≠ 166 → c ≠ 170 → c ≠ 171 → x c = y c := hr
  have x167 : x 167 = u 167 := (xc 167 (by decide) (by decide) (by decide) (by decide) (by decide)).trans y167
  have x168 : x 168 = u 168 := (xc 168 (by decide) (by decide) (by decide) (by decide) (by decide)).trans y168
  have x169 : x 169 = u 169 := (xc 169 (by decide) (by decide) (by decide) (by decide) (by decide)).trans y169
  rw [hX]
  rcases hn with ⟨a1, a2, a3⟩ | ⟨a1, a2, a3⟩
  · rw [if_pos a1, if_neg (show ¬ u 167 0 = 2 by rw [h0]; intro q; have := (iN_eq (b := 2) (by omega) (by omega)).mp q; omega), c3_mk]
    refine ⟨fun q => ?_, fun q => ?_⟩
    · have eb : ∀ w : MM, Fx_M_textRX_L138b u g2 158 (iN 0) w = Fx_M_textRX_L138 (u 167 0) g2 158 (iN 0) w := fun w => rfl
      rw [if_pos (decide_eq_true q), eb, h0, iN_s, if_pos a1, a2]
      obtain ⟨z, z1, z2, z3⟩ := cw_0 (n := h) (by omega) (g := g2) 158 0 (ms x 167 0 (iN (h + 1))) (by omega) (by omega)
      refine ⟨z, g2, z1, ?_, ?_, ?_, ?_, fun j => ?_⟩
      · rw [z2 165 (by decide), ms_c1 (by decide)]; exact x1
      · rw [z2 166 (by decide), ms_c1 (by decide)]; exact x2
      · rw [z2 167 (by decide), ms_a1, x167]
      · rw [z2 169 (by decide), ms_c1 (by decide), x169]
      · rw [z3 j, ms_c1 (by decide), ms_c1 (by decide), x3 q, Nat.add_zero, x168]
    · rw [if_neg (fun z => q (of_decide_eq_true z))]
      exact ⟨x, g2, rfl, x1, x2, x167, x168, x169⟩
  · have p1 : (0 : Int32) ≤ at0 := by rw [a3]; exact (iN_le (a := 0) (by omega) (by omega)).mpr (Nat.zero_le _)
    have p2 : at0 ≤ u 167 0 - 1 := by
      rw [a3, h0, show (1 : Int32) = iN 1 from rfl, iN_sub (by omega)]
      exact (iN_le (by omega) (by omega)).mpr (by omega)
    have p3 : u 167 0 + 0 = iN h := by rw [h0]; exact Int32.add_zero _
    rw [if_neg a1, in_X, decide_eq_true p1, decide_eq_true p2, if_pos (show (true && true) = true from rfl), c3_mk]
    refine ⟨fun q => ?_, fun q => ?_⟩
    · rw [if_pos (decide_eq_true q), p3, if_neg a1, a3]
      obtain ⟨z, z1, z2, z3⟩ := cw_0 (n := n) (by omega) (g := g2) 158 0 (ms x 167 0 (iN h)) (by omega) (by omega)
      refine ⟨z, g2, z1, ?_, ?_, ?_, ?_, fun j => ?_⟩
      · rw [z2 165 (by decide), ms_c1 (by decide)]; exact x1
      · rw [z2 166 (by decide), ms_c1 (by decide)]; exact x2
      · rw [z2 167 (by decide), ms_a1, x167]
      · rw [z2 169 (by decide), ms_c1 (by decide), x169]
      · rw [z3 j, ms_c1 (by decide), ms_c1 (by decide), x3 q, Nat.add_zero, x168]
    · rw [if_neg (fun z => q (of_decide_eq_true z))]
      exact ⟨x, g2, rfl, x1, x2, x167, x168, x169⟩
theorem cw_1 {n : Nat} {g : GG} (hn : n ≤ 3) : ∀ (m i : Nat) (w : MM), 37 - i < m → i ≤ 37 → ∃ x, Fx_M_textRX_L179 (iN n) g m (iN i) w = (iN n, x, g) ∧ (∀ b, b ≠ 169 → x b = w b) ∧ ∀ j, x 169 j = if 37 * n + i ≤ j ∧ j < 37 * n + 37 then w 170 (j - 37 * n) else w 169 j := by
  intro m
  induction m with
  | zero => intro i w h; omega
  | succ m ih =>
    intro i w h hi
    rw [Fx_M_textRX_L179_s]
    by_cases c : 37 ≤ i
    · rw [if_pos (show (37 : Int32) ≤ iN i from (iN_le (a := 37) (by omega) (by omega)).mpr c)]
      refine ⟨w, rfl, fun _ _ => rfl, fun j => ?_⟩
      rw [if_neg (by omega)]
    · rw [if_neg (show ¬ (37 : Int32) ≤ iN i from fun q => c ((iN_le (a := 37) (by omega) (by omega)).mp q)), iN_s]
      have q1 : (((37 : Int32) * iN n) + iN i).toNatClampNeg = 37 * n + i := fr_ix (N := 37) hn (by omega) (by omega)
      have q2 : (iN i).toNatClampNeg = i := iN_cl (by omega)
      simp only [xq_lt, q1, q2]
      obtain ⟨x, x1, x2, x3⟩ := ih (i + 1) (ms w 169 (37 * n + i) (w 170 i)) (by omega) (by omega)
      refine ⟨x, x1, fun b hb => (x2 b hb).trans (ms_c1 hb), fun j => ?_⟩
      rw [x3 j, ms_c1 (by decide)]
      by_cases z : j = 37 * n + i
      · rw [if_neg (by omega), z, ms_e1, if_pos (by omega), Nat.add_sub_cancel_left]
      · rw [ms_i1 z]
        by_cases z2 : 37 * n + i ≤ j ∧ j < 37 * n + 37
        · rw [if_pos (by omega), if_pos z2]
        · rw [if_neg (by omega), if_neg z2]
theorem hX_1 {at0 : Int32} {u : MM} {g : GG} : Fx_M_textRX 1 at0 u g = if at0 = -1 then (if u 167 1 = 3 then (-2, T9 u, g) else (xq_c3 (Fx_M_readText1X (T9 u) g) fun t z g3 => if t = true then Fx_M_textRX_L179b u g3 38 (iN 0) (ms z 167 1 ((u 167 1) + 1)) else (-1, z, g3))) else (if Fx_M_inEX at0 0 ((u 167 1) - 1) (T9 u) g = true then (xq_c3 (Fx_M_readText1X (T9 u) g) fun t z g3 => if t = true then Fx_M_textRX_L179 at0 g3 38 (iN 0) (ms z 167 1 ((u 167 1) + 0)) else (-1, z, g3)) else (-2, T9 u, g)) := by
  by_cases h : at0 = -1
  · subst h
    unfold Fx_M_textRX
    simp (config := { decide := true }) only [xq_lt, if_false, if_true, in_X]
    rfl
  · unfold Fx_M_textRX
    simp (config := { decide := true }) only [xq_lt, h, if_false, if_true, in_X]
    rfl
theorem txn_1 {at0 : Int32} {u : MM} {g : GG} {h : Nat} (h0 : u 167 1 = iN h) (hh : h ≤ 3) (hn : (at0 = -1 ∧ h = 3) ∨ (¬ at0 = -1 ∧ (at0 < 0 ∨ iN h ≤ at0))) : Fx_M_textRX 1 at0 u g = (-2, T9 u, g) := by
  rw [hX_1]
  rcases hn with ⟨a1, a2⟩ | ⟨a1, a2⟩
  · rw [if_pos a1, if_pos (show u 167 1 = 3 by rw [h0, a2]; rfl)]
  · rw [if_neg a1, in_X, if_neg]
    intro z
    obtain ⟨z1, z2⟩ := (Bool.and_eq_true _ _).mp z
    have z3 := of_decide_eq_true z1
    have z4 := of_decide_eq_true z2
    rcases a2 with q | q
    · exact lt_le_no q z3
    · have q1 := Int32.le_iff_toInt_le.mp q
      have q2 := Int32.le_iff_toInt_le.mp z4
      have e1 : (1 : Int32).toInt = 1 := rfl
      rw [h0, ti_sub (by rw [iN_ti (by omega)]; omega) (by rw [iN_ti (by omega)]; omega), iN_ti (by omega)] at q2
      rw [iN_ti (by omega)] at q1
      omega
theorem tx_1 {at0 : Int32} {u : MM} {g : GG} {L n h : Nat} {F : Int32 × Int32 × (Nat → Int32)} (hb : L ≤ 600) (hL : u 164 0 = iN L) (hf : ∀ j, j < L → Bd (-128) 127 (u 163 j)) (h0 : u 167 1 = iN h) (hh : h ≤ 3) (hn : (at0 = -1 ∧ n = h ∧ h < 3) ∨ (¬ at0 = -1 ∧ n < h ∧ at0 = iN n)) (hF : txF 1 (u 163) L (u 170) = F) (hr : ∀ c, c ≠ 162 → c ≠ 165 → c ≠ 166 → c ≠ 170 → c ≠ 171 → (Fx_M_readText1X (T9 u) g).2.1 c = T9 u c) :
    (F.1 = 0 → ∃ x g2, Fx_M_textRX 1 at0 u g = (iN n, x, g2) ∧ x 165 0 = F.1 ∧ x 166 0 = F.2.1 ∧ x 167 = upd (u 167) 1 (iN (if at0 = -1 then h + 1 else h)) ∧ x 168 = u 168 ∧ ∀ j, x 169 j = if 37 * n ≤ j ∧ j < 37 * n + 37 then F.2.2 (j - 37 * n) else u 169 j) ∧
    (¬ F.1 = 0 → ∃ x g2, Fx_M_textRX 1 at0 u g = (-1, x, g2) ∧ x 165 0 = F.1 ∧ x 166 0 = F.2.1 ∧ x 167 = u 167 ∧ x 168 = u 168 ∧ x 169 = u 169) := by
  have hX := hX_1 (at0 := at0) (u := u) (g := g)
  obtain ⟨y, hy⟩ : ∃ y, y = T9 u := ⟨_, rfl⟩
  have y9 : y 162 9 = iN L := by rw [hy]; exact hL
  have y163 : y 163 = u 163 := by rw [hy]; rfl
  have y170 : y 170 = u 170 := by rw [hy]; rfl
  have y167 : y 167 = u 167 := by rw [hy]; rfl
  have y168 : y 168 = u 168 := by rw [hy]; rfl
  have y169 : y 169 = u 169 := by rw [hy]; rfl
  have hF2 : txF 1 (y 163) L (y 170) = F := by rw [y163, y170]; exact hF
  obtain ⟨x, g2, e, x1, x2, x3⟩ := t1_X (v := y) (g := g) hb y9 (by rw [y163]; exact hf) hF2
  rw [← hy] at hr hX
  rw [e] at hr hX
  have xc : ∀ c, c ≠ 162 → c ≠ 165 → c ≠ 166 → c ≠ 170 → c ≠ 171 → x c = y c := hr
  have x167 : x 167 = u 167 := (xc 167 (by decide) (by decide) (by decide) (by decide) (by decide)).trans y167
  have x168 : x 168 = u 168 := (xc 168 (by decide) (by decide) (by decide) (by decide) (by decide)).trans y168
  have x169 : x 169 = u 169 := (xc 169 (by decide) (by decide) (by decide) (by decide) (by decide)).trans y169
  rw [hX]
  rcases hn with ⟨a1, a2, a3⟩ | ⟨a1, a2, a3⟩
  · rw [if_pos a1, if_neg (show ¬ u 167 1 = 3 by rw [h0]; intro q; have := (iN_eq (b := 3) (by omega) (by omega)).mp q; omega), c3_mk]
    refine ⟨fun q => ?_, fun q => ?_⟩
    · have eb : ∀ w : MM, Fx_M_textRX_L179b u g2 38 (iN 0) w = Fx_M_textRX_L179 (u 167 1) g2 38 (iN 0) w := fun w => rfl
      rw [if_pos (decide_eq_true q), eb, h0, iN_s, if_pos a1, a2]
      obtain ⟨z, z1, z2, z3⟩ := cw_1 (n := h) (by omega) (g := g2) 38 0 (ms x 167 1 (iN (h + 1))) (by omega) (by omega)
      refine ⟨z, g2, z1, ?_, ?_, ?_, ?_, fun j => ?_⟩
      · rw [z2 165 (by decide), ms_c1 (by decide)]; exact x1
      · rw [z2 166 (by decide), ms_c1 (by decide)]; exact x2
      · rw [z2 167 (by decide), ms_a1, x167]
      · rw [z2 168 (by decide), ms_c1 (by decide), x168]
      · rw [z3 j, ms_c1 (by decide), ms_c1 (by decide), x3 q, Nat.add_zero, x169]
    · rw [if_neg (fun z => q (of_decide_eq_true z))]
      exact ⟨x, g2, rfl, x1, x2, x167, x168, x169⟩
  · have p1 : (0 : Int32) ≤ at0 := by rw [a3]; exact (iN_le (a := 0) (by omega) (by omega)).mpr (Nat.zero_le _)
    have p2 : at0 ≤ u 167 1 - 1 := by
      rw [a3, h0, show (1 : Int32) = iN 1 from rfl, iN_sub (by omega)]
      exact (iN_le (by omega) (by omega)).mpr (by omega)
    have p3 : u 167 1 + 0 = iN h := by rw [h0]; exact Int32.add_zero _
    rw [if_neg a1, in_X, decide_eq_true p1, decide_eq_true p2, if_pos (show (true && true) = true from rfl), c3_mk]
    refine ⟨fun q => ?_, fun q => ?_⟩
    · rw [if_pos (decide_eq_true q), p3, if_neg a1, a3]
      obtain ⟨z, z1, z2, z3⟩ := cw_1 (n := n) (by omega) (g := g2) 38 0 (ms x 167 1 (iN h)) (by omega) (by omega)
      refine ⟨z, g2, z1, ?_, ?_, ?_, ?_, fun j => ?_⟩
      · rw [z2 165 (by decide), ms_c1 (by decide)]; exact x1
      · rw [z2 166 (by decide), ms_c1 (by decide)]; exact x2
      · rw [z2 167 (by decide), ms_a1, x167]
      · rw [z2 168 (by decide), ms_c1 (by decide), x168]
      · rw [z3 j, ms_c1 (by decide), ms_c1 (by decide), x3 q, Nat.add_zero, x169]
    · rw [if_neg (fun z => q (of_decide_eq_true z))]
      exact ⟨x, g2, rfl, x1, x2, x167, x168, x169⟩
