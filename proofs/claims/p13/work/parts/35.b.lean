/-! the class's tokens -/
theorem bl_X {v : Int32} {u : Nat → Nat → Int32} {g : Nat → Nat → Int64} : Fx_Tk_isBlankX v u g = isB v := by
  unfold Fx_Tk_isBlankX isB
  by_cases h1 : v = 10
  · rw [if_pos h1, h1]; rfl
  · rw [if_neg h1, beq_eq_false_iff_ne.mpr h1]
    by_cases h2 : v = 32
    · rw [if_pos h2, h2]; rfl
    · rw [if_neg h2, beq_eq_false_iff_ne.mpr h2]; rfl
theorem le_X {v : Int32} {u : Nat → Nat → Int32} {g : Nat → Nat → Int64} : Fx_Tk_isLetterX v u g = isL v := by
  unfold Fx_Tk_isLetterX isL
  by_cases h1 : v < 97
  · rw [if_pos h1, decide_eq_false (fun q => lt_le_no h1 q)]; rfl
  · rw [if_neg h1, decide_eq_true (i_nlt h1)]
    by_cases h2 : (122 : Int32) < v
    · rw [if_pos h2, decide_eq_false (fun q => lt_le_no h2 q)]; rfl
    · rw [if_neg h2, decide_eq_true (i_nlt h2)]; rfl
theorem di_X {v : Int32} {u : Nat → Nat → Int32} {g : Nat → Nat → Int64} : Fx_Tk_isDigitX v u g = isD v := by
  unfold Fx_Tk_isDigitX isD
  by_cases h1 : v < 48
  · rw [if_pos h1, decide_eq_false (fun q => lt_le_no h1 q)]; rfl
  · rw [if_neg h1, decide_eq_true (i_nlt h1)]
    by_cases h2 : (57 : Int32) < v
    · rw [if_pos h2, decide_eq_false (fun q => lt_le_no h2 q)]; rfl
    · rw [if_neg h2, decide_eq_true (i_nlt h2)]; rfl
theorem tw_L {u : Nat → Nat → Int32} {g : Nat → Nat → Int64} {L : Nat} (hL : u 30 1 = iN L) (hb : L ≤ 600) : ∀ (n a : Nat) (w : Nat → Nat → Int32), L - a < n → a ≤ 600 → w 30 2 = iN a → Fx_Tk_takeWordX_L5 u g n w = ms w 30 2 (iN (run isL (w 2) L a)) := by
  intro n
  induction n with
  | zero => intro a w h; omega
  | succ n ih =>
    intro a w h ha hw
    rw [Fx_Tk_takeWordX_L5_s, hL, hw]
    by_cases c : L ≤ a
    · rw [if_pos ((iN_le (by omega) (by omega)).mpr c), run_e (fun q => by omega), ← hw, ms_self]
    · rw [if_neg (fun q => c ((iN_le (by omega) (by omega)).mp q)), iN_cl (by omega), iN_s]
      show (if Fx_Tk_isLetterX (w 2 a) w g = true then Fx_Tk_takeWordX_L5 u g n (ms w 30 2 (iN (a + 1))) else w) = _
      rw [le_X]
      by_cases q : isL (w 2 a) = true
      · rw [if_pos q, ih (a + 1) (ms w 30 2 (iN (a + 1))) (by omega) (by omega) ms_e1, run_s (by omega) q, ms_ms]
        rfl
      · rw [if_neg q, run_e (fun z => q z.2), ← hw, ms_self]
theorem tw_X {u : Nat → Nat → Int32} {g : Nat → Nat → Int64} {L a : Nat} (hL : u 30 1 = iN L) (hb : L ≤ 600) (ha : a ≤ L) (hw : u 30 2 = iN a) : Fx_Tk_takeWordX u g = ms (ms u 30 3 1) 30 2 (iN (run isL (u 2) L a)) := by
  show Fx_Tk_takeWordX_L5 u g ((600 - (u 30 2).toInt).toNat + 1) (ms u 30 3 1) = _
  rw [hw, iN_ti (by omega), tw_L hL hb _ a (ms u 30 3 1) (by omega) (by omega) hw]
  rfl
theorem tn_L {u : Nat → Nat → Int32} {g : Nat → Nat → Int64} {L : Nat} (hL : u 30 1 = iN L) (hb : L ≤ 600) : ∀ (n a : Nat) (w : Nat → Nat → Int32), L - a < n → a ≤ 600 → w 30 2 = iN a → ∃ w2, Fx_Tk_takeNumberX_L5 u g n w = Fx_Tk_takeNumberX_J68 u w2 ∧ (∀ b, b ≠ 30 → w2 b = w b) ∧ (∀ j, j ≠ 2 → j ≠ 5 → w2 30 j = w 30 j) ∧ w2 30 2 = iN (run isD (w 2) L a) ∧ w2 30 5 = dgv (w 2) L a (w 30 5) := by
  intro n
  induction n with
  | zero => intro a w h; omega
  | succ n ih =>
    intro a w h ha hw
    rw [Fx_Tk_takeNumberX_L5_s, hL, hw]
    by_cases c : L ≤ a
    · refine ⟨w, ?_, fun _ _ => rfl, fun _ _ _ => rfl, ?_, ?_⟩
      · rw [if_pos ((iN_le (by omega) (by omega)).mpr c)]
      · rw [run_e (fun q => by omega), hw]
      · rw [dgv_e (fun q => by omega)]
    · rw [if_neg (fun q => c ((iN_le (by omega) (by omega)).mp q)), iN_cl (by omega), iN_s]
      have e : (xq_lt (w 2 a) fun v => xq_lt (Fx_Tk_isDigitX v w g) fun t => if t = true then (xq_lt (ms w 30 5 (((w 30 5) * 10) + (v - 48))) fun w5 => xq_lt (ms w5 30 2 (iN (a + 1))) fun w6 => Fx_Tk_takeNumberX_L5 u g n w6) else (Fx_Tk_takeNumberX_J68 u w)) = (if isD (w 2 a) = true then Fx_Tk_takeNumberX_L5 u g n (ms (ms w 30 5 (((w 30 5) * 10) + (w 2 a - 48))) 30 2 (iN (a + 1))) else Fx_Tk_takeNumberX_J68 u w) := by
        show (if Fx_Tk_isDigitX (w 2 a) w g = true then _ else _) = _
        rw [di_X]
        rfl
      rw [e]
      by_cases q : isD (w 2 a) = true
      · rw [if_pos q]
        obtain ⟨w2, h1, h2, h3, h4, h5⟩ := ih (a + 1) (ms (ms w 30 5 (((w 30 5) * 10) + (w 2 a - 48))) 30 2 (iN (a + 1))) (by omega) (by omega) ms_e1
        refine ⟨w2, h1, fun b hb => ?_, fun j hj2 hj5 => ?_, ?_, ?_⟩
        · rw [h2 b hb, ms_c1 hb, ms_c1 hb]
        · rw [h3 j hj2 hj5, ms_i1 hj2, ms_i1 hj5]
        · rw [h4, run_s (by omega) q]; rfl
        · rw [h5, dgv_s (by omega) q]; rfl
      · refine ⟨w, ?_, fun _ _ => rfl, fun _ _ _ => rfl, ?_, ?_⟩
        · rw [if_neg q]
        · rw [run_e (fun z => q z.2), hw]
        · rw [dgv_e (fun z => q z.2)]
/-- what a step to the next token does -/
def ADV (w u : Nat → Nat → Int32) (f : Nat → Int32) (L a : Nat) : Prop := (∀ b, b ≠ 30 → w b = u b) ∧ w 30 0 = u 30 0 ∧ w 30 1 = u 30 1 ∧ w 30 2 = iN (tN f L a) ∧ w 30 3 = tK f L a ∧ w 30 4 = iN (tS f L a) ∧ (tK f L a = 2 → w 30 5 = tV f L a)
theorem tn_X {u : Nat → Nat → Int32} {g : Nat → Nat → Int64} {L a : Nat} (hL : u 30 1 = iN L) (hb : L ≤ 600) (ha : a ≤ L) (hw : u 30 2 = iN a) (h4 : u 30 4 = iN a) : ∃ w, Fx_Tk_takeNumberX u g = w ∧ (∀ b, b ≠ 30 → w b = u b) ∧ w 30 0 = u 30 0 ∧ w 30 1 = u 30 1 ∧ w 30 4 = u 30 4 ∧ w 30 2 = iN (run isD (u 2) L a) ∧ w 30 3 = (if 3 < run isD (u 2) L a - a then 4 else 2) ∧ w 30 5 = dgv (u 2) L a 0 := by
  have hr := run_le (p := isD) (f := u 2) (L := L) a
  have hr2 := run_in (p := isD) (f := u 2) (L := L) a ha
  obtain ⟨w2, h1, h2, h3, h5, h6⟩ := tn_L hL hb ((600 - (iN a).toInt).toNat + 1) a (ms u 30 5 0) (by rw [iN_ti (by omega)]; omega) (by omega) (g := g) hw
  have e0 : Fx_Tk_takeNumberX u g = Fx_Tk_takeNumberX_L5 u g ((600 - (u 30 2).toInt).toNat + 1) (ms u 30 5 0) := rfl
  have h5' : w2 30 2 = iN (run isD (u 2) L a) := h5
  have h6' : w2 30 5 = dgv (u 2) L a 0 := h6
  have g0 : w2 30 0 = u 30 0 := h3 0 (by decide) (by decide)
  have g1 : w2 30 1 = u 30 1 := h3 1 (by decide) (by decide)
  have g4 : w2 30 4 = u 30 4 := h3 4 (by decide) (by decide)
  have gf : ∀ b, b ≠ 30 → w2 b = u b := fun b q => (h2 b q).trans (ms_c1 q)
  rw [e0, hw, h1]
  unfold Fx_Tk_takeNumberX_J68
  rw [h5', h4, iN_sub hr]
  by_cases q : 3 < run isD (u 2) L a - a
  · rw [if_neg (show ¬ iN (run isD (u 2) L a - a) ≤ (3 : Int32) from fun z => by have := (iN_le (b := 3) (by omega) (by omega)).mp z; omega), if_pos q]
    refine ⟨ms w2 30 3 4, rfl, fun b hb => (ms_c1 hb).trans (gf b hb), g0, g1, g4.trans h4, h5', rfl, h6'⟩
  · rw [if_pos (show iN (run isD (u 2) L a - a) ≤ (3 : Int32) from (iN_le (b := 3) (by omega) (by omega)).mpr (by omega)), if_neg q]
    refine ⟨ms w2 30 3 2, rfl, fun b hb => (ms_c1 hb).trans (gf b hb), g0, g1, g4.trans h4, h5', rfl, h6'⟩
/-- behind the blanks -/
theorem ad_1 {u w : Nat → Nat → Int32} {g : Nat → Nat → Int64} {L s : Nat} (hL : w 30 1 = iN L) (hb : L ≤ 600) (hs : s < L) (h2 : w 30 2 = iN s) (h4 : w 30 4 = iN s) (hB : ¬ isB (w 2 s) = true) :
    ∃ x, (if isL (w 2 s) = true then Fx_Tk_takeWordX w g else if isD (w 2 s) = true then Fx_Tk_takeNumberX w g else if w 2 s = 59 then ms (ms w 30 3 3) 30 2 (iN (s + 1)) else ms (ms w 30 3 4) 30 2 (iN (s + 1))) = x ∧ ADV x w (w 2) L s := by
  have hS : tS (w 2) L s = s := run_e (fun z => hB z.2)
  have hn : ¬ L ≤ tS (w 2) L s := by rw [hS]; omega
  by_cases q : isL (w 2 s) = true
  · rw [if_pos q, tw_X hL hb (by omega) h2]
    obtain ⟨k1, k2⟩ := tk_1 hn (by rw [hS]; exact q)
    rw [hS] at k2
    refine ⟨_, rfl, fun b hb => (ms_c1 hb).trans (ms_c1 hb), rfl, rfl, by rw [k2]; rfl, by rw [k1]; rfl, by rw [hS]; exact h4, fun z => ?_⟩
    rw [k1] at z
    exact absurd z (by decide)
  · rw [if_neg q]
    by_cases r : isD (w 2 s) = true
    · rw [if_pos r]
      obtain ⟨x, e, x1, x2, x3, x4, x5, x6, x7⟩ := tn_X hL hb (Nat.le_of_lt hs) h2 h4 (g := g)
      obtain ⟨k1, k2⟩ := tk_2 hn (by rw [hS]; exact q) (by rw [hS]; exact r)
      rw [hS] at k1 k2
      refine ⟨x, e, x1, x2, x3, by rw [k2]; exact x5, by rw [k1]; exact x6, by rw [hS]; exact x4.trans h4, fun _ => ?_⟩
      unfold tV
      rw [hS]
      exact x7
    · rw [if_neg r]
      obtain ⟨k1, k2⟩ := tk_3 hn (by rw [hS]; exact q) (by rw [hS]; exact r)
      rw [hS] at k1 k2
      by_cases c : w 2 s = 59
      · rw [if_pos c]
        rw [if_pos c] at k1
        refine ⟨_, rfl, fun b hb => (ms_c1 hb).trans (ms_c1 hb), rfl, rfl, by rw [k2]; rfl, by rw [k1]; rfl, by rw [hS]; exact h4, fun z => ?_⟩
        rw [k1] at z
        exact absurd z (by decide)
      · rw [if_neg c]
        rw [if_neg c] at k1
        refine ⟨_, rfl, fun b hb => (ms_c1 hb).trans (ms_c1 hb), rfl, rfl, by rw [k2]; rfl, by rw [k1]; rfl, by rw [hS]; exact h4, fun z => ?_⟩
        rw [k1] at z
        exact absurd z (by decide)
theorem tk_b {f : Nat → Int32} {L a : Nat} (h1 : a < L) (h2 : isB (f a) = true) : tS f L a = tS f L (a + 1) ∧ tK f L a = tK f L (a + 1) ∧ tN f L a = tN f L (a + 1) ∧ tV f L a = tV f L (a + 1) := by
  have h : tS f L a = tS f L (a + 1) := run_s h1 h2
  refine ⟨h, ?_, ?_, ?_⟩
  · unfold tK; rw [h]
  · unfold tN; rw [h]
  · unfold tV; rw [h]
theorem adv_b {x w : Nat → Nat → Int32} {L a : Nat} {v : Int32} (h1 : a < L) (h2 : isB (w 2 a) = true) (h : ADV x (ms w 30 2 v) (w 2) L (a + 1)) : ADV x w (w 2) L a := by
  obtain ⟨e1, e2, e3, e4⟩ := tk_b h1 h2
  obtain ⟨a1, a2, a3, a4, a5, a6, a7⟩ := h
  refine ⟨fun b hb => (a1 b hb).trans (ms_c1 hb), a2.trans (ms_i1 (by decide)), a3.trans (ms_i1 (by decide)), by rw [e3]; exact a4, by rw [e2]; exact a5, by rw [e1]; exact a6, fun z => ?_⟩
  rw [e4]
  exact a7 (e2 ▸ z)
theorem adv_4 {x w : Nat → Nat → Int32} {L a : Nat} {v : Int32} (h : ADV x (ms w 30 4 v) (w 2) L a) : ADV x w (w 2) L a := by
  obtain ⟨a1, a2, a3, a4, a5, a6, a7⟩ := h
  exact ⟨fun b hb => (a1 b hb).trans (ms_c1 hb), a2.trans (ms_i1 (by decide)), a3.trans (ms_i1 (by decide)), a4, a5, a6, a7⟩
theorem ad_L {u : Nat → Nat → Int32} {g : Nat → Nat → Int64} {L : Nat} (hL : u 30 1 = iN L) (hb : L ≤ 600) : ∀ (n a : Nat) (w : Nat → Nat → Int32), L - a < n → a ≤ L → w 30 1 = iN L → w 30 2 = iN a → ADV (Fx_Tk_advanceX_L0 u g n w) w (w 2) L a := by
  intro n
  induction n with
  | zero => intro a w h; omega
  | succ n ih =>
    intro a w h ha h1 hw
    rw [Fx_Tk_advanceX_L0_s, hL, hw]
    simp only [xq_lt]
    by_cases c : L ≤ a
    · have hS : tS (w 2) L a = a := run_e (fun q => by omega)
      have hn : L ≤ tS (w 2) L a := by rw [hS]; exact c
      obtain ⟨k1, k2⟩ := tk_0 hn
      rw [if_pos ((iN_le (by omega) (by omega)).mpr c), if_neg (fun q => by have := (iN_lt (by omega) (by omega)).mp q; omega)]
      show ADV (ms (ms w 30 4 (iN a)) 30 3 0) w (w 2) L a
      refine ⟨fun b hb => (ms_c1 hb).trans (ms_c1 hb), rfl, rfl, by rw [k2, hS]; exact hw, by rw [k1]; rfl, by rw [hS]; rfl, fun z => ?_⟩
      rw [k1] at z
      exact absurd z (by decide)
    · rw [if_neg (fun q => c ((iN_le (by omega) (by omega)).mp q)), if_pos ((iN_lt (by omega) (by omega)).mpr (by omega)), iN_cl (by omega), iN_s]
      show ADV (if Fx_Tk_isBlankX (w 2 a) w g = true then Fx_Tk_advanceX_L0 u g n (ms w 30 2 (iN (a + 1))) else (if Fx_Tk_isLetterX (w 2 a) (ms w 30 4 (iN a)) g = true then Fx_Tk_takeWordX (ms w 30 4 (iN a)) g else (if Fx_Tk_isDigitX (w 2 a) (ms w 30 4 (iN a)) g = true then Fx_Tk_takeNumberX (ms w 30 4 (iN a)) g else if w 2 a = 59 then ms (ms (ms w 30 4 (iN a)) 30 3 3) 30 2 (iN (a + 1)) else ms (ms (ms w 30 4 (iN a)) 30 3 4) 30 2 (iN (a + 1))))) w (w 2) L a
      rw [bl_X, le_X, di_X]
      by_cases q : isB (w 2 a) = true
      · rw [if_pos q]
        exact adv_b (by omega) q (ih (a + 1) (ms w 30 2 (iN (a + 1))) (by omega) (by omega) h1 rfl)
      · rw [if_neg q]
        obtain ⟨x, e, hx⟩ := ad_1 (u := u) (w := ms w 30 4 (iN a)) (g := g) (L := L) (s := a) h1 hb (by omega) hw rfl q
        have e2 : (if isL (w 2 a) = true then Fx_Tk_takeWordX (ms w 30 4 (iN a)) g else (if isD (w 2 a) = true then Fx_Tk_takeNumberX (ms w 30 4 (iN a)) g else if w 2 a = 59 then ms (ms (ms w 30 4 (iN a)) 30 3 3) 30 2 (iN (a + 1)) else ms (ms (ms w 30 4 (iN a)) 30 3 4) 30 2 (iN (a + 1)))) = x := e
        rw [e2]
        exact adv_4 hx
theorem ad_X {u : Nat → Nat → Int32} {g : Nat → Nat → Int64} {L a : Nat} (hL : u 30 1 = iN L) (hb : L ≤ 600) (ha : a ≤ L) (hw : u 30 2 = iN a) : ADV (Fx_Tk_advanceX u g) u (u 2) L a := by
  show ADV (Fx_Tk_advanceX_L0 u g ((600 - (u 30 2).toInt).toNat + 1) u) u (u 2) L a
  rw [hw, iN_ti (by omega)]
  exact ad_L hL hb _ a u (by omega) ha hL hw
