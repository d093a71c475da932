section
/-! pure rows: numbers, memory, tokens -/
def iN (n : Nat) : Int32 := Int32.ofNat n
theorem iN_ti {n : Nat} (h : n ≤ 100000) : (iN n).toInt = n := Int32.toInt_ofNat_of_lt (by omega)
theorem iN_cl {n : Nat} (h : n ≤ 100000) : (iN n).toNatClampNeg = n := Int32.toNatClampNeg_ofNat_of_lt (by omega)
theorem iN_s {n : Nat} : iN n + 1 = iN (n + 1) := (Int32.ofNat_add n 1).symm
theorem iN_a {n m : Nat} : iN n + iN m = iN (n + m) := (Int32.ofNat_add n m).symm
theorem iN_m {n m : Nat} : iN n * iN m = iN (n * m) := (Int32.ofNat_mul n m).symm
theorem iN_lt {a b : Nat} (ha : a ≤ 100000) (hb : b ≤ 100000) : iN a < iN b ↔ a < b := Int32.ofNat_lt_iff_lt (by omega) (by omega)
theorem iN_le {a b : Nat} (ha : a ≤ 100000) (hb : b ≤ 100000) : iN a ≤ iN b ↔ a ≤ b := Int32.ofNat_le_iff_le (by omega) (by omega)
theorem iN_eq {a b : Nat} (ha : a ≤ 100000) (hb : b ≤ 100000) : iN a = iN b ↔ a = b :=
  ⟨fun h => by have h1 := congrArg Int32.toInt h; rw [iN_ti ha, iN_ti hb] at h1; omega, fun h => h ▸ rfl⟩
theorem iN_sub {a b : Nat} (h : b ≤ a) : iN a - iN b = iN (a - b) := (Int32.ofNat_sub a b h).symm
theorem iN_of {v : Int32} {lo hi : Int} (b : Bd lo hi v) (h : 0 ≤ lo) : v = iN v.toInt.toNat := by
  obtain ⟨n, h1, h2⟩ := i32_nat b h
  have h3 : v.toInt.toNat = n := by omega
  rw [h3]
  exact h2
theorem ms_a1 {u : Nat → Nat → Int32} {a i : Nat} {v : Int32} : ms u a i v a = upd (u a) i v := if_pos rfl
theorem ms_c1 {u : Nat → Nat → Int32} {a b i : Nat} {v : Int32} (h : b ≠ a) : ms u a i v b = u b := if_neg h
theorem ms_e1 {u : Nat → Nat → Int32} {a i : Nat} {v : Int32} : ms u a i v a i = v := by rw [ms_a1]; exact if_pos rfl
theorem ms_i1 {u : Nat → Nat → Int32} {a i j : Nat} {v : Int32} (h : j ≠ i) : ms u a i v a j = u a j := by rw [ms_a1]; exact if_neg h
theorem upd_upd {f : Nat → Int32} {i : Nat} {x y : Int32} : upd (upd f i x) i y = upd f i y := by
  funext j
  unfold upd
  by_cases q : j = i
  · rw [if_pos q, if_pos q]
  · rw [if_neg q, if_neg q, if_neg q]
theorem upd_self {f : Nat → Int32} {i : Nat} : upd f i (f i) = f := by
  funext j
  unfold upd
  by_cases q : j = i
  · rw [if_pos q, q]
  · rw [if_neg q]
theorem ms_ms {u : Nat → Nat → Int32} {a i : Nat} {x y : Int32} : ms (ms u a i x) a i y = ms u a i y := by
  funext b
  by_cases h : b = a
  · rw [h, ms_a1, ms_a1, ms_a1, upd_upd]
  · rw [ms_c1 h, ms_c1 h, ms_c1 h]
theorem ms_self {u : Nat → Nat → Int32} {a i : Nat} : ms u a i (u a i) = u := by
  funext b
  by_cases h : b = a
  · rw [h, ms_a1, upd_self]
  · rw [ms_c1 h]
def isB (v : Int32) : Bool := v == 10 || v == 32
def isL (v : Int32) : Bool := decide (97 ≤ v) && decide (v ≤ 122)
def isD (v : Int32) : Bool := decide (48 ≤ v) && decide (v ≤ 57)
/-- the first place from a on, below L, where p fails (or L) -/
def run (p : Int32 → Bool) (f : Nat → Int32) (L a : Nat) : Nat := if a < L ∧ p (f a) = true then run p f L (a + 1) else a
termination_by L - a
decreasing_by omega
theorem run_s {p : Int32 → Bool} {f : Nat → Int32} {L a : Nat} (h1 : a < L) (h2 : p (f a) = true) : run p f L a = run p f L (a + 1) := by rw [run, if_pos ⟨h1, h2⟩]
theorem run_e {p : Int32 → Bool} {f : Nat → Int32} {L a : Nat} (h : ¬ (a < L ∧ p (f a) = true)) : run p f L a = a := by rw [run, if_neg h]
theorem run_ind {p : Int32 → Bool} {f : Nat → Int32} {L : Nat} {P : Nat → Prop} (h1 : ∀ a, ¬ (a < L ∧ p (f a) = true) → P a) (h2 : ∀ a, a < L → p (f a) = true → P (a + 1) → P a) : ∀ n a, L - a ≤ n → P a := by
  intro n
  induction n with
  | zero =>
    intro a ha
    exact h1 a (fun q => by omega)
  | succ n ih =>
    intro a ha
    by_cases q : a < L ∧ p (f a) = true
    · exact h2 a q.1 q.2 (ih (a + 1) (by omega))
    · exact h1 a q
theorem run_le {p : Int32 → Bool} {f : Nat → Int32} {L : Nat} (a : Nat) : a ≤ run p f L a :=
  run_ind (p := p) (f := f) (L := L) (P := fun a => a ≤ run p f L a) (fun a h => by rw [run_e h]; exact Nat.le_refl _) (fun a h1 h2 ih => by rw [run_s h1 h2]; omega) _ a (Nat.le_refl _)
theorem run_in {p : Int32 → Bool} {f : Nat → Int32} {L : Nat} (a : Nat) (h : a ≤ L) : run p f L a ≤ L :=
  run_ind (p := p) (f := f) (L := L) (P := fun a => a ≤ L → run p f L a ≤ L) (fun a q h => by rw [run_e q]; exact h) (fun a h1 h2 ih h => by rw [run_s h1 h2]; exact ih h1) _ a (Nat.le_refl _) h
theorem run_all {p : Int32 → Bool} {f : Nat → Int32} {L : Nat} (a : Nat) : ∀ j, a ≤ j → j < run p f L a → p (f j) = true :=
  run_ind (p := p) (f := f) (L := L) (P := fun a => ∀ j, a ≤ j → j < run p f L a → p (f j) = true) (fun a q j h1 h2 => by rw [run_e q] at h2; omega) (fun a h1 h2 ih j q1 q2 => by
    rw [run_s h1 h2] at q2
    by_cases e : j = a
    · rw [e]; exact h2
    · exact ih j (by omega) q2) _ a (Nat.le_refl _)
/-- the number that the digits from a on tell -/
def dgv (f : Nat → Int32) (L a : Nat) (v : Int32) : Int32 := if a < L ∧ isD (f a) = true then dgv f L (a + 1) (v * 10 + (f a - 48)) else v
termination_by L - a
decreasing_by omega
theorem dgv_s {f : Nat → Int32} {L a : Nat} {v : Int32} (h1 : a < L) (h2 : isD (f a) = true) : dgv f L a v = dgv f L (a + 1) (v * 10 + (f a - 48)) := by rw [dgv, if_pos ⟨h1, h2⟩]
theorem dgv_e {f : Nat → Int32} {L a : Nat} {v : Int32} (h : ¬ (a < L ∧ isD (f a) = true)) : dgv f L a v = v := by rw [dgv, if_neg h]
/-- tokens: first place, sort (0 end, 1 word, 2 number, 3 sign, 4 wrong), place behind, number -/
def tS (f : Nat → Int32) (L a : Nat) : Nat := run isB f L a
def tK (f : Nat → Int32) (L a : Nat) : Int32 := if L ≤ tS f L a then 0 else if isL (f (tS f L a)) = true then 1 else if isD (f (tS f L a)) = true then (if 3 < run isD f L (tS f L a) - tS f L a then 4 else 2) else if f (tS f L a) = 59 then 3 else 4
def tN (f : Nat → Int32) (L a : Nat) : Nat := if L ≤ tS f L a then tS f L a else if isL (f (tS f L a)) = true then run isL f L (tS f L a) else if isD (f (tS f L a)) = true then run isD f L (tS f L a) else tS f L a + 1
def tV (f : Nat → Int32) (L a : Nat) : Int32 := dgv f L (tS f L a) 0
theorem tk_0 {f : Nat → Int32} {L a : Nat} (h : L ≤ tS f L a) : tK f L a = 0 ∧ tN f L a = tS f L a := ⟨if_pos h, if_pos h⟩
theorem tk_1 {f : Nat → Int32} {L a : Nat} (h : ¬ L ≤ tS f L a) (q : isL (f (tS f L a)) = true) : tK f L a = 1 ∧ tN f L a = run isL f L (tS f L a) := by
  unfold tK tN
  rw [if_neg h, if_pos q, if_neg h, if_pos q]
  exact ⟨rfl, rfl⟩
theorem tk_2 {f : Nat → Int32} {L a : Nat} (h : ¬ L ≤ tS f L a) (q : ¬ isL (f (tS f L a)) = true) (r : isD (f (tS f L a)) = true) : tK f L a = (if 3 < run isD f L (tS f L a) - tS f L a then 4 else 2) ∧ tN f L a = run isD f L (tS f L a) := by
  unfold tK tN
  rw [if_neg h, if_neg q, if_pos r, if_neg h, if_neg q, if_pos r]
  exact ⟨rfl, rfl⟩
theorem tk_3 {f : Nat → Int32} {L a : Nat} (h : ¬ L ≤ tS f L a) (q : ¬ isL (f (tS f L a)) = true) (r : ¬ isD (f (tS f L a)) = true) : tK f L a = (if f (tS f L a) = 59 then 3 else 4) ∧ tN f L a = tS f L a + 1 := by
  unfold tK tN
  rw [if_neg h, if_neg q, if_neg r, if_neg h, if_neg q, if_neg r]
  exact ⟨rfl, rfl⟩
theorem tS_le {f : Nat → Int32} {L : Nat} (a : Nat) : a ≤ tS f L a := run_le a
theorem tS_in {f : Nat → Int32} {L a : Nat} (h : a ≤ L) : tS f L a ≤ L := run_in a h
theorem tN_le {f : Nat → Int32} {L : Nat} (a : Nat) : tS f L a ≤ tN f L a := by
  unfold tN
  split
  · exact Nat.le_refl _
  · split
    · exact run_le _
    · split
      · exact run_le _
      · omega
theorem tN_in {f : Nat → Int32} {L a : Nat} (h : a ≤ L) : tN f L a ≤ L := by
  have h1 := tS_in (f := f) h
  unfold tN
  split
  · exact h1
  · split
    · exact run_in _ h1
    · split
      · exact run_in _ h1
      · omega
/-- a token that is not the end goes on -/
theorem tN_lt {f : Nat → Int32} {L a : Nat} (h : ¬ tK f L a = 0) : tS f L a < tN f L a := by
  have h0 : ¬ L ≤ tS f L a := fun q => h (tk_0 q).1
  have s1 : ∀ p : Int32 → Bool, p (f (tS f L a)) = true → tS f L a < run p f L (tS f L a) := by
    intro p hp
    rw [run_s (by omega) hp]
    have := run_le (p := p) (f := f) (L := L) (tS f L a + 1)
    omega
  unfold tN
  rw [if_neg h0]
  split
  · rename_i q; exact s1 _ q
  · split
    · rename_i q; exact s1 _ q
    · omega
theorem tS_end {f : Nat → Int32} {L a : Nat} (ha : a ≤ L) (h : tK f L a = 0) : tS f L a = L := by
  by_cases q : L ≤ tS f L a
  · have := tS_in (f := f) ha; omega
  · exfalso
    unfold tK at h
    rw [if_neg q] at h
    revert h
    split
    · decide
    · split
      · split <;> decide
      · split <;> decide
end
section
/-! the class's tokens -/
theorem bl_X {v : Int32} {u : Nat → Nat → Int32} {g : Nat → Nat → Int64} : Fx_Tk_isBlankX v u g = isB v := by
  unfold Fx_Tk_isBlankX isB
  by_cases h1 : v = 10
  · rw [if_pos h1, h1]; rfl
  · rw [if_neg h1, beq_eq_false_iff_ne.mpr h1]
    by_cases h2 : v = 32
    · rw [if_pos h2, h2]; rfl
    · rw [if_neg h2, beq_eq_false_iff_ne.mpr h2]; rfl
theorem le_X {v : Int32} {u : Nat → Nat → Int32} {g : Nat → Nat → Int64} : Fx_Tk_isLetterX v u g = isL v := by
  unfold Fx_Tk_isLetterX isL
  by_cases h1 : v < 97
  · rw [if_pos h1, decide_eq_false (fun q => lt_le_no h1 q)]; rfl
  · rw [if_neg h1, decide_eq_true (i_nlt h1)]
    by_cases h2 : (122 : Int32) < v
    · rw [if_pos h2, decide_eq_false (fun q => lt_le_no h2 q)]; rfl
    · rw [if_neg h2, decide_eq_true (i_nlt h2)]; rfl
theorem di_X {v : Int32} {u : Nat → Nat → Int32} {g : Nat → Nat → Int64} : Fx_Tk_isDigitX v u g = isD v := by
  unfold Fx_Tk_isDigitX isD
  by_cases h1 : v < 48
  · rw [if_pos h1, decide_eq_false (fun q => lt_le_no h1 q)]; rfl
  · rw [if_neg h1, decide_eq_true (i_nlt h1)]
    by_cases h2 : (57 : Int32) < v
    · rw [if_pos h2, decide_eq_false (fun q => lt_le_no h2 q)]; rfl
    · rw [if_neg h2, decide_eq_true (i_nlt h2)]; rfl
theorem tw_L {u : Nat → Nat → Int32} {g : Nat → Nat → Int64} {L : Nat} (hL : u 30 1 = iN L) (hb : L ≤ 600) : ∀ (n a : Nat) (w : Nat → Nat → Int32), L - a < n → a ≤ 600 → w 30 2 = iN a → Fx_Tk_takeWordX_L5 u g n w = ms w 30 2 (iN (run isL (w 2) L a)) := by
  intro n
  induction n with
  | zero => intro a w h; omega
  | succ n ih =>
    intro a w h ha hw
    rw [Fx_Tk_takeWordX_L5_s, hL, hw]
    by_cases c : L ≤ a
    · rw [if_pos ((iN_le (by omega) (by omega)).mpr c), run_e (fun q => by omega), ← hw, ms_self]
    · rw [if_neg (fun q => c ((iN_le (by omega) (by omega)).mp q)), iN_cl (by omega), iN_s]
      show (if Fx_Tk_isLetterX (w 2 a) w g = true then Fx_Tk_takeWordX_L5 u g n (ms w 30 2 (iN (a + 1))) else w) = _
      rw [le_X]
      by_cases q : isL (w 2 a) = true
      · rw [if_pos q, ih (a + 1) (ms w 30 2 (iN (a + 1))) (by omega) (by omega) ms_e1, run_s (by omega) q, ms_ms]
        rfl
      · rw [if_neg q, run_e (fun z => q z.2), ← hw, ms_self]
theorem tw_X {u : Nat → Nat → Int32} {g : Nat → Nat → Int64} {L a : Nat} (hL : u 30 1 = iN L) (hb : L ≤ 600) (ha : a ≤ L) (hw : u 30 2 = iN a) : Fx_Tk_takeWordX u g = ms (ms u 30 3 1) 30 2 (iN (run isL (u 2) L a)) := by
  show Fx_Tk_takeWordX_L5 u g ((600 - (u 30 2).toInt).toNat + 1) (ms u 30 3 1) = _
  rw [hw, iN_ti (by omega), tw_L hL hb _ a (ms u 30 3 1) (by omega) (by omega) hw]
  rfl
theorem tn_L {u : Nat → Nat → Int32} {g : Nat → Nat → Int64} {L : Nat} (hL : u 30 1 = iN L) (hb : L ≤ 600) : ∀ (n a : Nat) (w : Nat → Nat → Int32), L - a < n → a ≤ 600 → w 30 2 = iN a → ∃ w2, Fx_Tk_takeNumberX_L5 u g n w = Fx_Tk_takeNumberX_J68 u w2 ∧ (∀ b, b ≠ 30 → w2 b = w b) ∧ (∀ j, j ≠ 2 → j ≠ 5 → w2 30 j = w 30 j) ∧ w2 30 2 = iN (run isD (w 2) L a) ∧ w2 30 5 = dgv (w 2) L a (w 30 5) := by
  intro n
  induction n with
  | zero => intro a w h; omega
  | succ n ih =>
    intro a w h ha hw
    rw [Fx_Tk_takeNumberX_L5_s, hL, hw]
    by_cases c : L ≤ a
    · refine ⟨w, ?_, fun _ _ => rfl, fun _ _ _ => rfl, ?_, ?_⟩
      · rw [if_pos ((iN_le (by omega) (by omega)).mpr c)]
      · rw [run_e (fun q => by omega), hw]
      · rw [dgv_e (fun q => by omega)]
    · rw [if_neg (fun q => c ((iN_le (by omega) (by omega)).mp q)), iN_cl (by omega), iN_s]
      have e : (xq_lt (w 2 a) fun v => xq_lt (Fx_Tk_isDigitX v w g) fun t => if t = true then (xq_lt (ms w 30 5 (((w 30 5) * 10) + (v - 48))) fun w5 => xq_lt (ms w5 30 2 (iN (a + 1))) fun w6 => Fx_Tk_takeNumberX_L5 u g n w6) else (Fx_Tk_takeNumberX_J68 u w)) = (if isD (w 2 a) = true then Fx_Tk_takeNumberX_L5 u g n (ms (ms w 30 5 (((w 30 5) * 10) + (w 2 a - 48))) 30 2 (iN (a + 1))) else Fx_Tk_takeNumberX_J68 u w) := by
        show (if Fx_Tk_isDigitX (w 2 a) w g = true then _ else _) = _
        rw [di_X]
        rfl
      rw [e]
      by_cases q : isD (w 2 a) = true
      · rw [if_pos q]
        obtain ⟨w2, h1, h2, h3, h4, h5⟩ := ih (a + 1) (ms (ms w 30 5 (((w 30 5) * 10) + (w 2 a - 48))) 30 2 (iN (a + 1))) (by omega) (by omega) ms_e1
        refine ⟨w2, h1, fun b hb => ?_, fun j hj2 hj5 => ?_, ?_, ?_⟩
        · rw [h2 b hb, ms_c1 hb, ms_c1 hb]
        · rw [h3 j hj2 hj5, ms_i1 hj2, ms_i1 hj5]
        · rw [h4, run_s (by omega) q]; rfl
        · rw [h5, dgv_s (by omega) q]; rfl
      · refine ⟨w, ?_, fun _ _ => rfl, fun _ _ _ => rfl, ?_, ?_⟩
        · rw [if_neg q]
        · rw [run_e (fun z => q z.2), hw]
        · rw [dgv_e (fun z => q z.2)]
/-- what a step to the next token does -/
def ADV (w u : Nat → Nat → Int32) (f : Nat → Int32) (L a : Nat) : Prop := (∀ b, b ≠ 30 → w b = u b) ∧ w 30 0 = u 30 0 ∧ w 30 1 = u 30 1 ∧ w 30 2 = iN (tN f L a) ∧ w 30 3 = tK f L a ∧ w 30 4 = iN (tS f L a) ∧ (tK f L a = 2 → w 30 5 = tV f L a)
theorem tn_X {u : Nat → Nat → Int32} {g : Nat → Nat → Int64} {L a : Nat} (hL : u 30 1 = iN L) (hb : L ≤ 600) (ha : a ≤ L) (hw : u 30 2 = iN a) (h4 : u 30 4 = iN a) : ∃ w, Fx_Tk_takeNumberX u g = w ∧ (∀ b, b ≠ 30 → w b = u b) ∧ w 30 0 = u 30 0 ∧ w 30 1 = u 30 1 ∧ w 30 4 = u 30 4 ∧ w 30 2 = iN (run isD (u 2) L a) ∧ w 30 3 = (if 3 < run isD (u 2) L a - a then 4 else 2) ∧ w 30 5 = dgv (u 2) L a 0 := by
  have hr := run_le (p := isD) (f := u 2) (L := L) a
  have hr2 := run_in (p := isD) (f := u 2) (L := L) a ha
  obtain ⟨w2, h1, h2, h3, h5, h6⟩ := tn_L hL hb ((600 - (iN a).toInt).toNat + 1) a (ms u 30 5 0) (by rw [iN_ti (by omega)]; omega) (by omega) (g := g) hw
  have e0 : Fx_Tk_takeNumberX u g = Fx_Tk_takeNumberX_L5 u g ((600 - (u 30 2).toInt).toNat + 1) (ms u 30 5 0) := rfl
  have h5' : w2 30 2 = iN (run isD (u 2) L a) := h5
  have h6' : w2 30 5 = dgv (u 2) L a 0 := h6
  have g0 : w2 30 0 = u 30 0 := h3 0 (by decide) (by decide)
  have g1 : w2 30 1 = u 30 1 := h3 1 (by decide) (by decide)
  have g4 : w2 30 4 = u 30 4 := h3 4 (by decide) (by decide)
  have gf : ∀ b, b ≠ 30 → w2 b = u b := fun b q => (h2 b q).trans (ms_c1 q)
  rw [e0, hw, h1]
  unfold Fx_Tk_takeNumberX_J68
  rw [h5', h4, iN_sub hr]
  by_cases q : 3 < run isD (u 2) L a - a
  · rw [if_neg (show ¬ iN (run isD (u 2) L a - a) ≤ (3 : Int32) from fun z => by have := (iN_le (b := 3) (by omega) (by omega)).mp z; omega), if_pos q]
    refine ⟨ms w2 30 3 4, rfl, fun b hb => (ms_c1 hb).trans (gf b hb), g0, g1, g4.trans h4, h5', rfl, h6'⟩
  · rw [if_pos (show iN (run isD (u 2) L a - a) ≤ (3 : Int32) from (iN_le (b := 3) (by omega) (by omega)).mpr (by omega)), if_neg q]
    refine ⟨ms w2 30 3 2, rfl, fun b hb => (ms_c1 hb).trans (gf b hb), g0, g1, g4.trans h4, h5', rfl, h6'⟩
/-- behind the blanks -/
theorem ad_1 {u w : Nat → Nat → Int32} {g : Nat → Nat → Int64} {L s : Nat} (hL : w 30 1 = iN L) (hb : L ≤ 600) (hs : s < L) (h2 : w 30 2 = iN s) (h4 : w 30 4 = iN s) (hB : ¬ isB (w 2 s) = true) :
    ∃ x, (if isL (w 2 s) = true then Fx_Tk_takeWordX w g else if isD (w 2 s) = true then Fx_Tk_takeNumberX w g else if w 2 s = 59 then ms (ms w 30 3 3) 30 2 (iN (s + 1)) else ms (ms w 30 3 4) 30 2 (iN (s + 1))) = x ∧ ADV x w (w 2) L s := by
  have hS : tS (w 2) L s = s := run_e (fun z => hB z.2)
  have hn : ¬ L ≤ tS (w 2) L s := by rw [hS]; omega
  by_cases q : isL (w 2 s) = true
  · rw [if_pos q, tw_X hL hb (by omega) h2]
    obtain ⟨k1, k2⟩ := tk_1 hn (by rw [hS]; exact q)
    rw [hS] at k2
    refine ⟨_, rfl, fun b hb => (ms_c1 hb).trans (ms_c1 hb), rfl, rfl, by rw [k2]; rfl, by rw [k1]; rfl, by rw [hS]; exact h4, fun z => ?_⟩
    rw [k1] at z
    exact absurd z (by decide)
  · rw [if_neg q]
    by_cases r : isD (w 2 s) = true
    · rw [if_pos r]
      obtain ⟨x, e, x1, x2, x3, x4, x5, x6, x7⟩ := tn_X hL hb (Nat.le_of_lt hs) h2 h4 (g := g)
      obtain ⟨k1, k2⟩ := tk_2 hn (by rw [hS]; exact q) (by rw [hS]; exact r)
      rw [hS] at k1 k2
      refine ⟨x, e, x1, x2, x3, by rw [k2]; exact x5, by rw [k1]; exact x6, by rw [hS]; exact x4.trans h4, fun _ => ?_⟩
      unfold tV
      rw [hS]
      exact x7
    · rw [if_neg r]
      obtain ⟨k1, k2⟩ := tk_3 hn (by rw [hS]; exact q) (by rw [hS]; exact r)
      rw [hS] at k1 k2
      by_cases c : w 2 s = 59
      · rw [if_pos c]
        rw [if_pos c] at k1
        refine ⟨_, rfl, fun b hb => (ms_c1 hb).trans (ms_c1 hb), rfl, rfl, by rw [k2]; rfl, by rw [k1]; rfl, by rw [hS]; exact h4, fun z => ?_⟩
        rw [k1] at z
        exact absurd z (by decide)
      · rw [if_neg c]
        rw [if_neg c] at k1
        refine ⟨_, rfl, fun b hb => (ms_c1 hb).trans (ms_c1 hb), rfl, rfl, by rw [k2]; rfl, by rw [k1]; rfl, by rw [hS]; exact h4, fun z => ?_⟩
        rw [k1] at z
        exact absurd z (by decide)
theorem tk_b {f : Nat → Int32} {L a : Nat} (h1 : a < L) (h2 : isB (f a) = true) : tS f L a = tS f L (a + 1) ∧ tK f L a = tK f L (a + 1) ∧ tN f L a = tN f L (a + 1) ∧ tV f L a = tV f L (a + 1) := by
  have h : tS f L a = tS f L (a + 1) := run_s h1 h2
  refine ⟨h, ?_, ?_, ?_⟩
  · unfold tK; rw [h]
  · unfold tN; rw [h]
  · unfold tV; rw [h]
theorem adv_b {x w : Nat → Nat → Int32} {L a : Nat} {v : Int32} (h1 : a < L) (h2 : isB (w 2 a) = true) (h : ADV x (ms w 30 2 v) (w 2) L (a + 1)) : ADV x w (w 2) L a := by
  obtain ⟨e1, e2, e3, e4⟩ := tk_b h1 h2
  obtain ⟨a1, a2, a3, a4, a5, a6, a7⟩ := h
  refine ⟨fun b hb => (a1 b hb).trans (ms_c1 hb), a2.trans (ms_i1 (by decide)), a3.trans (ms_i1 (by decide)), by rw [e3]; exact a4, by rw [e2]; exact a5, by rw [e1]; exact a6, fun z => ?_⟩
  rw [e4]
  exact a7 (e2 ▸ z)
theorem adv_4 {x w : Nat → Nat → Int32} {L a : Nat} {v : Int32} (h : ADV x (ms w 30 4 v) (w 2) L a) : ADV x w (w 2) L a := by
  obtain ⟨a1, a2, a3, a4, a5, a6, a7⟩ := h
  exact ⟨fun b hb => (a1 b hb).trans (ms_c1 hb), a2.trans (ms_i1 (by decide)), a3.trans (ms_i1 (by decide)), a4, a5, a6, a7⟩
theorem ad_L {u : Nat → Nat → Int32} {g : Nat → Nat → Int64} {L : Nat} (hL : u 30 1 = iN L) (hb : L ≤ 600) : ∀ (n a : Nat) (w : Nat → Nat → Int32), L - a < n → a ≤ L → w 30 1 = iN L → w 30 2 = iN a → ADV (Fx_Tk_advanceX_L0 u g n w) w (w 2) L a := by
  intro n
  induction n with
  | zero => intro a w h; omega
  | succ n ih =>
    intro a w h ha h1 hw
    rw [Fx_Tk_advanceX_L0_s, hL, hw]
    simp only [xq_lt]
    by_cases c : L ≤ a
    · have hS : tS (w 2) L a = a := run_e (fun q => by omega)
      have hn : L ≤ tS (w 2) L a := by rw [hS]; exact c
      obtain ⟨k1, k2⟩ := tk_0 hn
      rw [if_pos ((iN_le (by omega) (by omega)).mpr c), if_neg (fun q => by have := (iN_lt (by omega) (by omega)).mp q; omega)]
      show ADV (ms (ms w 30 4 (iN a)) 30 3 0) w (w 2) L a
      refine ⟨fun b hb => (ms_c1 hb).trans (ms_c1 hb), rfl, rfl, by rw [k2, hS]; exact hw, by rw [k1]; rfl, by rw [hS]; rfl, fun z => ?_⟩
      rw [k1] at z
      exact absurd z (by decide)
    · rw [if_neg (fun q => c ((iN_le (by omega) (by omega)).mp q)), if_pos ((iN_lt (by omega) (by omega)).mpr (by omega)), iN_cl (by omega), iN_s]
      show ADV (if Fx_Tk_isBlankX (w 2 a) w g = true then Fx_Tk_advanceX_L0 u g n (ms w 30 2 (iN (a + 1))) else (if Fx_Tk_isLetterX (w 2 a) (ms w 30 4 (iN a)) g = true then Fx_Tk_takeWordX (ms w 30 4 (iN a)) g else (if Fx_Tk_isDigitX (w 2 a) (ms w 30 4 (iN a)) g = true then Fx_Tk_takeNumberX (ms w 30 4 (iN a)) g else if w 2 a = 59 then ms (ms (ms w 30 4 (iN a)) 30 3 3) 30 2 (iN (a + 1)) else ms (ms (ms w 30 4 (iN a)) 30 3 4) 30 2 (iN (a + 1))))) w (w 2) L a
      rw [bl_X, le_X, di_X]
      by_cases q : isB (w 2 a) = true
      · rw [if_pos q]
        exact adv_b (by omega) q (ih (a + 1) (ms w 30 2 (iN (a + 1))) (by omega) (by omega) h1 rfl)
      · rw [if_neg q]
        obtain ⟨x, e, hx⟩ := ad_1 (u := u) (w := ms w 30 4 (iN a)) (g := g) (L := L) (s := a) h1 hb (by omega) hw rfl q
        have e2 : (if isL (w 2 a) = true then Fx_Tk_takeWordX (ms w 30 4 (iN a)) g else (if isD (w 2 a) = true then Fx_Tk_takeNumberX (ms w 30 4 (iN a)) g else if w 2 a = 59 then ms (ms (ms w 30 4 (iN a)) 30 3 3) 30 2 (iN (a + 1)) else ms (ms (ms w 30 4 (iN a)) 30 3 4) 30 2 (iN (a + 1)))) = x := e
        rw [e2]
        exact adv_4 hx
theorem ad_X {u : Nat → Nat → Int32} {g : Nat → Nat → Int64} {L a : Nat} (hL : u 30 1 = iN L) (hb : L ≤ 600) (ha : a ≤ L) (hw : u 30 2 = iN a) : ADV (Fx_Tk_advanceX u g) u (u 2) L a := by
  show ADV (Fx_Tk_advanceX_L0 u g ((600 - (u 30 2).toInt).toNat + 1) u) u (u 2) L a
  rw [hw, iN_ti (by omega)]
  exact ad_L hL hb _ a u (by omega) ha hL hw
end
section
/-! words -/
theorem ofN {n : Nat} : Int32.ofNat n = iN n := rfl
def wq (f : Nat → Int32) : Nat → List Int32 → Bool
  | _, [] => true
  | s, c :: l => (f s == c) && wq f (s + 1) l
/-- the word from s to e is the i-th -/
def wm (f : Nat → Int32) (s e i : Nat) : Bool := decide (e = s + sLn.getD i 0) && wq f s (sBy.getD i [])
theorem sB_len : ∀ i, i < 18 → sLn.getD i 0 = (sBy.getD i []).length := by decide +kernel
theorem sB_ch : ∀ i, i < 18 → ∀ k, k < 5 → ((((sBy.getD i []).getD k 0) &&& 255).toUInt32 % 65536).toInt32 = (sBy.getD i []).getD k 0 := by decide +kernel
theorem ch_X {i k : Nat} {u : Nat → Nat → Int32} {g : Nat → Nat → Int64} (hi : i < 18) (hk : k < 5) : Fx_St_charAtX i (iN k) u g = (sBy.getD i []).getD k 0 := by
  show ((((sBy.getD i []).getD (iN k).toNatClampNeg 0) &&& 255).toUInt32 % 65536).toInt32 = _
  rw [iN_cl (by omega)]
  exact sB_ch i hi k hk
theorem wq_d {f : Nat → Int32} {s k : Nat} {l : List Int32} (h : k < l.length) : wq f s (l.drop k) = ((f s == l.getD k 0) && wq f (s + 1) (l.drop (k + 1))) := by
  rw [List.drop_eq_getElem_cons h]
  have e : l.getD k 0 = l[k] := by rw [List.getD_eq_getElem?_getD, List.getElem?_eq_getElem h]; rfl
  rw [e]
  rfl
theorem iw_L {u : Nat → Nat → Int32} {g : Nat → Nat → Int64} {L i s : Nat} (hi : i < 18) (hL : u 30 1 = iN L) (hb : L ≤ 600) (h4 : u 30 4 = iN s) (he : s + sLn.getD i 0 ≤ L) : ∀ (n k : Nat), sLn.getD i 0 - k < n → k ≤ sLn.getD i 0 → Fx_Tk_isWordX_L28 i u g n (iN k) = wq (u 2) (s + k) ((sBy.getD i []).drop k) := by
  have h5 := sln_le i
  intro n
  induction n with
  | zero => intro k h; omega
  | succ n ih =>
    intro k h hk
    rw [Fx_Tk_isWordX_L28_s, hL, h4, iN_a, ofN]
    have hl := sB_len i hi
    by_cases c : sLn.getD i 0 ≤ k
    · rw [if_pos ((iN_le (a := sLn.getD i 0) (b := k) (by omega) (by omega)).mpr c), List.drop_eq_nil_of_le (by omega)]
      rfl
    · rw [if_neg (fun q => c ((iN_le (a := sLn.getD i 0) (b := k) (by omega) (by omega)).mp q)), if_neg (fun q => by have := (iN_le (by omega) (by omega)).mp q; omega), iN_cl (by omega)]
      show (if u 2 (s + k) = Fx_St_charAtX i (iN k) u g then Fx_Tk_isWordX_L28 i u g n (iN k + 1) else false) = _
      rw [ch_X hi (by omega), iN_s, wq_d (by omega)]
      by_cases q : u 2 (s + k) = (sBy.getD i []).getD k 0
      · rw [if_pos q, ih (k + 1) (by omega) (by omega), beq_iff_eq.mpr q, Bool.true_and]
        rfl
      · rw [if_neg q, beq_eq_false_iff_ne.mpr q]
        rfl
theorem iw_X {u : Nat → Nat → Int32} {g : Nat → Nat → Int64} {L i s e : Nat} (hi : i < 18) (hL : u 30 1 = iN L) (hb : L ≤ 600) (h2 : u 30 2 = iN e) (h4 : u 30 4 = iN s) (hs : s ≤ e) (he : e ≤ L) : Fx_Tk_isWordX i u g = (decide (u 30 3 = 1) && wm (u 2) s e i) := by
  have h5 := sln_le i
  unfold Fx_Tk_isWordX
  rw [h2, h4, iN_sub hs, ofN]
  by_cases c : u 30 3 = 1
  · rw [if_pos c, decide_eq_true c, Bool.true_and]
    unfold wm
    by_cases q : e = s + sLn.getD i 0
    · rw [if_pos (show iN (e - s) = iN (sLn.getD i 0) by rw [show e - s = sLn.getD i 0 by omega]), decide_eq_true q, Bool.true_and]
      have := iw_L (g := g) hi hL hb h4 (by omega) 6 0 (by omega) (by omega)
      exact this
    · rw [if_neg (show ¬ iN (e - s) = iN (sLn.getD i 0) from fun z => by have := (iN_eq (by omega) (by omega)).mp z; omega), decide_eq_false q]
      rfl
  · rw [if_neg c, decide_eq_false c]
    rfl
/-- the first k from k on, below m, with p; else -1 -/
def fw (p : Nat → Bool) (m k : Nat) : Int32 := if k < m then (if p k = true then iN k else fw p m (k + 1)) else -1
termination_by m - k
decreasing_by omega
theorem fw_n {p : Nat → Bool} {m k : Nat} (h : ¬ k < m) : fw p m k = -1 := by rw [fw, if_neg h]
theorem fw_t {p : Nat → Bool} {m k : Nat} (h : k < m) (q : p k = true) : fw p m k = iN k := by rw [fw, if_pos h, if_pos q]
theorem fw_f {p : Nat → Bool} {m k : Nat} (h : k < m) (q : ¬ p k = true) : fw p m k = fw p m (k + 1) := by rw [fw, if_pos h, if_neg q]
theorem hw_X : ∀ k, k < 15 → ∀ (u : Nat → Nat → Int32) (g : Nat → Nat → Int64), Fx_Rd_hillWordX (iN k) u g = k := by
  have h : ∀ k, k < 15 → Fx_Rd_hillWordX (iN k) (fun _ _ => 0) (fun _ _ => 0) = k := by decide +kernel
  intro k hk u g
  exact h k hk
def pwi (k : Nat) : Nat := [12, 15, 16, 14, 17].getD k 0
theorem pw_X : ∀ k, k < 5 → ∀ (u : Nat → Nat → Int32) (g : Nat → Nat → Int64), Fx_Rd_planWordX (iN k) u g = pwi k := by
  have h : ∀ k, k < 5 → Fx_Rd_planWordX (iN k) (fun _ _ => 0) (fun _ _ => 0) = pwi k := by decide +kernel
  intro k hk u g
  exact h k hk
theorem pwi_lt : ∀ k, k < 5 → pwi k < 18 := by decide
def wk (f : Nat → Int32) (s e : Nat) (k : Int32) (i : Nat) : Bool := decide (k = 1) && wm f s e i
theorem lo_H {u : Nat → Nat → Int32} {g : Nat → Nat → Int64} {L s e : Nat} (hL : u 30 1 = iN L) (hb : L ≤ 600) (h2 : u 30 2 = iN e) (h4 : u 30 4 = iN s) (hs : s ≤ e) (he : e ≤ L) : ∀ (n k : Nat), 15 - k < n → k ≤ 15 → Fx_Rd_lineOfX_L13b 0 u g n (iN k) = fw (wk (u 2) s e (u 30 3)) 15 k := by
  intro n
  induction n with
  | zero => intro k h; omega
  | succ n ih =>
    intro k h hk
    rw [Fx_Rd_lineOfX_L13b_s]
    by_cases c : 15 ≤ k
    · rw [if_pos (show (15 : Int32) ≤ iN k from (iN_le (a := 15) (by omega) (by omega)).mpr c), fw_n (by omega)]
    · rw [if_neg (show ¬ (15 : Int32) ≤ iN k from fun q => c ((iN_le (a := 15) (by omega) (by omega)).mp q)), if_pos rfl]
      show (if Fx_Tk_isWordX (Fx_Rd_hillWordX (iN k) u g) u g = true then iN k else Fx_Rd_lineOfX_L13b 0 u g n (iN k + 1)) = _
      rw [hw_X k (by omega), iw_X (by omega) hL hb h2 h4 hs he, iN_s]
      by_cases q : wk (u 2) s e (u 30 3) k = true
      · rw [fw_t (by omega) q]
        exact if_pos q
      · rw [fw_f (by omega) q, ← ih (k + 1) (by omega) (by omega)]
        exact if_neg q
theorem lo_P {u : Nat → Nat → Int32} {g : Nat → Nat → Int64} {L s e : Nat} {sort : Int32} (hsort : ¬ sort = 0) (hL : u 30 1 = iN L) (hb : L ≤ 600) (h2 : u 30 2 = iN e) (h4 : u 30 4 = iN s) (hs : s ≤ e) (he : e ≤ L) : ∀ (n k : Nat), 5 - k < n → k ≤ 5 → Fx_Rd_lineOfX_L13 sort u g n (iN k) = fw (fun k => wk (u 2) s e (u 30 3) (pwi k)) 5 k := by
  intro n
  induction n with
  | zero => intro k h; omega
  | succ n ih =>
    intro k h hk
    rw [Fx_Rd_lineOfX_L13_s]
    by_cases c : 5 ≤ k
    · rw [if_pos (show (5 : Int32) ≤ iN k from (iN_le (a := 5) (by omega) (by omega)).mpr c), fw_n (by omega)]
    · rw [if_neg (show ¬ (5 : Int32) ≤ iN k from fun q => c ((iN_le (a := 5) (by omega) (by omega)).mp q)), if_neg hsort]
      show (if Fx_Tk_isWordX (Fx_Rd_planWordX (iN k) u g) u g = true then iN k else Fx_Rd_lineOfX_L13 sort u g n (iN k + 1)) = _
      rw [pw_X k (by omega), iw_X (pwi_lt k (by omega)) hL hb h2 h4 hs he, iN_s]
      by_cases q : wk (u 2) s e (u 30 3) (pwi k) = true
      · rw [fw_t (p := fun k => wk (u 2) s e (u 30 3) (pwi k)) (by omega) q]
        exact if_pos q
      · rw [fw_f (p := fun k => wk (u 2) s e (u 30 3) (pwi k)) (by omega) q, ← ih (k + 1) (by omega) (by omega)]
        exact if_neg q
/-- which line the token at a begins: of a hill, of a plan; -1: none -/
def hX (f : Nat → Int32) (L a : Nat) : Int32 := fw (wk f (tS f L a) (tN f L a) (tK f L a)) 15 0
def pX (f : Nat → Int32) (L a : Nat) : Int32 := fw (fun k => wk f (tS f L a) (tN f L a) (tK f L a) (pwi k)) 5 0
theorem lo_0 {x u : Nat → Nat → Int32} {g : Nat → Nat → Int64} {L a : Nat} (hL : u 30 1 = iN L) (hb : L ≤ 600) (ha : a ≤ L) (h : ADV x u (u 2) L a) : Fx_Rd_lineOfX 0 x g = hX (u 2) L a := by
  obtain ⟨h0, -, h1, h2, h3, h4, -⟩ := h
  have e : x 2 = u 2 := h0 2 (by decide)
  have q := lo_H (g := g) (h1.trans hL) hb h2 h4 (tN_le a) (tN_in ha) 16 0 (by omega) (by omega)
  rw [e, h3] at q
  exact q
theorem lo_1 {x u : Nat → Nat → Int32} {g : Nat → Nat → Int64} {L a : Nat} {sort : Int32} (hs : ¬ sort = 0) (hL : u 30 1 = iN L) (hb : L ≤ 600) (ha : a ≤ L) (h : ADV x u (u 2) L a) : Fx_Rd_lineOfX sort x g = pX (u 2) L a := by
  obtain ⟨h0, -, h1, h2, h3, h4, -⟩ := h
  have e : x 2 = u 2 := h0 2 (by decide)
  have q := lo_P (g := g) hs (h1.trans hL) hb h2 h4 (tN_le a) (tN_in ha) 6 0 (by omega) (by omega)
  rw [e, h3] at q
  unfold Fx_Rd_lineOfX
  rw [if_neg hs]
  exact q
theorem fw_c {p : Nat → Bool} {m : Nat} : ∀ n k, m - k ≤ n → (fw p m k = -1 ∧ ∀ j, k ≤ j → j < m → ¬ p j = true) ∨ ∃ j, k ≤ j ∧ j < m ∧ fw p m k = iN j ∧ p j = true := by
  intro n
  induction n with
  | zero => intro k h; exact Or.inl ⟨fw_n (by omega), fun j h1 h2 => by omega⟩
  | succ n ih =>
    intro k h
    by_cases c : k < m
    · by_cases q : p k = true
      · exact Or.inr ⟨k, Nat.le_refl _, c, fw_t c q, q⟩
      · rw [fw_f c q]
        rcases ih (k + 1) (by omega) with ⟨h1, h2⟩ | ⟨j, h1, h2, h3, h4⟩
        · refine Or.inl ⟨h1, fun j q1 q2 => ?_⟩
          by_cases z : j = k
          · rw [z]; exact q
          · exact h2 j (by omega) q2
        · exact Or.inr ⟨j, by omega, h2, h3, h4⟩
    · exact Or.inl ⟨fw_n c, fun j h1 h2 => by omega⟩
theorem hX_c {f : Nat → Int32} {L a : Nat} : (hX f L a = -1 ∧ ∀ j, j < 15 → ¬ wk f (tS f L a) (tN f L a) (tK f L a) j = true) ∨ ∃ j, j < 15 ∧ hX f L a = iN j ∧ wk f (tS f L a) (tN f L a) (tK f L a) j = true := by
  rcases fw_c (p := wk f (tS f L a) (tN f L a) (tK f L a)) (m := 15) 15 0 (by omega) with ⟨h1, h2⟩ | ⟨j, -, h2, h3, h4⟩
  · exact Or.inl ⟨h1, fun j hj => h2 j (by omega) hj⟩
  · exact Or.inr ⟨j, h2, h3, h4⟩
theorem pX_c {f : Nat → Int32} {L a : Nat} : (pX f L a = -1 ∧ ∀ j, j < 5 → ¬ wk f (tS f L a) (tN f L a) (tK f L a) (pwi j) = true) ∨ ∃ j, j < 5 ∧ pX f L a = iN j ∧ wk f (tS f L a) (tN f L a) (tK f L a) (pwi j) = true := by
  rcases fw_c (p := fun k => wk f (tS f L a) (tN f L a) (tK f L a) (pwi k)) (m := 5) 5 0 (by omega) with ⟨h1, h2⟩ | ⟨j, -, h2, h3, h4⟩
  · exact Or.inl ⟨h1, fun j hj => h2 j (by omega) hj⟩
  · exact Or.inr ⟨j, h2, h3, h4⟩
end
section
/-! lines: what both readers do with a line -/
def rm (P : Int32 × Int32) (f p : Int32) : Int32 × Int32 := if P.1 = 0 then (f, p) else P
/-- b: it is well -/
def rmb (b : Bool) (f p : Int32) (P : Int32 × Int32) : Int32 × Int32 := if b = true then P else rm P f p
theorem rm_nz {P : Int32 × Int32} {f p : Int32} (hf : ¬ f = 0) : ¬ (rm P f p).1 = 0 := by
  unfold rm
  split
  · exact hf
  · assumption
theorem rmb_t {f p : Int32} {P : Int32 × Int32} {b : Bool} (h : b = true) : rmb b f p P = P := if_pos h
theorem rmb_f {f p : Int32} {P : Int32 × Int32} {b : Bool} (h : ¬ b = true) : rmb b f p P = rm P f p := if_neg h
theorem rmb_z {f p : Int32} {P : Int32 × Int32} {b : Bool} (hf : ¬ f = 0) (h : (rmb b f p P).1 = 0) : b = true ∧ P.1 = 0 := by
  by_cases q : b = true
  · rw [rmb_t q] at h; exact ⟨q, h⟩
  · rw [rmb_f q] at h; exact absurd h (rm_nz hf)
/-- of a hill's line w: is its i-th number well (n ponds; v0 the first number) -/
def chk (w i : Nat) (n v0 v : Int32) : Bool := decide (v ≤ (sAr 2).getD (3 * w + i) 0) && (if w = 0 then decide (¬ i = 1 ∨ v ≤ v0) else if 10 < w then true else if i = 0 then decide (v < n) else decide (1 < i ∨ 2 < w ∨ (v0 < v ∧ v < n)))
def fl (w : Nat) (n r : Int32) : Bool := decide (w = 0 ∧ 9 ≤ n ∨ w = 11 ∧ 4 ≤ r)
/-- the numbers of a line, from the i-th on -/
def fo (ck : Nat → Int32 → Bool) (v p : Nat → Int32) (c i : Nat) (P : Int32 × Int32) : Int32 × Int32 := if i < c then fo ck v p c (i + 1) (rmb (ck i (v i)) 2 (p i) P) else P
termination_by c - i
decreasing_by omega
theorem fo_s {ck : Nat → Int32 → Bool} {v p : Nat → Int32} {c i : Nat} {P : Int32 × Int32} (h : i < c) : fo ck v p c i P = fo ck v p c (i + 1) (rmb (ck i (v i)) 2 (p i) P) := by rw [fo, if_pos h]
theorem fo_e {ck : Nat → Int32 → Bool} {v p : Nat → Int32} {c i : Nat} {P : Int32 × Int32} (h : ¬ i < c) : fo ck v p c i P = P := by rw [fo, if_neg h]
theorem fo_z {ck : Nat → Int32 → Bool} {v p : Nat → Int32} {c : Nat} : ∀ (n i : Nat) (P : Int32 × Int32), c - i ≤ n → (fo ck v p c i P).1 = 0 → P.1 = 0 ∧ ∀ j, i ≤ j → j < c → ck j (v j) = true := by
  intro n
  induction n with
  | zero => intro i P h q; rw [fo_e (by omega)] at q; exact ⟨q, fun j h1 h2 => by omega⟩
  | succ n ih =>
    intro i P h q
    by_cases c1 : i < c
    · rw [fo_s c1] at q
      obtain ⟨h1, h2⟩ := ih (i + 1) _ (by omega) q
      obtain ⟨h3, h4⟩ := rmb_z (by decide) h1
      refine ⟨h4, fun j q1 q2 => ?_⟩
      by_cases z : j = i
      · rw [z]; exact h3
      · exact h2 j (by omega) q2
    · rw [fo_e c1] at q; exact ⟨q, fun j h1 h2 => by omega⟩
def PR (u : Nat → Nat → Int32) : Int32 × Int32 := (u 29 5, u 29 6)
theorem re_X {u : Nat → Nat → Int32} {g : Nat → Nat → Int64} {f p : Int32} : PR (Fx_Rd_rememberX f p u g) = rm (PR u) f p ∧ ∀ b, b ≠ 29 → Fx_Rd_rememberX f p u g b = u b := by
  unfold Fx_Rd_rememberX
  by_cases h : u 29 5 = 0
  · rw [if_pos h]
    refine ⟨?_, fun b hb => (ms_c1 hb).trans (ms_c1 hb)⟩
    show (f, p) = rm (PR u) f p
    unfold rm PR
    rw [if_pos h]
  · rw [if_neg h]
    refine ⟨?_, fun _ _ => rfl⟩
    unfold rm PR
    rw [if_neg h]
theorem cb_X {u : Nat → Nat → Int32} {g : Nat → Nat → Int64} {w i : Nat} (hw : w < 15) (hi : i < 3) : Fx_Rd_canBeInHillX (iN w) (iN i) u g = chk w i (u 32 0) (u 41 0) (u 41 i) := by
  unfold Fx_Rd_canBeInHillX chk
  show (if u 41 (iN i).toNatClampNeg ≤ (sAr 2).getD ((iN 3 * iN w) + iN i).toNatClampNeg 0 then (if iN w = iN 0 then (if iN i = iN 1 then (if (u 41 0) < u 41 (iN i).toNatClampNeg then false else true) else true) else (if iN w ≤ iN 10 then (if iN i = iN 0 then (if (u 32 0) ≤ u 41 (iN i).toNatClampNeg then false else true) else (if iN 1 < iN i then true else (if iN 2 < iN w then true else (if u 41 (iN i).toNatClampNeg ≤ (u 41 0) then false else (if (u 32 0) ≤ u 41 (iN i).toNatClampNeg then false else true))))) else true)) else false) = _
  rw [iN_cl (by omega), iN_m, iN_a, iN_cl (by omega)]
  by_cases h : u 41 i ≤ (sAr 2).getD (3 * w + i) 0
  · rw [if_pos h, decide_eq_true h, Bool.true_and]
    by_cases w0 : w = 0
    · rw [if_pos ((iN_eq (by omega) (by omega)).mpr w0), if_pos w0]
      by_cases i1 : i = 1
      · rw [if_pos ((iN_eq (by omega) (by omega)).mpr i1)]
        by_cases q : u 41 0 < u 41 i
        · rw [if_pos q, decide_eq_false]
          intro z
          rcases z with z | z
          · exact z i1
          · exact lt_le_no q z
        · rw [if_neg q, decide_eq_true (Or.inr (i_nlt q))]
      · rw [if_neg (fun z => i1 ((iN_eq (by omega) (by omega)).mp z)), decide_eq_true (Or.inl i1)]
    · rw [if_neg (fun z => w0 ((iN_eq (by omega) (by omega)).mp z)), if_neg w0]
      by_cases w1 : 10 < w
      · rw [if_neg (fun z => by have := (iN_le (by omega) (by omega)).mp z; omega), if_pos w1]
      · rw [if_pos ((iN_le (by omega) (by omega)).mpr (by omega)), if_neg w1]
        by_cases i0 : i = 0
        · rw [if_pos ((iN_eq (by omega) (by omega)).mpr i0), if_pos i0]
          by_cases q : u 32 0 ≤ u 41 i
          · rw [if_pos q, decide_eq_false (fun z => lt_le_no z q)]
          · rw [if_neg q, decide_eq_true (i_nle q)]
        · rw [if_neg (fun z => i0 ((iN_eq (by omega) (by omega)).mp z)), if_neg i0]
          by_cases i1 : 1 < i
          · rw [if_pos ((iN_lt (by omega) (by omega)).mpr i1), decide_eq_true (Or.inl i1)]
          · rw [if_neg (fun z => i1 ((iN_lt (by omega) (by omega)).mp z))]
            by_cases w2 : 2 < w
            · rw [if_pos ((iN_lt (by omega) (by omega)).mpr w2), decide_eq_true (Or.inr (Or.inl w2))]
            · rw [if_neg (fun z => w2 ((iN_lt (by omega) (by omega)).mp z))]
              by_cases q : u 41 i ≤ u 41 0
              · rw [if_pos q, decide_eq_false]
                intro z
                rcases z with z | z | z
                · exact i1 z
                · exact w2 z
                · exact lt_le_no z.1 q
              · rw [if_neg q]
                by_cases r : u 32 0 ≤ u 41 i
                · rw [if_pos r, decide_eq_false]
                  intro z
                  rcases z with z | z | z
                  · exact i1 z
                  · exact w2 z
                  · exact lt_le_no z.2 r
                · rw [if_neg r, decide_eq_true (Or.inr (Or.inr ⟨i_nle q, i_nle r⟩))]
  · rw [if_neg h, decide_eq_false h]
    rfl
theorem fl_X {u : Nat → Nat → Int32} {g : Nat → Nat → Int64} {w : Nat} (hw : w < 15) : Fx_Rd_isFullX (iN w) u g = fl w (u 32 0) (u 32 2) := by
  unfold Fx_Rd_isFullX fl
  by_cases w0 : w = 0
  · subst w0
    rw [if_pos (show iN 0 = (0 : Int32) from rfl)]
    by_cases q : 9 ≤ u 32 0
    · rw [if_pos q, decide_eq_true (Or.inl ⟨rfl, q⟩)]
    · rw [if_neg q, if_neg (show ¬ iN 0 = (11 : Int32) by decide), decide_eq_false]
      intro z
      rcases z with z | z
      · exact q z.2
      · exact absurd z.1 (by decide)
  · rw [if_neg (show ¬ iN w = (0 : Int32) from fun z => w0 ((iN_eq (b := 0) (by omega) (by omega)).mp z))]
    by_cases w1 : w = 11
    · subst w1
      rw [if_pos (show iN 11 = (11 : Int32) from rfl)]
      by_cases q : u 32 2 < 4
      · rw [if_pos q, decide_eq_false]
        intro z
        rcases z with z | z
        · exact absurd z.1 (by decide)
        · exact lt_le_no q z.2
      · rw [if_neg q, decide_eq_true (Or.inr ⟨rfl, i_nlt q⟩)]
    · rw [if_neg (show ¬ iN w = (11 : Int32) from fun z => w1 ((iN_eq (b := 11) (by omega) (by omega)).mp z)), decide_eq_false]
      intro z
      rcases z with z | z
      · exact w0 z.1
      · exact w1 z.1
theorem tk_L {u0 : Nat → Nat → Int32} {g : Nat → Nat → Int64} {w c : Nat} (hw : w < 15) (hc : c ≤ 3) : ∀ (n i : Nat) (u : Nat → Nat → Int32), c - i < n → i ≤ c → ∃ x, Fx_Rd_takeX_L36 0 (iN w) (iN c) u0 g n (iN i) u = Fx_Rd_takeForHillX (iN w) (iN c) x g ∧ (∀ b, b ≠ 29 → x b = u b) ∧ PR x = fo (fun j v => chk w j (u 32 0) (u 41 0) v) (u 41) (u 42) c i (PR u) := by
  intro n
  induction n with
  | zero => intro i u h; omega
  | succ n ih =>
    intro i u h hi
    rw [Fx_Rd_takeX_L36_s]
    by_cases k : c ≤ i
    · refine ⟨u, ?_, fun _ _ => rfl, (fo_e (by omega)).symm⟩
      rw [if_pos ((iN_le (by omega) (by omega)).mpr k), if_pos rfl]
      rfl
    · rw [if_neg (fun z => k ((iN_le (by omega) (by omega)).mp z)), if_pos rfl, iN_cl (by omega)]
      show ∃ x, (if Fx_Rd_canBeInHillX (iN w) (iN i) u g = true then Fx_Rd_takeX_L36 0 (iN w) (iN c) u0 g n (iN i + 1) u else Fx_Rd_takeX_L36 0 (iN w) (iN c) u0 g n (iN i + 1) (Fx_Rd_rememberX 2 (u 42 i) u g)) = _ ∧ _
      rw [cb_X hw (by omega), iN_s, fo_s (by omega)]
      by_cases q : chk w i (u 32 0) (u 41 0) (u 41 i) = true
      · rw [if_pos q, rmb_t q]
        exact ih (i + 1) u (by omega) (by omega)
      · rw [if_neg q, rmb_f q]
        obtain ⟨r1, r2⟩ := re_X (u := u) (g := g) (f := 2) (p := u 42 i)
        obtain ⟨x, h1, h2, h3⟩ := ih (i + 1) (Fx_Rd_rememberX 2 (u 42 i) u g) (by omega) (by omega)
        rw [r2 32 (by decide), r2 41 (by decide), r2 42 (by decide), r1] at h3
        exact ⟨x, h1, fun b hb => (h2 b hb).trans (r2 b hb), h3⟩
/-- a whole line of a hill is taken -/
theorem tk_H {u : Nat → Nat → Int32} {g : Nat → Nat → Int64} {w c : Nat} {first : Int32} (hw : w < 15) (hc : c ≤ 3) : ∃ x, Fx_Rd_takeX 0 (iN w) first (iN c) u g = Fx_Rd_takeForHillX (iN w) (iN c) x g ∧ (∀ b, b ≠ 29 → x b = u b) ∧ PR x = fo (fun j v => chk w j (u 32 0) (u 41 0) v) (u 41) (u 42) c 0 (rmb (!fl w (u 32 0) (u 32 2)) 3 first (PR u)) := by
  have e : Fx_Rd_takeX 0 (iN w) first (iN c) u g = (if Fx_Rd_isFullX (iN w) u g = true then Fx_Rd_takeX_L36 0 (iN w) (iN c) u g 4 (iN 0) (Fx_Rd_rememberX 3 first u g) else Fx_Rd_takeX_L36 0 (iN w) (iN c) u g 4 (iN 0) u) := rfl
  rw [e, fl_X hw]
  by_cases q : fl w (u 32 0) (u 32 2) = true
  · rw [if_pos q, q, rmb_f (by decide)]
    obtain ⟨r1, r2⟩ := re_X (u := u) (g := g) (f := 3) (p := first)
    obtain ⟨x, h1, h2, h3⟩ := tk_L (u0 := u) (g := g) hw hc 4 0 (Fx_Rd_rememberX 3 first u g) (by omega) (by omega)
    rw [r2 32 (by decide), r2 41 (by decide), r2 42 (by decide), r1] at h3
    exact ⟨x, h1, fun b hb => (h2 b hb).trans (r2 b hb), h3⟩
  · rw [if_neg q, (Bool.not_eq_true _).mp q, rmb_t (by decide)]
    exact tk_L (u0 := u) (g := g) hw hc 4 0 u (by omega) (by omega)
/-- the first place where a line breaks off: r numbers from p on, then the sign -/
def nb (f : Nat → Int32) (L : Nat) : Nat → Nat → Option Nat
  | 0, p => if tK f L p = 3 then none else some (tS f L p)
  | r + 1, p => if tK f L p = 2 then nb f L r (tN f L p) else some (tS f L p)
/-- the place behind r tokens -/
def sk (f : Nat → Int32) (L : Nat) : Nat → Nat → Nat
  | 0, p => p
  | r + 1, p => sk f L r (tN f L p)
theorem sk_in {f : Nat → Int32} {L : Nat} : ∀ (r p : Nat), p ≤ L → sk f L r p ≤ L := by
  intro r
  induction r with
  | zero => intro p h; exact h
  | succ r ih => intro p h; exact ih _ (tN_in h)
/-- how a line of numbers goes: with memory x, or broken off -/
theorem rl_L {u2 : Nat → Nat → Int32} {g : Nat → Nat → Int64} {L c : Nat} {k : Int32} (hb : L ≤ 600) (hc : c ≤ 3) : ∀ (n r i p : Nat) (u : Nat → Nat → Int32), r < n → i + r = c → p ≤ L → u 30 1 = iN L → u 30 2 = iN p →
    (∀ q, nb (u 2) L r p = some q → ∃ x, Fx_Rd_readLineX_L65b 0 g u2 k (iN c) n (iN i) u = (false, x) ∧ x 29 5 = 1 ∧ x 29 6 = iN q) ∧
    (nb (u 2) L r p = none → ∃ x, Fx_Rd_readLineX_L65b 0 g u2 k (iN c) n (iN i) u = (true, Fx_Rd_takeX 0 k (u2 30 4) (iN c) x g) ∧ (∀ b, b ≠ 30 → b ≠ 41 → b ≠ 42 → x b = u b) ∧ x 30 0 = u 30 0 ∧ x 30 1 = u 30 1 ∧ x 30 2 = iN (sk (u 2) L (r + 1) p) ∧
      (∀ j, j < i → x 41 j = u 41 j ∧ x 42 j = u 42 j) ∧ ∀ j, j < r → x 41 (i + j) = tV (u 2) L (sk (u 2) L j p) ∧ x 42 (i + j) = iN (tS (u 2) L (sk (u 2) L j p))) := by
  intro n
  induction n with
  | zero => intro r i p u h; omega
  | succ n ih =>
    intro r i p u hr hir hp h1 h2
    have A := ad_X (g := g) h1 hb hp h2
    have A' := A
    obtain ⟨a0, a1, a2, a3, a4, a5, a6⟩ := A'
    rw [Fx_Rd_readLineX_L65b_s]
    cases r with
    | zero =>
      rw [if_pos ((iN_le (by omega) (by omega)).mpr (by omega))]
      have e : (xq_lt (Fx_Tk_advanceX u g) fun y => if (y 30 3) = (3 : Int32) then (xq_lt (Fx_Rd_takeX 0 k (u2 30 4) (iN c) y g) fun z => (true, z)) else (xq_c2 (Fx_Rd_breaksOffX y g) fun t z => (t, z))) = (if tK (u 2) L p = 3 then (true, Fx_Rd_takeX 0 k (u2 30 4) (iN c) (Fx_Tk_advanceX u g) g) else (false, ms (ms (Fx_Tk_advanceX u g) 29 5 1) 29 6 (iN (tS (u 2) L p)))) := by
        rw [← a4, ← a5]
        rfl
      rw [e]
      unfold nb
      by_cases q : tK (u 2) L p = 3
      · rw [if_pos q, if_pos q]
        refine ⟨fun q h => (by cases h), fun _ => ⟨Fx_Tk_advanceX u g, rfl, fun b hb _ _ => a0 b hb, a1, a2, a3, fun j _ => ?_, fun j hj => by omega⟩⟩
        rw [a0 41 (by decide), a0 42 (by decide)]
        exact ⟨rfl, rfl⟩
      · rw [if_neg q, if_neg q]
        refine ⟨fun z h => ?_, fun h => (by cases h)⟩
        cases h
        exact ⟨_, rfl, rfl, rfl⟩
    | succ r =>
      rw [if_neg (fun z => by have := (iN_le (by omega) (by omega)).mp z; omega), iN_cl (by omega), iN_s]
      have e : (xq_lt (Fx_Tk_advanceX u g) fun y => if (y 30 3) = (2 : Int32) then (xq_lt (ms y 41 i (y 30 5)) fun y1 => xq_lt (ms y1 42 i (y 30 4)) fun y2 => (Fx_Rd_readLineX_L65b 0 g u2 k (iN c) n) (iN (i + 1)) y2) else (xq_c2 (Fx_Rd_breaksOffX y g) fun t z => (t, z))) = (if tK (u 2) L p = 2 then Fx_Rd_readLineX_L65b 0 g u2 k (iN c) n (iN (i + 1)) (ms (ms (Fx_Tk_advanceX u g) 41 i ((Fx_Tk_advanceX u g) 30 5)) 42 i ((Fx_Tk_advanceX u g) 30 4)) else (false, ms (ms (Fx_Tk_advanceX u g) 29 5 1) 29 6 (iN (tS (u 2) L p)))) := by
        rw [← a4, ← a5]
        rfl
      rw [e]
      unfold nb
      by_cases q : tK (u 2) L p = 2
      · rw [if_pos q, if_pos q]
        have hy2 : (ms (ms (Fx_Tk_advanceX u g) 41 i ((Fx_Tk_advanceX u g) 30 5)) 42 i ((Fx_Tk_advanceX u g) 30 4)) 2 = u 2 := a0 2 (by decide)
        obtain ⟨i1, i2⟩ := ih r (i + 1) (tN (u 2) L p) (ms (ms (Fx_Tk_advanceX u g) 41 i ((Fx_Tk_advanceX u g) 30 5)) 42 i ((Fx_Tk_advanceX u g) 30 4)) (by omega) (by omega) (tN_in hp) (a2.trans h1) a3
        rw [hy2] at i1 i2
        refine ⟨i1, fun h => ?_⟩
        obtain ⟨x, e1, e2, e3, e4, e5, e6, e7⟩ := i2 h
        refine ⟨x, e1, fun b h30 h41 h42 => ?_, e3.trans a1, e4.trans a2, e5, fun j hj => ?_, fun j hj => ?_⟩
        · rw [e2 b h30 h41 h42, ms_c1 h42, ms_c1 h41, a0 b h30]
        · obtain ⟨g1, g2⟩ := e6 j (by omega)
          rw [g1, g2]
          refine ⟨?_, ?_⟩
          · rw [ms_c1 (by decide), ms_i1 (by omega), a0 41 (by decide)]
          · rw [ms_i1 (by omega), ms_c1 (by decide), a0 42 (by decide)]
        · cases j with
          | zero =>
            obtain ⟨g1, g2⟩ := e6 i (by omega)
            rw [Nat.add_zero, g1, g2]
            refine ⟨?_, ?_⟩
            · rw [ms_c1 (by decide), ms_e1]
              exact a6 q
            · rw [ms_e1]
              exact a5
          | succ j =>
            have := e7 j (by omega)
            rw [show i + (j + 1) = i + 1 + j by omega]
            exact this
      · rw [if_neg q, if_neg q]
        refine ⟨fun z h => ?_, fun h => (by cases h)⟩
        cases h
        exact ⟨_, rfl, rfl, rfl⟩
end
section
/-! the reference's tokens -/
def byq (v : Int32) : Bool := (((v &&& 255) == 10) == (v == 10)) && (((v &&& 255) == 32) == (v == 32)) && (((v &&& 255) == 59) == (v == 59)) && ((decide (97 ≤ v &&& 255) && decide (v &&& 255 ≤ 122)) == isL v) && ((decide (48 ≤ v &&& 255) && decide (v &&& 255 ≤ 57)) == isD v) && decide (0 ≤ v &&& 255) && (!(isL v || isD v) || (v &&& 255) == v)
theorem byq_all : ∀ n, n < 256 → byq (iN n - 128) = true := by decide +kernel
theorem byq_b {v : Int32} (b : Bd (-128) 127 v) : byq v = true := by
  have b2 : Bd 0 255 (v + 128) := bd_add (l := 0) (h := 255) b (show Bd 128 128 (128 : Int32) by decide) (by decide)
  have h := byq_all (v + 128).toInt.toNat (by have := b2.2; omega)
  rw [← iN_of b2 (by decide), Int32.add_sub_cancel] at h
  exact h
theorem byq_u {v : Int32} (b : Bd (-128) 127 v) : ((v &&& 255 = 10) ↔ v = 10) ∧ ((v &&& 255 = 32) ↔ v = 32) ∧ ((v &&& 255 = 59) ↔ v = 59) ∧ (decide (97 ≤ v &&& 255) && decide (v &&& 255 ≤ 122)) = isL v ∧ (decide (48 ≤ v &&& 255) && decide (v &&& 255 ≤ 57)) = isD v ∧ 0 ≤ v &&& 255 ∧ (isL v = true ∨ isD v = true → v &&& 255 = v) := by
  have h := byq_b b
  unfold byq at h
  simp only [Bool.and_eq_true] at h
  obtain ⟨⟨⟨⟨⟨⟨h1, h2⟩, h3⟩, h4⟩, h5⟩, h6⟩, h7⟩ := h
  have t : ∀ {x y z : Int32}, ((x == y) == (z == y)) = true → (x = y ↔ z = y) := by
    intro x y z q
    have q1 := eq_of_beq q
    constructor
    · intro e
      rw [beq_iff_eq.mpr e] at q1
      exact eq_of_beq q1.symm
    · intro e
      rw [beq_iff_eq.mpr e] at q1
      exact eq_of_beq q1
  refine ⟨t h1, t h2, t h3, eq_of_beq h4, eq_of_beq h5, of_decide_eq_true h6, fun q => ?_⟩
  rcases (Bool.or_eq_true _ _).mp h7 with z | z
  · exfalso
    rcases q with q | q
    · rw [q, Bool.true_or] at z; exact absurd z (by decide)
    · rw [q, Bool.or_true] at z; exact absurd z (by decide)
  · exact eq_of_beq z
theorem in_X {v lo hi : Int32} {u : Nat → Nat → Int32} {g : Nat → Nat → Int64} : Fx_M_inEX v lo hi u g = (decide (lo ≤ v) && decide (v ≤ hi)) := by
  unfold Fx_M_inEX
  by_cases h1 : v < lo
  · rw [if_pos h1, decide_eq_false (fun q => lt_le_no h1 q)]; rfl
  · rw [if_neg h1, decide_eq_true (i_nlt h1)]
    by_cases h2 : hi < v
    · rw [if_pos h2, decide_eq_false (fun q => lt_le_no h2 q)]; rfl
    · rw [if_neg h2, decide_eq_true (i_nlt h2)]; rfl
theorem se_1 {u : Nat → Nat → Int32} {L a : Nat} (hb : L ≤ 600) (h : a < L) : mse u (iN a) (iN L) = u 163 a &&& 255 := by
  unfold mse
  rw [if_pos ((iN_lt (by omega) (by omega)).mpr h), iN_cl (by omega)]
theorem se_0 {u : Nat → Nat → Int32} {L a : Nat} (hb : L ≤ 600) (ha : a ≤ 600) (h : ¬ a < L) : mse u (iN a) (iN L) = -1 := by
  unfold mse
  rw [if_neg (fun q => h ((iN_lt (by omega) (by omega)).mp q))]
theorem ml_ml {g : Nat → Nat → Int64} {a i : Nat} {x y : Int64} : ml (ml g a i x) a i y = ml g a i y := by
  funext b
  unfold ml
  by_cases h : b = a
  · rw [if_pos h, if_pos h, if_pos rfl]
    funext j
    unfold vp_updL
    by_cases q : j = i
    · rw [if_pos q, if_pos q]
    · rw [if_neg q, if_neg q, if_neg q]
  · rw [if_neg h, if_neg h, if_neg h]
theorem ml_e {g : Nat → Nat → Int64} {a i : Nat} {x : Int64} : ml g a i x a i = x := by
  unfold ml
  rw [if_pos rfl]
  unfold vp_updL
  rw [if_pos rfl]
/-- letters, packed -/
def pf (f : Nat → Int32) (L a : Nat) (w : Int64) : Int64 := if a < L ∧ isL (f a) = true then pf f L (a + 1) ((w <<< ((8 : Int32).toInt64 &&& 63)) ||| (f a).toInt64) else w
termination_by L - a
decreasing_by omega
theorem pf_s {f : Nat → Int32} {L a : Nat} {w : Int64} (h1 : a < L) (h2 : isL (f a) = true) : pf f L a w = pf f L (a + 1) ((w <<< ((8 : Int32).toInt64 &&& 63)) ||| (f a).toInt64) := by rw [pf, if_pos ⟨h1, h2⟩]
theorem pf_e {f : Nat → Int32} {L a : Nat} {w : Int64} (h : ¬ (a < L ∧ isL (f a) = true)) : pf f L a w = w := by rw [pf, if_neg h]
def wv (f : Nat → Int32) (L a : Nat) : Int64 := if run isL f L a - a ≤ 8 then pf f L a 0 else 0
theorem in_m {u w : Nat → Nat → Int32} {g : Nat → Nat → Int64} {L a : Nat} {lo hi : Int32} (hb : L ≤ 600) (ha : a ≤ 600) (hlo : 0 ≤ lo) (hh : lo ≤ hi) : Fx_M_inEX (mse u (iN a) (iN L)) lo hi w g = true ↔ a < L ∧ (decide (lo ≤ u 163 a &&& 255) && decide (u 163 a &&& 255 ≤ hi)) = true := by
  rw [in_X]
  by_cases h : a < L
  · rw [se_1 hb h]
    exact ⟨fun q => ⟨h, q⟩, fun q => q.2⟩
  · rw [se_0 hb ha h]
    constructor
    · intro q
      have := of_decide_eq_true ((Bool.and_eq_true _ _).mp q).1
      have h1 := Int32.le_iff_toInt_le.mp this
      have h2 := Int32.le_iff_toInt_le.mp hlo
      have e1 : (-1 : Int32).toInt = -1 := rfl
      have e0 : (0 : Int32).toInt = 0 := rfl
      omega
    · intro q; exact absurd q.1 h
theorem mw_L {u : Nat → Nat → Int32} {L : Nat} (h9 : u 162 9 = iN L) (hb : L ≤ 600) (hf : ∀ j, j < L → Bd (-128) 127 (u 163 j)) : ∀ (n a k : Nat) (w : Nat → Nat → Int32) (g : Nat → Nat → Int64), L - a < n → a ≤ L → k ≤ a → w 162 8 = iN a →
    Fx_M_tokenX_L74 u n (iN k) w g = (ms (ms w 162 8 (iN (run isL (u 163) L a))) 162 11 2, ml g 162 13 (if k + (run isL (u 163) L a - a) ≤ 8 then pf (u 163) L a (g 162 13) else 0)) := by
  intro n
  induction n with
  | zero => intro a k w g h; omega
  | succ n ih =>
    intro a k w g h ha hk hw
    rw [Fx_M_tokenX_L74_s, h9, hw]
    have hi := in_m (u := u) (w := w) (g := g) (L := L) (a := a) (lo := 97) (hi := 122) hb (by omega) (by decide) (by decide)
    by_cases c : a < L ∧ isL (u 163 a) = true
    · obtain ⟨b1, b2, b3, b4, b5, b6, b7⟩ := byq_u (hf a c.1)
      have em : mse u (iN a) (iN L) = u 163 a := (se_1 hb c.1).trans (b7 (Or.inl c.2))
      have e : (xq_lt (Fx_M_inEX (mse u (iN a) (iN L)) (97 : Int32) (122 : Int32) w g) fun t => if t = true then (xq_lt (g 162 13) fun l1 => xq_lt (l1 <<< ((8 : Int32).toInt64 &&& 63)) fun l2 => xq_lt ((mse u (iN a) (iN L)).toInt64) fun l3 => xq_lt (l2 ||| l3) fun l4 => xq_lt (ml g 162 13 l4) fun g2 => xq_lt (ms w 162 8 (iN a + 1)) fun w2 => (Fx_M_tokenX_L74 u n) (iN k + 1) w2 g2) else (if iN k ≤ (8 : Int32) then (xq_lt (g 162 13) fun l5 => Fx_M_tokenX_J136 w g l5) else (Fx_M_tokenX_J136 w g (0 : Int64)))) = Fx_M_tokenX_L74 u n (iN (k + 1)) (ms w 162 8 (iN (a + 1))) (ml g 162 13 ((g 162 13 <<< ((8 : Int32).toInt64 &&& 63)) ||| (u 163 a).toInt64)) := by
        show (if Fx_M_inEX (mse u (iN a) (iN L)) (97 : Int32) (122 : Int32) w g = true then _ else _) = _
        rw [if_pos (hi.mpr ⟨c.1, b4.trans c.2⟩), em, iN_s, iN_s]
        rfl
      rw [e, ih (a + 1) (k + 1) (ms w 162 8 (iN (a + 1))) _ (by omega) (by omega) (by omega) ms_e1, ms_ms, ml_ml, ml_e, pf_s c.1 c.2, run_s c.1 c.2]
      have hr := run_le (p := isL) (f := u 163) (L := L) (a + 1)
      rw [show k + 1 + (run isL (u 163) L (a + 1) - (a + 1)) = k + (run isL (u 163) L (a + 1) - a) by omega]
    · have hn : ¬ Fx_M_inEX (mse u (iN a) (iN L)) (97 : Int32) (122 : Int32) w g = true := by
        intro q
        obtain ⟨q1, q2⟩ := hi.mp q
        exact c ⟨q1, ((byq_u (hf a q1)).2.2.2.1).symm.trans q2⟩
      rw [run_e c, pf_e c, Nat.sub_self, Nat.add_zero]
      show (if Fx_M_inEX (mse u (iN a) (iN L)) (97 : Int32) (122 : Int32) w g = true then _ else _) = _
      rw [if_neg hn, ← hw, ms_self]
      by_cases q : k ≤ 8
      · rw [if_pos (show iN k ≤ (8 : Int32) from (iN_le (b := 8) (by omega) (by omega)).mpr q), if_pos q]
        rfl
      · rw [if_neg (show ¬ iN k ≤ (8 : Int32) from fun z => q ((iN_le (b := 8) (by omega) (by omega)).mp z)), if_neg q]
        rfl
theorem dg_1 {v m : Int32} : 10 * v + m - 48 = v * 10 + (m - 48) := by
  rw [Int32.sub_eq_add_neg, Int32.sub_eq_add_neg, Int32.add_assoc, Int32.mul_comm]
theorem dg_0 {m : Int32} : 0 + m - 48 = 0 * 10 + (m - 48) := by
  rw [Int32.zero_mul, Int32.zero_add, Int32.zero_add]
theorem md_L {u : Nat → Nat → Int32} {g0 : Nat → Nat → Int64} {L : Nat} (h9 : u 162 9 = iN L) (hb : L ≤ 600) (hf : ∀ j, j < L → Bd (-128) 127 (u 163 j)) : ∀ (n a k : Nat) (w : Nat → Nat → Int32), L - a < n → a ≤ L → k ≤ a → w 162 8 = iN a →
    ∃ x, Fx_M_tokenX_L163 u g0 n (iN k) w = (ms x 162 11 (if k + (run isD (u 163) L a - a) ≤ 3 then 3 else 1), g0) ∧ (∀ b, b ≠ 162 → x b = w b) ∧ (∀ j, j ≠ 8 → j ≠ 12 → x 162 j = w 162 j) ∧ x 162 8 = iN (run isD (u 163) L a) ∧ (k + (run isD (u 163) L a - a) ≤ 3 → x 162 12 = dgv (u 163) L a (w 162 12)) := by
  intro n
  induction n with
  | zero => intro a k w h; omega
  | succ n ih =>
    intro a k w h ha hk hw
    rw [Fx_M_tokenX_L163_s, h9, hw]
    have hi := in_m (u := u) (w := w) (g := g0) (L := L) (a := a) (lo := 48) (hi := 57) hb (by omega) (by decide) (by decide)
    by_cases c : a < L ∧ isD (u 163 a) = true
    · obtain ⟨b1, b2, b3, b4, b5, b6, b7⟩ := byq_u (hf a c.1)
      have em : mse u (iN a) (iN L) = u 163 a := (se_1 hb c.1).trans (b7 (Or.inr c.2))
      have hr := run_le (p := isD) (f := u 163) (L := L) (a + 1)
      have e : (xq_lt (Fx_M_inEX (mse u (iN a) (iN L)) (48 : Int32) (57 : Int32) w g0) fun t => if t = true then (if (3 : Int32) ≤ iN k then (xq_lt (ms w 162 12 (w 162 12)) fun w1 => xq_lt (ms w1 162 8 (iN a + 1)) fun w2 => (Fx_M_tokenX_L163 u g0 n) (iN k + 1) w2) else (xq_lt (ms w 162 12 ((((10 : Int32) * (w 162 12)) + (mse u (iN a) (iN L))) - 48)) fun w3 => xq_lt (ms w3 162 8 (iN a + 1)) fun w4 => (Fx_M_tokenX_L163 u g0 n) (iN k + 1) w4)) else (if iN k ≤ (3 : Int32) then (xq_lt (ms w 162 11 3) fun w5 => (w5, g0)) else (xq_lt (ms w 162 11 1) fun w6 => (w6, g0)))) = (if (3 : Int32) ≤ iN k then Fx_M_tokenX_L163 u g0 n (iN (k + 1)) (ms w 162 8 (iN (a + 1))) else Fx_M_tokenX_L163 u g0 n (iN (k + 1)) (ms (ms w 162 12 (w 162 12 * 10 + (u 163 a - 48))) 162 8 (iN (a + 1)))) := by
        show (if Fx_M_inEX (mse u (iN a) (iN L)) (48 : Int32) (57 : Int32) w g0 = true then _ else _) = _
        rw [if_pos (hi.mpr ⟨c.1, b5.trans c.2⟩), em, iN_s, iN_s, dg_1, ms_self]
        rfl
      rw [e, run_s c.1 c.2]
      by_cases q : 3 ≤ k
      · rw [if_pos (show (3 : Int32) ≤ iN k from (iN_le (a := 3) (by omega) (by omega)).mpr q)]
        obtain ⟨x, x1, x2, x3, x4, x5⟩ := ih (a + 1) (k + 1) (ms w 162 8 (iN (a + 1))) (by omega) (by omega) (by omega) ms_e1
        rw [show k + 1 + (run isD (u 163) L (a + 1) - (a + 1)) = k + (run isD (u 163) L (a + 1) - a) by omega] at x1
        exact ⟨x, x1, fun b hb => (x2 b hb).trans (ms_c1 hb), fun j j8 j12 => (x3 j j8 j12).trans (ms_i1 j8), x4, fun z => by omega⟩
      · rw [if_neg (show ¬ (3 : Int32) ≤ iN k from fun z => q ((iN_le (a := 3) (by omega) (by omega)).mp z))]
        obtain ⟨x, x1, x2, x3, x4, x5⟩ := ih (a + 1) (k + 1) (ms (ms w 162 12 (w 162 12 * 10 + (u 163 a - 48))) 162 8 (iN (a + 1))) (by omega) (by omega) (by omega) ms_e1
        rw [show k + 1 + (run isD (u 163) L (a + 1) - (a + 1)) = k + (run isD (u 163) L (a + 1) - a) by omega] at x1 x5
        refine ⟨x, x1, fun b hb => ((x2 b hb).trans (ms_c1 hb)).trans (ms_c1 hb), fun j j8 j12 => ((x3 j j8 j12).trans (ms_i1 j8)).trans (ms_i1 j12), x4, fun z => ?_⟩
        rw [x5 z, dgv_s c.1 c.2, ms_i1 (by decide), ms_e1]
    · have hn : ¬ Fx_M_inEX (mse u (iN a) (iN L)) (48 : Int32) (57 : Int32) w g0 = true := by
        intro q
        obtain ⟨q1, q2⟩ := hi.mp q
        exact c ⟨q1, ((byq_u (hf a q1)).2.2.2.2.1).symm.trans q2⟩
      rw [run_e c, dgv_e c, Nat.sub_self, Nat.add_zero]
      refine ⟨w, ?_, fun _ _ => rfl, fun _ _ _ => rfl, hw, fun _ => rfl⟩
      show (if Fx_M_inEX (mse u (iN a) (iN L)) (48 : Int32) (57 : Int32) w g0 = true then _ else _) = _
      rw [if_neg hn]
      by_cases q : k ≤ 3
      · rw [if_pos (show iN k ≤ (3 : Int32) from (iN_le (b := 3) (by omega) (by omega)).mpr q), if_pos q]
        rfl
      · rw [if_neg (show ¬ iN k ≤ (3 : Int32) from fun z => q ((iN_le (b := 3) (by omega) (by omega)).mp z)), if_neg q]
        rfl
/-- the reference's number of a token's sort -/
def km (k : Int32) : Int32 := if k = 0 then 0 else if k = 1 then 2 else if k = 2 then 3 else if k = 3 then 4 else 1
/-- the token at a is read -/
def TKR (v : Nat → Nat → Int32) (g : Nat → Nat → Int64) (f : Nat → Int32) (L a : Nat) : Prop := v 162 8 = iN (tN f L a) ∧ v 162 10 = iN (tS f L a) ∧ v 162 11 = km (tK f L a) ∧ (tK f L a = 2 → v 162 12 = tV f L a) ∧ (tK f L a = 1 → g 162 13 = wv f L (tS f L a))
def TF (x v : Nat → Nat → Int32) : Prop := (∀ b, b ≠ 162 → x b = v b) ∧ ∀ j, j ≠ 8 → j ≠ 10 → j ≠ 11 → j ≠ 12 → x 162 j = v 162 j
theorem mt_L {u : Nat → Nat → Int32} {g : Nat → Nat → Int64} {L : Nat} (h9 : u 162 9 = iN L) (hb : L ≤ 600) (hf : ∀ j, j < L → Bd (-128) 127 (u 163 j)) : ∀ (n a : Nat) (w : Nat → Nat → Int32), L - a < n → a ≤ L → w 162 8 = iN a → TKR (Fx_M_tokenX_L0 u g n w).1 (Fx_M_tokenX_L0 u g n w).2 (u 163) L a ∧ TF (Fx_M_tokenX_L0 u g n w).1 w := by
  intro n
  induction n with
  | zero => intro a w h; omega
  | succ n ih =>
    intro a w h ha hw
    rw [Fx_M_tokenX_L0_s, h9, hw]
    simp only [xq_lt]
    by_cases c : a < L
    · obtain ⟨b1, b2, b3, b4, b5, b6, b7⟩ := byq_u (hf a c)
      rw [se_1 hb c]
      by_cases q : isB (u 163 a) = true
      · obtain ⟨e1, e2, e3, e4⟩ := tk_b c q
        obtain ⟨⟨t1, t2, t3, t4, t5⟩, t6, t7⟩ := ih (a + 1) (ms w 162 8 (iN (a + 1))) (by omega) (by omega) ms_e1
        have R : TKR (Fx_M_tokenX_L0 u g n (ms w 162 8 (iN (a + 1)))).1 (Fx_M_tokenX_L0 u g n (ms w 162 8 (iN (a + 1)))).2 (u 163) L a ∧ TF (Fx_M_tokenX_L0 u g n (ms w 162 8 (iN (a + 1)))).1 w := by
          refine ⟨⟨by rw [e3]; exact t1, by rw [e1]; exact t2, by rw [e2]; exact t3, fun z => ?_, fun z => ?_⟩, fun b hb => (t6 b hb).trans (ms_c1 hb), fun j j8 j10 j11 j12 => (t7 j j8 j10 j11 j12).trans (ms_i1 j8)⟩
          · rw [e4]; exact t4 (e2 ▸ z)
          · rw [e1]; exact t5 (e2 ▸ z)
        by_cases z : u 163 a = 10
        · rw [if_pos (b1.mpr z), iN_s]
          exact R
        · have z2 : u 163 a = 32 := by
            unfold isB at q
            rw [beq_eq_false_iff_ne.mpr z, Bool.false_or] at q
            exact eq_of_beq q
          rw [if_neg (fun y => z (b1.mp y)), if_pos (b2.mpr z2), iN_s]
          exact R
      · have z1 : ¬ u 163 a = 10 := fun z => q (by unfold isB; rw [z]; rfl)
        have z2 : ¬ u 163 a = 32 := fun z => q (by unfold isB; rw [z]; rfl)
        have hS : tS (u 163) L a = a := run_e (fun z => q z.2)
        have hn : ¬ L ≤ tS (u 163) L a := by rw [hS]; omega
        rw [if_neg (fun y => z1 (b1.mp y)), if_neg (fun y => z2 (b2.mp y)), if_pos b6]
        simp only [in_X, b4, b5]
        by_cases l : isL (u 163 a) = true
        · rw [if_pos l, if_pos l]
          obtain ⟨k1, k2⟩ := tk_1 hn (by rw [hS]; exact l)
          rw [hS] at k2
          rw [b7 (Or.inl l), iN_s]
          have hm := mw_L h9 hb hf ((600 - ((ms (ms w 162 10 (iN a)) 162 8 (iN (a + 1))) 162 8).toInt).toNat + 1) (a + 1) 1 (ms (ms w 162 10 (iN a)) 162 8 (iN (a + 1))) (ml (ml g 162 13 0) 162 13 ((ml g 162 13 0 162 13 <<< ((8 : Int32).toInt64 &&& 63)) ||| (u 163 a).toInt64)) (by rw [ms_e1, iN_ti (by omega)]; omega) (by omega) (by omega) ms_e1
          rw [show (iN 1 : Int32) = 1 from rfl] at hm
          rw [hm]
          have hr := run_le (p := isL) (f := u 163) (L := L) (a + 1)
          refine ⟨⟨?_, ?_, ?_, fun z => ?_, fun _ => ?_⟩, fun b hb => ?_, fun j j8 j10 j11 j12 => ?_⟩
          · rw [k2, run_s c l, ms_ms]; rfl
          · rw [hS]; rfl
          · rw [k1]; rfl
          · rw [k1] at z; exact absurd z (by decide)
          · dsimp only
            rw [ml_e, ml_e, ml_e, hS]
            unfold wv
            rw [pf_s c l, run_s c l, show 1 + (run isL (u 163) L (a + 1) - (a + 1)) = run isL (u 163) L (a + 1) - a by omega]
          · show ms (ms (ms (ms w 162 10 (iN a)) 162 8 _) 162 8 _) 162 11 2 b = w b
            rw [ms_c1 hb, ms_c1 hb, ms_c1 hb, ms_c1 hb]
          · show ms (ms (ms (ms w 162 10 (iN a)) 162 8 _) 162 8 _) 162 11 2 162 j = w 162 j
            rw [ms_i1 j11, ms_i1 j8, ms_i1 j8, ms_i1 j10]
        · rw [if_neg l]
          by_cases d : isD (u 163 a) = true
          · rw [if_pos d, if_pos d]
            obtain ⟨k1, k2⟩ := tk_2 hn (by rw [hS]; exact l) (by rw [hS]; exact d)
            rw [hS] at k1 k2
            rw [b7 (Or.inr d), iN_s, dg_0]
            have hm := md_L (g0 := ml g 162 13 0) h9 hb hf ((600 - ((ms (ms (ms (ms w 162 10 (iN a)) 162 12 0) 162 12 (0 * 10 + (u 163 a - 48))) 162 8 (iN (a + 1))) 162 8).toInt).toNat + 1) (a + 1) 1 (ms (ms (ms (ms w 162 10 (iN a)) 162 12 0) 162 12 (0 * 10 + (u 163 a - 48))) 162 8 (iN (a + 1))) (by rw [ms_e1, iN_ti (by omega)]; omega) (by omega) (by omega) ms_e1
            rw [show (iN 1 : Int32) = 1 from rfl] at hm
            obtain ⟨x, x1, x2, x3, x4, x5⟩ := hm
            rw [x1]
            have hr := run_le (p := isD) (f := u 163) (L := L) (a + 1)
            have er : 1 + (run isD (u 163) L (a + 1) - (a + 1)) = run isD (u 163) L a - a := by rw [run_s c d]; omega
            rw [er] at x5 ⊢
            refine ⟨⟨?_, ?_, ?_, fun z => ?_, fun z => ?_⟩, fun b hb => ?_, fun j j8 j10 j11 j12 => ?_⟩
            · rw [k2, run_s c d]; exact x4
            · rw [hS]; exact x3 10 (by decide) (by decide)
            · rw [k1]
              by_cases y : 3 < run isD (u 163) L a - a
              · rw [if_pos y, if_neg (by omega)]; rfl
              · rw [if_neg y, if_pos (by omega)]; rfl
            · rw [k1] at z
              by_cases y : 3 < run isD (u 163) L a - a
              · rw [if_pos y] at z; exact absurd z (by decide)
              · have e5 := x5 (by omega)
                unfold tV
                rw [hS, dgv_s c d]
                exact e5
            · rw [k1] at z
              by_cases y : 3 < run isD (u 163) L a - a
              · rw [if_pos y] at z; exact absurd z (by decide)
              · rw [if_neg y] at z; exact absurd z (by decide)
            · show ms x 162 11 _ b = w b
              rw [ms_c1 hb, x2 b hb, ms_c1 hb, ms_c1 hb, ms_c1 hb, ms_c1 hb]
            · show ms x 162 11 _ 162 j = w 162 j
              rw [ms_i1 j11, x3 j j8 j12, ms_i1 j8, ms_i1 j12, ms_i1 j12, ms_i1 j10]
          · rw [if_neg d]
            obtain ⟨k1, k2⟩ := tk_3 hn (by rw [hS]; exact l) (by rw [hS]; exact d)
            rw [hS] at k1 k2
            by_cases y : u 163 a = 59
            · rw [if_pos y] at k1
              rw [if_pos (b3.mpr y), iN_s]
              refine ⟨⟨by rw [k2]; rfl, by rw [hS]; rfl, by rw [k1]; rfl, fun z => ?_, fun z => ?_⟩, fun b hb => ?_, fun j j8 j10 j11 j12 => ?_⟩
              · rw [k1] at z; exact absurd z (by decide)
              · rw [k1] at z; exact absurd z (by decide)
              · show ms (ms (ms w 162 10 _) 162 8 _) 162 11 4 b = w b
                rw [ms_c1 hb, ms_c1 hb, ms_c1 hb]
              · show ms (ms (ms w 162 10 _) 162 8 _) 162 11 4 162 j = w 162 j
                rw [ms_i1 j11, ms_i1 j8, ms_i1 j10]
            · rw [if_neg y] at k1
              rw [if_neg (fun z => y (b3.mp z)), iN_s]
              refine ⟨⟨by rw [k2]; rfl, by rw [hS]; rfl, by rw [k1]; rfl, fun z => ?_, fun z => ?_⟩, fun b hb => ?_, fun j j8 j10 j11 j12 => ?_⟩
              · rw [k1] at z; exact absurd z (by decide)
              · rw [k1] at z; exact absurd z (by decide)
              · show ms (ms (ms w 162 10 _) 162 8 _) 162 11 1 b = w b
                rw [ms_c1 hb, ms_c1 hb, ms_c1 hb]
              · show ms (ms (ms w 162 10 _) 162 8 _) 162 11 1 162 j = w 162 j
                rw [ms_i1 j11, ms_i1 j8, ms_i1 j10]
    · have hS : tS (u 163) L a = a := run_e (fun z => c z.1)
      have hn : L ≤ tS (u 163) L a := by rw [hS]; omega
      obtain ⟨k1, k2⟩ := tk_0 hn
      rw [se_0 hb (by omega) c, if_neg (show ¬ (-1 : Int32) = 10 by decide), if_neg (show ¬ (-1 : Int32) = 32 by decide), if_neg (show ¬ (0 : Int32) ≤ -1 by decide)]
      refine ⟨⟨by rw [k2, hS]; exact hw, by rw [hS]; rfl, by rw [k1]; rfl, fun z => ?_, fun z => ?_⟩, fun b hb => ?_, fun j j8 j10 j11 j12 => ?_⟩
      · rw [k1] at z; exact absurd z (by decide)
      · rw [k1] at z; exact absurd z (by decide)
      · show ms (ms w 162 10 _) 162 11 0 b = w b
        rw [ms_c1 hb, ms_c1 hb]
      · show ms (ms w 162 10 _) 162 11 0 162 j = w 162 j
        rw [ms_i1 j11, ms_i1 j10]
theorem mt_X {u : Nat → Nat → Int32} {g : Nat → Nat → Int64} {L a : Nat} (h9 : u 162 9 = iN L) (hb : L ≤ 600) (hf : ∀ j, j < L → Bd (-128) 127 (u 163 j)) (ha : a ≤ L) (h8 : u 162 8 = iN a) : TKR (Fx_M_tokenX u g).1 (Fx_M_tokenX u g).2 (u 163) L a ∧ TF (Fx_M_tokenX u g).1 u := by
  have e : Fx_M_tokenX u g = Fx_M_tokenX_L0 u g ((600 - (u 162 8).toInt).toNat + 1) u := rfl
  rw [e, h8, iN_ti (by omega)]
  exact mt_L h9 hb hf _ a u (by omega) ha h8
end
section
/-! words of the reference: packed letters -/
theorem lg_0 {x y : Int64} : (lg_cmp x y = 0) ↔ x = y := by
  unfold lg_cmp
  by_cases h : x > y
  · rw [if_pos h]
    refine ⟨fun q => absurd q (by decide), fun q => ?_⟩
    rw [q] at h
    exact absurd h Int64.lt_irrefl
  · rw [if_neg h]
    by_cases q : x = y
    · rw [if_pos q]; exact ⟨fun _ => q, fun _ => rfl⟩
    · rw [if_neg q]; exact ⟨fun z => absurd z (by decide), fun z => absurd z q⟩
def tb (x : Int64) : Nat := x.toBitVec.toNat
theorem tb_inj {x y : Int64} (h : tb x = tb y) : x = y := Int64.toBitVec_inj.mp (BitVec.eq_of_toNat_eq h)
theorem ls_b {v : Int32} (h : isL v = true) : Bd 97 122 v := by
  unfold isL at h
  obtain ⟨h1, h2⟩ := (Bool.and_eq_true _ _).mp h
  have e1 := Int32.le_iff_toInt_le.mp (of_decide_eq_true h1)
  have e2 := Int32.le_iff_toInt_le.mp (of_decide_eq_true h2)
  exact ⟨e1, e2⟩
theorem tb_32 {v : Int32} {lo hi : Int} (b : Bd lo hi v) (h : 0 ≤ lo) : tb v.toInt64 = v.toInt.toNat := by
  have h1 : v.toInt64.toInt = v.toInt := Int32.toInt_toInt64 v
  have h2 : v.toInt64.toInt = v.toInt64.toBitVec.toInt := rfl
  have h3 := BitVec.toInt_eq_toNat_cond v.toInt64.toBitVec
  have h4 := b.1
  have h5 := v.toInt64.toBitVec.isLt
  unfold tb
  rw [h2, h3] at h1
  split at h1 <;> omega
theorem tb_sh {x : Int64} {v : Int32} (hx : tb x < 2 ^ 56) (b : Bd 0 255 v) : tb ((x <<< ((8 : Int32).toInt64 &&& 63)) ||| v.toInt64) = tb x * 256 + v.toInt.toNat := by
  have e8 : (((8 : Int32).toInt64 &&& 63).toBitVec.smod 64).toNat = 8 := by decide
  have h1 : ((x <<< ((8 : Int32).toInt64 &&& 63)) ||| v.toInt64).toBitVec = (x.toBitVec <<< (((8 : Int32).toInt64 &&& 63).toBitVec.smod 64)) ||| v.toInt64.toBitVec := by
    rw [Int64.toBitVec_or, Int64.toBitVec_shiftLeft]
  have h2 := tb_32 b (by decide)
  unfold tb at hx h2 ⊢
  rw [h1, BitVec.toNat_or, h2, BitVec.shiftLeft_eq', e8, BitVec.toNat_shiftLeft, Nat.mod_eq_of_lt (by rw [Nat.shiftLeft_eq]; omega), ← Nat.shiftLeft_add_eq_or_of_lt (by have := b.2; have := b.1; omega), Nat.shiftLeft_eq]
/-- letters, the last first -/
def lr (f : Nat → Int32) (s : Nat) : Nat → List Nat
  | 0 => []
  | n + 1 => (f (s + n)).toInt.toNat :: lr f s n
def pr : List Nat → Nat
  | [] => 0
  | c :: l => pr l * 256 + c
theorem pr_inj : ∀ (l m : List Nat), (∀ c ∈ l, 0 < c ∧ c < 256) → (∀ c ∈ m, 0 < c ∧ c < 256) → pr l = pr m → l = m
  | [], [], _, _, _ => rfl
  | [], c :: m, _, h2, h => by
    have := h2 c List.mem_cons_self
    have e : pr ([] : List Nat) = 0 := rfl
    have e2 : pr (c :: m) = pr m * 256 + c := rfl
    omega
  | c :: l, [], h1, _, h => by
    have := h1 c List.mem_cons_self
    have e : pr ([] : List Nat) = 0 := rfl
    have e2 : pr (c :: l) = pr l * 256 + c := rfl
    omega
  | c :: l, e :: m, h1, h2, h => by
    have a1 := h1 c List.mem_cons_self
    have a2 := h2 e List.mem_cons_self
    have e1 : pr (c :: l) = pr l * 256 + c := rfl
    have e2 : pr (e :: m) = pr m * 256 + e := rfl
    have h3 : c = e := by omega
    have h4 : pr l = pr m := by omega
    rw [h3, pr_inj l m (fun q hq => h1 q (List.mem_cons_of_mem _ hq)) (fun q hq => h2 q (List.mem_cons_of_mem _ hq)) h4]
theorem lr_in {f : Nat → Int32} {s : Nat} : ∀ n, (∀ j, s ≤ j → j < s + n → isL (f j) = true) → ∀ c ∈ lr f s n, 0 < c ∧ c < 256 := by
  intro n
  induction n with
  | zero => intro _ c hc; cases hc
  | succ n ih =>
    intro h c hc
    rcases List.mem_cons.mp hc with q | q
    · have b := ls_b (h (s + n) (by omega) (by omega))
      have := b.1
      have := b.2
      omega
    · exact ih (fun j h1 h2 => h j h1 (by omega)) c q
theorem pr_lt {f : Nat → Int32} {s : Nat} : ∀ n, (∀ j, s ≤ j → j < s + n → isL (f j) = true) → pr (lr f s n) < 256 ^ n := by
  intro n
  induction n with
  | zero => intro _; exact Nat.zero_lt_one
  | succ n ih =>
    intro h
    have h1 := ih (fun j q1 q2 => h j q1 (by omega))
    have b := ls_b (h (s + n) (by omega) (by omega))
    have e : pr (lr f s (n + 1)) = pr (lr f s n) * 256 + (f (s + n)).toInt.toNat := rfl
    have := b.1
    have := b.2
    rw [e, Nat.pow_succ]
    omega
theorem pf_n {f : Nat → Int32} {L s : Nat} : ∀ (n a : Nat) (w : Int64), L - a ≤ n → s ≤ a → (∀ j, s ≤ j → j < a → isL (f j) = true) → run isL f L a - s ≤ 8 → tb w = pr (lr f s (a - s)) → tb (pf f L a w) = pr (lr f s (run isL f L a - s)) := by
  intro n
  induction n with
  | zero =>
    intro a w h hs hl hr hw
    rw [pf_e (fun q => by omega), run_e (fun q => by omega)]
    exact hw
  | succ n ih =>
    intro a w h hs hl hr hw
    by_cases c : a < L ∧ isL (f a) = true
    · rw [pf_s c.1 c.2, run_s c.1 c.2]
      rw [run_s c.1 c.2] at hr
      have hr2 := run_le (p := isL) (f := f) (L := L) (a + 1)
      have b := ls_b c.2
      have hp : pr (lr f s (a - s)) < 256 ^ (a - s) := pr_lt (a - s) (fun j q1 q2 => hl j q1 (by omega))
      have hq : 256 ^ (a - s) ≤ 256 ^ 7 := Nat.pow_le_pow_right (by decide) (by omega)
      have e7 : (256 : Nat) ^ 7 = 2 ^ 56 := by decide
      refine ih (a + 1) _ (by omega) (by omega) (fun j q1 q2 => ?_) hr ?_
      · by_cases z : j = a
        · rw [z]; exact c.2
        · exact hl j q1 (by omega)
      · rw [tb_sh (by omega) (bd_w b (by decide)), hw, show a + 1 - s = (a - s) + 1 by omega]
        show _ = pr (lr f s (a - s)) * 256 + (f (s + (a - s))).toInt.toNat
        rw [show s + (a - s) = a by omega]
    · rw [pf_e c, run_e c]
      exact hw
theorem lt_n {v : Int32} {c : Nat} (h : isL v = true) (hc : c ≤ 255) : v.toInt.toNat = c ↔ v = iN c := by
  have b := ls_b h
  have := b.1
  constructor
  · intro q
    refine Int32.toInt_inj.mp ?_
    rw [iN_ti (by omega)]
    omega
  · intro q
    rw [q, iN_ti (by omega)]
    omega
/-- the i-th word's letters, the last first -/
def cl (i : Nat) : List Nat := ((sBy.getD i []).map (fun c => c.toInt.toNat)).reverse
theorem cl_in : ∀ i, i < 18 → ∀ c ∈ cl i, 0 < c ∧ c < 256 := by decide +kernel
theorem cl_len : ∀ i, i < 18 → (cl i).length = sLn.getD i 0 := by decide +kernel
theorem lr_len {f : Nat → Int32} {s : Nat} : ∀ n, (lr f s n).length = n
  | 0 => rfl
  | n + 1 => congrArg (· + 1) (lr_len n)
theorem wd_0 {f : Nat → Int32} {s : Nat} (hl : ∀ j, s ≤ j → j < s + 4 → isL (f j) = true) : lr f s 4 = cl 0 ↔ wq f s (sBy.getD 0 []) = true := by
  have a0 := lt_n (c := 112) (hl (s + 0) (by omega) (by omega)) (by decide)
  have a1 := lt_n (c := 111) (hl (s + 1) (by omega) (by omega)) (by decide)
  have a2 := lt_n (c := 110) (hl (s + 2) (by omega) (by omega)) (by decide)
  have a3 := lt_n (c := 100) (hl (s + 3) (by omega) (by omega)) (by decide)
  show [(f (s + 3)).toInt.toNat, (f (s + 2)).toInt.toNat, (f (s + 1)).toInt.toNat, (f (s + 0)).toInt.toNat] = [100, 110, 111, 112] ↔ ((f (s) == 112) && ((f (s + 1) == 111) && ((f (s + 1 + 1) == 110) && ((f (s + 1 + 1 + 1) == 100) && true)))) = true
  simp only [List.cons.injEq, and_true, Bool.and_true, Bool.and_eq_true, beq_iff_eq]
  constructor
  · rintro ⟨h3, h2, h1, h0⟩
    exact ⟨a0.mp h0, a1.mp h1, a2.mp h2, a3.mp h3⟩
  · rintro ⟨h0, h1, h2, h3⟩
    exact ⟨a3.mpr h3, a2.mpr h2, a1.mpr h1, a0.mpr h0⟩
theorem wd_1 {f : Nat → Int32} {s : Nat} (hl : ∀ j, s ≤ j → j < s + 4 → isL (f j) = true) : lr f s 4 = cl 1 ↔ wq f s (sBy.getD 1 []) = true := by
  have a0 := lt_n (c := 100) (hl (s + 0) (by omega) (by omega)) (by decide)
  have a1 := lt_n (c := 111) (hl (s + 1) (by omega) (by omega)) (by decide)
  have a2 := lt_n (c := 119) (hl (s + 2) (by omega) (by omega)) (by decide)
  have a3 := lt_n (c := 110) (hl (s + 3) (by omega) (by omega)) (by decide)
  show [(f (s + 3)).toInt.toNat, (f (s + 2)).toInt.toNat, (f (s + 1)).toInt.toNat, (f (s + 0)).toInt.toNat] = [110, 119, 111, 100] ↔ ((f (s) == 100) && ((f (s + 1) == 111) && ((f (s + 1 + 1) == 119) && ((f (s + 1 + 1 + 1) == 110) && true)))) = true
  simp only [List.cons.injEq, and_true, Bool.and_true, Bool.and_eq_true, beq_iff_eq]
  constructor
  · rintro ⟨h3, h2, h1, h0⟩
    exact ⟨a0.mp h0, a1.mp h1, a2.mp h2, a3.mp h3⟩
  · rintro ⟨h0, h1, h2, h3⟩
    exact ⟨a3.mpr h3, a2.mpr h2, a1.mpr h1, a0.mpr h0⟩
theorem wd_2 {f : Nat → Int32} {s : Nat} (hl : ∀ j, s ≤ j → j < s + 5 → isL (f j) = true) : lr f s 5 = cl 2 ↔ wq f s (sBy.getD 2 []) = true := by
  have a0 := lt_n (c := 97) (hl (s + 0) (by omega) (by omega)) (by decide)
  have a1 := lt_n (c := 115) (hl (s + 1) (by omega) (by omega)) (by decide)
  have a2 := lt_n (c := 105) (hl (s + 2) (by omega) (by omega)) (by decide)
  have a3 := lt_n (c := 100) (hl (s + 3) (by omega) (by omega)) (by decide)
  have a4 := lt_n (c := 101) (hl (s + 4) (by omega) (by omega)) (by decide)
  show [(f (s + 4)).toInt.toNat, (f (s + 3)).toInt.toNat, (f (s + 2)).toInt.toNat, (f (s + 1)).toInt.toNat, (f (s + 0)).toInt.toNat] = [101, 100, 105, 115, 97] ↔ ((f (s) == 97) && ((f (s + 1) == 115) && ((f (s + 1 + 1) == 105) && ((f (s + 1 + 1 + 1) == 100) && ((f (s + 1 + 1 + 1 + 1) == 101) && true))))) = true
  simp only [List.cons.injEq, and_true, Bool.and_true, Bool.and_eq_true, beq_iff_eq]
  constructor
  · rintro ⟨h4, h3, h2, h1, h0⟩
    exact ⟨a0.mp h0, a1.mp h1, a2.mp h2, a3.mp h3, a4.mp h4⟩
  · rintro ⟨h0, h1, h2, h3, h4⟩
    exact ⟨a4.mpr h4, a3.mpr h3, a2.mpr h2, a1.mpr h1, a0.mpr h0⟩
theorem wd_3 {f : Nat → Int32} {s : Nat} (hl : ∀ j, s ≤ j → j < s + 5 → isL (f j) = true) : lr f s 5 = cl 3 ↔ wq f s (sBy.getD 3 []) = true := by
  have a0 := lt_n (c := 98) (hl (s + 0) (by omega) (by omega)) (by decide)
  have a1 := lt_n (c := 101) (hl (s + 1) (by omega) (by omega)) (by decide)
  have a2 := lt_n (c := 97) (hl (s + 2) (by omega) (by omega)) (by decide)
  have a3 := lt_n (c := 114) (hl (s + 3) (by omega) (by omega)) (by decide)
  have a4 := lt_n (c := 115) (hl (s + 4) (by omega) (by omega)) (by decide)
  show [(f (s + 4)).toInt.toNat, (f (s + 3)).toInt.toNat, (f (s + 2)).toInt.toNat, (f (s + 1)).toInt.toNat, (f (s + 0)).toInt.toNat] = [115, 114, 97, 101, 98] ↔ ((f (s) == 98) && ((f (s + 1) == 101) && ((f (s + 1 + 1) == 97) && ((f (s + 1 + 1 + 1) == 114) && ((f (s + 1 + 1 + 1 + 1) == 115) && true))))) = true
  simp only [List.cons.injEq, and_true, Bool.and_true, Bool.and_eq_true, beq_iff_eq]
  constructor
  · rintro ⟨h4, h3, h2, h1, h0⟩
    exact ⟨a0.mp h0, a1.mp h1, a2.mp h2, a3.mp h3, a4.mp h4⟩
  · rintro ⟨h0, h1, h2, h3, h4⟩
    exact ⟨a4.mpr h4, a3.mpr h3, a2.mpr h2, a1.mpr h1, a0.mpr h0⟩
theorem wd_4 {f : Nat → Int32} {s : Nat} (hl : ∀ j, s ≤ j → j < s + 4 → isL (f j) = true) : lr f s 4 = cl 4 ↔ wq f s (sBy.getD 4 []) = true := by
  have a0 := lt_n (c := 103) (hl (s + 0) (by omega) (by omega)) (by decide)
  have a1 := lt_n (c := 111) (hl (s + 1) (by omega) (by omega)) (by decide)
  have a2 := lt_n (c := 101) (hl (s + 2) (by omega) (by omega)) (by decide)
  have a3 := lt_n (c := 115) (hl (s + 3) (by omega) (by omega)) (by decide)
  show [(f (s + 3)).toInt.toNat, (f (s + 2)).toInt.toNat, (f (s + 1)).toInt.toNat, (f (s + 0)).toInt.toNat] = [115, 101, 111, 103] ↔ ((f (s) == 103) && ((f (s + 1) == 111) && ((f (s + 1 + 1) == 101) && ((f (s + 1 + 1 + 1) == 115) && true)))) = true
  simp only [List.cons.injEq, and_true, Bool.and_true, Bool.and_eq_true, beq_iff_eq]
  constructor
  · rintro ⟨h3, h2, h1, h0⟩
    exact ⟨a0.mp h0, a1.mp h1, a2.mp h2, a3.mp h3⟩
  · rintro ⟨h0, h1, h2, h3⟩
    exact ⟨a3.mpr h3, a2.mpr h2, a1.mpr h1, a0.mpr h0⟩
theorem wd_5 {f : Nat → Int32} {s : Nat} (hl : ∀ j, s ≤ j → j < s + 4 → isL (f j) = true) : lr f s 4 = cl 5 ↔ wq f s (sBy.getD 5 []) = true := by
  have a0 := lt_n (c := 104) (hl (s + 0) (by omega) (by omega)) (by decide)
  have a1 := lt_n (c := 97) (hl (s + 1) (by omega) (by omega)) (by decide)
  have a2 := lt_n (c := 114) (hl (s + 2) (by omega) (by omega)) (by decide)
  have a3 := lt_n (c := 109) (hl (s + 3) (by omega) (by omega)) (by decide)
  show [(f (s + 3)).toInt.toNat, (f (s + 2)).toInt.toNat, (f (s + 1)).toInt.toNat, (f (s + 0)).toInt.toNat] = [109, 114, 97, 104] ↔ ((f (s) == 104) && ((f (s + 1) == 97) && ((f (s + 1 + 1) == 114) && ((f (s + 1 + 1 + 1) == 109) && true)))) = true
  simp only [List.cons.injEq, and_true, Bool.and_true, Bool.and_eq_true, beq_iff_eq]
  constructor
  · rintro ⟨h3, h2, h1, h0⟩
    exact ⟨a0.mp h0, a1.mp h1, a2.mp h2, a3.mp h3⟩
  · rintro ⟨h0, h1, h2, h3⟩
    exact ⟨a3.mpr h3, a2.mpr h2, a1.mpr h1, a0.mpr h0⟩
theorem wd_6 {f : Nat → Int32} {s : Nat} (hl : ∀ j, s ≤ j → j < s + 5 → isL (f j) = true) : lr f s 5 = cl 6 ↔ wq f s (sBy.getD 6 []) = true := by
  have a0 := lt_n (c := 111) (hl (s + 0) (by omega) (by omega)) (by decide)
  have a1 := lt_n (c := 119) (hl (s + 1) (by omega) (by omega)) (by decide)
  have a2 := lt_n (c := 110) (hl (s + 2) (by omega) (by omega)) (by decide)
  have a3 := lt_n (c := 101) (hl (s + 3) (by omega) (by omega)) (by decide)
  have a4 := lt_n (c := 114) (hl (s + 4) (by omega) (by omega)) (by decide)
  show [(f (s + 4)).toInt.toNat, (f (s + 3)).toInt.toNat, (f (s + 2)).toInt.toNat, (f (s + 1)).toInt.toNat, (f (s + 0)).toInt.toNat] = [114, 101, 110, 119, 111] ↔ ((f (s) == 111) && ((f (s + 1) == 119) && ((f (s + 1 + 1) == 110) && ((f (s + 1 + 1 + 1) == 101) && ((f (s + 1 + 1 + 1 + 1) == 114) && true))))) = true
  simp only [List.cons.injEq, and_true, Bool.and_true, Bool.and_eq_true, beq_iff_eq]
  constructor
  · rintro ⟨h4, h3, h2, h1, h0⟩
    exact ⟨a0.mp h0, a1.mp h1, a2.mp h2, a3.mp h3, a4.mp h4⟩
  · rintro ⟨h0, h1, h2, h3, h4⟩
    exact ⟨a4.mpr h4, a3.mpr h3, a2.mpr h2, a1.mpr h1, a0.mpr h0⟩
theorem wd_7 {f : Nat → Int32} {s : Nat} (hl : ∀ j, s ≤ j → j < s + 4 → isL (f j) = true) : lr f s 4 = cl 7 ↔ wq f s (sBy.getD 7 []) = true := by
  have a0 := lt_n (c := 114) (hl (s + 0) (by omega) (by omega)) (by decide)
  have a1 := lt_n (c := 105) (hl (s + 1) (by omega) (by omega)) (by decide)
  have a2 := lt_n (c := 99) (hl (s + 2) (by omega) (by omega)) (by decide)
  have a3 := lt_n (c := 101) (hl (s + 3) (by omega) (by omega)) (by decide)
  show [(f (s + 3)).toInt.toNat, (f (s + 2)).toInt.toNat, (f (s + 1)).toInt.toNat, (f (s + 0)).toInt.toNat] = [101, 99, 105, 114] ↔ ((f (s) == 114) && ((f (s + 1) == 105) && ((f (s + 1 + 1) == 99) && ((f (s + 1 + 1 + 1) == 101) && true)))) = true
  simp only [List.cons.injEq, and_true, Bool.and_true, Bool.and_eq_true, beq_iff_eq]
  constructor
  · rintro ⟨h3, h2, h1, h0⟩
    exact ⟨a0.mp h0, a1.mp h1, a2.mp h2, a3.mp h3⟩
  · rintro ⟨h0, h1, h2, h3⟩
    exact ⟨a3.mpr h3, a2.mpr h2, a1.mpr h1, a0.mpr h0⟩
theorem wd_8 {f : Nat → Int32} {s : Nat} (hl : ∀ j, s ≤ j → j < s + 3 → isL (f j) = true) : lr f s 3 = cl 8 ↔ wq f s (sBy.getD 8 []) = true := by
  have a0 := lt_n (c := 119) (hl (s + 0) (by omega) (by omega)) (by decide)
  have a1 := lt_n (c := 97) (hl (s + 1) (by omega) (by omega)) (by decide)
  have a2 := lt_n (c := 121) (hl (s + 2) (by omega) (by omega)) (by decide)
  show [(f (s + 2)).toInt.toNat, (f (s + 1)).toInt.toNat, (f (s + 0)).toInt.toNat] = [121, 97, 119] ↔ ((f (s) == 119) && ((f (s + 1) == 97) && ((f (s + 1 + 1) == 121) && true))) = true
  simp only [List.cons.injEq, and_true, Bool.and_true, Bool.and_eq_true, beq_iff_eq]
  constructor
  · rintro ⟨h2, h1, h0⟩
    exact ⟨a0.mp h0, a1.mp h1, a2.mp h2⟩
  · rintro ⟨h0, h1, h2⟩
    exact ⟨a2.mpr h2, a1.mpr h1, a0.mpr h0⟩
theorem wd_9 {f : Nat → Int32} {s : Nat} (hl : ∀ j, s ≤ j → j < s + 4 → isL (f j) = true) : lr f s 4 = cl 9 ↔ wq f s (sBy.getD 9 []) = true := by
  have a0 := lt_n (c := 103) (hl (s + 0) (by omega) (by omega)) (by decide)
  have a1 := lt_n (c := 97) (hl (s + 1) (by omega) (by omega)) (by decide)
  have a2 := lt_n (c := 116) (hl (s + 2) (by omega) (by omega)) (by decide)
  have a3 := lt_n (c := 101) (hl (s + 3) (by omega) (by omega)) (by decide)
  show [(f (s + 3)).toInt.toNat, (f (s + 2)).toInt.toNat, (f (s + 1)).toInt.toNat, (f (s + 0)).toInt.toNat] = [101, 116, 97, 103] ↔ ((f (s) == 103) && ((f (s + 1) == 97) && ((f (s + 1 + 1) == 116) && ((f (s + 1 + 1 + 1) == 101) && true)))) = true
  simp only [List.cons.injEq, and_true, Bool.and_true, Bool.and_eq_true, beq_iff_eq]
  constructor
  · rintro ⟨h3, h2, h1, h0⟩
    exact ⟨a0.mp h0, a1.mp h1, a2.mp h2, a3.mp h3⟩
  · rintro ⟨h0, h1, h2, h3⟩
    exact ⟨a3.mpr h3, a2.mpr h2, a1.mpr h1, a0.mpr h0⟩
theorem wd_10 {f : Nat → Int32} {s : Nat} (hl : ∀ j, s ≤ j → j < s + 4 → isL (f j) = true) : lr f s 4 = cl 10 ↔ wq f s (sBy.getD 10 []) = true := by
  have a0 := lt_n (c := 115) (hl (s + 0) (by omega) (by omega)) (by decide)
  have a1 := lt_n (c := 105) (hl (s + 1) (by omega) (by omega)) (by decide)
  have a2 := lt_n (c := 103) (hl (s + 2) (by omega) (by omega)) (by decide)
  have a3 := lt_n (c := 110) (hl (s + 3) (by omega) (by omega)) (by decide)
  show [(f (s + 3)).toInt.toNat, (f (s + 2)).toInt.toNat, (f (s + 1)).toInt.toNat, (f (s + 0)).toInt.toNat] = [110, 103, 105, 115] ↔ ((f (s) == 115) && ((f (s + 1) == 105) && ((f (s + 1 + 1) == 103) && ((f (s + 1 + 1 + 1) == 110) && true)))) = true
  simp only [List.cons.injEq, and_true, Bool.and_true, Bool.and_eq_true, beq_iff_eq]
  constructor
  · rintro ⟨h3, h2, h1, h0⟩
    exact ⟨a0.mp h0, a1.mp h1, a2.mp h2, a3.mp h3⟩
  · rintro ⟨h0, h1, h2, h3⟩
    exact ⟨a3.mpr h3, a2.mpr h2, a1.mpr h1, a0.mpr h0⟩
theorem wd_11 {f : Nat → Int32} {s : Nat} (hl : ∀ j, s ≤ j → j < s + 4 → isL (f j) = true) : lr f s 4 = cl 11 ↔ wq f s (sBy.getD 11 []) = true := by
  have a0 := lt_n (c := 114) (hl (s + 0) (by omega) (by omega)) (by decide)
  have a1 := lt_n (c := 97) (hl (s + 1) (by omega) (by omega)) (by decide)
  have a2 := lt_n (c := 105) (hl (s + 2) (by omega) (by omega)) (by decide)
  have a3 := lt_n (c := 110) (hl (s + 3) (by omega) (by omega)) (by decide)
  show [(f (s + 3)).toInt.toNat, (f (s + 2)).toInt.toNat, (f (s + 1)).toInt.toNat, (f (s + 0)).toInt.toNat] = [110, 105, 97, 114] ↔ ((f (s) == 114) && ((f (s + 1) == 97) && ((f (s + 1 + 1) == 105) && ((f (s + 1 + 1 + 1) == 110) && true)))) = true
  simp only [List.cons.injEq, and_true, Bool.and_true, Bool.and_eq_true, beq_iff_eq]
  constructor
  · rintro ⟨h3, h2, h1, h0⟩
    exact ⟨a0.mp h0, a1.mp h1, a2.mp h2, a3.mp h3⟩
  · rintro ⟨h0, h1, h2, h3⟩
    exact ⟨a3.mpr h3, a2.mpr h2, a1.mpr h1, a0.mpr h0⟩
theorem wd_12 {f : Nat → Int32} {s : Nat} (hl : ∀ j, s ≤ j → j < s + 4 → isL (f j) = true) : lr f s 4 = cl 12 ↔ wq f s (sBy.getD 12 []) = true := by
  have a0 := lt_n (c := 109) (hl (s + 0) (by omega) (by omega)) (by decide)
  have a1 := lt_n (c := 101) (hl (s + 1) (by omega) (by omega)) (by decide)
  have a2 := lt_n (c := 110) (hl (s + 2) (by omega) (by omega)) (by decide)
  have a3 := lt_n (c := 100) (hl (s + 3) (by omega) (by omega)) (by decide)
  show [(f (s + 3)).toInt.toNat, (f (s + 2)).toInt.toNat, (f (s + 1)).toInt.toNat, (f (s + 0)).toInt.toNat] = [100, 110, 101, 109] ↔ ((f (s) == 109) && ((f (s + 1) == 101) && ((f (s + 1 + 1) == 110) && ((f (s + 1 + 1 + 1) == 100) && true)))) = true
  simp only [List.cons.injEq, and_true, Bool.and_true, Bool.and_eq_true, beq_iff_eq]
  constructor
  · rintro ⟨h3, h2, h1, h0⟩
    exact ⟨a0.mp h0, a1.mp h1, a2.mp h2, a3.mp h3⟩
  · rintro ⟨h0, h1, h2, h3⟩
    exact ⟨a3.mpr h3, a2.mpr h2, a1.mpr h1, a0.mpr h0⟩
theorem wd_13 {f : Nat → Int32} {s : Nat} (hl : ∀ j, s ≤ j → j < s + 4 → isL (f j) = true) : lr f s 4 = cl 13 ↔ wq f s (sBy.getD 13 []) = true := by
  have a0 := lt_n (c := 119) (hl (s + 0) (by omega) (by omega)) (by decide)
  have a1 := lt_n (c := 105) (hl (s + 1) (by omega) (by omega)) (by decide)
  have a2 := lt_n (c := 100) (hl (s + 2) (by omega) (by omega)) (by decide)
  have a3 := lt_n (c := 101) (hl (s + 3) (by omega) (by omega)) (by decide)
  show [(f (s + 3)).toInt.toNat, (f (s + 2)).toInt.toNat, (f (s + 1)).toInt.toNat, (f (s + 0)).toInt.toNat] = [101, 100, 105, 119] ↔ ((f (s) == 119) && ((f (s + 1) == 105) && ((f (s + 1 + 1) == 100) && ((f (s + 1 + 1 + 1) == 101) && true)))) = true
  simp only [List.cons.injEq, and_true, Bool.and_true, Bool.and_eq_true, beq_iff_eq]
  constructor
  · rintro ⟨h3, h2, h1, h0⟩
    exact ⟨a0.mp h0, a1.mp h1, a2.mp h2, a3.mp h3⟩
  · rintro ⟨h0, h1, h2, h3⟩
    exact ⟨a3.mpr h3, a2.mpr h2, a1.mpr h1, a0.mpr h0⟩
theorem wd_14 {f : Nat → Int32} {s : Nat} (hl : ∀ j, s ≤ j → j < s + 5 → isL (f j) = true) : lr f s 5 = cl 14 ↔ wq f s (sBy.getD 14 []) = true := by
  have a0 := lt_n (c := 114) (hl (s + 0) (by omega) (by omega)) (by decide)
  have a1 := lt_n (c := 111) (hl (s + 1) (by omega) (by omega)) (by decide)
  have a2 := lt_n (c := 117) (hl (s + 2) (by omega) (by omega)) (by decide)
  have a3 := lt_n (c := 110) (hl (s + 3) (by omega) (by omega)) (by decide)
  have a4 := lt_n (c := 100) (hl (s + 4) (by omega) (by omega)) (by decide)
  show [(f (s + 4)).toInt.toNat, (f (s + 3)).toInt.toNat, (f (s + 2)).toInt.toNat, (f (s + 1)).toInt.toNat, (f (s + 0)).toInt.toNat] = [100, 110, 117, 111, 114] ↔ ((f (s) == 114) && ((f (s + 1) == 111) && ((f (s + 1 + 1) == 117) && ((f (s + 1 + 1 + 1) == 110) && ((f (s + 1 + 1 + 1 + 1) == 100) && true))))) = true
  simp only [List.cons.injEq, and_true, Bool.and_true, Bool.and_eq_true, beq_iff_eq]
  constructor
  · rintro ⟨h4, h3, h2, h1, h0⟩
    exact ⟨a0.mp h0, a1.mp h1, a2.mp h2, a3.mp h3, a4.mp h4⟩
  · rintro ⟨h0, h1, h2, h3, h4⟩
    exact ⟨a4.mpr h4, a3.mpr h3, a2.mpr h2, a1.mpr h1, a0.mpr h0⟩
theorem wd_15 {f : Nat → Int32} {s : Nat} (hl : ∀ j, s ≤ j → j < s + 3 → isL (f j) = true) : lr f s 3 = cl 15 ↔ wq f s (sBy.getD 15 []) = true := by
  have a0 := lt_n (c := 108) (hl (s + 0) (by omega) (by omega)) (by decide)
  have a1 := lt_n (c := 111) (hl (s + 1) (by omega) (by omega)) (by decide)
  have a2 := lt_n (c := 119) (hl (s + 2) (by omega) (by omega)) (by decide)
  show [(f (s + 2)).toInt.toNat, (f (s + 1)).toInt.toNat, (f (s + 0)).toInt.toNat] = [119, 111, 108] ↔ ((f (s) == 108) && ((f (s + 1) == 111) && ((f (s + 1 + 1) == 119) && true))) = true
  simp only [List.cons.injEq, and_true, Bool.and_true, Bool.and_eq_true, beq_iff_eq]
  constructor
  · rintro ⟨h2, h1, h0⟩
    exact ⟨a0.mp h0, a1.mp h1, a2.mp h2⟩
  · rintro ⟨h0, h1, h2⟩
    exact ⟨a2.mpr h2, a1.mpr h1, a0.mpr h0⟩
theorem wd_16 {f : Nat → Int32} {s : Nat} (hl : ∀ j, s ≤ j → j < s + 5 → isL (f j) = true) : lr f s 5 = cl 16 ↔ wq f s (sBy.getD 16 []) = true := by
  have a0 := lt_n (c := 119) (hl (s + 0) (by omega) (by omega)) (by decide)
  have a1 := lt_n (c := 105) (hl (s + 1) (by omega) (by omega)) (by decide)
  have a2 := lt_n (c := 100) (hl (s + 2) (by omega) (by omega)) (by decide)
  have a3 := lt_n (c := 101) (hl (s + 3) (by omega) (by omega)) (by decide)
  have a4 := lt_n (c := 110) (hl (s + 4) (by omega) (by omega)) (by decide)
  show [(f (s + 4)).toInt.toNat, (f (s + 3)).toInt.toNat, (f (s + 2)).toInt.toNat, (f (s + 1)).toInt.toNat, (f (s + 0)).toInt.toNat] = [110, 101, 100, 105, 119] ↔ ((f (s) == 119) && ((f (s + 1) == 105) && ((f (s + 1 + 1) == 100) && ((f (s + 1 + 1 + 1) == 101) && ((f (s + 1 + 1 + 1 + 1) == 110) && true))))) = true
  simp only [List.cons.injEq, and_true, Bool.and_true, Bool.and_eq_true, beq_iff_eq]
  constructor
  · rintro ⟨h4, h3, h2, h1, h0⟩
    exact ⟨a0.mp h0, a1.mp h1, a2.mp h2, a3.mp h3, a4.mp h4⟩
  · rintro ⟨h0, h1, h2, h3, h4⟩
    exact ⟨a4.mpr h4, a3.mpr h3, a2.mpr h2, a1.mpr h1, a0.mpr h0⟩
theorem wd_17 {f : Nat → Int32} {s : Nat} (hl : ∀ j, s ≤ j → j < s + 3 → isL (f j) = true) : lr f s 3 = cl 17 ↔ wq f s (sBy.getD 17 []) = true := by
  have a0 := lt_n (c := 111) (hl (s + 0) (by omega) (by omega)) (by decide)
  have a1 := lt_n (c := 117) (hl (s + 1) (by omega) (by omega)) (by decide)
  have a2 := lt_n (c := 116) (hl (s + 2) (by omega) (by omega)) (by decide)
  show [(f (s + 2)).toInt.toNat, (f (s + 1)).toInt.toNat, (f (s + 0)).toInt.toNat] = [116, 117, 111] ↔ ((f (s) == 111) && ((f (s + 1) == 117) && ((f (s + 1 + 1) == 116) && true))) = true
  simp only [List.cons.injEq, and_true, Bool.and_true, Bool.and_eq_true, beq_iff_eq]
  constructor
  · rintro ⟨h2, h1, h0⟩
    exact ⟨a0.mp h0, a1.mp h1, a2.mp h2⟩
  · rintro ⟨h0, h1, h2⟩
    exact ⟨a2.mpr h2, a1.mpr h1, a0.mpr h0⟩
def kW (i : Nat) : Int64 := [1886350948, 1685026670, 418548114533, 422607680115, 1735353715, 1751216749, 478745093490, 1919509349, 7823737, 1734440037, 1936287598, 1918986606, 1835363940, 2003395685, 491496238692, 7106423, 512869295470, 7304564].getD i 0
theorem kW_tb : ∀ i, i < 18 → tb (kW i) = pr (cl i) := by decide +kernel
theorem wd_all {f : Nat → Int32} {s i : Nat} (hi : i < 18) (hl : ∀ j, s ≤ j → j < s + sLn.getD i 0 → isL (f j) = true) : lr f s (sLn.getD i 0) = cl i ↔ wq f s (sBy.getD i []) = true := by
  rcases (show i = 0 ∨ i = 1 ∨ i = 2 ∨ i = 3 ∨ i = 4 ∨ i = 5 ∨ i = 6 ∨ i = 7 ∨ i = 8 ∨ i = 9 ∨ i = 10 ∨ i = 11 ∨ i = 12 ∨ i = 13 ∨ i = 14 ∨ i = 15 ∨ i = 16 ∨ i = 17 by omega) with h | h | h | h | h | h | h | h | h | h | h | h | h | h | h | h | h | h
  · subst h; exact wd_0 hl
  · subst h; exact wd_1 hl
  · subst h; exact wd_2 hl
  · subst h; exact wd_3 hl
  · subst h; exact wd_4 hl
  · subst h; exact wd_5 hl
  · subst h; exact wd_6 hl
  · subst h; exact wd_7 hl
  · subst h; exact wd_8 hl
  · subst h; exact wd_9 hl
  · subst h; exact wd_10 hl
  · subst h; exact wd_11 hl
  · subst h; exact wd_12 hl
  · subst h; exact wd_13 hl
  · subst h; exact wd_14 hl
  · subst h; exact wd_15 hl
  · subst h; exact wd_16 hl
  · subst h; exact wd_17 hl
/-- the packed word is the i-th just where the letters are -/
theorem wv_i {f : Nat → Int32} {L s i : Nat} (hi : i < 18) (hs : s < L) (hl : isL (f s) = true) : lg_cmp (wv f L s) (kW i) = 0 ↔ wm f s (run isL f L s) i = true := by
  have hr := run_le (p := isL) (f := f) (L := L) s
  have ha := run_all (p := isL) (f := f) (L := L) s
  have h5 := sln_le i
  have hc := cl_len i hi
  rw [lg_0]
  unfold wv wm
  by_cases c : run isL f L s - s ≤ 8
  · rw [if_pos c]
    have e := pf_n (f := f) (L := L) (s := s) (L - s) s 0 (Nat.le_refl _) (Nat.le_refl _) (fun j q1 q2 => by omega) c (by rw [Nat.sub_self]; rfl)
    have hin : ∀ q ∈ lr f s (run isL f L s - s), 0 < q ∧ q < 256 := lr_in _ (fun j q1 q2 => ha j q1 (by omega))
    have key : pf f L s 0 = kW i ↔ lr f s (run isL f L s - s) = cl i := by
      constructor
      · intro q
        refine pr_inj _ _ hin (cl_in i hi) ?_
        rw [← e, ← kW_tb i hi, q]
      · intro q
        refine tb_inj ?_
        rw [e, q, kW_tb i hi]
    rw [key]
    by_cases z : run isL f L s = s + sLn.getD i 0
    · rw [decide_eq_true z, Bool.true_and, show run isL f L s - s = sLn.getD i 0 by omega]
      exact wd_all hi (fun j q1 q2 => ha j q1 (by omega))
    · rw [decide_eq_false z, Bool.false_and]
      refine ⟨fun q => ?_, fun q => absurd q (by decide)⟩
      have := congrArg List.length q
      rw [lr_len, hc] at this
      omega
  · rw [if_neg c]
    have z : ¬ run isL f L s = s + sLn.getD i 0 := by omega
    rw [decide_eq_false z, Bool.false_and]
    refine ⟨fun q => ?_, fun q => absurd q (by decide)⟩
    have k0 : ∀ i, i < 18 → ¬ (0 : Int64) = kW i := by decide +kernel
    exact absurd q (k0 i hi)
theorem kW_n : ∀ i, i < 18 → ¬ (0 : Int64) = kW i := by decide +kernel
theorem sB_inj : ∀ i, i < 18 → ∀ j, j < 18 → sBy.getD i [] = sBy.getD j [] → i = j := by decide +kernel
theorem wq_eq {f : Nat → Int32} : ∀ (l m : List Int32) (s : Nat), l.length = m.length → wq f s l = true → wq f s m = true → l = m
  | [], [], _, _, _, _ => rfl
  | [], _ :: _, _, h, _, _ => by cases h
  | _ :: _, [], _, h, _, _ => by cases h
  | c :: l, e :: m, s, h, h1, h2 => by
    obtain ⟨a1, a2⟩ := (Bool.and_eq_true _ _).mp (show ((f s == c) && wq f (s + 1) l) = true from h1)
    obtain ⟨b1, b2⟩ := (Bool.and_eq_true _ _).mp (show ((f s == e) && wq f (s + 1) m) = true from h2)
    rw [← eq_of_beq a1, ← eq_of_beq b1, wq_eq l m (s + 1) (Nat.succ.inj h) a2 b2]
theorem wm_u {f : Nat → Int32} {s e i j : Nat} (hi : i < 18) (hj : j < 18) (h1 : wm f s e i = true) (h2 : wm f s e j = true) : i = j := by
  obtain ⟨a1, a2⟩ := (Bool.and_eq_true _ _).mp h1
  obtain ⟨b1, b2⟩ := (Bool.and_eq_true _ _).mp h2
  have c1 := of_decide_eq_true a1
  have c2 := of_decide_eq_true b1
  refine sB_inj i hi j hj (wq_eq _ _ s ?_ a2 b2)
  rw [← sB_len i hi, ← sB_len j hj]
  omega
/-- the word that the reference sees -/
def rw0 (v : Nat → Nat → Int32) (g : Nat → Nat → Int64) : Int64 := if v 162 11 = 2 then g 162 13 else 0
theorem km_2 {f : Nat → Int32} {L a : Nat} : km (tK f L a) = 2 ↔ tK f L a = 1 := by
  unfold km
  by_cases h0 : tK f L a = 0
  · rw [if_pos h0, h0]; decide
  · rw [if_neg h0]
    by_cases h1 : tK f L a = 1
    · rw [if_pos h1]; exact ⟨fun _ => h1, fun _ => rfl⟩
    · rw [if_neg h1]
      refine ⟨?_, fun q => absurd q h1⟩
      split
      · exact fun q => absurd q (by decide)
      · split <;> exact fun q => absurd q (by decide)
theorem tk_L1 {f : Nat → Int32} {L a : Nat} (h : tK f L a = 1) : tS f L a < L ∧ isL (f (tS f L a)) = true ∧ tN f L a = run isL f L (tS f L a) := by
  have h0 : ¬ L ≤ tS f L a := fun q => by rw [(tk_0 q).1] at h; exact absurd h (by decide)
  by_cases q : isL (f (tS f L a)) = true
  · exact ⟨by omega, q, (tk_1 h0 q).2⟩
  · exfalso
    unfold tK at h
    rw [if_neg h0, if_neg q] at h
    revert h
    split
    · split <;> decide
    · split <;> decide
theorem rw_i {v : Nat → Nat → Int32} {g : Nat → Nat → Int64} {f : Nat → Int32} {L a i : Nat} (hi : i < 18) (h : TKR v g f L a) : lg_cmp (rw0 v g) (kW i) = 0 ↔ wk f (tS f L a) (tN f L a) (tK f L a) i = true := by
  obtain ⟨-, -, h3, -, h5⟩ := h
  unfold rw0 wk
  by_cases c : tK f L a = 1
  · rw [if_pos (by rw [h3]; exact km_2.mpr c), h5 c, decide_eq_true c, Bool.true_and]
    obtain ⟨c1, c2, c3⟩ := tk_L1 c
    rw [c3]
    exact wv_i hi c1 c2
  · rw [if_neg (fun q => c (km_2.mp (h3 ▸ q))), decide_eq_false c, Bool.false_and, lg_0]
    exact ⟨fun q => absurd q (kW_n i hi), fun q => absurd q (by decide)⟩
end
section
/-! the reference's lines: what it remembers, numbers -/
def OR (P : Int32 × Int32) (t : Nat) : Prop := ¬ P.1 = 0 → P.2 < iN t
theorem or_w {P : Int32 × Int32} {t t2 : Nat} (h : OR P t) (ht : t ≤ t2) (h6 : t2 ≤ 100000) : OR P t2 := by
  intro q
  have h1 := Int32.lt_iff_toInt_lt.mp (h q)
  rw [iN_ti (by omega)] at h1
  rw [Int32.lt_iff_toInt_lt, iN_ti h6]
  omega
theorem or_rm {P : Int32 × Int32} {f : Int32} {t t2 : Nat} (h : OR P t) (ht : t < t2) (h6 : t2 ≤ 100000) : OR (rm P f (iN t)) t2 := by
  unfold rm
  by_cases q : P.1 = 0
  · rw [if_pos q]
    intro _
    exact (iN_lt (by omega) h6).mpr ht
  · rw [if_neg q]
    exact or_w h (Nat.le_of_lt ht) h6
theorem or_rmb {P : Int32 × Int32} {f : Int32} {b : Bool} {t t2 : Nat} (h : OR P t) (ht : t < t2) (h6 : t2 ≤ 100000) : OR (rmb b f (iN t) P) t2 := by
  by_cases q : b = true
  · rw [rmb_t q]; exact or_w h (Nat.le_of_lt ht) h6
  · rw [rmb_f q]; exact or_rm h ht h6
/-- what the reference has remembered -/
def LT (v : Nat → Nat → Int32) (P : Int32 × Int32) : Prop := v 162 15 = P.1 ∧ (¬ P.1 = 0 → v 162 16 = P.2)
theorem la_X {v : Nat → Nat → Int32} {g : Nat → Nat → Int64} {P : Int32 × Int32} {f : Int32} {t : Nat} (h : LT v P) (o : OR P t) : LT (Fx_M_laterX f (iN t) v g) (rm P f (iN t)) ∧ (∀ b, b ≠ 162 → Fx_M_laterX f (iN t) v g b = v b) ∧ ∀ j, j ≠ 15 → j ≠ 16 → Fx_M_laterX f (iN t) v g 162 j = v 162 j := by
  obtain ⟨h1, h2⟩ := h
  unfold Fx_M_laterX
  simp only [xq_lt]
  rw [h1]
  by_cases z : P.1 = 0
  · rw [if_pos z]
    refine ⟨?_, fun b hb => (ms_c1 hb).trans (ms_c1 hb), fun j j15 j16 => (ms_i1 j16).trans (ms_i1 j15)⟩
    unfold rm
    rw [if_pos z]
    exact ⟨rfl, fun _ => rfl⟩
  · have o1 := o z
    rw [if_neg z, h2 z, if_neg (fun q => lt_lt_no q o1), if_neg (fun q => by rw [q] at o1; exact Int32.lt_irrefl o1)]
    refine ⟨?_, fun _ _ => rfl, fun _ _ _ => rfl⟩
    unfold rm
    rw [if_neg z]
    exact ⟨h1, h2⟩
/-- the reference's reader, the token at a read -/
def RSv (v : Nat → Nat → Int32) (g : Nat → Nat → Int64) (f : Nat → Int32) (L a : Nat) (P : Int32 × Int32) (R : Nat → Int32) : Prop := v 163 = f ∧ v 162 9 = iN L ∧ TKR v g f L a ∧ LT v P ∧ v 170 = R
def okn (low high v : Int32) : Bool := decide (low ≤ v) && decide (v ≤ high)
theorem km_3 {f : Nat → Int32} {L a : Nat} : km (tK f L a) = 3 ↔ tK f L a = 2 := by
  unfold km
  by_cases h0 : tK f L a = 0
  · rw [if_pos h0, h0]; decide
  · rw [if_neg h0]
    by_cases h1 : tK f L a = 1
    · rw [if_pos h1, h1]; decide
    · rw [if_neg h1]
      by_cases h2 : tK f L a = 2
      · rw [if_pos h2]; exact ⟨fun _ => h2, fun _ => rfl⟩
      · rw [if_neg h2]
        refine ⟨?_, fun q => absurd q h2⟩
        split <;> exact fun q => absurd q (by decide)
theorem km_4 {f : Nat → Int32} {L a : Nat} : km (tK f L a) = 4 ↔ tK f L a = 3 := by
  unfold km
  by_cases h0 : tK f L a = 0
  · rw [if_pos h0, h0]; decide
  · rw [if_neg h0]
    by_cases h1 : tK f L a = 1
    · rw [if_pos h1, h1]; decide
    · rw [if_neg h1]
      by_cases h2 : tK f L a = 2
      · rw [if_pos h2, h2]; decide
      · rw [if_neg h2]
        by_cases h3 : tK f L a = 3
        · rw [if_pos h3]; exact ⟨fun _ => h3, fun _ => rfl⟩
        · rw [if_neg h3]
          exact ⟨fun q => absurd q (by decide), fun q => absurd q h3⟩
/-- a token behind a memory that differs from a reader's only where the reader's rows don't look -/
theorem rs_t {v y : Nat → Nat → Int32} {g : Nat → Nat → Int64} {f : Nat → Int32} {L a : Nat} {P Q : Int32 × Int32} {R : Nat → Int32} (hb : L ≤ 600) (hf : ∀ j, j < L → Bd (-128) 127 (f j)) (ha : a ≤ L) (h : RSv v g f L a P R) (h163 : y 163 = v 163) (h9 : y 162 9 = v 162 9) (h8 : y 162 8 = v 162 8) (hR : y 170 = v 170) (hQ : LT y Q) : RSv (Fx_M_tokenX y g).1 (Fx_M_tokenX y g).2 f L (tN f L a) Q R ∧ TF (Fx_M_tokenX y g).1 y := by
  obtain ⟨r1, r2, r3, r4, r5⟩ := h
  have e : y 163 = f := h163.trans r1
  obtain ⟨m1, m2⟩ := mt_X (u := y) (g := g) (L := L) (a := tN f L a) (h9.trans r2) hb (by rw [e]; exact hf) (tN_in ha) (h8.trans r3.1)
  rw [e] at m1
  refine ⟨⟨(m2.1 163 (by decide)).trans e, (m2.2 9 (by decide) (by decide) (by decide) (by decide)).trans (h9.trans r2), m1, ⟨?_, fun z => ?_⟩, (m2.1 170 (by decide)).trans (hR.trans r5)⟩, m2⟩
  · rw [m2.2 15 (by decide) (by decide) (by decide) (by decide)]; exact hQ.1
  · rw [m2.2 16 (by decide) (by decide) (by decide) (by decide)]; exact hQ.2 z
theorem nu_0 {v : Nat → Nat → Int32} {g : Nat → Nat → Int64} {f : Nat → Int32} {L a : Nat} {P : Int32 × Int32} {R : Nat → Int32} {low high : Int32} (h : RSv v g f L a P R) (k : ¬ tK f L a = 2) : Fx_M_numberX low high v g = (false, ms v 162 14 (iN (tS f L a)), g) := by
  obtain ⟨r1, r2, ⟨t1, t2, t3, t4, t5⟩, r4, r5⟩ := h
  unfold Fx_M_numberX
  rw [if_neg (fun q => k (km_3.mp (t3 ▸ q))), ← t2]
  rfl
theorem nu_1 {v : Nat → Nat → Int32} {g : Nat → Nat → Int64} {f : Nat → Int32} {L a : Nat} {P : Int32 × Int32} {R : Nat → Int32} {low high : Int32} (hb : L ≤ 600) (hf : ∀ j, j < L → Bd (-128) 127 (f j)) (ha : a ≤ L) (h : RSv v g f L a P R) (o : OR P (tS f L a)) (k : tK f L a = 2) :
    ∃ x g2, Fx_M_numberX low high v g = (true, x, g2) ∧ RSv x g2 f L (tN f L a) (rmb (okn low high (tV f L a)) 2 (iN (tS f L a)) P) R ∧ x 162 17 = tV f L a ∧ x 162 18 = (if okn low high (tV f L a) = true then v 162 18 else 0) ∧ ∀ b, b ≠ 162 → x b = v b := by
  have h' := h
  obtain ⟨r1, r2, ⟨t1, t2, t3, t4, t5⟩, r4, r5⟩ := h'
  have e12 := t4 k
  unfold Fx_M_numberX
  rw [if_pos (by rw [t3]; exact km_3.mpr k)]
  simp only [xq_lt, xq_c2, in_X]
  rw [e12, t2]
  by_cases q : okn low high (tV f L a) = true
  · rw [if_pos (show (decide (low ≤ tV f L a) && decide (tV f L a ≤ high)) = true from q), rmb_t q, if_pos q]
    obtain ⟨m1, m2⟩ := rs_t (y := ms v 162 17 (tV f L a)) (Q := P) hb hf ha h rfl rfl rfl rfl r4
    refine ⟨_, _, rfl, m1, ?_, ?_, fun b hb => (m2.1 b hb).trans (ms_c1 hb)⟩
    · rw [m2.2 17 (by decide) (by decide) (by decide) (by decide)]; rfl
    · rw [m2.2 18 (by decide) (by decide) (by decide) (by decide)]; rfl
  · rw [if_neg (show ¬ (decide (low ≤ tV f L a) && decide (tV f L a ≤ high)) = true from q), rmb_f q, if_neg q]
    obtain ⟨l1, l2, l3⟩ := la_X (v := ms v 162 17 (tV f L a)) (g := g) (f := 2) (t := tS f L a) (show LT (ms v 162 17 (tV f L a)) P from r4) o
    obtain ⟨m1, m2⟩ := rs_t (y := ms (Fx_M_laterX 2 (iN (tS f L a)) (ms v 162 17 (tV f L a)) g) 162 18 0) (Q := rm P 2 (iN (tS f L a))) hb hf ha h (l2 163 (by decide)) (l3 9 (by decide) (by decide)) (l3 8 (by decide) (by decide)) (l2 170 (by decide)) l1
    refine ⟨_, _, rfl, m1, ?_, ?_, fun b hb => ?_⟩
    · rw [m2.2 17 (by decide) (by decide) (by decide) (by decide), ms_i1 (by decide), l3 17 (by decide) (by decide)]; rfl
    · rw [m2.2 18 (by decide) (by decide) (by decide) (by decide)]; rfl
    · rw [m2.1 b hb, ms_c1 hb, l2 b hb, ms_c1 hb]
theorem ta_00 {v : Nat → Nat → Int32} {g : Nat → Nat → Int64} {f : Nat → Int32} {L a : Nat} {P : Int32 × Int32} {R : Nat → Int32} {low high : Int32} (h : RSv v g f L a P R) (k : ¬ tK f L a = 2) : ∃ x g2, Fx_M_take0X low high v g = (false, x, g2) ∧ x 162 14 = iN (tS f L a) := by
  unfold Fx_M_take0X
  rw [nu_0 h k]
  exact ⟨_, _, rfl, rfl⟩
theorem ta_01 {v : Nat → Nat → Int32} {g : Nat → Nat → Int64} {f : Nat → Int32} {L a : Nat} {P : Int32 × Int32} {R : Nat → Int32} {low high : Int32} (hb : L ≤ 600) (hf : ∀ j, j < L → Bd (-128) 127 (f j)) (ha : a ≤ L) (h : RSv v g f L a P R) (o : OR P (tS f L a)) (k : tK f L a = 2) :
    ∃ x g2, Fx_M_take0X low high v g = (true, x, g2) ∧ RSv x g2 f L (tN f L a) (rmb (okn low high (tV f L a)) 2 (iN (tS f L a)) P) R ∧ x 171 0 = tV f L a ∧ (∀ j, j ≠ 0 → x 171 j = v 171 j) ∧ x 162 18 = (if okn low high (tV f L a) = true then v 162 18 else 0) ∧ (∀ b, b ≠ 162 → b ≠ 171 → x b = v b) ∧ OR (rmb (okn low high (tV f L a)) 2 (iN (tS f L a)) P) (tS f L (tN f L a)) := by
  obtain ⟨x, g2, e, m1, m2, m3, m4⟩ := nu_1 (low := low) (high := high) hb hf ha h o k
  unfold Fx_M_take0X
  rw [e]
  refine ⟨ms x 171 0 (x 162 17), g2, rfl, ?_, ?_, fun j hj => ?_, m3, fun b b1 b2 => ?_, ?_⟩
  · obtain ⟨s1, s2, ⟨u1, u2, u3, u4, u5⟩, s4, s5⟩ := m1
    exact ⟨s1, s2, ⟨u1, u2, u3, u4, u5⟩, s4, s5⟩
  · rw [ms_e1]; exact m2
  · rw [ms_i1 hj, m4 171 (by decide)]
  · rw [ms_c1 b2, m4 b b1]
  · have h1 := tN_lt (f := f) (L := L) (a := a) (by rw [k]; decide)
    have h2 := tS_le (f := f) (L := L) (tN f L a)
    have h3 := tS_in (f := f) (tN_in (f := f) ha)
    exact or_rmb o (by omega) (by omega)
theorem ta_10 {v : Nat → Nat → Int32} {g : Nat → Nat → Int64} {f : Nat → Int32} {L a : Nat} {P : Int32 × Int32} {R : Nat → Int32} {low high : Int32} (h : RSv v g f L a P R) (k : ¬ tK f L a = 2) : ∃ x g2, Fx_M_take1X low high v g = (false, x, g2) ∧ x 162 14 = iN (tS f L a) := by
  unfold Fx_M_take1X
  rw [nu_0 h k]
  exact ⟨_, _, rfl, rfl⟩
theorem ta_11 {v : Nat → Nat → Int32} {g : Nat → Nat → Int64} {f : Nat → Int32} {L a : Nat} {P : Int32 × Int32} {R : Nat → Int32} {low high : Int32} (hb : L ≤ 600) (hf : ∀ j, j < L → Bd (-128) 127 (f j)) (ha : a ≤ L) (h : RSv v g f L a P R) (o : OR P (tS f L a)) (k : tK f L a = 2) :
    ∃ x g2, Fx_M_take1X low high v g = (true, x, g2) ∧ RSv x g2 f L (tN f L a) (rmb (okn low high (tV f L a)) 2 (iN (tS f L a)) P) R ∧ x 171 1 = tV f L a ∧ (∀ j, j ≠ 1 → x 171 j = v 171 j) ∧ x 162 18 = (if okn low high (tV f L a) = true then v 162 18 else 0) ∧ (∀ b, b ≠ 162 → b ≠ 171 → x b = v b) ∧ OR (rmb (okn low high (tV f L a)) 2 (iN (tS f L a)) P) (tS f L (tN f L a)) := by
  obtain ⟨x, g2, e, m1, m2, m3, m4⟩ := nu_1 (low := low) (high := high) hb hf ha h o k
  unfold Fx_M_take1X
  rw [e]
  refine ⟨ms x 171 1 (x 162 17), g2, rfl, ?_, ?_, fun j hj => ?_, m3, fun b b1 b2 => ?_, ?_⟩
  · obtain ⟨s1, s2, ⟨u1, u2, u3, u4, u5⟩, s4, s5⟩ := m1
    exact ⟨s1, s2, ⟨u1, u2, u3, u4, u5⟩, s4, s5⟩
  · rw [ms_e1]; exact m2
  · rw [ms_i1 hj, m4 171 (by decide)]
  · rw [ms_c1 b2, m4 b b1]
  · have h1 := tN_lt (f := f) (L := L) (a := a) (by rw [k]; decide)
    have h2 := tS_le (f := f) (L := L) (tN f L a)
    have h3 := tS_in (f := f) (tN_in (f := f) ha)
    exact or_rmb o (by omega) (by omega)
theorem ta_20 {v : Nat → Nat → Int32} {g : Nat → Nat → Int64} {f : Nat → Int32} {L a : Nat} {P : Int32 × Int32} {R : Nat → Int32} {low high : Int32} (h : RSv v g f L a P R) (k : ¬ tK f L a = 2) : ∃ x g2, Fx_M_take2X low high v g = (false, x, g2) ∧ x 162 14 = iN (tS f L a) := by
  unfold Fx_M_take2X
  rw [nu_0 h k]
  exact ⟨_, _, rfl, rfl⟩
theorem ta_21 {v : Nat → Nat → Int32} {g : Nat → Nat → Int64} {f : Nat → Int32} {L a : Nat} {P : Int32 × Int32} {R : Nat → Int32} {low high : Int32} (hb : L ≤ 600) (hf : ∀ j, j < L → Bd (-128) 127 (f j)) (ha : a ≤ L) (h : RSv v g f L a P R) (o : OR P (tS f L a)) (k : tK f L a = 2) :
    ∃ x g2, Fx_M_take2X low high v g = (true, x, g2) ∧ RSv x g2 f L (tN f L a) (rmb (okn low high (tV f L a)) 2 (iN (tS f L a)) P) R ∧ x 171 2 = tV f L a ∧ (∀ j, j ≠ 2 → x 171 j = v 171 j) ∧ x 162 18 = (if okn low high (tV f L a) = true then v 162 18 else 0) ∧ (∀ b, b ≠ 162 → b ≠ 171 → x b = v b) ∧ OR (rmb (okn low high (tV f L a)) 2 (iN (tS f L a)) P) (tS f L (tN f L a)) := by
  obtain ⟨x, g2, e, m1, m2, m3, m4⟩ := nu_1 (low := low) (high := high) hb hf ha h o k
  unfold Fx_M_take2X
  rw [e]
  refine ⟨ms x 171 2 (x 162 17), g2, rfl, ?_, ?_, fun j hj => ?_, m3, fun b b1 b2 => ?_, ?_⟩
  · obtain ⟨s1, s2, ⟨u1, u2, u3, u4, u5⟩, s4, s5⟩ := m1
    exact ⟨s1, s2, ⟨u1, u2, u3, u4, u5⟩, s4, s5⟩
  · rw [ms_e1]; exact m2
  · rw [ms_i1 hj, m4 171 (by decide)]
  · rw [ms_c1 b2, m4 b b1]
  · have h1 := tN_lt (f := f) (L := L) (a := a) (by rw [k]; decide)
    have h2 := tS_le (f := f) (L := L) (tN f L a)
    have h3 := tS_in (f := f) (tN_in (f := f) ha)
    exact or_rmb o (by omega) (by omega)
/-- numbers alone: where the first that is none stands -/
def nn (f : Nat → Int32) (L : Nat) : Nat → Nat → Option Nat
  | 0, _ => none
  | r + 1, p => if tK f L p = 2 then nn f L r (tN f L p) else some (tS f L p)
theorem dgv_b {f : Nat → Int32} {L : Nat} : ∀ (k a : Nat) (v : Int32) (hi : Nat), run isD f L a ≤ a + k → Bd 0 hi v → (hi + 1) * 10 ^ k ≤ 100000 → Bd 0 ((hi + 1) * 10 ^ k - 1 : Nat) (dgv f L a v) := by
  intro k
  induction k with
  | zero =>
    intro a v hi h b hh
    have e : ¬ (a < L ∧ isD (f a) = true) := by
      intro q
      rw [run_s q.1 q.2] at h
      have := run_le (p := isD) (f := f) (L := L) (a + 1)
      omega
    rw [dgv_e e]
    exact bd_w b (by omega)
  | succ k ih =>
    intro a v hi h b hh
    by_cases q : a < L ∧ isD (f a) = true
    · rw [dgv_s q.1 q.2]
      rw [run_s q.1 q.2] at h
      have hd : Bd 48 57 (f a) := by
        have q2 := q.2
        unfold isD at q2
        obtain ⟨h1, h2⟩ := (Bool.and_eq_true _ _).mp q2
        have e1 := Int32.le_iff_toInt_le.mp (of_decide_eq_true h1)
        have e2 := Int32.le_iff_toInt_le.mp (of_decide_eq_true h2)
        exact ⟨e1, e2⟩
      have hp : (10 : Nat) ^ 0 ≤ 10 ^ k := Nat.pow_le_pow_right (by decide) (Nat.zero_le k)
      rw [Nat.pow_zero] at hp
      have e10 : (hi + 1) * 10 ^ (k + 1) = ((hi * 10 + 9) + 1) * 10 ^ k := by
        rw [Nat.pow_succ, Nat.mul_comm (10 ^ k) 10, ← Nat.mul_assoc]
        congr 1
        omega
      have h0 : hi * 10 + 10 ≤ 100000 := by
        have h1 : (hi * 10 + 9 + 1) * 1 ≤ (hi * 10 + 9 + 1) * 10 ^ k := Nat.mul_le_mul_left _ hp
        have h2 : (hi * 10 + 9 + 1) * 10 ^ k ≤ 100000 := by rw [← e10]; exact hh
        have h3 := Nat.le_trans h1 h2
        omega
      have b2 : Bd 0 ((hi * 10 + 9 : Nat) : Int) (v * 10 + (f a - 48)) := by
        have d1 : Bd 0 9 (f a - 48) := bd_sub (l := 0) (h := 9) hd (show Bd 48 48 (48 : Int32) by decide) (by decide)
        have d2 : Bd 0 ((hi * 10 : Nat) : Int) (v * 10) := bd_mul (l := 0) (h := ((hi * 10 : Nat) : Int)) b (show Bd 10 10 (10 : Int32) by decide) ⟨by omega, by omega, by omega, by omega, by omega, by omega⟩
        exact bd_add (l := 0) (h := ((hi * 10 + 9 : Nat) : Int)) d2 d1 ⟨by omega, by omega, by omega, by omega⟩
      rw [e10] at hh ⊢
      exact ih (a + 1) _ (hi * 10 + 9) (by omega) b2 hh
    · rw [dgv_e q]
      have hp : (10 : Nat) ^ 0 ≤ 10 ^ (k + 1) := Nat.pow_le_pow_right (by decide) (Nat.zero_le _)
      rw [Nat.pow_zero] at hp
      have := Nat.mul_le_mul_left (hi + 1) hp
      exact bd_w b (by omega)
theorem tV_b {f : Nat → Int32} {L a : Nat} (k : tK f L a = 2) : Bd 0 999 (tV f L a) := by
  have h : run isD f L (tS f L a) ≤ tS f L a + 3 := by
    have hn : ¬ L ≤ tS f L a := fun q => by rw [(tk_0 q).1] at k; exact absurd k (by decide)
    by_cases l : isL (f (tS f L a)) = true
    · rw [(tk_1 hn l).1] at k; exact absurd k (by decide)
    · by_cases d : isD (f (tS f L a)) = true
      · rw [(tk_2 hn l d).1] at k
        by_cases y : 3 < run isD f L (tS f L a) - tS f L a
        · rw [if_pos y] at k; exact absurd k (by decide)
        · omega
      · rw [(tk_3 hn l d).1] at k
        revert k
        split <;> intro k <;> exact absurd k (by decide)
  exact dgv_b 3 (tS f L a) 0 0 h (by decide) (by decide)
end
section
/-! the reference's lines of a hill -/
abbrev MM : Type := Nat → Nat → Int32
abbrev GG : Type := Nat → Nat → Int64
def vv (f : Nat → Int32) (L a j : Nat) : Int32 := tV f L (sk f L j a)
def pp (f : Nat → Int32) (L a j : Nat) : Int32 := iN (tS f L (sk f L j a))
theorem sk_s {f : Nat → Int32} {L : Nat} : ∀ (r a : Nat), sk f L (r + 1) a = tN f L (sk f L r a) := by
  intro r
  induction r with
  | zero => intro a; rfl
  | succ r ih => intro a; exact ih (tN f L a)
theorem nn_s {f : Nat → Int32} {L : Nat} : ∀ (r a : Nat), (∀ q, nn f L r a = some q → nn f L (r + 1) a = some q) ∧ (nn f L r a = none → nn f L (r + 1) a = if tK f L (sk f L r a) = 2 then none else some (tS f L (sk f L r a))) := by
  intro r
  induction r with
  | zero => intro a; exact ⟨fun q h => (by cases h), fun _ => rfl⟩
  | succ r ih =>
    intro a
    obtain ⟨h1, h2⟩ := ih (tN f L a)
    by_cases k : tK f L a = 2
    · have e1 : nn f L (r + 1) a = nn f L r (tN f L a) := if_pos k
      have e2 : nn f L (r + 1 + 1) a = nn f L (r + 1) (tN f L a) := if_pos k
      rw [e1, e2]
      exact ⟨h1, h2⟩
    · have e1 : nn f L (r + 1) a = some (tS f L a) := if_neg k
      have e2 : nn f L (r + 1 + 1) a = some (tS f L a) := if_neg k
      rw [e1, e2]
      exact ⟨fun q h => h, fun h => (by cases h)⟩
theorem nb_n {f : Nat → Int32} {L : Nat} : ∀ (r a : Nat), (∀ q, nn f L r a = some q → nb f L r a = some q) ∧ (nn f L r a = none → nb f L r a = if tK f L (sk f L r a) = 3 then none else some (tS f L (sk f L r a))) := by
  intro r
  induction r with
  | zero => intro a; exact ⟨fun q h => (by cases h), fun _ => rfl⟩
  | succ r ih =>
    intro a
    obtain ⟨h1, h2⟩ := ih (tN f L a)
    by_cases k : tK f L a = 2
    · have e1 : nn f L (r + 1) a = nn f L r (tN f L a) := if_pos k
      have e2 : nb f L (r + 1) a = nb f L r (tN f L a) := if_pos k
      rw [e1, e2]
      exact ⟨h1, h2⟩
    · have e1 : nn f L (r + 1) a = some (tS f L a) := if_neg k
      have e2 : nb f L (r + 1) a = some (tS f L a) := if_neg k
      rw [e1, e2]
      exact ⟨fun q h => h, fun h => (by cases h)⟩
/-- how a line's numbers come out -/
def OUT (z : Bool × MM × GG) (f : Nat → Int32) (L c a : Nat) (P : Int32 × Int32) (R : Nat → Int32) : Prop := (∀ q, nn f L c a = some q → z.1 = false ∧ z.2.1 162 14 = iN q) ∧ (nn f L c a = none → z.1 = true ∧ RSv z.2.1 z.2.2 f L (sk f L c a) P R ∧ OR P (tS f L (sk f L c a)))
theorem c3_mk {α β γ δ : Type} {a : α} {b : β} {c : γ} {K : α → β → γ → δ} : xq_c3 (a, b, c) K = K a b c := rfl
theorem c2_mk {α β γ : Type} {a : α} {b : β} {K : α → β → γ} : xq_c2 (a, b) K = K a b := rfl
noncomputable def two (lo0 hi0 : Int32) (lo1 hi1 : Int32 → Int32) (K : MM → GG → MM → GG → Bool × MM × GG) (y : MM) (g : GG) : Bool × MM × GG := xq_c3 (Fx_M_take0X lo0 hi0 y g) fun t x g2 => if t = true then (xq_c3 (Fx_M_take1X (lo1 (x 171 0)) (hi1 (x 171 0)) x g2) fun t2 x2 g3 => if t2 = true then K x g2 x2 g3 else (false, x2, g3)) else (false, x, g2)
theorem two_X {y : MM} {g : GG} {f : Nat → Int32} {L a : Nat} {P : Int32 × Int32} {R : Nat → Int32} {lo0 hi0 : Int32} {lo1 hi1 : Int32 → Int32} {K : MM → GG → MM → GG → Bool × MM × GG} (hb : L ≤ 600) (hf : ∀ j, j < L → Bd (-128) 127 (f j)) (ha : a ≤ L) (h : RSv y g f L a P R) (o : OR P (tS f L a)) :
    (∀ q, nn f L 2 a = some q → (two lo0 hi0 lo1 hi1 K y g).1 = false ∧ (two lo0 hi0 lo1 hi1 K y g).2.1 162 14 = iN q) ∧
    (nn f L 2 a = none → ∃ x g2 x2 g3, two lo0 hi0 lo1 hi1 K y g = K x g2 x2 g3 ∧ x 171 0 = vv f L a 0 ∧ x2 171 0 = vv f L a 0 ∧ x2 171 1 = vv f L a 1 ∧ Bd 0 999 (vv f L a 0) ∧ Bd 0 999 (vv f L a 1) ∧
      RSv x2 g3 f L (sk f L 2 a) (rmb (okn (lo1 (vv f L a 0)) (hi1 (vv f L a 0)) (vv f L a 1)) 2 (pp f L a 1) (rmb (okn lo0 hi0 (vv f L a 0)) 2 (pp f L a 0) P)) R ∧ OR (rmb (okn (lo1 (vv f L a 0)) (hi1 (vv f L a 0)) (vv f L a 1)) 2 (pp f L a 1) (rmb (okn lo0 hi0 (vv f L a 0)) 2 (pp f L a 0) P)) (tS f L (sk f L 2 a)) ∧
      x2 162 18 = (if okn (lo1 (vv f L a 0)) (hi1 (vv f L a 0)) (vv f L a 1) = true then (if okn lo0 hi0 (vv f L a 0) = true then y 162 18 else 0) else 0) ∧ ∀ b, b ≠ 162 → b ≠ 171 → x2 b = y b) := by
  have hN : nn f L 2 a = if tK f L a = 2 then (if tK f L (tN f L a) = 2 then none else some (tS f L (tN f L a))) else some (tS f L a) := rfl
  unfold two
  by_cases k : tK f L a = 2
  · obtain ⟨x, g2, e, m1, m2, m3, m4, m5, m6⟩ := ta_01 (low := lo0) (high := hi0) hb hf ha h o k
    rw [e]
    have b0 := tV_b k
    by_cases k2 : tK f L (tN f L a) = 2
    · obtain ⟨x2, g3, e2, n1, n2, n3, n4, n5, n6⟩ := ta_11 (low := lo1 (x 171 0)) (high := hi1 (x 171 0)) hb hf (tN_in ha) m1 m6 k2
      rw [hN, if_pos k, if_pos k2]
      refine ⟨fun q z => (by cases z), fun _ => ⟨x, g2, x2, g3, ?_, m2, (n3 0 (by decide)).trans m2, n2, b0, tV_b k2, ?_, ?_, ?_, fun b b1 b2 => (n5 b b1 b2).trans (m5 b b1 b2)⟩⟩
      · rw [c3_mk, if_pos rfl, e2, c3_mk, if_pos rfl]
      · rw [m2] at n1; exact n1
      · rw [m2] at n6; exact n6
      · rw [m2, m4] at n4; exact n4
    · obtain ⟨x2, g3, e2, n1⟩ := ta_10 (low := lo1 (x 171 0)) (high := hi1 (x 171 0)) m1 k2
      rw [hN, if_pos k, if_neg k2]
      have e3 : (xq_c3 (true, x, g2) fun t x g2 => if t = true then (xq_c3 (Fx_M_take1X (lo1 (x 171 0)) (hi1 (x 171 0)) x g2) fun t2 x2 g3 => if t2 = true then K x g2 x2 g3 else (false, x2, g3)) else (false, x, g2)) = (false, x2, g3) := by
        rw [c3_mk, if_pos rfl, e2, c3_mk, if_neg (by decide)]
      rw [e3]
      refine ⟨fun q z => ?_, fun z => (by cases z)⟩
      cases z
      exact ⟨rfl, n1⟩
  · obtain ⟨x, g2, e, m1⟩ := ta_00 (low := lo0) (high := hi0) h k
    rw [e, hN, if_neg k]
    refine ⟨fun q z => ?_, fun z => (by cases z)⟩
    cases z
    exact ⟨rfl, m1⟩
/-- a pond's columns -/
def pc (v0 v1 v2 : Int32) (i : Nat) : Int32 := if i = 0 then v0 else if i = 1 then v1 else if i = 2 then v2 else if i = 8 ∨ i = 9 ∨ i = 12 then -1 else 0
def hcol (w : Nat) : Nat := [0, 8, 9, 3, 4, 5, 6, 7, 11, 12, 13].getD w 0
def cnt (w : Nat) : Nat := [3, 2, 3, 2, 2, 2, 2, 2, 2, 2, 3, 2, 1, 1, 1].getD w 0
/-- a hill's row behind line w -/
def rowH (w : Nat) (R : Nat → Int32) (v0 v1 v2 : Int32) (gd : Bool) : Nat → Int32 :=
  if w = 0 then (if R 0 < 9 then upd (fun j => if 13 + 16 * (R 0).toInt.toNat ≤ j ∧ j < 29 + 16 * (R 0).toInt.toNat then pc v0 v1 v2 (j - (13 + 16 * (R 0).toInt.toNat)) else R j) 0 (R 0 + 1) else R)
  else if w = 11 then (if R 1 < 4 then upd (upd (upd R (5 + 2 * (R 1).toInt.toNat) v0) (6 + 2 * (R 1).toInt.toNat) v1) 1 (R 1 + 1) else R)
  else if 11 < w then upd R (w - 10) v0
  else if gd = true then (if w = 2 ∨ w = 10 then upd (upd R (13 + 16 * v0.toInt.toNat + hcol w) v1) (14 + 16 * v0.toInt.toNat + hcol w) v2 else upd R (13 + 16 * v0.toInt.toNat + hcol w) v1) else R
theorem ok_0 {v h : Int32} (b : Bd 0 999 v) : okn 0 h v = decide (v ≤ h) := by
  unfold okn
  rw [decide_eq_true (show (0 : Int32) ≤ v by rw [Int32.le_iff_toInt_le]; exact b.1), Bool.true_and]
theorem fo_1 {ck : Nat → Int32 → Bool} {v p : Nat → Int32} {P : Int32 × Int32} : fo ck v p 1 0 P = rmb (ck 0 (v 0)) 2 (p 0) P := by rw [fo_s (by omega), fo_e (by omega)]
theorem fo_2 {ck : Nat → Int32 → Bool} {v p : Nat → Int32} {P : Int32 × Int32} : fo ck v p 2 0 P = rmb (ck 1 (v 1)) 2 (p 1) (rmb (ck 0 (v 0)) 2 (p 0) P) := by rw [fo_s (by omega), fo_s (by omega), fo_e (by omega)]
theorem fo_3 {ck : Nat → Int32 → Bool} {v p : Nat → Int32} {P : Int32 × Int32} : fo ck v p 3 0 P = rmb (ck 2 (v 2)) 2 (p 2) (rmb (ck 1 (v 1)) 2 (p 1) (rmb (ck 0 (v 0)) 2 (p 0) P)) := by rw [fo_s (by omega), fo_s (by omega), fo_s (by omega), fo_e (by omega)]
/-- the reader's rows don't look at cell 170 but for its row -/
theorem rs_170 {x y : MM} {g : GG} {f : Nat → Int32} {L a : Nat} {P : Int32 × Int32} {R R2 : Nat → Int32} (h : RSv x g f L a P R) (e : y 170 = R2) (h2 : y 162 = x 162) (h3 : y 163 = x 163) : RSv y g f L a P R2 := by
  obtain ⟨r1, r2, ⟨t1, t2, t3, t4, t5⟩, ⟨r4, r5⟩, r6⟩ := h
  refine ⟨h3.trans r1, by rw [h2]; exact r2, ⟨by rw [h2]; exact t1, by rw [h2]; exact t2, by rw [h2]; exact t3, fun z => by rw [h2]; exact t4 z, t5⟩, ⟨by rw [h2]; exact r4, fun z => by rw [h2]; exact r5 z⟩, e⟩
/-- remembering a full hill -/
theorem la_R {v : MM} {g : GG} {f : Nat → Int32} {L a s : Nat} {P : Int32 × Int32} {R : Nat → Int32} (hb : L ≤ 600) (ha : a ≤ L) (h : RSv v g f L a P R) (o : OR P s) (hs : s < tS f L a) : RSv (Fx_M_laterX 3 (iN s) v g) g f L a (rm P 3 (iN s)) R ∧ OR (rm P 3 (iN s)) (tS f L a) ∧ Fx_M_laterX 3 (iN s) v g 162 18 = v 162 18 := by
  obtain ⟨r1, r2, ⟨t1, t2, t3, t4, t5⟩, r4, r5⟩ := h
  obtain ⟨l1, l2, l3⟩ := la_X (v := v) (g := g) (f := 3) (t := s) r4 o
  have h1 := tS_in (f := f) ha
  refine ⟨⟨(l2 163 (by decide)).trans r1, (l3 9 (by decide) (by decide)).trans r2, ⟨(l3 8 (by decide) (by decide)).trans t1, (l3 10 (by decide) (by decide)).trans t2, (l3 11 (by decide) (by decide)).trans t3, fun z => (l3 12 (by decide) (by decide)).trans (t4 z), t5⟩, l1, (l2 170 (by decide)).trans r5⟩, or_rm o hs (by omega), l3 18 (by decide) (by decide)⟩
theorem rain_X {v : MM} {g : GG} {f : Nat → Int32} {L a s : Nat} {P : Int32 × Int32} {R : Nat → Int32} {gd : Bool} (hb : L ≤ 600) (hf : ∀ j, j < L → Bd (-128) 127 (f j)) (ha : a ≤ L) (h : RSv v g f L a P R) (b1 : Bd 0 4 (R 1)) (o : OR P s) (hs : s < tS f L a) :
    OUT (Fx_M_rainLineX (iN s) v g) f L 2 a (fo (fun j x => chk 11 j (R 0) (vv f L a 0) x) (vv f L a) (pp f L a) 2 0 (rmb (!fl 11 (R 0) (R 1)) 3 (iN s) P)) (rowH 11 R (vv f L a 0) (vv f L a 1) (vv f L a 2) gd) := by
  have e170 : v 170 1 = R 1 := by rw [h.2.2.2.2]
  have hC : ∀ {v0 v1 : Int32}, Bd 0 999 v0 → Bd 0 999 v1 → okn 0 9 v0 = chk 11 0 (R 0) (vv f L a 0) v0 ∧ okn 0 100 v1 = chk 11 1 (R 0) (vv f L a 0) v1 := by
    intro v0 v1 q0 q1
    rw [ok_0 q0, ok_0 q1]
    exact ⟨(Bool.and_true _).symm, (Bool.and_true _).symm⟩
  have h1 := tS_in (f := f) ha
  rw [fo_2]
  by_cases q : R 1 = 4
  · have hfl : fl 11 (R 0) (R 1) = true := decide_eq_true (Or.inr ⟨rfl, by rw [q]; decide⟩)
    rw [hfl, rmb_f (b := !true) (by decide)]
    obtain ⟨y1, y2, y3⟩ := la_R hb ha h o hs
    have e : Fx_M_rainLineX (iN s) v g = two 0 9 (fun _ => 0) (fun _ => 100) (fun _ _ x2 g3 => (true, x2, g3)) (Fx_M_laterX 3 (iN s) v g) g := by
      unfold Fx_M_rainLineX
      rw [e170, if_pos q]
      simp only [show ((4 : Int32) ≤ R 1) = True from eq_true (by rw [q]; decide), if_true]
      rfl
    rw [e]
    obtain ⟨t1, t2⟩ := two_X (lo0 := 0) (hi0 := 9) (lo1 := fun _ => 0) (hi1 := fun _ => 100) (K := fun _ _ x2 g3 => (true, x2, g3)) hb hf ha y1 y2
    refine ⟨t1, fun z => ?_⟩
    obtain ⟨x, g2, x2, g3, k1, k2, k3, k4, k5, k6, k7, k8, k9, k10⟩ := t2 z
    rw [k1]
    obtain ⟨c0, c1⟩ := hC k5 k6
    rw [c0, c1] at k7 k8
    refine ⟨rfl, ?_, k8⟩
    have er : rowH 11 R (vv f L a 0) (vv f L a 1) (vv f L a 2) gd = R := by
      show (if R 1 < 4 then _ else R) = R
      rw [if_neg (fun z => by rw [q] at z; exact absurd z (by decide))]
    rw [er]
    exact k7
  · have hlt : R 1 < 4 := by
      rw [Int32.lt_iff_toInt_lt]
      have h2 : (R 1).toInt ≠ 4 := fun z => q (Int32.toInt_inj.mp z)
      have := b1.2
      have e4 : (4 : Int32).toInt = 4 := rfl
      omega
    have hfl : fl 11 (R 0) (R 1) = false := decide_eq_false (fun z => by
      rcases z with z | z
      · exact absurd z.1 (by decide)
      · exact lt_le_no hlt z.2)
    rw [hfl, rmb_t (b := !false) (by decide)]
    have e : Fx_M_rainLineX (iN s) v g = two 0 9 (fun _ => 0) (fun _ => 100) (fun x _ x2 g3 => (true, ms (ms (ms x2 170 ((5 : Int32) + ((2 : Int32) * (R 1))).toNatClampNeg (x 171 0)) 170 (((5 : Int32) + ((2 : Int32) * (R 1))) + 1).toNatClampNeg (x2 171 1)) 170 1 ((R 1) + 1), g3)) v g := by
      unfold Fx_M_rainLineX
      rw [e170, if_neg q]
      simp only [show ((4 : Int32) ≤ R 1) = False from eq_false (fun z => lt_le_no hlt z), if_false]
      rfl
    rw [e]
    obtain ⟨t1, t2⟩ := two_X (lo0 := 0) (hi0 := 9) (lo1 := fun _ => 0) (hi1 := fun _ => 100) (K := fun x _ x2 g3 => (true, ms (ms (ms x2 170 ((5 : Int32) + ((2 : Int32) * (R 1))).toNatClampNeg (x 171 0)) 170 (((5 : Int32) + ((2 : Int32) * (R 1))) + 1).toNatClampNeg (x2 171 1)) 170 1 ((R 1) + 1), g3)) hb hf ha h (or_w o (Nat.le_of_lt hs) (by omega))
    refine ⟨t1, fun z => ?_⟩
    obtain ⟨x, g2, x2, g3, k1, k2, k3, k4, k5, k6, k7, k8, k9, k10⟩ := t2 z
    rw [k1]
    obtain ⟨c0, c1⟩ := hC k5 k6
    rw [c0, c1] at k7 k8
    refine ⟨rfl, ?_, k8⟩
    have hr : (R 1).toInt.toNat ≤ 4 := by have := b1.1; have := b1.2; omega
    have i5 : ((5 : Int32) + ((2 : Int32) * (R 1))).toNatClampNeg = 5 + 2 * (R 1).toInt.toNat := by
      rw [iN_of b1 (by decide), iN_ti (by omega)]
      show (iN 5 + iN 2 * iN (R 1).toInt.toNat).toNatClampNeg = _
      rw [iN_m, iN_a, iN_cl (by omega)]
      omega
    have i6 : (((5 : Int32) + ((2 : Int32) * (R 1))) + 1).toNatClampNeg = 6 + 2 * (R 1).toInt.toNat := by
      rw [iN_of b1 (by decide), iN_ti (by omega)]
      show (iN 5 + iN 2 * iN (R 1).toInt.toNat + 1).toNatClampNeg = _
      rw [iN_m, iN_a, iN_s, iN_cl (by omega)]
      omega
    have er : rowH 11 R (vv f L a 0) (vv f L a 1) (vv f L a 2) gd = upd (upd (upd R (5 + 2 * (R 1).toInt.toNat) (vv f L a 0)) (6 + 2 * (R 1).toInt.toNat) (vv f L a 1)) 1 (R 1 + 1) := by
      show (if R 1 < 4 then _ else R) = _
      rw [if_pos hlt]
    rw [er]
    refine rs_170 k7 ?_ rfl rfl
    show ms (ms (ms x2 170 _ (x 171 0)) 170 _ (x2 171 1)) 170 1 (R 1 + 1) 170 = _
    rw [ms_a1, ms_a1, ms_a1, i5, i6, k2, k4, k7.2.2.2.2]
end
section
/-! the reference's lines of a hill: ponds -/
theorem m8_all : ∀ w, w < 11 → 1 ≤ w → (sAr 2).getD (3 * w + 0) 0 = 8 := by decide +kernel
theorem pred_ti {n : Int32} (b : Bd 0 9 n) : (n - 1).toInt = n.toInt - 1 := by
  have e1 : (1 : Int32).toInt = 1 := rfl
  rw [ti_sub (by have := b.1; have := b.2; omega) (by have := b.1; have := b.2; omega), e1]
theorem ck_p0 {w : Nat} {n v0 v : Int32} (h1 : 1 ≤ w) (h2 : w ≤ 10) (bn : Bd 0 9 n) (b : Bd 0 999 v) : okn 0 (n - 1) v = chk w 0 n v0 v := by
  have e := pred_ti bn
  have e8 : (8 : Int32).toInt = 8 := rfl
  have := bn.2
  rw [ok_0 b]
  unfold chk
  rw [m8_all w (by omega) h1, if_neg (by omega), if_neg (by omega), if_pos rfl]
  by_cases h : v < n
  · have h3 := Int32.lt_iff_toInt_lt.mp h
    rw [decide_eq_true h, decide_eq_true (show v ≤ n - 1 by rw [Int32.le_iff_toInt_le]; omega), decide_eq_true (show v ≤ 8 by rw [Int32.le_iff_toInt_le]; omega)]
    rfl
  · have h3 := Int32.le_iff_toInt_le.mp (i_nlt h)
    rw [decide_eq_false h, decide_eq_false (show ¬ v ≤ n - 1 by rw [Int32.le_iff_toInt_le]; omega), Bool.and_false]
theorem m81_all : ∀ w, w < 3 → 1 ≤ w → (sAr 2).getD (3 * w + 1) 0 = 8 := by decide +kernel
theorem ck_pd {w : Nat} {n v0 v : Int32} (h1 : 1 ≤ w) (h2 : w ≤ 2) (bn : Bd 0 9 n) (b0 : Bd 0 999 v0) (b : Bd 0 999 v) : okn (v0 + 1) (n - 1) v = chk w 1 n v0 v := by
  have e := pred_ti bn
  have e8 : (8 : Int32).toInt = 8 := rfl
  have e1 : (1 : Int32).toInt = 1 := rfl
  have e2 : (v0 + 1).toInt = v0.toInt + 1 := by rw [ti_add (by have := b0.1; have := b0.2; omega) (by have := b0.1; have := b0.2; omega), e1]
  have := bn.2
  unfold okn chk
  rw [m81_all w (by omega) h1, if_neg (by omega), if_neg (by omega), if_neg (by decide)]
  by_cases h : v0 < v ∧ v < n
  · have h3 := Int32.lt_iff_toInt_lt.mp h.1
    have h4 := Int32.lt_iff_toInt_lt.mp h.2
    rw [decide_eq_true (show v0 + 1 ≤ v by rw [Int32.le_iff_toInt_le]; omega), decide_eq_true (show v ≤ n - 1 by rw [Int32.le_iff_toInt_le]; omega), decide_eq_true (show v ≤ 8 by rw [Int32.le_iff_toInt_le]; omega), decide_eq_true (Or.inr (Or.inr h))]
  · have h5 : decide (1 < 1 ∨ 2 < w ∨ (v0 < v ∧ v < n)) = false := decide_eq_false (fun z => by
      rcases z with z | z | z
      · omega
      · omega
      · exact h z)
    rw [h5, Bool.and_false]
    by_cases q : v0 + 1 ≤ v
    · have q1 := Int32.le_iff_toInt_le.mp q
      have q2 : ¬ v ≤ n - 1 := fun z => h ⟨by rw [Int32.lt_iff_toInt_lt]; omega, by
        have z1 := Int32.le_iff_toInt_le.mp z
        rw [Int32.lt_iff_toInt_lt]
        omega⟩
      rw [decide_eq_false q2, Bool.and_false]
    · rw [decide_eq_false q, Bool.false_and]
theorem ck_pn {w : Nat} {n v0 v h : Int32} (h1 : 3 ≤ w) (h2 : w ≤ 10) (hh : (sAr 2).getD (3 * w + 1) 0 = h) (b : Bd 0 999 v) : okn 0 h v = chk w 1 n v0 v := by
  rw [ok_0 b]
  unfold chk
  rw [hh, if_neg (by omega), if_neg (by omega), if_neg (by decide), decide_eq_true (p := 1 < 1 ∨ 2 < w ∨ (v0 < v ∧ v < n)) (Or.inr (Or.inl (by omega))), Bool.and_true]
theorem ck_p2 {w : Nat} {n v0 v : Int32} (hw : w = 2 ∨ w = 10) (b : Bd 0 999 v) : okn 0 10 v = chk w 2 n v0 v := by
  rw [ok_0 b]
  unfold chk
  have hh : (sAr 2).getD (3 * w + 2) 0 = 10 := by
    rcases hw with z | z <;> rw [z] <;> decide
  rw [hh, if_neg (by omega), if_neg (by omega), if_neg (by decide), decide_eq_true (p := 1 < 2 ∨ 2 < w ∨ (v0 < v ∧ v < n)) (Or.inl (by decide)), Bool.and_true]
theorem hc_ti : ∀ w, w < 11 → hcol w ≤ 13 := by decide
/-- where a pond's column stands in the row -/
theorem ix_p {v0 : Int32} {w : Nat} (hw : w < 11) (b : Bd 0 8 v0) : (((13 : Int32) + ((16 : Int32) * v0)) + iN (hcol w)).toNatClampNeg = 13 + 16 * v0.toInt.toNat + hcol w := by
  have h1 := hc_ti w hw
  have := b.1
  have := b.2
  rw [iN_of b (by decide), iN_ti (by omega)]
  show (iN 13 + iN 16 * iN v0.toInt.toNat + iN (hcol w)).toNatClampNeg = _
  rw [iN_m, iN_a, iN_a, iN_cl (by omega)]
  omega
theorem ix_p1 {v0 : Int32} {w : Nat} (hw : w < 11) (b : Bd 0 8 v0) : ((((13 : Int32) + ((16 : Int32) * v0)) + iN (hcol w)) + 1).toNatClampNeg = 14 + 16 * v0.toInt.toNat + hcol w := by
  have h1 := hc_ti w hw
  have := b.1
  have := b.2
  rw [iN_of b (by decide), iN_ti (by omega)]
  show (iN 13 + iN 16 * iN v0.toInt.toNat + iN (hcol w) + 1).toNatClampNeg = _
  rw [iN_m, iN_a, iN_a, iN_s, iN_cl (by omega)]
  omega
theorem ck_8 {w : Nat} {n v0 v : Int32} (h1 : 1 ≤ w) (h2 : w ≤ 10) (b : Bd 0 999 v) (h : chk w 0 n v0 v = true) : Bd 0 8 v := by
  unfold chk at h
  rw [m8_all w (by omega) h1] at h
  have h3 := Int32.le_iff_toInt_le.mp (of_decide_eq_true ((Bool.and_eq_true _ _).mp h).1)
  exact ⟨b.1, h3⟩
def K1 (to : Int32) (x : MM) (_ : GG) (x2 : MM) (g3 : GG) : Bool × MM × GG := if x2 162 18 = 0 then (true, x2, g3) else (true, ms x2 170 (((13 : Int32) + ((16 : Int32) * (x 171 0))) + to).toNatClampNeg (x2 171 1), g3)
theorem of1_X {z : Bool × MM × GG} {v : MM} {g : GG} {f : Nat → Int32} {L a w : Nat} {P : Int32 × Int32} {R : Nat → Int32} {lo1 hi1 : Int32 → Int32} (hb : L ≤ 600) (hf : ∀ j, j < L → Bd (-128) 127 (f j)) (ha : a ≤ L) (h : RSv v g f L a P R) (o : OR P (tS f L a)) (b0 : Bd 0 9 (R 0)) (hg : v 162 18 = 1) (h1 : 1 ≤ w) (h2 : w ≤ 9) (h3 : w ≠ 2)
    (e : z = two 0 (R 0 - 1) lo1 hi1 (K1 (iN (hcol w))) v g) (hC : ∀ v0 v1, Bd 0 999 v0 → Bd 0 999 v1 → okn (lo1 v0) (hi1 v0) v1 = chk w 1 (R 0) v0 v1) :
    OUT z f L 2 a (fo (fun j x => chk w j (R 0) (vv f L a 0) x) (vv f L a) (pp f L a) 2 0 P) (rowH w R (vv f L a 0) (vv f L a 1) (vv f L a 2) (chk w 0 (R 0) (vv f L a 0) (vv f L a 0) && chk w 1 (R 0) (vv f L a 0) (vv f L a 1))) := by
  rw [e, fo_2]
  obtain ⟨t1, t2⟩ := two_X (lo0 := 0) (hi0 := R 0 - 1) (lo1 := lo1) (hi1 := hi1) (K := K1 (iN (hcol w))) hb hf ha h o
  refine ⟨t1, fun q => ?_⟩
  obtain ⟨x, g2, x2, g3, k1, k2, k3, k4, k5, k6, k7, k8, k9, k10⟩ := t2 q
  rw [hC _ _ k5 k6, ck_p0 (w := w) (v0 := vv f L a 0) h1 (by omega) b0 k5] at k7 k8 k9
  rw [hg] at k9
  rw [k1]
  unfold K1
  have hrow : rowH w R (vv f L a 0) (vv f L a 1) (vv f L a 2) (chk w 0 (R 0) (vv f L a 0) (vv f L a 0) && chk w 1 (R 0) (vv f L a 0) (vv f L a 1)) = if (chk w 0 (R 0) (vv f L a 0) (vv f L a 0) && chk w 1 (R 0) (vv f L a 0) (vv f L a 1)) = true then upd R (13 + 16 * (vv f L a 0).toInt.toNat + hcol w) (vv f L a 1) else R := by
    unfold rowH
    rw [if_neg (by omega), if_neg (by omega), if_neg (by omega), if_neg (show ¬ (w = 2 ∨ w = 10) by omega)]
  rw [hrow]
  by_cases c0 : chk w 0 (R 0) (vv f L a 0) (vv f L a 0) = true
  · by_cases c1 : chk w 1 (R 0) (vv f L a 0) (vv f L a 1) = true
    · rw [if_pos c1, if_pos c0] at k9
      rw [if_neg (show ¬ x2 162 18 = 0 by rw [k9]; decide), c0, c1, if_pos (show (true && true) = true from rfl)]
      rw [c0, c1] at k7 k8
      refine ⟨rfl, ?_, k8⟩
      refine rs_170 k7 ?_ rfl rfl
      show ms x2 170 _ (x2 171 1) 170 = _
      rw [ms_a1, k2, ix_p (by omega) (ck_8 h1 (by omega) k5 c0), k4, k7.2.2.2.2]
    · rw [if_neg c1] at k9
      rw [if_pos k9, (Bool.not_eq_true _).mp c1, Bool.and_false, if_neg (by decide)]
      rw [(Bool.not_eq_true _).mp c1] at k7 k8
      exact ⟨rfl, k7, k8⟩
  · have k9' : x2 162 18 = 0 := by
      rw [k9, if_neg c0]
      split <;> rfl
    rw [if_pos k9', (Bool.not_eq_true _).mp c0, Bool.false_and, if_neg (by decide)]
    rw [(Bool.not_eq_true _).mp c0] at k7 k8
    exact ⟨rfl, k7, k8⟩
noncomputable def K2 (lo2 hi2 : Int32) (K3 : MM → MM → MM → GG → Bool × MM × GG) (x : MM) (_ : GG) (x2 : MM) (g3 : GG) : Bool × MM × GG := xq_c3 (Fx_M_take2X lo2 hi2 x2 g3) fun t3 x3 g4 => if t3 = true then K3 x x2 x3 g4 else (false, x3, g4)
theorem three_X {y : MM} {g : GG} {f : Nat → Int32} {L a : Nat} {P : Int32 × Int32} {R : Nat → Int32} {lo0 hi0 lo2 hi2 : Int32} {lo1 hi1 : Int32 → Int32} {K3 : MM → MM → MM → GG → Bool × MM × GG} (hb : L ≤ 600) (hf : ∀ j, j < L → Bd (-128) 127 (f j)) (ha : a ≤ L) (h : RSv y g f L a P R) (o : OR P (tS f L a)) :
    (∀ q, nn f L 3 a = some q → (two lo0 hi0 lo1 hi1 (K2 lo2 hi2 K3) y g).1 = false ∧ (two lo0 hi0 lo1 hi1 (K2 lo2 hi2 K3) y g).2.1 162 14 = iN q) ∧
    (nn f L 3 a = none → ∃ x x2 x3 g4, two lo0 hi0 lo1 hi1 (K2 lo2 hi2 K3) y g = K3 x x2 x3 g4 ∧ x 171 0 = vv f L a 0 ∧ x2 171 1 = vv f L a 1 ∧ x3 171 0 = vv f L a 0 ∧ x3 171 1 = vv f L a 1 ∧ x3 171 2 = vv f L a 2 ∧ Bd 0 999 (vv f L a 0) ∧ Bd 0 999 (vv f L a 1) ∧ Bd 0 999 (vv f L a 2) ∧
      RSv x3 g4 f L (sk f L 3 a) (rmb (okn lo2 hi2 (vv f L a 2)) 2 (pp f L a 2) (rmb (okn (lo1 (vv f L a 0)) (hi1 (vv f L a 0)) (vv f L a 1)) 2 (pp f L a 1) (rmb (okn lo0 hi0 (vv f L a 0)) 2 (pp f L a 0) P))) R ∧ OR (rmb (okn lo2 hi2 (vv f L a 2)) 2 (pp f L a 2) (rmb (okn (lo1 (vv f L a 0)) (hi1 (vv f L a 0)) (vv f L a 1)) 2 (pp f L a 1) (rmb (okn lo0 hi0 (vv f L a 0)) 2 (pp f L a 0) P))) (tS f L (sk f L 3 a)) ∧
      x3 162 18 = (if okn lo2 hi2 (vv f L a 2) = true then (if okn (lo1 (vv f L a 0)) (hi1 (vv f L a 0)) (vv f L a 1) = true then (if okn lo0 hi0 (vv f L a 0) = true then y 162 18 else 0) else 0) else 0)) := by
  obtain ⟨n1, n2⟩ := nn_s (f := f) (L := L) 2 a
  obtain ⟨t1, t2⟩ := two_X (lo0 := lo0) (hi0 := hi0) (lo1 := lo1) (hi1 := hi1) (K := K2 lo2 hi2 K3) hb hf ha h o
  cases hN : nn f L 2 a with
  | some q =>
    rw [n1 q hN]
    exact ⟨fun z hz => t1 z (hN.trans hz), fun hz => (by cases hz)⟩
  | none =>
    rw [n2 hN]
    obtain ⟨x, g2, x2, g3, k1, k2, k3, k4, k5, k6, k7, k8, k9, k10⟩ := t2 hN
    rw [k1]
    unfold K2
    by_cases c : tK f L (sk f L 2 a) = 2
    · obtain ⟨x3, g4, e, m1, m2, m3, m4, m5, m6⟩ := ta_21 (low := lo2) (high := hi2) hb hf (sk_in 2 a ha) k7 k8 c
      rw [e, if_pos c]
      refine ⟨fun z hz => (by cases hz), fun _ => ⟨x, x2, x3, g4, ?_, k2, k4, (m3 0 (by decide)).trans k3, (m3 1 (by decide)).trans k4, m2, k5, k6, tV_b c, m1, m6, ?_⟩⟩
      · rw [c3_mk, if_pos rfl]
      · rw [m4, k9]; rfl
    · obtain ⟨x3, g4, e, m1⟩ := ta_20 (low := lo2) (high := hi2) k7 c
      rw [e, if_neg c, c3_mk, if_neg (by decide)]
      refine ⟨fun z hz => ?_, fun hz => (by cases hz)⟩
      cases hz
      exact ⟨rfl, m1⟩
def K3p (to : Int32) (x x2 x3 : MM) (g4 : GG) : Bool × MM × GG := if x3 162 18 = 0 then (true, x3, g4) else (true, ms (ms x3 170 (((13 : Int32) + ((16 : Int32) * (x 171 0))) + to).toNatClampNeg (x2 171 1)) 170 ((((13 : Int32) + ((16 : Int32) * (x 171 0))) + to) + 1).toNatClampNeg (x3 171 2), g4)
theorem of2_X {z : Bool × MM × GG} {v : MM} {g : GG} {f : Nat → Int32} {L a w : Nat} {P : Int32 × Int32} {R : Nat → Int32} {lo1 hi1 : Int32 → Int32} (hb : L ≤ 600) (hf : ∀ j, j < L → Bd (-128) 127 (f j)) (ha : a ≤ L) (h : RSv v g f L a P R) (o : OR P (tS f L a)) (b0 : Bd 0 9 (R 0)) (hg : v 162 18 = 1) (hw : w = 2 ∨ w = 10)
    (e : z = two 0 (R 0 - 1) lo1 hi1 (K2 0 10 (K3p (iN (hcol w)))) v g) (hC : ∀ v0 v1, Bd 0 999 v0 → Bd 0 999 v1 → okn (lo1 v0) (hi1 v0) v1 = chk w 1 (R 0) v0 v1) :
    OUT z f L 3 a (fo (fun j x => chk w j (R 0) (vv f L a 0) x) (vv f L a) (pp f L a) 3 0 P) (rowH w R (vv f L a 0) (vv f L a 1) (vv f L a 2) (chk w 0 (R 0) (vv f L a 0) (vv f L a 0) && (chk w 1 (R 0) (vv f L a 0) (vv f L a 1) && chk w 2 (R 0) (vv f L a 0) (vv f L a 2)))) := by
  rw [e, fo_3]
  obtain ⟨t1, t2⟩ := three_X (lo0 := 0) (hi0 := R 0 - 1) (lo1 := lo1) (hi1 := hi1) (lo2 := 0) (hi2 := 10) (K3 := K3p (iN (hcol w))) hb hf ha h o
  refine ⟨t1, fun q => ?_⟩
  obtain ⟨x, x2, x3, g4, k1, k2, k3, k4, k5, k6, j0, j1, j2, k7, k8, k9⟩ := t2 q
  rw [ck_p2 (n := R 0) (v0 := vv f L a 0) hw j2, hC _ _ j0 j1, ck_p0 (w := w) (v0 := vv f L a 0) (by omega) (by omega) b0 j0] at k7 k8 k9
  rw [hg] at k9
  rw [k1]
  unfold K3p
  have hrow : ∀ gd, rowH w R (vv f L a 0) (vv f L a 1) (vv f L a 2) gd = if gd = true then upd (upd R (13 + 16 * (vv f L a 0).toInt.toNat + hcol w) (vv f L a 1)) (14 + 16 * (vv f L a 0).toInt.toNat + hcol w) (vv f L a 2) else R := by
    intro gd
    unfold rowH
    rw [if_neg (by omega), if_neg (by omega), if_neg (by omega), if_pos hw]
  rw [hrow]
  by_cases c : (chk w 0 (R 0) (vv f L a 0) (vv f L a 0) && (chk w 1 (R 0) (vv f L a 0) (vv f L a 1) && chk w 2 (R 0) (vv f L a 0) (vv f L a 2))) = true
  · obtain ⟨c0, c12⟩ := (Bool.and_eq_true _ _).mp c
    obtain ⟨c1, c2⟩ := (Bool.and_eq_true _ _).mp c12
    rw [if_pos c]
    rw [c0, c1, c2] at k7 k8 k9
    rw [if_neg (show ¬ x3 162 18 = 0 by rw [k9]; decide)]
    rw [c0, c1, c2]
    refine ⟨rfl, ?_, k8⟩
    refine rs_170 k7 ?_ rfl rfl
    show ms (ms x3 170 _ (x2 171 1)) 170 _ (x3 171 2) 170 = _
    rw [ms_a1, ms_a1, k2, ix_p (by omega) (ck_8 (by omega) (by omega) j0 c0), ix_p1 (by omega) (ck_8 (by omega) (by omega) j0 c0), k3, k6, k7.2.2.2.2]
  · have k9' : x3 162 18 = 0 := by
      rw [k9]
      by_cases c2 : chk w 2 (R 0) (vv f L a 0) (vv f L a 2) = true
      · rw [if_pos c2]
        by_cases c1 : chk w 1 (R 0) (vv f L a 0) (vv f L a 1) = true
        · rw [if_pos c1]
          by_cases c0 : chk w 0 (R 0) (vv f L a 0) (vv f L a 0) = true
          · exact absurd (by rw [c0, c1, c2]; rfl) c
          · rw [if_neg c0]
        · rw [if_neg c1]
      · rw [if_neg c2]
    rw [if_neg c, if_pos k9']
    exact ⟨rfl, k7, k8⟩
theorem days_X {v : MM} {g : GG} {f : Nat → Int32} {L a w : Nat} {P : Int32 × Int32} {R : Nat → Int32} {gd : Bool} (hb : L ≤ 600) (hf : ∀ j, j < L → Bd (-128) 127 (f j)) (ha : a ≤ L) (h : RSv v g f L a P R) (o : OR P (tS f L a)) (h1 : 12 ≤ w) (h2 : w ≤ 14) :
    OUT (Fx_M_daysLineX (iN (w - 10)) v g) f L 1 a (fo (fun j x => chk w j (R 0) (vv f L a 0) x) (vv f L a) (pp f L a) 1 0 P) (rowH w R (vv f L a 0) (vv f L a 1) (vv f L a 2) gd) := by
  have hN : nn f L 1 a = if tK f L a = 2 then none else some (tS f L a) := rfl
  have hr : rowH w R (vv f L a 0) (vv f L a 1) (vv f L a 2) gd = upd R (w - 10) (vv f L a 0) := by
    unfold rowH
    rw [if_neg (by omega), if_neg (by omega), if_pos (by omega)]
  rw [fo_1, hr]
  unfold OUT
  rw [hN]
  by_cases k : tK f L a = 2
  · obtain ⟨x, g2, e, m1, m2, m3, m4⟩ := nu_1 (low := 0) (high := 99) hb hf ha h o k
    have b := tV_b k
    have ck : okn 0 99 (tV f L a) = chk w 0 (R 0) (vv f L a 0) (vv f L a 0) := by
      rw [ok_0 b]
      unfold chk
      have hh : (sAr 2).getD (3 * w + 0) 0 = 99 := by
        rcases (show w = 12 ∨ w = 13 ∨ w = 14 by omega) with z | z | z <;> rw [z] <;> decide
      rw [hh, if_neg (by omega), if_pos (by omega), Bool.and_true]
      rfl
    rw [ck] at m1
    rw [if_pos k]
    refine ⟨fun q z => (by cases z), fun _ => ?_⟩
    have e2 : Fx_M_daysLineX (iN (w - 10)) v g = (true, ms x 170 (w - 10) (tV f L a), g2) := by
      unfold Fx_M_daysLineX
      rw [e, c3_mk, if_pos rfl]
      unfold Fx_M_daysLineX_J30
      rw [iN_cl (by omega), m2]
      rfl
    rw [e2]
    refine ⟨rfl, rs_170 m1 ?_ rfl rfl, ?_⟩
    · show ms x 170 (w - 10) (tV f L a) 170 = _
      rw [ms_a1, m1.2.2.2.2]
      rfl
    · have h3 := tN_lt (f := f) (L := L) (a := a) (by rw [k]; decide)
      have h4 := tS_le (f := f) (L := L) (tN f L a)
      have h5 := tS_in (f := f) (tN_in (f := f) ha)
      exact or_rmb (t := tS f L a) (t2 := tS f L (tN f L a)) o (by omega) (by omega)
  · rw [if_neg k]
    refine ⟨fun q z => ?_, fun z => (by cases z)⟩
    cases z
    have e2 : Fx_M_daysLineX (iN (w - 10)) v g = (false, ms (ms v 162 14 (iN (tS f L a))) 170 (w - 10) (v 170 (w - 10)), g) := by
      unfold Fx_M_daysLineX
      rw [nu_0 h k, c3_mk, if_neg (by decide)]
      unfold Fx_M_daysLineX_J30
      rw [iN_cl (by omega)]
      rfl
    rw [e2]
    exact ⟨rfl, rfl⟩
end
