/-! pure rows: numbers, memory, tokens -/
def iN (n : Nat) : Int32 := Int32.ofNat n
theorem iN_ti {n : Nat} (h : n ≤ 100000) : (iN n).toInt = n := Int32.toInt_ofNat_of_lt (by omega)
theorem iN_cl {n : Nat} (h : n ≤ 100000) : (iN n).toNatClampNeg = n := Int32.toNatClampNeg_ofNat_of_lt (by omega)
theorem iN_s {n : Nat} : iN n + 1 = iN (n + 1) := (Int32.ofNat_add n 1).symm
theorem iN_a {n m : Nat} : iN n + iN m = iN (n + m) := (Int32.ofNat_add n m).symm
theorem iN_m {n m : Nat} : iN n * iN m = iN (n * m) := (Int32.ofNat_mul n m).symm
theorem iN_lt {a b : Nat} (ha : a ≤ 100000) (hb : b ≤ 100000) : iN a < iN b ↔ a < b := Int32.ofNat_lt_iff_lt (by omega) (by omega)
theorem iN_le {a b : Nat} (ha : a ≤ 100000) (hb : b ≤ 100000) : iN a ≤ iN b ↔ a ≤ b := Int32.ofNat_le_iff_le (by omega) (by omega)
theorem iN_eq {a b : Nat} (ha : a ≤ 100000) (hb : b ≤ 100000) : iN a = iN b ↔ a = b :=
  ⟨fun h => by have h1 := congrArg Int32.toInt h; rw [iN_ti ha, iN_ti hb] at h1; omega, fun h => h ▸ rfl⟩
theorem iN_sub {a b : Nat} (h : b ≤ a) : iN a - iN b = iN (a - b) := (Int32.ofNat_sub a b h).symm
theorem iN_of {v : Int32} {lo hi : Int} (b : Bd lo hi v) (h : 0 ≤ lo) : v = iN v.toInt.toNat := by
  obtain ⟨n, h1, h2⟩ := i32_nat b h
  have h3 : v.toInt.toNat = n := by omega
  rw [h3]
  exact h2
theorem ms_a1 {u : Nat → Nat → Int32} {a i : Nat} {v : Int32} : ms u a i v a = upd (u a) i v := if_pos rfl
theorem ms_c1 {u : Nat → Nat → Int32} {a b i : Nat} {v : Int32} (h : b ≠ a) : ms u a i v b = u b := if_neg h
theorem ms_e1 {u : Nat → Nat → Int32} {a i : Nat} {v : Int32} : ms u a i v a i = v := by rw [ms_a1]; exact if_pos rfl
theorem ms_i1 {u : Nat → Nat → Int32} {a i j : Nat} {v : Int32} (h : j ≠ i) : ms u a i v a j = u a j := by rw [ms_a1]; exact if_neg h
theorem upd_upd {f : Nat → Int32} {i : Nat} {x y : Int32} : upd (upd f i x) i y = upd f i y := by
  funext j
  unfold upd
  by_cases q : j = i
  · rw [if_pos q, if_pos q]
  · rw [if_neg q, if_neg q, if_neg q]
theorem upd_self {f : Nat → Int32} {i : Nat} : upd f i (f i) = f := by
  funext j
  unfold upd
  by_cases q : j = i
  · rw [if_pos q, q]
  · rw [if_neg q]
theorem ms_ms {u : Nat → Nat → Int32} {a i : Nat} {x y : Int32} : ms (ms u a i x) a i y = ms u a i y := by
  funext b
  by_cases h : b = a
  · rw [h, ms_a1, ms_a1, ms_a1, upd_upd]
  · rw [ms_c1 h, ms_c1 h, ms_c1 h]
theorem ms_self {u : Nat → Nat → Int32} {a i : Nat} : ms u a i (u a i) = u := by
  funext b
  by_cases h : b = a
  · rw [h, ms_a1, upd_self]
  · rw [ms_c1 h]
def isB (v : Int32) : Bool := v == 10 || v == 32
def isL (v : Int32) : Bool := decide (97 ≤ v) && decide (v ≤ 122)
def isD (v : Int32) : Bool := decide (48 ≤ v) && decide (v ≤ 57)
/-- the first place from a on, below L, where p fails (or L) -/
def run (p : Int32 → Bool) (f : Nat → Int32) (L a : Nat) : Nat := if a < L ∧ p (f a) = true then run p f L (a + 1) else a
termination_by L - a
decreasing_by omega
theorem run_s {p : Int32 → Bool} {f : Nat → Int32} {L a : Nat} (h1 : a < L) (h2 : p (f a) = true) : run p f L a = run p f L (a + 1) := by rw [run, if_pos ⟨h1, h2⟩]
theorem run_e {p : Int32 → Bool} {f : Nat → Int32} {L a : Nat} (h : ¬ (a < L ∧ p (f a) = true)) : run p f L a = a := by rw [run, if_neg h]
theorem run_ind {p : Int32 → Bool} {f : Nat → Int32} {L : Nat} {P : Nat → Prop} (h1 : ∀ a, ¬ (a < L ∧ p (f a) = true) → P a) (h2 : ∀ a, a < L → p (f a) = true → P (a + 1) → P a) : ∀ n a, L - a ≤ n → P a := by
  intro n
  induction n with
  | zero =>
    intro a ha
    exact h1 a (fun q => by omega)
  | succ n ih =>
    intro a ha
    by_cases q : a < L ∧ p (f a) = true
    · exact h2 a q.1 q.2 (ih (a + 1) (by omega))
    · exact h1 a q
theorem run_le {p : Int32 → Bool} {f : Nat → Int32} {L : Nat} (a : Nat) : a ≤ run p f L a :=
  run_ind (p := p) (f := f) (L := L) (P := fun a => a ≤ run p f L a) (fun a h => by rw [run_e h]; exact Nat.le_refl _) (fun a h1 h2 ih => by rw [run_s h1 h2]; omega) _ a (Nat.le_refl _)
theorem run_in {p : Int32 → Bool} {f : Nat → Int32} {L : Nat} (a : Nat) (h : a ≤ L) : run p f L a ≤ L :=
  run_ind (p := p) (f := f) (L := L) (P := fun a => a ≤ L → run p f L a ≤ L) (fun a q h => by rw [run_e q]; exact h) (fun a h1 h2 ih h => by rw [run_s h1 h2]; exact ih h1) _ a (Nat.le_refl _) h
theorem run_all {p : Int32 → Bool} {f : Nat → Int32} {L : Nat} (a : Nat) : ∀ j, a ≤ j → j < run p f L a → p (f j) = true :=
  run_ind (p := p) (f := f) (L := L) (P := fun a => ∀ j, a ≤ j → j < run p f L a → p (f j) = true) (fun a q j h1 h2 => by rw [run_e q] at h2; omega) (fun a h1 h2 ih j q1 q2 => by
    rw [run_s h1 h2] at q2
    by_cases e : j = a
    · rw [e]; exact h2
    · exact ih j (by omega) q2) _ a (Nat.le_refl _)
/-- the number that the digits from a on tell -/
def dgv (f : Nat → Int32) (L a : Nat) (v : Int32) : Int32 := if a < L ∧ isD (f a) = true then dgv f L (a + 1) (v * 10 + (f a - 48)) else v
termination_by L - a
decreasing_by omega
theorem dgv_s {f : Nat → Int32} {L a : Nat} {v : Int32} (h1 : a < L) (h2 : isD (f a) = true) : dgv f L a v = dgv f L (a + 1) (v * 10 + (f a - 48)) := by rw [dgv, if_pos ⟨h1, h2⟩]
theorem dgv_e {f : Nat → Int32} {L a : Nat} {v : Int32} (h : ¬ (a < L ∧ isD (f a) = true)) : dgv f L a v = v := by rw [dgv, if_neg h]
/-- tokens: first place, sort (0 end, 1 word, 2 number, 3 sign, 4 wrong), place behind, number -/
def tS (f : Nat → Int32) (L a : Nat) : Nat := run isB f L a
def tK (f : Nat → Int32) (L a : Nat) : Int32 := if L ≤ tS f L a then 0 else if isL (f (tS f L a)) = true then 1 else if isD (f (tS f L a)) = true then (if 3 < run isD f L (tS f L a) - tS f L a then 4 else 2) else if f (tS f L a) = 59 then 3 else 4
def tN (f : Nat → Int32) (L a : Nat) : Nat := if L ≤ tS f L a then tS f L a else if isL (f (tS f L a)) = true then run isL f L (tS f L a) else if isD (f (tS f L a)) = true then run isD f L (tS f L a) else tS f L a + 1
def tV (f : Nat → Int32) (L a : Nat) : Int32 := dgv f L (tS f L a) 0
theorem tk_0 {f : Nat → Int32} {L a : Nat} (h : L ≤ tS f L a) : tK f L a = 0 ∧ tN f L a = tS f L a := ⟨if_pos h, if_pos h⟩
theorem tk_1 {f : Nat → Int32} {L a : Nat} (h : ¬ L ≤ tS f L a) (q : isL (f (tS f L a)) = true) : tK f L a = 1 ∧ tN f L a = run isL f L (tS f L a) := by
  unfold tK tN
  rw [if_neg h, if_pos q, if_neg h, if_pos q]
  exact ⟨rfl, rfl⟩
theorem tk_2 {f : Nat → Int32} {L a : Nat} (h : ¬ L ≤ tS f L a) (q : ¬ isL (f (tS f L a)) = true) (r : isD (f (tS f L a)) = true) : tK f L a = (if 3 < run isD f L (tS f L a) - tS f L a then 4 else 2) ∧ tN f L a = run isD f L (tS f L a) := by
  unfold tK tN
  rw [if_neg h, if_neg q, if_pos r, if_neg h, if_neg q, if_pos r]
  exact ⟨rfl, rfl⟩
theorem tk_3 {f : Nat → Int32} {L a : Nat} (h : ¬ L ≤ tS f L a) (q : ¬ isL (f (tS f L a)) = true) (r : ¬ isD (f (tS f L a)) = true) : tK f L a = (if f (tS f L a) = 59 then 3 else 4) ∧ tN f L a = tS f L a + 1 := by
  unfold tK tN
  rw [if_neg h, if_neg q, if_neg r, if_neg h, if_neg q, if_neg r]
  exact ⟨rfl, rfl⟩
theorem tS_le {f : Nat → Int32} {L : Nat} (a : Nat) : a ≤ tS f L a := run_le a
theorem tS_in {f : Nat → Int32} {L a : Nat} (h : a ≤ L) : tS f L a ≤ L := run_in a h
theorem tN_le {f : Nat → Int32} {L : Nat} (a : Nat) : tS f L a ≤ tN f L a := by
  unfold tN
  split
  · exact Nat.le_refl _
  · split
    · exact run_le _
    · split
      · exact run_le _
      · omega
theorem tN_in {f : Nat → Int32} {L a : Nat} (h : a ≤ L) : tN f L a ≤ L := by
  have h1 := tS_in (f := f) h
  unfold tN
  split
  · exact h1
  · split
    · exact run_in _ h1
    · split
      · exact run_in _ h1
      · omega
/-- a token that is not the end goes on -/
theorem tN_lt {f : Nat → Int32} {L a : Nat} (h : ¬ tK f L a = 0) : tS f L a < tN f L a := by
  have h0 : ¬ L ≤ tS f L a := fun q => h (tk_0 q).1
  have s1 : ∀ p : Int32 → Bool, p (f (tS f L a)) = true → tS f L a < run p f L (tS f L a) := by
    intro p hp
    rw [run_s (by omega) hp]
    have := run_le (p := p) (f := f) (L := L) (tS f L a + 1)
    omega
  unfold tN
  rw [if_neg h0]
  split
  · rename_i q; exact s1 _ q
  · split
    · rename_i q; exact s1 _ q
    · omega
theorem tS_end {f : Nat → Int32} {L a : Nat} (ha : a ≤ L) (h : tK f L a = 0) : tS f L a = L := by
  by_cases q : L ≤ tS f L a
  · have := tS_in (f := f) ha; omega
  · exfalso
    unfold tK at h
    rw [if_neg q] at h
    revert h
    split
    · decide
    · split
      · split <;> decide
      · split <;> decide
