/-! lines: what both readers do with a line -/
def rm (P : Int32 × Int32) (f p : Int32) : Int32 × Int32 := if P.1 = 0 then (f, p) else P
/-- b: it is well -/
def rmb (b : Bool) (f p : Int32) (P : Int32 × Int32) : Int32 × Int32 := if b = true then P else rm P f p
theorem rm_nz {P : Int32 × Int32} {f p : Int32} (hf : ¬ f = 0) : ¬ (rm P f p).1 = 0 := by
  unfold rm
  split
  · exact hf
  · assumption
theorem rmb_t {f p : Int32} {P : Int32 × Int32} {b : Bool} (h : b = true) : rmb b f p P = P := if_pos h
theorem rmb_f {f p : Int32} {P : Int32 × Int32} {b : Bool} (h : ¬ b = true) : rmb b f p P = rm P f p := if_neg h
theorem rmb_z {f p : Int32} {P : Int32 × Int32} {b : Bool} (hf : ¬ f = 0) (h : (rmb b f p P).1 = 0) : b = true ∧ P.1 = 0 := by
  by_cases q : b = true
  · rw [rmb_t q] at h; exact ⟨q, h⟩
  · rw [rmb_f q] at h; exact absurd h (rm_nz hf)
/-- of a hill's line w: is its i-th number well (n ponds; v0 the first number) -/
def chk (w i : Nat) (n v0 v : Int32) : Bool := decide (v ≤ (sAr 2).getD (3 * w + i) 0) && (if w = 0 then decide (¬ i = 1 ∨ v ≤ v0) else if 10 < w then true else if i = 0 then decide (v < n) else decide (1 < i ∨ 2 < w ∨ (v0 < v ∧ v < n)))
def fl (w : Nat) (n r : Int32) : Bool := decide (w = 0 ∧ 9 ≤ n ∨ w = 11 ∧ 4 ≤ r)
/-- the numbers of a line, from the i-th on -/
def fo (ck : Nat → Int32 → Bool) (v p : Nat → Int32) (c i : Nat) (P : Int32 × Int32) : Int32 × Int32 := if i < c then fo ck v p c (i + 1) (rmb (ck i (v i)) 2 (p i) P) else P
termination_by c - i
decreasing_by omega
theorem fo_s {ck : Nat → Int32 → Bool} {v p : Nat → Int32} {c i : Nat} {P : Int32 × Int32} (h : i < c) : fo ck v p c i P = fo ck v p c (i + 1) (rmb (ck i (v i)) 2 (p i) P) := by rw [fo, if_pos h]
theorem fo_e {ck : Nat → Int32 → Bool} {v p : Nat → Int32} {c i : Nat} {P : Int32 × Int32} (h : ¬ i < c) : fo ck v p c i P = P := by rw [fo, if_neg h]
theorem fo_z {ck : Nat → Int32 → Bool} {v p : Nat → Int32} {c : Nat} : ∀ (n i : Nat) (P : Int32 × Int32), c - i ≤ n → (fo ck v p c i P).1 = 0 → P.1 = 0 ∧ ∀ j, i ≤ j → j < c → ck j (v j) = true := by
  intro n
  induction n with
  | zero => intro i P h q; rw [fo_e (by omega)] at q; exact ⟨q, fun j h1 h2 => by omega⟩
  | succ n ih =>
    intro i P h q
    by_cases c1 : i < c
    · rw [fo_s c1] at q
      obtain ⟨h1, h2⟩ := ih (i + 1) _ (by omega) q
      obtain ⟨h3, h4⟩ := rmb_z (by decide) h1
      refine ⟨h4, fun j q1 q2 => ?_⟩
      by_cases z : j = i
      · rw [z]; exact h3
      · exact h2 j (by omega) q2
    · rw [fo_e c1] at q; exact ⟨q, fun j h1 h2 => by omega⟩
def PR (u : Nat → Nat → Int32) : Int32 × Int32 := (u 29 5, u 29 6)
theorem re_X {u : Nat → Nat → Int32} {g : Nat → Nat → Int64} {f p : Int32} : PR (Fx_Rd_rememberX f p u g) = rm (PR u) f p ∧ ∀ b, b ≠ 29 → Fx_Rd_rememberX f p u g b = u b := by
  unfold Fx_Rd_rememberX
  by_cases h : u 29 5 = 0
  · rw [if_pos h]
    refine ⟨?_, fun b hb => (ms_c1 hb).trans (ms_c1 hb)⟩
    show (f, p) = rm (PR u) f p
    unfold rm PR
    rw [if_pos h]
  · rw [if_neg h]
    refine ⟨?_, fun _ _ => rfl⟩
    unfold rm PR
    rw [if_neg h]
theorem cb_X {u : Nat → Nat → Int32} {g : Nat → Nat → Int64} {w i : Nat} (hw : w < 15) (hi : i < 3) : Fx_Rd_canBeInHillX (iN w) (iN i) u g = chk w i (u 32 0) (u 41 0) (u 41 i) := by
  unfold Fx_Rd_canBeInHillX chk
  show (if u 41 (iN i).toNatClampNeg ≤ (sAr 2).getD ((iN 3 * iN w) + iN i).toNatClampNeg 0 then (if iN w = iN 0 then (if iN i = iN 1 then (if (u 41 0) < u 41 (iN i).toNatClampNeg then false else true) else true) else (if iN w ≤ iN 10 then (if iN i = iN 0 then (if (u 32 0) ≤ u 41 (iN i).toNatClampNeg then false else true) else (if iN 1 < iN i then true else (if iN 2 < iN w then true else (if u 41 (iN i).toNatClampNeg ≤ (u 41 0) then false else (if (u 32 0) ≤ u 41 (iN i).toNatClampNeg then false else true))))) else true)) else false) = _
  rw [iN_cl (by omega), iN_m, iN_a, iN_cl (by omega)]
  by_cases h : u 41 i ≤ (sAr 2).getD (3 * w + i) 0
  · rw [if_pos h, decide_eq_true h, Bool.true_and]
    by_cases w0 : w = 0
    · rw [if_pos ((iN_eq (by omega) (by omega)).mpr w0), if_pos w0]
      by_cases i1 : i = 1
      · rw [if_pos ((iN_eq (by omega) (by omega)).mpr i1)]
        by_cases q : u 41 0 < u 41 i
        · rw [if_pos q, decide_eq_false]
          intro z
          rcases z with z | z
          · exact z i1
          · exact lt_le_no q z
        · rw [if_neg q, decide_eq_true (Or.inr (i_nlt q))]
      · rw [if_neg (fun z => i1 ((iN_eq (by omega) (by omega)).mp z)), decide_eq_true (Or.inl i1)]
    · rw [if_neg (fun z => w0 ((iN_eq (by omega) (by omega)).mp z)), if_neg w0]
      by_cases w1 : 10 < w
      · rw [if_neg (fun z => by have := (iN_le (by omega) (by omega)).mp z; omega), if_pos w1]
      · rw [if_pos ((iN_le (by omega) (by omega)).mpr (by omega)), if_neg w1]
        by_cases i0 : i = 0
        · rw [if_pos ((iN_eq (by omega) (by omega)).mpr i0), if_pos i0]
          by_cases q : u 32 0 ≤ u 41 i
          · rw [if_pos q, decide_eq_false (fun z => lt_le_no z q)]
          · rw [if_neg q, decide_eq_true (i_nle q)]
        · rw [if_neg (fun z => i0 ((iN_eq (by omega) (by omega)).mp z)), if_neg i0]
          by_cases i1 : 1 < i
          · rw [if_pos ((iN_lt (by omega) (by omega)).mpr i1), decide_eq_true (Or.inl i1)]
          · rw [if_neg (fun z => i1 ((iN_lt (by omega) (by omega)).mp z))]
            by_cases w2 : 2 < w
            · rw [if_pos ((iN_lt (by omega) (by omega)).mpr w2), decide_eq_true (Or.inr (Or.inl w2))]
            · rw [if_neg (fun z => w2 ((iN_lt (by omega) (by omega)).mp z))]
              by_cases q : u 41 i ≤ u 41 0
              · rw [if_pos q, decide_eq_false]
                intro z
                rcases z with z | z | z
                · exact i1 z
                · exact w2 z
                · exact lt_le_no z.1 q
              · rw [if_neg q]
                by_cases r : u 32 0 ≤ u 41 i
                · rw [if_pos r, decide_eq_false]
                  intro z
                  rcases z with z | z | z
                  · exact i1 z
                  · exact w2 z
                  · exact lt_le_no z.2 r
                · rw [if_neg r, decide_eq_true (Or.inr (Or.inr ⟨i_nle q, i_nle r⟩))]
  · rw [if_neg h, decide_eq_false h]
    rfl
theorem fl_X {u : Nat → Nat → Int32} {g : Nat → Nat → Int64} {w : Nat} (hw : w < 15) : Fx_Rd_isFullX (iN w) u g = fl w (u 32 0) (u 32 2) := by
  unfold Fx_Rd_isFullX fl
  by_cases w0 : w = 0
  · subst w0
    rw [if_pos (show iN 0 = (0 : Int32) from rfl)]
    by_cases q : 9 ≤ u 32 0
    · rw [if_pos q, decide_eq_true (Or.inl ⟨rfl, q⟩)]
    · rw [if_neg q, if_neg (show ¬ iN 0 = (11 : Int32) by decide), decide_eq_false]
      intro z
      rcases z with z | z
      · exact q z.2
      · exact absurd z.1 (by decide)
  · rw [if_neg (show ¬ iN w = (0 : Int32) from fun z => w0 ((iN_eq (b := 0) (by omega) (by omega)).mp z))]
    by_cases w1 : w = 11
    · subst w1
      rw [if_pos (show iN 11 = (11 : Int32) from rfl)]
      by_cases q : u 32 2 < 4
      · rw [if_pos q, decide_eq_false]
        intro z
        rcases z with z | z
        · exact absurd z.1 (by decide)
        · exact lt_le_no q z.2
      · rw [if_neg q, decide_eq_true (Or.inr ⟨rfl, i_nlt q⟩)]
    · rw [if_neg (show ¬ iN w = (11 : Int32) from fun z => w1 ((iN_eq (b := 11) (by omega) (by omega)).mp z)), decide_eq_false]
      intro z
      rcases z with z | z
      · exact w0 z.1
      · exact w1 z.1
theorem tk_L {u0 : Nat → Nat → Int32} {g : Nat → Nat → Int64} {w c : Nat} (hw : w < 15) (hc : c ≤ 3) : ∀ (n i : Nat) (u : Nat → Nat → Int32), c - i < n → i ≤ c → ∃ x, Fx_Rd_takeX_L36 0 (iN w) (iN c) u0 g n (iN i) u = Fx_Rd_takeForHillX (iN w) (iN c) x g ∧ (∀ b, b ≠ 29 → x b = u b) ∧ PR x = fo (fun j v => chk w j (u 32 0) (u 41 0) v) (u 41) (u 42) c i (PR u) := by
  intro n
  induction n with
  | zero => intro i u h; omega
  | succ n ih =>
    intro i u h hi
    rw [Fx_Rd_takeX_L36_s]
    by_cases k : c ≤ i
    · refine ⟨u, ?_, fun _ _ => rfl, (fo_e (by omega)).symm⟩
      rw [if_pos ((iN_le (by omega) (by omega)).mpr k), if_pos rfl]
      rfl
    · rw [if_neg (fun z => k ((iN_le (by omega) (by omega)).mp z)), if_pos rfl, iN_cl (by omega)]
      show ∃ x, (if Fx_Rd_canBeInHillX (iN w) (iN i) u g = true then Fx_Rd_takeX_L36 0 (iN w) (iN c) u0 g n (iN i + 1) u else Fx_Rd_takeX_L36 0 (iN w) (iN c) u0 g n (iN i + 1) (Fx_Rd_rememberX 2 (u 42 i) u g)) = _ ∧ _
      rw [cb_X hw (by omega), iN_s, fo_s (by omega)]
      by_cases q : chk w i (u 32 0) (u 41 0) (u 41 i) = true
      · rw [if_pos q, rmb_t q]
        exact ih (i + 1) u (by omega) (by omega)
      · rw [if_neg q, rmb_f q]
        obtain ⟨r1, r2⟩ := re_X (u := u) (g := g) (f := 2) (p := u 42 i)
        obtain ⟨x, h1, h2, h3⟩ := ih (i + 1) (Fx_Rd_rememberX 2 (u 42 i) u g) (by omega) (by omega)
        rw [r2 32 (by decide), r2 41 (by decide), r2 42 (by decide), r1] at h3
        exact ⟨x, h1, fun b hb => (h2 b hb).trans (r2 b hb), h3⟩
/-- a whole line of a hill is taken -/
theorem tk_H {u : Nat → Nat → Int32} {g : Nat → Nat → Int64} {w c : Nat} {first : Int32} (hw : w < 15) (hc : c ≤ 3) : ∃ x, Fx_Rd_takeX 0 (iN w) first (iN c) u g = Fx_Rd_takeForHillX (iN w) (iN c) x g ∧ (∀ b, b ≠ 29 → x b = u b) ∧ PR x = fo (fun j v => chk w j (u 32 0) (u 41 0) v) (u 41) (u 42) c 0 (rmb (!fl w (u 32 0) (u 32 2)) 3 first (PR u)) := by
  have e : Fx_Rd_takeX 0 (iN w) first (iN c) u g = (if Fx_Rd_isFullX (iN w) u g = true then Fx_Rd_takeX_L36 0 (iN w) (iN c) u g 4 (iN 0) (Fx_Rd_rememberX 3 first u g) else Fx_Rd_takeX_L36 0 (iN w) (iN c) u g 4 (iN 0) u) := rfl
  rw [e, fl_X hw]
  by_cases q : fl w (u 32 0) (u 32 2) = true
  · rw [if_pos q, q, rmb_f (by decide)]
    obtain ⟨r1, r2⟩ := re_X (u := u) (g := g) (f := 3) (p := first)
    obtain ⟨x, h1, h2, h3⟩ := tk_L (u0 := u) (g := g) hw hc 4 0 (Fx_Rd_rememberX 3 first u g) (by omega) (by omega)
    rw [r2 32 (by decide), r2 41 (by decide), r2 42 (by decide), r1] at h3
    exact ⟨x, h1, fun b hb => (h2 b hb).trans (r2 b hb), h3⟩
  · rw [if_neg q, (Bool.not_eq_true _).mp q, rmb_t (by decide)]
    exact tk_L (u0 := u) (g := g) hw hc 4 0 u (by omega) (by omega)
/-- the first place where a line breaks off: r numbers from p on, then the sign -/
def nb (f : Nat → Int32) (L : Nat) : Nat → Nat → Option Nat
  | 0, p => if tK f L p = 3 then none else some (tS f L p)
  | r + 1, p => if tK f L p = 2 then nb f L r (tN f L p) else some (tS f L p)
/-- the place behind r tokens -/
def sk (f : Nat → Int32) (L : Nat) : Nat → Nat → Nat
  | 0, p => p
  | r + 1, p => sk f L r (tN f L p)
theorem sk_in {f : Nat → Int32} {L : Nat} : ∀ (r p : Nat), p ≤ L → sk f L r p ≤ L := by
  intro r
  induction r with
  | zero => intro p h; exact h
  | succ r ih => intro p h; exact ih _ (tN_in h)
/-- how a line of numbers goes: with memory x, or broken off -/
theorem rl_L {u2 : Nat → Nat → Int32} {g : Nat → Nat → Int64} {L c : Nat} {k : Int32} (hb : L ≤ 600) (hc : c ≤ 3) : ∀ (n r i p : Nat) (u : Nat → Nat → Int32), r < n → i + r = c → p ≤ L → u 30 1 = iN L → u 30 2 = iN p →
    (∀ q, nb (u 2) L r p = some q → ∃ x, Fx_Rd_readLineX_L65b 0 g u2 k (iN c) n (iN i) u = (false, x) ∧ x 29 5 = 1 ∧ x 29 6 = iN q) ∧
    (nb (u 2) L r p = none → ∃ x, Fx_Rd_readLineX_L65b 0 g u2 k (iN c) n (iN i) u = (true, Fx_Rd_takeX 0 k (u2 30 4) (iN c) x g) ∧ (∀ b, b ≠ 30 → b ≠ 41 → b ≠ 42 → x b = u b) ∧ x 30 0 = u 30 0 ∧ x 30 1 = u 30 1 ∧ x 30 2 = iN (sk (u 2) L (r + 1) p) ∧
      (∀ j, j < i → x 41 j = u 41 j ∧ x 42 j = u 42 j) ∧ ∀ j, j < r → x 41 (i + j) = tV (u 2) L (sk (u 2) L j p) ∧ x 42 (i + j) = iN (tS (u 2) L (sk (u 2) L j p))) := by
  intro n
  induction n with
  | zero => intro r i p u h; omega
  | succ n ih =>
    intro r i p u hr hir hp h1 h2
    have A := ad_X (g := g) h1 hb hp h2
    have A' := A
    obtain ⟨a0, a1, a2, a3, a4, a5, a6⟩ := A'
    rw [Fx_Rd_readLineX_L65b_s]
    cases r with
    | zero =>
      rw [if_pos ((iN_le (by omega) (by omega)).mpr (by omega))]
      have e : (xq_lt (Fx_Tk_advanceX u g) fun y => if (y 30 3) = (3 : Int32) then (xq_lt (Fx_Rd_takeX 0 k (u2 30 4) (iN c) y g) fun z => (true, z)) else (xq_c2 (Fx_Rd_breaksOffX y g) fun t z => (t, z))) = (if tK (u 2) L p = 3 then (true, Fx_Rd_takeX 0 k (u2 30 4) (iN c) (Fx_Tk_advanceX u g) g) else (false, ms (ms (Fx_Tk_advanceX u g) 29 5 1) 29 6 (iN (tS (u 2) L p)))) := by
        rw [← a4, ← a5]
        rfl
      rw [e]
      unfold nb
      by_cases q : tK (u 2) L p = 3
      · rw [if_pos q, if_pos q]
        refine ⟨fun q h => (by cases h), fun _ => ⟨Fx_Tk_advanceX u g, rfl, fun b hb _ _ => a0 b hb, a1, a2, a3, fun j _ => ?_, fun j hj => by omega⟩⟩
        rw [a0 41 (by decide), a0 42 (by decide)]
        exact ⟨rfl, rfl⟩
      · rw [if_neg q, if_neg q]
        refine ⟨fun z h => ?_, fun h => (by cases h)⟩
        cases h
        exact ⟨_, rfl, rfl, rfl⟩
    | succ r =>
      rw [if_neg (fun z => by have := (iN_le (by omega) (by omega)).mp z; omega), iN_cl (by omega), iN_s]
      have e : (xq_lt (Fx_Tk_advanceX u g) fun y => if (y 30 3) = (2 : Int32) then (xq_lt (ms y 41 i (y 30 5)) fun y1 => xq_lt (ms y1 42 i (y 30 4)) fun y2 => (Fx_Rd_readLineX_L65b 0 g u2 k (iN c) n) (iN (i + 1)) y2) else (xq_c2 (Fx_Rd_breaksOffX y g) fun t z => (t, z))) = (if tK (u 2) L p = 2 then Fx_Rd_readLineX_L65b 0 g u2 k (iN c) n (iN (i + 1)) (ms (ms (Fx_Tk_advanceX u g) 41 i ((Fx_Tk_advanceX u g) 30 5)) 42 i ((Fx_Tk_advanceX u g) 30 4)) else (false, ms (ms (Fx_Tk_advanceX u g) 29 5 1) 29 6 (iN (tS (u 2) L p)))) := by
        rw [← a4, ← a5]
        rfl
      rw [e]
      unfold nb
      by_cases q : tK (u 2) L p = 2
      · rw [if_pos q, if_pos q]
        have hy2 : (ms (ms (Fx_Tk_advanceX u g) 41 i ((Fx_Tk_advanceX u g) 30 5)) 42 i ((Fx_Tk_advanceX u g) 30 4)) 2 = u 2 := a0 2 (by decide)
        obtain ⟨i1, i2⟩ := ih r (i + 1) (tN (u 2) L p) (ms (ms (Fx_Tk_advanceX u g) 41 i ((Fx_Tk_advanceX u g) 30 5)) 42 i ((Fx_Tk_advanceX u g) 30 4)) (by omega) (by omega) (tN_in hp) (a2.trans h1) a3
        rw [hy2] at i1 i2
        refine ⟨i1, fun h => ?_⟩
        obtain ⟨x, e1, e2, e3, e4, e5, e6, e7⟩ := i2 h
        refine ⟨x, e1, fun b h30 h41 h42 => ?_, e3.trans a1, e4.trans a2, e5, fun j hj => ?_, fun j hj => ?_⟩
        · rw [e2 b h30 h41 h42, ms_c1 h42, ms_c1 h41, a0 b h30]
        · obtain ⟨g1, g2⟩ := e6 j (by omega)
          rw [g1, g2]
          refine ⟨?_, ?_⟩
          · rw [ms_c1 (by decide), ms_i1 (by omega), a0 41 (by decide)]
          · rw [ms_i1 (by omega), ms_c1 (by decide), a0 42 (by decide)]
        · cases j with
          | zero =>
            obtain ⟨g1, g2⟩ := e6 i (by omega)
            rw [Nat.add_zero, g1, g2]
            refine ⟨?_, ?_⟩
            · rw [ms_c1 (by decide), ms_e1]
              exact a6 q
            · rw [ms_e1]
              exact a5
          | succ j =>
            have := e7 j (by omega)
            rw [show i + (j + 1) = i + 1 + j by omega]
            exact this
      · rw [if_neg q, if_neg q]
        refine ⟨fun z h => ?_, fun h => (by cases h)⟩
        cases h
        exact ⟨_, rfl, rfl, rfl⟩
