/-! the reference's tokens -/
def byq (v : Int32) : Bool := (((v &&& 255) == 10) == (v == 10)) && (((v &&& 255) == 32) == (v == 32)) && (((v &&& 255) == 59) == (v == 59)) && ((decide (97 ≤ v &&& 255) && decide (v &&& 255 ≤ 122)) == isL v) && ((decide (48 ≤ v &&& 255) && decide (v &&& 255 ≤ 57)) == isD v) && decide (0 ≤ v &&& 255) && (!(isL v || isD v) || (v &&& 255) == v)
theorem byq_all : ∀ n, n < 256 → byq (iN n - 128) = true := by decide +kernel
theorem byq_b {v : Int32} (b : Bd (-128) 127 v) : byq v = true := by
  have b2 : Bd 0 255 (v + 128) := bd_add (l := 0) (h := 255) b (show Bd 128 128 (128 : Int32) by decide) (by decide)
  have h := byq_all (v + 128).toInt.toNat (by have := b2.2; omega)
  rw [← iN_of b2 (by decide), Int32.add_sub_cancel] at h
  exact h
theorem byq_u {v : Int32} (b : Bd (-128) 127 v) : ((v &&& 255 = 10) ↔ v = 10) ∧ ((v &&& 255 = 32) ↔ v = 32) ∧ ((v &&& 255 = 59) ↔ v = 59) ∧ (decide (97 ≤ v &&& 255) && decide (v &&& 255 ≤ 122)) = isL v ∧ (decide (48 ≤ v &&& 255) && decide (v &&& 255 ≤ 57)) = isD v ∧ 0 ≤ v &&& 255 ∧ (isL v = true ∨ isD v = true → v &&& 255 = v) := by
  have h := byq_b b
  unfold byq at h
  simp only [Bool.and_eq_true] at h
  obtain ⟨⟨⟨⟨⟨⟨h1, h2⟩, h3⟩, h4⟩, h5⟩, h6⟩, h7⟩ := h
  have t : ∀ {x y z : Int32}, ((x == y) == (z == y)) = true → (x = y ↔ z = y) := by
    intro x y z q
    have q1 := eq_of_beq q
    constructor
    · intro e
      rw [beq_iff_eq.mpr e] at q1
      exact eq_of_beq q1.symm
    · intro e
      rw [beq_iff_eq.mpr e] at q1
      exact eq_of_beq q1
  refine ⟨t h1, t h2, t h3, eq_of_beq h4, eq_of_beq h5, of_decide_eq_true h6, fun q => ?_⟩
  rcases (Bool.or_eq_true _ _).mp h7 with z | z
  · exfalso
    rcases q with q | q
    · rw [q, Bool.true_or] at z; exact absurd z (by decide)
    · rw [q, Bool.or_true] at z; exact absurd z (by decide)
  · exact eq_of_beq z
theorem in_X {v lo hi : Int32} {u : Nat → Nat → Int32} {g : Nat → Nat → Int64} : Fx_M_inEX v lo hi u g = (decide (lo ≤ v) && decide (v ≤ hi)) := by
  unfold Fx_M_inEX
  by_cases h1 : v < lo
  · rw [if_pos h1, decide_eq_false (fun q => lt_le_no h1 q)]; rfl
  · rw [if_neg h1, decide_eq_true (i_nlt h1)]
    by_cases h2 : hi < v
    · rw [if_pos h2, decide_eq_false (fun q => lt_le_no h2 q)]; rfl
    · rw [if_neg h2, decide_eq_true (i_nlt h2)]; rfl
theorem se_1 {u : Nat → Nat → Int32} {L a : Nat} (hb : L ≤ 600) (h : a < L) : mse u (iN a) (iN L) = u 163 a &&& 255 := by
  unfold mse
  rw [if_pos ((iN_lt (by omega) (by omega)).mpr h), iN_cl (by omega)]
theorem se_0 {u : Nat → Nat → Int32} {L a : Nat} (hb : L ≤ 600) (ha : a ≤ 600) (h : ¬ a < L) : mse u (iN a) (iN L) = -1 := by
  unfold mse
  rw [if_neg (fun q => h ((iN_lt (by omega) (by omega)).mp q))]
theorem ml_ml {g : Nat → Nat → Int64} {a i : Nat} {x y : Int64} : ml (ml g a i x) a i y = ml g a i y := by
  funext b
  unfold ml
  by_cases h : b = a
  · rw [if_pos h, if_pos h, if_pos rfl]
    funext j
    unfold vp_updL
    by_cases q : j = i
    · rw [if_pos q, if_pos q]
    · rw [if_neg q, if_neg q, if_neg q]
  · rw [if_neg h, if_neg h, if_neg h]
theorem ml_e {g : Nat → Nat → Int64} {a i : Nat} {x : Int64} : ml g a i x a i = x := by
  unfold ml
  rw [if_pos rfl]
  unfold vp_updL
  rw [if_pos rfl]
/-- letters, packed -/
def pf (f : Nat → Int32) (L a : Nat) (w : Int64) : Int64 := if a < L ∧ isL (f a) = true then pf f L (a + 1) ((w <<< ((8 : Int32).toInt64 &&& 63)) ||| (f a).toInt64) else w
termination_by L - a
decreasing_by omega
theorem pf_s {f : Nat → Int32} {L a : Nat} {w : Int64} (h1 : a < L) (h2 : isL (f a) = true) : pf f L a w = pf f L (a + 1) ((w <<< ((8 : Int32).toInt64 &&& 63)) ||| (f a).toInt64) := by rw [pf, if_pos ⟨h1, h2⟩]
theorem pf_e {f : Nat → Int32} {L a : Nat} {w : Int64} (h : ¬ (a < L ∧ isL (f a) = true)) : pf f L a w = w := by rw [pf, if_neg h]
def wv (f : Nat → Int32) (L a : Nat) : Int64 := if run isL f L a - a ≤ 8 then pf f L a 0 else 0
theorem in_m {u w : Nat → Nat → Int32} {g : Nat → Nat → Int64} {L a : Nat} {lo hi : Int32} (hb : L ≤ 600) (ha : a ≤ 600) (hlo : 0 ≤ lo) (hh : lo ≤ hi) : Fx_M_inEX (mse u (iN a) (iN L)) lo hi w g = true ↔ a < L ∧ (decide (lo ≤ u 163 a &&& 255) && decide (u 163 a &&& 255 ≤ hi)) = true := by
  rw [in_X]
  by_cases h : a < L
  · rw [se_1 hb h]
    exact ⟨fun q => ⟨h, q⟩, fun q => q.2⟩
  · rw [se_0 hb ha h]
    constructor
    · intro q
      have := of_decide_eq_true ((Bool.and_eq_true _ _).mp q).1
      have h1 := Int32.le_iff_toInt_le.mp this
      have h2 := Int32.le_iff_toInt_le.mp hlo
      have e1 : (-1 : Int32).toInt = -1 := rfl
      have e0 : (0 : Int32).toInt = 0 := rfl
      omega
    · intro q; exact absurd q.1 h
theorem mw_L {u : Nat → Nat → Int32} {L : Nat} (h9 : u 162 9 = iN L) (hb : L ≤ 600) (hf : ∀ j, j < L → Bd (-128) 127 (u 163 j)) : ∀ (n a k : Nat) (w : Nat → Nat → Int32) (g : Nat → Nat → Int64), L - a < n → a ≤ L → k ≤ a → w 162 8 = iN a →
    Fx_M_tokenX_L74 u n (iN k) w g = (ms (ms w 162 8 (iN (run isL (u 163) L a))) 162 11 2, ml g 162 13 (if k + (run isL (u 163) L a - a) ≤ 8 then pf (u 163) L a (g 162 13) else 0)) := by
  intro n
  induction n with
  | zero => intro a k w g h; omega
  | succ n ih =>
    intro a k w g h ha hk hw
    rw [Fx_M_tokenX_L74_s, h9, hw]
    have hi := in_m (u := u) (w := w) (g := g) (L := L) (a := a) (lo := 97) (hi := 122) hb (by omega) (by decide) (by decide)
    by_cases c : a < L ∧ isL (u 163 a) = true
    · obtain ⟨b1, b2, b3, b4, b5, b6, b7⟩ := byq_u (hf a c.1)
      have em : mse u (iN a) (iN L) = u 163 a := (se_1 hb c.1).trans (b7 (Or.inl c.2))
      have e : (xq_lt (Fx_M_inEX (mse u (iN a) (iN L)) (97 : Int32) (122 : Int32) w g) fun t => if t = true then (xq_lt (g 162 13) fun l1 => xq_lt (l1 <<< ((8 : Int32).toInt64 &&& 63)) fun l2 => xq_lt ((mse u (iN a) (iN L)).toInt64) fun l3 => xq_lt (l2 ||| l3) fun l4 => xq_lt (ml g 162 13 l4) fun g2 => xq_lt (ms w 162 8 (iN a + 1)) fun w2 => (Fx_M_tokenX_L74 u n) (iN k + 1) w2 g2) else (if iN k ≤ (8 : Int32) then (xq_lt (g 162 13) fun l5 => Fx_M_tokenX_J136 w g l5) else (Fx_M_tokenX_J136 w g (0 : Int64)))) = Fx_M_tokenX_L74 u n (iN (k + 1)) (ms w 162 8 (iN (a + 1))) (ml g 162 13 ((g 162 13 <<< ((8 : Int32).toInt64 &&& 63)) ||| (u 163 a).toInt64)) := by
        show (if Fx_M_inEX (mse u (iN a) (iN L)) (97 : Int32) (122 : Int32) w g = true then _ else _) = _
        rw [if_pos (hi.mpr ⟨c.1, b4.trans c.2⟩), em, iN_s, iN_s]
        rfl
      rw [e, ih (a + 1) (k + 1) (ms w 162 8 (iN (a + 1))) _ (by omega) (by omega) (by omega) ms_e1, ms_ms, ml_ml, ml_e, pf_s c.1 c.2, run_s c.1 c.2]
      have hr := run_le (p := isL) (f := u 163) (L := L) (a + 1)
      rw [show k + 1 + (run isL (u 163) L (a + 1) - (a + 1)) = k + (run isL (u 163) L (a + 1) - a) by omega]
    · have hn : ¬ Fx_M_inEX (mse u (iN a) (iN L)) (97 : Int32) (122 : Int32) w g = true := by
        intro q
        obtain ⟨q1, q2⟩ := hi.mp q
        exact c ⟨q1, ((byq_u (hf a q1)).2.2.2.1).symm.trans q2⟩
      rw [run_e c, pf_e c, Nat.sub_self, Nat.add_zero]
      show (if Fx_M_inEX (mse u (iN a) (iN L)) (97 : Int32) (122 : Int32) w g = true then _ else _) = _
      rw [if_neg hn, ← hw, ms_self]
      by_cases q : k ≤ 8
      · rw [if_pos (show iN k ≤ (8 : Int32) from (iN_le (b := 8) (by omega) (by omega)).mpr q), if_pos q]
        rfl
      · rw [if_neg (show ¬ iN k ≤ (8 : Int32) from fun z => q ((iN_le (b := 8) (by omega) (by omega)).mp z)), if_neg q]
        rfl
theorem dg_1 {v m : Int32} : 10 * v + m - 48 = v * 10 + (m - 48) := by
  rw [Int32.sub_eq_add_neg, Int32.sub_eq_add_neg, Int32.add_assoc, Int32.mul_comm]
theorem dg_0 {m : Int32} : 0 + m - 48 = 0 * 10 + (m - 48) := by
  rw [Int32.zero_mul, Int32.zero_add, Int32.zero_add]
theorem md_L {u : Nat → Nat → Int32} {g0 : Nat → Nat → Int64} {L : Nat} (h9 : u 162 9 = iN L) (hb : L ≤ 600) (hf : ∀ j, j < L → Bd (-128) 127 (u 163 j)) : ∀ (n a k : Nat) (w : Nat → Nat → Int32), L - a < n → a ≤ L → k ≤ a → w 162 8 = iN a →
    ∃ x, Fx_M_tokenX_L163 u g0 n (iN k) w = (ms x 162 11 (if k + (run isD (u 163) L a - a) ≤ 3 then 3 else 1), g0) ∧ (∀ b, b ≠ 162 → x b = w b) ∧ (∀ j, j ≠ 8 → j ≠ 12 → x 162 j = w 162 j) ∧ x 162 8 = iN (run isD (u 163) L a) ∧ (k + (run isD (u 163) L a - a) ≤ 3 → x 162 12 = dgv (u 163) L a (w 162 12)) := by
  intro n
  induction n with
  | zero => intro a k w h; omega
  | succ n ih =>
    intro a k w h ha hk hw
    rw [Fx_M_tokenX_L163_s, h9, hw]
    have hi := in_m (u := u) (w := w) (g := g0) (L := L) (a := a) (lo := 48) (hi := 57) hb (by omega) (by decide) (by decide)
    by_cases c : a < L ∧ isD (u 163 a) = true
    · obtain ⟨b1, b2, b3, b4, b5, b6, b7⟩ := byq_u (hf a c.1)
      have em : mse u (iN a) (iN L) = u 163 a := (se_1 hb c.1).trans (b7 (Or.inr c.2))
      have hr := run_le (p := isD) (f := u 163) (L := L) (a + 1)
      have e : (xq_lt (Fx_M_inEX (mse u (iN a) (iN L)) (48 : Int32) (57 : Int32) w g0) fun t => if t = true then (if (3 : Int32) ≤ iN k then (xq_lt (ms w 162 12 (w 162 12)) fun w1 => xq_lt (ms w1 162 8 (iN a + 1)) fun w2 => (Fx_M_tokenX_L163 u g0 n) (iN k + 1) w2) else (xq_lt (ms w 162 12 ((((10 : Int32) * (w 162 12)) + (mse u (iN a) (iN L))) - 48)) fun w3 => xq_lt (ms w3 162 8 (iN a + 1)) fun w4 => (Fx_M_tokenX_L163 u g0 n) (iN k + 1) w4)) else (if iN k ≤ (3 : Int32) then (xq_lt (ms w 162 11 3) fun w5 => (w5, g0)) else (xq_lt (ms w 162 11 1) fun w6 => (w6, g0)))) = (if (3 : Int32) ≤ iN k then Fx_M_tokenX_L163 u g0 n (iN (k + 1)) (ms w 162 8 (iN (a + 1))) else Fx_M_tokenX_L163 u g0 n (iN (k + 1)) (ms (ms w 162 12 (w 162 12 * 10 + (u 163 a - 48))) 162 8 (iN (a + 1)))) := by
        show (if Fx_M_inEX (mse u (iN a) (iN L)) (48 : Int32) (57 : Int32) w g0 = true then _ else _) = _
        rw [if_pos (hi.mpr ⟨c.1, b5.trans c.2⟩), em, iN_s, iN_s, dg_1, ms_self]
        rfl
      rw [e, run_s c.1 c.2]
      by_cases q : 3 ≤ k
      · rw [if_pos (show (3 : Int32) ≤ iN k from (iN_le (a := 3) (by omega) (by omega)).mpr q)]
        obtain ⟨x, x1, x2, x3, x4, x5⟩ := ih (a + 1) (k + 1) (ms w 162 8 (iN (a + 1))) (by omega) (by omega) (by omega) ms_e1
        rw [show k + 1 + (run isD (u 163) L (a + 1) - (a + 1)) = k + (run isD (u 163) L (a + 1) - a) by omega] at x1
        exact ⟨x, x1, fun b hb => (x2 b hb).trans (ms_c1 hb), fun j j8 j12 => (x3 j j8 j12).trans (ms_i1 j8), x4, fun z => by omega⟩
      · rw [if_neg (show ¬ (3 : Int32) ≤ iN k from fun z => q ((iN_le (a := 3) (by omega) (by omega)).mp z))]
        obtain ⟨x, x1, x2, x3, x4, x5⟩ := ih (a + 1) (k + 1) (ms (ms w 162 12 (w 162 12 * 10 + (u 163 a - 48))) 162 8 (iN (a + 1))) (by omega) (by omega) (by omega) ms_e1
        rw [show k + 1 + (run isD (u 163) L (a + 1) - (a + 1)) = k + (run isD (u 163) L (a + 1) - a) by omega] at x1 x5
        refine ⟨x, x1, fun b hb => ((x2 b hb).trans (ms_c1 hb)).trans (ms_c1 hb), fun j j8 j12 => ((x3 j j8 j12).trans (ms_i1 j8)).trans (ms_i1 j12), x4, fun z => ?_⟩
        rw [x5 z, dgv_s c.1 c.2, ms_i1 (by decide), ms_e1]
    · have hn : ¬ Fx_M_inEX (mse u (iN a) (iN L)) (48 : Int32) (57 : Int32) w g0 = true := by
        intro q
        obtain ⟨q1, q2⟩ := hi.mp q
        exact c ⟨q1, ((byq_u (hf a q1)).2.2.2.2.1).symm.trans q2⟩
      rw [run_e c, dgv_e c, Nat.sub_self, Nat.add_zero]
      refine ⟨w, ?_, fun _ _ => rfl, fun _ _ _ => rfl, hw, fun _ => rfl⟩
      show (if Fx_M_inEX (mse u (iN a) (iN L)) (48 : Int32) (57 : Int32) w g0 = true then _ else _) = _
      rw [if_neg hn]
      by_cases q : k ≤ 3
      · rw [if_pos (show iN k ≤ (3 : Int32) from (iN_le (b := 3) (by omega) (by omega)).mpr q), if_pos q]
        rfl
      · rw [if_neg (show ¬ iN k ≤ (3 : Int32) from fun z => q ((iN_le (b := 3) (by omega) (by omega)).mp z)), if_neg q]
        rfl
/-- the reference's number of a token's sort -/
def km (k : Int32) : Int32 := if k = 0 then 0 else if k = 1 then 2 else if k = 2 then 3 else if k = 3 then 4 else 1
/-- the token at a is read -/
def TKR (v : Nat → Nat → Int32) (g : Nat → Nat → Int64) (f : Nat → Int32) (L a : Nat) : Prop := v 162 8 = iN (tN f L a) ∧ v 162 10 = iN (tS f L a) ∧ v 162 11 = km (tK f L a) ∧ (tK f L a = 2 → v 162 12 = tV f L a) ∧ (tK f L a = 1 → g 162 13 = wv f L (tS f L a))
def TF (x v : Nat → Nat → Int32) : Prop := (∀ b, b ≠ 162 → x b = v b) ∧ ∀ j, j ≠ 8 → j ≠ 10 → j ≠ 11 → j ≠ 12 → x 162 j = v 162 j
theorem mt_L {u : Nat → Nat → Int32} {g : Nat → Nat → Int64} {L : Nat} (h9 : u 162 9 = iN L) (hb : L ≤ 600) (hf : ∀ j, j < L → Bd (-128) 127 (u 163 j)) : ∀ (n a : Nat) (w : Nat → Nat → Int32), L - a < n → a ≤ L → w 162 8 = iN a → TKR (Fx_M_tokenX_L0 u g n w).1 (Fx_M_tokenX_L0 u g n w).2 (u 163) L a ∧ TF (Fx_M_tokenX_L0 u g n w).1 w := by
  intro n
  induction n with
  | zero => intro a w h; omega
  | succ n ih =>
    intro a w h ha hw
    rw [Fx_M_tokenX_L0_s, h9, hw]
    simp only [xq_lt]
    by_cases c : a < L
    · obtain ⟨b1, b2, b3, b4, b5, b6, b7⟩ := byq_u (hf a c)
      rw [se_1 hb c]
      by_cases q : isB (u 163 a) = true
      · obtain ⟨e1, e2, e3, e4⟩ := tk_b c q
        obtain ⟨⟨t1, t2, t3, t4, t5⟩, t6, t7⟩ := ih (a + 1) (ms w 162 8 (iN (a + 1))) (by omega) (by omega) ms_e1
        have R : TKR (Fx_M_tokenX_L0 u g n (ms w 162 8 (iN (a + 1)))).1 (Fx_M_tokenX_L0 u g n (ms w 162 8 (iN (a + 1)))).2 (u 163) L a ∧ TF (Fx_M_tokenX_L0 u g n (ms w 162 8 (iN (a + 1)))).1 w := by
          refine ⟨⟨by rw [e3]; exact t1, by rw [e1]; exact t2, by rw [e2]; exact t3, fun z => ?_, fun z => ?_⟩, fun b hb => (t6 b hb).trans (ms_c1 hb), fun j j8 j10 j11 j12 => (t7 j j8 j10 j11 j12).trans (ms_i1 j8)⟩
          · rw [e4]; exact t4 (e2 ▸ z)
          · rw [e1]; exact t5 (e2 ▸ z)
        by_cases z : u 163 a = 10
        · rw [if_pos (b1.mpr z), iN_s]
          exact R
        · have z2 : u 163 a = 32 := by
            unfold isB at q
            rw [beq_eq_false_iff_ne.mpr z, Bool.false_or] at q
            exact eq_of_beq q
          rw [if_neg (fun y => z (b1.mp y)), if_pos (b2.mpr z2), iN_s]
          exact R
      · have z1 : ¬ u 163 a = 10 := fun z => q (by unfold isB; rw [z]; rfl)
        have z2 : ¬ u 163 a = 32 := fun z => q (by unfold isB; rw [z]; rfl)
        have hS : tS (u 163) L a = a := run_e (fun z => q z.2)
        have hn : ¬ L ≤ tS (u 163) L a := by rw [hS]; omega
        rw [if_neg (fun y => z1 (b1.mp y)), if_neg (fun y => z2 (b2.mp y)), if_pos b6]
        simp only [in_X, b4, b5]
        by_cases l : isL (u 163 a) = true
        · rw [if_pos l, if_pos l]
          obtain ⟨k1, k2⟩ := tk_1 hn (by rw [hS]; exact l)
          rw [hS] at k2
          rw [b7 (Or.inl l), iN_s]
          have hm := mw_L h9 hb hf ((600 - ((ms (ms w 162 10 (iN a)) 162 8 (iN (a + 1))) 162 8).toInt).toNat + 1) (a + 1) 1 (ms (ms w 162 10 (iN a)) 162 8 (iN (a + 1))) (ml (ml g 162 13 0) 162 13 ((ml g 162 13 0 162 13 <<< ((8 : Int32).toInt64 &&& 63)) ||| (u 163 a).toInt64)) (by rw [ms_e1, iN_ti (by omega)]; omega) (by omega) (by omega) ms_e1
          rw [show (iN 1 : Int32) = 1 from rfl] at hm
          rw [hm]
          have hr := run_le (p := isL) (f := u 163) (L := L) (a + 1)
          refine ⟨⟨?_, ?_, ?_, fun z => ?_, fun _ => ?_⟩, fun b hb => ?_, fun j j8 j10 j11 j12 => ?_⟩
          · rw [k2, run_s c l, ms_ms]; rfl
          · rw [hS]; rfl
          · rw [k1]; rfl
          · rw [k1] at z; exact absurd z (by decide)
          · dsimp only
            rw [ml_e, ml_e, ml_e, hS]
            unfold wv
            rw [pf_s c l, run_s c l, show 1 + (run isL (u 163) L (a + 1) - (a + 1)) = run isL (u 163) L (a + 1) - a by omega]
          · show ms (ms (ms (ms w 162 10 (iN a)) 162 8 _) 162 8 _) 162 11 2 b = w b
            rw [ms_c1 hb, ms_c1 hb, ms_c1 hb, ms_c1 hb]
          · show ms (ms (ms (ms w 162 10 (iN a)) 162 8 _) 162 8 _) 162 11 2 162 j = w 162 j
            rw [ms_i1 j11, ms_i1 j8, ms_i1 j8, ms_i1 j10]
        · rw [if_neg l]
          by_cases d : isD (u 163 a) = true
          · rw [if_pos d, if_pos d]
            obtain ⟨k1, k2⟩ := tk_2 hn (by rw [hS]; exact l) (by rw [hS]; exact d)
            rw [hS] at k1 k2
            rw [b7 (Or.inr d), iN_s, dg_0]
            have hm := md_L (g0 := ml g 162 13 0) h9 hb hf ((600 - ((ms (ms (ms (ms w 162 10 (iN a)) 162 12 0) 162 12 (0 * 10 + (u 163 a - 48))) 162 8 (iN (a + 1))) 162 8).toInt).toNat + 1) (a + 1) 1 (ms (ms (ms (ms w 162 10 (iN a)) 162 12 0) 162 12 (0 * 10 + (u 163 a - 48))) 162 8 (iN (a + 1))) (by rw [ms_e1, iN_ti (by omega)]; omega) (by omega) (by omega) ms_e1
            rw [show (iN 1 : Int32) = 1 from rfl] at hm
            obtain ⟨x, x1, x2, x3, x4, x5⟩ := hm
            rw [x1]
            have hr := run_le (p := isD) (f := u 163) (L := L) (a + 1)
            have er : 1 + (run isD (u 163) L (a + 1) - (a + 1)) = run isD (u 163) L a - a := by rw [run_s c d]; omega
            rw [er] at x5 ⊢
            refine ⟨⟨?_, ?_, ?_, fun z => ?_, fun z => ?_⟩, fun b hb => ?_, fun j j8 j10 j11 j12 => ?_⟩
            · rw [k2, run_s c d]; exact x4
            · rw [hS]; exact x3 10 (by decide) (by decide)
            · rw [k1]
              by_cases y : 3 < run isD (u 163) L a - a
              · rw [if_pos y, if_neg (by omega)]; rfl
              · rw [if_neg y, if_pos (by omega)]; rfl
            · rw [k1] at z
              by_cases y : 3 < run isD (u 163) L a - a
              · rw [if_pos y] at z; exact absurd z (by decide)
              · have e5 := x5 (by omega)
                unfold tV
                rw [hS, dgv_s c d]
                exact e5
            · rw [k1] at z
              by_cases y : 3 < run isD (u 163) L a - a
              · rw [if_pos y] at z; exact absurd z (by decide)
              · rw [if_neg y] at z; exact absurd z (by decide)
            · show ms x 162 11 _ b = w b
              rw [ms_c1 hb, x2 b hb, ms_c1 hb, ms_c1 hb, ms_c1 hb, ms_c1 hb]
            · show ms x 162 11 _ 162 j = w 162 j
              rw [ms_i1 j11, x3 j j8 j12, ms_i1 j8, ms_i1 j12, ms_i1 j12, ms_i1 j10]
          · rw [if_neg d]
            obtain ⟨k1, k2⟩ := tk_3 hn (by rw [hS]; exact l) (by rw [hS]; exact d)
            rw [hS] at k1 k2
            by_cases y : u 163 a = 59
            · rw [if_pos y] at k1
              rw [if_pos (b3.mpr y), iN_s]
              refine ⟨⟨by rw [k2]; rfl, by rw [hS]; rfl, by rw [k1]; rfl, fun z => ?_, fun z => ?_⟩, fun b hb => ?_, fun j j8 j10 j11 j12 => ?_⟩
              · rw [k1] at z; exact absurd z (by decide)
              · rw [k1] at z; exact absurd z (by decide)
              · show ms (ms (ms w 162 10 _) 162 8 _) 162 11 4 b = w b
                rw [ms_c1 hb, ms_c1 hb, ms_c1 hb]
              · show ms (ms (ms w 162 10 _) 162 8 _) 162 11 4 162 j = w 162 j
                rw [ms_i1 j11, ms_i1 j8, ms_i1 j10]
            · rw [if_neg y] at k1
              rw [if_neg (fun z => y (b3.mp z)), iN_s]
              refine ⟨⟨by rw [k2]; rfl, by rw [hS]; rfl, by rw [k1]; rfl, fun z => ?_, fun z => ?_⟩, fun b hb => ?_, fun j j8 j10 j11 j12 => ?_⟩
              · rw [k1] at z; exact absurd z (by decide)
              · rw [k1] at z; exact absurd z (by decide)
              · show ms (ms (ms w 162 10 _) 162 8 _) 162 11 1 b = w b
                rw [ms_c1 hb, ms_c1 hb, ms_c1 hb]
              · show ms (ms (ms w 162 10 _) 162 8 _) 162 11 1 162 j = w 162 j
                rw [ms_i1 j11, ms_i1 j8, ms_i1 j10]
    · have hS : tS (u 163) L a = a := run_e (fun z => c z.1)
      have hn : L ≤ tS (u 163) L a := by rw [hS]; omega
      obtain ⟨k1, k2⟩ := tk_0 hn
      rw [se_0 hb (by omega) c, if_neg (show ¬ (-1 : Int32) = 10 by decide), if_neg (show ¬ (-1 : Int32) = 32 by decide), if_neg (show ¬ (0 : Int32) ≤ -1 by decide)]
      refine ⟨⟨by rw [k2, hS]; exact hw, by rw [hS]; rfl, by rw [k1]; rfl, fun z => ?_, fun z => ?_⟩, fun b hb => ?_, fun j j8 j10 j11 j12 => ?_⟩
      · rw [k1] at z; exact absurd z (by decide)
      · rw [k1] at z; exact absurd z (by decide)
      · show ms (ms w 162 10 _) 162 11 0 b = w b
        rw [ms_c1 hb, ms_c1 hb]
      · show ms (ms w 162 10 _) 162 11 0 162 j = w 162 j
        rw [ms_i1 j11, ms_i1 j10]
theorem mt_X {u : Nat → Nat → Int32} {g : Nat → Nat → Int64} {L a : Nat} (h9 : u 162 9 = iN L) (hb : L ≤ 600) (hf : ∀ j, j < L → Bd (-128) 127 (u 163 j)) (ha : a ≤ L) (h8 : u 162 8 = iN a) : TKR (Fx_M_tokenX u g).1 (Fx_M_tokenX u g).2 (u 163) L a ∧ TF (Fx_M_tokenX u g).1 u := by
  have e : Fx_M_tokenX u g = Fx_M_tokenX_L0 u g ((600 - (u 162 8).toInt).toNat + 1) u := rfl
  rw [e, h8, iN_ti (by omega)]
  exact mt_L h9 hb hf _ a u (by omega) ha h8
