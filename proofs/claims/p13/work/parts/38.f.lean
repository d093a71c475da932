/-! the class's hill against the row -/
def RepH (u : MM) (R : Nat → Int32) (z : Prop) : Prop := u 32 0 = R 0 ∧ u 32 2 = R 1 ∧ (∀ k, k < 3 → u 36 k = R (2 + k)) ∧ (∀ k, k < (R 1).toInt.toNat → u 34 k = R (5 + 2 * k) ∧ u 35 k = R (6 + 2 * k)) ∧ (z → ∀ p c, p < (R 0).toInt.toNat → c < 16 → u 33 (16 * p + c) = R (13 + 16 * p + c))
def HF6 (x u : MM) : Prop := ∀ b, b ≠ 32 → b ≠ 33 → b ≠ 34 → b ≠ 35 → b ≠ 36 → x b = u b
theorem pu_X {u : MM} {g : GG} {p c : Nat} {v : Int32} (hp : p < 9) (hc : c < 16) : Fx_H_putBX (iN p) (iN c) v 32 u g = ms u 33 (16 * p + c) v := by
  unfold Fx_H_putBX
  rw [if_neg (show ¬ iN p < (0 : Int32) from fun q => by have := (iN_lt (b := 0) (by omega) (by omega)).mp q; omega), if_neg (show ¬ (9 : Int32) ≤ iN p from fun q => by have := (iN_le (a := 9) (by omega) (by omega)).mp q; omega), if_neg (show ¬ iN c < (0 : Int32) from fun q => by have := (iN_lt (b := 0) (by omega) (by omega)).mp q; omega), if_neg (show ¬ (16 : Int32) ≤ iN c from fun q => by have := (iN_le (a := 16) (by omega) (by omega)).mp q; omega)]
  have e : ((iN p * 16) + iN c).toNatClampNeg = 16 * p + c := by
    show (iN p * iN 16 + iN c).toNatClampNeg = _
    rw [iN_m, iN_a, iN_cl (by omega)]
    omega
  rw [e]
  rfl
/-- a column is put, or nothing -/
theorem pu_n {u : MM} {g : GG} {p c v : Int32} : ∀ b, b ≠ 33 → Fx_H_putBX p c v 32 u g b = u b := by
  intro b hb
  unfold Fx_H_putBX
  split
  · rfl
  · split
    · rfl
    · split
      · rfl
      · split
        · rfl
        · exact ms_c1 hb
theorem fi_L {B : Nat} {val : Int32} (hB : B ≤ 1000) : ∀ (n A : Nat) (u : MM), B - A < n → A ≤ B → (∀ b, b ≠ 33 → Fx_fill4_33X_L10 (iN B) val n (iN A) u b = u b) ∧ ∀ j, Fx_fill4_33X_L10 (iN B) val n (iN A) u 33 j = if A ≤ j ∧ j < B then val else u 33 j := by
  intro n
  induction n with
  | zero => intro A u h; omega
  | succ n ih =>
    intro A u h hA
    rw [Fx_fill4_33X_L10_s]
    by_cases c : B ≤ A
    · rw [if_pos ((iN_le (by omega) (by omega)).mpr c)]
      refine ⟨fun _ _ => rfl, fun j => ?_⟩
      rw [if_neg (by omega)]
    · rw [if_neg (fun q => c ((iN_le (by omega) (by omega)).mp q)), iN_s, iN_cl (by omega)]
      obtain ⟨h1, h2⟩ := ih (A + 1) (ms u 33 A val) (by omega) (by omega)
      refine ⟨fun b hb => (h1 b hb).trans (ms_c1 hb), fun j => ?_⟩
      show Fx_fill4_33X_L10 (iN B) val n (iN (A + 1)) (ms u 33 A val) 33 j = _
      rw [h2 j]
      by_cases q : j = A
      · rw [if_neg (by omega), if_pos (by omega), q, ms_e1]
      · rw [ms_i1 q]
        by_cases q2 : A ≤ j ∧ j < B
        · rw [if_pos (by omega), if_pos q2]
        · rw [if_neg (by omega), if_neg q2]
theorem ap_X {u : MM} {g : GG} {n : Nat} {v0 v1 v2 : Int32} (hn : u 32 0 = iN n) (h9 : n < 9) : ∃ x, Fx_H_addPond32X v0 v1 v2 u g = (true, x) ∧ (∀ b, b ≠ 32 → b ≠ 33 → x b = u b) ∧ x 32 0 = u 32 0 + 1 ∧ x 32 2 = u 32 2 ∧ ∀ j, x 33 j = if 16 * n ≤ j ∧ j < 16 * n + 16 then pc v0 v1 v2 (j - 16 * n) else u 33 j := by
  unfold Fx_H_addPond32X
  rw [hn, if_pos (show iN n < (9 : Int32) from (iN_lt (b := 9) (by omega) (by omega)).mpr h9)]
  simp only [xq_lt]
  have e0 : (0 : Int32) = iN 0 := rfl
  have e1 : (1 : Int32) = iN 1 := rfl
  have e2 : (2 : Int32) = iN 2 := rfl
  have e8 : (8 : Int32) = iN 8 := rfl
  have e9 : (9 : Int32) = iN 9 := rfl
  have e12 : (12 : Int32) = iN 12 := rfl
  have ef : Fx_fill4_33X (iN n * 16) (iN n * 16 + 16) 0 (ms u 32 0 (iN n + 1)) g = Fx_fill4_33X_L10 (iN (16 * n + 16)) 0 ((144 - (iN (16 * n)).toInt).toNat + 1) (iN (16 * n)) (ms u 32 0 (iN n + 1)) := by
    have q1 : iN n * 16 = iN (16 * n) := by
      show iN n * iN 16 = _
      rw [iN_m, Nat.mul_comm]
    have q2 : iN n * 16 + 16 = iN (16 * n + 16) := by
      rw [q1]
      exact iN_a
    unfold Fx_fill4_33X
    rw [q2, q1]
  rw [iN_ti (by omega)] at ef
  obtain ⟨f1, f2⟩ := fi_L (B := 16 * n + 16) (val := 0) (by omega) ((144 - ((16 * n : Nat) : Int)).toNat + 1) (16 * n) (ms u 32 0 (iN n + 1)) (by omega) (by omega)
  rw [← ef] at f1 f2
  have p0 : ∀ (y : MM) (x : Int32), Fx_H_putBX (iN n) 0 x 32 y g = ms y 33 (16 * n + 0) x := fun y x => pu_X h9 (c := 0) (by omega)
  have p1 : ∀ (y : MM) (x : Int32), Fx_H_putBX (iN n) 1 x 32 y g = ms y 33 (16 * n + 1) x := fun y x => pu_X h9 (c := 1) (by omega)
  have p2 : ∀ (y : MM) (x : Int32), Fx_H_putBX (iN n) 2 x 32 y g = ms y 33 (16 * n + 2) x := fun y x => pu_X h9 (c := 2) (by omega)
  have p8 : ∀ (y : MM) (x : Int32), Fx_H_putBX (iN n) 8 x 32 y g = ms y 33 (16 * n + 8) x := fun y x => pu_X h9 (c := 8) (by omega)
  have p9 : ∀ (y : MM) (x : Int32), Fx_H_putBX (iN n) 9 x 32 y g = ms y 33 (16 * n + 9) x := fun y x => pu_X h9 (c := 9) (by omega)
  have p12 : ∀ (y : MM) (x : Int32), Fx_H_putBX (iN n) 12 x 32 y g = ms y 33 (16 * n + 12) x := fun y x => pu_X h9 (c := 12) (by omega)
  rw [p0, p1, p2, p8, p9, p12]
  refine ⟨_, rfl, fun b b1 b2 => ?_, ?_, ?_, fun j => ?_⟩
  · rw [ms_c1 b2, ms_c1 b2, ms_c1 b2, ms_c1 b2, ms_c1 b2, ms_c1 b2, f1 b b2, ms_c1 b1]
  · rw [ms_c1 (by decide), ms_c1 (by decide), ms_c1 (by decide), ms_c1 (by decide), ms_c1 (by decide), ms_c1 (by decide), f1 32 (by decide), ms_e1]
  · rw [ms_c1 (by decide), ms_c1 (by decide), ms_c1 (by decide), ms_c1 (by decide), ms_c1 (by decide), ms_c1 (by decide), f1 32 (by decide), ms_i1 (by decide)]
  · have hd : j = 16 * n + 0 ∨ j = 16 * n + 1 ∨ j = 16 * n + 2 ∨ j = 16 * n + 8 ∨ j = 16 * n + 9 ∨ j = 16 * n + 12 ∨ (j ≠ 16 * n + 0 ∧ j ≠ 16 * n + 1 ∧ j ≠ 16 * n + 2 ∧ j ≠ 16 * n + 8 ∧ j ≠ 16 * n + 9 ∧ j ≠ 16 * n + 12) := by omega
    rcases hd with q | q | q | q | q | q | ⟨q0, q1, q2, q8, q9, q12⟩
    · rw [q, ms_i1 (by omega), ms_i1 (by omega), ms_i1 (by omega), ms_i1 (by omega), ms_i1 (by omega), ms_e1, if_pos (by omega), Nat.add_sub_cancel_left]; rfl
    · rw [q, ms_i1 (by omega), ms_i1 (by omega), ms_i1 (by omega), ms_i1 (by omega), ms_e1, if_pos (by omega), Nat.add_sub_cancel_left]; rfl
    · rw [q, ms_i1 (by omega), ms_i1 (by omega), ms_i1 (by omega), ms_e1, if_pos (by omega), Nat.add_sub_cancel_left]; rfl
    · rw [q, ms_i1 (by omega), ms_i1 (by omega), ms_e1, if_pos (by omega), Nat.add_sub_cancel_left]; rfl
    · rw [q, ms_i1 (by omega), ms_e1, if_pos (by omega), Nat.add_sub_cancel_left]; rfl
    · rw [q, ms_e1, if_pos (by omega), Nat.add_sub_cancel_left]; rfl
    · rw [ms_i1 q12, ms_i1 q9, ms_i1 q8, ms_i1 q2, ms_i1 q1, ms_i1 q0, f2 j]
      by_cases c : 16 * n ≤ j ∧ j < 16 * n + 16
      · rw [if_pos c, if_pos c]
        unfold pc
        rw [if_neg (by omega), if_neg (by omega), if_neg (by omega), if_neg (by omega)]
      · rw [if_neg c, if_neg c]
        rfl
theorem rowH_13 {w : Nat} {R : Nat → Int32} {v0 v1 v2 : Int32} {gd : Bool} (h1 : 1 ≤ w) (h2 : w ≤ 10) : ∀ j, j < 13 → rowH w R v0 v1 v2 gd j = R j := by
  intro j hj
  unfold rowH
  rw [if_neg (by omega), if_neg (by omega), if_neg (by omega)]
  by_cases c3 : gd = true
  · rw [if_pos c3]
    by_cases c4 : w = 2 ∨ w = 10
    · rw [if_pos c4]
      unfold upd
      rw [if_neg (by omega), if_neg (by omega)]
    · rw [if_neg c4]
      unfold upd
      rw [if_neg (by omega)]
  · rw [if_neg c3]
theorem gd_0 {w : Nat} {n v0 v1 v2 : Int32} (h : gdH w n v0 v1 v2 = true) : chk w 0 n v0 v0 = true := by
  unfold gdH at h
  split at h
  · exact ((Bool.and_eq_true _ _).mp h).1
  · exact ((Bool.and_eq_true _ _).mp h).1
theorem sa1 : ∀ w, w < 11 → 1 ≤ w → (sAr 1).getD w 0 = iN (hcol w) := by decide +kernel
theorem tf_X {u : MM} {g : GG} {R : Nat → Int32} {z z2 : Prop} {w : Nat} {v0 v1 v2 : Int32} (hw : w < 15) (b0 : Bd 0 9 (R 0)) (b1 : Bd 0 4 (R 1)) (h : RepH u R z) (e0 : u 41 0 = v0) (e1 : 1 < cnt w → u 41 1 = v1) (e2 : 2 < cnt w → u 41 2 = v2) (bv : Bd 0 999 v0) (hz : z2 → z ∧ (1 ≤ w → w ≤ 10 → gdH w (R 0) v0 v1 v2 = true)) :
    RepH (Fx_Rd_takeForHillX (iN w) (iN (cnt w)) u g) (rowH w R v0 v1 v2 (gdH w (R 0) v0 v1 v2)) z2 ∧ HF6 (Fx_Rd_takeForHillX (iN w) (iN (cnt w)) u g) u := by
  obtain ⟨r0, r1, r2, r3, r4⟩ := h
  have o1 : (1 : Int32).toInt = 1 := rfl
  unfold Fx_Rd_takeForHillX
  by_cases w0 : w = 0
  · subst w0
    have f1 := e1 (by decide)
    have f2 := e2 (by decide)
    rw [if_pos (show iN 0 = (0 : Int32) from rfl), e0, f1, f2]
    by_cases q : R 0 < 9
    · have q1 := Int32.lt_iff_toInt_lt.mp q
      have e9 : (9 : Int32).toInt = 9 := rfl
      have hn : u 32 0 = iN (R 0).toInt.toNat := r0.trans (iN_of b0 (by decide))
      obtain ⟨x, x1, x2, x3, x4, x5⟩ := ap_X (g := g) (v0 := v0) (v1 := v1) (v2 := v2) hn (by have := b0.1; omega)
      rw [x1, c2_mk]
      have er : rowH 0 R v0 v1 v2 (gdH 0 (R 0) v0 v1 v2) = upd (fun j => if 13 + 16 * (R 0).toInt.toNat ≤ j ∧ j < 29 + 16 * (R 0).toInt.toNat then pc v0 v1 v2 (j - (13 + 16 * (R 0).toInt.toNat)) else R j) 0 (R 0 + 1) := by
        unfold rowH
        rw [if_pos rfl, if_pos q]
      have hs : (R 0 + 1).toInt.toNat = (R 0).toInt.toNat + 1 := by
        rw [ti_add (by have := b0.1; omega) (by omega), o1]
        have := b0.1
        omega
      have er1 : rowH 0 R v0 v1 v2 (gdH 0 (R 0) v0 v1 v2) 1 = R 1 := by
        rw [er]
        show (if 13 + 16 * (R 0).toInt.toNat ≤ 1 ∧ _ then _ else R 1) = R 1
        rw [if_neg (by omega)]
      have erj : ∀ j, 1 ≤ j → j < 13 → rowH 0 R v0 v1 v2 (gdH 0 (R 0) v0 v1 v2) j = R j := by
        intro j j1 j2
        rw [er]
        unfold upd
        rw [if_neg (show ¬ j = 0 by omega)]
        dsimp only
        rw [if_neg (by omega)]
      refine ⟨⟨?_, ?_, fun k hk => ?_, fun k hk => ?_, fun hz2 p c hp hc => ?_⟩, fun b h32 h33 h34 h35 h36 => x2 b h32 h33⟩
      · rw [er, x3, r0]; rfl
      · rw [er1, x4, r1]
      · rw [erj _ (by omega) (by omega), x2 36 (by decide) (by decide), r2 k hk]
      · rw [er1] at hk
        have := b1.2
        rw [erj _ (by omega) (by omega), erj _ (by omega) (by omega), x2 34 (by decide) (by decide), x2 35 (by decide) (by decide)]
        exact r3 k hk
      · have e00 : rowH 0 R v0 v1 v2 (gdH 0 (R 0) v0 v1 v2) 0 = R 0 + 1 := by rw [er]; rfl
        rw [e00, hs] at hp
        rw [er, x5]
        unfold upd
        rw [if_neg (show ¬ 13 + 16 * p + c = 0 by omega)]
        dsimp only
        by_cases y : p = (R 0).toInt.toNat
        · rw [if_pos (by omega), if_pos (by omega)]
          congr 1
          omega
        · rw [if_neg (by omega), if_neg (by omega)]
          exact r4 (hz hz2).1 p c (by omega) hc
    · have hfalse : Fx_H_addPond32X v0 v1 v2 u g = (false, u) := by
        unfold Fx_H_addPond32X
        rw [r0, if_neg q]
      rw [hfalse, c2_mk]
      have er : rowH 0 R v0 v1 v2 (gdH 0 (R 0) v0 v1 v2) = R := by
        unfold rowH
        rw [if_pos rfl, if_neg q]
      rw [er]
      exact ⟨⟨r0, r1, r2, r3, fun y => r4 (hz y).1⟩, fun _ _ _ _ _ _ => rfl⟩
  · rw [if_neg (show ¬ iN w = (0 : Int32) from fun y => w0 ((iN_eq (b := 0) (by omega) (by omega)).mp y))]
    by_cases w1 : w = 11
    · subst w1
      have f1 := e1 (by decide)
      rw [if_pos (show iN 11 = (11 : Int32) from rfl), e0, f1]
      by_cases q : R 1 < 4
      · have q1 := Int32.lt_iff_toInt_lt.mp q
        have e4 : (4 : Int32).toInt = 4 := rfl
        have hr : u 32 2 = iN (R 1).toInt.toNat := r1.trans (iN_of b1 (by decide))
        have er : rowH 11 R v0 v1 v2 (gdH 11 (R 0) v0 v1 v2) = upd (upd (upd R (5 + 2 * (R 1).toInt.toNat) v0) (6 + 2 * (R 1).toInt.toNat) v1) 1 (R 1 + 1) := by
          unfold rowH
          rw [if_neg (by decide), if_pos rfl, if_pos q]
        have ex : Fx_H_addRainX v0 v1 32 u g = (true, ms (ms (ms u 34 (R 1).toInt.toNat v0) 35 (R 1).toInt.toNat v1) 32 2 (R 1 + 1)) := by
          unfold Fx_H_addRainX
          rw [if_pos (show u 32 2 < 4 by rw [r1]; exact q), hr, iN_cl (by have := b1.1; omega), ← hr, r1]
          rfl
        rw [ex, c2_mk]
        have hs : (R 1 + 1).toInt.toNat = (R 1).toInt.toNat + 1 := by
          rw [ti_add (by have := b1.1; omega) (by omega), o1]
          have := b1.1
          omega
        have hr4 : (R 1).toInt.toNat < 4 := by have := b1.1; omega
        have erj : ∀ j, j ≠ 1 → (j < 5 ∨ 13 ≤ j) → rowH 11 R v0 v1 v2 (gdH 11 (R 0) v0 v1 v2) j = R j := by
          intro j j1 j2
          rw [er]
          unfold upd
          rw [if_neg (by omega), if_neg (by omega), if_neg (by omega)]
        have er1 : rowH 11 R v0 v1 v2 (gdH 11 (R 0) v0 v1 v2) 1 = R 1 + 1 := by rw [er]; rfl
        refine ⟨⟨?_, ?_, fun k hk => ?_, fun k hk => ?_, fun hz2 p c hp hc => ?_⟩, fun b h32 h33 h34 h35 h36 => ?_⟩
        · rw [erj 0 (by decide) (by decide), ← r0]; rfl
        · rw [er1]; rfl
        · rw [erj _ (by omega) (by omega), ← r2 k hk]; rfl
        · rw [er1, hs] at hk
          rw [er]
          unfold upd
          rw [if_neg (show ¬ 5 + 2 * k = 1 by omega), if_neg (show ¬ 6 + 2 * k = 1 by omega), if_neg (show ¬ 5 + 2 * k = 6 + 2 * (R 1).toInt.toNat by omega)]
          by_cases y : k = (R 1).toInt.toNat
          · rw [if_pos (by omega), if_pos (by omega), y]
            refine ⟨?_, ?_⟩
            · rw [ms_c1 (by decide), ms_c1 (by decide), ms_e1]
            · rw [ms_c1 (by decide), ms_e1]
          · rw [if_neg (by omega), if_neg (by omega), if_neg (by omega)]
            refine ⟨?_, ?_⟩
            · rw [ms_c1 (by decide), ms_c1 (by decide), ms_i1 y]
              exact (r3 k (by omega)).1
            · rw [ms_c1 (by decide), ms_i1 y, ms_c1 (by decide)]
              exact (r3 k (by omega)).2
        · rw [erj 0 (by decide) (by decide)] at hp
          rw [erj _ (by omega) (by omega), ← r4 (hz hz2).1 p c hp hc]; rfl
        · rw [ms_c1 h32, ms_c1 h35, ms_c1 h34]
      · have hfalse : Fx_H_addRainX v0 v1 32 u g = (false, u) := by
          unfold Fx_H_addRainX
          rw [if_neg (show ¬ u 32 2 < 4 by rw [r1]; exact q)]
        rw [hfalse, c2_mk]
        have er : rowH 11 R v0 v1 v2 (gdH 11 (R 0) v0 v1 v2) = R := by
          unfold rowH
          rw [if_neg (by decide), if_pos rfl, if_neg q]
        rw [er]
        exact ⟨⟨r0, r1, r2, r3, fun y => r4 (hz y).1⟩, fun _ _ _ _ _ _ => rfl⟩
    · rw [if_neg (show ¬ iN w = (11 : Int32) from fun y => w1 ((iN_eq (b := 11) (by omega) (by omega)).mp y))]
      by_cases w2 : w < 12
      · rw [if_pos (show iN w < (12 : Int32) from (iN_lt (b := 12) (by omega) (by omega)).mpr w2), iN_cl (by omega), sa1 w (by omega) (by omega), e0]
        simp only [xq_lt]
        have hR := rowH_13 (w := w) (R := R) (v0 := v0) (v1 := v1) (v2 := v2) (gd := gdH w (R 0) v0 v1 v2) (by omega) (by omega)
        have f1 : u 41 1 = v1 := e1 (by
          rcases (show w = 1 ∨ w = 2 ∨ w = 3 ∨ w = 4 ∨ w = 5 ∨ w = 6 ∨ w = 7 ∨ w = 8 ∨ w = 9 ∨ w = 10 by omega) with y | y | y | y | y | y | y | y | y | y <;> rw [y] <;> decide)
        have hx : ∀ x : MM, (∀ b, b ≠ 33 → x b = u b) → (gdH w (R 0) v0 v1 v2 = true → z → ∀ p c, p < (R 0).toInt.toNat → c < 16 → x 33 (16 * p + c) = rowH w R v0 v1 v2 (gdH w (R 0) v0 v1 v2) (13 + 16 * p + c)) → RepH x (rowH w R v0 v1 v2 (gdH w (R 0) v0 v1 v2)) z2 ∧ HF6 x u := by
          intro x x1 x2
          refine ⟨⟨?_, ?_, fun k hk => ?_, fun k hk => ?_, fun hz2 p c hp hc => ?_⟩, fun b h32 h33 h34 h35 h36 => x1 b h33⟩
          · rw [hR 0 (by omega), x1 32 (by decide), r0]
          · rw [hR 1 (by omega), x1 32 (by decide), r1]
          · rw [hR _ (by omega), x1 36 (by decide), r2 k hk]
          · rw [hR 1 (by omega)] at hk
            have := b1.2
            rw [hR _ (by omega), hR _ (by omega), x1 34 (by decide), x1 35 (by decide)]
            exact r3 k hk
          · rw [hR 0 (by omega)] at hp
            exact x2 ((hz hz2).2 (by omega) (by omega)) (hz hz2).1 p c hp hc
        have hv8 : gdH w (R 0) v0 v1 v2 = true → Bd 0 8 v0 := fun y => ck_8 (by omega) (by omega) bv (gd_0 y)
        have hh := hc_ti w (by omega)
        by_cases c3 : w = 2 ∨ w = 10
        · have h3 : cnt w = 3 := by rcases c3 with y | y <;> rw [y] <;> rfl
          have f2 : u 41 2 = v2 := e2 (by rw [h3]; decide)
          rw [h3, if_pos (show iN 3 = (3 : Int32) from rfl)]
          have q41 : Fx_H_putBX v0 (iN (hcol w)) (u 41 1) 32 u g 41 = u 41 := pu_n 41 (by decide)
          rw [f1, f2] at *
          refine hx _ (fun b hb => (pu_n b hb).trans (pu_n b hb)) (fun hg hzz p c hp hc => ?_)
          have b8 := hv8 hg
          have hb0 := b8.1
          have hb8 := b8.2
          have ev : v0 = iN v0.toInt.toNat := iN_of b8 (by decide)
          have hc1 : hcol w + 1 < 16 := by omega
          rw [ev, pu_X (by omega) (by omega), iN_s, pu_X (by omega) (by omega), ← ev]
          unfold rowH
          rw [if_neg w0, if_neg w1, if_neg (by omega), if_pos hg, if_pos c3]
          unfold upd
          by_cases y1 : 16 * p + c = 16 * v0.toInt.toNat + (hcol w + 1)
          · rw [y1, ms_e1, if_pos (by omega)]
          · rw [ms_i1 y1, if_neg (show ¬ 13 + 16 * p + c = 14 + 16 * v0.toInt.toNat + hcol w by omega)]
            by_cases y2 : 16 * p + c = 16 * v0.toInt.toNat + hcol w
            · rw [y2, ms_e1, if_pos (by omega)]
            · rw [ms_i1 y2, if_neg (by omega)]
              exact r4 hzz p c hp hc
        · have h2 : cnt w = 2 := by
            rcases (show w = 1 ∨ w = 3 ∨ w = 4 ∨ w = 5 ∨ w = 6 ∨ w = 7 ∨ w = 8 ∨ w = 9 by omega) with y | y | y | y | y | y | y | y <;> rw [y] <;> rfl
          rw [h2, if_neg (show ¬ iN 2 = (3 : Int32) by decide), f1]
          refine hx _ pu_n (fun hg hzz p c hp hc => ?_)
          have b8 := hv8 hg
          have hb0 := b8.1
          have hb8 := b8.2
          have ev : v0 = iN v0.toInt.toNat := iN_of b8 (by decide)
          rw [ev, pu_X (by omega) (by omega), ← ev]
          unfold rowH
          rw [if_neg w0, if_neg w1, if_neg (by omega), if_pos hg, if_neg c3]
          unfold upd
          by_cases y2 : 16 * p + c = 16 * v0.toInt.toNat + hcol w
          · rw [y2, ms_e1, if_pos (by omega)]
          · rw [ms_i1 y2, if_neg (by omega)]
            exact r4 hzz p c hp hc
      · rw [if_neg (show ¬ iN w < (12 : Int32) from fun y => w2 ((iN_lt (b := 12) (by omega) (by omega)).mp y)), e0]
        have ei : (iN w - 12).toNatClampNeg = w - 12 := by
          show (iN w - iN 12).toNatClampNeg = _
          rw [iN_sub (by omega), iN_cl (by omega)]
        rw [ei]
        simp only [xq_lt]
        have er : rowH w R v0 v1 v2 (gdH w (R 0) v0 v1 v2) = upd R (w - 10) v0 := by
          unfold rowH
          rw [if_neg w0, if_neg w1, if_pos (by omega)]
        have erj : ∀ j, j ≠ w - 10 → rowH w R v0 v1 v2 (gdH w (R 0) v0 v1 v2) j = R j := by
          intro j hj
          rw [er]
          exact if_neg hj
        refine ⟨⟨?_, ?_, fun k hk => ?_, fun k hk => ?_, fun hz2 p c hp hc => ?_⟩, fun b h32 h33 h34 h35 h36 => ms_c1 h36⟩
        · rw [erj 0 (by omega), ← r0]; rfl
        · rw [erj 1 (by omega), ← r1]; rfl
        · by_cases y : k = w - 12
          · rw [y, ms_e1, er]
            exact (if_pos (by omega)).symm
          · rw [ms_i1 y, erj _ (by omega), r2 k hk]
        · rw [erj 1 (by omega)] at hk
          rw [erj _ (by omega), erj _ (by omega), ms_c1 (by decide), ms_c1 (by decide)]
          exact r3 k hk
        · rw [erj 0 (by omega)] at hp
          rw [erj _ (by omega), ms_c1 (by decide)]
          exact r4 (hz hz2).1 p c hp hc
