/-! the reference's lines of a hill: ponds -/
theorem m8_all : ∀ w, w < 11 → 1 ≤ w → (sAr 2).getD (3 * w + 0) 0 = 8 := by decide +kernel
theorem pred_ti {n : Int32} (b : Bd 0 9 n) : (n - 1).toInt = n.toInt - 1 := by
  have e1 : (1 : Int32).toInt = 1 := rfl
  rw [ti_sub (by have := b.1; have := b.2; omega) (by have := b.1; have := b.2; omega), e1]
theorem ck_p0 {w : Nat} {n v0 v : Int32} (h1 : 1 ≤ w) (h2 : w ≤ 10) (bn : Bd 0 9 n) (b : Bd 0 999 v) : okn 0 (n - 1) v = chk w 0 n v0 v := by
  have e := pred_ti bn
  have e8 : (8 : Int32).toInt = 8 := rfl
  have := bn.2
  rw [ok_0 b]
  unfold chk
  rw [m8_all w (by omega) h1, if_neg (by omega), if_neg (by omega), if_pos rfl]
  by_cases h : v < n
  · have h3 := Int32.lt_iff_toInt_lt.mp h
    rw [decide_eq_true h, decide_eq_true (show v ≤ n - 1 by rw [Int32.le_iff_toInt_le]; omega), decide_eq_true (show v ≤ 8 by rw [Int32.le_iff_toInt_le]; omega)]
    rfl
  · have h3 := Int32.le_iff_toInt_le.mp (i_nlt h)
    rw [decide_eq_false h, decide_eq_false (show ¬ v ≤ n - 1 by rw [Int32.le_iff_toInt_le]; omega), Bool.and_false]
theorem m81_all : ∀ w, w < 3 → 1 ≤ w → (sAr 2).getD (3 * w + 1) 0 = 8 := by decide +kernel
theorem ck_pd {w : Nat} {n v0 v : Int32} (h1 : 1 ≤ w) (h2 : w ≤ 2) (bn : Bd 0 9 n) (b0 : Bd 0 999 v0) (b : Bd 0 999 v) : okn (v0 + 1) (n - 1) v = chk w 1 n v0 v := by
  have e := pred_ti bn
  have e8 : (8 : Int32).toInt = 8 := rfl
  have e1 : (1 : Int32).toInt = 1 := rfl
  have e2 : (v0 + 1).toInt = v0.toInt + 1 := by rw [ti_add (by have := b0.1; have := b0.2; omega) (by have := b0.1; have := b0.2; omega), e1]
  have := bn.2
  unfold okn chk
  rw [m81_all w (by omega) h1, if_neg (by omega), if_neg (by omega), if_neg (by decide)]
  by_cases h : v0 < v ∧ v < n
  · have h3 := Int32.lt_iff_toInt_lt.mp h.1
    have h4 := Int32.lt_iff_toInt_lt.mp h.2
    rw [decide_eq_true (show v0 + 1 ≤ v by rw [Int32.le_iff_toInt_le]; omega), decide_eq_true (show v ≤ n - 1 by rw [Int32.le_iff_toInt_le]; omega), decide_eq_true (show v ≤ 8 by rw [Int32.le_iff_toInt_le]; omega), decide_eq_true (Or.inr (Or.inr h))]
  · have h5 : decide (1 < 1 ∨ 2 < w ∨ (v0 < v ∧ v < n)) = false := decide_eq_false (fun z => by
      rcases z with z | z | z
      · omega
      · omega
      · exact h z)
    rw [h5, Bool.and_false]
    by_cases q : v0 + 1 ≤ v
    · have q1 := Int32.le_iff_toInt_le.mp q
      have q2 : ¬ v ≤ n - 1 := fun z => h ⟨by rw [Int32.lt_iff_toInt_lt]; omega, by
        have z1 := Int32.le_iff_toInt_le.mp z
        rw [Int32.lt_iff_toInt_lt]
        omega⟩
      rw [decide_eq_false q2, Bool.and_false]
    · rw [decide_eq_false q, Bool.false_and]
theorem ck_pn {w : Nat} {n v0 v h : Int32} (h1 : 3 ≤ w) (h2 : w ≤ 10) (hh : (sAr 2).getD (3 * w + 1) 0 = h) (b : Bd 0 999 v) : okn 0 h v = chk w 1 n v0 v := by
  rw [ok_0 b]
  unfold chk
  rw [hh, if_neg (by omega), if_neg (by omega), if_neg (by decide), decide_eq_true (p := 1 < 1 ∨ 2 < w ∨ (v0 < v ∧ v < n)) (Or.inr (Or.inl (by omega))), Bool.and_true]
theorem ck_p2 {w : Nat} {n v0 v : Int32} (hw : w = 2 ∨ w = 10) (b : Bd 0 999 v) : okn 0 10 v = chk w 2 n v0 v := by
  rw [ok_0 b]
  unfold chk
  have hh : (sAr 2).getD (3 * w + 2) 0 = 10 := by
    rcases hw with z | z <;> rw [z] <;> decide
  rw [hh, if_neg (by omega), if_neg (by omega), if_neg (by decide), decide_eq_true (p := 1 < 2 ∨ 2 < w ∨ (v0 < v ∧ v < n)) (Or.inl (by decide)), Bool.and_true]
theorem hc_ti : ∀ w, w < 11 → hcol w ≤ 13 := by decide
/-- where a pond's column stands in the row -/
theorem ix_p {v0 : Int32} {w : Nat} (hw : w < 11) (b : Bd 0 8 v0) : (((13 : Int32) + ((16 : Int32) * v0)) + iN (hcol w)).toNatClampNeg = 13 + 16 * v0.toInt.toNat + hcol w := by
  have h1 := hc_ti w hw
  have := b.1
  have := b.2
  rw [iN_of b (by decide), iN_ti (by omega)]
  show (iN 13 + iN 16 * iN v0.toInt.toNat + iN (hcol w)).toNatClampNeg = _
  rw [iN_m, iN_a, iN_a, iN_cl (by omega)]
  omega
theorem ix_p1 {v0 : Int32} {w : Nat} (hw : w < 11) (b : Bd 0 8 v0) : ((((13 : Int32) + ((16 : Int32) * v0)) + iN (hcol w)) + 1).toNatClampNeg = 14 + 16 * v0.toInt.toNat + hcol w := by
  have h1 := hc_ti w hw
  have := b.1
  have := b.2
  rw [iN_of b (by decide), iN_ti (by omega)]
  show (iN 13 + iN 16 * iN v0.toInt.toNat + iN (hcol w) + 1).toNatClampNeg = _
  rw [iN_m, iN_a, iN_a, iN_s, iN_cl (by omega)]
  omega
theorem ck_8 {w : Nat} {n v0 v : Int32} (h1 : 1 ≤ w) (h2 : w ≤ 10) (b : Bd 0 999 v) (h : chk w 0 n v0 v = true) : Bd 0 8 v := by
  unfold chk at h
  rw [m8_all w (by omega) h1] at h
  have h3 := Int32.le_iff_toInt_le.mp (of_decide_eq_true ((Bool.and_eq_true _ _).mp h).1)
  exact ⟨b.1, h3⟩
def K1 (to : Int32) (x : MM) (_ : GG) (x2 : MM) (g3 : GG) : Bool × MM × GG := if x2 162 18 = 0 then (true, x2, g3) else (true, ms x2 170 (((13 : Int32) + ((16 : Int32) * (x 171 0))) + to).toNatClampNeg (x2 171 1), g3)
theorem of1_X {z : Bool × MM × GG} {v : MM} {g : GG} {f : Nat → Int32} {L a w : Nat} {P : Int32 × Int32} {R : Nat → Int32} {lo1 hi1 : Int32 → Int32} (hb : L ≤ 600) (hf : ∀ j, j < L → Bd (-128) 127 (f j)) (ha : a ≤ L) (h : RSv v g f L a P R) (o : OR P (tS f L a)) (b0 : Bd 0 9 (R 0)) (hg : v 162 18 = 1) (h1 : 1 ≤ w) (h2 : w ≤ 9) (h3 : w ≠ 2)
    (e : z = two 0 (R 0 - 1) lo1 hi1 (K1 (iN (hcol w))) v g) (hC : ∀ v0 v1, Bd 0 999 v0 → Bd 0 999 v1 → okn (lo1 v0) (hi1 v0) v1 = chk w 1 (R 0) v0 v1) :
    OUT z f L 2 a (fo (fun j x => chk w j (R 0) (vv f L a 0) x) (vv f L a) (pp f L a) 2 0 P) (rowH w R (vv f L a 0) (vv f L a 1) (vv f L a 2) (chk w 0 (R 0) (vv f L a 0) (vv f L a 0) && chk w 1 (R 0) (vv f L a 0) (vv f L a 1))) := by
  rw [e, fo_2]
  obtain ⟨t1, t2⟩ := two_X (lo0 := 0) (hi0 := R 0 - 1) (lo1 := lo1) (hi1 := hi1) (K := K1 (iN (hcol w))) hb hf ha h o
  refine ⟨t1, fun q => ?_⟩
  obtain ⟨x, g2, x2, g3, k1, k2, k3, k4, k5, k6, k7, k8, k9, k10⟩ := t2 q
  rw [hC _ _ k5 k6, ck_p0 (w := w) (v0 := vv f L a 0) h1 (by omega) b0 k5] at k7 k8 k9
  rw [hg] at k9
  rw [k1]
  unfold K1
  have hrow : rowH w R (vv f L a 0) (vv f L a 1) (vv f L a 2) (chk w 0 (R 0) (vv f L a 0) (vv f L a 0) && chk w 1 (R 0) (vv f L a 0) (vv f L a 1)) = if (chk w 0 (R 0) (vv f L a 0) (vv f L a 0) && chk w 1 (R 0) (vv f L a 0) (vv f L a 1)) = true then upd R (13 + 16 * (vv f L a 0).toInt.toNat + hcol w) (vv f L a 1) else R := by
    unfold rowH
    rw [if_neg (by omega), if_neg (by omega), if_neg (by omega), if_neg (show ¬ (w = 2 ∨ w = 10) by omega)]
  rw [hrow]
  by_cases c0 : chk w 0 (R 0) (vv f L a 0) (vv f L a 0) = true
  · by_cases c1 : chk w 1 (R 0) (vv f L a 0) (vv f L a 1) = true
    · rw [if_pos c1, if_pos c0] at k9
      rw [if_neg (show ¬ x2 162 18 = 0 by rw [k9]; decide), c0, c1, if_pos (show (true && true) = true from rfl)]
      rw [c0, c1] at k7 k8
      refine ⟨rfl, ?_, k8⟩
      refine rs_170 k7 ?_ rfl rfl
      show ms x2 170 _ (x2 171 1) 170 = _
      rw [ms_a1, k2, ix_p (by omega) (ck_8 h1 (by omega) k5 c0), k4, k7.2.2.2.2]
    · rw [if_neg c1] at k9
      rw [if_pos k9, (Bool.not_eq_true _).mp c1, Bool.and_false, if_neg (by decide)]
      rw [(Bool.not_eq_true _).mp c1] at k7 k8
      exact ⟨rfl, k7, k8⟩
  · have k9' : x2 162 18 = 0 := by
      rw [k9, if_neg c0]
      split <;> rfl
    rw [if_pos k9', (Bool.not_eq_true _).mp c0, Bool.false_and, if_neg (by decide)]
    rw [(Bool.not_eq_true _).mp c0] at k7 k8
    exact ⟨rfl, k7, k8⟩
noncomputable def K2 (lo2 hi2 : Int32) (K3 : MM → MM → MM → GG → Bool × MM × GG) (x : MM) (_ : GG) (x2 : MM) (g3 : GG) : Bool × MM × GG := xq_c3 (Fx_M_take2X lo2 hi2 x2 g3) fun t3 x3 g4 => if t3 = true then K3 x x2 x3 g4 else (false, x3, g4)
theorem three_X {y : MM} {g : GG} {f : Nat → Int32} {L a : Nat} {P : Int32 × Int32} {R : Nat → Int32} {lo0 hi0 lo2 hi2 : Int32} {lo1 hi1 : Int32 → Int32} {K3 : MM → MM → MM → GG → Bool × MM × GG} (hb : L ≤ 600) (hf : ∀ j, j < L → Bd (-128) 127 (f j)) (ha : a ≤ L) (h : RSv y g f L a P R) (o : OR P (tS f L a)) :
    (∀ q, nn f L 3 a = some q → (two lo0 hi0 lo1 hi1 (K2 lo2 hi2 K3) y g).1 = false ∧ (two lo0 hi0 lo1 hi1 (K2 lo2 hi2 K3) y g).2.1 162 14 = iN q) ∧
    (nn f L 3 a = none → ∃ x x2 x3 g4, two lo0 hi0 lo1 hi1 (K2 lo2 hi2 K3) y g = K3 x x2 x3 g4 ∧ x 171 0 = vv f L a 0 ∧ x2 171 1 = vv f L a 1 ∧ x3 171 0 = vv f L a 0 ∧ x3 171 1 = vv f L a 1 ∧ x3 171 2 = vv f L a 2 ∧ Bd 0 999 (vv f L a 0) ∧ Bd 0 999 (vv f L a 1) ∧ Bd 0 999 (vv f L a 2) ∧
      RSv x3 g4 f L (sk f L 3 a) (rmb (okn lo2 hi2 (vv f L a 2)) 2 (pp f L a 2) (rmb (okn (lo1 (vv f L a 0)) (hi1 (vv f L a 0)) (vv f L a 1)) 2 (pp f L a 1) (rmb (okn lo0 hi0 (vv f L a 0)) 2 (pp f L a 0) P))) R ∧ OR (rmb (okn lo2 hi2 (vv f L a 2)) 2 (pp f L a 2) (rmb (okn (lo1 (vv f L a 0)) (hi1 (vv f L a 0)) (vv f L a 1)) 2 (pp f L a 1) (rmb (okn lo0 hi0 (vv f L a 0)) 2 (pp f L a 0) P))) (tS f L (sk f L 3 a)) ∧
      x3 162 18 = (if okn lo2 hi2 (vv f L a 2) = true then (if okn (lo1 (vv f L a 0)) (hi1 (vv f L a 0)) (vv f L a 1) = true then (if okn lo0 hi0 (vv f L a 0) = true then y 162 18 else 0) else 0) else 0)) := by
  obtain ⟨n1, n2⟩ := nn_s (f := f) (L := L) 2 a
  obtain ⟨t1, t2⟩ := two_X (lo0 := lo0) (hi0 := hi0) (lo1 := lo1) (hi1 := hi1) (K := K2 lo2 hi2 K3) hb hf ha h o
  cases hN : nn f L 2 a with
  | some q =>
    rw [n1 q hN]
    exact ⟨fun z hz => t1 z (hN.trans hz), fun hz => (by cases hz)⟩
  | none =>
    rw [n2 hN]
    obtain ⟨x, g2, x2, g3, k1, k2, k3, k4, k5, k6, k7, k8, k9, k10⟩ := t2 hN
    rw [k1]
    unfold K2
    by_cases c : tK f L (sk f L 2 a) = 2
    · obtain ⟨x3, g4, e, m1, m2, m3, m4, m5, m6⟩ := ta_21 (low := lo2) (high := hi2) hb hf (sk_in 2 a ha) k7 k8 c
      rw [e, if_pos c]
      refine ⟨fun z hz => (by cases hz), fun _ => ⟨x, x2, x3, g4, ?_, k2, k4, (m3 0 (by decide)).trans k3, (m3 1 (by decide)).trans k4, m2, k5, k6, tV_b c, m1, m6, ?_⟩⟩
      · rw [c3_mk, if_pos rfl]
      · rw [m4, k9]; rfl
    · obtain ⟨x3, g4, e, m1⟩ := ta_20 (low := lo2) (high := hi2) k7 c
      rw [e, if_neg c, c3_mk, if_neg (by decide)]
      refine ⟨fun z hz => ?_, fun hz => (by cases hz)⟩
      cases hz
      exact ⟨rfl, m1⟩
def K3p (to : Int32) (x x2 x3 : MM) (g4 : GG) : Bool × MM × GG := if x3 162 18 = 0 then (true, x3, g4) else (true, ms (ms x3 170 (((13 : Int32) + ((16 : Int32) * (x 171 0))) + to).toNatClampNeg (x2 171 1)) 170 ((((13 : Int32) + ((16 : Int32) * (x 171 0))) + to) + 1).toNatClampNeg (x3 171 2), g4)
theorem of2_X {z : Bool × MM × GG} {v : MM} {g : GG} {f : Nat → Int32} {L a w : Nat} {P : Int32 × Int32} {R : Nat → Int32} {lo1 hi1 : Int32 → Int32} (hb : L ≤ 600) (hf : ∀ j, j < L → Bd (-128) 127 (f j)) (ha : a ≤ L) (h : RSv v g f L a P R) (o : OR P (tS f L a)) (b0 : Bd 0 9 (R 0)) (hg : v 162 18 = 1) (hw : w = 2 ∨ w = 10)
    (e : z = two 0 (R 0 - 1) lo1 hi1 (K2 0 10 (K3p (iN (hcol w)))) v g) (hC : ∀ v0 v1, Bd 0 999 v0 → Bd 0 999 v1 → okn (lo1 v0) (hi1 v0) v1 = chk w 1 (R 0) v0 v1) :
    OUT z f L 3 a (fo (fun j x => chk w j (R 0) (vv f L a 0) x) (vv f L a) (pp f L a) 3 0 P) (rowH w R (vv f L a 0) (vv f L a 1) (vv f L a 2) (chk w 0 (R 0) (vv f L a 0) (vv f L a 0) && (chk w 1 (R 0) (vv f L a 0) (vv f L a 1) && chk w 2 (R 0) (vv f L a 0) (vv f L a 2)))) := by
  rw [e, fo_3]
  obtain ⟨t1, t2⟩ := three_X (lo0 := 0) (hi0 := R 0 - 1) (lo1 := lo1) (hi1 := hi1) (lo2 := 0) (hi2 := 10) (K3 := K3p (iN (hcol w))) hb hf ha h o
  refine ⟨t1, fun q => ?_⟩
  obtain ⟨x, x2, x3, g4, k1, k2, k3, k4, k5, k6, j0, j1, j2, k7, k8, k9⟩ := t2 q
  rw [ck_p2 (n := R 0) (v0 := vv f L a 0) hw j2, hC _ _ j0 j1, ck_p0 (w := w) (v0 := vv f L a 0) (by omega) (by omega) b0 j0] at k7 k8 k9
  rw [hg] at k9
  rw [k1]
  unfold K3p
  have hrow : ∀ gd, rowH w R (vv f L a 0) (vv f L a 1) (vv f L a 2) gd = if gd = true then upd (upd R (13 + 16 * (vv f L a 0).toInt.toNat + hcol w) (vv f L a 1)) (14 + 16 * (vv f L a 0).toInt.toNat + hcol w) (vv f L a 2) else R := by
    intro gd
    unfold rowH
    rw [if_neg (by omega), if_neg (by omega), if_neg (by omega), if_pos hw]
  rw [hrow]
  by_cases c : (chk w 0 (R 0) (vv f L a 0) (vv f L a 0) && (chk w 1 (R 0) (vv f L a 0) (vv f L a 1) && chk w 2 (R 0) (vv f L a 0) (vv f L a 2))) = true
  · obtain ⟨c0, c12⟩ := (Bool.and_eq_true _ _).mp c
    obtain ⟨c1, c2⟩ := (Bool.and_eq_true _ _).mp c12
    rw [if_pos c]
    rw [c0, c1, c2] at k7 k8 k9
    rw [if_neg (show ¬ x3 162 18 = 0 by rw [k9]; decide)]
    rw [c0, c1, c2]
    refine ⟨rfl, ?_, k8⟩
    refine rs_170 k7 ?_ rfl rfl
    show ms (ms x3 170 _ (x2 171 1)) 170 _ (x3 171 2) 170 = _
    rw [ms_a1, ms_a1, k2, ix_p (by omega) (ck_8 (by omega) (by omega) j0 c0), ix_p1 (by omega) (ck_8 (by omega) (by omega) j0 c0), k3, k6, k7.2.2.2.2]
  · have k9' : x3 162 18 = 0 := by
      rw [k9]
      by_cases c2 : chk w 2 (R 0) (vv f L a 0) (vv f L a 2) = true
      · rw [if_pos c2]
        by_cases c1 : chk w 1 (R 0) (vv f L a 0) (vv f L a 1) = true
        · rw [if_pos c1]
          by_cases c0 : chk w 0 (R 0) (vv f L a 0) (vv f L a 0) = true
          · exact absurd (by rw [c0, c1, c2]; rfl) c
          · rw [if_neg c0]
        · rw [if_neg c1]
      · rw [if_neg c2]
    rw [if_neg c, if_pos k9']
    exact ⟨rfl, k7, k8⟩
theorem days_X {v : MM} {g : GG} {f : Nat → Int32} {L a w : Nat} {P : Int32 × Int32} {R : Nat → Int32} {gd : Bool} (hb : L ≤ 600) (hf : ∀ j, j < L → Bd (-128) 127 (f j)) (ha : a ≤ L) (h : RSv v g f L a P R) (o : OR P (tS f L a)) (h1 : 12 ≤ w) (h2 : w ≤ 14) :
    OUT (Fx_M_daysLineX (iN (w - 10)) v g) f L 1 a (fo (fun j x => chk w j (R 0) (vv f L a 0) x) (vv f L a) (pp f L a) 1 0 P) (rowH w R (vv f L a 0) (vv f L a 1) (vv f L a 2) gd) := by
  have hN : nn f L 1 a = if tK f L a = 2 then none else some (tS f L a) := rfl
  have hr : rowH w R (vv f L a 0) (vv f L a 1) (vv f L a 2) gd = upd R (w - 10) (vv f L a 0) := by
    unfold rowH
    rw [if_neg (by omega), if_neg (by omega), if_pos (by omega)]
  rw [fo_1, hr]
  unfold OUT
  rw [hN]
  by_cases k : tK f L a = 2
  · obtain ⟨x, g2, e, m1, m2, m3, m4⟩ := nu_1 (low := 0) (high := 99) hb hf ha h o k
    have b := tV_b k
    have ck : okn 0 99 (tV f L a) = chk w 0 (R 0) (vv f L a 0) (vv f L a 0) := by
      rw [ok_0 b]
      unfold chk
      have hh : (sAr 2).getD (3 * w + 0) 0 = 99 := by
        rcases (show w = 12 ∨ w = 13 ∨ w = 14 by omega) with z | z | z <;> rw [z] <;> decide
      rw [hh, if_neg (by omega), if_pos (by omega), Bool.and_true]
      rfl
    rw [ck] at m1
    rw [if_pos k]
    refine ⟨fun q z => (by cases z), fun _ => ?_⟩
    have e2 : Fx_M_daysLineX (iN (w - 10)) v g = (true, ms x 170 (w - 10) (tV f L a), g2) := by
      unfold Fx_M_daysLineX
      rw [e, c3_mk, if_pos rfl]
      unfold Fx_M_daysLineX_J30
      rw [iN_cl (by omega), m2]
      rfl
    rw [e2]
    refine ⟨rfl, rs_170 m1 ?_ rfl rfl, ?_⟩
    · show ms x 170 (w - 10) (tV f L a) 170 = _
      rw [ms_a1, m1.2.2.2.2]
      rfl
    · have h3 := tN_lt (f := f) (L := L) (a := a) (by rw [k]; decide)
      have h4 := tS_le (f := f) (L := L) (tN f L a)
      have h5 := tS_in (f := f) (tN_in (f := f) ha)
      exact or_rmb (t := tS f L a) (t2 := tS f L (tN f L a)) o (by omega) (by omega)
  · rw [if_neg k]
    refine ⟨fun q z => ?_, fun z => (by cases z)⟩
    cases z
    have e2 : Fx_M_daysLineX (iN (w - 10)) v g = (false, ms (ms v 162 14 (iN (tS f L a))) 170 (w - 10) (v 170 (w - 10)), g) := by
      unfold Fx_M_daysLineX
      rw [nu_0 h k, c3_mk, if_neg (by decide)]
      unfold Fx_M_daysLineX_J30
      rw [iN_cl (by omega)]
      rfl
    rw [e2]
    exact ⟨rfl, rfl⟩
