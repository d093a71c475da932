section
/-! the reference's lines of a hill: a pond, and which line it is -/
theorem pc_3 {w : MM} {v0 v1 v2 : Int32} {i : Nat} (h0 : w 171 0 = v0) (h1 : w 171 1 = v1) (h2 : w 171 2 = v2) (hi : i < 3) : w 171 i = pc v0 v1 v2 i := by
  rcases (show i = 0 ∨ i = 1 ∨ i = 2 by omega) with z | z | z
  · rw [z]; exact h0
  · rw [z]; exact h1
  · rw [z]; exact h2
theorem pl_L {u : MM} {g : GG} {k : Nat} {v0 v1 v2 : Int32} (hk : u 170 0 = iN k) (h8 : k ≤ 8) : ∀ (n i : Nat) (w : MM), 16 - i < n → i ≤ 16 → w 171 0 = v0 → w 171 1 = v1 → w 171 2 = v2 → ∃ x, Fx_M_pondLineX_L91 u g n (iN i) w = (true, x, g) ∧ (∀ b, b ≠ 170 → x b = w b) ∧ x 170 = upd (fun j => if 13 + 16 * k + i ≤ j ∧ j < 29 + 16 * k then pc v0 v1 v2 (j - (13 + 16 * k)) else w 170 j) 0 (w 170 0 + 1) := by
  intro n
  induction n with
  | zero => intro i w h; omega
  | succ n ih =>
    intro i w h hi h0 h1 h2
    rw [Fx_M_pondLineX_L91_s, hk]
    have ei : (((13 : Int32) + ((16 : Int32) * iN k)) + iN i).toNatClampNeg = 13 + 16 * k + i := by
      show (iN 13 + iN 16 * iN k + iN i).toNatClampNeg = _
      rw [iN_m, iN_a, iN_a, iN_cl (by omega)]
    by_cases c : 16 ≤ i
    · rw [if_pos (show (16 : Int32) ≤ iN i from (iN_le (a := 16) (by omega) (by omega)).mpr c)]
      refine ⟨ms w 170 0 (w 170 0 + 1), rfl, fun b hb => ms_c1 hb, ?_⟩
      rw [ms_a1]
      congr 1
      funext j
      rw [if_neg (by omega)]
    · have e : (if (16 : Int32) ≤ iN i then (xq_lt (ms w 170 0 ((w 170 0) + 1)) fun x => Fx_M_pondLineX_J165 g x) else (if (3 : Int32) ≤ iN i then (if iN i = (8 : Int32) then (xq_lt (ms w 170 ((((13 : Int32) + ((16 : Int32) * iN k)) + iN i).toNatClampNeg) (-1)) fun x => (Fx_M_pondLineX_L91 u g n) (iN i + 1) x) else (if iN i = (9 : Int32) then (xq_lt (ms w 170 ((((13 : Int32) + ((16 : Int32) * iN k)) + iN i).toNatClampNeg) (-1)) fun x => (Fx_M_pondLineX_L91 u g n) (iN i + 1) x) else (if iN i = (12 : Int32) then (xq_lt (ms w 170 ((((13 : Int32) + ((16 : Int32) * iN k)) + iN i).toNatClampNeg) (-1)) fun x => (Fx_M_pondLineX_L91 u g n) (iN i + 1) x) else (xq_lt (ms w 170 ((((13 : Int32) + ((16 : Int32) * iN k)) + iN i).toNatClampNeg) 0) fun x => (Fx_M_pondLineX_L91 u g n) (iN i + 1) x)))) else (xq_lt (w 171 (iN i).toNatClampNeg) fun v => xq_lt (ms w 170 ((((13 : Int32) + ((16 : Int32) * iN k)) + iN i).toNatClampNeg) v) fun x => (Fx_M_pondLineX_L91 u g n) (iN i + 1) x))) = Fx_M_pondLineX_L91 u g n (iN (i + 1)) (ms w 170 (13 + 16 * k + i) (pc v0 v1 v2 i)) := by
        rw [if_neg (show ¬ (16 : Int32) ≤ iN i from fun q => c ((iN_le (a := 16) (by omega) (by omega)).mp q)), ei, iN_s, iN_cl (by omega)]
        by_cases c3 : 3 ≤ i
        · rw [if_pos (show (3 : Int32) ≤ iN i from (iN_le (a := 3) (by omega) (by omega)).mpr c3)]
          by_cases c8 : i = 8
          · rw [if_pos (show iN i = (8 : Int32) by rw [c8]; rfl), c8]; rfl
          · rw [if_neg (show ¬ iN i = (8 : Int32) from fun q => c8 ((iN_eq (b := 8) (by omega) (by omega)).mp q))]
            by_cases c9 : i = 9
            · rw [if_pos (show iN i = (9 : Int32) by rw [c9]; rfl), c9]; rfl
            · rw [if_neg (show ¬ iN i = (9 : Int32) from fun q => c9 ((iN_eq (b := 9) (by omega) (by omega)).mp q))]
              by_cases c12 : i = 12
              · rw [if_pos (show iN i = (12 : Int32) by rw [c12]; rfl), c12]; rfl
              · rw [if_neg (show ¬ iN i = (12 : Int32) from fun q => c12 ((iN_eq (b := 12) (by omega) (by omega)).mp q))]
                have ep : pc v0 v1 v2 i = 0 := by
                  unfold pc
                  rw [if_neg (by omega), if_neg (by omega), if_neg (by omega), if_neg (by omega)]
                rw [ep]
                rfl
        · rw [if_neg (show ¬ (3 : Int32) ≤ iN i from fun q => c3 ((iN_le (a := 3) (by omega) (by omega)).mp q)), ← pc_3 h0 h1 h2 (by omega)]
          rfl
      rw [e]
      obtain ⟨x, x1, x2, x3⟩ := ih (i + 1) (ms w 170 (13 + 16 * k + i) (pc v0 v1 v2 i)) (by omega) (by omega) h0 h1 h2
      refine ⟨x, x1, fun b hb => (x2 b hb).trans (ms_c1 hb), ?_⟩
      rw [x3, ms_a1]
      unfold upd
      funext j
      by_cases q0 : j = 0
      · rw [if_pos q0, if_pos q0, if_neg (by omega)]
      · rw [if_neg q0, if_neg q0]
        dsimp only
        by_cases q1 : j = 13 + 16 * k + i
        · rw [if_neg (by omega), if_pos q1, if_pos (by omega), q1, Nat.add_sub_cancel_left]
        · by_cases q2 : 13 + 16 * k + i ≤ j ∧ j < 29 + 16 * k
          · rw [if_pos (by omega), if_pos q2]
          · rw [if_neg (by omega), if_neg q1, if_neg q2]
noncomputable def K3q (u : MM) (_ _ x3 : MM) (g4 : GG) : Bool × MM × GG := if (9 : Int32) ≤ u 170 0 then (true, x3, g4) else Fx_M_pondLineX_L91 u g4 17 (iN 0) x3
theorem pl_J {u y : MM} {g : GG} : Fx_M_pondLineX_J19 u g y = two 0 24 (fun _ => 0) (fun z => if (24 : Int32) ≤ z then 24 else z) (K2 0 9 (K3q u)) y g := by
  unfold Fx_M_pondLineX_J19 two
  congr 1
  funext t x g2
  by_cases ht : t = true
  · rw [if_pos ht, if_pos ht]
    dsimp only
    by_cases q : (24 : Int32) ≤ x 171 0
    · rw [if_pos q, if_pos q]; rfl
    · rw [if_neg q, if_neg q]; rfl
  · rw [if_neg ht, if_neg ht]
theorem ck_q {n v0 v1 v2 : Int32} (b0 : Bd 0 999 v0) (b1 : Bd 0 999 v1) (b2 : Bd 0 999 v2) : okn 0 24 v0 = chk 0 0 n v0 v0 ∧ okn 0 (if (24 : Int32) ≤ v0 then 24 else v0) v1 = chk 0 1 n v0 v1 ∧ okn 0 9 v2 = chk 0 2 n v0 v2 := by
  rw [ok_0 b0, ok_0 b1, ok_0 b2]
  refine ⟨?_, ?_, ?_⟩
  · show decide (v0 ≤ 24) = (decide (v0 ≤ 24) && decide (¬ 0 = 1 ∨ v0 ≤ v0))
    rw [decide_eq_true (p := ¬ 0 = 1 ∨ v0 ≤ v0) (Or.inl (by decide)), Bool.and_true]
  · show _ = (decide (v1 ≤ 24) && decide (¬ 1 = 1 ∨ v1 ≤ v0))
    have e24 : (24 : Int32).toInt = 24 := rfl
    by_cases q : (24 : Int32) ≤ v0
    · rw [if_pos q]
      have q1 := Int32.le_iff_toInt_le.mp q
      by_cases z : v1 ≤ 24
      · have z1 := Int32.le_iff_toInt_le.mp z
        rw [decide_eq_true z, decide_eq_true (p := ¬ 1 = 1 ∨ v1 ≤ v0) (Or.inr (by rw [Int32.le_iff_toInt_le]; omega))]
        rfl
      · rw [decide_eq_false z]; rfl
    · rw [if_neg q]
      have q1 := Int32.lt_iff_toInt_lt.mp (i_nle q)
      by_cases z : v1 ≤ v0
      · have z1 := Int32.le_iff_toInt_le.mp z
        rw [decide_eq_true z, decide_eq_true (p := ¬ 1 = 1 ∨ v1 ≤ v0) (Or.inr z), decide_eq_true (show v1 ≤ 24 by rw [Int32.le_iff_toInt_le]; omega)]
        rfl
      · rw [decide_eq_false z, decide_eq_false (p := ¬ 1 = 1 ∨ v1 ≤ v0) (fun y => by
          rcases y with y | y
          · exact y rfl
          · exact z y), Bool.and_false]
  · show decide (v2 ≤ 9) = (decide (v2 ≤ 9) && decide (¬ 2 = 1 ∨ v2 ≤ v0))
    rw [decide_eq_true (p := ¬ 2 = 1 ∨ v2 ≤ v0) (Or.inl (by decide)), Bool.and_true]
theorem pond_X {v : MM} {g : GG} {f : Nat → Int32} {L a s : Nat} {P : Int32 × Int32} {R : Nat → Int32} {gd : Bool} (hb : L ≤ 600) (hf : ∀ j, j < L → Bd (-128) 127 (f j)) (ha : a ≤ L) (h : RSv v g f L a P R) (b0 : Bd 0 9 (R 0)) (o : OR P s) (hs : s < tS f L a) :
    OUT (Fx_M_pondLineX (iN s) v g) f L 3 a (fo (fun j x => chk 0 j (R 0) (vv f L a 0) x) (vv f L a) (pp f L a) 3 0 (rmb (!fl 0 (R 0) (R 1)) 3 (iN s) P)) (rowH 0 R (vv f L a 0) (vv f L a 1) (vv f L a 2) gd) := by
  have e170 : v 170 0 = R 0 := by rw [h.2.2.2.2]
  have h1 := tS_in (f := f) ha
  rw [fo_3]
  by_cases q : R 0 = 9
  · have hfl : fl 0 (R 0) (R 1) = true := decide_eq_true (Or.inl ⟨rfl, by rw [q]; decide⟩)
    rw [hfl, rmb_f (b := !true) (by decide)]
    obtain ⟨y1, y2, y3⟩ := la_R hb ha h o hs
    have e : Fx_M_pondLineX (iN s) v g = two 0 24 (fun _ => 0) (fun z => if (24 : Int32) ≤ z then 24 else z) (K2 0 9 (K3q v)) (Fx_M_laterX 3 (iN s) v g) g := by
      unfold Fx_M_pondLineX
      rw [e170, if_pos q]
      exact pl_J
    rw [e]
    obtain ⟨t1, t2⟩ := three_X (lo0 := 0) (hi0 := 24) (lo1 := fun _ => 0) (hi1 := fun z => if (24 : Int32) ≤ z then 24 else z) (lo2 := 0) (hi2 := 9) (K3 := K3q v) hb hf ha y1 y2
    refine ⟨t1, fun z => ?_⟩
    obtain ⟨x, x2, x3, g4, k1, k2, k3, k4, k5, k6, j0, j1, j2, k7, k8, k9⟩ := t2 z
    obtain ⟨c0, c1, c2⟩ := ck_q (n := R 0) j0 j1 j2
    rw [c0, c1, c2] at k7 k8
    rw [k1]
    unfold K3q
    rw [e170, if_pos (show (9 : Int32) ≤ R 0 by rw [q]; decide)]
    have er : rowH 0 R (vv f L a 0) (vv f L a 1) (vv f L a 2) gd = R := by
      unfold rowH
      rw [if_pos rfl, if_neg (fun z => by rw [q] at z; exact absurd z (by decide))]
    rw [er]
    exact ⟨rfl, k7, k8⟩
  · have hlt : R 0 < 9 := by
      rw [Int32.lt_iff_toInt_lt]
      have h2 : (R 0).toInt ≠ 9 := fun z => q (Int32.toInt_inj.mp z)
      have := b0.2
      have e9 : (9 : Int32).toInt = 9 := rfl
      omega
    have hl2 := Int32.lt_iff_toInt_lt.mp hlt
    have e9 : (9 : Int32).toInt = 9 := rfl
    have hfl : fl 0 (R 0) (R 1) = false := decide_eq_false (fun z => by
      rcases z with z | z
      · exact lt_le_no hlt z.2
      · exact absurd z.1 (by decide))
    rw [hfl, rmb_t (b := !false) (by decide)]
    have e : Fx_M_pondLineX (iN s) v g = two 0 24 (fun _ => 0) (fun z => if (24 : Int32) ≤ z then 24 else z) (K2 0 9 (K3q v)) v g := by
      unfold Fx_M_pondLineX
      rw [e170, if_neg q]
      exact pl_J
    rw [e]
    obtain ⟨t1, t2⟩ := three_X (lo0 := 0) (hi0 := 24) (lo1 := fun _ => 0) (hi1 := fun z => if (24 : Int32) ≤ z then 24 else z) (lo2 := 0) (hi2 := 9) (K3 := K3q v) hb hf ha h (or_w o (Nat.le_of_lt hs) (by omega))
    refine ⟨t1, fun z => ?_⟩
    obtain ⟨x, x2, x3, g4, k1, k2, k3, k4, k5, k6, j0, j1, j2, k7, k8, k9⟩ := t2 z
    obtain ⟨c0, c1, c2⟩ := ck_q (n := R 0) j0 j1 j2
    rw [c0, c1, c2] at k7 k8
    rw [k1]
    unfold K3q
    have hk : v 170 0 = iN (R 0).toInt.toNat := e170.trans (iN_of b0 (by decide))
    obtain ⟨y, y1, y2, y3⟩ := pl_L (g := g4) hk (by have := b0.1; omega) 17 0 x3 (by omega) (by omega) k4 k5 k6
    rw [e170, if_neg (fun z => lt_le_no hlt z), y1]
    have er : rowH 0 R (vv f L a 0) (vv f L a 1) (vv f L a 2) gd = upd (fun j => if 13 + 16 * (R 0).toInt.toNat ≤ j ∧ j < 29 + 16 * (R 0).toInt.toNat then pc (vv f L a 0) (vv f L a 1) (vv f L a 2) (j - (13 + 16 * (R 0).toInt.toNat)) else R j) 0 (R 0 + 1) := by
      unfold rowH
      rw [if_pos rfl, if_pos hlt]
    rw [er]
    refine ⟨rfl, rs_170 k7 ?_ (y2 162 (by decide)) (y2 163 (by decide)), k8⟩
    show y 170 = _
    rw [y3, k7.2.2.2.2]
    rfl
theorem hl_0 {at0 : Int32} {v : MM} {g : GG} : Fx_M_hillLineX at0 v g = Fx_M_hillLineX_J16 at0 v g (rw0 v g) := by
  unfold Fx_M_hillLineX rw0
  by_cases h : v 162 11 = 2
  · rw [if_pos h, if_pos h]; rfl
  · rw [if_neg h, if_neg h]
theorem hl_w0 {at0 : Int32} {v : MM} {g : GG} (hk : ∀ i, i < 15 → (lg_cmp (rw0 v g) (kW i) = 0 ↔ i = 0)) : Fx_M_hillLineX at0 v g = Fx_M_pondLineX at0 (Fx_M_tokenX v g).1 (Fx_M_tokenX v g).2 := by
  have h0 : (lg_cmp (rw0 v g) (1886350948 : Int64) = 0) = True := eq_true ((hk 0 (by decide)).mpr rfl)
  have h1 : (lg_cmp (rw0 v g) (1685026670 : Int64) = 0) = False := eq_false (fun q => absurd ((hk 1 (by decide)).mp q) (by decide))
  have h2 : (lg_cmp (rw0 v g) (418548114533 : Int64) = 0) = False := eq_false (fun q => absurd ((hk 2 (by decide)).mp q) (by decide))
  have h3 : (lg_cmp (rw0 v g) (422607680115 : Int64) = 0) = False := eq_false (fun q => absurd ((hk 3 (by decide)).mp q) (by decide))
  have h4 : (lg_cmp (rw0 v g) (1735353715 : Int64) = 0) = False := eq_false (fun q => absurd ((hk 4 (by decide)).mp q) (by decide))
  have h5 : (lg_cmp (rw0 v g) (1751216749 : Int64) = 0) = False := eq_false (fun q => absurd ((hk 5 (by decide)).mp q) (by decide))
  have h6 : (lg_cmp (rw0 v g) (478745093490 : Int64) = 0) = False := eq_false (fun q => absurd ((hk 6 (by decide)).mp q) (by decide))
  have h7 : (lg_cmp (rw0 v g) (1919509349 : Int64) = 0) = False := eq_false (fun q => absurd ((hk 7 (by decide)).mp q) (by decide))
  have h8 : (lg_cmp (rw0 v g) (7823737 : Int64) = 0) = False := eq_false (fun q => absurd ((hk 8 (by decide)).mp q) (by decide))
  have h9 : (lg_cmp (rw0 v g) (1734440037 : Int64) = 0) = False := eq_false (fun q => absurd ((hk 9 (by decide)).mp q) (by decide))
  have h10 : (lg_cmp (rw0 v g) (1936287598 : Int64) = 0) = False := eq_false (fun q => absurd ((hk 10 (by decide)).mp q) (by decide))
  have h11 : (lg_cmp (rw0 v g) (1918986606 : Int64) = 0) = False := eq_false (fun q => absurd ((hk 11 (by decide)).mp q) (by decide))
  have h12 : (lg_cmp (rw0 v g) (1835363940 : Int64) = 0) = False := eq_false (fun q => absurd ((hk 12 (by decide)).mp q) (by decide))
  have h13 : (lg_cmp (rw0 v g) (2003395685 : Int64) = 0) = False := eq_false (fun q => absurd ((hk 13 (by decide)).mp q) (by decide))
  have h14 : (lg_cmp (rw0 v g) (491496238692 : Int64) = 0) = False := eq_false (fun q => absurd ((hk 14 (by decide)).mp q) (by decide))
  rw [hl_0]
  simp (config := { decide := true }) only [Fx_M_hillLineX_J16, Fx_M_hillLineX_J184, Fx_M_hillLineX_J184b, Fx_M_hillLineX_J184c, Fx_M_hillLineX_J184d, Fx_M_hillLineX_J328, h0, h1, h2, h3, h4, h5, h6, h7, h8, h9, h10, h11, h12, h13, h14, if_true, if_false]
  rfl
theorem hl_w1 {at0 : Int32} {v : MM} {g : GG} (hk : ∀ i, i < 15 → (lg_cmp (rw0 v g) (kW i) = 0 ↔ i = 1)) : Fx_M_hillLineX at0 v g = Fx_M_ofPond1X 8 0 99 10 (Fx_M_tokenX v g).1 (Fx_M_tokenX v g).2 := by
  have h0 : (lg_cmp (rw0 v g) (1886350948 : Int64) = 0) = False := eq_false (fun q => absurd ((hk 0 (by decide)).mp q) (by decide))
  have h1 : (lg_cmp (rw0 v g) (1685026670 : Int64) = 0) = True := eq_true ((hk 1 (by decide)).mpr rfl)
  have h2 : (lg_cmp (rw0 v g) (418548114533 : Int64) = 0) = False := eq_false (fun q => absurd ((hk 2 (by decide)).mp q) (by decide))
  have h3 : (lg_cmp (rw0 v g) (422607680115 : Int64) = 0) = False := eq_false (fun q => absurd ((hk 3 (by decide)).mp q) (by decide))
  have h4 : (lg_cmp (rw0 v g) (1735353715 : Int64) = 0) = False := eq_false (fun q => absurd ((hk 4 (by decide)).mp q) (by decide))
  have h5 : (lg_cmp (rw0 v g) (1751216749 : Int64) = 0) = False := eq_false (fun q => absurd ((hk 5 (by decide)).mp q) (by decide))
  have h6 : (lg_cmp (rw0 v g) (478745093490 : Int64) = 0) = False := eq_false (fun q => absurd ((hk 6 (by decide)).mp q) (by decide))
  have h7 : (lg_cmp (rw0 v g) (1919509349 : Int64) = 0) = False := eq_false (fun q => absurd ((hk 7 (by decide)).mp q) (by decide))
  have h8 : (lg_cmp (rw0 v g) (7823737 : Int64) = 0) = False := eq_false (fun q => absurd ((hk 8 (by decide)).mp q) (by decide))
  have h9 : (lg_cmp (rw0 v g) (1734440037 : Int64) = 0) = False := eq_false (fun q => absurd ((hk 9 (by decide)).mp q) (by decide))
  have h10 : (lg_cmp (rw0 v g) (1936287598 : Int64) = 0) = False := eq_false (fun q => absurd ((hk 10 (by decide)).mp q) (by decide))
  have h11 : (lg_cmp (rw0 v g) (1918986606 : Int64) = 0) = False := eq_false (fun q => absurd ((hk 11 (by decide)).mp q) (by decide))
  have h12 : (lg_cmp (rw0 v g) (1835363940 : Int64) = 0) = False := eq_false (fun q => absurd ((hk 12 (by decide)).mp q) (by decide))
  have h13 : (lg_cmp (rw0 v g) (2003395685 : Int64) = 0) = False := eq_false (fun q => absurd ((hk 13 (by decide)).mp q) (by decide))
  have h14 : (lg_cmp (rw0 v g) (491496238692 : Int64) = 0) = False := eq_false (fun q => absurd ((hk 14 (by decide)).mp q) (by decide))
  rw [hl_0]
  simp (config := { decide := true }) only [Fx_M_hillLineX_J16, Fx_M_hillLineX_J184, Fx_M_hillLineX_J184b, Fx_M_hillLineX_J184c, Fx_M_hillLineX_J184d, Fx_M_hillLineX_J328, h0, h1, h2, h3, h4, h5, h6, h7, h8, h9, h10, h11, h12, h13, h14, if_true, if_false]
  rfl
theorem hl_w2 {at0 : Int32} {v : MM} {g : GG} (hk : ∀ i, i < 15 → (lg_cmp (rw0 v g) (kW i) = 0 ↔ i = 2)) : Fx_M_hillLineX at0 v g = Fx_M_ofPond2X 9 0 99 10 (Fx_M_tokenX v g).1 (Fx_M_tokenX v g).2 := by
  have h0 : (lg_cmp (rw0 v g) (1886350948 : Int64) = 0) = False := eq_false (fun q => absurd ((hk 0 (by decide)).mp q) (by decide))
  have h1 : (lg_cmp (rw0 v g) (1685026670 : Int64) = 0) = False := eq_false (fun q => absurd ((hk 1 (by decide)).mp q) (by decide))
  have h2 : (lg_cmp (rw0 v g) (418548114533 : Int64) = 0) = True := eq_true ((hk 2 (by decide)).mpr rfl)
  have h3 : (lg_cmp (rw0 v g) (422607680115 : Int64) = 0) = False := eq_false (fun q => absurd ((hk 3 (by decide)).mp q) (by decide))
  have h4 : (lg_cmp (rw0 v g) (1735353715 : Int64) = 0) = False := eq_false (fun q => absurd ((hk 4 (by decide)).mp q) (by decide))
  have h5 : (lg_cmp (rw0 v g) (1751216749 : Int64) = 0) = False := eq_false (fun q => absurd ((hk 5 (by decide)).mp q) (by decide))
  have h6 : (lg_cmp (rw0 v g) (478745093490 : Int64) = 0) = False := eq_false (fun q => absurd ((hk 6 (by decide)).mp q) (by decide))
  have h7 : (lg_cmp (rw0 v g) (1919509349 : Int64) = 0) = False := eq_false (fun q => absurd ((hk 7 (by decide)).mp q) (by decide))
  have h8 : (lg_cmp (rw0 v g) (7823737 : Int64) = 0) = False := eq_false (fun q => absurd ((hk 8 (by decide)).mp q) (by decide))
  have h9 : (lg_cmp (rw0 v g) (1734440037 : Int64) = 0) = False := eq_false (fun q => absurd ((hk 9 (by decide)).mp q) (by decide))
  have h10 : (lg_cmp (rw0 v g) (1936287598 : Int64) = 0) = False := eq_false (fun q => absurd ((hk 10 (by decide)).mp q) (by decide))
  have h11 : (lg_cmp (rw0 v g) (1918986606 : Int64) = 0) = False := eq_false (fun q => absurd ((hk 11 (by decide)).mp q) (by decide))
  have h12 : (lg_cmp (rw0 v g) (1835363940 : Int64) = 0) = False := eq_false (fun q => absurd ((hk 12 (by decide)).mp q) (by decide))
  have h13 : (lg_cmp (rw0 v g) (2003395685 : Int64) = 0) = False := eq_false (fun q => absurd ((hk 13 (by decide)).mp q) (by decide))
  have h14 : (lg_cmp (rw0 v g) (491496238692 : Int64) = 0) = False := eq_false (fun q => absurd ((hk 14 (by decide)).mp q) (by decide))
  rw [hl_0]
  simp (config := { decide := true }) only [Fx_M_hillLineX_J16, Fx_M_hillLineX_J184, Fx_M_hillLineX_J184b, Fx_M_hillLineX_J184c, Fx_M_hillLineX_J184d, Fx_M_hillLineX_J328, h0, h1, h2, h3, h4, h5, h6, h7, h8, h9, h10, h11, h12, h13, h14, if_true, if_false]
  rfl
theorem hl_w3 {at0 : Int32} {v : MM} {g : GG} (hk : ∀ i, i < 15 → (lg_cmp (rw0 v g) (kW i) = 0 ↔ i = 3)) : Fx_M_hillLineX at0 v g = Fx_M_ofPond1X 3 0 24 10 (Fx_M_tokenX v g).1 (Fx_M_tokenX v g).2 := by
  have h0 : (lg_cmp (rw0 v g) (1886350948 : Int64) = 0) = False := eq_false (fun q => absurd ((hk 0 (by decide)).mp q) (by decide))
  have h1 : (lg_cmp (rw0 v g) (1685026670 : Int64) = 0) = False := eq_false (fun q => absurd ((hk 1 (by decide)).mp q) (by decide))
  have h2 : (lg_cmp (rw0 v g) (418548114533 : Int64) = 0) = False := eq_false (fun q => absurd ((hk 2 (by decide)).mp q) (by decide))
  have h3 : (lg_cmp (rw0 v g) (422607680115 : Int64) = 0) = True := eq_true ((hk 3 (by decide)).mpr rfl)
  have h4 : (lg_cmp (rw0 v g) (1735353715 : Int64) = 0) = False := eq_false (fun q => absurd ((hk 4 (by decide)).mp q) (by decide))
  have h5 : (lg_cmp (rw0 v g) (1751216749 : Int64) = 0) = False := eq_false (fun q => absurd ((hk 5 (by decide)).mp q) (by decide))
  have h6 : (lg_cmp (rw0 v g) (478745093490 : Int64) = 0) = False := eq_false (fun q => absurd ((hk 6 (by decide)).mp q) (by decide))
  have h7 : (lg_cmp (rw0 v g) (1919509349 : Int64) = 0) = False := eq_false (fun q => absurd ((hk 7 (by decide)).mp q) (by decide))
  have h8 : (lg_cmp (rw0 v g) (7823737 : Int64) = 0) = False := eq_false (fun q => absurd ((hk 8 (by decide)).mp q) (by decide))
  have h9 : (lg_cmp (rw0 v g) (1734440037 : Int64) = 0) = False := eq_false (fun q => absurd ((hk 9 (by decide)).mp q) (by decide))
  have h10 : (lg_cmp (rw0 v g) (1936287598 : Int64) = 0) = False := eq_false (fun q => absurd ((hk 10 (by decide)).mp q) (by decide))
  have h11 : (lg_cmp (rw0 v g) (1918986606 : Int64) = 0) = False := eq_false (fun q => absurd ((hk 11 (by decide)).mp q) (by decide))
  have h12 : (lg_cmp (rw0 v g) (1835363940 : Int64) = 0) = False := eq_false (fun q => absurd ((hk 12 (by decide)).mp q) (by decide))
  have h13 : (lg_cmp (rw0 v g) (2003395685 : Int64) = 0) = False := eq_false (fun q => absurd ((hk 13 (by decide)).mp q) (by decide))
  have h14 : (lg_cmp (rw0 v g) (491496238692 : Int64) = 0) = False := eq_false (fun q => absurd ((hk 14 (by decide)).mp q) (by decide))
  rw [hl_0]
  simp (config := { decide := true }) only [Fx_M_hillLineX_J16, Fx_M_hillLineX_J184, Fx_M_hillLineX_J184b, Fx_M_hillLineX_J184c, Fx_M_hillLineX_J184d, Fx_M_hillLineX_J328, h0, h1, h2, h3, h4, h5, h6, h7, h8, h9, h10, h11, h12, h13, h14, if_true, if_false]
  rfl
theorem hl_w4 {at0 : Int32} {v : MM} {g : GG} (hk : ∀ i, i < 15 → (lg_cmp (rw0 v g) (kW i) = 0 ↔ i = 4)) : Fx_M_hillLineX at0 v g = Fx_M_ofPond1X 4 0 10 10 (Fx_M_tokenX v g).1 (Fx_M_tokenX v g).2 := by
  have h0 : (lg_cmp (rw0 v g) (1886350948 : Int64) = 0) = False := eq_false (fun q => absurd ((hk 0 (by decide)).mp q) (by decide))
  have h1 : (lg_cmp (rw0 v g) (1685026670 : Int64) = 0) = False := eq_false (fun q => absurd ((hk 1 (by decide)).mp q) (by decide))
  have h2 : (lg_cmp (rw0 v g) (418548114533 : Int64) = 0) = False := eq_false (fun q => absurd ((hk 2 (by decide)).mp q) (by decide))
  have h3 : (lg_cmp (rw0 v g) (422607680115 : Int64) = 0) = False := eq_false (fun q => absurd ((hk 3 (by decide)).mp q) (by decide))
  have h4 : (lg_cmp (rw0 v g) (1735353715 : Int64) = 0) = True := eq_true ((hk 4 (by decide)).mpr rfl)
  have h5 : (lg_cmp (rw0 v g) (1751216749 : Int64) = 0) = False := eq_false (fun q => absurd ((hk 5 (by decide)).mp q) (by decide))
  have h6 : (lg_cmp (rw0 v g) (478745093490 : Int64) = 0) = False := eq_false (fun q => absurd ((hk 6 (by decide)).mp q) (by decide))
  have h7 : (lg_cmp (rw0 v g) (1919509349 : Int64) = 0) = False := eq_false (fun q => absurd ((hk 7 (by decide)).mp q) (by decide))
  have h8 : (lg_cmp (rw0 v g) (7823737 : Int64) = 0) = False := eq_false (fun q => absurd ((hk 8 (by decide)).mp q) (by decide))
  have h9 : (lg_cmp (rw0 v g) (1734440037 : Int64) = 0) = False := eq_false (fun q => absurd ((hk 9 (by decide)).mp q) (by decide))
  have h10 : (lg_cmp (rw0 v g) (1936287598 : Int64) = 0) = False := eq_false (fun q => absurd ((hk 10 (by decide)).mp q) (by decide))
  have h11 : (lg_cmp (rw0 v g) (1918986606 : Int64) = 0) = False := eq_false (fun q => absurd ((hk 11 (by decide)).mp q) (by decide))
  have h12 : (lg_cmp (rw0 v g) (1835363940 : Int64) = 0) = False := eq_false (fun q => absurd ((hk 12 (by decide)).mp q) (by decide))
  have h13 : (lg_cmp (rw0 v g) (2003395685 : Int64) = 0) = False := eq_false (fun q => absurd ((hk 13 (by decide)).mp q) (by decide))
  have h14 : (lg_cmp (rw0 v g) (491496238692 : Int64) = 0) = False := eq_false (fun q => absurd ((hk 14 (by decide)).mp q) (by decide))
  rw [hl_0]
  simp (config := { decide := true }) only [Fx_M_hillLineX_J16, Fx_M_hillLineX_J184, Fx_M_hillLineX_J184b, Fx_M_hillLineX_J184c, Fx_M_hillLineX_J184d, Fx_M_hillLineX_J328, h0, h1, h2, h3, h4, h5, h6, h7, h8, h9, h10, h11, h12, h13, h14, if_true, if_false]
  rfl
theorem hl_w5 {at0 : Int32} {v : MM} {g : GG} (hk : ∀ i, i < 15 → (lg_cmp (rw0 v g) (kW i) = 0 ↔ i = 5)) : Fx_M_hillLineX at0 v g = Fx_M_ofPond1X 5 0 999 10 (Fx_M_tokenX v g).1 (Fx_M_tokenX v g).2 := by
  have h0 : (lg_cmp (rw0 v g) (1886350948 : Int64) = 0) = False := eq_false (fun q => absurd ((hk 0 (by decide)).mp q) (by decide))
  have h1 : (lg_cmp (rw0 v g) (1685026670 : Int64) = 0) = False := eq_false (fun q => absurd ((hk 1 (by decide)).mp q) (by decide))
  have h2 : (lg_cmp (rw0 v g) (418548114533 : Int64) = 0) = False := eq_false (fun q => absurd ((hk 2 (by decide)).mp q) (by decide))
  have h3 : (lg_cmp (rw0 v g) (422607680115 : Int64) = 0) = False := eq_false (fun q => absurd ((hk 3 (by decide)).mp q) (by decide))
  have h4 : (lg_cmp (rw0 v g) (1735353715 : Int64) = 0) = False := eq_false (fun q => absurd ((hk 4 (by decide)).mp q) (by decide))
  have h5 : (lg_cmp (rw0 v g) (1751216749 : Int64) = 0) = True := eq_true ((hk 5 (by decide)).mpr rfl)
  have h6 : (lg_cmp (rw0 v g) (478745093490 : Int64) = 0) = False := eq_false (fun q => absurd ((hk 6 (by decide)).mp q) (by decide))
  have h7 : (lg_cmp (rw0 v g) (1919509349 : Int64) = 0) = False := eq_false (fun q => absurd ((hk 7 (by decide)).mp q) (by decide))
  have h8 : (lg_cmp (rw0 v g) (7823737 : Int64) = 0) = False := eq_false (fun q => absurd ((hk 8 (by decide)).mp q) (by decide))
  have h9 : (lg_cmp (rw0 v g) (1734440037 : Int64) = 0) = False := eq_false (fun q => absurd ((hk 9 (by decide)).mp q) (by decide))
  have h10 : (lg_cmp (rw0 v g) (1936287598 : Int64) = 0) = False := eq_false (fun q => absurd ((hk 10 (by decide)).mp q) (by decide))
  have h11 : (lg_cmp (rw0 v g) (1918986606 : Int64) = 0) = False := eq_false (fun q => absurd ((hk 11 (by decide)).mp q) (by decide))
  have h12 : (lg_cmp (rw0 v g) (1835363940 : Int64) = 0) = False := eq_false (fun q => absurd ((hk 12 (by decide)).mp q) (by decide))
  have h13 : (lg_cmp (rw0 v g) (2003395685 : Int64) = 0) = False := eq_false (fun q => absurd ((hk 13 (by decide)).mp q) (by decide))
  have h14 : (lg_cmp (rw0 v g) (491496238692 : Int64) = 0) = False := eq_false (fun q => absurd ((hk 14 (by decide)).mp q) (by decide))
  rw [hl_0]
  simp (config := { decide := true }) only [Fx_M_hillLineX_J16, Fx_M_hillLineX_J184, Fx_M_hillLineX_J184b, Fx_M_hillLineX_J184c, Fx_M_hillLineX_J184d, Fx_M_hillLineX_J328, h0, h1, h2, h3, h4, h5, h6, h7, h8, h9, h10, h11, h12, h13, h14, if_true, if_false]
  rfl
theorem hl_w6 {at0 : Int32} {v : MM} {g : GG} (hk : ∀ i, i < 15 → (lg_cmp (rw0 v g) (kW i) = 0 ↔ i = 6)) : Fx_M_hillLineX at0 v g = Fx_M_ofPond1X 6 0 3 10 (Fx_M_tokenX v g).1 (Fx_M_tokenX v g).2 := by
  have h0 : (lg_cmp (rw0 v g) (1886350948 : Int64) = 0) = False := eq_false (fun q => absurd ((hk 0 (by decide)).mp q) (by decide))
  have h1 : (lg_cmp (rw0 v g) (1685026670 : Int64) = 0) = False := eq_false (fun q => absurd ((hk 1 (by decide)).mp q) (by decide))
  have h2 : (lg_cmp (rw0 v g) (418548114533 : Int64) = 0) = False := eq_false (fun q => absurd ((hk 2 (by decide)).mp q) (by decide))
  have h3 : (lg_cmp (rw0 v g) (422607680115 : Int64) = 0) = False := eq_false (fun q => absurd ((hk 3 (by decide)).mp q) (by decide))
  have h4 : (lg_cmp (rw0 v g) (1735353715 : Int64) = 0) = False := eq_false (fun q => absurd ((hk 4 (by decide)).mp q) (by decide))
  have h5 : (lg_cmp (rw0 v g) (1751216749 : Int64) = 0) = False := eq_false (fun q => absurd ((hk 5 (by decide)).mp q) (by decide))
  have h6 : (lg_cmp (rw0 v g) (478745093490 : Int64) = 0) = True := eq_true ((hk 6 (by decide)).mpr rfl)
  have h7 : (lg_cmp (rw0 v g) (1919509349 : Int64) = 0) = False := eq_false (fun q => absurd ((hk 7 (by decide)).mp q) (by decide))
  have h8 : (lg_cmp (rw0 v g) (7823737 : Int64) = 0) = False := eq_false (fun q => absurd ((hk 8 (by decide)).mp q) (by decide))
  have h9 : (lg_cmp (rw0 v g) (1734440037 : Int64) = 0) = False := eq_false (fun q => absurd ((hk 9 (by decide)).mp q) (by decide))
  have h10 : (lg_cmp (rw0 v g) (1936287598 : Int64) = 0) = False := eq_false (fun q => absurd ((hk 10 (by decide)).mp q) (by decide))
  have h11 : (lg_cmp (rw0 v g) (1918986606 : Int64) = 0) = False := eq_false (fun q => absurd ((hk 11 (by decide)).mp q) (by decide))
  have h12 : (lg_cmp (rw0 v g) (1835363940 : Int64) = 0) = False := eq_false (fun q => absurd ((hk 12 (by decide)).mp q) (by decide))
  have h13 : (lg_cmp (rw0 v g) (2003395685 : Int64) = 0) = False := eq_false (fun q => absurd ((hk 13 (by decide)).mp q) (by decide))
  have h14 : (lg_cmp (rw0 v g) (491496238692 : Int64) = 0) = False := eq_false (fun q => absurd ((hk 14 (by decide)).mp q) (by decide))
  rw [hl_0]
  simp (config := { decide := true }) only [Fx_M_hillLineX_J16, Fx_M_hillLineX_J184, Fx_M_hillLineX_J184b, Fx_M_hillLineX_J184c, Fx_M_hillLineX_J184d, Fx_M_hillLineX_J328, h0, h1, h2, h3, h4, h5, h6, h7, h8, h9, h10, h11, h12, h13, h14, if_true, if_false]
  rfl
theorem hl_w7 {at0 : Int32} {v : MM} {g : GG} (hk : ∀ i, i < 15 → (lg_cmp (rw0 v g) (kW i) = 0 ↔ i = 7)) : Fx_M_hillLineX at0 v g = Fx_M_ofPond1X 7 0 99 10 (Fx_M_tokenX v g).1 (Fx_M_tokenX v g).2 := by
  have h0 : (lg_cmp (rw0 v g) (1886350948 : Int64) = 0) = False := eq_false (fun q => absurd ((hk 0 (by decide)).mp q) (by decide))
  have h1 : (lg_cmp (rw0 v g) (1685026670 : Int64) = 0) = False := eq_false (fun q => absurd ((hk 1 (by decide)).mp q) (by decide))
  have h2 : (lg_cmp (rw0 v g) (418548114533 : Int64) = 0) = False := eq_false (fun q => absurd ((hk 2 (by decide)).mp q) (by decide))
  have h3 : (lg_cmp (rw0 v g) (422607680115 : Int64) = 0) = False := eq_false (fun q => absurd ((hk 3 (by decide)).mp q) (by decide))
  have h4 : (lg_cmp (rw0 v g) (1735353715 : Int64) = 0) = False := eq_false (fun q => absurd ((hk 4 (by decide)).mp q) (by decide))
  have h5 : (lg_cmp (rw0 v g) (1751216749 : Int64) = 0) = False := eq_false (fun q => absurd ((hk 5 (by decide)).mp q) (by decide))
  have h6 : (lg_cmp (rw0 v g) (478745093490 : Int64) = 0) = False := eq_false (fun q => absurd ((hk 6 (by decide)).mp q) (by decide))
  have h7 : (lg_cmp (rw0 v g) (1919509349 : Int64) = 0) = True := eq_true ((hk 7 (by decide)).mpr rfl)
  have h8 : (lg_cmp (rw0 v g) (7823737 : Int64) = 0) = False := eq_false (fun q => absurd ((hk 8 (by decide)).mp q) (by decide))
  have h9 : (lg_cmp (rw0 v g) (1734440037 : Int64) = 0) = False := eq_false (fun q => absurd ((hk 9 (by decide)).mp q) (by decide))
  have h10 : (lg_cmp (rw0 v g) (1936287598 : Int64) = 0) = False := eq_false (fun q => absurd ((hk 10 (by decide)).mp q) (by decide))
  have h11 : (lg_cmp (rw0 v g) (1918986606 : Int64) = 0) = False := eq_false (fun q => absurd ((hk 11 (by decide)).mp q) (by decide))
  have h12 : (lg_cmp (rw0 v g) (1835363940 : Int64) = 0) = False := eq_false (fun q => absurd ((hk 12 (by decide)).mp q) (by decide))
  have h13 : (lg_cmp (rw0 v g) (2003395685 : Int64) = 0) = False := eq_false (fun q => absurd ((hk 13 (by decide)).mp q) (by decide))
  have h14 : (lg_cmp (rw0 v g) (491496238692 : Int64) = 0) = False := eq_false (fun q => absurd ((hk 14 (by decide)).mp q) (by decide))
  rw [hl_0]
  simp (config := { decide := true }) only [Fx_M_hillLineX_J16, Fx_M_hillLineX_J184, Fx_M_hillLineX_J184b, Fx_M_hillLineX_J184c, Fx_M_hillLineX_J184d, Fx_M_hillLineX_J328, h0, h1, h2, h3, h4, h5, h6, h7, h8, h9, h10, h11, h12, h13, h14, if_true, if_false]
  rfl
theorem hl_w8 {at0 : Int32} {v : MM} {g : GG} (hk : ∀ i, i < 15 → (lg_cmp (rw0 v g) (kW i) = 0 ↔ i = 8)) : Fx_M_hillLineX at0 v g = Fx_M_ofPond1X 11 0 99 10 (Fx_M_tokenX v g).1 (Fx_M_tokenX v g).2 := by
  have h0 : (lg_cmp (rw0 v g) (1886350948 : Int64) = 0) = False := eq_false (fun q => absurd ((hk 0 (by decide)).mp q) (by decide))
  have h1 : (lg_cmp (rw0 v g) (1685026670 : Int64) = 0) = False := eq_false (fun q => absurd ((hk 1 (by decide)).mp q) (by decide))
  have h2 : (lg_cmp (rw0 v g) (418548114533 : Int64) = 0) = False := eq_false (fun q => absurd ((hk 2 (by decide)).mp q) (by decide))
  have h3 : (lg_cmp (rw0 v g) (422607680115 : Int64) = 0) = False := eq_false (fun q => absurd ((hk 3 (by decide)).mp q) (by decide))
  have h4 : (lg_cmp (rw0 v g) (1735353715 : Int64) = 0) = False := eq_false (fun q => absurd ((hk 4 (by decide)).mp q) (by decide))
  have h5 : (lg_cmp (rw0 v g) (1751216749 : Int64) = 0) = False := eq_false (fun q => absurd ((hk 5 (by decide)).mp q) (by decide))
  have h6 : (lg_cmp (rw0 v g) (478745093490 : Int64) = 0) = False := eq_false (fun q => absurd ((hk 6 (by decide)).mp q) (by decide))
  have h7 : (lg_cmp (rw0 v g) (1919509349 : Int64) = 0) = False := eq_false (fun q => absurd ((hk 7 (by decide)).mp q) (by decide))
  have h8 : (lg_cmp (rw0 v g) (7823737 : Int64) = 0) = True := eq_true ((hk 8 (by decide)).mpr rfl)
  have h9 : (lg_cmp (rw0 v g) (1734440037 : Int64) = 0) = False := eq_false (fun q => absurd ((hk 9 (by decide)).mp q) (by decide))
  have h10 : (lg_cmp (rw0 v g) (1936287598 : Int64) = 0) = False := eq_false (fun q => absurd ((hk 10 (by decide)).mp q) (by decide))
  have h11 : (lg_cmp (rw0 v g) (1918986606 : Int64) = 0) = False := eq_false (fun q => absurd ((hk 11 (by decide)).mp q) (by decide))
  have h12 : (lg_cmp (rw0 v g) (1835363940 : Int64) = 0) = False := eq_false (fun q => absurd ((hk 12 (by decide)).mp q) (by decide))
  have h13 : (lg_cmp (rw0 v g) (2003395685 : Int64) = 0) = False := eq_false (fun q => absurd ((hk 13 (by decide)).mp q) (by decide))
  have h14 : (lg_cmp (rw0 v g) (491496238692 : Int64) = 0) = False := eq_false (fun q => absurd ((hk 14 (by decide)).mp q) (by decide))
  rw [hl_0]
  simp (config := { decide := true }) only [Fx_M_hillLineX_J16, Fx_M_hillLineX_J184, Fx_M_hillLineX_J184b, Fx_M_hillLineX_J184c, Fx_M_hillLineX_J184d, Fx_M_hillLineX_J328, h0, h1, h2, h3, h4, h5, h6, h7, h8, h9, h10, h11, h12, h13, h14, if_true, if_false]
  rfl
theorem hl_w9 {at0 : Int32} {v : MM} {g : GG} (hk : ∀ i, i < 15 → (lg_cmp (rw0 v g) (kW i) = 0 ↔ i = 9)) : Fx_M_hillLineX at0 v g = Fx_M_ofPond1X 12 0 99 10 (Fx_M_tokenX v g).1 (Fx_M_tokenX v g).2 := by
  have h0 : (lg_cmp (rw0 v g) (1886350948 : Int64) = 0) = False := eq_false (fun q => absurd ((hk 0 (by decide)).mp q) (by decide))
  have h1 : (lg_cmp (rw0 v g) (1685026670 : Int64) = 0) = False := eq_false (fun q => absurd ((hk 1 (by decide)).mp q) (by decide))
  have h2 : (lg_cmp (rw0 v g) (418548114533 : Int64) = 0) = False := eq_false (fun q => absurd ((hk 2 (by decide)).mp q) (by decide))
  have h3 : (lg_cmp (rw0 v g) (422607680115 : Int64) = 0) = False := eq_false (fun q => absurd ((hk 3 (by decide)).mp q) (by decide))
  have h4 : (lg_cmp (rw0 v g) (1735353715 : Int64) = 0) = False := eq_false (fun q => absurd ((hk 4 (by decide)).mp q) (by decide))
  have h5 : (lg_cmp (rw0 v g) (1751216749 : Int64) = 0) = False := eq_false (fun q => absurd ((hk 5 (by decide)).mp q) (by decide))
  have h6 : (lg_cmp (rw0 v g) (478745093490 : Int64) = 0) = False := eq_false (fun q => absurd ((hk 6 (by decide)).mp q) (by decide))
  have h7 : (lg_cmp (rw0 v g) (1919509349 : Int64) = 0) = False := eq_false (fun q => absurd ((hk 7 (by decide)).mp q) (by decide))
  have h8 : (lg_cmp (rw0 v g) (7823737 : Int64) = 0) = False := eq_false (fun q => absurd ((hk 8 (by decide)).mp q) (by decide))
  have h9 : (lg_cmp (rw0 v g) (1734440037 : Int64) = 0) = True := eq_true ((hk 9 (by decide)).mpr rfl)
  have h10 : (lg_cmp (rw0 v g) (1936287598 : Int64) = 0) = False := eq_false (fun q => absurd ((hk 10 (by decide)).mp q) (by decide))
  have h11 : (lg_cmp (rw0 v g) (1918986606 : Int64) = 0) = False := eq_false (fun q => absurd ((hk 11 (by decide)).mp q) (by decide))
  have h12 : (lg_cmp (rw0 v g) (1835363940 : Int64) = 0) = False := eq_false (fun q => absurd ((hk 12 (by decide)).mp q) (by decide))
  have h13 : (lg_cmp (rw0 v g) (2003395685 : Int64) = 0) = False := eq_false (fun q => absurd ((hk 13 (by decide)).mp q) (by decide))
  have h14 : (lg_cmp (rw0 v g) (491496238692 : Int64) = 0) = False := eq_false (fun q => absurd ((hk 14 (by decide)).mp q) (by decide))
  rw [hl_0]
  simp (config := { decide := true }) only [Fx_M_hillLineX_J16, Fx_M_hillLineX_J184, Fx_M_hillLineX_J184b, Fx_M_hillLineX_J184c, Fx_M_hillLineX_J184d, Fx_M_hillLineX_J328, h0, h1, h2, h3, h4, h5, h6, h7, h8, h9, h10, h11, h12, h13, h14, if_true, if_false]
  rfl
theorem hl_w10 {at0 : Int32} {v : MM} {g : GG} (hk : ∀ i, i < 15 → (lg_cmp (rw0 v g) (kW i) = 0 ↔ i = 10)) : Fx_M_hillLineX at0 v g = Fx_M_ofPond2X 13 0 10 10 (Fx_M_tokenX v g).1 (Fx_M_tokenX v g).2 := by
  have h0 : (lg_cmp (rw0 v g) (1886350948 : Int64) = 0) = False := eq_false (fun q => absurd ((hk 0 (by decide)).mp q) (by decide))
  have h1 : (lg_cmp (rw0 v g) (1685026670 : Int64) = 0) = False := eq_false (fun q => absurd ((hk 1 (by decide)).mp q) (by decide))
  have h2 : (lg_cmp (rw0 v g) (418548114533 : Int64) = 0) = False := eq_false (fun q => absurd ((hk 2 (by decide)).mp q) (by decide))
  have h3 : (lg_cmp (rw0 v g) (422607680115 : Int64) = 0) = False := eq_false (fun q => absurd ((hk 3 (by decide)).mp q) (by decide))
  have h4 : (lg_cmp (rw0 v g) (1735353715 : Int64) = 0) = False := eq_false (fun q => absurd ((hk 4 (by decide)).mp q) (by decide))
  have h5 : (lg_cmp (rw0 v g) (1751216749 : Int64) = 0) = False := eq_false (fun q => absurd ((hk 5 (by decide)).mp q) (by decide))
  have h6 : (lg_cmp (rw0 v g) (478745093490 : Int64) = 0) = False := eq_false (fun q => absurd ((hk 6 (by decide)).mp q) (by decide))
  have h7 : (lg_cmp (rw0 v g) (1919509349 : Int64) = 0) = False := eq_false (fun q => absurd ((hk 7 (by decide)).mp q) (by decide))
  have h8 : (lg_cmp (rw0 v g) (7823737 : Int64) = 0) = False := eq_false (fun q => absurd ((hk 8 (by decide)).mp q) (by decide))
  have h9 : (lg_cmp (rw0 v g) (1734440037 : Int64) = 0) = False := eq_false (fun q => absurd ((hk 9 (by decide)).mp q) (by decide))
  have h10 : (lg_cmp (rw0 v g) (1936287598 : Int64) = 0) = True := eq_true ((hk 10 (by decide)).mpr rfl)
  have h11 : (lg_cmp (rw0 v g) (1918986606 : Int64) = 0) = False := eq_false (fun q => absurd ((hk 11 (by decide)).mp q) (by decide))
  have h12 : (lg_cmp (rw0 v g) (1835363940 : Int64) = 0) = False := eq_false (fun q => absurd ((hk 12 (by decide)).mp q) (by decide))
  have h13 : (lg_cmp (rw0 v g) (2003395685 : Int64) = 0) = False := eq_false (fun q => absurd ((hk 13 (by decide)).mp q) (by decide))
  have h14 : (lg_cmp (rw0 v g) (491496238692 : Int64) = 0) = False := eq_false (fun q => absurd ((hk 14 (by decide)).mp q) (by decide))
  rw [hl_0]
  simp (config := { decide := true }) only [Fx_M_hillLineX_J16, Fx_M_hillLineX_J184, Fx_M_hillLineX_J184b, Fx_M_hillLineX_J184c, Fx_M_hillLineX_J184d, Fx_M_hillLineX_J328, h0, h1, h2, h3, h4, h5, h6, h7, h8, h9, h10, h11, h12, h13, h14, if_true, if_false]
  rfl
theorem hl_w11 {at0 : Int32} {v : MM} {g : GG} (hk : ∀ i, i < 15 → (lg_cmp (rw0 v g) (kW i) = 0 ↔ i = 11)) : Fx_M_hillLineX at0 v g = Fx_M_rainLineX at0 (Fx_M_tokenX v g).1 (Fx_M_tokenX v g).2 := by
  have h0 : (lg_cmp (rw0 v g) (1886350948 : Int64) = 0) = False := eq_false (fun q => absurd ((hk 0 (by decide)).mp q) (by decide))
  have h1 : (lg_cmp (rw0 v g) (1685026670 : Int64) = 0) = False := eq_false (fun q => absurd ((hk 1 (by decide)).mp q) (by decide))
  have h2 : (lg_cmp (rw0 v g) (418548114533 : Int64) = 0) = False := eq_false (fun q => absurd ((hk 2 (by decide)).mp q) (by decide))
  have h3 : (lg_cmp (rw0 v g) (422607680115 : Int64) = 0) = False := eq_false (fun q => absurd ((hk 3 (by decide)).mp q) (by decide))
  have h4 : (lg_cmp (rw0 v g) (1735353715 : Int64) = 0) = False := eq_false (fun q => absurd ((hk 4 (by decide)).mp q) (by decide))
  have h5 : (lg_cmp (rw0 v g) (1751216749 : Int64) = 0) = False := eq_false (fun q => absurd ((hk 5 (by decide)).mp q) (by decide))
  have h6 : (lg_cmp (rw0 v g) (478745093490 : Int64) = 0) = False := eq_false (fun q => absurd ((hk 6 (by decide)).mp q) (by decide))
  have h7 : (lg_cmp (rw0 v g) (1919509349 : Int64) = 0) = False := eq_false (fun q => absurd ((hk 7 (by decide)).mp q) (by decide))
  have h8 : (lg_cmp (rw0 v g) (7823737 : Int64) = 0) = False := eq_false (fun q => absurd ((hk 8 (by decide)).mp q) (by decide))
  have h9 : (lg_cmp (rw0 v g) (1734440037 : Int64) = 0) = False := eq_false (fun q => absurd ((hk 9 (by decide)).mp q) (by decide))
  have h10 : (lg_cmp (rw0 v g) (1936287598 : Int64) = 0) = False := eq_false (fun q => absurd ((hk 10 (by decide)).mp q) (by decide))
  have h11 : (lg_cmp (rw0 v g) (1918986606 : Int64) = 0) = True := eq_true ((hk 11 (by decide)).mpr rfl)
  have h12 : (lg_cmp (rw0 v g) (1835363940 : Int64) = 0) = False := eq_false (fun q => absurd ((hk 12 (by decide)).mp q) (by decide))
  have h13 : (lg_cmp (rw0 v g) (2003395685 : Int64) = 0) = False := eq_false (fun q => absurd ((hk 13 (by decide)).mp q) (by decide))
  have h14 : (lg_cmp (rw0 v g) (491496238692 : Int64) = 0) = False := eq_false (fun q => absurd ((hk 14 (by decide)).mp q) (by decide))
  rw [hl_0]
  simp (config := { decide := true }) only [Fx_M_hillLineX_J16, Fx_M_hillLineX_J184, Fx_M_hillLineX_J184b, Fx_M_hillLineX_J184c, Fx_M_hillLineX_J184d, Fx_M_hillLineX_J328, h0, h1, h2, h3, h4, h5, h6, h7, h8, h9, h10, h11, h12, h13, h14, if_true, if_false]
  rfl
theorem hl_w12 {at0 : Int32} {v : MM} {g : GG} (hk : ∀ i, i < 15 → (lg_cmp (rw0 v g) (kW i) = 0 ↔ i = 12)) : Fx_M_hillLineX at0 v g = Fx_M_daysLineX 2 (Fx_M_tokenX v g).1 (Fx_M_tokenX v g).2 := by
  have h0 : (lg_cmp (rw0 v g) (1886350948 : Int64) = 0) = False := eq_false (fun q => absurd ((hk 0 (by decide)).mp q) (by decide))
  have h1 : (lg_cmp (rw0 v g) (1685026670 : Int64) = 0) = False := eq_false (fun q => absurd ((hk 1 (by decide)).mp q) (by decide))
  have h2 : (lg_cmp (rw0 v g) (418548114533 : Int64) = 0) = False := eq_false (fun q => absurd ((hk 2 (by decide)).mp q) (by decide))
  have h3 : (lg_cmp (rw0 v g) (422607680115 : Int64) = 0) = False := eq_false (fun q => absurd ((hk 3 (by decide)).mp q) (by decide))
  have h4 : (lg_cmp (rw0 v g) (1735353715 : Int64) = 0) = False := eq_false (fun q => absurd ((hk 4 (by decide)).mp q) (by decide))
  have h5 : (lg_cmp (rw0 v g) (1751216749 : Int64) = 0) = False := eq_false (fun q => absurd ((hk 5 (by decide)).mp q) (by decide))
  have h6 : (lg_cmp (rw0 v g) (478745093490 : Int64) = 0) = False := eq_false (fun q => absurd ((hk 6 (by decide)).mp q) (by decide))
  have h7 : (lg_cmp (rw0 v g) (1919509349 : Int64) = 0) = False := eq_false (fun q => absurd ((hk 7 (by decide)).mp q) (by decide))
  have h8 : (lg_cmp (rw0 v g) (7823737 : Int64) = 0) = False := eq_false (fun q => absurd ((hk 8 (by decide)).mp q) (by decide))
  have h9 : (lg_cmp (rw0 v g) (1734440037 : Int64) = 0) = False := eq_false (fun q => absurd ((hk 9 (by decide)).mp q) (by decide))
  have h10 : (lg_cmp (rw0 v g) (1936287598 : Int64) = 0) = False := eq_false (fun q => absurd ((hk 10 (by decide)).mp q) (by decide))
  have h11 : (lg_cmp (rw0 v g) (1918986606 : Int64) = 0) = False := eq_false (fun q => absurd ((hk 11 (by decide)).mp q) (by decide))
  have h12 : (lg_cmp (rw0 v g) (1835363940 : Int64) = 0) = True := eq_true ((hk 12 (by decide)).mpr rfl)
  have h13 : (lg_cmp (rw0 v g) (2003395685 : Int64) = 0) = False := eq_false (fun q => absurd ((hk 13 (by decide)).mp q) (by decide))
  have h14 : (lg_cmp (rw0 v g) (491496238692 : Int64) = 0) = False := eq_false (fun q => absurd ((hk 14 (by decide)).mp q) (by decide))
  rw [hl_0]
  simp (config := { decide := true }) only [Fx_M_hillLineX_J16, Fx_M_hillLineX_J184, Fx_M_hillLineX_J184b, Fx_M_hillLineX_J184c, Fx_M_hillLineX_J184d, Fx_M_hillLineX_J328, h0, h1, h2, h3, h4, h5, h6, h7, h8, h9, h10, h11, h12, h13, h14, if_true, if_false]
  rfl
theorem hl_w13 {at0 : Int32} {v : MM} {g : GG} (hk : ∀ i, i < 15 → (lg_cmp (rw0 v g) (kW i) = 0 ↔ i = 13)) : Fx_M_hillLineX at0 v g = Fx_M_daysLineX 3 (Fx_M_tokenX v g).1 (Fx_M_tokenX v g).2 := by
  have h0 : (lg_cmp (rw0 v g) (1886350948 : Int64) = 0) = False := eq_false (fun q => absurd ((hk 0 (by decide)).mp q) (by decide))
  have h1 : (lg_cmp (rw0 v g) (1685026670 : Int64) = 0) = False := eq_false (fun q => absurd ((hk 1 (by decide)).mp q) (by decide))
  have h2 : (lg_cmp (rw0 v g) (418548114533 : Int64) = 0) = False := eq_false (fun q => absurd ((hk 2 (by decide)).mp q) (by decide))
  have h3 : (lg_cmp (rw0 v g) (422607680115 : Int64) = 0) = False := eq_false (fun q => absurd ((hk 3 (by decide)).mp q) (by decide))
  have h4 : (lg_cmp (rw0 v g) (1735353715 : Int64) = 0) = False := eq_false (fun q => absurd ((hk 4 (by decide)).mp q) (by decide))
  have h5 : (lg_cmp (rw0 v g) (1751216749 : Int64) = 0) = False := eq_false (fun q => absurd ((hk 5 (by decide)).mp q) (by decide))
  have h6 : (lg_cmp (rw0 v g) (478745093490 : Int64) = 0) = False := eq_false (fun q => absurd ((hk 6 (by decide)).mp q) (by decide))
  have h7 : (lg_cmp (rw0 v g) (1919509349 : Int64) = 0) = False := eq_false (fun q => absurd ((hk 7 (by decide)).mp q) (by decide))
  have h8 : (lg_cmp (rw0 v g) (7823737 : Int64) = 0) = False := eq_false (fun q => absurd ((hk 8 (by decide)).mp q) (by decide))
  have h9 : (lg_cmp (rw0 v g) (1734440037 : Int64) = 0) = False := eq_false (fun q => absurd ((hk 9 (by decide)).mp q) (by decide))
  have h10 : (lg_cmp (rw0 v g) (1936287598 : Int64) = 0) = False := eq_false (fun q => absurd ((hk 10 (by decide)).mp q) (by decide))
  have h11 : (lg_cmp (rw0 v g) (1918986606 : Int64) = 0) = False := eq_false (fun q => absurd ((hk 11 (by decide)).mp q) (by decide))
  have h12 : (lg_cmp (rw0 v g) (1835363940 : Int64) = 0) = False := eq_false (fun q => absurd ((hk 12 (by decide)).mp q) (by decide))
  have h13 : (lg_cmp (rw0 v g) (2003395685 : Int64) = 0) = True := eq_true ((hk 13 (by decide)).mpr rfl)
  have h14 : (lg_cmp (rw0 v g) (491496238692 : Int64) = 0) = False := eq_false (fun q => absurd ((hk 14 (by decide)).mp q) (by decide))
  rw [hl_0]
  simp (config := { decide := true }) only [Fx_M_hillLineX_J16, Fx_M_hillLineX_J184, Fx_M_hillLineX_J184b, Fx_M_hillLineX_J184c, Fx_M_hillLineX_J184d, Fx_M_hillLineX_J328, h0, h1, h2, h3, h4, h5, h6, h7, h8, h9, h10, h11, h12, h13, h14, if_true, if_false]
  rfl
theorem hl_w14 {at0 : Int32} {v : MM} {g : GG} (hk : ∀ i, i < 15 → (lg_cmp (rw0 v g) (kW i) = 0 ↔ i = 14)) : Fx_M_hillLineX at0 v g = Fx_M_daysLineX 4 (Fx_M_tokenX v g).1 (Fx_M_tokenX v g).2 := by
  have h0 : (lg_cmp (rw0 v g) (1886350948 : Int64) = 0) = False := eq_false (fun q => absurd ((hk 0 (by decide)).mp q) (by decide))
  have h1 : (lg_cmp (rw0 v g) (1685026670 : Int64) = 0) = False := eq_false (fun q => absurd ((hk 1 (by decide)).mp q) (by decide))
  have h2 : (lg_cmp (rw0 v g) (418548114533 : Int64) = 0) = False := eq_false (fun q => absurd ((hk 2 (by decide)).mp q) (by decide))
  have h3 : (lg_cmp (rw0 v g) (422607680115 : Int64) = 0) = False := eq_false (fun q => absurd ((hk 3 (by decide)).mp q) (by decide))
  have h4 : (lg_cmp (rw0 v g) (1735353715 : Int64) = 0) = False := eq_false (fun q => absurd ((hk 4 (by decide)).mp q) (by decide))
  have h5 : (lg_cmp (rw0 v g) (1751216749 : Int64) = 0) = False := eq_false (fun q => absurd ((hk 5 (by decide)).mp q) (by decide))
  have h6 : (lg_cmp (rw0 v g) (478745093490 : Int64) = 0) = False := eq_false (fun q => absurd ((hk 6 (by decide)).mp q) (by decide))
  have h7 : (lg_cmp (rw0 v g) (1919509349 : Int64) = 0) = False := eq_false (fun q => absurd ((hk 7 (by decide)).mp q) (by decide))
  have h8 : (lg_cmp (rw0 v g) (7823737 : Int64) = 0) = False := eq_false (fun q => absurd ((hk 8 (by decide)).mp q) (by decide))
  have h9 : (lg_cmp (rw0 v g) (1734440037 : Int64) = 0) = False := eq_false (fun q => absurd ((hk 9 (by decide)).mp q) (by decide))
  have h10 : (lg_cmp (rw0 v g) (1936287598 : Int64) = 0) = False := eq_false (fun q => absurd ((hk 10 (by decide)).mp q) (by decide))
  have h11 : (lg_cmp (rw0 v g) (1918986606 : Int64) = 0) = False := eq_false (fun q => absurd ((hk 11 (by decide)).mp q) (by decide))
  have h12 : (lg_cmp (rw0 v g) (1835363940 : Int64) = 0) = False := eq_false (fun q => absurd ((hk 12 (by decide)).mp q) (by decide))
  have h13 : (lg_cmp (rw0 v g) (2003395685 : Int64) = 0) = False := eq_false (fun q => absurd ((hk 13 (by decide)).mp q) (by decide))
  have h14 : (lg_cmp (rw0 v g) (491496238692 : Int64) = 0) = True := eq_true ((hk 14 (by decide)).mpr rfl)
  rw [hl_0]
  simp (config := { decide := true }) only [Fx_M_hillLineX_J16, Fx_M_hillLineX_J184, Fx_M_hillLineX_J184b, Fx_M_hillLineX_J184c, Fx_M_hillLineX_J184d, Fx_M_hillLineX_J328, h0, h1, h2, h3, h4, h5, h6, h7, h8, h9, h10, h11, h12, h13, h14, if_true, if_false]
  rfl
theorem hl_wn {at0 : Int32} {v : MM} {g : GG} (hk : ∀ i, i < 15 → ¬ lg_cmp (rw0 v g) (kW i) = 0) : Fx_M_hillLineX at0 v g = (false, ms v 162 14 (v 162 10), g) := by
  have h0 : (lg_cmp (rw0 v g) (1886350948 : Int64) = 0) = False := eq_false (hk 0 (by decide))
  have h1 : (lg_cmp (rw0 v g) (1685026670 : Int64) = 0) = False := eq_false (hk 1 (by decide))
  have h2 : (lg_cmp (rw0 v g) (418548114533 : Int64) = 0) = False := eq_false (hk 2 (by decide))
  have h3 : (lg_cmp (rw0 v g) (422607680115 : Int64) = 0) = False := eq_false (hk 3 (by decide))
  have h4 : (lg_cmp (rw0 v g) (1735353715 : Int64) = 0) = False := eq_false (hk 4 (by decide))
  have h5 : (lg_cmp (rw0 v g) (1751216749 : Int64) = 0) = False := eq_false (hk 5 (by decide))
  have h6 : (lg_cmp (rw0 v g) (478745093490 : Int64) = 0) = False := eq_false (hk 6 (by decide))
  have h7 : (lg_cmp (rw0 v g) (1919509349 : Int64) = 0) = False := eq_false (hk 7 (by decide))
  have h8 : (lg_cmp (rw0 v g) (7823737 : Int64) = 0) = False := eq_false (hk 8 (by decide))
  have h9 : (lg_cmp (rw0 v g) (1734440037 : Int64) = 0) = False := eq_false (hk 9 (by decide))
  have h10 : (lg_cmp (rw0 v g) (1936287598 : Int64) = 0) = False := eq_false (hk 10 (by decide))
  have h11 : (lg_cmp (rw0 v g) (1918986606 : Int64) = 0) = False := eq_false (hk 11 (by decide))
  have h12 : (lg_cmp (rw0 v g) (1835363940 : Int64) = 0) = False := eq_false (hk 12 (by decide))
  have h13 : (lg_cmp (rw0 v g) (2003395685 : Int64) = 0) = False := eq_false (hk 13 (by decide))
  have h14 : (lg_cmp (rw0 v g) (491496238692 : Int64) = 0) = False := eq_false (hk 14 (by decide))
  rw [hl_0]
  simp (config := { decide := true }) only [Fx_M_hillLineX_J16, Fx_M_hillLineX_J184, Fx_M_hillLineX_J184b, Fx_M_hillLineX_J184c, Fx_M_hillLineX_J184d, Fx_M_hillLineX_J328, h0, h1, h2, h3, h4, h5, h6, h7, h8, h9, h10, h11, h12, h13, h14, if_true, if_false]
  rfl
end
section
/-! a line of a hill, as the reference reads it -/
theorem of1_e8 {v : MM} {g : GG} {n low high second : Int32} (h : v 170 0 = n) : Fx_M_ofPond1X 8 low high second v g = two 0 (n - 1) (fun z => z + 1) (fun _ => n - 1) (K1 8) v g := by
  unfold Fx_M_ofPond1X
  rw [h]
  simp (config := { decide := true }) only [if_true]
  rfl
theorem of1_en {v : MM} {g : GG} {n to low high second : Int32} (h : v 170 0 = n) (h8 : ¬ to = 8) (h9 : ¬ to = 9) : Fx_M_ofPond1X to low high second v g = two 0 (n - 1) (fun _ => low) (fun _ => high) (K1 to) v g := by
  unfold Fx_M_ofPond1X
  rw [h]
  simp only [h8, h9, if_false]
  rfl
theorem of2_e9 {v : MM} {g : GG} {n low high second : Int32} (h : v 170 0 = n) : Fx_M_ofPond2X 9 low high second v g = two 0 (n - 1) (fun z => z + 1) (fun _ => n - 1) (K2 0 second (K3p 9)) v g := by
  unfold Fx_M_ofPond2X
  rw [h]
  simp (config := { decide := true }) only [if_true, if_false]
  rfl
theorem of2_en {v : MM} {g : GG} {n to low high second : Int32} (h : v 170 0 = n) (h8 : ¬ to = 8) (h9 : ¬ to = 9) : Fx_M_ofPond2X to low high second v g = two 0 (n - 1) (fun _ => low) (fun _ => high) (K2 0 second (K3p to)) v g := by
  unfold Fx_M_ofPond2X
  rw [h]
  simp only [h8, h9, if_false]
  rfl
def gdH (w : Nat) (n v0 v1 v2 : Int32) : Bool := if w = 2 ∨ w = 10 then (chk w 0 n v0 v0 && (chk w 1 n v0 v1 && chk w 2 n v0 v2)) else (chk w 0 n v0 v0 && chk w 1 n v0 v1)
/-- what a hill's line w, its word at a, does to what is remembered and to the row -/
def lnP (w : Nat) (f : Nat → Int32) (L a : Nat) (R : Nat → Int32) (P : Int32 × Int32) : Int32 × Int32 := fo (fun j x => chk w j (R 0) (vv f L (tN f L a) 0) x) (vv f L (tN f L a)) (pp f L (tN f L a)) (cnt w) 0 (rmb (!fl w (R 0) (R 1)) 3 (iN (tS f L a)) P)
def lnR (w : Nat) (f : Nat → Int32) (L a : Nat) (R : Nat → Int32) : Nat → Int32 := rowH w R (vv f L (tN f L a) 0) (vv f L (tN f L a) 1) (vv f L (tN f L a) 2) (gdH w (R 0) (vv f L (tN f L a) 0) (vv f L (tN f L a) 1) (vv f L (tN f L a) 2))
theorem fl_n {w : Nat} {n r : Int32} (h0 : w ≠ 0) (h1 : w ≠ 11) : fl w n r = false := decide_eq_false (fun z => by
  rcases z with z | z
  · exact h0 z.1
  · exact h1 z.1)
theorem iN_m1 {j : Nat} (h : j ≤ 100000) : ¬ iN j = -1 := by
  intro q
  have h1 := congrArg Int32.toInt q
  rw [iN_ti h] at h1
  have e : (-1 : Int32).toInt = -1 := rfl
  omega
theorem hl_X {v : MM} {g : GG} {f : Nat → Int32} {L a : Nat} {P : Int32 × Int32} {R : Nat → Int32} (hb : L ≤ 600) (hf : ∀ j, j < L → Bd (-128) 127 (f j)) (ha : a ≤ L) (h : RSv v g f L a P R) (o : OR P (tS f L a)) (hg : v 162 18 = 1) (b0 : Bd 0 9 (R 0)) (b1 : Bd 0 4 (R 1)) :
    (hX f L a = -1 → Fx_M_hillLineX (iN (tS f L a)) v g = (false, ms v 162 14 (iN (tS f L a)), g)) ∧ ∀ w, w < 15 → hX f L a = iN w → OUT (Fx_M_hillLineX (iN (tS f L a)) v g) f L (cnt w) (tN f L a) (lnP w f L a R P) (lnR w f L a R) := by
  have hT := h.2.2.1
  refine ⟨fun q => ?_, fun w hw q => ?_⟩
  · rcases hX_c (f := f) (L := L) (a := a) with ⟨_, h2⟩ | ⟨j, h1, h2, _⟩
    · rw [hl_wn (fun i hi z => h2 i hi ((rw_i (by omega) hT).mp z)), hT.2.1]
    · exact absurd (h2.symm.trans q) (iN_m1 (by omega))
  · have hwk : wk f (tS f L a) (tN f L a) (tK f L a) w = true := by
      rcases hX_c (f := f) (L := L) (a := a) with ⟨h1, _⟩ | ⟨j, h1, h2, h3⟩
      · exact absurd (q.symm.trans h1) (iN_m1 (by omega))
      · rw [← (iN_eq (by omega) (by omega)).mp (h2.symm.trans q)]
        exact h3
    have hk : ∀ i, i < 15 → (lg_cmp (rw0 v g) (kW i) = 0 ↔ i = w) := by
      intro i hi
      rw [rw_i (by omega) hT]
      refine ⟨fun z => ?_, fun z => by rw [z]; exact hwk⟩
      exact wm_u (by omega) (by omega) ((Bool.and_eq_true _ _).mp z).2 ((Bool.and_eq_true _ _).mp hwk).2
    have hK : tK f L a = 1 := of_decide_eq_true ((Bool.and_eq_true _ _).mp hwk).1
    obtain ⟨m1, m2⟩ := rs_t (y := v) (Q := P) hb hf ha h rfl rfl rfl rfl h.2.2.2.1
    have hg2 : (Fx_M_tokenX v g).1 162 18 = 1 := (m2.2 18 (by decide) (by decide) (by decide) (by decide)).trans hg
    have hlt := tN_lt (f := f) (L := L) (a := a) (by rw [hK]; decide)
    have hle := tS_le (f := f) (L := L) (tN f L a)
    have hin := tS_in (f := f) (tN_in (f := f) ha)
    have o2 : OR P (tS f L (tN f L a)) := or_w o (by omega) (by omega)
    have e170 : (Fx_M_tokenX v g).1 170 0 = R 0 := by rw [m1.2.2.2.2]
    unfold lnP lnR
    rcases (show w = 0 ∨ w = 1 ∨ w = 2 ∨ w = 3 ∨ w = 4 ∨ w = 5 ∨ w = 6 ∨ w = 7 ∨ w = 8 ∨ w = 9 ∨ w = 10 ∨ w = 11 ∨ w = 12 ∨ w = 13 ∨ w = 14 by omega) with z | z | z | z | z | z | z | z | z | z | z | z | z | z | z
    · subst z
      rw [hl_w0 hk]
      exact pond_X hb hf (tN_in ha) m1 b0 o (by omega)
    · subst z
      rw [hl_w1 hk]
      rw [fl_n (w := 1) (by decide) (by decide), rmb_t (b := !false) (by decide)]
      exact of1_X (w := 1) hb hf (tN_in ha) m1 o2 b0 hg2 (by decide) (by decide) (by decide) (of1_e8 e170) (fun v0 v1 q0 q1 => ck_pd (by decide) (by decide) b0 q0 q1)
    · subst z
      rw [hl_w2 hk]
      rw [fl_n (w := 2) (by decide) (by decide), rmb_t (b := !false) (by decide)]
      exact of2_X (w := 2) hb hf (tN_in ha) m1 o2 b0 hg2 (Or.inl rfl) (of2_e9 e170) (fun v0 v1 q0 q1 => ck_pd (by decide) (by decide) b0 q0 q1)
    · subst z
      rw [hl_w3 hk]
      rw [fl_n (w := 3) (by decide) (by decide), rmb_t (b := !false) (by decide)]
      exact of1_X (w := 3) hb hf (tN_in ha) m1 o2 b0 hg2 (by decide) (by decide) (by decide) (of1_en e170 (by decide) (by decide)) (fun v0 v1 _ q1 => ck_pn (h := 24) (by decide) (by decide) (by decide) q1)
    · subst z
      rw [hl_w4 hk]
      rw [fl_n (w := 4) (by decide) (by decide), rmb_t (b := !false) (by decide)]
      exact of1_X (w := 4) hb hf (tN_in ha) m1 o2 b0 hg2 (by decide) (by decide) (by decide) (of1_en e170 (by decide) (by decide)) (fun v0 v1 _ q1 => ck_pn (h := 10) (by decide) (by decide) (by decide) q1)
    · subst z
      rw [hl_w5 hk]
      rw [fl_n (w := 5) (by decide) (by decide), rmb_t (b := !false) (by decide)]
      exact of1_X (w := 5) hb hf (tN_in ha) m1 o2 b0 hg2 (by decide) (by decide) (by decide) (of1_en e170 (by decide) (by decide)) (fun v0 v1 _ q1 => ck_pn (h := 999) (by decide) (by decide) (by decide) q1)
    · subst z
      rw [hl_w6 hk]
      rw [fl_n (w := 6) (by decide) (by decide), rmb_t (b := !false) (by decide)]
      exact of1_X (w := 6) hb hf (tN_in ha) m1 o2 b0 hg2 (by decide) (by decide) (by decide) (of1_en e170 (by decide) (by decide)) (fun v0 v1 _ q1 => ck_pn (h := 3) (by decide) (by decide) (by decide) q1)
    · subst z
      rw [hl_w7 hk]
      rw [fl_n (w := 7) (by decide) (by decide), rmb_t (b := !false) (by decide)]
      exact of1_X (w := 7) hb hf (tN_in ha) m1 o2 b0 hg2 (by decide) (by decide) (by decide) (of1_en e170 (by decide) (by decide)) (fun v0 v1 _ q1 => ck_pn (h := 99) (by decide) (by decide) (by decide) q1)
    · subst z
      rw [hl_w8 hk]
      rw [fl_n (w := 8) (by decide) (by decide), rmb_t (b := !false) (by decide)]
      exact of1_X (w := 8) hb hf (tN_in ha) m1 o2 b0 hg2 (by decide) (by decide) (by decide) (of1_en e170 (by decide) (by decide)) (fun v0 v1 _ q1 => ck_pn (h := 99) (by decide) (by decide) (by decide) q1)
    · subst z
      rw [hl_w9 hk]
      rw [fl_n (w := 9) (by decide) (by decide), rmb_t (b := !false) (by decide)]
      exact of1_X (w := 9) hb hf (tN_in ha) m1 o2 b0 hg2 (by decide) (by decide) (by decide) (of1_en e170 (by decide) (by decide)) (fun v0 v1 _ q1 => ck_pn (h := 99) (by decide) (by decide) (by decide) q1)
    · subst z
      rw [hl_w10 hk]
      rw [fl_n (w := 10) (by decide) (by decide), rmb_t (b := !false) (by decide)]
      exact of2_X (w := 10) hb hf (tN_in ha) m1 o2 b0 hg2 (Or.inr rfl) (of2_en e170 (by decide) (by decide)) (fun v0 v1 _ q1 => ck_pn (h := 10) (by decide) (by decide) (by decide) q1)
    · subst z
      rw [hl_w11 hk]
      exact rain_X hb hf (tN_in ha) m1 b1 o (by omega)
    · subst z
      rw [hl_w12 hk]
      rw [fl_n (w := 12) (by decide) (by decide), rmb_t (b := !false) (by decide)]
      exact days_X (w := 12) hb hf (tN_in ha) m1 o2 (by decide) (by decide)
    · subst z
      rw [hl_w13 hk]
      rw [fl_n (w := 13) (by decide) (by decide), rmb_t (b := !false) (by decide)]
      exact days_X (w := 13) hb hf (tN_in ha) m1 o2 (by decide) (by decide)
    · subst z
      rw [hl_w14 hk]
      rw [fl_n (w := 14) (by decide) (by decide), rmb_t (b := !false) (by decide)]
      exact days_X (w := 14) hb hf (tN_in ha) m1 o2 (by decide) (by decide)
/-- a hill's row stays in its bounds -/
theorem rowH_b {w : Nat} {R : Nat → Int32} {v0 v1 v2 : Int32} {gd : Bool} (b0 : Bd 0 9 (R 0)) (b1 : Bd 0 4 (R 1)) : Bd 0 9 (rowH w R v0 v1 v2 gd 0) ∧ Bd 0 4 (rowH w R v0 v1 v2 gd 1) := by
  have e1 : (1 : Int32).toInt = 1 := rfl
  unfold rowH
  by_cases c0 : w = 0
  · rw [if_pos c0]
    by_cases q : R 0 < 9
    · rw [if_pos q]
      have q1 := Int32.lt_iff_toInt_lt.mp q
      have e9 : (9 : Int32).toInt = 9 := rfl
      refine ⟨?_, ?_⟩
      · show Bd 0 9 (R 0 + 1)
        have e : (R 0 + 1).toInt = (R 0).toInt + 1 := by rw [ti_add (by have := b0.1; omega) (by omega), e1]
        rw [Bd, e]
        have := b0.1
        omega
      · show Bd 0 4 (if 13 + 16 * (R 0).toInt.toNat ≤ 1 ∧ _ then _ else R 1)
        rw [if_neg (by omega)]
        exact b1
    · rw [if_neg q]; exact ⟨b0, b1⟩
  · rw [if_neg c0]
    by_cases c1 : w = 11
    · rw [if_pos c1]
      by_cases q : R 1 < 4
      · rw [if_pos q]
        have q1 := Int32.lt_iff_toInt_lt.mp q
        have e4 : (4 : Int32).toInt = 4 := rfl
        refine ⟨?_, ?_⟩
        · unfold upd
          rw [if_neg (by decide), if_neg (by omega), if_neg (by omega)]
          exact b0
        · show Bd 0 4 (R 1 + 1)
          have e : (R 1 + 1).toInt = (R 1).toInt + 1 := by rw [ti_add (by have := b1.1; omega) (by omega), e1]
          rw [Bd, e]
          have := b1.1
          omega
      · rw [if_neg q]; exact ⟨b0, b1⟩
    · rw [if_neg c1]
      by_cases c2 : 11 < w
      · rw [if_pos c2]
        unfold upd
        rw [if_neg (by omega), if_neg (by omega)]
        exact ⟨b0, b1⟩
      · rw [if_neg c2]
        by_cases c3 : gd = true
        · rw [if_pos c3]
          by_cases c4 : w = 2 ∨ w = 10
          · rw [if_pos c4]
            unfold upd
            rw [if_neg (by omega), if_neg (by omega), if_neg (by omega), if_neg (by omega)]
            exact ⟨b0, b1⟩
          · rw [if_neg c4]
            unfold upd
            rw [if_neg (by omega), if_neg (by omega)]
            exact ⟨b0, b1⟩
        · rw [if_neg c3]; exact ⟨b0, b1⟩
/-- a hill's text from a on: where it breaks off, what is remembered, the row -/
def HR (f : Nat → Int32) (L : Nat) : Nat → Nat → Int32 × Int32 → (Nat → Int32) → Option Nat × (Int32 × Int32) × (Nat → Int32)
  | 0, _, P, R => (none, P, R)
  | n + 1, a, P, R => if tK f L a = 0 then (none, P, R) else if hX f L a = -1 then (some (tS f L a), P, R) else
    match nb f L (cnt (hX f L a).toInt.toNat) (tN f L a) with
    | some q => (some q, P, R)
    | none => HR f L n (sk f L (cnt (hX f L a).toInt.toNat + 1) (tN f L a)) (lnP (hX f L a).toInt.toNat f L a R P) (lnR (hX f L a).toInt.toNat f L a R)
theorem sk_le {f : Nat → Int32} {L : Nat} : ∀ (r p : Nat), p ≤ sk f L r p := by
  intro r
  induction r with
  | zero => intro p; exact Nat.le_refl _
  | succ r ih =>
    intro p
    have h1 := tS_le (f := f) (L := L) p
    have h2 := tN_le (f := f) (L := L) p
    have h3 := ih (tN f L p)
    show p ≤ sk f L r (tN f L p)
    omega
theorem hX_n {f : Nat → Int32} {L a : Nat} (h : ¬ hX f L a = -1) : (hX f L a).toInt.toNat < 15 ∧ hX f L a = iN (hX f L a).toInt.toNat := by
  rcases hX_c (f := f) (L := L) (a := a) with ⟨h1, _⟩ | ⟨j, h1, h2, _⟩
  · exact absurd h1 h
  · rw [h2, iN_ti (by omega)]
    have e : ((j : Nat) : Int).toNat = j := by omega
    rw [e]
    exact ⟨h1, rfl⟩
/-- how the reference's reader of a hill ends -/
theorem rt_L {f : Nat → Int32} {L : Nat} (hb : L ≤ 600) (hf : ∀ j, j < L → Bd (-128) 127 (f j)) : ∀ (n m a : Nat) (v : MM) (g : GG) (P : Int32 × Int32) (R : Nat → Int32), L - tN f L a < n → L - a < m → a ≤ L → RSv v g f L a P R → OR P (tS f L a) → Bd 0 9 (R 0) → Bd 0 4 (R 1) →
    (∀ q P2 R2, HR f L m a P R = (some q, P2, R2) → ∃ x g2, Fx_M_readText0X_L55 n 1 v g = Fx_M_readText0X_J122 0 x g2 ∧ x 162 14 = iN q) ∧
    (∀ P2 R2, HR f L m a P R = (none, P2, R2) → ∃ x g2 e, Fx_M_readText0X_L55 n 1 v g = Fx_M_readText0X_J122 1 x g2 ∧ RSv x g2 f L e P2 R2 ∧ OR P2 (tS f L e) ∧ tK f L e = 0 ∧ e ≤ L ∧ Bd 0 9 (R2 0) ∧ Bd 0 4 (R2 1)) := by
  intro n
  induction n with
  | zero => intro m a v g P R h; omega
  | succ n ih =>
    intro m a v g P R hn hm ha h o b0 b1
    cases m with
    | zero => omega
    | succ m =>
    have hT := h.2.2.1
    have hH : HR f L (m + 1) a P R = if tK f L a = 0 then (none, P, R) else if hX f L a = -1 then (some (tS f L a), P, R) else
      match nb f L (cnt (hX f L a).toInt.toNat) (tN f L a) with
      | some q => (some q, P, R)
      | none => HR f L m (sk f L (cnt (hX f L a).toInt.toNat + 1) (tN f L a)) (lnP (hX f L a).toInt.toNat f L a R P) (lnR (hX f L a).toInt.toNat f L a R) := rfl
    rw [hH, Fx_M_readText0X_L55_s, if_neg (show ¬ (1 : Int32) = 0 by decide)]
    by_cases k0 : tK f L a = 0
    · rw [if_pos k0, if_pos (show v 162 11 = 0 by rw [hT.2.2.1, k0]; rfl)]
      refine ⟨fun q P2 R2 z => (by cases z), fun P2 R2 z => ?_⟩
      cases z
      exact ⟨v, g, a, rfl, h, o, k0, ha, b0, b1⟩
    · have kz : ¬ v 162 11 = 0 := by
        rw [hT.2.2.1]
        unfold km
        rw [if_neg k0]
        split
        · decide
        · split
          · decide
          · split <;> decide
      rw [if_neg k0, if_neg kz]
      have hv : RSv (ms v 162 18 1) g f L a P R := by
        obtain ⟨r1, r2, ⟨t1, t2, t3, t4, t5⟩, r4, r5⟩ := h
        exact ⟨r1, r2, ⟨t1, t2, t3, t4, t5⟩, r4, r5⟩
      obtain ⟨l1, l2⟩ := hl_X hb hf ha hv o rfl b0 b1
      simp only [xq_lt]
      rw [hT.2.1]
      by_cases kx : hX f L a = -1
      · rw [if_pos kx, l1 kx]
        refine ⟨fun q P2 R2 z => ?_, fun P2 R2 z => (by cases z)⟩
        cases z
        refine ⟨ms (ms v 162 18 1) 162 14 (iN (tS f L a)), g, ?_, rfl⟩
        rw [c3_mk, if_neg (by decide)]
        rfl
      · rw [if_neg kx]
        obtain ⟨w15, wx⟩ := hX_n kx
        obtain ⟨u1, u2⟩ := l2 _ w15 wx
        obtain ⟨n1, n2⟩ := nb_n (f := f) (L := L) (cnt (hX f L a).toInt.toNat) (tN f L a)
        generalize hw : (hX f L a).toInt.toNat = w at *
        obtain ⟨t, x, g2, hz⟩ : ∃ t x g2, Fx_M_hillLineX (iN (tS f L a)) (ms v 162 18 1) g = (t, x, g2) := ⟨_, _, _, rfl⟩
        rw [hz] at u1 u2 ⊢
        rw [c3_mk]
        cases hN : nn f L (cnt w) (tN f L a) with
        | some q =>
          rw [n1 q hN]
          obtain ⟨y1, y2⟩ := u1 q hN
          have y1' : t = false := y1
          refine ⟨fun q2 P2 R2 z => ?_, fun P2 R2 z => (by cases z)⟩
          cases z
          refine ⟨x, g2, ?_, y2⟩
          rw [y1', if_neg (by decide)]
          rfl
        | none =>
          rw [n2 hN]
          obtain ⟨y1, y2, y3⟩ := u2 hN
          have y1' : t = true := y1
          have y2' : RSv x g2 f L (sk f L (cnt w) (tN f L a)) (lnP w f L a R P) (lnR w f L a R) := y2
          rw [y1', if_pos rfl]
          by_cases k3 : tK f L (sk f L (cnt w) (tN f L a)) = 3
          · rw [if_pos k3, if_pos (show x 162 11 = 4 by rw [y2'.2.2.1.2.2.1]; exact km_4.mpr k3)]
            have hin : sk f L (cnt w) (tN f L a) ≤ L := sk_in _ _ (tN_in ha)
            obtain ⟨m1, m2⟩ := rs_t (y := x) (Q := lnP w f L a R P) hb hf hin y2' rfl rfl rfl rfl y2'.2.2.2.1
            have p1 := tN_lt (f := f) (L := L) (a := a) k0
            have p2 := tN_lt (f := f) (L := L) (a := sk f L (cnt w) (tN f L a)) (by rw [k3]; decide)
            have p3 := sk_le (f := f) (L := L) (cnt w) (tN f L a)
            have p4 := tS_le (f := f) (L := L) a
            have p5 := tS_le (f := f) (L := L) (sk f L (cnt w) (tN f L a))
            have p6 := tS_le (f := f) (L := L) (tN f L (sk f L (cnt w) (tN f L a)))
            have p7 := tN_in (f := f) hin
            have p8 := tS_in (f := f) p7
            have p9 := tN_le (f := f) (L := L) (tN f L (sk f L (cnt w) (tN f L a)))
            obtain ⟨c0, c1⟩ := rowH_b (w := w) (v0 := vv f L (tN f L a) 0) (v1 := vv f L (tN f L a) 1) (v2 := vv f L (tN f L a) 2) (gd := gdH w (R 0) (vv f L (tN f L a) 0) (vv f L (tN f L a) 1) (vv f L (tN f L a) 2)) b0 b1
            have es : sk f L (cnt w + 1) (tN f L a) = tN f L (sk f L (cnt w) (tN f L a)) := sk_s _ _
            have y3' : OR (lnP w f L a R P) (tS f L (sk f L (cnt w) (tN f L a))) := y3
            have I := ih m (tN f L (sk f L (cnt w) (tN f L a))) (Fx_M_tokenX x g2).1 (Fx_M_tokenX x g2).2 (lnP w f L a R P) (lnR w f L a R) (by omega) (by omega) p7 m1 (or_w y3' (by omega) (by omega)) c0 c1
            dsimp only
            rw [es]
            exact I
          · rw [if_neg k3, if_neg (show ¬ x 162 11 = 4 from fun z => k3 (km_4.mp (y2'.2.2.1.2.2.1 ▸ z)))]
            refine ⟨fun q2 P2 R2 z => ?_, fun P2 R2 z => (by cases z)⟩
            cases z
            refine ⟨ms x 162 14 (x 162 10), g2, rfl, ?_⟩
            rw [ms_e1]
            exact y2'.2.2.1.2.1
end
section
/-! the class's hill against the row -/
def RepH (u : MM) (R : Nat → Int32) (z : Prop) : Prop := u 32 0 = R 0 ∧ u 32 2 = R 1 ∧ (∀ k, k < 3 → u 36 k = R (2 + k)) ∧ (∀ k, k < (R 1).toInt.toNat → u 34 k = R (5 + 2 * k) ∧ u 35 k = R (6 + 2 * k)) ∧ (z → ∀ p c, p < (R 0).toInt.toNat → c < 16 → u 33 (16 * p + c) = R (13 + 16 * p + c))
def HF6 (x u : MM) : Prop := ∀ b, b ≠ 32 → b ≠ 33 → b ≠ 34 → b ≠ 35 → b ≠ 36 → x b = u b
theorem pu_X {u : MM} {g : GG} {p c : Nat} {v : Int32} (hp : p < 9) (hc : c < 16) : Fx_H_putBX (iN p) (iN c) v 32 u g = ms u 33 (16 * p + c) v := by
  unfold Fx_H_putBX
  rw [if_neg (show ¬ iN p < (0 : Int32) from fun q => by have := (iN_lt (b := 0) (by omega) (by omega)).mp q; omega), if_neg (show ¬ (9 : Int32) ≤ iN p from fun q => by have := (iN_le (a := 9) (by omega) (by omega)).mp q; omega), if_neg (show ¬ iN c < (0 : Int32) from fun q => by have := (iN_lt (b := 0) (by omega) (by omega)).mp q; omega), if_neg (show ¬ (16 : Int32) ≤ iN c from fun q => by have := (iN_le (a := 16) (by omega) (by omega)).mp q; omega)]
  have e : ((iN p * 16) + iN c).toNatClampNeg = 16 * p + c := by
    show (iN p * iN 16 + iN c).toNatClampNeg = _
    rw [iN_m, iN_a, iN_cl (by omega)]
    omega
  rw [e]
  rfl
/-- a column is put, or nothing -/
theorem pu_n {u : MM} {g : GG} {p c v : Int32} : ∀ b, b ≠ 33 → Fx_H_putBX p c v 32 u g b = u b := by
  intro b hb
  unfold Fx_H_putBX
  split
  · rfl
  · split
    · rfl
    · split
      · rfl
      · split
        · rfl
        · exact ms_c1 hb
theorem fi_L {B : Nat} {val : Int32} (hB : B ≤ 1000) : ∀ (n A : Nat) (u : MM), B - A < n → A ≤ B → (∀ b, b ≠ 33 → Fx_fill4_33X_L10 (iN B) val n (iN A) u b = u b) ∧ ∀ j, Fx_fill4_33X_L10 (iN B) val n (iN A) u 33 j = if A ≤ j ∧ j < B then val else u 33 j := by
  intro n
  induction n with
  | zero => intro A u h; omega
  | succ n ih =>
    intro A u h hA
    rw [Fx_fill4_33X_L10_s]
    by_cases c : B ≤ A
    · rw [if_pos ((iN_le (by omega) (by omega)).mpr c)]
      refine ⟨fun _ _ => rfl, fun j => ?_⟩
      rw [if_neg (by omega)]
    · rw [if_neg (fun q => c ((iN_le (by omega) (by omega)).mp q)), iN_s, iN_cl (by omega)]
      obtain ⟨h1, h2⟩ := ih (A + 1) (ms u 33 A val) (by omega) (by omega)
      refine ⟨fun b hb => (h1 b hb).trans (ms_c1 hb), fun j => ?_⟩
      show Fx_fill4_33X_L10 (iN B) val n (iN (A + 1)) (ms u 33 A val) 33 j = _
      rw [h2 j]
      by_cases q : j = A
      · rw [if_neg (by omega), if_pos (by omega), q, ms_e1]
      · rw [ms_i1 q]
        by_cases q2 : A ≤ j ∧ j < B
        · rw [if_pos (by omega), if_pos q2]
        · rw [if_neg (by omega), if_neg q2]
theorem ap_X {u : MM} {g : GG} {n : Nat} {v0 v1 v2 : Int32} (hn : u 32 0 = iN n) (h9 : n < 9) : ∃ x, Fx_H_addPond32X v0 v1 v2 u g = (true, x) ∧ (∀ b, b ≠ 32 → b ≠ 33 → x b = u b) ∧ x 32 0 = u 32 0 + 1 ∧ x 32 2 = u 32 2 ∧ ∀ j, x 33 j = if 16 * n ≤ j ∧ j < 16 * n + 16 then pc v0 v1 v2 (j - 16 * n) else u 33 j := by
  unfold Fx_H_addPond32X
  rw [hn, if_pos (show iN n < (9 : Int32) from (iN_lt (b := 9) (by omega) (by omega)).mpr h9)]
  simp only [xq_lt]
  have e0 : (0 : Int32) = iN 0 := rfl
  have e1 : (1 : Int32) = iN 1 := rfl
  have e2 : (2 : Int32) = iN 2 := rfl
  have e8 : (8 : Int32) = iN 8 := rfl
  have e9 : (9 : Int32) = iN 9 := rfl
  have e12 : (12 : Int32) = iN 12 := rfl
  have ef : Fx_fill4_33X (iN n * 16) (iN n * 16 + 16) 0 (ms u 32 0 (iN n + 1)) g = Fx_fill4_33X_L10 (iN (16 * n + 16)) 0 ((144 - (iN (16 * n)).toInt).toNat + 1) (iN (16 * n)) (ms u 32 0 (iN n + 1)) := by
    have q1 : iN n * 16 = iN (16 * n) := by
      show iN n * iN 16 = _
      rw [iN_m, Nat.mul_comm]
    have q2 : iN n * 16 + 16 = iN (16 * n + 16) := by
      rw [q1]
      exact iN_a
    unfold Fx_fill4_33X
    rw [q2, q1]
  rw [iN_ti (by omega)] at ef
  obtain ⟨f1, f2⟩ := fi_L (B := 16 * n + 16) (val := 0) (by omega) ((144 - ((16 * n : Nat) : Int)).toNat + 1) (16 * n) (ms u 32 0 (iN n + 1)) (by omega) (by omega)
  rw [← ef] at f1 f2
  have p0 : ∀ (y : MM) (x : Int32), Fx_H_putBX (iN n) 0 x 32 y g = ms y 33 (16 * n + 0) x := fun y x => pu_X h9 (c := 0) (by omega)
  have p1 : ∀ (y : MM) (x : Int32), Fx_H_putBX (iN n) 1 x 32 y g = ms y 33 (16 * n + 1) x := fun y x => pu_X h9 (c := 1) (by omega)
  have p2 : ∀ (y : MM) (x : Int32), Fx_H_putBX (iN n) 2 x 32 y g = ms y 33 (16 * n + 2) x := fun y x => pu_X h9 (c := 2) (by omega)
  have p8 : ∀ (y : MM) (x : Int32), Fx_H_putBX (iN n) 8 x 32 y g = ms y 33 (16 * n + 8) x := fun y x => pu_X h9 (c := 8) (by omega)
  have p9 : ∀ (y : MM) (x : Int32), Fx_H_putBX (iN n) 9 x 32 y g = ms y 33 (16 * n + 9) x := fun y x => pu_X h9 (c := 9) (by omega)
  have p12 : ∀ (y : MM) (x : Int32), Fx_H_putBX (iN n) 12 x 32 y g = ms y 33 (16 * n + 12) x := fun y x => pu_X h9 (c := 12) (by omega)
  rw [p0, p1, p2, p8, p9, p12]
  refine ⟨_, rfl, fun b b1 b2 => ?_, ?_, ?_, fun j => ?_⟩
  · rw [ms_c1 b2, ms_c1 b2, ms_c1 b2, ms_c1 b2, ms_c1 b2, ms_c1 b2, f1 b b2, ms_c1 b1]
  · rw [ms_c1 (by decide), ms_c1 (by decide), ms_c1 (by decide), ms_c1 (by decide), ms_c1 (by decide), ms_c1 (by decide), f1 32 (by decide), ms_e1]
  · rw [ms_c1 (by decide), ms_c1 (by decide), ms_c1 (by decide), ms_c1 (by decide), ms_c1 (by decide), ms_c1 (by decide), f1 32 (by decide), ms_i1 (by decide)]
  · have hd : j = 16 * n + 0 ∨ j = 16 * n + 1 ∨ j = 16 * n + 2 ∨ j = 16 * n + 8 ∨ j = 16 * n + 9 ∨ j = 16 * n + 12 ∨ (j ≠ 16 * n + 0 ∧ j ≠ 16 * n + 1 ∧ j ≠ 16 * n + 2 ∧ j ≠ 16 * n + 8 ∧ j ≠ 16 * n + 9 ∧ j ≠ 16 * n + 12) := by omega
    rcases hd with q | q | q | q | q | q | ⟨q0, q1, q2, q8, q9, q12⟩
    · rw [q, ms_i1 (by omega), ms_i1 (by omega), ms_i1 (by omega), ms_i1 (by omega), ms_i1 (by omega), ms_e1, if_pos (by omega), Nat.add_sub_cancel_left]; rfl
    · rw [q, ms_i1 (by omega), ms_i1 (by omega), ms_i1 (by omega), ms_i1 (by omega), ms_e1, if_pos (by omega), Nat.add_sub_cancel_left]; rfl
    · rw [q, ms_i1 (by omega), ms_i1 (by omega), ms_i1 (by omega), ms_e1, if_pos (by omega), Nat.add_sub_cancel_left]; rfl
    · rw [q, ms_i1 (by omega), ms_i1 (by omega), ms_e1, if_pos (by omega), Nat.add_sub_cancel_left]; rfl
    · rw [q, ms_i1 (by omega), ms_e1, if_pos (by omega), Nat.add_sub_cancel_left]; rfl
    · rw [q, ms_e1, if_pos (by omega), Nat.add_sub_cancel_left]; rfl
    · rw [ms_i1 q12, ms_i1 q9, ms_i1 q8, ms_i1 q2, ms_i1 q1, ms_i1 q0, f2 j]
      by_cases c : 16 * n ≤ j ∧ j < 16 * n + 16
      · rw [if_pos c, if_pos c]
        unfold pc
        rw [if_neg (by omega), if_neg (by omega), if_neg (by omega), if_neg (by omega)]
      · rw [if_neg c, if_neg c]
        rfl
theorem rowH_13 {w : Nat} {R : Nat → Int32} {v0 v1 v2 : Int32} {gd : Bool} (h1 : 1 ≤ w) (h2 : w ≤ 10) : ∀ j, j < 13 → rowH w R v0 v1 v2 gd j = R j := by
  intro j hj
  unfold rowH
  rw [if_neg (by omega), if_neg (by omega), if_neg (by omega)]
  by_cases c3 : gd = true
  · rw [if_pos c3]
    by_cases c4 : w = 2 ∨ w = 10
    · rw [if_pos c4]
      unfold upd
      rw [if_neg (by omega), if_neg (by omega)]
    · rw [if_neg c4]
      unfold upd
      rw [if_neg (by omega)]
  · rw [if_neg c3]
theorem gd_0 {w : Nat} {n v0 v1 v2 : Int32} (h : gdH w n v0 v1 v2 = true) : chk w 0 n v0 v0 = true := by
  unfold gdH at h
  split at h
  · exact ((Bool.and_eq_true _ _).mp h).1
  · exact ((Bool.and_eq_true _ _).mp h).1
theorem sa1 : ∀ w, w < 11 → 1 ≤ w → (sAr 1).getD w 0 = iN (hcol w) := by decide +kernel
theorem tf_X {u : MM} {g : GG} {R : Nat → Int32} {z z2 : Prop} {w : Nat} {v0 v1 v2 : Int32} (hw : w < 15) (b0 : Bd 0 9 (R 0)) (b1 : Bd 0 4 (R 1)) (h : RepH u R z) (e0 : u 41 0 = v0) (e1 : 1 < cnt w → u 41 1 = v1) (e2 : 2 < cnt w → u 41 2 = v2) (bv : Bd 0 999 v0) (hz : z2 → z ∧ (1 ≤ w → w ≤ 10 → gdH w (R 0) v0 v1 v2 = true)) :
    RepH (Fx_Rd_takeForHillX (iN w) (iN (cnt w)) u g) (rowH w R v0 v1 v2 (gdH w (R 0) v0 v1 v2)) z2 ∧ HF6 (Fx_Rd_takeForHillX (iN w) (iN (cnt w)) u g) u := by
  obtain ⟨r0, r1, r2, r3, r4⟩ := h
  have o1 : (1 : Int32).toInt = 1 := rfl
  unfold Fx_Rd_takeForHillX
  by_cases w0 : w = 0
  · subst w0
    have f1 := e1 (by decide)
    have f2 := e2 (by decide)
    rw [if_pos (show iN 0 = (0 : Int32) from rfl), e0, f1, f2]
    by_cases q : R 0 < 9
    · have q1 := Int32.lt_iff_toInt_lt.mp q
      have e9 : (9 : Int32).toInt = 9 := rfl
      have hn : u 32 0 = iN (R 0).toInt.toNat := r0.trans (iN_of b0 (by decide))
      obtain ⟨x, x1, x2, x3, x4, x5⟩ := ap_X (g := g) (v0 := v0) (v1 := v1) (v2 := v2) hn (by have := b0.1; omega)
      rw [x1, c2_mk]
      have er : rowH 0 R v0 v1 v2 (gdH 0 (R 0) v0 v1 v2) = upd (fun j => if 13 + 16 * (R 0).toInt.toNat ≤ j ∧ j < 29 + 16 * (R 0).toInt.toNat then pc v0 v1 v2 (j - (13 + 16 * (R 0).toInt.toNat)) else R j) 0 (R 0 + 1) := by
        unfold rowH
        rw [if_pos rfl, if_pos q]
      have hs : (R 0 + 1).toInt.toNat = (R 0).toInt.toNat + 1 := by
        rw [ti_add (by have := b0.1; omega) (by omega), o1]
        have := b0.1
        omega
      have er1 : rowH 0 R v0 v1 v2 (gdH 0 (R 0) v0 v1 v2) 1 = R 1 := by
        rw [er]
        show (if 13 + 16 * (R 0).toInt.toNat ≤ 1 ∧ _ then _ else R 1) = R 1
        rw [if_neg (by omega)]
      have erj : ∀ j, 1 ≤ j → j < 13 → rowH 0 R v0 v1 v2 (gdH 0 (R 0) v0 v1 v2) j = R j := by
        intro j j1 j2
        rw [er]
        unfold upd
        rw [if_neg (show ¬ j = 0 by omega)]
        dsimp only
        rw [if_neg (by omega)]
      refine ⟨⟨?_, ?_, fun k hk => ?_, fun k hk => ?_, fun hz2 p c hp hc => ?_⟩, fun b h32 h33 h34 h35 h36 => x2 b h32 h33⟩
      · rw [er, x3, r0]; rfl
      · rw [er1, x4, r1]
      · rw [erj _ (by omega) (by omega), x2 36 (by decide) (by decide), r2 k hk]
      · rw [er1] at hk
        have := b1.2
        rw [erj _ (by omega) (by omega), erj _ (by omega) (by omega), x2 34 (by decide) (by decide), x2 35 (by decide) (by decide)]
        exact r3 k hk
      · have e00 : rowH 0 R v0 v1 v2 (gdH 0 (R 0) v0 v1 v2) 0 = R 0 + 1 := by rw [er]; rfl
        rw [e00, hs] at hp
        rw [er, x5]
        unfold upd
        rw [if_neg (show ¬ 13 + 16 * p + c = 0 by omega)]
        dsimp only
        by_cases y : p = (R 0).toInt.toNat
        · rw [if_pos (by omega), if_pos (by omega)]
          congr 1
          omega
        · rw [if_neg (by omega), if_neg (by omega)]
          exact r4 (hz hz2).1 p c (by omega) hc
    · have hfalse : Fx_H_addPond32X v0 v1 v2 u g = (false, u) := by
        unfold Fx_H_addPond32X
        rw [r0, if_neg q]
      rw [hfalse, c2_mk]
      have er : rowH 0 R v0 v1 v2 (gdH 0 (R 0) v0 v1 v2) = R := by
        unfold rowH
        rw [if_pos rfl, if_neg q]
      rw [er]
      exact ⟨⟨r0, r1, r2, r3, fun y => r4 (hz y).1⟩, fun _ _ _ _ _ _ => rfl⟩
  · rw [if_neg (show ¬ iN w = (0 : Int32) from fun y => w0 ((iN_eq (b := 0) (by omega) (by omega)).mp y))]
    by_cases w1 : w = 11
    · subst w1
      have f1 := e1 (by decide)
      rw [if_pos (show iN 11 = (11 : Int32) from rfl), e0, f1]
      by_cases q : R 1 < 4
      · have q1 := Int32.lt_iff_toInt_lt.mp q
        have e4 : (4 : Int32).toInt = 4 := rfl
        have hr : u 32 2 = iN (R 1).toInt.toNat := r1.trans (iN_of b1 (by decide))
        have er : rowH 11 R v0 v1 v2 (gdH 11 (R 0) v0 v1 v2) = upd (upd (upd R (5 + 2 * (R 1).toInt.toNat) v0) (6 + 2 * (R 1).toInt.toNat) v1) 1 (R 1 + 1) := by
          unfold rowH
          rw [if_neg (by decide), if_pos rfl, if_pos q]
        have ex : Fx_H_addRainX v0 v1 32 u g = (true, ms (ms (ms u 34 (R 1).toInt.toNat v0) 35 (R 1).toInt.toNat v1) 32 2 (R 1 + 1)) := by
          unfold Fx_H_addRainX
          rw [if_pos (show u 32 2 < 4 by rw [r1]; exact q), hr, iN_cl (by have := b1.1; omega), ← hr, r1]
          rfl
        rw [ex, c2_mk]
        have hs : (R 1 + 1).toInt.toNat = (R 1).toInt.toNat + 1 := by
          rw [ti_add (by have := b1.1; omega) (by omega), o1]
          have := b1.1
          omega
        have hr4 : (R 1).toInt.toNat < 4 := by have := b1.1; omega
        have erj : ∀ j, j ≠ 1 → (j < 5 ∨ 13 ≤ j) → rowH 11 R v0 v1 v2 (gdH 11 (R 0) v0 v1 v2) j = R j := by
          intro j j1 j2
          rw [er]
          unfold upd
          rw [if_neg (by omega), if_neg (by omega), if_neg (by omega)]
        have er1 : rowH 11 R v0 v1 v2 (gdH 11 (R 0) v0 v1 v2) 1 = R 1 + 1 := by rw [er]; rfl
        refine ⟨⟨?_, ?_, fun k hk => ?_, fun k hk => ?_, fun hz2 p c hp hc => ?_⟩, fun b h32 h33 h34 h35 h36 => ?_⟩
        · rw [erj 0 (by decide) (by decide), ← r0]; rfl
        · rw [er1]; rfl
        · rw [erj _ (by omega) (by omega), ← r2 k hk]; rfl
        · rw [er1, hs] at hk
          rw [er]
          unfold upd
          rw [if_neg (show ¬ 5 + 2 * k = 1 by omega), if_neg (show ¬ 6 + 2 * k = 1 by omega), if_neg (show ¬ 5 + 2 * k = 6 + 2 * (R 1).toInt.toNat by omega)]
          by_cases y : k = (R 1).toInt.toNat
          · rw [if_pos (by omega), if_pos (by omega), y]
            refine ⟨?_, ?_⟩
            · rw [ms_c1 (by decide), ms_c1 (by decide), ms_e1]
            · rw [ms_c1 (by decide), ms_e1]
          · rw [if_neg (by omega), if_neg (by omega), if_neg (by omega)]
            refine ⟨?_, ?_⟩
            · rw [ms_c1 (by decide), ms_c1 (by decide), ms_i1 y]
              exact (r3 k (by omega)).1
            · rw [ms_c1 (by decide), ms_i1 y, ms_c1 (by decide)]
              exact (r3 k (by omega)).2
        · rw [erj 0 (by decide) (by decide)] at hp
          rw [erj _ (by omega) (by omega), ← r4 (hz hz2).1 p c hp hc]; rfl
        · rw [ms_c1 h32, ms_c1 h35, ms_c1 h34]
      · have hfalse : Fx_H_addRainX v0 v1 32 u g = (false, u) := by
          unfold Fx_H_addRainX
          rw [if_neg (show ¬ u 32 2 < 4 by rw [r1]; exact q)]
        rw [hfalse, c2_mk]
        have er : rowH 11 R v0 v1 v2 (gdH 11 (R 0) v0 v1 v2) = R := by
          unfold rowH
          rw [if_neg (by decide), if_pos rfl, if_neg q]
        rw [er]
        exact ⟨⟨r0, r1, r2, r3, fun y => r4 (hz y).1⟩, fun _ _ _ _ _ _ => rfl⟩
    · rw [if_neg (show ¬ iN w = (11 : Int32) from fun y => w1 ((iN_eq (b := 11) (by omega) (by omega)).mp y))]
      by_cases w2 : w < 12
      · rw [if_pos (show iN w < (12 : Int32) from (iN_lt (b := 12) (by omega) (by omega)).mpr w2), iN_cl (by omega), sa1 w (by omega) (by omega), e0]
        simp only [xq_lt]
        have hR := rowH_13 (w := w) (R := R) (v0 := v0) (v1 := v1) (v2 := v2) (gd := gdH w (R 0) v0 v1 v2) (by omega) (by omega)
        have f1 : u 41 1 = v1 := e1 (by
          rcases (show w = 1 ∨ w = 2 ∨ w = 3 ∨ w = 4 ∨ w = 5 ∨ w = 6 ∨ w = 7 ∨ w = 8 ∨ w = 9 ∨ w = 10 by omega) with y | y | y | y | y | y | y | y | y | y <;> rw [y] <;> decide)
        have hx : ∀ x : MM, (∀ b, b ≠ 33 → x b = u b) → (gdH w (R 0) v0 v1 v2 = true → z → ∀ p c, p < (R 0).toInt.toNat → c < 16 → x 33 (16 * p + c) = rowH w R v0 v1 v2 (gdH w (R 0) v0 v1 v2) (13 + 16 * p + c)) → RepH x (rowH w R v0 v1 v2 (gdH w (R 0) v0 v1 v2)) z2 ∧ HF6 x u := by
          intro x x1 x2
          refine ⟨⟨?_, ?_, fun k hk => ?_, fun k hk => ?_, fun hz2 p c hp hc => ?_⟩, fun b h32 h33 h34 h35 h36 => x1 b h33⟩
          · rw [hR 0 (by omega), x1 32 (by decide), r0]
          · rw [hR 1 (by omega), x1 32 (by decide), r1]
          · rw [hR _ (by omega), x1 36 (by decide), r2 k hk]
          · rw [hR 1 (by omega)] at hk
            have := b1.2
            rw [hR _ (by omega), hR _ (by omega), x1 34 (by decide), x1 35 (by decide)]
            exact r3 k hk
          · rw [hR 0 (by omega)] at hp
            exact x2 ((hz hz2).2 (by omega) (by omega)) (hz hz2).1 p c hp hc
        have hv8 : gdH w (R 0) v0 v1 v2 = true → Bd 0 8 v0 := fun y => ck_8 (by omega) (by omega) bv (gd_0 y)
        have hh := hc_ti w (by omega)
        by_cases c3 : w = 2 ∨ w = 10
        · have h3 : cnt w = 3 := by rcases c3 with y | y <;> rw [y] <;> rfl
          have f2 : u 41 2 = v2 := e2 (by rw [h3]; decide)
          rw [h3, if_pos (show iN 3 = (3 : Int32) from rfl)]
          have q41 : Fx_H_putBX v0 (iN (hcol w)) (u 41 1) 32 u g 41 = u 41 := pu_n 41 (by decide)
          rw [f1, f2] at *
          refine hx _ (fun b hb => (pu_n b hb).trans (pu_n b hb)) (fun hg hzz p c hp hc => ?_)
          have b8 := hv8 hg
          have hb0 := b8.1
          have hb8 := b8.2
          have ev : v0 = iN v0.toInt.toNat := iN_of b8 (by decide)
          have hc1 : hcol w + 1 < 16 := by omega
          rw [ev, pu_X (by omega) (by omega), iN_s, pu_X (by omega) (by omega), ← ev]
          unfold rowH
          rw [if_neg w0, if_neg w1, if_neg (by omega), if_pos hg, if_pos c3]
          unfold upd
          by_cases y1 : 16 * p + c = 16 * v0.toInt.toNat + (hcol w + 1)
          · rw [y1, ms_e1, if_pos (by omega)]
          · rw [ms_i1 y1, if_neg (show ¬ 13 + 16 * p + c = 14 + 16 * v0.toInt.toNat + hcol w by omega)]
            by_cases y2 : 16 * p + c = 16 * v0.toInt.toNat + hcol w
            · rw [y2, ms_e1, if_pos (by omega)]
            · rw [ms_i1 y2, if_neg (by omega)]
              exact r4 hzz p c hp hc
        · have h2 : cnt w = 2 := by
            rcases (show w = 1 ∨ w = 3 ∨ w = 4 ∨ w = 5 ∨ w = 6 ∨ w = 7 ∨ w = 8 ∨ w = 9 by omega) with y | y | y | y | y | y | y | y <;> rw [y] <;> rfl
          rw [h2, if_neg (show ¬ iN 2 = (3 : Int32) by decide), f1]
          refine hx _ pu_n (fun hg hzz p c hp hc => ?_)
          have b8 := hv8 hg
          have hb0 := b8.1
          have hb8 := b8.2
          have ev : v0 = iN v0.toInt.toNat := iN_of b8 (by decide)
          rw [ev, pu_X (by omega) (by omega), ← ev]
          unfold rowH
          rw [if_neg w0, if_neg w1, if_neg (by omega), if_pos hg, if_neg c3]
          unfold upd
          by_cases y2 : 16 * p + c = 16 * v0.toInt.toNat + hcol w
          · rw [y2, ms_e1, if_pos (by omega)]
          · rw [ms_i1 y2, if_neg (by omega)]
            exact r4 hzz p c hp hc
      · rw [if_neg (show ¬ iN w < (12 : Int32) from fun y => w2 ((iN_lt (b := 12) (by omega) (by omega)).mp y)), e0]
        have ei : (iN w - 12).toNatClampNeg = w - 12 := by
          show (iN w - iN 12).toNatClampNeg = _
          rw [iN_sub (by omega), iN_cl (by omega)]
        rw [ei]
        simp only [xq_lt]
        have er : rowH w R v0 v1 v2 (gdH w (R 0) v0 v1 v2) = upd R (w - 10) v0 := by
          unfold rowH
          rw [if_neg w0, if_neg w1, if_pos (by omega)]
        have erj : ∀ j, j ≠ w - 10 → rowH w R v0 v1 v2 (gdH w (R 0) v0 v1 v2) j = R j := by
          intro j hj
          rw [er]
          exact if_neg hj
        refine ⟨⟨?_, ?_, fun k hk => ?_, fun k hk => ?_, fun hz2 p c hp hc => ?_⟩, fun b h32 h33 h34 h35 h36 => ms_c1 h36⟩
        · rw [erj 0 (by omega), ← r0]; rfl
        · rw [erj 1 (by omega), ← r1]; rfl
        · by_cases y : k = w - 12
          · rw [y, ms_e1, er]
            exact (if_pos (by omega)).symm
          · rw [ms_i1 y, erj _ (by omega), r2 k hk]
        · rw [erj 1 (by omega)] at hk
          rw [erj _ (by omega), erj _ (by omega), ms_c1 (by decide), ms_c1 (by decide)]
          exact r3 k hk
        · rw [erj 0 (by omega)] at hp
          rw [erj _ (by omega), ms_c1 (by decide)]
          exact r4 (hz hz2).1 p c hp hc
end
section
/-! the class's reader of a hill -/
theorem fo_c {ck : Nat → Int32 → Bool} {v p v2 p2 : Nat → Int32} {c : Nat} (hv : ∀ j, j < c → v j = v2 j) (hp : ∀ j, j < c → p j = p2 j) : ∀ (n i : Nat) (P : Int32 × Int32), c - i ≤ n → fo ck v p c i P = fo ck v2 p2 c i P := by
  intro n
  induction n with
  | zero => intro i P h; rw [fo_e (by omega), fo_e (by omega)]
  | succ n ih =>
    intro i P h
    by_cases q : i < c
    · rw [fo_s q, fo_s q, hv i q, hp i q]
      exact ih (i + 1) _ (by omega)
    · rw [fo_e q, fo_e q]
theorem cnt_b : ∀ w, w < 15 → 1 ≤ cnt w ∧ cnt w ≤ 3 ∧ (sAr 0).getD w 0 = iN (cnt w) := by decide +kernel
theorem gd_c {w : Nat} {n v0 v1 v2 : Int32} (h1 : 1 ≤ w) (h2 : w ≤ 10) (h : ∀ j, j < cnt w → chk w j n v0 (if j = 0 then v0 else if j = 1 then v1 else v2) = true) : gdH w n v0 v1 v2 = true := by
  have c2 : 2 ≤ cnt w := by
    rcases (show w = 1 ∨ w = 2 ∨ w = 3 ∨ w = 4 ∨ w = 5 ∨ w = 6 ∨ w = 7 ∨ w = 8 ∨ w = 9 ∨ w = 10 by omega) with y | y | y | y | y | y | y | y | y | y <;> rw [y] <;> decide
  have q0 := h 0 (by omega)
  have q1 := h 1 (by omega)
  rw [if_pos rfl] at q0
  rw [if_neg (by decide), if_pos rfl] at q1
  unfold gdH
  by_cases c3 : w = 2 ∨ w = 10
  · have h3 : cnt w = 3 := by rcases c3 with y | y <;> rw [y] <;> rfl
    have q2 := h 2 (by omega)
    rw [if_neg (by decide), if_neg (by decide)] at q2
    rw [if_pos c3, q0, q1, q2]
    rfl
  · rw [if_neg c3, q0, q1]
    rfl
/-- the class's reader between two lines -/
def CRS (u : MM) (f : Nat → Int32) (L a : Nat) (P : Int32 × Int32) (R : Nat → Int32) : Prop := u 2 = f ∧ u 30 1 = iN L ∧ u 30 2 = iN a ∧ PR u = P ∧ RepH u R (P.1 = 0)
theorem rp_h {x u : MM} {R : Nat → Int32} {z : Prop} (h : RepH u R z) (h32 : x 32 = u 32) (h33 : x 33 = u 33) (h34 : x 34 = u 34) (h35 : x 35 = u 35) (h36 : x 36 = u 36) : RepH x R z := by
  unfold RepH
  rw [h32, h33, h34, h35, h36]
  exact h
theorem xqb0 {α β : Type} {x : α} {K : α → β} : xq_lt x K = K x := rfl
theorem cr_X {u : MM} {g : GG} {f : Nat → Int32} {L a : Nat} {P : Int32 × Int32} {R : Nat → Int32} (hb : L ≤ 600) (ha : a ≤ L) (b0 : Bd 0 9 (R 0)) (b1 : Bd 0 4 (R 1)) (h : CRS u f L a P R) :
    (tK f L a = 0 → ∃ x, Fx_Rd_readLineX 0 u g = (false, x) ∧ PR x = P ∧ RepH x R (P.1 = 0) ∧ x 30 1 = iN L) ∧
    (¬ tK f L a = 0 → hX f L a = -1 → ∃ x, Fx_Rd_readLineX 0 u g = (false, x) ∧ x 29 5 = 1 ∧ x 29 6 = iN (tS f L a)) ∧
    (∀ w, ¬ tK f L a = 0 → w < 15 → hX f L a = iN w → (∀ q, nb f L (cnt w) (tN f L a) = some q → ∃ x, Fx_Rd_readLineX 0 u g = (false, x) ∧ x 29 5 = 1 ∧ x 29 6 = iN q) ∧
      (nb f L (cnt w) (tN f L a) = none → ∃ x, Fx_Rd_readLineX 0 u g = (true, x) ∧ CRS x f L (sk f L (cnt w + 1) (tN f L a)) (lnP w f L a R P) (lnR w f L a R))) := by
  obtain ⟨c1, c2, c3, c4, c5⟩ := h
  have A := ad_X (g := g) c2 hb ha c3
  have hl := lo_0 (g := g) c2 hb ha A
  rw [c1] at A hl
  obtain ⟨a0, a1, a2, a3, a4, a5, a6⟩ := A
  have e : Fx_Rd_readLineX 0 u g = (if tK f L a = 0 then (false, Fx_Tk_advanceX u g) else (if hX f L a = -1 then (false, ms (ms (Fx_Tk_advanceX u g) 29 5 1) 29 6 (iN (tS f L a))) else Fx_Rd_readLineX_L65b 0 g (Fx_Tk_advanceX u g) (hX f L a) ((sAr 0).getD (hX f L a).toNatClampNeg 0) 4 (iN 0) (Fx_Tk_advanceX u g))) := by
    rw [← a4, ← hl, ← a5]
    unfold Fx_Rd_readLineX
    rw [xqb0]
    by_cases z0 : Fx_Tk_advanceX u g 30 3 = (0 : Int32)
    · rw [if_pos z0, if_pos z0]
    · rw [if_neg z0, if_neg z0, xqb0]
      by_cases z1 : Fx_Rd_lineOfX 0 (Fx_Tk_advanceX u g) g = (-1 : Int32)
      · rw [if_pos z1, if_pos z1]; rfl
      · rw [if_neg z1, if_neg z1, if_pos (show (0 : Int32) = 0 from rfl), xqb0]; rfl
  have hrep : RepH (Fx_Tk_advanceX u g) R (P.1 = 0) := rp_h c5 (a0 32 (by decide)) (a0 33 (by decide)) (a0 34 (by decide)) (a0 35 (by decide)) (a0 36 (by decide))
  have hpr : PR (Fx_Tk_advanceX u g) = P := by
    unfold PR
    rw [a0 29 (by decide)]
    exact c4
  refine ⟨fun k => ?_, fun k kx => ?_, fun w k w15 kx => ?_⟩
  · rw [e, if_pos k]
    exact ⟨_, rfl, hpr, hrep, a2.trans c2⟩
  · rw [e, if_neg k, if_pos kx]
    exact ⟨_, rfl, rfl, rfl⟩
  · obtain ⟨k1, k3, kc⟩ := cnt_b w w15
    rw [e, if_neg k, kx, if_neg (iN_m1 (by omega)), iN_cl (by omega), kc]
    obtain ⟨q1, q2⟩ := rl_L (u2 := Fx_Tk_advanceX u g) (g := g) (L := L) (c := cnt w) (k := iN w) hb k3 4 (cnt w) 0 (tN f L a) (Fx_Tk_advanceX u g) (by omega) (by omega) (tN_in ha) (a2.trans c2) a3
    have e2 : Fx_Tk_advanceX u g 2 = f := (a0 2 (by decide)).trans c1
    rw [e2] at q1 q2
    refine ⟨q1, fun hN => ?_⟩
    obtain ⟨y, y1, y2, y3, y4, y5, _, y7⟩ := q2 hN
    obtain ⟨x, x1, x2, x3⟩ := tk_H (u := y) (g := g) (w := w) (c := cnt w) (first := Fx_Tk_advanceX u g 30 4) w15 k3
    have v41 : ∀ j, j < cnt w → y 41 j = vv f L (tN f L a) j := fun j hj => by have := (y7 j hj).1; rw [Nat.zero_add] at this; exact this
    have v42 : ∀ j, j < cnt w → y 42 j = pp f L (tN f L a) j := fun j hj => by have := (y7 j hj).2; rw [Nat.zero_add] at this; exact this
    have hy : RepH y R (P.1 = 0) := rp_h hrep (y2 32 (by decide) (by decide) (by decide)) (y2 33 (by decide) (by decide) (by decide)) (y2 34 (by decide) (by decide) (by decide)) (y2 35 (by decide) (by decide) (by decide)) (y2 36 (by decide) (by decide) (by decide))
    have py : PR y = P := by
      unfold PR
      rw [y2 29 (by decide) (by decide) (by decide)]
      exact hpr
    rw [hy.1, hy.2.1, py, v41 0 (by omega), a5, fo_c v41 v42 (cnt w) 0 _ (by omega)] at x3
    have x3' : PR x = lnP w f L a R P := x3
    have hx : RepH x R (P.1 = 0) := rp_h hy (x2 32 (by decide)) (x2 33 (by decide)) (x2 34 (by decide)) (x2 35 (by decide)) (x2 36 (by decide))
    have bv : Bd 0 999 (vv f L (tN f L a) 0) := by
      have : ∀ r, 1 ≤ r → nb f L r (tN f L a) = none → tK f L (tN f L a) = 2 := by
        intro r hr hn
        cases r with
        | zero => omega
        | succ r =>
          by_cases z : tK f L (tN f L a) = 2
          · exact z
          · have e3 : nb f L (r + 1) (tN f L a) = some (tS f L (tN f L a)) := if_neg z
            rw [e3] at hn
            cases hn
      exact tV_b (this (cnt w) k1 hN)
    have hz : (lnP w f L a R P).1 = 0 → P.1 = 0 ∧ (1 ≤ w → w ≤ 10 → gdH w (R 0) (vv f L (tN f L a) 0) (vv f L (tN f L a) 1) (vv f L (tN f L a) 2) = true) := by
      intro z
      obtain ⟨z1, z2⟩ := fo_z (cnt w) 0 _ (by omega) z
      refine ⟨(rmb_z (by decide) z1).2, fun h1 h2 => gd_c h1 h2 (fun j hj => ?_)⟩
      have z3 := z2 j (by omega) hj
      rcases (show j = 0 ∨ j = 1 ∨ j = 2 by omega) with y | y | y
      · subst y; exact z3
      · subst y; exact z3
      · subst y; exact z3
    obtain ⟨t1, t2⟩ := tf_X (u := x) (g := g) (w := w) (v1 := vv f L (tN f L a) 1) (v2 := vv f L (tN f L a) 2) w15 b0 b1 hx (by rw [x2 41 (by decide)]; exact v41 0 (by omega)) (fun z => by rw [x2 41 (by decide)]; exact v41 1 z) (fun z => by rw [x2 41 (by decide)]; exact v41 2 z) bv hz
    refine ⟨Fx_Rd_takeForHillX (iN w) (iN (cnt w)) x g, ?_, ?_, ?_, ?_, ?_, t1⟩
    · rw [y1, x1]
    · rw [t2 2 (by decide) (by decide) (by decide) (by decide) (by decide), x2 2 (by decide), y2 2 (by decide) (by decide) (by decide), e2]
    · rw [t2 30 (by decide) (by decide) (by decide) (by decide) (by decide), x2 30 (by decide), y4, a2, c2]
    · rw [t2 30 (by decide) (by decide) (by decide) (by decide) (by decide), x2 30 (by decide), y5]
    · unfold PR
      rw [t2 29 (by decide) (by decide) (by decide) (by decide) (by decide)]
      exact x3'
theorem cl_L {f : Nat → Int32} {L : Nat} {g : GG} (hb : L ≤ 600) : ∀ (n m k a : Nat) (u : MM) (P : Int32 × Int32) (R : Nat → Int32), L - a + 1 < n → L - a < m → a ≤ L → k ≤ a → CRS u f L a P R → Bd 0 9 (R 0) → Bd 0 4 (R 1) →
    (∀ q P2 R2, HR f L m a P R = (some q, P2, R2) → ∃ x, Fx_Rd_readX_L39 0 g n 1 (iN k) u = Fx_Rd_readX_J65 0 g x ∧ x 29 5 = 1 ∧ x 29 6 = iN q) ∧
    (∀ P2 R2, HR f L m a P R = (none, P2, R2) → ∃ x, Fx_Rd_readX_L39 0 g n 1 (iN k) u = Fx_Rd_readX_J65 0 g x ∧ PR x = P2 ∧ RepH x R2 (P2.1 = 0) ∧ x 30 1 = iN L) := by
  intro n
  induction n with
  | zero => intro m k a u P R h; omega
  | succ n ih =>
    intro m k a u P R hn hm ha hk h b0 b1
    cases m with
    | zero => omega
    | succ m =>
    have hH : HR f L (m + 1) a P R = if tK f L a = 0 then (none, P, R) else if hX f L a = -1 then (some (tS f L a), P, R) else
      match nb f L (cnt (hX f L a).toInt.toNat) (tN f L a) with
      | some q => (some q, P, R)
      | none => HR f L m (sk f L (cnt (hX f L a).toInt.toNat + 1) (tN f L a)) (lnP (hX f L a).toInt.toNat f L a R P) (lnR (hX f L a).toInt.toNat f L a R) := rfl
    obtain ⟨r1, r2, r3⟩ := cr_X (g := g) hb ha b0 b1 h
    have hend : ∀ x : MM, Fx_Rd_readX_L39 0 g n 0 (iN (k + 1)) x = Fx_Rd_readX_J65 0 g x := by
      intro x
      cases n with
      | zero => omega
      | succ n =>
        rw [Fx_Rd_readX_L39_s, if_pos rfl]
        split <;> rfl
    rw [hH, Fx_Rd_readX_L39_s, if_neg (show ¬ (600 : Int32) < iN k from fun z => by have := (iN_lt (a := 600) (by omega) (by omega)).mp z; omega), if_neg (show ¬ (1 : Int32) = 0 by decide), iN_s]
    by_cases k0 : tK f L a = 0
    · rw [if_pos k0]
      obtain ⟨x, x1, x2, x3, x4⟩ := r1 k0
      rw [x1, c2_mk]
      refine ⟨fun q P2 R2 z => (by cases z), fun P2 R2 z => ?_⟩
      cases z
      exact ⟨x, hend x, x2, x3, x4⟩
    · rw [if_neg k0]
      by_cases kx : hX f L a = -1
      · rw [if_pos kx]
        obtain ⟨x, x1, x2, x3⟩ := r2 k0 kx
        rw [x1, c2_mk]
        refine ⟨fun q P2 R2 z => ?_, fun P2 R2 z => (by cases z)⟩
        cases z
        exact ⟨x, hend x, x2, x3⟩
      · rw [if_neg kx]
        obtain ⟨w15, wx⟩ := hX_n kx
        obtain ⟨s1, s2⟩ := r3 _ k0 w15 wx
        generalize hw : (hX f L a).toInt.toNat = w at *
        cases hN : nb f L (cnt w) (tN f L a) with
        | some q =>
          obtain ⟨x, x1, x2, x3⟩ := s1 q hN
          rw [x1, c2_mk]
          refine ⟨fun q2 P2 R2 z => ?_, fun P2 R2 z => (by cases z)⟩
          cases z
          exact ⟨x, hend x, x2, x3⟩
        | none =>
          obtain ⟨x, x1, x2⟩ := s2 hN
          rw [x1, c2_mk]
          have p1 := tN_lt (f := f) (L := L) (a := a) k0
          have p3 := sk_le (f := f) (L := L) (cnt w + 1) (tN f L a)
          have p4 := tS_le (f := f) (L := L) a
          have p5 := sk_in (f := f) (cnt w + 1) (tN f L a) (tN_in ha)
          obtain ⟨c0, c1⟩ := rowH_b (w := w) (v0 := vv f L (tN f L a) 0) (v1 := vv f L (tN f L a) 1) (v2 := vv f L (tN f L a) 2) (gd := gdH w (R 0) (vv f L (tN f L a) 0) (vv f L (tN f L a) 1) (vv f L (tN f L a) 2)) b0 b1
          exact ih m (k + 1) (sk f L (cnt w + 1) (tN f L a)) x (lnP w f L a R P) (lnR w f L a R) (by omega) (by omega) p5 (by omega) x2 c0 c1
end
section
/-! plans: the class -/
theorem rl_P {u2 : Nat → Nat → Int32} {g : Nat → Nat → Int64} {L c : Nat} {k : Int32} (hb : L ≤ 600) (hc : c ≤ 3) : ∀ (n r i p : Nat) (u : Nat → Nat → Int32), r < n → i + r = c → p ≤ L → u 30 1 = iN L → u 30 2 = iN p →
    (∀ q, nb (u 2) L r p = some q → ∃ x, Fx_Rd_readLineX_L65 1 g u2 k (iN c) n (iN i) u = (false, x) ∧ x 29 5 = 1 ∧ x 29 6 = iN q) ∧
    (nb (u 2) L r p = none → ∃ x, Fx_Rd_readLineX_L65 1 g u2 k (iN c) n (iN i) u = (true, Fx_Rd_takeX 1 k (u2 30 4) (iN c) x g) ∧ (∀ b, b ≠ 30 → b ≠ 41 → b ≠ 42 → x b = u b) ∧ x 30 0 = u 30 0 ∧ x 30 1 = u 30 1 ∧ x 30 2 = iN (sk (u 2) L (r + 1) p) ∧
      (∀ j, j < i → x 41 j = u 41 j ∧ x 42 j = u 42 j) ∧ ∀ j, j < r → x 41 (i + j) = tV (u 2) L (sk (u 2) L j p) ∧ x 42 (i + j) = iN (tS (u 2) L (sk (u 2) L j p))) := by
  intro n
  induction n with
  | zero => intro r i p u h; omega
  | succ n ih =>
    intro r i p u hr hir hp h1 h2
    have A := ad_X (g := g) h1 hb hp h2
    have A' := A
    obtain ⟨a0, a1, a2, a3, a4, a5, a6⟩ := A'
    rw [Fx_Rd_readLineX_L65_s]
    cases r with
    | zero =>
      rw [if_pos ((iN_le (by omega) (by omega)).mpr (by omega))]
      have e : (xq_lt (Fx_Tk_advanceX u g) fun y => if (y 30 3) = (3 : Int32) then (xq_lt (Fx_Rd_takeX 1 k (u2 30 4) (iN c) y g) fun z => (true, z)) else (xq_c2 (Fx_Rd_breaksOffX y g) fun t z => (t, z))) = (if tK (u 2) L p = 3 then (true, Fx_Rd_takeX 1 k (u2 30 4) (iN c) (Fx_Tk_advanceX u g) g) else (false, ms (ms (Fx_Tk_advanceX u g) 29 5 1) 29 6 (iN (tS (u 2) L p)))) := by
        rw [← a4, ← a5]
        rfl
      rw [e]
      unfold nb
      by_cases q : tK (u 2) L p = 3
      · rw [if_pos q, if_pos q]
        refine ⟨fun q h => (by cases h), fun _ => ⟨Fx_Tk_advanceX u g, rfl, fun b hb _ _ => a0 b hb, a1, a2, a3, fun j _ => ?_, fun j hj => by omega⟩⟩
        rw [a0 41 (by decide), a0 42 (by decide)]
        exact ⟨rfl, rfl⟩
      · rw [if_neg q, if_neg q]
        refine ⟨fun z h => ?_, fun h => (by cases h)⟩
        cases h
        exact ⟨_, rfl, rfl, rfl⟩
    | succ r =>
      rw [if_neg (fun z => by have := (iN_le (by omega) (by omega)).mp z; omega), iN_cl (by omega), iN_s]
      have e : (xq_lt (Fx_Tk_advanceX u g) fun y => if (y 30 3) = (2 : Int32) then (xq_lt (ms y 41 i (y 30 5)) fun y1 => xq_lt (ms y1 42 i (y 30 4)) fun y2 => (Fx_Rd_readLineX_L65 1 g u2 k (iN c) n) (iN (i + 1)) y2) else (xq_c2 (Fx_Rd_breaksOffX y g) fun t z => (t, z))) = (if tK (u 2) L p = 2 then Fx_Rd_readLineX_L65 1 g u2 k (iN c) n (iN (i + 1)) (ms (ms (Fx_Tk_advanceX u g) 41 i ((Fx_Tk_advanceX u g) 30 5)) 42 i ((Fx_Tk_advanceX u g) 30 4)) else (false, ms (ms (Fx_Tk_advanceX u g) 29 5 1) 29 6 (iN (tS (u 2) L p)))) := by
        rw [← a4, ← a5]
        rfl
      rw [e]
      unfold nb
      by_cases q : tK (u 2) L p = 2
      · rw [if_pos q, if_pos q]
        have hy2 : (ms (ms (Fx_Tk_advanceX u g) 41 i ((Fx_Tk_advanceX u g) 30 5)) 42 i ((Fx_Tk_advanceX u g) 30 4)) 2 = u 2 := a0 2 (by decide)
        obtain ⟨i1, i2⟩ := ih r (i + 1) (tN (u 2) L p) (ms (ms (Fx_Tk_advanceX u g) 41 i ((Fx_Tk_advanceX u g) 30 5)) 42 i ((Fx_Tk_advanceX u g) 30 4)) (by omega) (by omega) (tN_in hp) (a2.trans h1) a3
        rw [hy2] at i1 i2
        refine ⟨i1, fun h => ?_⟩
        obtain ⟨x, e1, e2, e3, e4, e5, e6, e7⟩ := i2 h
        refine ⟨x, e1, fun b h30 h41 h42 => ?_, e3.trans a1, e4.trans a2, e5, fun j hj => ?_, fun j hj => ?_⟩
        · rw [e2 b h30 h41 h42, ms_c1 h42, ms_c1 h41, a0 b h30]
        · obtain ⟨g1, g2⟩ := e6 j (by omega)
          rw [g1, g2]
          refine ⟨?_, ?_⟩
          · rw [ms_c1 (by decide), ms_i1 (by omega), a0 41 (by decide)]
          · rw [ms_i1 (by omega), ms_c1 (by decide), a0 42 (by decide)]
        · cases j with
          | zero =>
            obtain ⟨g1, g2⟩ := e6 i (by omega)
            rw [Nat.add_zero, g1, g2]
            refine ⟨?_, ?_⟩
            · rw [ms_c1 (by decide), ms_e1]
              exact a6 q
            · rw [ms_e1]
              exact a5
          | succ j =>
            have := e7 j (by omega)
            rw [show i + (j + 1) = i + 1 + j by omega]
            exact this
      · rw [if_neg q, if_neg q]
        refine ⟨fun z h => ?_, fun h => (by cases h)⟩
        cases h
        exact ⟨_, rfl, rfl, rfl⟩
def chP (w i : Nat) (v : Int32) : Bool := decide ((sAr 4).getD (3 * w + i) 0 ≤ v) && decide (v ≤ (sAr 5).getD (3 * w + i) 0)
def cnP (w : Nat) : Nat := [2, 2, 2, 2, 1].getD w 0
theorem cnP_b : ∀ w, w < 5 → 1 ≤ cnP w ∧ cnP w ≤ 2 ∧ (sAr 3).getD w 0 = iN (cnP w) ∧ (cnP w ≤ 1 ↔ w = 4) := by decide +kernel
theorem cp_X {u : MM} {g : GG} {w i : Nat} (hw : w < 5) (hi : i < 3) : Fx_Rd_canBeInPlanX (iN w) (iN i) u g = chP w i (u 41 i) := by
  unfold Fx_Rd_canBeInPlanX chP
  show (if u 41 (iN i).toNatClampNeg < (sAr 4).getD ((iN 3 * iN w) + iN i).toNatClampNeg 0 then false else (if (sAr 5).getD ((iN 3 * iN w) + iN i).toNatClampNeg 0 < u 41 (iN i).toNatClampNeg then false else true)) = _
  rw [iN_cl (by omega), iN_m, iN_a, iN_cl (by omega)]
  by_cases h : u 41 i < (sAr 4).getD (3 * w + i) 0
  · rw [if_pos h, decide_eq_false (fun q => lt_le_no h q)]; rfl
  · rw [if_neg h, decide_eq_true (i_nlt h)]
    by_cases h2 : (sAr 5).getD (3 * w + i) 0 < u 41 i
    · rw [if_pos h2, decide_eq_false (fun q => lt_le_no h2 q)]; rfl
    · rw [if_neg h2, decide_eq_true (i_nlt h2)]; rfl
theorem tp_L {u0 : MM} {g : GG} {w c : Nat} (hw : w < 5) (hc : c ≤ 2) : ∀ (n i : Nat) (u : MM), c - i < n → i ≤ c → ∃ x, Fx_Rd_takeX_L36 1 (iN w) (iN c) u0 g n (iN i) u = (Fx_W_addKX (iN w) (u0 41 0) (if c ≤ 1 then -1 else u0 41 1) x g).2 ∧ (∀ b, b ≠ 29 → x b = u b) ∧ PR x = fo (fun j v => chP w j v) (u 41) (u 42) c i (PR u) := by
  intro n
  induction n with
  | zero => intro i u h; omega
  | succ n ih =>
    intro i u h hi
    rw [Fx_Rd_takeX_L36_s]
    by_cases k : c ≤ i
    · refine ⟨u, ?_, fun _ _ => rfl, (fo_e (by omega)).symm⟩
      rw [if_pos ((iN_le (by omega) (by omega)).mpr k), if_neg (show ¬ (1 : Int32) = 0 by decide)]
      by_cases q : c ≤ 1
      · rw [if_pos (show iN c ≤ (1 : Int32) from (iN_le (b := 1) (by omega) (by omega)).mpr q), if_pos q]
        rfl
      · rw [if_neg (show ¬ iN c ≤ (1 : Int32) from fun z => q ((iN_le (b := 1) (by omega) (by omega)).mp z)), if_neg q]
        rfl
    · rw [if_neg (fun z => k ((iN_le (by omega) (by omega)).mp z)), if_neg (show ¬ (1 : Int32) = 0 by decide), iN_cl (by omega)]
      show ∃ x, (if Fx_Rd_canBeInPlanX (iN w) (iN i) u g = true then Fx_Rd_takeX_L36 1 (iN w) (iN c) u0 g n (iN i + 1) u else Fx_Rd_takeX_L36 1 (iN w) (iN c) u0 g n (iN i + 1) (Fx_Rd_rememberX 2 (u 42 i) u g)) = _ ∧ _
      rw [cp_X hw (by omega), iN_s, fo_s (by omega)]
      by_cases q : chP w i (u 41 i) = true
      · rw [if_pos q, rmb_t q]
        exact ih (i + 1) u (by omega) (by omega)
      · rw [if_neg q, rmb_f q]
        obtain ⟨r1, r2⟩ := re_X (u := u) (g := g) (f := 2) (p := u 42 i)
        obtain ⟨x, h1, h2, h3⟩ := ih (i + 1) (Fx_Rd_rememberX 2 (u 42 i) u g) (by omega) (by omega)
        rw [r2 41 (by decide), r2 42 (by decide), r1] at h3
        exact ⟨x, h1, fun b hb => (h2 b hb).trans (r2 b hb), h3⟩
theorem tk_P {u : MM} {g : GG} {w c : Nat} {first : Int32} (hw : w < 5) (hc : c ≤ 2) : ∃ x, Fx_Rd_takeX 1 (iN w) first (iN c) u g = (Fx_W_addKX (iN w) (u 41 0) (if c ≤ 1 then -1 else u 41 1) x g).2 ∧ (∀ b, b ≠ 29 → x b = u b) ∧ PR x = fo (fun j v => chP w j v) (u 41) (u 42) c 0 (rmb (decide (u 37 0 < 12)) 3 first (PR u)) := by
  have e : Fx_Rd_takeX 1 (iN w) first (iN c) u g = (if u 37 0 < 12 then Fx_Rd_takeX_L36 1 (iN w) (iN c) u g 4 (iN 0) u else Fx_Rd_takeX_L36 1 (iN w) (iN c) u g 4 (iN 0) (Fx_Rd_rememberX 3 first u g)) := rfl
  rw [e]
  by_cases q : u 37 0 < 12
  · rw [if_pos q, decide_eq_true q, rmb_t rfl]
    exact tp_L (u0 := u) (g := g) hw hc 4 0 u (by omega) (by omega)
  · rw [if_neg q, decide_eq_false q, rmb_f (by decide)]
    obtain ⟨r1, r2⟩ := re_X (u := u) (g := g) (f := 3) (p := first)
    obtain ⟨x, h1, h2, h3⟩ := tp_L (u0 := u) (g := g) hw hc 4 0 (Fx_Rd_rememberX 3 first u g) (by omega) (by omega)
    rw [r2 41 (by decide), r2 42 (by decide), r1] at h3
    exact ⟨x, h1, fun b hb => (h2 b hb).trans (r2 b hb), h3⟩
/-- a plan's row behind line w -/
def rowP (w : Nat) (R : Nat → Int32) (v0 v1 : Int32) : Nat → Int32 := if R 0 < 12 then upd (upd (upd (upd R (1 + 3 * (R 0).toInt.toNat) (iN w)) (2 + 3 * (R 0).toInt.toNat) v0) (3 + 3 * (R 0).toInt.toNat) (if w = 4 then -1 else v1)) 0 (R 0 + 1) else R
def lnPP (w : Nat) (f : Nat → Int32) (L a : Nat) (R : Nat → Int32) (P : Int32 × Int32) : Int32 × Int32 := fo (fun j x => chP w j x) (vv f L (tN f L a)) (pp f L (tN f L a)) (cnP w) 0 (rmb (decide (R 0 < 12)) 3 (iN (tS f L a)) P)
def lnPR (w : Nat) (f : Nat → Int32) (L a : Nat) (R : Nat → Int32) : Nat → Int32 := rowP w R (vv f L (tN f L a) 0) (vv f L (tN f L a) 1)
theorem rowP_b {w : Nat} {R : Nat → Int32} {v0 v1 : Int32} (b0 : Bd 0 12 (R 0)) : Bd 0 12 (rowP w R v0 v1 0) := by
  unfold rowP
  by_cases q : R 0 < 12
  · rw [if_pos q]
    show Bd 0 12 (R 0 + 1)
    have q1 := Int32.lt_iff_toInt_lt.mp q
    have e12 : (12 : Int32).toInt = 12 := rfl
    have e1 : (1 : Int32).toInt = 1 := rfl
    have e : (R 0 + 1).toInt = (R 0).toInt + 1 := by rw [ti_add (by have := b0.1; omega) (by omega), e1]
    rw [Bd, e]
    have := b0.1
    omega
  · rw [if_neg q]; exact b0
def RepP (u : MM) (R : Nat → Int32) : Prop := u 37 0 = R 0 ∧ ∀ k, k < (R 0).toInt.toNat → u 38 k = R (1 + 3 * k) ∧ u 39 k = R (2 + 3 * k) ∧ u 40 k = R (3 + 3 * k)
theorem ak_X {u : MM} {g : GG} {R : Nat → Int32} {w : Nat} {v0 v1 : Int32} (b0 : Bd 0 12 (R 0)) (h : RepP u R) : RepP (Fx_W_addKX (iN w) v0 (if w = 4 then -1 else v1) u g).2 (rowP w R v0 v1) ∧ ∀ b, b ≠ 37 → b ≠ 38 → b ≠ 39 → b ≠ 40 → (Fx_W_addKX (iN w) v0 (if w = 4 then -1 else v1) u g).2 b = u b := by
  obtain ⟨r0, r1⟩ := h
  unfold Fx_W_addKX rowP
  rw [r0]
  by_cases q : R 0 < 12
  · have q1 := Int32.lt_iff_toInt_lt.mp q
    have e12 : (12 : Int32).toInt = 12 := rfl
    have e1 : (1 : Int32).toInt = 1 := rfl
    have hc : (R 0).toNatClampNeg = (R 0).toInt.toNat := rfl
    have hs : (R 0 + 1).toInt.toNat = (R 0).toInt.toNat + 1 := by
      rw [ti_add (by have := b0.1; omega) (by omega), e1]
      have := b0.1
      omega
    rw [if_pos q, if_pos q, hc]
    simp only [xq_lt]
    generalize (if w = 4 then (-1 : Int32) else v1) = M
    refine ⟨⟨rfl, fun k hk => ?_⟩, fun b h37 h38 h39 h40 => ?_⟩
    · have e0 : upd (upd (upd (upd R (1 + 3 * (R 0).toInt.toNat) (iN w)) (2 + 3 * (R 0).toInt.toNat) v0) (3 + 3 * (R 0).toInt.toNat) M) 0 (R 0 + 1) 0 = R 0 + 1 := rfl
      rw [e0, hs] at hk
      have hg : ¬ k = (R 0).toInt.toNat → u 38 k = R (1 + 3 * k) ∧ u 39 k = R (2 + 3 * k) ∧ u 40 k = R (3 + 3 * k) := fun y => r1 k (by omega)
      generalize (R 0).toInt.toNat = r at *
      refine ⟨?_, ?_, ?_⟩
      · show (if k = r then iN w else u 38 k) = _
        unfold upd
        rw [if_neg (show ¬ 1 + 3 * k = 0 by omega), if_neg (show ¬ 1 + 3 * k = 3 + 3 * r by omega), if_neg (show ¬ 1 + 3 * k = 2 + 3 * r by omega)]
        by_cases y : k = r
        · rw [if_pos y, if_pos (by omega)]
        · rw [if_neg y, if_neg (by omega)]; exact (hg y).1
      · show (if k = r then v0 else u 39 k) = _
        unfold upd
        rw [if_neg (show ¬ 2 + 3 * k = 0 by omega), if_neg (show ¬ 2 + 3 * k = 3 + 3 * r by omega)]
        by_cases y : k = r
        · rw [if_pos y, if_pos (by omega)]
        · rw [if_neg y, if_neg (by omega), if_neg (by omega)]; exact (hg y).2.1
      · show (if k = r then M else u 40 k) = _
        unfold upd
        rw [if_neg (show ¬ 3 + 3 * k = 0 by omega)]
        by_cases y : k = r
        · rw [if_pos y, if_pos (by omega)]
        · rw [if_neg y, if_neg (by omega), if_neg (by omega), if_neg (by omega)]; exact (hg y).2.2
    · rw [ms_c1 h37, ms_c1 h40, ms_c1 h39, ms_c1 h38]
  · rw [if_neg q, if_neg q]
    exact ⟨⟨r0, r1⟩, fun _ _ _ _ _ => rfl⟩
def CPS (u : MM) (f : Nat → Int32) (L a : Nat) (P : Int32 × Int32) (R : Nat → Int32) : Prop := u 2 = f ∧ u 30 1 = iN L ∧ u 30 2 = iN a ∧ PR u = P ∧ RepP u R
theorem rp_p {x u : MM} {R : Nat → Int32} (h : RepP u R) (h37 : x 37 = u 37) (h38 : x 38 = u 38) (h39 : x 39 = u 39) (h40 : x 40 = u 40) : RepP x R := by
  unfold RepP
  rw [h37, h38, h39, h40]
  exact h
theorem cp_R {u : MM} {g : GG} {f : Nat → Int32} {L a : Nat} {P : Int32 × Int32} {R : Nat → Int32} (hb : L ≤ 600) (ha : a ≤ L) (b0 : Bd 0 12 (R 0)) (h : CPS u f L a P R) :
    (tK f L a = 0 → ∃ x, Fx_Rd_readLineX 1 u g = (false, x) ∧ PR x = P ∧ RepP x R) ∧
    (¬ tK f L a = 0 → pX f L a = -1 → ∃ x, Fx_Rd_readLineX 1 u g = (false, x) ∧ x 29 5 = 1 ∧ x 29 6 = iN (tS f L a)) ∧
    (∀ w, ¬ tK f L a = 0 → w < 5 → pX f L a = iN w → (∀ q, nb f L (cnP w) (tN f L a) = some q → ∃ x, Fx_Rd_readLineX 1 u g = (false, x) ∧ x 29 5 = 1 ∧ x 29 6 = iN q) ∧
      (nb f L (cnP w) (tN f L a) = none → ∃ x, Fx_Rd_readLineX 1 u g = (true, x) ∧ CPS x f L (sk f L (cnP w + 1) (tN f L a)) (lnPP w f L a R P) (lnPR w f L a R))) := by
  obtain ⟨c1, c2, c3, c4, c5⟩ := h
  have A := ad_X (g := g) c2 hb ha c3
  have hl := lo_1 (g := g) (sort := 1) (by decide) c2 hb ha A
  rw [c1] at A hl
  obtain ⟨a0, a1, a2, a3, a4, a5, a6⟩ := A
  have e : Fx_Rd_readLineX 1 u g = (if tK f L a = 0 then (false, Fx_Tk_advanceX u g) else (if pX f L a = -1 then (false, ms (ms (Fx_Tk_advanceX u g) 29 5 1) 29 6 (iN (tS f L a))) else Fx_Rd_readLineX_L65 1 g (Fx_Tk_advanceX u g) (pX f L a) ((sAr 3).getD (pX f L a).toNatClampNeg 0) 3 (iN 0) (Fx_Tk_advanceX u g))) := by
    rw [← a4, ← hl, ← a5]
    unfold Fx_Rd_readLineX
    rw [xqb0]
    by_cases z0 : Fx_Tk_advanceX u g 30 3 = (0 : Int32)
    · rw [if_pos z0, if_pos z0]
    · rw [if_neg z0, if_neg z0, xqb0]
      by_cases z1 : Fx_Rd_lineOfX 1 (Fx_Tk_advanceX u g) g = (-1 : Int32)
      · rw [if_pos z1, if_pos z1]; rfl
      · rw [if_neg z1, if_neg z1, if_neg (show ¬ (1 : Int32) = 0 by decide), xqb0]; rfl
  have hrep : RepP (Fx_Tk_advanceX u g) R := rp_p c5 (a0 37 (by decide)) (a0 38 (by decide)) (a0 39 (by decide)) (a0 40 (by decide))
  have hpr : PR (Fx_Tk_advanceX u g) = P := by
    unfold PR
    rw [a0 29 (by decide)]
    exact c4
  refine ⟨fun k => ?_, fun k kx => ?_, fun w k w5 kx => ?_⟩
  · rw [e, if_pos k]
    exact ⟨_, rfl, hpr, hrep⟩
  · rw [e, if_neg k, if_pos kx]
    exact ⟨_, rfl, rfl, rfl⟩
  · obtain ⟨k1, k3, kc, k4⟩ := cnP_b w w5
    rw [e, if_neg k, kx, if_neg (iN_m1 (by omega)), iN_cl (by omega), kc]
    obtain ⟨q1, q2⟩ := rl_P (u2 := Fx_Tk_advanceX u g) (g := g) (L := L) (c := cnP w) (k := iN w) hb (by omega) 3 (cnP w) 0 (tN f L a) (Fx_Tk_advanceX u g) (by omega) (by omega) (tN_in ha) (a2.trans c2) a3
    have e2 : Fx_Tk_advanceX u g 2 = f := (a0 2 (by decide)).trans c1
    rw [e2] at q1 q2
    refine ⟨q1, fun hN => ?_⟩
    obtain ⟨y, y1, y2, y3, y4, y5, _, y7⟩ := q2 hN
    obtain ⟨x, x1, x2, x3⟩ := tk_P (u := y) (g := g) (w := w) (c := cnP w) (first := Fx_Tk_advanceX u g 30 4) w5 k3
    have v41 : ∀ j, j < cnP w → y 41 j = vv f L (tN f L a) j := fun j hj => by have := (y7 j hj).1; rw [Nat.zero_add] at this; exact this
    have v42 : ∀ j, j < cnP w → y 42 j = pp f L (tN f L a) j := fun j hj => by have := (y7 j hj).2; rw [Nat.zero_add] at this; exact this
    have hy : RepP y R := rp_p hrep (y2 37 (by decide) (by decide) (by decide)) (y2 38 (by decide) (by decide) (by decide)) (y2 39 (by decide) (by decide) (by decide)) (y2 40 (by decide) (by decide) (by decide))
    have py : PR y = P := by
      unfold PR
      rw [y2 29 (by decide) (by decide) (by decide)]
      exact hpr
    rw [hy.1, py, a5, fo_c v41 v42 (cnP w) 0 _ (by omega)] at x3
    have x3' : PR x = lnPP w f L a R P := x3
    have hx : RepP x R := rp_p hy (x2 37 (by decide)) (x2 38 (by decide)) (x2 39 (by decide)) (x2 40 (by decide))
    have hm : (if cnP w ≤ 1 then (-1 : Int32) else y 41 1) = if w = 4 then -1 else vv f L (tN f L a) 1 := by
      by_cases z : w = 4
      · rw [if_pos (k4.mpr z), if_pos z]
      · have z2 : ¬ cnP w ≤ 1 := fun q => z (k4.mp q)
        rw [if_neg z2, if_neg z, v41 1 (by omega)]
    rw [v41 0 (by omega), hm] at x1
    obtain ⟨t1, t2⟩ := ak_X (u := x) (g := g) (w := w) (v0 := vv f L (tN f L a) 0) (v1 := vv f L (tN f L a) 1) b0 hx
    refine ⟨_, by rw [y1, x1], ?_, ?_, ?_, ?_, t1⟩
    · rw [t2 2 (by decide) (by decide) (by decide) (by decide), x2 2 (by decide), y2 2 (by decide) (by decide) (by decide), e2]
    · rw [t2 30 (by decide) (by decide) (by decide) (by decide), x2 30 (by decide), y4, a2, c2]
    · rw [t2 30 (by decide) (by decide) (by decide) (by decide), x2 30 (by decide), y5]
    · unfold PR
      rw [t2 29 (by decide) (by decide) (by decide) (by decide)]
      exact x3'
/-- a plan's text from a on -/
def PT (f : Nat → Int32) (L : Nat) : Nat → Nat → Int32 × Int32 → (Nat → Int32) → Option Nat × (Int32 × Int32) × (Nat → Int32)
  | 0, _, P, R => (none, P, R)
  | n + 1, a, P, R => if tK f L a = 0 then (none, P, R) else if pX f L a = -1 then (some (tS f L a), P, R) else
    match nb f L (cnP (pX f L a).toInt.toNat) (tN f L a) with
    | some q => (some q, P, R)
    | none => PT f L n (sk f L (cnP (pX f L a).toInt.toNat + 1) (tN f L a)) (lnPP (pX f L a).toInt.toNat f L a R P) (lnPR (pX f L a).toInt.toNat f L a R)
theorem pX_n {f : Nat → Int32} {L a : Nat} (h : ¬ pX f L a = -1) : (pX f L a).toInt.toNat < 5 ∧ pX f L a = iN (pX f L a).toInt.toNat := by
  rcases pX_c (f := f) (L := L) (a := a) with ⟨h1, _⟩ | ⟨j, h1, h2, _⟩
  · exact absurd h1 h
  · rw [h2, iN_ti (by omega)]
    have e : ((j : Nat) : Int).toNat = j := by omega
    rw [e]
    exact ⟨h1, rfl⟩
theorem cp_L {f : Nat → Int32} {L : Nat} {g : GG} (hb : L ≤ 600) : ∀ (n m k a : Nat) (u : MM) (P : Int32 × Int32) (R : Nat → Int32), L - a + 1 < n → L - a < m → a ≤ L → k ≤ a → CPS u f L a P R → Bd 0 12 (R 0) →
    (∀ q P2 R2, PT f L m a P R = (some q, P2, R2) → ∃ x, Fx_Rd_readX_L39 1 g n 1 (iN k) u = Fx_Rd_readX_J65 1 g x ∧ x 29 5 = 1 ∧ x 29 6 = iN q) ∧
    (∀ P2 R2, PT f L m a P R = (none, P2, R2) → ∃ x, Fx_Rd_readX_L39 1 g n 1 (iN k) u = Fx_Rd_readX_J65 1 g x ∧ PR x = P2 ∧ RepP x R2) := by
  intro n
  induction n with
  | zero => intro m k a u P R h; omega
  | succ n ih =>
    intro m k a u P R hn hm ha hk h b0
    cases m with
    | zero => omega
    | succ m =>
    have hH : PT f L (m + 1) a P R = if tK f L a = 0 then (none, P, R) else if pX f L a = -1 then (some (tS f L a), P, R) else
      match nb f L (cnP (pX f L a).toInt.toNat) (tN f L a) with
      | some q => (some q, P, R)
      | none => PT f L m (sk f L (cnP (pX f L a).toInt.toNat + 1) (tN f L a)) (lnPP (pX f L a).toInt.toNat f L a R P) (lnPR (pX f L a).toInt.toNat f L a R) := rfl
    obtain ⟨r1, r2, r3⟩ := cp_R (g := g) hb ha b0 h
    have hend : ∀ x : MM, Fx_Rd_readX_L39 1 g n 0 (iN (k + 1)) x = Fx_Rd_readX_J65 1 g x := by
      intro x
      cases n with
      | zero => omega
      | succ n =>
        rw [Fx_Rd_readX_L39_s, if_pos rfl]
        split <;> rfl
    rw [hH, Fx_Rd_readX_L39_s, if_neg (show ¬ (600 : Int32) < iN k from fun z => by have := (iN_lt (a := 600) (by omega) (by omega)).mp z; omega), if_neg (show ¬ (1 : Int32) = 0 by decide), iN_s]
    by_cases k0 : tK f L a = 0
    · rw [if_pos k0]
      obtain ⟨x, x1, x2, x3⟩ := r1 k0
      rw [x1, c2_mk]
      refine ⟨fun q P2 R2 z => (by cases z), fun P2 R2 z => ?_⟩
      cases z
      exact ⟨x, hend x, x2, x3⟩
    · rw [if_neg k0]
      by_cases kx : pX f L a = -1
      · rw [if_pos kx]
        obtain ⟨x, x1, x2, x3⟩ := r2 k0 kx
        rw [x1, c2_mk]
        refine ⟨fun q P2 R2 z => ?_, fun P2 R2 z => (by cases z)⟩
        cases z
        exact ⟨x, hend x, x2, x3⟩
      · rw [if_neg kx]
        obtain ⟨w5, wx⟩ := pX_n kx
        obtain ⟨s1, s2⟩ := r3 _ k0 w5 wx
        generalize hw : (pX f L a).toInt.toNat = w at *
        cases hN : nb f L (cnP w) (tN f L a) with
        | some q =>
          obtain ⟨x, x1, x2, x3⟩ := s1 q hN
          rw [x1, c2_mk]
          refine ⟨fun q2 P2 R2 z => ?_, fun P2 R2 z => (by cases z)⟩
          cases z
          exact ⟨x, hend x, x2, x3⟩
        | none =>
          obtain ⟨x, x1, x2⟩ := s2 hN
          rw [x1, c2_mk]
          have p1 := tN_lt (f := f) (L := L) (a := a) k0
          have p3 := sk_le (f := f) (L := L) (cnP w + 1) (tN f L a)
          have p4 := tS_le (f := f) (L := L) a
          have p5 := sk_in (f := f) (cnP w + 1) (tN f L a) (tN_in ha)
          have c0 := rowP_b (w := w) (v0 := vv f L (tN f L a) 0) (v1 := vv f L (tN f L a) 1) b0
          exact ih m (k + 1) (sk f L (cnP w + 1) (tN f L a)) x (lnPP w f L a R P) (lnPR w f L a R) (by omega) (by omega) p5 (by omega) x2 c0
end
section
/-! plans: the reference -/
theorem wl_0 {at0 : Int32} {v : MM} {g : GG} : Fx_M_workLineX at0 v g = Fx_M_workLineX_J16 at0 v g (rw0 v g) := by
  unfold Fx_M_workLineX rw0
  by_cases h : v 162 11 = 2
  · rw [if_pos h, if_pos h]; rfl
  · rw [if_neg h, if_neg h]
theorem wl_w0 {at0 : Int32} {v : MM} {g : GG} (hk : ∀ i, i < 5 → (lg_cmp (rw0 v g) (kW (pwi i)) = 0 ↔ i = 0)) : Fx_M_workLineX at0 v g = Fx_M_workLineX_J78 at0 v g 0 := by
  have h0 : (lg_cmp (rw0 v g) (1835363940 : Int64) = 0) = True := eq_true ((hk 0 (by decide)).mpr rfl)
  have h1 : (lg_cmp (rw0 v g) (7106423 : Int64) = 0) = False := eq_false (fun q => absurd ((hk 1 (by decide)).mp q) (by decide))
  have h2 : (lg_cmp (rw0 v g) (512869295470 : Int64) = 0) = False := eq_false (fun q => absurd ((hk 2 (by decide)).mp q) (by decide))
  have h3 : (lg_cmp (rw0 v g) (491496238692 : Int64) = 0) = False := eq_false (fun q => absurd ((hk 3 (by decide)).mp q) (by decide))
  have h4 : (lg_cmp (rw0 v g) (7304564 : Int64) = 0) = False := eq_false (fun q => absurd ((hk 4 (by decide)).mp q) (by decide))
  rw [wl_0]
  simp only [Fx_M_workLineX_J16, h0, h1, h2, h3, h4, if_true, if_false]
theorem wl_w1 {at0 : Int32} {v : MM} {g : GG} (hk : ∀ i, i < 5 → (lg_cmp (rw0 v g) (kW (pwi i)) = 0 ↔ i = 1)) : Fx_M_workLineX at0 v g = Fx_M_workLineX_J78 at0 v g 1 := by
  have h0 : (lg_cmp (rw0 v g) (1835363940 : Int64) = 0) = False := eq_false (fun q => absurd ((hk 0 (by decide)).mp q) (by decide))
  have h1 : (lg_cmp (rw0 v g) (7106423 : Int64) = 0) = True := eq_true ((hk 1 (by decide)).mpr rfl)
  have h2 : (lg_cmp (rw0 v g) (512869295470 : Int64) = 0) = False := eq_false (fun q => absurd ((hk 2 (by decide)).mp q) (by decide))
  have h3 : (lg_cmp (rw0 v g) (491496238692 : Int64) = 0) = False := eq_false (fun q => absurd ((hk 3 (by decide)).mp q) (by decide))
  have h4 : (lg_cmp (rw0 v g) (7304564 : Int64) = 0) = False := eq_false (fun q => absurd ((hk 4 (by decide)).mp q) (by decide))
  rw [wl_0]
  simp only [Fx_M_workLineX_J16, h0, h1, h2, h3, h4, if_true, if_false]
theorem wl_w2 {at0 : Int32} {v : MM} {g : GG} (hk : ∀ i, i < 5 → (lg_cmp (rw0 v g) (kW (pwi i)) = 0 ↔ i = 2)) : Fx_M_workLineX at0 v g = Fx_M_workLineX_J78 at0 v g 2 := by
  have h0 : (lg_cmp (rw0 v g) (1835363940 : Int64) = 0) = False := eq_false (fun q => absurd ((hk 0 (by decide)).mp q) (by decide))
  have h1 : (lg_cmp (rw0 v g) (7106423 : Int64) = 0) = False := eq_false (fun q => absurd ((hk 1 (by decide)).mp q) (by decide))
  have h2 : (lg_cmp (rw0 v g) (512869295470 : Int64) = 0) = True := eq_true ((hk 2 (by decide)).mpr rfl)
  have h3 : (lg_cmp (rw0 v g) (491496238692 : Int64) = 0) = False := eq_false (fun q => absurd ((hk 3 (by decide)).mp q) (by decide))
  have h4 : (lg_cmp (rw0 v g) (7304564 : Int64) = 0) = False := eq_false (fun q => absurd ((hk 4 (by decide)).mp q) (by decide))
  rw [wl_0]
  simp only [Fx_M_workLineX_J16, h0, h1, h2, h3, h4, if_true, if_false]
theorem wl_w3 {at0 : Int32} {v : MM} {g : GG} (hk : ∀ i, i < 5 → (lg_cmp (rw0 v g) (kW (pwi i)) = 0 ↔ i = 3)) : Fx_M_workLineX at0 v g = Fx_M_workLineX_J78 at0 v g 3 := by
  have h0 : (lg_cmp (rw0 v g) (1835363940 : Int64) = 0) = False := eq_false (fun q => absurd ((hk 0 (by decide)).mp q) (by decide))
  have h1 : (lg_cmp (rw0 v g) (7106423 : Int64) = 0) = False := eq_false (fun q => absurd ((hk 1 (by decide)).mp q) (by decide))
  have h2 : (lg_cmp (rw0 v g) (512869295470 : Int64) = 0) = False := eq_false (fun q => absurd ((hk 2 (by decide)).mp q) (by decide))
  have h3 : (lg_cmp (rw0 v g) (491496238692 : Int64) = 0) = True := eq_true ((hk 3 (by decide)).mpr rfl)
  have h4 : (lg_cmp (rw0 v g) (7304564 : Int64) = 0) = False := eq_false (fun q => absurd ((hk 4 (by decide)).mp q) (by decide))
  rw [wl_0]
  simp only [Fx_M_workLineX_J16, h0, h1, h2, h3, h4, if_true, if_false]
theorem wl_w4 {at0 : Int32} {v : MM} {g : GG} (hk : ∀ i, i < 5 → (lg_cmp (rw0 v g) (kW (pwi i)) = 0 ↔ i = 4)) : Fx_M_workLineX at0 v g = Fx_M_workLineX_J78 at0 v g 4 := by
  have h0 : (lg_cmp (rw0 v g) (1835363940 : Int64) = 0) = False := eq_false (fun q => absurd ((hk 0 (by decide)).mp q) (by decide))
  have h1 : (lg_cmp (rw0 v g) (7106423 : Int64) = 0) = False := eq_false (fun q => absurd ((hk 1 (by decide)).mp q) (by decide))
  have h2 : (lg_cmp (rw0 v g) (512869295470 : Int64) = 0) = False := eq_false (fun q => absurd ((hk 2 (by decide)).mp q) (by decide))
  have h3 : (lg_cmp (rw0 v g) (491496238692 : Int64) = 0) = False := eq_false (fun q => absurd ((hk 3 (by decide)).mp q) (by decide))
  have h4 : (lg_cmp (rw0 v g) (7304564 : Int64) = 0) = True := eq_true ((hk 4 (by decide)).mpr rfl)
  rw [wl_0]
  simp only [Fx_M_workLineX_J16, h0, h1, h2, h3, h4, if_true, if_false]
theorem wl_wn {at0 : Int32} {v : MM} {g : GG} (hk : ∀ i, i < 5 → ¬ lg_cmp (rw0 v g) (kW (pwi i)) = 0) : Fx_M_workLineX at0 v g = (false, ms v 162 14 (v 162 10), g) := by
  have h0 : (lg_cmp (rw0 v g) (1835363940 : Int64) = 0) = False := eq_false (hk 0 (by decide))
  have h1 : (lg_cmp (rw0 v g) (7106423 : Int64) = 0) = False := eq_false (hk 1 (by decide))
  have h2 : (lg_cmp (rw0 v g) (512869295470 : Int64) = 0) = False := eq_false (hk 2 (by decide))
  have h3 : (lg_cmp (rw0 v g) (491496238692 : Int64) = 0) = False := eq_false (hk 3 (by decide))
  have h4 : (lg_cmp (rw0 v g) (7304564 : Int64) = 0) = False := eq_false (hk 4 (by decide))
  rw [wl_0]
  simp (config := { decide := true }) only [Fx_M_workLineX_J16, Fx_M_workLineX_J78, h0, h1, h2, h3, h4, if_true, if_false]
  rfl
def wr4 (x2 : MM) (k0 what a b : Int32) : MM := ms (ms (ms (ms x2 170 ((1 : Int32) + ((3 : Int32) * k0)).toNatClampNeg what) 170 ((2 : Int32) + ((3 : Int32) * k0)).toNatClampNeg a) 170 ((3 : Int32) + ((3 : Int32) * k0)).toNatClampNeg b) 170 0 (k0 + 1)
def KP (k0 what : Int32) (x : MM) (_ : GG) (x2 : MM) (g3 : GG) : Bool × MM × GG := if (12 : Int32) ≤ k0 then (true, x2, g3) else (true, wr4 x2 k0 what (x 171 0) (x2 171 1), g3)
theorem wr_R {x2 : MM} {R : Nat → Int32} {a b : Int32} {w : Nat} (b0 : Bd 0 12 (R 0)) (hlt : R 0 < 12) (e : x2 170 = R) : wr4 x2 (R 0) (iN w) a b 170 = upd (upd (upd (upd R (1 + 3 * (R 0).toInt.toNat) (iN w)) (2 + 3 * (R 0).toInt.toNat) a) (3 + 3 * (R 0).toInt.toNat) b) 0 (R 0 + 1) := by
  have q1 := Int32.lt_iff_toInt_lt.mp hlt
  have e12 : (12 : Int32).toInt = 12 := rfl
  have bk : Bd 0 11 (R 0) := ⟨b0.1, by omega⟩
  unfold wr4
  rw [ms_a1, ms_a1, ms_a1, ms_a1, e, ix3 (C := 1) bk rfl (by decide), ix3 (C := 2) bk rfl (by decide), ix3 (C := 3) bk rfl (by decide)]
theorem lt12 {n : Int32} (b : Bd 0 12 n) (h : ¬ n = 12) : n < 12 := by
  rw [Int32.lt_iff_toInt_lt]
  have h2 : n.toInt ≠ 12 := fun z => h (Int32.toInt_inj.mp z)
  have := b.2
  have e : (12 : Int32).toInt = 12 := rfl
  omega
/-- the row that a plan's line leaves -/
theorem kp_X {x x2 : MM} {g2 g3 : GG} {f : Nat → Int32} {L a w : Nat} {P : Int32 × Int32} {R : Nat → Int32} {v0 v1 : Int32} (b0 : Bd 0 12 (R 0)) (h : RSv x2 g3 f L a P R) (h0 : x 171 0 = v0) (h1 : x2 171 1 = v1) (h4 : w ≠ 4) : (KP (R 0) (iN w) x g2 x2 g3).1 = true ∧ RSv (KP (R 0) (iN w) x g2 x2 g3).2.1 (KP (R 0) (iN w) x g2 x2 g3).2.2 f L a P (rowP w R v0 v1) := by
  unfold KP rowP
  by_cases q : R 0 = 12
  · rw [if_pos (show (12 : Int32) ≤ R 0 by rw [q]; decide), if_neg (show ¬ R 0 < 12 by rw [q]; decide)]
    exact ⟨rfl, h⟩
  · have hlt := lt12 b0 q
    rw [if_neg (fun z => lt_le_no hlt z), if_pos hlt, if_neg h4]
    refine ⟨rfl, rs_170 h ?_ rfl rfl⟩
    show wr4 x2 (R 0) (iN w) (x 171 0) (x2 171 1) 170 = _
    rw [wr_R b0 hlt h.2.2.2.2, h0, h1]
theorem j112 {u y : MM} {g : GG} {n : Int32} {w : Nat} {lo hi : Int32} (hn : u 170 0 = n) (hw : w < 4) (hlo : (if w = 3 then (0 : Int32) else 1) = lo) (hhi : (if w = 0 then (10 : Int32) else if w = 3 then 8 else 24) = hi) : Fx_M_workLineX_J112 u g (iN w) y = two 0 8 (fun _ => lo) (fun _ => hi) (KP n (iN w)) (ms (Fx_M_tokenX y g).1 171 1 (-1)) (Fx_M_tokenX y g).2 := by
  subst hlo
  subst hhi
  rcases (show w = 0 ∨ w = 1 ∨ w = 2 ∨ w = 3 by omega) with z | z | z | z
  all_goals
    subst z
    subst hn
    unfold Fx_M_workLineX_J112
    rfl
theorem rs_171 {x : MM} {g : GG} {f : Nat → Int32} {L a i : Nat} {P : Int32 × Int32} {R : Nat → Int32} {v : Int32} (h : RSv x g f L a P R) : RSv (ms x 171 i v) g f L a P R := rs_170 h ((ms_c1 (by decide)).trans h.2.2.2.2) (ms_c1 (by decide)) (ms_c1 (by decide))
theorem c8 : ∀ w, w < 5 → (sAr 4).getD (3 * w + 0) 0 = 0 ∧ (sAr 5).getD (3 * w + 0) 0 = 8 := by decide +kernel
theorem c81 : ∀ w, w < 4 → (sAr 4).getD (3 * w + 1) 0 = (if w = 3 then (0 : Int32) else 1) ∧ (sAr 5).getD (3 * w + 1) 0 = (if w = 0 then (10 : Int32) else if w = 3 then 8 else 24) := by decide +kernel
theorem j112_4 {u y : MM} {g : GG} {f : Nat → Int32} {L a : Nat} {P : Int32 × Int32} {R : Nat → Int32} (hb : L ≤ 600) (hf : ∀ j, j < L → Bd (-128) 127 (f j)) (ha : a ≤ L) (hn : u 170 0 = R 0) (b0 : Bd 0 12 (R 0)) (h : RSv (Fx_M_tokenX y g).1 (Fx_M_tokenX y g).2 f L a P R) (o : OR P (tS f L a)) : OUT (Fx_M_workLineX_J112 u g 4 y) f L 1 a (fo (fun j x => chP 4 j x) (vv f L a) (pp f L a) 1 0 P) (rowP 4 R (vv f L a 0) (vv f L a 1)) := by
  have hN : nn f L 1 a = if tK f L a = 2 then none else some (tS f L a) := rfl
  have e : Fx_M_workLineX_J112 u g 4 y = xq_c3 (Fx_M_take0X 0 8 (ms (Fx_M_tokenX y g).1 171 1 (-1)) (Fx_M_tokenX y g).2) fun t x g2 => if t = true then (if (12 : Int32) ≤ u 170 0 then (true, x, g2) else (true, wr4 x (u 170 0) 4 (x 171 0) (-1), g2)) else (false, x, g2) := rfl
  rw [fo_1, e, hn]
  unfold OUT
  rw [hN]
  have h2 := rs_171 (i := 1) (v := -1) h
  by_cases k : tK f L a = 2
  · obtain ⟨x, g2, e2, m1, m2, m3, m4, m5, m6⟩ := ta_01 (low := 0) (high := 8) hb hf ha h2 o k
    rw [e2, c3_mk, if_pos rfl, if_pos k]
    refine ⟨fun q z => (by cases z), fun _ => ?_⟩
    unfold rowP
    by_cases q : R 0 = 12
    · rw [if_pos (show (12 : Int32) ≤ R 0 by rw [q]; decide), if_neg (show ¬ R 0 < 12 by rw [q]; decide)]
      exact ⟨rfl, m1, m6⟩
    · have hlt := lt12 b0 q
      rw [if_neg (fun z => lt_le_no hlt z), if_pos hlt, if_pos rfl]
      refine ⟨rfl, rs_170 m1 ?_ rfl rfl, m6⟩
      show wr4 x (R 0) (iN 4) (x 171 0) (-1) 170 = _
      rw [wr_R b0 hlt m1.2.2.2.2, m2]
      rfl
  · obtain ⟨x, g2, e2, m1⟩ := ta_00 (low := 0) (high := 8) h2 k
    rw [e2, c3_mk, if_neg (show ¬ false = true by decide), if_neg k]
    refine ⟨fun q z => ?_, fun z => (by cases z)⟩
    cases z
    exact ⟨rfl, m1⟩
theorem pl_X {v : MM} {g : GG} {f : Nat → Int32} {L a : Nat} {P : Int32 × Int32} {R : Nat → Int32} (hb : L ≤ 600) (hf : ∀ j, j < L → Bd (-128) 127 (f j)) (ha : a ≤ L) (h : RSv v g f L a P R) (o : OR P (tS f L a)) (b0 : Bd 0 12 (R 0)) :
    (pX f L a = -1 → Fx_M_workLineX (iN (tS f L a)) v g = (false, ms v 162 14 (iN (tS f L a)), g)) ∧ ∀ w, w < 5 → pX f L a = iN w → OUT (Fx_M_workLineX (iN (tS f L a)) v g) f L (cnP w) (tN f L a) (lnPP w f L a R P) (lnPR w f L a R) := by
  have hT := h.2.2.1
  refine ⟨fun q => ?_, fun w hw q => ?_⟩
  · rcases pX_c (f := f) (L := L) (a := a) with ⟨_, h2⟩ | ⟨j, h1, h2, _⟩
    · rw [wl_wn (fun i hi z => h2 i hi ((rw_i (pwi_lt i hi) hT).mp z)), hT.2.1]
    · exact absurd (h2.symm.trans q) (iN_m1 (by omega))
  · have hwk : wk f (tS f L a) (tN f L a) (tK f L a) (pwi w) = true := by
      rcases pX_c (f := f) (L := L) (a := a) with ⟨h1, _⟩ | ⟨j, h1, h2, h3⟩
      · exact absurd (q.symm.trans h1) (iN_m1 (by omega))
      · rw [← (iN_eq (by omega) (by omega)).mp (h2.symm.trans q)]
        exact h3
    have pinj : ∀ i, i < 5 → ∀ j, j < 5 → pwi i = pwi j → i = j := by decide
    have hk : ∀ i, i < 5 → (lg_cmp (rw0 v g) (kW (pwi i)) = 0 ↔ i = w) := by
      intro i hi
      rw [rw_i (pwi_lt i hi) hT]
      refine ⟨fun z => ?_, fun z => by rw [z]; exact hwk⟩
      exact pinj i hi w hw (wm_u (pwi_lt i hi) (pwi_lt w hw) ((Bool.and_eq_true _ _).mp z).2 ((Bool.and_eq_true _ _).mp hwk).2)
    have hK : tK f L a = 1 := of_decide_eq_true ((Bool.and_eq_true _ _).mp hwk).1
    have hlt := tN_lt (f := f) (L := L) (a := a) (by rw [hK]; decide)
    have hle := tS_le (f := f) (L := L) (tN f L a)
    have hin := tS_in (f := f) (tN_in (f := f) ha)
    have e170 : v 170 0 = R 0 := by rw [h.2.2.2.2]
    -- behind the word: with the full plan remembered, or not
    have key : ∀ y : MM, ∀ Q : Int32 × Int32, y 163 = v 163 → y 162 9 = v 162 9 → y 162 8 = v 162 8 → y 170 = v 170 → LT y Q → OR Q (tS f L (tN f L a)) → OUT (Fx_M_workLineX_J112 v g (iN w) y) f L (cnP w) (tN f L a) (fo (fun j x => chP w j x) (vv f L (tN f L a)) (pp f L (tN f L a)) (cnP w) 0 Q) (rowP w R (vv f L (tN f L a) 0) (vv f L (tN f L a) 1)) := by
      intro y Q y1 y2 y3 y4 y5 y6
      obtain ⟨m1, m2⟩ := rs_t (y := y) (Q := Q) hb hf ha h y1 y2 y3 y4 y5
      by_cases w4 : w = 4
      · subst w4
        exact j112_4 hb hf (tN_in ha) e170 b0 m1 y6
      · have hc : cnP w = 2 := by
          rcases (show w = 0 ∨ w = 1 ∨ w = 2 ∨ w = 3 by omega) with z | z | z | z <;> rw [z] <;> rfl
        rw [hc, fo_2, j112 e170 (by omega) rfl rfl]
        obtain ⟨t1, t2⟩ := two_X (lo0 := 0) (hi0 := 8) (lo1 := fun _ => if w = 3 then (0 : Int32) else 1) (hi1 := fun _ => if w = 0 then (10 : Int32) else if w = 3 then 8 else 24) (K := KP (R 0) (iN w)) hb hf (tN_in ha) (rs_171 (i := 1) (v := -1) m1) y6
        refine ⟨t1, fun z => ?_⟩
        obtain ⟨x, g2, x2, g3, k1, k2, k3, k4, k5, k6, k7, k8, k9, k10⟩ := t2 z
        have ck0 : okn 0 8 (vv f L (tN f L a) 0) = chP w 0 (vv f L (tN f L a) 0) := by
          unfold okn chP
          rw [(c8 w hw).1, (c8 w hw).2]
        have ck1 : okn (if w = 3 then (0 : Int32) else 1) (if w = 0 then (10 : Int32) else if w = 3 then 8 else 24) (vv f L (tN f L a) 1) = chP w 1 (vv f L (tN f L a) 1) := by
          unfold okn chP
          rw [(c81 w (by omega)).1, (c81 w (by omega)).2]
        rw [ck0, ck1] at k7 k8
        rw [k1]
        obtain ⟨s1, s2⟩ := kp_X (g2 := g2) (x := x) (v0 := vv f L (tN f L a) 0) (v1 := vv f L (tN f L a) 1) b0 k7 k2 k4 w4
        exact ⟨s1, s2, k8⟩
    have hJ : Fx_M_workLineX (iN (tS f L a)) v g = Fx_M_workLineX_J78 (iN (tS f L a)) v g (iN w) := by
      rcases (show w = 0 ∨ w = 1 ∨ w = 2 ∨ w = 3 ∨ w = 4 by omega) with z | z | z | z | z
      · subst z; exact wl_w0 hk
      · subst z; exact wl_w1 hk
      · subst z; exact wl_w2 hk
      · subst z; exact wl_w3 hk
      · subst z; exact wl_w4 hk
    rw [hJ]
    unfold Fx_M_workLineX_J78 lnPP lnPR
    rw [if_neg (iN_m1 (by omega)), e170]
    by_cases q12 : R 0 = 12
    · rw [if_pos q12, decide_eq_false (show ¬ R 0 < 12 by rw [q12]; decide), rmb_f (by decide)]
      obtain ⟨l1, l2, l3⟩ := la_X (v := v) (g := g) (f := 3) (t := tS f L a) h.2.2.2.1 o
      exact key (Fx_M_laterX 3 (iN (tS f L a)) v g) (rm P 3 (iN (tS f L a))) (l2 163 (by decide)) (l3 9 (by decide) (by decide)) (l3 8 (by decide) (by decide)) (l2 170 (by decide)) l1 (or_rm o (by omega) (by omega))
    · rw [if_neg q12, decide_eq_true (lt12 b0 q12), rmb_t rfl]
      exact key v P rfl rfl rfl rfl h.2.2.2.1 (or_w o (by omega) (by omega))
/-- how the reference's reader of a plan ends -/
theorem rp_L {f : Nat → Int32} {L : Nat} (hb : L ≤ 600) (hf : ∀ j, j < L → Bd (-128) 127 (f j)) : ∀ (n m a : Nat) (v : MM) (g : GG) (P : Int32 × Int32) (R : Nat → Int32), L - tN f L a < n → L - a < m → a ≤ L → RSv v g f L a P R → OR P (tS f L a) → Bd 0 12 (R 0) →
    (∀ q P2 R2, PT f L m a P R = (some q, P2, R2) → ∃ x g2, Fx_M_readText1X_L55 n 1 v g = Fx_M_readText1X_J122 0 x g2 ∧ x 162 14 = iN q) ∧
    (∀ P2 R2, PT f L m a P R = (none, P2, R2) → ∃ x g2 e, Fx_M_readText1X_L55 n 1 v g = Fx_M_readText1X_J122 1 x g2 ∧ RSv x g2 f L e P2 R2 ∧ OR P2 (tS f L e) ∧ tK f L e = 0 ∧ e ≤ L ∧ Bd 0 12 (R2 0)) := by
  intro n
  induction n with
  | zero => intro m a v g P R h; omega
  | succ n ih =>
    intro m a v g P R hn hm ha h o b0
    cases m with
    | zero => omega
    | succ m =>
    have hT := h.2.2.1
    have hH : PT f L (m + 1) a P R = if tK f L a = 0 then (none, P, R) else if pX f L a = -1 then (some (tS f L a), P, R) else
      match nb f L (cnP (pX f L a).toInt.toNat) (tN f L a) with
      | some q => (some q, P, R)
      | none => PT f L m (sk f L (cnP (pX f L a).toInt.toNat + 1) (tN f L a)) (lnPP (pX f L a).toInt.toNat f L a R P) (lnPR (pX f L a).toInt.toNat f L a R) := rfl
    rw [hH, Fx_M_readText1X_L55_s, if_neg (show ¬ (1 : Int32) = 0 by decide)]
    by_cases k0 : tK f L a = 0
    · rw [if_pos k0, if_pos (show v 162 11 = 0 by rw [hT.2.2.1, k0]; rfl)]
      refine ⟨fun q P2 R2 z => (by cases z), fun P2 R2 z => ?_⟩
      cases z
      exact ⟨v, g, a, rfl, h, o, k0, ha, b0⟩
    · have kz : ¬ v 162 11 = 0 := by
        rw [hT.2.2.1]
        unfold km
        rw [if_neg k0]
        split
        · decide
        · split
          · decide
          · split <;> decide
      rw [if_neg k0, if_neg kz]
      have hv : RSv (ms v 162 18 1) g f L a P R := by
        obtain ⟨r1, r2, ⟨t1, t2, t3, t4, t5⟩, r4, r5⟩ := h
        exact ⟨r1, r2, ⟨t1, t2, t3, t4, t5⟩, r4, r5⟩
      obtain ⟨l1, l2⟩ := pl_X hb hf ha hv o b0
      simp only [xq_lt]
      rw [hT.2.1]
      by_cases kx : pX f L a = -1
      · rw [if_pos kx, l1 kx]
        refine ⟨fun q P2 R2 z => ?_, fun P2 R2 z => (by cases z)⟩
        cases z
        refine ⟨ms (ms v 162 18 1) 162 14 (iN (tS f L a)), g, ?_, rfl⟩
        rw [c3_mk, if_neg (by decide)]
        rfl
      · rw [if_neg kx]
        obtain ⟨w5, wx⟩ := pX_n kx
        obtain ⟨u1, u2⟩ := l2 _ w5 wx
        obtain ⟨n1, n2⟩ := nb_n (f := f) (L := L) (cnP (pX f L a).toInt.toNat) (tN f L a)
        generalize hw : (pX f L a).toInt.toNat = w at *
        obtain ⟨t, x, g2, hz⟩ : ∃ t x g2, Fx_M_workLineX (iN (tS f L a)) (ms v 162 18 1) g = (t, x, g2) := ⟨_, _, _, rfl⟩
        rw [hz] at u1 u2 ⊢
        rw [c3_mk]
        cases hN : nn f L (cnP w) (tN f L a) with
        | some q =>
          rw [n1 q hN]
          obtain ⟨y1, y2⟩ := u1 q hN
          have y1' : t = false := y1
          refine ⟨fun q2 P2 R2 z => ?_, fun P2 R2 z => (by cases z)⟩
          cases z
          refine ⟨x, g2, ?_, y2⟩
          rw [y1', if_neg (by decide)]
          rfl
        | none =>
          rw [n2 hN]
          obtain ⟨y1, y2, y3⟩ := u2 hN
          have y1' : t = true := y1
          have y2' : RSv x g2 f L (sk f L (cnP w) (tN f L a)) (lnPP w f L a R P) (lnPR w f L a R) := y2
          rw [y1', if_pos rfl]
          by_cases k3 : tK f L (sk f L (cnP w) (tN f L a)) = 3
          · rw [if_pos k3, if_pos (show x 162 11 = 4 by rw [y2'.2.2.1.2.2.1]; exact km_4.mpr k3)]
            have hin : sk f L (cnP w) (tN f L a) ≤ L := sk_in _ _ (tN_in ha)
            obtain ⟨m1, m2⟩ := rs_t (y := x) (Q := lnPP w f L a R P) hb hf hin y2' rfl rfl rfl rfl y2'.2.2.2.1
            have p1 := tN_lt (f := f) (L := L) (a := a) k0
            have p2 := tN_lt (f := f) (L := L) (a := sk f L (cnP w) (tN f L a)) (by rw [k3]; decide)
            have p3 := sk_le (f := f) (L := L) (cnP w) (tN f L a)
            have p4 := tS_le (f := f) (L := L) a
            have p5 := tS_le (f := f) (L := L) (sk f L (cnP w) (tN f L a))
            have p6 := tS_le (f := f) (L := L) (tN f L (sk f L (cnP w) (tN f L a)))
            have p7 := tN_in (f := f) hin
            have p8 := tS_in (f := f) p7
            have p9 := tN_le (f := f) (L := L) (tN f L (sk f L (cnP w) (tN f L a)))
            have c0 := rowP_b (w := w) (v0 := vv f L (tN f L a) 0) (v1 := vv f L (tN f L a) 1) b0
            have es : sk f L (cnP w + 1) (tN f L a) = tN f L (sk f L (cnP w) (tN f L a)) := sk_s _ _
            have y3' : OR (lnPP w f L a R P) (tS f L (sk f L (cnP w) (tN f L a))) := y3
            have I := ih m (tN f L (sk f L (cnP w) (tN f L a))) (Fx_M_tokenX x g2).1 (Fx_M_tokenX x g2).2 (lnPP w f L a R P) (lnPR w f L a R) (by omega) (by omega) p7 m1 (or_w y3' (by omega) (by omega)) c0
            dsimp only
            rw [es]
            exact I
          · rw [if_neg k3, if_neg (show ¬ x 162 11 = 4 from fun z => k3 (km_4.mp (y2'.2.2.1.2.2.1 ▸ z)))]
            refine ⟨fun q2 P2 R2 z => ?_, fun P2 R2 z => (by cases z)⟩
            cases z
            refine ⟨ms x 162 14 (x 162 10), g2, rfl, ?_⟩
            rw [ms_e1]
            exact y2'.2.2.1.2.1
end
