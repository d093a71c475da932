/-! the reference's lines of a hill: a pond, and which line it is -/
theorem pc_3 {w : MM} {v0 v1 v2 : Int32} {i : Nat} (h0 : w 171 0 = v0) (h1 : w 171 1 = v1) (h2 : w 171 2 = v2) (hi : i < 3) : w 171 i = pc v0 v1 v2 i := by
  rcases (show i = 0 ∨ i = 1 ∨ i = 2 by omega) with z | z | z
  · rw [z]; exact h0
  · rw [z]; exact h1
  · rw [z]; exact h2
theorem pl_L {u : MM} {g : GG} {k : Nat} {v0 v1 v2 : Int32} (hk : u 170 0 = iN k) (h8 : k ≤ 8) : ∀ (n i : Nat) (w : MM), 16 - i < n → i ≤ 16 → w 171 0 = v0 → w 171 1 = v1 → w 171 2 = v2 → ∃ x, Fx_M_pondLineX_L91 u g n (iN i) w = (true, x, g) ∧ (∀ b, b ≠ 170 → x b = w b) ∧ x 170 = upd (fun j => if 13 + 16 * k + i ≤ j ∧ j < 29 + 16 * k then pc v0 v1 v2 (j - (13 + 16 * k)) else w 170 j) 0 (w 170 0 + 1) := by
  intro n
  induction n with
  | zero => intro i w h; omega
  | succ n ih =>
    intro i w h hi h0 h1 h2
    rw [Fx_M_pondLineX_L91_s, hk]
    have ei : (((13 : Int32) + ((16 : Int32) * iN k)) + iN i).toNatClampNeg = 13 + 16 * k + i := by
      show (iN 13 + iN 16 * iN k + iN i).toNatClampNeg = _
      rw [iN_m, iN_a, iN_a, iN_cl (by omega)]
    by_cases c : 16 ≤ i
    · rw [if_pos (show (16 : Int32) ≤ iN i from (iN_le (a := 16) (by omega) (by omega)).mpr c)]
      refine ⟨ms w 170 0 (w 170 0 + 1), rfl, fun b hb => ms_c1 hb, ?_⟩
      rw [ms_a1]
      congr 1
      funext j
      rw [if_neg (by omega)]
    · have e : (if (16 : Int32) ≤ iN i then (xq_lt (ms w 170 0 ((w 170 0) + 1)) fun x => Fx_M_pondLineX_J165 g x) else (if (3 : Int32) ≤ iN i then (if iN i = (8 : Int32) then (xq_lt (ms w 170 ((((13 : Int32) + ((16 : Int32) * iN k)) + iN i).toNatClampNeg) (-1)) fun x => (Fx_M_pondLineX_L91 u g n) (iN i + 1) x) else (if iN i = (9 : Int32) then (xq_lt (ms w 170 ((((13 : Int32) + ((16 : Int32) * iN k)) + iN i).toNatClampNeg) (-1)) fun x => (Fx_M_pondLineX_L91 u g n) (iN i + 1) x) else (if iN i = (12 : Int32) then (xq_lt (ms w 170 ((((13 : Int32) + ((16 : Int32) * iN k)) + iN i).toNatClampNeg) (-1)) fun x => (Fx_M_pondLineX_L91 u g n) (iN i + 1) x) else (xq_lt (ms w 170 ((((13 : Int32) + ((16 : Int32) * iN k)) + iN i).toNatClampNeg) 0) fun x => (Fx_M_pondLineX_L91 u g n) (iN i + 1) x)))) else (xq_lt (w 171 (iN i).toNatClampNeg) fun v => xq_lt (ms w 170 ((((13 : Int32) + ((16 : Int32) * iN k)) + iN i).toNatClampNeg) v) fun x => (Fx_M_pondLineX_L91 u g n) (iN i + 1) x))) = Fx_M_pondLineX_L91 u g n (iN (i + 1)) (ms w 170 (13 + 16 * k + i) (pc v0 v1 v2 i)) := by
        rw [if_neg (show ¬ (16 : Int32) ≤ iN i from fun q => c ((iN_le (a := 16) (by omega) (by omega)).mp q)), ei, iN_s, iN_cl (by omega)]
        by_cases c3 : 3 ≤ i
        · rw [if_pos (show (3 : Int32) ≤ iN i from (iN_le (a := 3) (by omega) (by omega)).mpr c3)]
          by_cases c8 : i = 8
          · rw [if_pos (show iN i = (8 : Int32) by rw [c8]; rfl), c8]; rfl
          · rw [if_neg (show ¬ iN i = (8 : Int32) from fun q => c8 ((iN_eq (b := 8) (by omega) (by omega)).mp q))]
            by_cases c9 : i = 9
            · rw [if_pos (show iN i = (9 : Int32) by rw [c9]; rfl), c9]; rfl
            · rw [if_neg (show ¬ iN i = (9 : Int32) from fun q => c9 ((iN_eq (b := 9) (by omega) (by omega)).mp q))]
              by_cases c12 : i = 12
              · rw [if_pos (show iN i = (12 : Int32) by rw [c12]; rfl), c12]; rfl
              · rw [if_neg (show ¬ iN i = (12 : Int32) from fun q => c12 ((iN_eq (b := 12) (by omega) (by omega)).mp q))]
                have ep : pc v0 v1 v2 i = 0 := by
                  unfold pc
                  rw [if_neg (by omega), if_neg (by omega), if_neg (by omega), if_neg (by omega)]
                rw [ep]
                rfl
        · rw [if_neg (show ¬ (3 : Int32) ≤ iN i from fun q => c3 ((iN_le (a := 3) (by omega) (by omega)).mp q)), ← pc_3 h0 h1 h2 (by omega)]
          rfl
      rw [e]
      obtain ⟨x, x1, x2, x3⟩ := ih (i + 1) (ms w 170 (13 + 16 * k + i) (pc v0 v1 v2 i)) (by omega) (by omega) h0 h1 h2
      refine ⟨x, x1, fun b hb => (x2 b hb).trans (ms_c1 hb), ?_⟩
      rw [x3, ms_a1]
      unfold upd
      funext j
      by_cases q0 : j = 0
      · rw [if_pos q0, if_pos q0, if_neg (by omega)]
      · rw [if_neg q0, if_neg q0]
        dsimp only
        by_cases q1 : j = 13 + 16 * k + i
        · rw [if_neg (by omega), if_pos q1, if_pos (by omega), q1, Nat.add_sub_cancel_left]
        · by_cases q2 : 13 + 16 * k + i ≤ j ∧ j < 29 + 16 * k
          · rw [if_pos (by omega), if_pos q2]
          · rw [if_neg (by omega), if_neg q1, if_neg q2]
noncomputable def K3q (u : MM) (_ _ x3 : MM) (g4 : GG) : Bool × MM × GG := if (9 : Int32) ≤ u 170 0 then (true, x3, g4) else Fx_M_pondLineX_L91 u g4 17 (iN 0) x3
theorem pl_J {u y : MM} {g : GG} : Fx_M_pondLineX_J19 u g y = two 0 24 (fun _ => 0) (fun z => if (24 : Int32) ≤ z then 24 else z) (K2 0 9 (K3q u)) y g := by
  unfold Fx_M_pondLineX_J19 two
  congr 1
  funext t x g2
  by_cases ht : t = true
  · rw [if_pos ht, if_pos ht]
    dsimp only
    by_cases q : (24 : Int32) ≤ x 171 0
    · rw [if_pos q, if_pos q]; rfl
    · rw [if_neg q, if_neg q]; rfl
  · rw [if_neg ht, if_neg ht]
theorem ck_q {n v0 v1 v2 : Int32} (b0 : Bd 0 999 v0) (b1 : Bd 0 999 v1) (b2 : Bd 0 999 v2) : okn 0 24 v0 = chk 0 0 n v0 v0 ∧ okn 0 (if (24 : Int32) ≤ v0 then 24 else v0) v1 = chk 0 1 n v0 v1 ∧ okn 0 9 v2 = chk 0 2 n v0 v2 := by
  rw [ok_0 b0, ok_0 b1, ok_0 b2]
  refine ⟨?_, ?_, ?_⟩
  · show decide (v0 ≤ 24) = (decide (v0 ≤ 24) && decide (¬ 0 = 1 ∨ v0 ≤ v0))
    rw [decide_eq_true (p := ¬ 0 = 1 ∨ v0 ≤ v0) (Or.inl (by decide)), Bool.and_true]
  · show _ = (decide (v1 ≤ 24) && decide (¬ 1 = 1 ∨ v1 ≤ v0))
    have e24 : (24 : Int32).toInt = 24 := rfl
    by_cases q : (24 : Int32) ≤ v0
    · rw [if_pos q]
      have q1 := Int32.le_iff_toInt_le.mp q
      by_cases z : v1 ≤ 24
      · have z1 := Int32.le_iff_toInt_le.mp z
        rw [decide_eq_true z, decide_eq_true (p := ¬ 1 = 1 ∨ v1 ≤ v0) (Or.inr (by rw [Int32.le_iff_toInt_le]; omega))]
        rfl
      · rw [decide_eq_false z]; rfl
    · rw [if_neg q]
      have q1 := Int32.lt_iff_toInt_lt.mp (i_nle q)
      by_cases z : v1 ≤ v0
      · have z1 := Int32.le_iff_toInt_le.mp z
        rw [decide_eq_true z, decide_eq_true (p := ¬ 1 = 1 ∨ v1 ≤ v0) (Or.inr z), decide_eq_true (show v1 ≤ 24 by rw [Int32.le_iff_toInt_le]; omega)]
        rfl
      · rw [decide_eq_false z, decide_eq_false (p := ¬ 1 = 1 ∨ v1 ≤ v0) (fun y => by
          rcases y with y | y
          · exact y rfl
          · exact z y), Bool.and_false]
  · show decide (v2 ≤ 9) = (decide (v2 ≤ 9) && decide (¬ 2 = 1 ∨ v2 ≤ v0))
    rw [decide_eq_true (p := ¬ 2 = 1 ∨ v2 ≤ v0) (Or.inl (by decide)), Bool.and_true]
theorem pond_X {v : MM} {g : GG} {f : Nat → Int32} {L a s : Nat} {P : Int32 × Int32} {R : Nat → Int32} {gd : Bool} (hb : L ≤ 600) (hf : ∀ j, j < L → Bd (-128) 127 (f j)) (ha : a ≤ L) (h : RSv v g f L a P R) (b0 : Bd 0 9 (R 0)) (o : OR P s) (hs : s < tS f L a) :
    OUT (Fx_M_pondLineX (iN s) v g) f L 3 a (fo (fun j x => chk 0 j (R 0) (vv f L a 0) x) (vv f L a) (pp f L a) 3 0 (rmb (!fl 0 (R 0) (R 1)) 3 (iN s) P)) (rowH 0 R (vv f L a 0) (vv f L a 1) (vv f L a 2) gd) := by
  have e170 : v 170 0 = R 0 := by rw [h.2.2.2.2]
  have h1 := tS_in (f := f) ha
  rw [fo_3]
  by_cases q : R 0 = 9
  · have hfl : fl 0 (R 0) (R 1) = true := decide_eq_true (Or.inl ⟨rfl, by rw [q]; decide⟩)
    rw [hfl, rmb_f (b := !true) (by decide)]
    obtain ⟨y1, y2, y3⟩ := la_R hb ha h o hs
    have e : Fx_M_pondLineX (iN s) v g = two 0 24 (fun _ => 0) (fun z => if (24 : Int32) ≤ z then 24 else z) (K2 0 9 (K3q v)) (Fx_M_laterX 3 (iN s) v g) g := by
      unfold Fx_M_pondLineX
      rw [e170, if_pos q]
      exact pl_J
    rw [e]
    obtain ⟨t1, t2⟩ := three_X (lo0 := 0) (hi0 := 24) (lo1 := fun _ => 0) (hi1 := fun z => if (24 : Int32) ≤ z then 24 else z) (lo2 := 0) (hi2 := 9) (K3 := K3q v) hb hf ha y1 y2
    refine ⟨t1, fun z => ?_⟩
    obtain ⟨x, x2, x3, g4, k1, k2, k3, k4, k5, k6, j0, j1, j2, k7, k8, k9⟩ := t2 z
    obtain ⟨c0, c1, c2⟩ := ck_q (n := R 0) j0 j1 j2
    rw [c0, c1, c2] at k7 k8
    rw [k1]
    unfold K3q
    rw [e170, if_pos (show (9 : Int32) ≤ R 0 by rw [q]; decide)]
    have er : rowH 0 R (vv f L a 0) (vv f L a 1) (vv f L a 2) gd = R := by
      unfold rowH
      rw [if_pos rfl, if_neg (fun z => by rw [q] at z; exact absurd z (by decide))]
    rw [er]
    exact ⟨rfl, k7, k8⟩
  · have hlt : R 0 < 9 := by
      rw [Int32.lt_iff_toInt_lt]
      have h2 : (R 0).toInt ≠ 9 := fun z => q (Int32.toInt_inj.mp z)
      have := b0.2
      have e9 : (9 : Int32).toInt = 9 := rfl
      omega
    have hl2 := Int32.lt_iff_toInt_lt.mp hlt
    have e9 : (9 : Int32).toInt = 9 := rfl
    have hfl : fl 0 (R 0) (R 1) = false := decide_eq_false (fun z => by
      rcases z with z | z
      · exact lt_le_no hlt z.2
      · exact absurd z.1 (by decide))
    rw [hfl, rmb_t (b := !false) (by decide)]
    have e : Fx_M_pondLineX (iN s) v g = two 0 24 (fun _ => 0) (fun z => if (24 : Int32) ≤ z then 24 else z) (K2 0 9 (K3q v)) v g := by
      unfold Fx_M_pondLineX
      rw [e170, if_neg q]
      exact pl_J
    rw [e]
    obtain ⟨t1, t2⟩ := three_X (lo0 := 0) (hi0 := 24) (lo1 := fun _ => 0) (hi1 := fun z => if (24 : Int32) ≤ z then 24 else z) (lo2 := 0) (hi2 := 9) (K3 := K3q v) hb hf ha h (or_w o (Nat.le_of_lt hs) (by omega))
    refine ⟨t1, fun z => ?_⟩
    obtain ⟨x, x2, x3, g4, k1, k2, k3, k4, k5, k6, j0, j1, j2, k7, k8, k9⟩ := t2 z
    obtain ⟨c0, c1, c2⟩ := ck_q (n := R 0) j0 j1 j2
    rw [c0, c1, c2] at k7 k8
    rw [k1]
    unfold K3q
    have hk : v 170 0 = iN (R 0).toInt.toNat := e170.trans (iN_of b0 (by decide))
    obtain ⟨y, y1, y2, y3⟩ := pl_L (g := g4) hk (by have := b0.1; omega) 17 0 x3 (by omega) (by omega) k4 k5 k6
    rw [e170, if_neg (fun z => lt_le_no hlt z), y1]
    have er : rowH 0 R (vv f L a 0) (vv f L a 1) (vv f L a 2) gd = upd (fun j => if 13 + 16 * (R 0).toInt.toNat ≤ j ∧ j < 29 + 16 * (R 0).toInt.toNat then pc (vv f L a 0) (vv f L a 1) (vv f L a 2) (j - (13 + 16 * (R 0).toInt.toNat)) else R j) 0 (R 0 + 1) := by
      unfold rowH
      rw [if_pos rfl, if_pos hlt]
    rw [er]
    refine ⟨rfl, rs_170 k7 ?_ (y2 162 (by decide)) (y2 163 (by decide)), k8⟩
    show y 170 = _
    rw [y3, k7.2.2.2.2]
    rfl
theorem hl_0 {at0 : Int32} {v : MM} {g : GG} : Fx_M_hillLineX at0 v g = Fx_M_hillLineX_J16 at0 v g (rw0 v g) := by
  unfold Fx_M_hillLineX rw0
  by_cases h : v 162 11 = 2
  · rw [if_pos h, if_pos h]; rfl
  · rw [if_neg h, if_neg h]
theorem hl_w0 {at0 : Int32} {v : MM} {g : GG} (hk : ∀ i, i < 15 → (lg_cmp (rw0 v g) (kW i) = 0 ↔ i = 0)) : Fx_M_hillLineX at0 v g = Fx_M_pondLineX at0 (Fx_M_tokenX v g).1 (Fx_M_tokenX v g).2 := by
  have h0 : (lg_cmp (rw0 v g) (1886350948 : Int64) = 0) = True := eq_true ((hk 0 (by decide)).mpr rfl)
  have h1 : (lg_cmp (rw0 v g) (1685026670 : Int64) = 0) = False := eq_false (fun q => absurd ((hk 1 (by decide)).mp q) (by decide))
  have h2 : (lg_cmp (rw0 v g) (418548114533 : Int64) = 0) = False := eq_false (fun q => absurd ((hk 2 (by decide)).mp q) (by decide))
  have h3 : (lg_cmp (rw0 v g) (422607680115 : Int64) = 0) = False := eq_false (fun q => absurd ((hk 3 (by decide)).mp q) (by decide))
  have h4 : (lg_cmp (rw0 v g) (1735353715 : Int64) = 0) = False := eq_false (fun q => absurd ((hk 4 (by decide)).mp q) (by decide))
  have h5 : (lg_cmp (rw0 v g) (1751216749 : Int64) = 0) = False := eq_false (fun q => absurd ((hk 5 (by decide)).mp q) (by decide))
  have h6 : (lg_cmp (rw0 v g) (478745093490 : Int64) = 0) = False := eq_false (fun q => absurd ((hk 6 (by decide)).mp q) (by decide))
  have h7 : (lg_cmp (rw0 v g) (1919509349 : Int64) = 0) = False := eq_false (fun q => absurd ((hk 7 (by decide)).mp q) (by decide))
  have h8 : (lg_cmp (rw0 v g) (7823737 : Int64) = 0) = False := eq_false (fun q => absurd ((hk 8 (by decide)).mp q) (by decide))
  have h9 : (lg_cmp (rw0 v g) (1734440037 : Int64) = 0) = False := eq_false (fun q => absurd ((hk 9 (by decide)).mp q) (by decide))
  have h10 : (lg_cmp (rw0 v g) (1936287598 : Int64) = 0) = False := eq_false (fun q => absurd ((hk 10 (by decide)).mp q) (by decide))
  have h11 : (lg_cmp (rw0 v g) (1918986606 : Int64) = 0) = False := eq_false (fun q => absurd ((hk 11 (by decide)).mp q) (by decide))
  have h12 : (lg_cmp (rw0 v g) (1835363940 : Int64) = 0) = False := eq_false (fun q => absurd ((hk 12 (by decide)).mp q) (by decide))
  have h13 : (lg_cmp (rw0 v g) (2003395685 : Int64) = 0) = False := eq_false (fun q => absurd ((hk 13 (by decide)).mp q) (by decide))
  have h14 : (lg_cmp (rw0 v g) (491496238692 : Int64) = 0) = False := eq_false (fun q => absurd ((hk 14 (by decide)).mp q) (by decide))
  rw [hl_0]
  simp (config := { decide := true }) only [Fx_M_hillLineX_J16, Fx_M_hillLineX_J184, Fx_M_hillLineX_J184b, Fx_M_hillLineX_J184c, Fx_M_hillLineX_J184d, Fx_M_hillLineX_J328, h0, h1, h2, h3, h4, h5, h6, h7, h8, h9, h10, h11, h12, h13, h14, if_true, if_false]
  rfl
theorem hl_w1 {at0 : Int32} {v : MM} {g : GG} (hk : ∀ i, i < 15 → (lg_cmp (rw0 v g) (kW i) = 0 ↔ i = 1)) : Fx_M_hillLineX at0 v g = Fx_M_ofPond1X 8 0 99 10 (Fx_M_tokenX v g).1 (Fx_M_tokenX v g).2 := by
  have h0 : (lg_cmp (rw0 v g) (1886350948 : Int64) = 0) = False := eq_false (fun q => absurd ((hk 0 (by decide)).mp q) (by decide))
  have h1 : (lg_cmp (rw0 v g) (1685026670 : Int64) = 0) = True := eq_true ((hk 1 (by decide)).mpr rfl)
  have h2 : (lg_cmp (rw0 v g) (418548114533 : Int64) = 0) = False := eq_false (fun q => absurd ((hk 2 (by decide)).mp q) (by decide))
  have h3 : (lg_cmp (rw0 v g) (422607680115 : Int64) = 0) = False := eq_false (fun q => absurd ((hk 3 (by decide)).mp q) (by decide))
  have h4 : (lg_cmp (rw0 v g) (1735353715 : Int64) = 0) = False := eq_false (fun q => absurd ((hk 4 (by decide)).mp q) (by decide))
  have h5 : (lg_cmp (rw0 v g) (1751216749 : Int64) = 0) = False := eq_false (fun q => absurd ((hk 5 (by decide)).mp q) (by decide))
  have h6 : (lg_cmp (rw0 v g) (478745093490 : Int64) = 0) = False := eq_false (fun q => absurd ((hk 6 (by decide)).mp q) (by decide))
  have h7 : (lg_cmp (rw0 v g) (1919509349 : Int64) = 0) = False := eq_false (fun q => absurd ((hk 7 (by decide)).mp q) (by decide))
  have h8 : (lg_cmp (rw0 v g) (7823737 : Int64) = 0) = False := eq_false (fun q => absurd ((hk 8 (by decide)).mp q) (by decide))
  have h9 : (lg_cmp (rw0 v g) (1734440037 : Int64) = 0) = False := eq_false (fun q => absurd ((hk 9 (by decide)).mp q) (by decide))
  have h10 : (lg_cmp (rw0 v g) (1936287598 : Int64) = 0) = False := eq_false (fun q => absurd ((hk 10 (by decide)).mp q) (by decide))
  have h11 : (lg_cmp (rw0 v g) (1918986606 : Int64) = 0) = False := eq_false (fun q => absurd ((hk 11 (by decide)).mp q) (by decide))
  have h12 : (lg_cmp (rw0 v g) (1835363940 : Int64) = 0) = False := eq_false (fun q => absurd ((hk 12 (by decide)).mp q) (by decide))
  have h13 : (lg_cmp (rw0 v g) (2003395685 : Int64) = 0) = False := eq_false (fun q => absurd ((hk 13 (by decide)).mp q) (by decide))
  have h14 : (lg_cmp (rw0 v g) (491496238692 : Int64) = 0) = False := eq_false (fun q => absurd ((hk 14 (by decide)).mp q) (by decide))
  rw [hl_0]
  simp (config := { decide := true }) only [Fx_M_hillLineX_J16, Fx_M_hillLineX_J184, Fx_M_hillLineX_J184b, Fx_M_hillLineX_J184c, Fx_M_hillLineX_J184d, Fx_M_hillLineX_J328, h0, h1, h2, h3, h4, h5, h6, h7, h8, h9, h10, h11, h12, h13, h14, if_true, if_false]
  rfl
theorem hl_w2 {at0 : Int32} {v : MM} {g : GG} (hk : ∀ i, i < 15 → (lg_cmp (rw0 v g) (kW i) = 0 ↔ i = 2)) : Fx_M_hillLineX at0 v g = Fx_M_ofPond2X 9 0 99 10 (Fx_M_tokenX v g).1 (Fx_M_tokenX v g).2 := by
  have h0 : (lg_cmp (rw0 v g) (1886350948 : Int64) = 0) = False := eq_false (fun q => absurd ((hk 0 (by decide)).mp q) (by decide))
  have h1 : (lg_cmp (rw0 v g) (1685026670 : Int64) = 0) = False := eq_false (fun q => absurd ((hk 1 (by decide)).mp q) (by decide))
  have h2 : (lg_cmp (rw0 v g) (418548114533 : Int64) = 0) = True := eq_true ((hk 2 (by decide)).mpr rfl)
  have h3 : (lg_cmp (rw0 v g) (422607680115 : Int64) = 0) = False := eq_false (fun q => absurd ((hk 3 (by decide)).mp q) (by decide))
  have h4 : (lg_cmp (rw0 v g) (1735353715 : Int64) = 0) = False := eq_false (fun q => absurd ((hk 4 (by decide)).mp q) (by decide))
  have h5 : (lg_cmp (rw0 v g) (1751216749 : Int64) = 0) = False := eq_false (fun q => absurd ((hk 5 (by decide)).mp q) (by decide))
  have h6 : (lg_cmp (rw0 v g) (478745093490 : Int64) = 0) = False := eq_false (fun q => absurd ((hk 6 (by decide)).mp q) (by decide))
  have h7 : (lg_cmp (rw0 v g) (1919509349 : Int64) = 0) = False := eq_false (fun q => absurd ((hk 7 (by decide)).mp q) (by decide))
  have h8 : (lg_cmp (rw0 v g) (7823737 : Int64) = 0) = False := eq_false (fun q => absurd ((hk 8 (by decide)).mp q) (by decide))
  have h9 : (lg_cmp (rw0 v g) (1734440037 : Int64) = 0) = False := eq_false (fun q => absurd ((hk 9 (by decide)).mp q) (by decide))
  have h10 : (lg_cmp (rw0 v g) (1936287598 : Int64) = 0) = False := eq_false (fun q => absurd ((hk 10 (by decide)).mp q) (by decide))
  have h11 : (lg_cmp (rw0 v g) (1918986606 : Int64) = 0) = False := eq_false (fun q => absurd ((hk 11 (by decide)).mp q) (by decide))
  have h12 : (lg_cmp (rw0 v g) (1835363940 : Int64) = 0) = False := eq_false (fun q => absurd ((hk 12 (by decide)).mp q) (by decide))
  have h13 : (lg_cmp (rw0 v g) (2003395685 : Int64) = 0) = False := eq_false (fun q => absurd ((hk 13 (by decide)).mp q) (by decide))
  have h14 : (lg_cmp (rw0 v g) (491496238692 : Int64) = 0) = False := eq_false (fun q => absurd ((hk 14 (by decide)).mp q) (by decide))
  rw [hl_0]
  simp (config := { decide := true }) only [Fx_M_hillLineX_J16, Fx_M_hillLineX_J184, Fx_M_hillLineX_J184b, Fx_M_hillLineX_J184c, Fx_M_hillLineX_J184d, Fx_M_hillLineX_J328, h0, h1, h2, h3, h4, h5, h6, h7, h8, h9, h10, h11, h12, h13, h14, if_true, if_false]
  rfl
theorem hl_w3 {at0 : Int32} {v : MM} {g : GG} (hk : ∀ i, i < 15 → (lg_cmp (rw0 v g) (kW i) = 0 ↔ i = 3)) : Fx_M_hillLineX at0 v g = Fx_M_ofPond1X 3 0 24 10 (Fx_M_tokenX v g).1 (Fx_M_tokenX v g).2 := by
  have h0 : (lg_cmp (rw0 v g) (1886350948 : Int64) = 0) = False := eq_false (fun q => absurd ((hk 0 (by decide)).mp q) (by decide))
  have h1 : (lg_cmp (rw0 v g) (1685026670 : Int64) = 0) = False := eq_false (fun q => absurd ((hk 1 (by decide)).mp q) (by decide))
  have h2 : (lg_cmp (rw0 v g) (418548114533 : Int64) = 0) = False := eq_false (fun q => absurd ((hk 2 (by decide)).mp q) (by decide))
  have h3 : (lg_cmp (rw0 v g) (422607680115 : Int64) = 0) = True := eq_true ((hk 3 (by decide)).mpr rfl)
  have h4 : (lg_cmp (rw0 v g) (1735353715 : Int64) = 0) = False := eq_false (fun q => absurd ((hk 4 (by decide)).mp q) (by decide))
  have h5 : (lg_cmp (rw0 v g) (1751216749 : Int64) = 0) = False := eq_false (fun q => absurd ((hk 5 (by decide)).mp q) (by decide))
  have h6 : (lg_cmp (rw0 v g) (478745093490 : Int64) = 0) = False := eq_false (fun q => absurd ((hk 6 (by decide)).mp q) (by decide))
  have h7 : (lg_cmp (rw0 v g) (1919509349 : Int64) = 0) = False := eq_false (fun q => absurd ((hk 7 (by decide)).mp q) (by decide))
  have h8 : (lg_cmp (rw0 v g) (7823737 : Int64) = 0) = False := eq_false (fun q => absurd ((hk 8 (by decide)).mp q) (by decide))
  have h9 : (lg_cmp (rw0 v g) (1734440037 : Int64) = 0) = False := eq_false (fun q => absurd ((hk 9 (by decide)).mp q) (by decide))
  have h10 : (lg_cmp (rw0 v g) (1936287598 : Int64) = 0) = False := eq_false (fun q => absurd ((hk 10 (by decide)).mp q) (by decide))
  have h11 : (lg_cmp (rw0 v g) (1918986606 : Int64) = 0) = False := eq_false (fun q => absurd ((hk 11 (by decide)).mp q) (by decide))
  have h12 : (lg_cmp (rw0 v g) (1835363940 : Int64) = 0) = False := eq_false (fun q => absurd ((hk 12 (by decide)).mp q) (by decide))
  have h13 : (lg_cmp (rw0 v g) (2003395685 : Int64) = 0) = False := eq_false (fun q => absurd ((hk 13 (by decide)).mp q) (by decide))
  have h14 : (lg_cmp (rw0 v g) (491496238692 : Int64) = 0) = False := eq_false (fun q => absurd ((hk 14 (by decide)).mp q) (by decide))
  rw [hl_0]
  simp (config := { decide := true }) only [Fx_M_hillLineX_J16, Fx_M_hillLineX_J184, Fx_M_hillLineX_J184b, Fx_M_hillLineX_J184c, Fx_M_hillLineX_J184d, Fx_M_hillLineX_J328, h0, h1, h2, h3, h4, h5, h6, h7, h8, h9, h10, h11, h12, h13, h14, if_true, if_false]
  rfl
theorem hl_w4 {at0 : Int32} {v : MM} {g : GG} (hk : ∀ i, i < 15 → (lg_cmp (rw0 v g) (kW i) = 0 ↔ i = 4)) : Fx_M_hillLineX at0 v g = Fx_M_ofPond1X 4 0 10 10 (Fx_M_tokenX v g).1 (Fx_M_tokenX v g).2 := by
  have h0 : (lg_cmp (rw0 v g) (1886350948 : Int64) = 0) = False := eq_false (fun q => absurd ((hk 0 (by decide)).mp q) (by decide))
  have h1 : (lg_cmp (rw0 v g) (1685026670 : Int64) = 0) = False := eq_false (fun q => absurd ((hk 1 (by decide)).mp q) (by decide))
  have h2 : (lg_cmp (rw0 v g) (418548114533 : Int64) = 0) = False := eq_false (fun q => absurd ((hk 2 (by decide)).mp q) (by decide))
  have h3 : (lg_cmp (rw0 v g) (422607680115 : Int64) = 0) = False := eq_false (fun q => absurd ((hk 3 (by decide)).mp q) (by decide))
  have h4 : (lg_cmp (rw0 v g) (1735353715 : Int64) = 0) = True := eq_true ((hk 4 (by decide)).mpr rfl)
  have h5 : (lg_cmp (rw0 v g) (1751216749 : Int64) = 0) = False := eq_false (fun q => absurd ((hk 5 (by decide)).mp q) (by decide))
  have h6 : (lg_cmp (rw0 v g) (478745093490 : Int64) = 0) = False := eq_false (fun q => absurd ((hk 6 (by decide)).mp q) (by decide))
  have h7 : (lg_cmp (rw0 v g) (1919509349 : Int64) = 0) = False := eq_false (fun q => absurd ((hk 7 (by decide)).mp q) (by decide))
  have h8 : (lg_cmp (rw0 v g) (7823737 : Int64) = 0) = False := eq_false (fun q => absurd ((hk 8 (by decide)).mp q) (by decide))
  have h9 : (lg_cmp (rw0 v g) (1734440037 : Int64) = 0) = False := eq_false (fun q => absurd ((hk 9 (by decide)).mp q) (by decide))
  have h10 : (lg_cmp (rw0 v g) (1936287598 : Int64) = 0) = False := eq_false (fun q => absurd ((hk 10 (by decide)).mp q) (by decide))
  have h11 : (lg_cmp (rw0 v g) (1918986606 : Int64) = 0) = False := eq_false (fun q => absurd ((hk 11 (by decide)).mp q) (by decide))
  have h12 : (lg_cmp (rw0 v g) (1835363940 : Int64) = 0) = False := eq_false (fun q => absurd ((hk 12 (by decide)).mp q) (by decide))
  have h13 : (lg_cmp (rw0 v g) (2003395685 : Int64) = 0) = False := eq_false (fun q => absurd ((hk 13 (by decide)).mp q) (by decide))
  have h14 : (lg_cmp (rw0 v g) (491496238692 : Int64) = 0) = False := eq_false (fun q => absurd ((hk 14 (by decide)).mp q) (by decide))
  rw [hl_0]
  simp (config := { decide := true }) only [Fx_M_hillLineX_J16, Fx_M_hillLineX_J184, Fx_M_hillLineX_J184b, Fx_M_hillLineX_J184c, Fx_M_hillLineX_J184d, Fx_M_hillLineX_J328, h0, h1, h2, h3, h4, h5, h6, h7, h8, h9, h10, h11, h12, h13, h14, if_true, if_false]
  rfl
theorem hl_w5 {at0 : Int32} {v : MM} {g : GG} (hk : ∀ i, i < 15 → (lg_cmp (rw0 v g) (kW i) = 0 ↔ i = 5)) : Fx_M_hillLineX at0 v g = Fx_M_ofPond1X 5 0 999 10 (Fx_M_tokenX v g).1 (Fx_M_tokenX v g).2 := by
  have h0 : (lg_cmp (rw0 v g) (1886350948 : Int64) = 0) = False := eq_false (fun q => absurd ((hk 0 (by decide)).mp q) (by decide))
  have h1 : (lg_cmp (rw0 v g) (1685026670 : Int64) = 0) = False := eq_false (fun q => absurd ((hk 1 (by decide)).mp q) (by decide))
  have h2 : (lg_cmp (rw0 v g) (418548114533 : Int64) = 0) = False := eq_false (fun q => absurd ((hk 2 (by decide)).mp q) (by decide))
  have h3 : (lg_cmp (rw0 v g) (422607680115 : Int64) = 0) = False := eq_false (fun q => absurd ((hk 3 (by decide)).mp q) (by decide))
  have h4 : (lg_cmp (rw0 v g) (1735353715 : Int64) = 0) = False := eq_false (fun q => absurd ((hk 4 (by decide)).mp q) (by decide))
  have h5 : (lg_cmp (rw0 v g) (1751216749 : Int64) = 0) = True := eq_true ((hk 5 (by decide)).mpr rfl)
  have h6 : (lg_cmp (rw0 v g) (478745093490 : Int64) = 0) = False := eq_false (fun q => absurd ((hk 6 (by decide)).mp q) (by decide))
  have h7 : (lg_cmp (rw0 v g) (1919509349 : Int64) = 0) = False := eq_false (fun q => absurd ((hk 7 (by decide)).mp q) (by decide))
  have h8 : (lg_cmp (rw0 v g) (7823737 : Int64) = 0) = False := eq_false (fun q => absurd ((hk 8 (by decide)).mp q) (by decide))
  have h9 : (lg_cmp (rw0 v g) (1734440037 : Int64) = 0) = False := eq_false (fun q => absurd ((hk 9 (by decide)).mp q) (by decide))
  have h10 : (lg_cmp (rw0 v g) (1936287598 : Int64) = 0) = False := eq_false (fun q => absurd ((hk 10 (by decide)).mp q) (by decide))
  have h11 : (lg_cmp (rw0 v g) (1918986606 : Int64) = 0) = False := eq_false (fun q => absurd ((hk 11 (by decide)).mp q) (by decide))
  have h12 : (lg_cmp (rw0 v g) (1835363940 : Int64) = 0) = False := eq_false (fun q => absurd ((hk 12 (by decide)).mp q) (by decide))
  have h13 : (lg_cmp (rw0 v g) (2003395685 : Int64) = 0) = False := eq_false (fun q => absurd ((hk 13 (by decide)).mp q) (by decide))
  have h14 : (lg_cmp (rw0 v g) (491496238692 : Int64) = 0) = False := eq_false (fun q => absurd ((hk 14 (by decide)).mp q) (by decide))
  rw [hl_0]
  simp (config := { decide := true }) only [Fx_M_hillLineX_J16, Fx_M_hillLineX_J184, Fx_M_hillLineX_J184b, Fx_M_hillLineX_J184c, Fx_M_hillLineX_J184d, Fx_M_hillLineX_J328, h0, h1, h2, h3, h4, h5, h6, h7, h8, h9, h10, h11, h12, h13, h14, if_true, if_false]
  rfl
theorem hl_w6 {at0 : Int32} {v : MM} {g : GG} (hk : ∀ i, i < 15 → (lg_cmp (rw0 v g) (kW i) = 0 ↔ i = 6)) : Fx_M_hillLineX at0 v g = Fx_M_ofPond1X 6 0 3 10 (Fx_M_tokenX v g).1 (Fx_M_tokenX v g).2 := by
  have h0 : (lg_cmp (rw0 v g) (1886350948 : Int64) = 0) = False := eq_false (fun q => absurd ((hk 0 (by decide)).mp q) (by decide))
  have h1 : (lg_cmp (rw0 v g) (1685026670 : Int64) = 0) = False := eq_false (fun q => absurd ((hk 1 (by decide)).mp q) (by decide))
  have h2 : (lg_cmp (rw0 v g) (418548114533 : Int64) = 0) = False := eq_false (fun q => absurd ((hk 2 (by decide)).mp q) (by decide))
  have h3 : (lg_cmp (rw0 v g) (422607680115 : Int64) = 0) = False := eq_false (fun q => absurd ((hk 3 (by decide)).mp q) (by decide))
  have h4 : (lg_cmp (rw0 v g) (1735353715 : Int64) = 0) = False := eq_false (fun q => absurd ((hk 4 (by decide)).mp q) (by decide))
  have h5 : (lg_cmp (rw0 v g) (1751216749 : Int64) = 0) = False := eq_false (fun q => absurd ((hk 5 (by decide)).mp q) (by decide))
  have h6 : (lg_cmp (rw0 v g) (478745093490 : Int64) = 0) = True := eq_true ((hk 6 (by decide)).mpr rfl)
  have h7 : (lg_cmp (rw0 v g) (1919509349 : Int64) = 0) = False := eq_false (fun q => absurd ((hk 7 (by decide)).mp q) (by decide))
  have h8 : (lg_cmp (rw0 v g) (7823737 : Int64) = 0) = False := eq_false (fun q => absurd ((hk 8 (by decide)).mp q) (by decide))
  have h9 : (lg_cmp (rw0 v g) (1734440037 : Int64) = 0) = False := eq_false (fun q => absurd ((hk 9 (by decide)).mp q) (by decide))
  have h10 : (lg_cmp (rw0 v g) (1936287598 : Int64) = 0) = False := eq_false (fun q => absurd ((hk 10 (by decide)).mp q) (by decide))
  have h11 : (lg_cmp (rw0 v g) (1918986606 : Int64) = 0) = False := eq_false (fun q => absurd ((hk 11 (by decide)).mp q) (by decide))
  have h12 : (lg_cmp (rw0 v g) (1835363940 : Int64) = 0) = False := eq_false (fun q => absurd ((hk 12 (by decide)).mp q) (by decide))
  have h13 : (lg_cmp (rw0 v g) (2003395685 : Int64) = 0) = False := eq_false (fun q => absurd ((hk 13 (by decide)).mp q) (by decide))
  have h14 : (lg_cmp (rw0 v g) (491496238692 : Int64) = 0) = False := eq_false (fun q => absurd ((hk 14 (by decide)).mp q) (by decide))
  rw [hl_0]
  simp (config := { decide := true }) only [Fx_M_hillLineX_J16, Fx_M_hillLineX_J184, Fx_M_hillLineX_J184b, Fx_M_hillLineX_J184c, Fx_M_hillLineX_J184d, Fx_M_hillLineX_J328, h0, h1, h2, h3, h4, h5, h6, h7, h8, h9, h10, h11, h12, h13, h14, if_true, if_false]
  rfl
theorem hl_w7 {at0 : Int32} {v : MM} {g : GG} (hk : ∀ i, i < 15 → (lg_cmp (rw0 v g) (kW i) = 0 ↔ i = 7)) : Fx_M_hillLineX at0 v g = Fx_M_ofPond1X 7 0 99 10 (Fx_M_tokenX v g).1 (Fx_M_tokenX v g).2 := by
  have h0 : (lg_cmp (rw0 v g) (1886350948 : Int64) = 0) = False := eq_false (fun q => absurd ((hk 0 (by decide)).mp q) (by decide))
  have h1 : (lg_cmp (rw0 v g) (1685026670 : Int64) = 0) = False := eq_false (fun q => absurd ((hk 1 (by decide)).mp q) (by decide))
  have h2 : (lg_cmp (rw0 v g) (418548114533 : Int64) = 0) = False := eq_false (fun q => absurd ((hk 2 (by decide)).mp q) (by decide))
  have h3 : (lg_cmp (rw0 v g) (422607680115 : Int64) = 0) = False := eq_false (fun q => absurd ((hk 3 (by decide)).mp q) (by decide))
  have h4 : (lg_cmp (rw0 v g) (1735353715 : Int64) = 0) = False := eq_false (fun q => absurd ((hk 4 (by decide)).mp q) (by decide))
  have h5 : (lg_cmp (rw0 v g) (1751216749 : Int64) = 0) = False := eq_false (fun q => absurd ((hk 5 (by decide)).mp q) (by decide))
  have h6 : (lg_cmp (rw0 v g) (478745093490 : Int64) = 0) = False := eq_false (fun q => absurd ((hk 6 (by decide)).mp q) (by decide))
  have h7 : (lg_cmp (rw0 v g) (1919509349 : Int64) = 0) = True := eq_true ((hk 7 (by decide)).mpr rfl)
  have h8 : (lg_cmp (rw0 v g) (7823737 : Int64) = 0) = False := eq_false (fun q => absurd ((hk 8 (by decide)).mp q) (by decide))
  have h9 : (lg_cmp (rw0 v g) (1734440037 : Int64) = 0) = False := eq_false (fun q => absurd ((hk 9 (by decide)).mp q) (by decide))
  have h10 : (lg_cmp (rw0 v g) (1936287598 : Int64) = 0) = False := eq_false (fun q => absurd ((hk 10 (by decide)).mp q) (by decide))
  have h11 : (lg_cmp (rw0 v g) (1918986606 : Int64) = 0) = False := eq_false (fun q => absurd ((hk 11 (by decide)).mp q) (by decide))
  have h12 : (lg_cmp (rw0 v g) (1835363940 : Int64) = 0) = False := eq_false (fun q => absurd ((hk 12 (by decide)).mp q) (by decide))
  have h13 : (lg_cmp (rw0 v g) (2003395685 : Int64) = 0) = False := eq_false (fun q => absurd ((hk 13 (by decide)).mp q) (by decide))
  have h14 : (lg_cmp (rw0 v g) (491496238692 : Int64) = 0) = False := eq_false (fun q => absurd ((hk 14 (by decide)).mp q) (by decide))
  rw [hl_0]
  simp (config := { decide := true }) only [Fx_M_hillLineX_J16, Fx_M_hillLineX_J184, Fx_M_hillLineX_J184b, Fx_M_hillLineX_J184c, Fx_M_hillLineX_J184d, Fx_M_hillLineX_J328, h0, h1, h2, h3, h4, h5, h6, h7, h8, h9, h10, h11, h12, h13, h14, if_true, if_false]
  rfl
theorem hl_w8 {at0 : Int32} {v : MM} {g : GG} (hk : ∀ i, i < 15 → (lg_cmp (rw0 v g) (kW i) = 0 ↔ i = 8)) : Fx_M_hillLineX at0 v g = Fx_M_ofPond1X 11 0 99 10 (Fx_M_tokenX v g).1 (Fx_M_tokenX v g).2 := by
  have h0 : (lg_cmp (rw0 v g) (1886350948 : Int64) = 0) = False := eq_false (fun q => absurd ((hk 0 (by decide)).mp q) (by decide))
  have h1 : (lg_cmp (rw0 v g) (1685026670 : Int64) = 0) = False := eq_false (fun q => absurd ((hk 1 (by decide)).mp q) (by decide))
  have h2 : (lg_cmp (rw0 v g) (418548114533 : Int64) = 0) = False := eq_false (fun q => absurd ((hk 2 (by decide)).mp q) (by decide))
  have h3 : (lg_cmp (rw0 v g) (422607680115 : Int64) = 0) = False := eq_false (fun q => absurd ((hk 3 (by decide)).mp q) (by decide))
  have h4 : (lg_cmp (rw0 v g) (1735353715 : Int64) = 0) = False := eq_false (fun q => absurd ((hk 4 (by decide)).mp q) (by decide))
  have h5 : (lg_cmp (rw0 v g) (1751216749 : Int64) = 0) = False := eq_false (fun q => absurd ((hk 5 (by decide)).mp q) (by decide))
  have h6 : (lg_cmp (rw0 v g) (478745093490 : Int64) = 0) = False := eq_false (fun q => absurd ((hk 6 (by decide)).mp q) (by decide))
  have h7 : (lg_cmp (rw0 v g) (1919509349 : Int64) = 0) = False := eq_false (fun q => absurd ((hk 7 (by decide)).mp q) (by decide))
  have h8 : (lg_cmp (rw0 v g) (7823737 : Int64) = 0) = True := eq_true ((hk 8 (by decide)).mpr rfl)
  have h9 : (lg_cmp (rw0 v g) (1734440037 : Int64) = 0) = False := eq_false (fun q => absurd ((hk 9 (by decide)).mp q) (by decide))
  have h10 : (lg_cmp (rw0 v g) (1936287598 : Int64) = 0) = False := eq_false (fun q => absurd ((hk 10 (by decide)).mp q) (by decide))
  have h11 : (lg_cmp (rw0 v g) (1918986606 : Int64) = 0) = False := eq_false (fun q => absurd ((hk 11 (by decide)).mp q) (by decide))
  have h12 : (lg_cmp (rw0 v g) (1835363940 : Int64) = 0) = False := eq_false (fun q => absurd ((hk 12 (by decide)).mp q) (by decide))
  have h13 : (lg_cmp (rw0 v g) (2003395685 : Int64) = 0) = False := eq_false (fun q => absurd ((hk 13 (by decide)).mp q) (by decide))
  have h14 : (lg_cmp (rw0 v g) (491496238692 : Int64) = 0) = False := eq_false (fun q => absurd ((hk 14 (by decide)).mp q) (by decide))
  rw [hl_0]
  simp (config := { decide := true }) only [Fx_M_hillLineX_J16, Fx_M_hillLineX_J184, Fx_M_hillLineX_J184b, Fx_M_hillLineX_J184c, Fx_M_hillLineX_J184d, Fx_M_hillLineX_J328, h0, h1, h2, h3, h4, h5, h6, h7, h8, h9, h10, h11, h12, h13, h14, if_true, if_false]
  rfl
theorem hl_w9 {at0 : Int32} {v : MM} {g : GG} (hk : ∀ i, i < 15 → (lg_cmp (rw0 v g) (kW i) = 0 ↔ i = 9)) : Fx_M_hillLineX at0 v g = Fx_M_ofPond1X 12 0 99 10 (Fx_M_tokenX v g).1 (Fx_M_tokenX v g).2 := by
  have h0 : (lg_cmp (rw0 v g) (1886350948 : Int64) = 0) = False := eq_false (fun q => absurd ((hk 0 (by decide)).mp q) (by decide))
  have h1 : (lg_cmp (rw0 v g) (1685026670 : Int64) = 0) = False := eq_false (fun q => absurd ((hk 1 (by decide)).mp q) (by decide))
  have h2 : (lg_cmp (rw0 v g) (418548114533 : Int64) = 0) = False := eq_false (fun q => absurd ((hk 2 (by decide)).mp q) (by decide))
  have h3 : (lg_cmp (rw0 v g) (422607680115 : Int64) = 0) = False := eq_false (fun q => absurd ((hk 3 (by decide)).mp q) (by decide))
  have h4 : (lg_cmp (rw0 v g) (1735353715 : Int64) = 0) = False := eq_false (fun q => absurd ((hk 4 (by decide)).mp q) (by decide))
  have h5 : (lg_cmp (rw0 v g) (1751216749 : Int64) = 0) = False := eq_false (fun q => absurd ((hk 5 (by decide)).mp q) (by decide))
  have h6 : (lg_cmp (rw0 v g) (478745093490 : Int64) = 0) = False := eq_false (fun q => absurd ((hk 6 (by decide)).mp q) (by decide))
  have h7 : (lg_cmp (rw0 v g) (1919509349 : Int64) = 0) = False := eq_false (fun q => absurd ((hk 7 (by decide)).mp q) (by decide))
  have h8 : (lg_cmp (rw0 v g) (7823737 : Int64) = 0) = False := eq_false (fun q => absurd ((hk 8 (by decide)).mp q) (by decide))
  have h9 : (lg_cmp (rw0 v g) (1734440037 : Int64) = 0) = True := eq_true ((hk 9 (by decide)).mpr rfl)
  have h10 : (lg_cmp (rw0 v g) (1936287598 : Int64) = 0) = False := eq_false (fun q => absurd ((hk 10 (by decide)).mp q) (by decide))
  have h11 : (lg_cmp (rw0 v g) (1918986606 : Int64) = 0) = False := eq_false (fun q => absurd ((hk 11 (by decide)).mp q) (by decide))
  have h12 : (lg_cmp (rw0 v g) (1835363940 : Int64) = 0) = False := eq_false (fun q => absurd ((hk 12 (by decide)).mp q) (by decide))
  have h13 : (lg_cmp (rw0 v g) (2003395685 : Int64) = 0) = False := eq_false (fun q => absurd ((hk 13 (by decide)).mp q) (by decide))
  have h14 : (lg_cmp (rw0 v g) (491496238692 : Int64) = 0) = False := eq_false (fun q => absurd ((hk 14 (by decide)).mp q) (by decide))
  rw [hl_0]
  simp (config := { decide := true }) only [Fx_M_hillLineX_J16, Fx_M_hillLineX_J184, Fx_M_hillLineX_J184b, Fx_M_hillLineX_J184c, Fx_M_hillLineX_J184d, Fx_M_hillLineX_J328, h0, h1, h2, h3, h4, h5, h6, h7, h8, h9, h10, h11, h12, h13, h14, if_true, if_false]
  rfl
theorem hl_w10 {at0 : Int32} {v : MM} {g : GG} (hk : ∀ i, i < 15 → (lg_cmp (rw0 v g) (kW i) = 0 ↔ i = 10)) : Fx_M_hillLineX at0 v g = Fx_M_ofPond2X 13 0 10 10 (Fx_M_tokenX v g).1 (Fx_M_tokenX v g).2 := by
  have h0 : (lg_cmp (rw0 v g) (1886350948 : Int64) = 0) = False := eq_false (fun q => absurd ((hk 0 (by decide)).mp q) (by decide))
  have h1 : (lg_cmp (rw0 v g) (1685026670 : Int64) = 0) = False := eq_false (fun q => absurd ((hk 1 (by decide)).mp q) (by decide))
  have h2 : (lg_cmp (rw0 v g) (418548114533 : Int64) = 0) = False := eq_false (fun q => absurd ((hk 2 (by decide)).mp q) (by decide))
  have h3 : (lg_cmp (rw0 v g) (422607680115 : Int64) = 0) = False := eq_false (fun q => absurd ((hk 3 (by decide)).mp q) (by decide))
  have h4 : (lg_cmp (rw0 v g) (1735353715 : Int64) = 0) = False := eq_false (fun q => absurd ((hk 4 (by decide)).mp q) (by decide))
  have h5 : (lg_cmp (rw0 v g) (1751216749 : Int64) = 0) = False := eq_false (fun q => absurd ((hk 5 (by decide)).mp q) (by decide))
  have h6 : (lg_cmp (rw0 v g) (478745093490 : Int64) = 0) = False := eq_false (fun q => absurd ((hk 6 (by decide)).mp q) (by decide))
  have h7 : (lg_cmp (rw0 v g) (1919509349 : Int64) = 0) = False := eq_false (fun q => absurd ((hk 7 (by decide)).mp q) (by decide))
  have h8 : (lg_cmp (rw0 v g) (7823737 : Int64) = 0) = False := eq_false (fun q => absurd ((hk 8 (by decide)).mp q) (by decide))
  have h9 : (lg_cmp (rw0 v g) (1734440037 : Int64) = 0) = False := eq_false (fun q => absurd ((hk 9 (by decide)).mp q) (by decide))
  have h10 : (lg_cmp (rw0 v g) (1936287598 : Int64) = 0) = True := eq_true ((hk 10 (by decide)).mpr rfl)
  have h11 : (lg_cmp (rw0 v g) (1918986606 : Int64) = 0) = False := eq_false (fun q => absurd ((hk 11 (by decide)).mp q) (by decide))
  have h12 : (lg_cmp (rw0 v g) (1835363940 : Int64) = 0) = False := eq_false (fun q => absurd ((hk 12 (by decide)).mp q) (by decide))
  have h13 : (lg_cmp (rw0 v g) (2003395685 : Int64) = 0) = False := eq_false (fun q => absurd ((hk 13 (by decide)).mp q) (by decide))
  have h14 : (lg_cmp (rw0 v g) (491496238692 : Int64) = 0) = False := eq_false (fun q => absurd ((hk 14 (by decide)).mp q) (by decide))
  rw [hl_0]
  simp (config := { decide := true }) only [Fx_M_hillLineX_J16, Fx_M_hillLineX_J184, Fx_M_hillLineX_J184b, Fx_M_hillLineX_J184c, Fx_M_hillLineX_J184d, Fx_M_hillLineX_J328, h0, h1, h2, h3, h4, h5, h6, h7, h8, h9, h10, h11, h12, h13, h14, if_true, if_false]
  rfl
theorem hl_w11 {at0 : Int32} {v : MM} {g : GG} (hk : ∀ i, i < 15 → (lg_cmp (rw0 v g) (kW i) = 0 ↔ i = 11)) : Fx_M_hillLineX at0 v g = Fx_M_rainLineX at0 (Fx_M_tokenX v g).1 (Fx_M_tokenX v g).2 := by
  have h0 : (lg_cmp (rw0 v g) (1886350948 : Int64) = 0) = False := eq_false (fun q => absurd ((hk 0 (by decide)).mp q) (by decide))
  have h1 : (lg_cmp (rw0 v g) (1685026670 : Int64) = 0) = False := eq_false (fun q => absurd ((hk 1 (by decide)).mp q) (by decide))
  have h2 : (lg_cmp (rw0 v g) (418548114533 : Int64) = 0) = False := eq_false (fun q => absurd ((hk 2 (by decide)).mp q) (by decide))
  have h3 : (lg_cmp (rw0 v g) (422607680115 : Int64) = 0) = False := eq_false (fun q => absurd ((hk 3 (by decide)).mp q) (by decide))
  have h4 : (lg_cmp (rw0 v g) (1735353715 : Int64) = 0) = False := eq_false (fun q => absurd ((hk 4 (by decide)).mp q) (by decide))
  have h5 : (lg_cmp (rw0 v g) (1751216749 : Int64) = 0) = False := eq_false (fun q => absurd ((hk 5 (by decide)).mp q) (by decide))
  have h6 : (lg_cmp (rw0 v g) (478745093490 : Int64) = 0) = False := eq_false (fun q => absurd ((hk 6 (by decide)).mp q) (by decide))
  have h7 : (lg_cmp (rw0 v g) (1919509349 : Int64) = 0) = False := eq_false (fun q => absurd ((hk 7 (by decide)).mp q) (by decide))
  have h8 : (lg_cmp (rw0 v g) (7823737 : Int64) = 0) = False := eq_false (fun q => absurd ((hk 8 (by decide)).mp q) (by decide))
  have h9 : (lg_cmp (rw0 v g) (1734440037 : Int64) = 0) = False := eq_false (fun q => absurd ((hk 9 (by decide)).mp q) (by decide))
  have h10 : (lg_cmp (rw0 v g) (1936287598 : Int64) = 0) = False := eq_false (fun q => absurd ((hk 10 (by decide)).mp q) (by decide))
  have h11 : (lg_cmp (rw0 v g) (1918986606 : Int64) = 0) = True := eq_true ((hk 11 (by decide)).mpr rfl)
  have h12 : (lg_cmp (rw0 v g) (1835363940 : Int64) = 0) = False := eq_false (fun q => absurd ((hk 12 (by decide)).mp q) (by decide))
  have h13 : (lg_cmp (rw0 v g) (2003395685 : Int64) = 0) = False := eq_false (fun q => absurd ((hk 13 (by decide)).mp q) (by decide))
  have h14 : (lg_cmp (rw0 v g) (491496238692 : Int64) = 0) = False := eq_false (fun q => absurd ((hk 14 (by decide)).mp q) (by decide))
  rw [hl_0]
  simp (config := { decide := true }) only [Fx_M_hillLineX_J16, Fx_M_hillLineX_J184, Fx_M_hillLineX_J184b, Fx_M_hillLineX_J184c, Fx_M_hillLineX_J184d, Fx_M_hillLineX_J328, h0, h1, h2, h3, h4, h5, h6, h7, h8, h9, h10, h11, h12, h13, h14, if_true, if_false]
  rfl
theorem hl_w12 {at0 : Int32} {v : MM} {g : GG} (hk : ∀ i, i < 15 → (lg_cmp (rw0 v g) (kW i) = 0 ↔ i = 12)) : Fx_M_hillLineX at0 v g = Fx_M_daysLineX 2 (Fx_M_tokenX v g).1 (Fx_M_tokenX v g).2 := by
  have h0 : (lg_cmp (rw0 v g) (1886350948 : Int64) = 0) = False := eq_false (fun q => absurd ((hk 0 (by decide)).mp q) (by decide))
  have h1 : (lg_cmp (rw0 v g) (1685026670 : Int64) = 0) = False := eq_false (fun q => absurd ((hk 1 (by decide)).mp q) (by decide))
  have h2 : (lg_cmp (rw0 v g) (418548114533 : Int64) = 0) = False := eq_false (fun q => absurd ((hk 2 (by decide)).mp q) (by decide))
  have h3 : (lg_cmp (rw0 v g) (422607680115 : Int64) = 0) = False := eq_false (fun q => absurd ((hk 3 (by decide)).mp q) (by decide))
  have h4 : (lg_cmp (rw0 v g) (1735353715 : Int64) = 0) = False := eq_false (fun q => absurd ((hk 4 (by decide)).mp q) (by decide))
  have h5 : (lg_cmp (rw0 v g) (1751216749 : Int64) = 0) = False := eq_false (fun q => absurd ((hk 5 (by decide)).mp q) (by decide))
  have h6 : (lg_cmp (rw0 v g) (478745093490 : Int64) = 0) = False := eq_false (fun q => absurd ((hk 6 (by decide)).mp q) (by decide))
  have h7 : (lg_cmp (rw0 v g) (1919509349 : Int64) = 0) = False := eq_false (fun q => absurd ((hk 7 (by decide)).mp q) (by decide))
  have h8 : (lg_cmp (rw0 v g) (7823737 : Int64) = 0) = False := eq_false (fun q => absurd ((hk 8 (by decide)).mp q) (by decide))
  have h9 : (lg_cmp (rw0 v g) (1734440037 : Int64) = 0) = False := eq_false (fun q => absurd ((hk 9 (by decide)).mp q) (by decide))
  have h10 : (lg_cmp (rw0 v g) (1936287598 : Int64) = 0) = False := eq_false (fun q => absurd ((hk 10 (by decide)).mp q) (by decide))
  have h11 : (lg_cmp (rw0 v g) (1918986606 : Int64) = 0) = False := eq_false (fun q => absurd ((hk 11 (by decide)).mp q) (by decide))
  have h12 : (lg_cmp (rw0 v g) (1835363940 : Int64) = 0) = True := eq_true ((hk 12 (by decide)).mpr rfl)
  have h13 : (lg_cmp (rw0 v g) (2003395685 : Int64) = 0) = False := eq_false (fun q => absurd ((hk 13 (by decide)).mp q) (by decide))
  have h14 : (lg_cmp (rw0 v g) (491496238692 : Int64) = 0) = False := eq_false (fun q => absurd ((hk 14 (by decide)).mp q) (by decide))
  rw [hl_0]
  simp (config := { decide := true }) only [Fx_M_hillLineX_J16, Fx_M_hillLineX_J184, Fx_M_hillLineX_J184b, Fx_M_hillLineX_J184c, Fx_M_hillLineX_J184d, Fx_M_hillLineX_J328, h0, h1, h2, h3, h4, h5, h6, h7, h8, h9, h10, h11, h12, h13, h14, if_true, if_false]
  rfl
theorem hl_w13 {at0 : Int32} {v : MM} {g : GG} (hk : ∀ i, i < 15 → (lg_cmp (rw0 v g) (kW i) = 0 ↔ i = 13)) : Fx_M_hillLineX at0 v g = Fx_M_daysLineX 3 (Fx_M_tokenX v g).1 (Fx_M_tokenX v g).2 := by
  have h0 : (lg_cmp (rw0 v g) (1886350948 : Int64) = 0) = False := eq_false (fun q => absurd ((hk 0 (by decide)).mp q) (by decide))
  have h1 : (lg_cmp (rw0 v g) (1685026670 : Int64) = 0) = False := eq_false (fun q => absurd ((hk 1 (by decide)).mp q) (by decide))
  have h2 : (lg_cmp (rw0 v g) (418548114533 : Int64) = 0) = False := eq_false (fun q => absurd ((hk 2 (by decide)).mp q) (by decide))
  have h3 : (lg_cmp (rw0 v g) (422607680115 : Int64) = 0) = False := eq_false (fun q => absurd ((hk 3 (by decide)).mp q) (by decide))
  have h4 : (lg_cmp (rw0 v g) (1735353715 : Int64) = 0) = False := eq_false (fun q => absurd ((hk 4 (by decide)).mp q) (by decide))
  have h5 : (lg_cmp (rw0 v g) (1751216749 : Int64) = 0) = False := eq_false (fun q => absurd ((hk 5 (by decide)).mp q) (by decide))
  have h6 : (lg_cmp (rw0 v g) (478745093490 : Int64) = 0) = False := eq_false (fun q => absurd ((hk 6 (by decide)).mp q) (by decide))
  have h7 : (lg_cmp (rw0 v g) (1919509349 : Int64) = 0) = False := eq_false (fun q => absurd ((hk 7 (by decide)).mp q) (by decide))
  have h8 : (lg_cmp (rw0 v g) (7823737 : Int64) = 0) = False := eq_false (fun q => absurd ((hk 8 (by decide)).mp q) (by decide))
  have h9 : (lg_cmp (rw0 v g) (1734440037 : Int64) = 0) = False := eq_false (fun q => absurd ((hk 9 (by decide)).mp q) (by decide))
  have h10 : (lg_cmp (rw0 v g) (1936287598 : Int64) = 0) = False := eq_false (fun q => absurd ((hk 10 (by decide)).mp q) (by decide))
  have h11 : (lg_cmp (rw0 v g) (1918986606 : Int64) = 0) = False := eq_false (fun q => absurd ((hk 11 (by decide)).mp q) (by decide))
  have h12 : (lg_cmp (rw0 v g) (1835363940 : Int64) = 0) = False := eq_false (fun q => absurd ((hk 12 (by decide)).mp q) (by decide))
  have h13 : (lg_cmp (rw0 v g) (2003395685 : Int64) = 0) = True := eq_true ((hk 13 (by decide)).mpr rfl)
  have h14 : (lg_cmp (rw0 v g) (491496238692 : Int64) = 0) = False := eq_false (fun q => absurd ((hk 14 (by decide)).mp q) (by decide))
  rw [hl_0]
  simp (config := { decide := true }) only [Fx_M_hillLineX_J16, Fx_M_hillLineX_J184, Fx_M_hillLineX_J184b, Fx_M_hillLineX_J184c, Fx_M_hillLineX_J184d, Fx_M_hillLineX_J328, h0, h1, h2, h3, h4, h5, h6, h7, h8, h9, h10, h11, h12, h13, h14, if_true, if_false]
  rfl
theorem hl_w14 {at0 : Int32} {v : MM} {g : GG} (hk : ∀ i, i < 15 → (lg_cmp (rw0 v g) (kW i) = 0 ↔ i = 14)) : Fx_M_hillLineX at0 v g = Fx_M_daysLineX 4 (Fx_M_tokenX v g).1 (Fx_M_tokenX v g).2 := by
  have h0 : (lg_cmp (rw0 v g) (1886350948 : Int64) = 0) = False := eq_false (fun q => absurd ((hk 0 (by decide)).mp q) (by decide))
  have h1 : (lg_cmp (rw0 v g) (1685026670 : Int64) = 0) = False := eq_false (fun q => absurd ((hk 1 (by decide)).mp q) (by decide))
  have h2 : (lg_cmp (rw0 v g) (418548114533 : Int64) = 0) = False := eq_false (fun q => absurd ((hk 2 (by decide)).mp q) (by decide))
  have h3 : (lg_cmp (rw0 v g) (422607680115 : Int64) = 0) = False := eq_false (fun q => absurd ((hk 3 (by decide)).mp q) (by decide))
  have h4 : (lg_cmp (rw0 v g) (1735353715 : Int64) = 0) = False := eq_false (fun q => absurd ((hk 4 (by decide)).mp q) (by decide))
  have h5 : (lg_cmp (rw0 v g) (1751216749 : Int64) = 0) = False := eq_false (fun q => absurd ((hk 5 (by decide)).mp q) (by decide))
  have h6 : (lg_cmp (rw0 v g) (478745093490 : Int64) = 0) = False := eq_false (fun q => absurd ((hk 6 (by decide)).mp q) (by decide))
  have h7 : (lg_cmp (rw0 v g) (1919509349 : Int64) = 0) = False := eq_false (fun q => absurd ((hk 7 (by decide)).mp q) (by decide))
  have h8 : (lg_cmp (rw0 v g) (7823737 : Int64) = 0) = False := eq_false (fun q => absurd ((hk 8 (by decide)).mp q) (by decide))
  have h9 : (lg_cmp (rw0 v g) (1734440037 : Int64) = 0) = False := eq_false (fun q => absurd ((hk 9 (by decide)).mp q) (by decide))
  have h10 : (lg_cmp (rw0 v g) (1936287598 : Int64) = 0) = False := eq_false (fun q => absurd ((hk 10 (by decide)).mp q) (by decide))
  have h11 : (lg_cmp (rw0 v g) (1918986606 : Int64) = 0) = False := eq_false (fun q => absurd ((hk 11 (by decide)).mp q) (by decide))
  have h12 : (lg_cmp (rw0 v g) (1835363940 : Int64) = 0) = False := eq_false (fun q => absurd ((hk 12 (by decide)).mp q) (by decide))
  have h13 : (lg_cmp (rw0 v g) (2003395685 : Int64) = 0) = False := eq_false (fun q => absurd ((hk 13 (by decide)).mp q) (by decide))
  have h14 : (lg_cmp (rw0 v g) (491496238692 : Int64) = 0) = True := eq_true ((hk 14 (by decide)).mpr rfl)
  rw [hl_0]
  simp (config := { decide := true }) only [Fx_M_hillLineX_J16, Fx_M_hillLineX_J184, Fx_M_hillLineX_J184b, Fx_M_hillLineX_J184c, Fx_M_hillLineX_J184d, Fx_M_hillLineX_J328, h0, h1, h2, h3, h4, h5, h6, h7, h8, h9, h10, h11, h12, h13, h14, if_true, if_false]
  rfl
theorem hl_wn {at0 : Int32} {v : MM} {g : GG} (hk : ∀ i, i < 15 → ¬ lg_cmp (rw0 v g) (kW i) = 0) : Fx_M_hillLineX at0 v g = (false, ms v 162 14 (v 162 10), g) := by
  have h0 : (lg_cmp (rw0 v g) (1886350948 : Int64) = 0) = False := eq_false (hk 0 (by decide))
  have h1 : (lg_cmp (rw0 v g) (1685026670 : Int64) = 0) = False := eq_false (hk 1 (by decide))
  have h2 : (lg_cmp (rw0 v g) (418548114533 : Int64) = 0) = False := eq_false (hk 2 (by decide))
  have h3 : (lg_cmp (rw0 v g) (422607680115 : Int64) = 0) = False := eq_false (hk 3 (by decide))
  have h4 : (lg_cmp (rw0 v g) (1735353715 : Int64) = 0) = False := eq_false (hk 4 (by decide))
  have h5 : (lg_cmp (rw0 v g) (1751216749 : Int64) = 0) = False := eq_false (hk 5 (by decide))
  have h6 : (lg_cmp (rw0 v g) (478745093490 : Int64) = 0) = False := eq_false (hk 6 (by decide))
  have h7 : (lg_cmp (rw0 v g) (1919509349 : Int64) = 0) = False := eq_false (hk 7 (by decide))
  have h8 : (lg_cmp (rw0 v g) (7823737 : Int64) = 0) = False := eq_false (hk 8 (by decide))
  have h9 : (lg_cmp (rw0 v g) (1734440037 : Int64) = 0) = False := eq_false (hk 9 (by decide))
  have h10 : (lg_cmp (rw0 v g) (1936287598 : Int64) = 0) = False := eq_false (hk 10 (by decide))
  have h11 : (lg_cmp (rw0 v g) (1918986606 : Int64) = 0) = False := eq_false (hk 11 (by decide))
  have h12 : (lg_cmp (rw0 v g) (1835363940 : Int64) = 0) = False := eq_false (hk 12 (by decide))
  have h13 : (lg_cmp (rw0 v g) (2003395685 : Int64) = 0) = False := eq_false (hk 13 (by decide))
  have h14 : (lg_cmp (rw0 v g) (491496238692 : Int64) = 0) = False := eq_false (hk 14 (by decide))
  rw [hl_0]
  simp (config := { decide := true }) only [Fx_M_hillLineX_J16, Fx_M_hillLineX_J184, Fx_M_hillLineX_J184b, Fx_M_hillLineX_J184c, Fx_M_hillLineX_J184d, Fx_M_hillLineX_J328, h0, h1, h2, h3, h4, h5, h6, h7, h8, h9, h10, h11, h12, h13, h14, if_true, if_false]
  rfl
