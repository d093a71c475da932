/-! plans: the reference -/
theorem wl_0 {at0 : Int32} {v : MM} {g : GG} : Fx_M_workLineX at0 v g = Fx_M_workLineX_J16 at0 v g (rw0 v g) := by
  unfold Fx_M_workLineX rw0
  by_cases h : v 162 11 = 2
  · rw [if_pos h, if_pos h]; rfl
  · rw [if_neg h, if_neg h]
theorem wl_w0 {at0 : Int32} {v : MM} {g : GG} (hk : ∀ i, i < 5 → (lg_cmp (rw0 v g) (kW (pwi i)) = 0 ↔ i = 0)) : Fx_M_workLineX at0 v g = Fx_M_workLineX_J78 at0 v g 0 := by
  have h0 : (lg_cmp (rw0 v g) (1835363940 : Int64) = 0) = True := eq_true ((hk 0 (by decide)).mpr rfl)
  have h1 : (lg_cmp (rw0 v g) (7106423 : Int64) = 0) = False := eq_false (fun q => absurd ((hk 1 (by decide)).mp q) (by decide))
  have h2 : (lg_cmp (rw0 v g) (512869295470 : Int64) = 0) = False := eq_false (fun q => absurd ((hk 2 (by decide)).mp q) (by decide))
  have h3 : (lg_cmp (rw0 v g) (491496238692 : Int64) = 0) = False := eq_false (fun q => absurd ((hk 3 (by decide)).mp q) (by decide))
  have h4 : (lg_cmp (rw0 v g) (7304564 : Int64) = 0) = False := eq_false (fun q => absurd ((hk 4 (by decide)).mp q) (by decide))
  rw [wl_0]
  simp only [Fx_M_workLineX_J16, h0, h1, h2, h3, h4, if_true, if_false]
theorem wl_w1 {at0 : Int32} {v : MM} {g : GG} (hk : ∀ i, i < 5 → (lg_cmp (rw0 v g) (kW (pwi i)) = 0 ↔ i = 1)) : Fx_M_workLineX at0 v g = Fx_M_workLineX_J78 at0 v g 1 := by
  have h0 : (lg_cmp (rw0 v g) (1835363940 : Int64) = 0) = False := eq_false (fun q => absurd ((hk 0 (by decide)).mp q) (by decide))
  have h1 : (lg_cmp (rw0 v g) (7106423 : Int64) = 0) = True := eq_true ((hk 1 (by decide)).mpr rfl)
  have h2 : (lg_cmp (rw0 v g) (512869295470 : Int64) = 0) = False := eq_false (fun q => absurd ((hk 2 (by decide)).mp q) (by decide))
  have h3 : (lg_cmp (rw0 v g) (491496238692 : Int64) = 0) = False := eq_false (fun q => absurd ((hk 3 (by decide)).mp q) (by decide))
  have h4 : (lg_cmp (rw0 v g) (7304564 : Int64) = 0) = False := eq_false (fun q => absurd ((hk 4 (by decide)).mp q) (by decide))
  rw [wl_0]
  simp only [Fx_M_workLineX_J16, h0, h1, h2, h3, h4, if_true, if_false]
theorem wl_w2 {at0 : Int32} {v : MM} {g : GG} (hk : ∀ i, i < 5 → (lg_cmp (rw0 v g) (kW (pwi i)) = 0 ↔ i = 2)) : Fx_M_workLineX at0 v g = Fx_M_workLineX_J78 at0 v g 2 := by
  have h0 : (lg_cmp (rw0 v g) (1835363940 : Int64) = 0) = False := eq_false (fun q => absurd ((hk 0 (by decide)).mp q) (by decide))
  have h1 : (lg_cmp (rw0 v g) (7106423 : Int64) = 0) = False := eq_false (fun q => absurd ((hk 1 (by decide)).mp q) (by decide))
  have h2 : (lg_cmp (rw0 v g) (512869295470 : Int64) = 0) = True := eq_true ((hk 2 (by decide)).mpr rfl)
  have h3 : (lg_cmp (rw0 v g) (491496238692 : Int64) = 0) = False := eq_false (fun q => absurd ((hk 3 (by decide)).mp q) (by decide))
  have h4 : (lg_cmp (rw0 v g) (7304564 : Int64) = 0) = False := eq_false (fun q => absurd ((hk 4 (by decide)).mp q) (by decide))
  rw [wl_0]
  simp only [Fx_M_workLineX_J16, h0, h1, h2, h3, h4, if_true, if_false]
theorem wl_w3 {at0 : Int32} {v : MM} {g : GG} (hk : ∀ i, i < 5 → (lg_cmp (rw0 v g) (kW (pwi i)) = 0 ↔ i = 3)) : Fx_M_workLineX at0 v g = Fx_M_workLineX_J78 at0 v g 3 := by
  have h0 : (lg_cmp (rw0 v g) (1835363940 : Int64) = 0) = False := eq_false (fun q => absurd ((hk 0 (by decide)).mp q) (by decide))
  have h1 : (lg_cmp (rw0 v g) (7106423 : Int64) = 0) = False := eq_false (fun q => absurd ((hk 1 (by decide)).mp q) (by decide))
  have h2 : (lg_cmp (rw0 v g) (512869295470 : Int64) = 0) = False := eq_false (fun q => absurd ((hk 2 (by decide)).mp q) (by decide))
  have h3 : (lg_cmp (rw0 v g) (491496238692 : Int64) = 0) = True := eq_true ((hk 3 (by decide)).mpr rfl)
  have h4 : (lg_cmp (rw0 v g) (7304564 : Int64) = 0) = False := eq_false (fun q => absurd ((hk 4 (by decide)).mp q) (by decide))
  rw [wl_0]
  simp only [Fx_M_workLineX_J16, h0, h1, h2, h3, h4, if_true, if_false]
theorem wl_w4 {at0 : Int32} {v : MM} {g : GG} (hk : ∀ i, i < 5 → (lg_cmp (rw0 v g) (kW (pwi i)) = 0 ↔ i = 4)) : Fx_M_workLineX at0 v g = Fx_M_workLineX_J78 at0 v g 4 := by
  have h0 : (lg_cmp (rw0 v g) (1835363940 : Int64) = 0) = False := eq_false (fun q => absurd ((hk 0 (by decide)).mp q) (by decide))
  have h1 : (lg_cmp (rw0 v g) (7106423 : Int64) = 0) = False := eq_false (fun q => absurd ((hk 1 (by decide)).mp q) (by decide))
  have h2 : (lg_cmp (rw0 v g) (512869295470 : Int64) = 0) = False := eq_false (fun q => absurd ((hk 2 (by decide)).mp q) (by decide))
  have h3 : (lg_cmp (rw0 v g) (491496238692 : Int64) = 0) = False := eq_false (fun q => absurd ((hk 3 (by decide)).mp q) (by decide))
  have h4 : (lg_cmp (rw0 v g) (7304564 : Int64) = 0) = True := eq_true ((hk 4 (by decide)).mpr rfl)
  rw [wl_0]
  simp only [Fx_M_workLineX_J16, h0, h1, h2, h3, h4, if_true, if_false]
theorem wl_wn {at0 : Int32} {v : MM} {g : GG} (hk : ∀ i, i < 5 → ¬ lg_cmp (rw0 v g) (kW (pwi i)) = 0) : Fx_M_workLineX at0 v g = (false, ms v 162 14 (v 162 10), g) := by
  have h0 : (lg_cmp (rw0 v g) (1835363940 : Int64) = 0) = False := eq_false (hk 0 (by decide))
  have h1 : (lg_cmp (rw0 v g) (7106423 : Int64) = 0) = False := eq_false (hk 1 (by decide))
  have h2 : (lg_cmp (rw0 v g) (512869295470 : Int64) = 0) = False := eq_false (hk 2 (by decide))
  have h3 : (lg_cmp (rw0 v g) (491496238692 : Int64) = 0) = False := eq_false (hk 3 (by decide))
  have h4 : (lg_cmp (rw0 v g) (7304564 : Int64) = 0) = False := eq_false (hk 4 (by decide))
  rw [wl_0]
  simp (config := { decide := true }) only [Fx_M_workLineX_J16, Fx_M_workLineX_J78, h0, h1, h2, h3, h4, if_true, if_false]
  rfl
def wr4 (x2 : MM) (k0 what a b : Int32) : MM := ms (ms (ms (ms x2 170 ((1 : Int32) + ((3 : Int32) * k0)).toNatClampNeg what) 170 ((2 : Int32) + ((3 : Int32) * k0)).toNatClampNeg a) 170 ((3 : Int32) + ((3 : Int32) * k0)).toNatClampNeg b) 170 0 (k0 + 1)
def KP (k0 what : Int32) (x : MM) (_ : GG) (x2 : MM) (g3 : GG) : Bool × MM × GG := if (12 : Int32) ≤ k0 then (true, x2, g3) else (true, wr4 x2 k0 what (x 171 0) (x2 171 1), g3)
theorem wr_R {x2 : MM} {R : Nat → Int32} {a b : Int32} {w : Nat} (b0 : Bd 0 12 (R 0)) (hlt : R 0 < 12) (e : x2 170 = R) : wr4 x2 (R 0) (iN w) a b 170 = upd (upd (upd (upd R (1 + 3 * (R 0).toInt.toNat) (iN w)) (2 + 3 * (R 0).toInt.toNat) a) (3 + 3 * (R 0).toInt.toNat) b) 0 (R 0 + 1) := by
  have q1 := Int32.lt_iff_toInt_lt.mp hlt
  have e12 : (12 : Int32).toInt = 12 := rfl
  have bk : Bd 0 11 (R 0) := ⟨b0.1, by omega⟩
  unfold wr4
  rw [ms_a1, ms_a1, ms_a1, ms_a1, e, ix3 (C := 1) bk rfl (by decide), ix3 (C := 2) bk rfl (by decide), ix3 (C := 3) bk rfl (by decide)]
theorem lt12 {n : Int32} (b : Bd 0 12 n) (h : ¬ n = 12) : n < 12 := by
  rw [Int32.lt_iff_toInt_lt]
  have h2 : n.toInt ≠ 12 := fun z => h (Int32.toInt_inj.mp z)
  have := b.2
  have e : (12 : Int32).toInt = 12 := rfl
  omega
/-- the row that a plan's line leaves -/
theorem kp_X {x x2 : MM} {g2 g3 : GG} {f : Nat → Int32} {L a w : Nat} {P : Int32 × Int32} {R : Nat → Int32} {v0 v1 : Int32} (b0 : Bd 0 12 (R 0)) (h : RSv x2 g3 f L a P R) (h0 : x 171 0 = v0) (h1 : x2 171 1 = v1) (h4 : w ≠ 4) : (KP (R 0) (iN w) x g2 x2 g3).1 = true ∧ RSv (KP (R 0) (iN w) x g2 x2 g3).2.1 (KP (R 0) (iN w) x g2 x2 g3).2.2 f L a P (rowP w R v0 v1) := by
  unfold KP rowP
  by_cases q : R 0 = 12
  · rw [if_pos (show (12 : Int32) ≤ R 0 by rw [q]; decide), if_neg (show ¬ R 0 < 12 by rw [q]; decide)]
    exact ⟨rfl, h⟩
  · have hlt := lt12 b0 q
    rw [if_neg (fun z => lt_le_no hlt z), if_pos hlt, if_neg h4]
    refine ⟨rfl, rs_170 h ?_ rfl rfl⟩
    show wr4 x2 (R 0) (iN w) (x 171 0) (x2 171 1) 170 = _
    rw [wr_R b0 hlt h.2.2.2.2, h0, h1]
theorem j112 {u y : MM} {g : GG} {n : Int32} {w : Nat} {lo hi : Int32} (hn : u 170 0 = n) (hw : w < 4) (hlo : (if w = 3 then (0 : Int32) else 1) = lo) (hhi : (if w = 0 then (10 : Int32) else if w = 3 then 8 else 24) = hi) : Fx_M_workLineX_J112 u g (iN w) y = two 0 8 (fun _ => lo) (fun _ => hi) (KP n (iN w)) (ms (Fx_M_tokenX y g).1 171 1 (-1)) (Fx_M_tokenX y g).2 := by
  subst hlo
  subst hhi
  rcases (show w = 0 ∨ w = 1 ∨ w = 2 ∨ w = 3 by omega) with z | z | z | z
  all_goals
    subst z
    subst hn
    unfold Fx_M_workLineX_J112
    rfl
theorem rs_171 {x : MM} {g : GG} {f : Nat → Int32} {L a i : Nat} {P : Int32 × Int32} {R : Nat → Int32} {v : Int32} (h : RSv x g f L a P R) : RSv (ms x 171 i v) g f L a P R := rs_170 h ((ms_c1 (by decide)).trans h.2.2.2.2) (ms_c1 (by decide)) (ms_c1 (by decide))
theorem c8 : ∀ w, w < 5 → (sAr 4).getD (3 * w + 0) 0 = 0 ∧ (sAr 5).getD (3 * w + 0) 0 = 8 := by decide +kernel
theorem c81 : ∀ w, w < 4 → (sAr 4).getD (3 * w + 1) 0 = (if w = 3 then (0 : Int32) else 1) ∧ (sAr 5).getD (3 * w + 1) 0 = (if w = 0 then (10 : Int32) else if w = 3 then 8 else 24) := by decide +kernel
theorem j112_4 {u y : MM} {g : GG} {f : Nat → Int32} {L a : Nat} {P : Int32 × Int32} {R : Nat → Int32} (hb : L ≤ 600) (hf : ∀ j, j < L → Bd (-128) 127 (f j)) (ha : a ≤ L) (hn : u 170 0 = R 0) (b0 : Bd 0 12 (R 0)) (h : RSv (Fx_M_tokenX y g).1 (Fx_M_tokenX y g).2 f L a P R) (o : OR P (tS f L a)) : OUT (Fx_M_workLineX_J112 u g 4 y) f L 1 a (fo (fun j x => chP 4 j x) (vv f L a) (pp f L a) 1 0 P) (rowP 4 R (vv f L a 0) (vv f L a 1)) := by
  have hN : nn f L 1 a = if tK f L a = 2 then none else some (tS f L a) := rfl
  have e : Fx_M_workLineX_J112 u g 4 y = xq_c3 (Fx_M_take0X 0 8 (ms (Fx_M_tokenX y g).1 171 1 (-1)) (Fx_M_tokenX y g).2) fun t x g2 => if t = true then (if (12 : Int32) ≤ u 170 0 then (true, x, g2) else (true, wr4 x (u 170 0) 4 (x 171 0) (-1), g2)) else (false, x, g2) := rfl
  rw [fo_1, e, hn]
  unfold OUT
  rw [hN]
  have h2 := rs_171 (i := 1) (v := -1) h
  by_cases k : tK f L a = 2
  · obtain ⟨x, g2, e2, m1, m2, m3, m4, m5, m6⟩ := ta_01 (low := 0) (high := 8) hb hf ha h2 o k
    rw [e2, c3_mk, if_pos rfl, if_pos k]
    refine ⟨fun q z => (by cases z), fun _ => ?_⟩
    unfold rowP
    by_cases q : R 0 = 12
    · rw [if_pos (show (12 : Int32) ≤ R 0 by rw [q]; decide), if_neg (show ¬ R 0 < 12 by rw [q]; decide)]
      exact ⟨rfl, m1, m6⟩
    · have hlt := lt12 b0 q
      rw [if_neg (fun z => lt_le_no hlt z), if_pos hlt, if_pos rfl]
      refine ⟨rfl, rs_170 m1 ?_ rfl rfl, m6⟩
      show wr4 x (R 0) (iN 4) (x 171 0) (-1) 170 = _
      rw [wr_R b0 hlt m1.2.2.2.2, m2]
      rfl
  · obtain ⟨x, g2, e2, m1⟩ := ta_00 (low := 0) (high := 8) h2 k
    rw [e2, c3_mk, if_neg (show ¬ false = true by decide), if_neg k]
    refine ⟨fun q z => ?_, fun z => (by cases z)⟩
    cases z
    exact ⟨rfl, m1⟩
theorem pl_X {v : MM} {g : GG} {f : Nat → Int32} {L a : Nat} {P : Int32 × Int32} {R : Nat → Int32} (hb : L ≤ 600) (hf : ∀ j, j < L → Bd (-128) 127 (f j)) (ha : a ≤ L) (h : RSv v g f L a P R) (o : OR P (tS f L a)) (b0 : Bd 0 12 (R 0)) :
    (pX f L a = -1 → Fx_M_workLineX (iN (tS f L a)) v g = (false, ms v 162 14 (iN (tS f L a)), g)) ∧ ∀ w, w < 5 → pX f L a = iN w → OUT (Fx_M_workLineX (iN (tS f L a)) v g) f L (cnP w) (tN f L a) (lnPP w f L a R P) (lnPR w f L a R) := by
  have hT := h.2.2.1
  refine ⟨fun q => ?_, fun w hw q => ?_⟩
  · rcases pX_c (f := f) (L := L) (a := a) with ⟨_, h2⟩ | ⟨j, h1, h2, _⟩
    · rw [wl_wn (fun i hi z => h2 i hi ((rw_i (pwi_lt i hi) hT).mp z)), hT.2.1]
    · exact absurd (h2.symm.trans q) (iN_m1 (by omega))
  · have hwk : wk f (tS f L a) (tN f L a) (tK f L a) (pwi w) = true := by
      rcases pX_c (f := f) (L := L) (a := a) with ⟨h1, _⟩ | ⟨j, h1, h2, h3⟩
      · exact absurd (q.symm.trans h1) (iN_m1 (by omega))
      · rw [← (iN_eq (by omega) (by omega)).mp (h2.symm.trans q)]
        exact h3
    have pinj : ∀ i, i < 5 → ∀ j, j < 5 → pwi i = pwi j → i = j := by decide
    have hk : ∀ i, i < 5 → (lg_cmp (rw0 v g) (kW (pwi i)) = 0 ↔ i = w) := by
      intro i hi
      rw [rw_i (pwi_lt i hi) hT]
      refine ⟨fun z => ?_, fun z => by rw [z]; exact hwk⟩
      exact pinj i hi w hw (wm_u (pwi_lt i hi) (pwi_lt w hw) ((Bool.and_eq_true _ _).mp z).2 ((Bool.and_eq_true _ _).mp hwk).2)
    have hK : tK f L a = 1 := of_decide_eq_true ((Bool.and_eq_true _ _).mp hwk).1
    have hlt := tN_lt (f := f) (L := L) (a := a) (by rw [hK]; decide)
    have hle := tS_le (f := f) (L := L) (tN f L a)
    have hin := tS_in (f := f) (tN_in (f := f) ha)
    have e170 : v 170 0 = R 0 := by rw [h.2.2.2.2]
    -- behind the word: with the full plan remembered, or not
    have key : ∀ y : MM, ∀ Q : Int32 × Int32, y 163 = v 163 → y 162 9 = v 162 9 → y 162 8 = v 162 8 → y 170 = v 170 → LT y Q → OR Q (tS f L (tN f L a)) → OUT (Fx_M_workLineX_J112 v g (iN w) y) f L (cnP w) (tN f L a) (fo (fun j x => chP w j x) (vv f L (tN f L a)) (pp f L (tN f L a)) (cnP w) 0 Q) (rowP w R (vv f L (tN f L a) 0) (vv f L (tN f L a) 1)) := by
      intro y Q y1 y2 y3 y4 y5 y6
      obtain ⟨m1, m2⟩ := rs_t (y := y) (Q := Q) hb hf ha h y1 y2 y3 y4 y5
      by_cases w4 : w = 4
      · subst w4
        exact j112_4 hb hf (tN_in ha) e170 b0 m1 y6
      · have hc : cnP w = 2 := by
          rcases (show w = 0 ∨ w = 1 ∨ w = 2 ∨ w = 3 by omega) with z | z | z | z <;> rw [z] <;> rfl
        rw [hc, fo_2, j112 e170 (by omega) rfl rfl]
        obtain ⟨t1, t2⟩ := two_X (lo0 := 0) (hi0 := 8) (lo1 := fun _ => if w = 3 then (0 : Int32) else 1) (hi1 := fun _ => if w = 0 then (10 : Int32) else if w = 3 then 8 else 24) (K := KP (R 0) (iN w)) hb hf (tN_in ha) (rs_171 (i := 1) (v := -1) m1) y6
        refine ⟨t1, fun z => ?_⟩
        obtain ⟨x, g2, x2, g3, k1, k2, k3, k4, k5, k6, k7, k8, k9, k10⟩ := t2 z
        have ck0 : okn 0 8 (vv f L (tN f L a) 0) = chP w 0 (vv f L (tN f L a) 0) := by
          unfold okn chP
          rw [(c8 w hw).1, (c8 w hw).2]
        have ck1 : okn (if w = 3 then (0 : Int32) else 1) (if w = 0 then (10 : Int32) else if w = 3 then 8 else 24) (vv f L (tN f L a) 1) = chP w 1 (vv f L (tN f L a) 1) := by
          unfold okn chP
          rw [(c81 w (by omega)).1, (c81 w (by omega)).2]
        rw [ck0, ck1] at k7 k8
        rw [k1]
        obtain ⟨s1, s2⟩ := kp_X (g2 := g2) (x := x) (v0 := vv f L (tN f L a) 0) (v1 := vv f L (tN f L a) 1) b0 k7 k2 k4 w4
        exact ⟨s1, s2, k8⟩
    have hJ : Fx_M_workLineX (iN (tS f L a)) v g = Fx_M_workLineX_J78 (iN (tS f L a)) v g (iN w) := by
      rcases (show w = 0 ∨ w = 1 ∨ w = 2 ∨ w = 3 ∨ w = 4 by omega) with z | z | z | z | z
      · subst z; exact wl_w0 hk
      · subst z; exact wl_w1 hk
      · subst z; exact wl_w2 hk
      · subst z; exact wl_w3 hk
      · subst z; exact wl_w4 hk
    rw [hJ]
    unfold Fx_M_workLineX_J78 lnPP lnPR
    rw [if_neg (iN_m1 (by omega)), e170]
    by_cases q12 : R 0 = 12
    · rw [if_pos q12, decide_eq_false (show ¬ R 0 < 12 by rw [q12]; decide), rmb_f (by decide)]
      obtain ⟨l1, l2, l3⟩ := la_X (v := v) (g := g) (f := 3) (t := tS f L a) h.2.2.2.1 o
      exact key (Fx_M_laterX 3 (iN (tS f L a)) v g) (rm P 3 (iN (tS f L a))) (l2 163 (by decide)) (l3 9 (by decide) (by decide)) (l3 8 (by decide) (by decide)) (l2 170 (by decide)) l1 (or_rm o (by omega) (by omega))
    · rw [if_neg q12, decide_eq_true (lt12 b0 q12), rmb_t rfl]
      exact key v P rfl rfl rfl rfl h.2.2.2.1 (or_w o (by omega) (by omega))
/-- how the reference's reader of a plan ends -/
theorem rp_L {f : Nat → Int32} {L : Nat} (hb : L ≤ 600) (hf : ∀ j, j < L → Bd (-128) 127 (f j)) : ∀ (n m a : Nat) (v : MM) (g : GG) (P : Int32 × Int32) (R : Nat → Int32), L - tN f L a < n → L - a < m → a ≤ L → RSv v g f L a P R → OR P (tS f L a) → Bd 0 12 (R 0) →
    (∀ q P2 R2, PT f L m a P R = (some q, P2, R2) → ∃ x g2, Fx_M_readText1X_L55 n 1 v g = Fx_M_readText1X_J122 0 x g2 ∧ x 162 14 = iN q) ∧
    (∀ P2 R2, PT f L m a P R = (none, P2, R2) → ∃ x g2 e, Fx_M_readText1X_L55 n 1 v g = Fx_M_readText1X_J122 1 x g2 ∧ RSv x g2 f L e P2 R2 ∧ OR P2 (tS f L e) ∧ tK f L e = 0 ∧ e ≤ L ∧ Bd 0 12 (R2 0)) := by
  intro n
  induction n with
  | zero => intro m a v g P R h; omega
  | succ n ih =>
    intro m a v g P R hn hm ha h o b0
    cases m with
    | zero => omega
    | succ m =>
    have hT := h.2.2.1
    have hH : PT f L (m + 1) a P R = if tK f L a = 0 then (none, P, R) else if pX f L a = -1 then (some (tS f L a), P, R) else
      match nb f L (cnP (pX f L a).toInt.toNat) (tN f L a) with
      | some q => (some q, P, R)
      | none => PT f L m (sk f L (cnP (pX f L a).toInt.toNat + 1) (tN f L a)) (lnPP (pX f L a).toInt.toNat f L a R P) (lnPR (pX f L a).toInt.toNat f L a R) := rfl
    rw [hH, Fx_M_readText1X_L55_s, if_neg (show ¬ (1 : Int32) = 0 by decide)]
    by_cases k0 : tK f L a = 0
    · rw [if_pos k0, if_pos (show v 162 11 = 0 by rw [hT.2.2.1, k0]; rfl)]
      refine ⟨fun q P2 R2 z => (by cases z), fun P2 R2 z => ?_⟩
      cases z
      exact ⟨v, g, a, rfl, h, o, k0, ha, b0⟩
    · have kz : ¬ v 162 11 = 0 := by
        rw [hT.2.2.1]
        unfold km
        rw [if_neg k0]
        split
        · decide
        · split
          · decide
          · split <;> decide
      rw [if_neg k0, if_neg kz]
      have hv : RSv (ms v 162 18 1) g f L a P R := by
        obtain ⟨r1, r2, ⟨t1, t2, t3, t4, t5⟩, r4, r5⟩ := h
        exact ⟨r1, r2, ⟨t1, t2, t3, t4, t5⟩, r4, r5⟩
      obtain ⟨l1, l2⟩ := pl_X hb hf ha hv o b0
      simp only [xq_lt]
      rw [hT.2.1]
      by_cases kx : pX f L a = -1
      · rw [if_pos kx, l1 kx]
        refine ⟨fun q P2 R2 z => ?_, fun P2 R2 z => (by cases z)⟩
        cases z
        refine ⟨ms (ms v 162 18 1) 162 14 (iN (tS f L a)), g, ?_, rfl⟩
        rw [c3_mk, if_neg (by decide)]
        rfl
      · rw [if_neg kx]
        obtain ⟨w5, wx⟩ := pX_n kx
        obtain ⟨u1, u2⟩ := l2 _ w5 wx
        obtain ⟨n1, n2⟩ := nb_n (f := f) (L := L) (cnP (pX f L a).toInt.toNat) (tN f L a)
        generalize hw : (pX f L a).toInt.toNat = w at *
        obtain ⟨t, x, g2, hz⟩ : ∃ t x g2, Fx_M_workLineX (iN (tS f L a)) (ms v 162 18 1) g = (t, x, g2) := ⟨_, _, _, rfl⟩
        rw [hz] at u1 u2 ⊢
        rw [c3_mk]
        cases hN : nn f L (cnP w) (tN f L a) with
        | some q =>
          rw [n1 q hN]
          obtain ⟨y1, y2⟩ := u1 q hN
          have y1' : t = false := y1
          refine ⟨fun q2 P2 R2 z => ?_, fun P2 R2 z => (by cases z)⟩
          cases z
          refine ⟨x, g2, ?_, y2⟩
          rw [y1', if_neg (by decide)]
          rfl
        | none =>
          rw [n2 hN]
          obtain ⟨y1, y2, y3⟩ := u2 hN
          have y1' : t = true := y1
          have y2' : RSv x g2 f L (sk f L (cnP w) (tN f L a)) (lnPP w f L a R P) (lnPR w f L a R) := y2
          rw [y1', if_pos rfl]
          by_cases k3 : tK f L (sk f L (cnP w) (tN f L a)) = 3
          · rw [if_pos k3, if_pos (show x 162 11 = 4 by rw [y2'.2.2.1.2.2.1]; exact km_4.mpr k3)]
            have hin : sk f L (cnP w) (tN f L a) ≤ L := sk_in _ _ (tN_in ha)
            obtain ⟨m1, m2⟩ := rs_t (y := x) (Q := lnPP w f L a R P) hb hf hin y2' rfl rfl rfl rfl y2'.2.2.2.1
            have p1 := tN_lt (f := f) (L := L) (a := a) k0
            have p2 := tN_lt (f := f) (L := L) (a := sk f L (cnP w) (tN f L a)) (by rw [k3]; decide)
            have p3 := sk_le (f := f) (L := L) (cnP w) (tN f L a)
            have p4 := tS_le (f := f) (L := L) a
            have p5 := tS_le (f := f) (L := L) (sk f L (cnP w) (tN f L a))
            have p6 := tS_le (f := f) (L := L) (tN f L (sk f L (cnP w) (tN f L a)))
            have p7 := tN_in (f := f) hin
            have p8 := tS_in (f := f) p7
            have p9 := tN_le (f := f) (L := L) (tN f L (sk f L (cnP w) (tN f L a)))
            have c0 := rowP_b (w := w) (v0 := vv f L (tN f L a) 0) (v1 := vv f L (tN f L a) 1) b0
            have es : sk f L (cnP w + 1) (tN f L a) = tN f L (sk f L (cnP w) (tN f L a)) := sk_s _ _
            have y3' : OR (lnPP w f L a R P) (tS f L (sk f L (cnP w) (tN f L a))) := y3
            have I := ih m (tN f L (sk f L (cnP w) (tN f L a))) (Fx_M_tokenX x g2).1 (Fx_M_tokenX x g2).2 (lnPP w f L a R P) (lnPR w f L a R) (by omega) (by omega) p7 m1 (or_w y3' (by omega) (by omega)) c0
            dsimp only
            rw [es]
            exact I
          · rw [if_neg k3, if_neg (show ¬ x 162 11 = 4 from fun z => k3 (km_4.mp (y2'.2.2.1.2.2.1 ▸ z)))]
            refine ⟨fun q2 P2 R2 z => ?_, fun P2 R2 z => (by cases z)⟩
            cases z
            refine ⟨ms x 162 14 (x 162 10), g2, rfl, ?_⟩
            rw [ms_e1]
            exact y2'.2.2.1.2.1
