/-! a plan laid on a hill, on both sides; pond -/
/-- what the reference's lay sets behind the row -/
def finL (x : MM) : MM := ms (ms (ms (ms (ms (ms x 162 22 (x 172 0)) 162 23 0) 162 24 0) 162 25 0) 162 26 (-1)) 162 27 0
theorem fin_c {x : MM} {c : Nat} (h : c ≠ 162) : finL x c = x c := by
  unfold finL
  rw [ms_c1 h, ms_c1 h, ms_c1 h, ms_c1 h, ms_c1 h, ms_c1 h]
theorem lc_a {h : Nat} (hh : h ≤ 3) : ∀ (n i : Nat) (w : MM), 157 - i < n → i ≤ 157 → ∃ x, Fx_M_layX_L25 (iN h) (-1) n (iN i) w = (true, finL x) ∧ (∀ c, c ≠ 172 → x c = w c) ∧ ∀ j, x 172 j = if i ≤ j ∧ j < 157 then w 168 (157 * h + j) else w 172 j := by
  intro n
  induction n with
  | zero => intro i w q; omega
  | succ n ih =>
    intro i w q hi
    rw [Fx_M_layX_L25_s]
    by_cases c : 157 ≤ i
    · rw [if_pos (show (157 : Int32) ≤ iN i from (iN_le (a := 157) (by omega) (by omega)).mpr c), xqb, xqb, xqb, xqb, xqb, xqb, if_pos rfl]
      refine ⟨w, rfl, fun _ _ => rfl, fun j => ?_⟩
      rw [if_neg (by omega)]
    · rw [if_neg (show ¬ (157 : Int32) ≤ iN i from fun q => c ((iN_le (a := 157) (by omega) (by omega)).mp q)), iN_s, xqb, xqb]
      have q1 : (((157 : Int32) * iN h) + iN i).toNatClampNeg = 157 * h + i := fr_ix (N := 157) hh (by omega) (by omega)
      rw [q1, iN_cl (by omega)]
      obtain ⟨x, x1, x2, x3⟩ := ih (i + 1) (ms w 172 i (w 168 (157 * h + i))) (by omega) (by omega)
      refine ⟨x, x1, fun c hc => (x2 c hc).trans (ms_c1 hc), fun j => ?_⟩
      rw [x3 j, ms_c1 (by decide)]
      by_cases z : j = i
      · rw [if_neg (by omega), z, ms_e1, if_pos (by omega)]
      · rw [ms_i1 z]
        by_cases z2 : i ≤ j ∧ j < 157
        · rw [if_pos (by omega), if_pos z2]
        · rw [if_neg (by omega), if_neg z2]
theorem lc_b {h : Nat} {plan : Int32} {g : GG} (hh : h ≤ 3) (hp : ¬ plan = -1) : ∀ (n i : Nat) (w : MM), 157 - i < n → i ≤ 157 → ∃ x, Fx_M_layX_L25b (iN h) plan g n (iN i) w = Fx_M_layX_L102 plan g 13 1 (finL x) ∧ (∀ c, c ≠ 172 → x c = w c) ∧ ∀ j, x 172 j = if i ≤ j ∧ j < 157 then w 168 (157 * h + j) else w 172 j := by
  intro n
  induction n with
  | zero => intro i w q; omega
  | succ n ih =>
    intro i w q hi
    rw [Fx_M_layX_L25b_s]
    by_cases c : 157 ≤ i
    · rw [if_pos (show (157 : Int32) ≤ iN i from (iN_le (a := 157) (by omega) (by omega)).mpr c), xqb, xqb, xqb, xqb, xqb, xqb, if_neg hp]
      refine ⟨w, ?_, fun _ _ => rfl, fun j => ?_⟩
      · have e : (finL w) 162 23 = 0 := rfl
        have e2 : (12 - (finL w 162 23).toInt).toNat + 1 = 13 := by rw [e]; rfl
        show Fx_M_layX_L102 plan g ((12 - (finL w 162 23).toInt).toNat + 1) 1 (finL w) = _
        rw [e2]
      · rw [if_neg (by omega)]
    · rw [if_neg (show ¬ (157 : Int32) ≤ iN i from fun q => c ((iN_le (a := 157) (by omega) (by omega)).mp q)), iN_s, xqb, xqb]
      have q1 : (((157 : Int32) * iN h) + iN i).toNatClampNeg = 157 * h + i := fr_ix (N := 157) hh (by omega) (by omega)
      rw [q1, iN_cl (by omega)]
      obtain ⟨x, x1, x2, x3⟩ := ih (i + 1) (ms w 172 i (w 168 (157 * h + i))) (by omega) (by omega)
      refine ⟨x, x1, fun c hc => (x2 c hc).trans (ms_c1 hc), fun j => ?_⟩
      rw [x3 j, ms_c1 (by decide)]
      by_cases z : j = i
      · rw [if_neg (by omega), z, ms_e1, if_pos (by omega)]
      · rw [ms_i1 z]
        by_cases z2 : i ≤ j ∧ j < 157
        · rw [if_pos (by omega), if_pos z2]
        · rw [if_neg (by omega), if_neg z2]
/-- the class's ground at the start -/
def sit0 (c : MM) : MM := ms (ms (ms c 43 1 0) 43 2 0) 43 3 0
theorem sit0_c {x : MM} {c : Nat} (h : c ≠ 43) : sit0 x c = x c := by
  unfold sit0
  rw [ms_c1 h, ms_c1 h, ms_c1 h]
theorem sit_0 {u v c x : MM} {t k : Nat} (h : HRW u v t 0 k) (hc : HCP c u 44 t) (hx : ∀ j, j < 157 → x 172 j = v 168 (157 * k + j)) : SIT (sit0 c) (finL x) := by
  obtain ⟨h0, h1, h2, h3, h4⟩ := h
  obtain ⟨c0, c1, c2, c3, c4, c5⟩ := hc
  have R : ∀ {o : Nat}, v 168 (314 * 0 + (157 * k + o)) = v 168 (157 * k + o) := fun {o} => congrArg (v 168) (by omega)
  have x0 := hx 0 (by decide)
  have x1 := hx 1 (by decide)
  refine ⟨⟨?_, ?_, fun i hi => ?_, fun i hi hl => ?_, fun p d hp hd hl => ?_⟩, rfl, rfl, rfl, rfl, rfl, rfl⟩
  · rw [sit0_c (by decide), fin_c (by decide), c0, h0, x0]; exact R
  · rw [sit0_c (by decide), fin_c (by decide), c1, h1, x1]; exact R
  · rw [sit0_c (by decide), fin_c (by decide), hx _ (by omega)]
    exact (c5 i hi).trans ((h2 i hi).trans R)
  · rw [fin_c (by decide), x1, ← R] at hl
    obtain ⟨a, b⟩ := h3 i hi hl
    rw [sit0_c (by decide), sit0_c (by decide), fin_c (by decide), hx _ (by omega), hx _ (by omega)]
    exact ⟨(c3 i hi).trans (a.trans R), (c4 i hi).trans (b.trans R)⟩
  · rw [fin_c (by decide), x0, ← R] at hl
    rw [sit0_c (by decide), fin_c (by decide), hx _ (by omega)]
    exact (c2 (16 * p + d) (by omega)).trans ((h4 p d hp hd hl).trans R)
theorem lz_5 {u : MM} {g : GG} (h : u 49 0 = 0) : Fx_Si_lay_5_49X u g = sit0 (Fx_H_copyBX 44 5 u g) := by
  unfold Fx_Si_lay_5_49X
  rw [xqb, xqb, xqb, xqb]
  have e : (12 - (0 : Int32).toInt).toNat + 1 = 12 + 1 := by decide
  rw [e, Fx_Si_lay_5_49X_L25_s, h, if_pos (by decide)]
  rfl
theorem lz_10 {u : MM} {g : GG} (h : u 49 0 = 0) : Fx_Si_lay_10_49X u g = sit0 (Fx_H_copyBX 44 10 u g) := by
  unfold Fx_Si_lay_10_49X
  rw [xqb, xqb, xqb, xqb]
  have e : (12 - (0 : Int32).toInt).toNat + 1 = 12 + 1 := by decide
  rw [e, Fx_Si_lay_10_49X_L25_s, h, if_pos (by decide)]
  rfl
theorem lz_5_15 {u : MM} {g : GG} : Fx_Si_lay_5_15X u g = Fx_Si_lay_5_15X_L25 u g 13 (iN 0) (sit0 (Fx_H_copyBX 44 5 u g)) := by
  unfold Fx_Si_lay_5_15X
  rw [xqb, xqb, xqb, xqb]
  have e : (12 - (0 : Int32).toInt).toNat + 1 = 13 := by decide
  rw [e]
  rfl
theorem lz_5_19 {u : MM} {g : GG} : Fx_Si_lay_5_19X u g = Fx_Si_lay_5_19X_L25 u g 13 (iN 0) (sit0 (Fx_H_copyBX 44 5 u g)) := by
  unfold Fx_Si_lay_5_19X
  rw [xqb, xqb, xqb, xqb]
  have e : (12 - (0 : Int32).toInt).toNat + 1 = 13 := by decide
  rw [e]
  rfl
theorem lz_5_23 {u : MM} {g : GG} : Fx_Si_lay_5_23X u g = Fx_Si_lay_5_23X_L25 u g 13 (iN 0) (sit0 (Fx_H_copyBX 44 5 u g)) := by
  unfold Fx_Si_lay_5_23X
  rw [xqb, xqb, xqb, xqb]
  have e : (12 - (0 : Int32).toInt).toNat + 1 = 13 := by decide
  rw [e]
  rfl
theorem lz_10_15 {u : MM} {g : GG} : Fx_Si_lay_10_15X u g = Fx_Si_lay_10_15X_L25 u g 13 (iN 0) (sit0 (Fx_H_copyBX 44 10 u g)) := by
  unfold Fx_Si_lay_10_15X
  rw [xqb, xqb, xqb, xqb]
  have e : (12 - (0 : Int32).toInt).toNat + 1 = 13 := by decide
  rw [e]
  rfl
theorem lz_10_19 {u : MM} {g : GG} : Fx_Si_lay_10_19X u g = Fx_Si_lay_10_19X_L25 u g 13 (iN 0) (sit0 (Fx_H_copyBX 44 10 u g)) := by
  unfold Fx_Si_lay_10_19X
  rw [xqb, xqb, xqb, xqb]
  have e : (12 - (0 : Int32).toInt).toNat + 1 = 13 := by decide
  rw [e]
  rfl
theorem lz_10_23 {u : MM} {g : GG} : Fx_Si_lay_10_23X u g = Fx_Si_lay_10_23X_L25 u g 13 (iN 0) (sit0 (Fx_H_copyBX 44 10 u g)) := by
  unfold Fx_Si_lay_10_23X
  rw [xqb, xqb, xqb, xqb]
  have e : (12 - (0 : Int32).toInt).toNat + 1 = 13 := by decide
  rw [e]
  rfl
/-- a plan laid on a hill: both say the same, and what lies there is the same -/
theorem lay_X {u v : MM} {g g' : GG} {hill plan : Int32} (h : RLX u v) (b5 : Bd 0 2 (u 1 5)) (b7 : Bd 0 3 (u 1 7)) (hd : HD v) (pl : PL v) (wf : WFA v) (h49 : u 49 0 = 0) : (Fx_P_laysX hill plan u g).1 = (Fx_M_layX hill plan v g').1 ∧ ((Fx_P_laysX hill plan u g).1 = true → SIT (Fx_P_laysX hill plan u g).2 (Fx_M_layX hill plan v g').2 ∧ HWF ((Fx_M_layX hill plan v g').2 172)) := by
  obtain ⟨t0, t1, t2, t3, t5, t7, th, tw⟩ := h.1
  obtain ⟨n, hn, n2⟩ := iN_ex (hi := 2) b5
  obtain ⟨n', hn', n3⟩ := iN_ex (hi := 3) b7
  have v5 : v 167 0 = iN n := t5.symm.trans hn
  have v7 : v 167 1 = iN n' := t7.symm.trans hn'
  have no : ∀ {a : Bool × MM} {b : Bool × MM}, a.1 = false → b.1 = false → a.1 = b.1 ∧ (a.1 = true → SIT a.2 b.2 ∧ HWF (b.2 172)) := fun ha hb => ⟨ha.trans hb.symm, fun q => by rw [ha] at q; exact absurd q (by decide)⟩
  unfold Fx_P_laysX Fx_M_layX
  rw [xqb (x := Fx_T_hasHillX hill u g), xqb (x := Fx_M_isHillX hill v g'), ih_X, v5]
  rcases nb_cl (x := hill) (c := u 1 5) hn (by omega) with ⟨k, k1, k2, k3, k4, k5⟩ | ⟨k3, k5⟩
  rotate_left
  · rw [hn] at k5
    rw [hs_f k3, if_neg (by decide), if_neg k5]
    exact no rfl rfl
  rw [hn] at k5
  rw [hs_t k3 k4, if_pos rfl, if_pos k5]
  have hr := th k (by omega) (by rw [hn, iN_ti (by omega)]; omega)
  have bk : Bd 0 9 (v 168 (157 * k)) := (hd k (by omega)).1
  have f158 : (157 - (0 : Int32).toInt).toNat + 1 = 158 := by decide
  have hw := wf 0 (by decide) k (by omega) (show k < (v 167 0).toInt.toNat by rw [v5, iN_ti (by omega)]; omega)
  by_cases p1 : plan = -1
  · rw [if_pos p1, if_pos p1, if_pos p1, if_pos p1, f158, k2, p1]
    obtain ⟨x, x1, x2, x3⟩ := lc_a (h := k) (by omega) 158 0 v (by omega) (by omega)
    have x1' : Fx_M_layX_L25 (iN k) (-1) 158 0 v = (true, finL x) := x1
    rw [x1']
    have hx : ∀ j, j < 157 → x 172 j = v 168 (157 * k + j) := fun j hj => by rw [x3 j, if_pos (by omega)]
    have hF : HWF (finL x 172) := hwf_c (fun j hj => by rw [fin_c (by decide), hx j hj]; exact congrArg (v 168) (by omega)) hw
    rcases (show k = 0 ∨ k = 1 by omega) with q | q <;> subst q
    · rw [if_pos (by decide), xqb, lz_5 h49]
      exact ⟨rfl, fun _ => ⟨sit_0 hr (hcB (u := u) (g := g) (t := 44) (f := 5) (by omega)).1 hx, hF⟩⟩
    · rw [if_neg (by decide), xqb, lz_10 h49]
      exact ⟨rfl, fun _ => ⟨sit_0 hr (hcB (u := u) (g := g) (t := 44) (f := 10) (by omega)).1 hx, hF⟩⟩
  simp only [if_neg p1]
  rw [xqb (x := Fx_T_hasPlanX plan u g), xqb (x := Fx_M_isPlanX plan v g'), ip_X, v7]
  rcases nb_cl (x := plan) (c := u 1 7) hn' (by omega) with ⟨j, j1, j2, j3, j4, j5⟩ | ⟨j3, j5⟩
  rotate_left
  · rw [hn'] at j5
    rw [ps_f j3, if_neg (by decide), if_neg j5]
    exact no rfl rfl
  rw [hn'] at j5
  rw [ps_t j3 j4, if_pos rfl, if_pos j5, f158, k2]
  obtain ⟨x, x1, x2, x3⟩ := lc_b (h := k) (plan := plan) (g := g') (by omega) p1 158 0 v (by omega) (by omega)
  have x1' : Fx_M_layX_L25b (iN k) plan g' 158 0 v = Fx_M_layX_L102 plan g' 13 1 (finL x) := x1
  rw [x1', j2]
  have hx : ∀ j, j < 157 → x 172 j = v 168 (157 * k + j) := fun j hj => by rw [x3 j, if_pos (by omega)]
  have b9 : Bd 0 9 (finL x 172 0) := by rw [fin_c (by decide), hx 0 (by decide)]; exact bk
  have hF : HWF (finL x 172) := hwf_c (fun j hj => by rw [fin_c (by decide), hx j hj]; exact congrArg (v 168) (by omega)) hw
  have x9 : finL x 169 = v 169 := by rw [fin_c (by decide), x2 169 (by decide)]
  have f23 : finL x 162 23 = iN 0 := rfl
  obtain ⟨w0, w1⟩ := tw j (by omega) (by rw [hn', iN_ti (by omega)]; omega)
  have bm := pl j (by omega)
  obtain ⟨m, hm, m12⟩ := iN_ex (hi := 12) bm.1
  have R : ∀ {o : Nat}, v 169 (111 * 0 + (37 * j + o)) = v 169 (37 * j + o) := fun {o} => congrArg (v 169) (by omega)
  have um : u (15 + 4 * j) 0 = iN m := w0.trans (R.trans hm)
  have wk : ∀ i, i < m → u (15 + 4 * j + 1) i = v 169 (37 * j + (1 + 3 * i)) ∧ u (15 + 4 * j + 2) i = v 169 (37 * j + (2 + 3 * i)) ∧ u (15 + 4 * j + 3) i = v 169 (37 * j + (3 + 3 * i)) := by
    intro i hi
    obtain ⟨a, b, d⟩ := w1 i (by omega) (by rw [show v 169 (111 * 0 + (37 * j + 0)) = iN m from R.trans hm, iN_ti (by omega)]; omega)
    exact ⟨a.trans R, b.trans R, d.trans R⟩
  rcases (show k = 0 ∨ k = 1 by omega) with q | q <;> subst q
  · rcases (show j = 0 ∨ j = 1 ∨ j = 2 by omega) with y | y | y <;> subst y
    · rw [if_pos (show iN 0 = 0 by decide)]
      rw [if_pos (by decide)]
      have hc := hcB (u := u) (g := g) (t := 44) (f := 5) (by omega)
      have W1 : WKS (sit0 (Fx_H_copyBX 44 5 u g)) (finL x) 15 0 m := by
        refine ⟨by rw [x9]; exact hm, m12, fun i hi => ?_, fun i hi => by rw [x9]; exact bm.2 i hi⟩
        rw [x9, sit0_c (by decide), sit0_c (by decide), sit0_c (by decide), hc.2 _ (by decide), hc.2 _ (by decide), hc.2 _ (by decide)]
        exact wk i hi
      obtain ⟨x2', y2, e1, e2, e3, e4, e5, e6, e7⟩ := ly_5_15 (u := u) (g := g) (g' := g') (k := 0) (m := m) um (by omega) m 13 13 0 (sit0 (Fx_H_copyBX 44 5 u g)) (finL x) (by omega) (by omega) (by omega) (by omega) (sit_0 hr hc.1 hx) f23 b9 W1 hF
      rw [xqb, lz_5_15, e1, show Fx_M_layX_L102 (iN 0) g' 13 1 (finL x) = (true, y2) from e2]
      exact ⟨rfl, fun _ => ⟨e3, e7⟩⟩
    · rw [if_pos (show iN 0 = 0 by decide)]
      rw [if_neg (by decide), if_pos (by decide)]
      have hc := hcB (u := u) (g := g) (t := 44) (f := 5) (by omega)
      have W1 : WKS (sit0 (Fx_H_copyBX 44 5 u g)) (finL x) 19 1 m := by
        refine ⟨by rw [x9]; exact hm, m12, fun i hi => ?_, fun i hi => by rw [x9]; exact bm.2 i hi⟩
        rw [x9, sit0_c (by decide), sit0_c (by decide), sit0_c (by decide), hc.2 _ (by decide), hc.2 _ (by decide), hc.2 _ (by decide)]
        exact wk i hi
      obtain ⟨x2', y2, e1, e2, e3, e4, e5, e6, e7⟩ := ly_5_19 (u := u) (g := g) (g' := g') (k := 1) (m := m) um (by omega) m 13 13 0 (sit0 (Fx_H_copyBX 44 5 u g)) (finL x) (by omega) (by omega) (by omega) (by omega) (sit_0 hr hc.1 hx) f23 b9 W1 hF
      rw [xqb, lz_5_19, e1, show Fx_M_layX_L102 (iN 1) g' 13 1 (finL x) = (true, y2) from e2]
      exact ⟨rfl, fun _ => ⟨e3, e7⟩⟩
    · rw [if_pos (show iN 0 = 0 by decide)]
      rw [if_neg (by decide), if_neg (by decide)]
      have hc := hcB (u := u) (g := g) (t := 44) (f := 5) (by omega)
      have W1 : WKS (sit0 (Fx_H_copyBX 44 5 u g)) (finL x) 23 2 m := by
        refine ⟨by rw [x9]; exact hm, m12, fun i hi => ?_, fun i hi => by rw [x9]; exact bm.2 i hi⟩
        rw [x9, sit0_c (by decide), sit0_c (by decide), sit0_c (by decide), hc.2 _ (by decide), hc.2 _ (by decide), hc.2 _ (by decide)]
        exact wk i hi
      obtain ⟨x2', y2, e1, e2, e3, e4, e5, e6, e7⟩ := ly_5_23 (u := u) (g := g) (g' := g') (k := 2) (m := m) um (by omega) m 13 13 0 (sit0 (Fx_H_copyBX 44 5 u g)) (finL x) (by omega) (by omega) (by omega) (by omega) (sit_0 hr hc.1 hx) f23 b9 W1 hF
      rw [xqb, lz_5_23, e1, show Fx_M_layX_L102 (iN 2) g' 13 1 (finL x) = (true, y2) from e2]
      exact ⟨rfl, fun _ => ⟨e3, e7⟩⟩
  · rcases (show j = 0 ∨ j = 1 ∨ j = 2 by omega) with y | y | y <;> subst y
    · rw [if_neg (show ¬ iN 1 = 0 by decide)]
      rw [if_pos (by decide)]
      have hc := hcB (u := u) (g := g) (t := 44) (f := 10) (by omega)
      have W1 : WKS (sit0 (Fx_H_copyBX 44 10 u g)) (finL x) 15 0 m := by
        refine ⟨by rw [x9]; exact hm, m12, fun i hi => ?_, fun i hi => by rw [x9]; exact bm.2 i hi⟩
        rw [x9, sit0_c (by decide), sit0_c (by decide), sit0_c (by decide), hc.2 _ (by decide), hc.2 _ (by decide), hc.2 _ (by decide)]
        exact wk i hi
      obtain ⟨x2', y2, e1, e2, e3, e4, e5, e6, e7⟩ := ly_10_15 (u := u) (g := g) (g' := g') (k := 0) (m := m) um (by omega) m 13 13 0 (sit0 (Fx_H_copyBX 44 10 u g)) (finL x) (by omega) (by omega) (by omega) (by omega) (sit_0 hr hc.1 hx) f23 b9 W1 hF
      rw [xqb, lz_10_15, e1, show Fx_M_layX_L102 (iN 0) g' 13 1 (finL x) = (true, y2) from e2]
      exact ⟨rfl, fun _ => ⟨e3, e7⟩⟩
    · rw [if_neg (show ¬ iN 1 = 0 by decide)]
      rw [if_neg (by decide), if_pos (by decide)]
      have hc := hcB (u := u) (g := g) (t := 44) (f := 10) (by omega)
      have W1 : WKS (sit0 (Fx_H_copyBX 44 10 u g)) (finL x) 19 1 m := by
        refine ⟨by rw [x9]; exact hm, m12, fun i hi => ?_, fun i hi => by rw [x9]; exact bm.2 i hi⟩
        rw [x9, sit0_c (by decide), sit0_c (by decide), sit0_c (by decide), hc.2 _ (by decide), hc.2 _ (by decide), hc.2 _ (by decide)]
        exact wk i hi
      obtain ⟨x2', y2, e1, e2, e3, e4, e5, e6, e7⟩ := ly_10_19 (u := u) (g := g) (g' := g') (k := 1) (m := m) um (by omega) m 13 13 0 (sit0 (Fx_H_copyBX 44 10 u g)) (finL x) (by omega) (by omega) (by omega) (by omega) (sit_0 hr hc.1 hx) f23 b9 W1 hF
      rw [xqb, lz_10_19, e1, show Fx_M_layX_L102 (iN 1) g' 13 1 (finL x) = (true, y2) from e2]
      exact ⟨rfl, fun _ => ⟨e3, e7⟩⟩
    · rw [if_neg (show ¬ iN 1 = 0 by decide)]
      rw [if_neg (by decide), if_neg (by decide)]
      have hc := hcB (u := u) (g := g) (t := 44) (f := 10) (by omega)
      have W1 : WKS (sit0 (Fx_H_copyBX 44 10 u g)) (finL x) 23 2 m := by
        refine ⟨by rw [x9]; exact hm, m12, fun i hi => ?_, fun i hi => by rw [x9]; exact bm.2 i hi⟩
        rw [x9, sit0_c (by decide), sit0_c (by decide), sit0_c (by decide), hc.2 _ (by decide), hc.2 _ (by decide), hc.2 _ (by decide)]
        exact wk i hi
      obtain ⟨x2', y2, e1, e2, e3, e4, e5, e6, e7⟩ := ly_10_23 (u := u) (g := g) (g' := g') (k := 2) (m := m) um (by omega) m 13 13 0 (sit0 (Fx_H_copyBX 44 10 u g)) (finL x) (by omega) (by omega) (by omega) (by omega) (sit_0 hr hc.1 hx) f23 b9 W1 hF
      rw [xqb, lz_10_23, e1, show Fx_M_layX_L102 (iN 2) g' 13 1 (finL x) = (true, y2) from e2]
      exact ⟨rfl, fun _ => ⟨e3, e7⟩⟩
