/-! a plan laid, and what that leaves alone (lay45f.py) -/
theorem lay_F {u v : MM} {g g' : GG} {hill plan : Int32} (h : RLX u v) (b5 : Bd 0 2 (u 1 5)) (b7 : Bd 0 3 (u 1 7)) (hd : HD v) (pl : PL v) (wf : WFA v) (h49 : u 49 0 = 0) : (Fx_P_laysX hill plan u g).1 = (Fx_M_layX hill plan v g').1 ∧ ((Fx_P_laysX hill plan u g).1 = true → (SIT (Fx_P_laysX hill plan u g).2 (Fx_M_layX hill plan v g').2 ∧ HWF ((Fx_M_layX hill plan v g').2 172)) ∧ (∀ c, c < 43 ∨ 48 < c → (Fx_P_laysX hill plan u g).2 c = u c) ∧ ∀ c, c ≠ 162 → c ≠ 172 → (Fx_M_layX hill plan v g').2 c = v c) := by
  obtain ⟨t0, t1, t2, t3, t5, t7, th, tw⟩ := h.1
  obtain ⟨n, hn, n2⟩ := iN_ex (hi := 2) b5
  obtain ⟨n', hn', n3⟩ := iN_ex (hi := 3) b7
  have v5 : v 167 0 = iN n := t5.symm.trans hn
  have v7 : v 167 1 = iN n' := t7.symm.trans hn'
  have no : ∀ {a : Bool × MM} {b : Bool × MM}, a.1 = false → b.1 = false → a.1 = b.1 ∧ (a.1 = true → (SIT a.2 b.2 ∧ HWF (b.2 172)) ∧ (∀ c, c < 43 ∨ 48 < c → a.2 c = u c) ∧ ∀ c, c ≠ 162 → c ≠ 172 → b.2 c = v c) := fun ha hb => ⟨ha.trans hb.symm, fun q => by rw [ha] at q; exact absurd q (by decide)⟩
  unfold Fx_P_laysX Fx_M_layX
  rw [xqb (x := Fx_T_hasHillX hill u g), xqb (x := Fx_M_isHillX hill v g'), ih_X, v5]
  rcases nb_cl (x := hill) (c := u 1 5) hn (by omega) with ⟨k, k1, k2, k3, k4, k5⟩ | ⟨k3, k5⟩
  rotate_left
  · rw [hn] at k5
    rw [hs_f k3, if_neg (by decide), if_neg k5]
    exact no rfl rfl
  rw [hn] at k5
  rw [hs_t k3 k4, if_pos rfl, if_pos k5]
  have hr := th k (by omega) (by rw [hn, iN_ti (by omega)]; omega)
  have bk : Bd 0 9 (v 168 (157 * k)) := (hd k (by omega)).1
  have f158 : (157 - (0 : Int32).toInt).toNat + 1 = 158 := by decide
  have hw := wf 0 (by decide) k (by omega) (show k < (v 167 0).toInt.toNat by rw [v5, iN_ti (by omega)]; omega)
  by_cases p1 : plan = -1
  · rw [if_pos p1, if_pos p1, if_pos p1, if_pos p1, f158, k2, p1]
    obtain ⟨x, x1, x2, x3⟩ := lc_a (h := k) (by omega) 158 0 v (by omega) (by omega)
    have x1' : Fx_M_layX_L25 (iN k) (-1) 158 0 v = (true, finL x) := x1
    rw [x1']
    have hx : ∀ j, j < 157 → x 172 j = v 168 (157 * k + j) := fun j hj => by rw [x3 j, if_pos (by omega)]
    have hF : HWF (finL x 172) := hwf_c (fun j hj => by rw [fin_c (by decide), hx j hj]; exact congrArg (v 168) (by omega)) hw
    rcases (show k = 0 ∨ k = 1 by omega) with q | q <;> subst q
    · rw [if_pos (by decide), xqb, lz_5 h49]
      exact ⟨rfl, fun _ => ⟨⟨sit_0 hr (hcB (u := u) (g := g) (t := 44) (f := 5) (by omega)).1 hx, hF⟩, fun c cc => (sit0_c (by omega)).trans ((hcB (u := u) (g := g) (t := 44) (f := 5) (by omega)).2 c (by omega)), fun c c1 c2 => (fin_c c1).trans (x2 c c2)⟩⟩
    · rw [if_neg (by decide), xqb, lz_10 h49]
      exact ⟨rfl, fun _ => ⟨⟨sit_0 hr (hcB (u := u) (g := g) (t := 44) (f := 10) (by omega)).1 hx, hF⟩, fun c cc => (sit0_c (by omega)).trans ((hcB (u := u) (g := g) (t := 44) (f := 10) (by omega)).2 c (by omega)), fun c c1 c2 => (fin_c c1).trans (x2 c c2)⟩⟩
  simp only [if_neg p1]
  rw [xqb (x := Fx_T_hasPlanX plan u g), xqb (x := Fx_M_isPlanX plan v g'), ip_X, v7]
  rcases nb_cl (x := plan) (c := u 1 7) hn' (by omega) with ⟨j, j1, j2, j3, j4, j5⟩ | ⟨j3, j5⟩
  rotate_left
  · rw [hn'] at j5
    rw [ps_f j3, if_neg (by decide), if_neg j5]
    exact no rfl rfl
  rw [hn'] at j5
  rw [ps_t j3 j4, if_pos rfl, if_pos j5, f158, k2]
  obtain ⟨x, x1, x2, x3⟩ := lc_b (h := k) (plan := plan) (g := g') (by omega) p1 158 0 v (by omega) (by omega)
  have x1' : Fx_M_layX_L25b (iN k) plan g' 158 0 v = Fx_M_layX_L102 plan g' 13 1 (finL x) := x1
  rw [x1', j2]
  have hx : ∀ j, j < 157 → x 172 j = v 168 (157 * k + j) := fun j hj => by rw [x3 j, if_pos (by omega)]
  have b9 : Bd 0 9 (finL x 172 0) := by rw [fin_c (by decide), hx 0 (by decide)]; exact bk
  have hF : HWF (finL x 172) := hwf_c (fun j hj => by rw [fin_c (by decide), hx j hj]; exact congrArg (v 168) (by omega)) hw
  have x9 : finL x 169 = v 169 := by rw [fin_c (by decide), x2 169 (by decide)]
  have f23 : finL x 162 23 = iN 0 := rfl
  obtain ⟨w0, w1⟩ := tw j (by omega) (by rw [hn', iN_ti (by omega)]; omega)
  have bm := pl j (by omega)
  obtain ⟨m, hm, m12⟩ := iN_ex (hi := 12) bm.1
  have R : ∀ {o : Nat}, v 169 (111 * 0 + (37 * j + o)) = v 169 (37 * j + o) := fun {o} => congrArg (v 169) (by omega)
  have um : u (15 + 4 * j) 0 = iN m := w0.trans (R.trans hm)
  have wk : ∀ i, i < m → u (15 + 4 * j + 1) i = v 169 (37 * j + (1 + 3 * i)) ∧ u (15 + 4 * j + 2) i = v 169 (37 * j + (2 + 3 * i)) ∧ u (15 + 4 * j + 3) i = v 169 (37 * j + (3 + 3 * i)) := by
    intro i hi
    obtain ⟨a, b, d⟩ := w1 i (by omega) (by rw [show v 169 (111 * 0 + (37 * j + 0)) = iN m from R.trans hm, iN_ti (by omega)]; omega)
    exact ⟨a.trans R, b.trans R, d.trans R⟩
  rcases (show k = 0 ∨ k = 1 by omega) with q | q <;> subst q
  · rcases (show j = 0 ∨ j = 1 ∨ j = 2 by omega) with y | y | y <;> subst y
    · rw [if_pos (show iN 0 = 0 by decide)]
      rw [if_pos (by decide)]
      have hc := hcB (u := u) (g := g) (t := 44) (f := 5) (by omega)
      have W1 : WKS (sit0 (Fx_H_copyBX 44 5 u g)) (finL x) 15 0 m := by
        refine ⟨by rw [x9]; exact hm, m12, fun i hi => ?_, fun i hi => by rw [x9]; exact bm.2 i hi⟩
        rw [x9, sit0_c (by decide), sit0_c (by decide), sit0_c (by decide), hc.2 _ (by decide), hc.2 _ (by decide), hc.2 _ (by decide)]
        exact wk i hi
      obtain ⟨x2', y2, e1, e2, e3, e4, e5, e6, e7⟩ := ly_5_15 (u := u) (g := g) (g' := g') (k := 0) (m := m) um (by omega) m 13 13 0 (sit0 (Fx_H_copyBX 44 5 u g)) (finL x) (by omega) (by omega) (by omega) (by omega) (sit_0 hr hc.1 hx) f23 b9 W1 hF
      rw [xqb, lz_5_15, e1, show Fx_M_layX_L102 (iN 0) g' 13 1 (finL x) = (true, y2) from e2]
      exact ⟨rfl, fun _ => ⟨⟨e3, e7⟩, fun c cc => (e4 c (by omega) (by omega)).trans ((sit0_c (by omega)).trans (hc.2 c (by omega))), fun c c1 c2 => (e5 c c1 c2).trans ((fin_c c1).trans (x2 c c2))⟩⟩
    · rw [if_pos (show iN 0 = 0 by decide)]
      rw [if_neg (by decide), if_pos (by decide)]
      have hc := hcB (u := u) (g := g) (t := 44) (f := 5) (by omega)
      have W1 : WKS (sit0 (Fx_H_copyBX 44 5 u g)) (finL x) 19 1 m := by
        refine ⟨by rw [x9]; exact hm, m12, fun i hi => ?_, fun i hi => by rw [x9]; exact bm.2 i hi⟩
        rw [x9, sit0_c (by decide), sit0_c (by decide), sit0_c (by decide), hc.2 _ (by decide), hc.2 _ (by decide), hc.2 _ (by decide)]
        exact wk i hi
      obtain ⟨x2', y2, e1, e2, e3, e4, e5, e6, e7⟩ := ly_5_19 (u := u) (g := g) (g' := g') (k := 1) (m := m) um (by omega) m 13 13 0 (sit0 (Fx_H_copyBX 44 5 u g)) (finL x) (by omega) (by omega) (by omega) (by omega) (sit_0 hr hc.1 hx) f23 b9 W1 hF
      rw [xqb, lz_5_19, e1, show Fx_M_layX_L102 (iN 1) g' 13 1 (finL x) = (true, y2) from e2]
      exact ⟨rfl, fun _ => ⟨⟨e3, e7⟩, fun c cc => (e4 c (by omega) (by omega)).trans ((sit0_c (by omega)).trans (hc.2 c (by omega))), fun c c1 c2 => (e5 c c1 c2).trans ((fin_c c1).trans (x2 c c2))⟩⟩
    · rw [if_pos (show iN 0 = 0 by decide)]
      rw [if_neg (by decide), if_neg (by decide)]
      have hc := hcB (u := u) (g := g) (t := 44) (f := 5) (by omega)
      have W1 : WKS (sit0 (Fx_H_copyBX 44 5 u g)) (finL x) 23 2 m := by
        refine ⟨by rw [x9]; exact hm, m12, fun i hi => ?_, fun i hi => by rw [x9]; exact bm.2 i hi⟩
        rw [x9, sit0_c (by decide), sit0_c (by decide), sit0_c (by decide), hc.2 _ (by decide), hc.2 _ (by decide), hc.2 _ (by decide)]
        exact wk i hi
      obtain ⟨x2', y2, e1, e2, e3, e4, e5, e6, e7⟩ := ly_5_23 (u := u) (g := g) (g' := g') (k := 2) (m := m) um (by omega) m 13 13 0 (sit0 (Fx_H_copyBX 44 5 u g)) (finL x) (by omega) (by omega) (by omega) (by omega) (sit_0 hr hc.1 hx) f23 b9 W1 hF
      rw [xqb, lz_5_23, e1, show Fx_M_layX_L102 (iN 2) g' 13 1 (finL x) = (true, y2) from e2]
      exact ⟨rfl, fun _ => ⟨⟨e3, e7⟩, fun c cc => (e4 c (by omega) (by omega)).trans ((sit0_c (by omega)).trans (hc.2 c (by omega))), fun c c1 c2 => (e5 c c1 c2).trans ((fin_c c1).trans (x2 c c2))⟩⟩
  · rcases (show j = 0 ∨ j = 1 ∨ j = 2 by omega) with y | y | y <;> subst y
    · rw [if_neg (show ¬ iN 1 = 0 by decide)]
      rw [if_pos (by decide)]
      have hc := hcB (u := u) (g := g) (t := 44) (f := 10) (by omega)
      have W1 : WKS (sit0 (Fx_H_copyBX 44 10 u g)) (finL x) 15 0 m := by
        refine ⟨by rw [x9]; exact hm, m12, fun i hi => ?_, fun i hi => by rw [x9]; exact bm.2 i hi⟩
        rw [x9, sit0_c (by decide), sit0_c (by decide), sit0_c (by decide), hc.2 _ (by decide), hc.2 _ (by decide), hc.2 _ (by decide)]
        exact wk i hi
      obtain ⟨x2', y2, e1, e2, e3, e4, e5, e6, e7⟩ := ly_10_15 (u := u) (g := g) (g' := g') (k := 0) (m := m) um (by omega) m 13 13 0 (sit0 (Fx_H_copyBX 44 10 u g)) (finL x) (by omega) (by omega) (by omega) (by omega) (sit_0 hr hc.1 hx) f23 b9 W1 hF
      rw [xqb, lz_10_15, e1, show Fx_M_layX_L102 (iN 0) g' 13 1 (finL x) = (true, y2) from e2]
      exact ⟨rfl, fun _ => ⟨⟨e3, e7⟩, fun c cc => (e4 c (by omega) (by omega)).trans ((sit0_c (by omega)).trans (hc.2 c (by omega))), fun c c1 c2 => (e5 c c1 c2).trans ((fin_c c1).trans (x2 c c2))⟩⟩
    · rw [if_neg (show ¬ iN 1 = 0 by decide)]
      rw [if_neg (by decide), if_pos (by decide)]
      have hc := hcB (u := u) (g := g) (t := 44) (f := 10) (by omega)
      have W1 : WKS (sit0 (Fx_H_copyBX 44 10 u g)) (finL x) 19 1 m := by
        refine ⟨by rw [x9]; exact hm, m12, fun i hi => ?_, fun i hi => by rw [x9]; exact bm.2 i hi⟩
        rw [x9, sit0_c (by decide), sit0_c (by decide), sit0_c (by decide), hc.2 _ (by decide), hc.2 _ (by decide), hc.2 _ (by decide)]
        exact wk i hi
      obtain ⟨x2', y2, e1, e2, e3, e4, e5, e6, e7⟩ := ly_10_19 (u := u) (g := g) (g' := g') (k := 1) (m := m) um (by omega) m 13 13 0 (sit0 (Fx_H_copyBX 44 10 u g)) (finL x) (by omega) (by omega) (by omega) (by omega) (sit_0 hr hc.1 hx) f23 b9 W1 hF
      rw [xqb, lz_10_19, e1, show Fx_M_layX_L102 (iN 1) g' 13 1 (finL x) = (true, y2) from e2]
      exact ⟨rfl, fun _ => ⟨⟨e3, e7⟩, fun c cc => (e4 c (by omega) (by omega)).trans ((sit0_c (by omega)).trans (hc.2 c (by omega))), fun c c1 c2 => (e5 c c1 c2).trans ((fin_c c1).trans (x2 c c2))⟩⟩
    · rw [if_neg (show ¬ iN 1 = 0 by decide)]
      rw [if_neg (by decide), if_neg (by decide)]
      have hc := hcB (u := u) (g := g) (t := 44) (f := 10) (by omega)
      have W1 : WKS (sit0 (Fx_H_copyBX 44 10 u g)) (finL x) 23 2 m := by
        refine ⟨by rw [x9]; exact hm, m12, fun i hi => ?_, fun i hi => by rw [x9]; exact bm.2 i hi⟩
        rw [x9, sit0_c (by decide), sit0_c (by decide), sit0_c (by decide), hc.2 _ (by decide), hc.2 _ (by decide), hc.2 _ (by decide)]
        exact wk i hi
      obtain ⟨x2', y2, e1, e2, e3, e4, e5, e6, e7⟩ := ly_10_23 (u := u) (g := g) (g' := g') (k := 2) (m := m) um (by omega) m 13 13 0 (sit0 (Fx_H_copyBX 44 10 u g)) (finL x) (by omega) (by omega) (by omega) (by omega) (sit_0 hr hc.1 hx) f23 b9 W1 hF
      rw [xqb, lz_10_23, e1, show Fx_M_layX_L102 (iN 2) g' 13 1 (finL x) = (true, y2) from e2]
      exact ⟨rfl, fun _ => ⟨⟨e3, e7⟩, fun c cc => (e4 c (by omega) (by omega)).trans ((sit0_c (by omega)).trans (hc.2 c (by omega))), fun c c1 c2 => (e5 c c1 c2).trans ((fin_c c1).trans (x2 c c2))⟩⟩
