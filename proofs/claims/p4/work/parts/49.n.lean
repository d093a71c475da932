/-! better -/
theorem lay_Z {u v : MM} {g g' : GG} {hill plan : Int32} (h : RLY u v) (b5 : Bd 0 2 (u 1 5)) (b7 : Bd 0 3 (u 1 7)) (hd : HD v) (pl : PL v) : ∃ b x y, Fx_P_laysX hill plan u g = (b, x) ∧ Fx_M_layX hill plan v g' = (b, y) ∧ (b = true → (∃ n m, LDF x y n m) ∧ (∀ c, c < 43 ∨ 48 < c → x c = u c) ∧ ∀ c, c ≠ 162 → c ≠ 172 → y c = v c) := by
  obtain ⟨k1, k2⟩ := lay_F (g := g) (g' := g') (hill := hill) (plan := plan) h.1 b5 b7 hd pl h.2.1 h.2.2
  refine ⟨(Fx_P_laysX hill plan u g).1, (Fx_P_laysX hill plan u g).2, (Fx_M_layX hill plan v g').2, rfl, by rw [k1], fun q => ?_⟩
  obtain ⟨⟨s, f⟩, f1, f2⟩ := k2 q
  exact ⟨ld_of s f, f1, f2⟩
theorem R5_better {u v u1 v2 : MM} {g g' g1 : GG} {hill one other z w : Int32} (h : RLY u v) (b5 : Bd 0 2 (u 1 5)) (b7 : Bd 0 3 (u 1 7)) (hd : HD v) (pl : PL v) (e1 : (z, u1, g1) = Fx_P_betterX hill one other u g) (e2 : (w, v2) = Fx_M_betterX hill one other v g') : z = w := by
  have v1c : ∀ c, c ≠ 162 → (ms v 162 0 0) c = v c := fun c hc => ms_c1 hc
  obtain ⟨b, x, y, p1, p2, p3⟩ := lay_Z (g := g) (g' := g') (hill := hill) (plan := one) (rly_v (fun c hc => v1c c (by omega)) h) b5 b7 (hd_c (v1c 168 (by decide)) hd) (pl_c (v1c 169 (by decide)) pl)
  unfold Fx_P_betterX at e1
  unfold Fx_M_betterX at e2
  rw [p1, c2_mk] at e1
  rw [xqb, p2, c2_mk] at e2
  cases b
  · rw [if_neg Bool.false_ne_true] at e1 e2
    exact (congrArg Prod.fst e1).trans (congrArg Prod.fst e2).symm
  obtain ⟨⟨n, m, L⟩, f1, f2⟩ := p3 rfl
  rw [if_pos rfl] at e1 e2
  obtain ⟨x1, g2, k1, k2, k3⟩ := wm44_X (g := g) L.2.2.2.1 L.1 L.2.2.1 L.2.2.2.2.2.1 (rns_L L)
  obtain ⟨y1, m1, m2⟩ := mb_N (g := g') (rr_L L)
  rw [k1, c3_mk] at e1
  rw [m1, c2_mk] at e2
  have ux : ∀ c, c < 43 ∨ (48 < c ∧ c < 58) ∨ 67 < c → x1 c = u c := fun c hc => (k2 c (by omega)).trans (f1 c (by omega))
  have vy : ∀ c, c ≠ 162 → c ≠ 172 → c ≠ 173 → c ≠ 174 → c ≠ 175 → y1 c = v c := fun c c1 c2 c3 c4 c5 => (m2.1 c c1 c3 c4 c5).trans ((f2 c c1 c2).trans (v1c c c1))
  have h2 : RLY x1 y1 := rly_v (fun c hc => vy c (by omega) (by omega) (by omega) (by omega) (by omega)) (rly_u (fun c hc => ux c (by omega)) h)
  obtain ⟨b', x3, y3, q1, q2, q3⟩ := lay_Z (g := g2) (g' := g') (hill := hill) (plan := other) h2 (by rw [ux 1 (by decide)]; exact b5) (by rw [ux 1 (by decide)]; exact b7) (hd_c (vy 168 (by decide) (by decide) (by decide) (by decide) (by decide)) hd) (pl_c (vy 169 (by decide) (by decide) (by decide) (by decide) (by decide)) pl)
  rw [q1, c2_mk] at e1
  rw [q2, c2_mk] at e2
  cases b'
  · rw [if_neg Bool.false_ne_true] at e1 e2
    exact (congrArg Prod.fst e1).trans (congrArg Prod.fst e2).symm
  obtain ⟨⟨n', m', L'⟩, -, -⟩ := q3 rfl
  rw [if_pos rfl] at e1 e2
  obtain ⟨x4, g4, k4, -, -⟩ := wm44_X (g := g2) L'.2.2.2.1 L'.1 L'.2.2.1 L'.2.2.2.2.2.1 (rns_L L')
  obtain ⟨y4, m4, -⟩ := mb_N (g := g') (rr_L L')
  rw [k4, c3_mk] at e1
  rw [m4, c2_mk] at e2
  by_cases c0 : lg_cmp (MN (rwA y) n m (sR y) (cR y)) (MN (rwA y3) n' m' (sR y3) (cR y3)) = 0
  · rw [if_pos c0] at e1
    rw [if_pos (show (0 : Int32) ≤ lg_cmp (MN (rwA y) n m (sR y) (cR y)) (MN (rwA y3) n' m' (sR y3) (cR y3)) by rw [c0]; decide), if_pos (show lg_cmp (MN (rwA y) n m (sR y) (cR y)) (MN (rwA y3) n' m' (sR y3) (cR y3)) ≤ (0 : Int32) by rw [c0]; decide)] at e2
    exact (congrArg Prod.fst e1).trans (congrArg Prod.fst e2).symm
  · rw [if_neg c0] at e1
    by_cases c1 : (0 : Int32) ≤ lg_cmp (MN (rwA y) n m (sR y) (cR y)) (MN (rwA y3) n' m' (sR y3) (cR y3))
    · rw [if_pos c1] at e1
      rw [if_pos c1, if_neg (fun c2 => c0 (Int32.le_antisymm c2 c1))] at e2
      exact (congrArg Prod.fst e1).trans (congrArg Prod.fst e2).symm
    · rw [if_neg c1] at e1 e2
      exact (congrArg Prod.fst e1).trans (congrArg Prod.fst e2).symm
