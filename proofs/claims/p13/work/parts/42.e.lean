/-! feed, end, image, again on both sides -/
theorem tld_f {u v x y : MM} (h : TLD u v 1 0) (tp : ∀ j, j < 600 → x 2 j = y 163 j) (ln : x 1 1 = y 164 0) (xj : ∀ j, j ≠ 1 → x 1 j = u 1 j) (hx : ∀ c, 3 ≤ c → c ≤ 26 → x c = u c) (hy : ∀ c, 165 ≤ c → c ≤ 169 → y c = v c) : TLD x y 1 0 := by
  obtain ⟨t0, t1, t2, t3, t5, t7, th, tw⟩ := h
  refine ⟨fun j hj => (tp j hj).trans (congrArg (y 163) (by omega)), ln, ?_, ?_, ?_, ?_, fun k hk hl => ?_, fun k hk hl => ?_⟩
  · rw [xj 2 (by decide), hy 165 (by decide) (by decide)]; exact t2
  · rw [xj 3 (by decide), hy 166 (by decide) (by decide)]; exact t3
  · rw [xj 5 (by decide), hy 167 (by decide) (by decide)]; exact t5
  · rw [xj 7 (by decide), hy 167 (by decide) (by decide)]; exact t7
  · rw [xj 5 (by decide)] at hl
    exact hrw_cp (th k hk hl) (hcp_r (fun c c1 c2 => hx c (by omega) (by omega))) (fun o _ => by rw [hy 168 (by decide) (by decide)])
  · rw [xj 7 (by decide)] at hl
    exact prw_cp (tw k hk hl) (wcp_r (fun c c1 c2 => hx c (by omega) (by omega))) (fun o _ => by rw [hy 169 (by decide) (by decide)])
theorem R3_feed {u v u1 v2 : MM} {g g' : GG} {a b c d e z w : Int32} (h : RLX u v) (bl : Bd 0 600 (u 1 1)) (e1 : (z, u1) = Fx_P_feedRX a b c d e u g) (f1 : ∀ c, c ≠ 1 → c ≠ 2 → u1 c = u c) (e2 : (w, v2) = Fx_M_feedRX a b c d e v g') (f2 : ∀ c, c ≠ 162 → c ≠ 163 → c ≠ 164 → v2 c = v c) (f4 : ∀ j, j ≠ 0 → v2 164 j = v 164 j) : z = w ∧ RLX u1 v2 := by
  have t0 := h.1.1
  have t1 := h.1.2.1
  obtain ⟨L, hL, hb⟩ := iN_ex (hi := 600) bl
  have htp : TPE u v := fun j hj => (t0 j hj).trans (congrArg (v 163) (by omega))
  obtain ⟨k1, k2, k3, k4, k5⟩ := fd_X (g := g) (g2 := g') (a := a) (b := b) (c := c) (d := d) (e := e) hb hL (t1.symm.trans hL) htp
  rw [← e1, ← e2] at k1 k2 k3
  rw [← e1] at k4
  rw [← e2] at k5
  have hy : ∀ c, 165 ≤ c → v2 c = v c := fun c hc => f2 c (by omega) (by omega) (by omega)
  refine ⟨k1, rlx_g h (fun c hc => f1 c (by omega) (by omega)) (hy 181 (by decide)) (tld_f h.1 k2 k3 k4 (fun c c1 c2 => f1 c (by omega) (by omega)) (fun c c1 c2 => hy c c1)) (scp_1 (fun j hj => k5 j hj) f4 (fun j _ => by rw [hy 165 (by decide)]) (fun j _ => by rw [hy 166 (by decide)]) (fun j _ => by rw [hy 167 (by decide)]) (fun j _ => by rw [hy 168 (by decide)]) (fun j _ => by rw [hy 169 (by decide)]))⟩
theorem R3_end {u v u1 v2 : MM} {g g' : GG} {n z w : Int32} (h : RLX u v) (e1 : (z, u1) = Fx_P_endRX n u g) (f1 : ∀ c, c ≠ 1 → u1 c = u c) (fj : ∀ j, j ≠ 1 → u1 1 j = u 1 j) (e2 : (w, v2) = Fx_M_endRX n v g') (f2 : ∀ c, c ≠ 162 → c ≠ 164 → v2 c = v c) (f4 : ∀ j, j ≠ 0 → v2 164 j = v 164 j) : z = w ∧ RLX u1 v2 := by
  have t0 := h.1.1
  have t1 := h.1.2.1
  have htp : TPE u v := fun j hj => (t0 j hj).trans (congrArg (v 163) (by omega))
  obtain ⟨k1, k2, k3⟩ := en_X (g := g) (g2 := g') (n := n) t1 htp
  rw [← e1, ← e2] at k1 k2 k3
  have hy : ∀ c, 165 ≤ c → v2 c = v c := fun c hc => f2 c (by omega) (by omega)
  have y3 : v2 163 = v 163 := f2 163 (by decide) (by decide)
  refine ⟨k1, rlx_g h (fun c hc => f1 c (by omega)) (hy 181 (by decide)) (tld_f h.1 k2 k3 fj (fun c c1 c2 => f1 c (by omega)) (fun c c1 c2 => hy c c1)) (scp_1 (fun j hj => by rw [y3]) f4 (fun j _ => by rw [hy 165 (by decide)]) (fun j _ => by rw [hy 166 (by decide)]) (fun j _ => by rw [hy 167 (by decide)]) (fun j _ => by rw [hy 168 (by decide)]) (fun j _ => by rw [hy 169 (by decide)]))⟩
theorem tcp_t {x y u : MM} {T F : Nat} (h : TCP y u T F) (e : ∀ c, T ≤ c → c ≤ T + 25 → x c = y c) : TCP x u T F := by
  obtain ⟨c0, c1, c2, c3, c5, c7, ch, cw⟩ := h
  refine ⟨fun j hj => by rw [e (T + 1) (by omega) (by omega)]; exact c0 j hj, by rw [e T (by omega) (by omega)]; exact c1, by rw [e T (by omega) (by omega)]; exact c2, by rw [e T (by omega) (by omega)]; exact c3, by rw [e T (by omega) (by omega)]; exact c5, by rw [e T (by omega) (by omega)]; exact c7, fun k hk => hcp_t (ch k hk) (fun c c1 c2 => e c (by omega) (by omega)), fun k hk => wcp_t (cw k hk) (fun c c1 c2 => e c (by omega) (by omega))⟩
theorem scp_t {x y v w : MM} {s r : Nat} (h : SCP y w s r) (e : ∀ c, 163 ≤ c → c ≤ 169 → x c = y c) (f : ∀ c, 163 ≤ c → c ≤ 169 → w c = v c) : SCP x v s r := by
  unfold SCP at h ⊢
  rw [e 163 (by decide) (by decide), e 164 (by decide) (by decide), e 165 (by decide) (by decide), e 166 (by decide) (by decide), e 167 (by decide) (by decide), e 168 (by decide) (by decide), e 169 (by decide) (by decide)]
  rw [f 163 (by decide) (by decide), f 164 (by decide) (by decide), f 165 (by decide) (by decide), f 166 (by decide) (by decide), f 167 (by decide) (by decide), f 168 (by decide) (by decide), f 169 (by decide) (by decide)] at h
  exact h
theorem k2_ex {k : Int32} (q : 0 ≤ k ∧ k ≤ 2) : ∃ n, k = iN n ∧ n ≤ 2 := by
  have h1 := Int32.le_iff_toInt_le.mp q.1
  have h2 := Int32.le_iff_toInt_le.mp q.2
  have e0 : (0 : Int32).toInt = 0 := rfl
  have e2 : (2 : Int32).toInt = 2 := rfl
  exact iN_ex (hi := 2) ⟨by omega, by omega⟩
theorem k2_no {k : Int32} (q : ¬ (0 ≤ k ∧ k ≤ 2)) : ¬ (decide (0 ≤ k) && decide (k ≤ 2)) = true := by
  intro z
  obtain ⟨z1, z2⟩ := (Bool.and_eq_true _ _).mp z
  exact q ⟨of_decide_eq_true z1, of_decide_eq_true z2⟩
theorem k2_3 {k : Int32} (q : ¬ (0 ≤ k ∧ k ≤ 2)) (h : ¬ k < 0) : 3 ≤ k := by
  have h1 := Int32.le_iff_toInt_le.mp (i_nlt h)
  have e0 : (0 : Int32).toInt = 0 := rfl
  have e2 : (2 : Int32).toInt = 2 := rfl
  have e3 : (3 : Int32).toInt = 3 := rfl
  rw [Int32.le_iff_toInt_le]
  have h2 : ¬ k.toInt ≤ 2 := fun z => q ⟨i_nlt h, by rw [Int32.le_iff_toInt_le]; omega⟩
  omega
theorem imP {u : MM} {g : GG} {n : Nat} (hn : n ≤ 2) : Fx_P_imageRX (iN n) u g = (true, ms (tcx u g (84 + 26 * n) 1) 28 n (vp_nar .boolean 1)) := by
  unfold Fx_P_imageRX
  simp only [xq_lt]
  rw [iN_cl (by omega)]
  rcases (show n = 0 ∨ n = 1 ∨ n = 2 by omega) with y | y | y <;> subst y
  · rw [if_neg (by decide), if_pos (by decide), if_pos (by decide), tcX_84_1]
  · rw [if_neg (by decide), if_pos (by decide), if_neg (by decide), if_pos (by decide), tcX_110_1]
  · rw [if_neg (by decide), if_pos (by decide), if_neg (by decide), if_neg (by decide), tcX_136_1]
theorem agP {u : MM} {g : GG} {n : Nat} (hn : n ≤ 2) : Fx_P_againRX (iN n) u g = if u 28 n = 0 then (false, u) else (true, tcx u g 1 (84 + 26 * n)) := by
  unfold Fx_P_againRX
  simp only [xq_lt]
  rw [iN_cl (by omega)]
  rcases (show n = 0 ∨ n = 1 ∨ n = 2 by omega) with y | y | y <;> subst y
  · rw [if_neg (by decide), if_neg (by decide), if_pos (show iN 0 = 0 by decide), tcX_1_84]
  · rw [if_neg (by decide), if_neg (by decide), if_neg (show ¬ iN 1 = 0 by decide), if_pos (show iN 1 = 1 by decide), tcX_1_110]
  · rw [if_neg (by decide), if_neg (by decide), if_neg (show ¬ iN 2 = 0 by decide), if_neg (show ¬ iN 2 = 1 by decide), tcX_1_136]
theorem R3_image {u v u1 v2 : MM} {g g' : GG} {k : Int32} {z w : Bool} (h : RLX u v) (bf : BF u 2) (e1 : (z, u1) = Fx_P_imageRX k u g) (e2 : (w, v2) = Fx_M_imageRX k v g') : z = w ∧ RLX u1 v2 := by
  have hX : Fx_M_imageRX k v g' = if (decide (0 ≤ k) && decide (k ≤ 2)) = true then (true, ms (Fx_M_copyRX 0 (k + 1) (ms v 162 0 0) g') 181 k.toNatClampNeg (vp_nar .boolean 1)) else (false, ms v 162 0 0) := by
    unfold Fx_M_imageRX
    simp only [xq_lt, in_X]
  rw [hX] at e2
  have v1c : ∀ c, 163 ≤ c → (ms v 162 0 0) c = v c := fun c hc => ms_c1 (by omega)
  by_cases q : 0 ≤ k ∧ k ≤ 2
  · obtain ⟨n, hn, n2⟩ := k2_ex q
    rw [decide_eq_true q.1, decide_eq_true q.2, if_pos (show (true && true) = true from rfl), hn, iN_s, iN_cl (by omega)] at e2
    rw [hn, imP n2] at e1
    have z1 : z = true := congrArg Prod.fst e1
    have z2 : u1 = ms (tcx u g (84 + 26 * n) 1) 28 n (vp_nar .boolean 1) := congrArg Prod.snd e1
    have z3 : w = true := congrArg Prod.fst e2
    have z4 : v2 = ms (Fx_M_copyRX (iN 0) (iN (n + 1)) (ms v 162 0 0) g') 181 n (vp_nar .boolean 1) := congrArg Prod.snd e2
    obtain ⟨s1, s2, s3⟩ := cpR_X (a := 0) (b := n + 1) (v := ms v 162 0 0) (g := g') (by omega) (by omega) (by omega) (fun j hj => by rw [v1c 163 (by omega), ← h.1.1 j hj]; exact bf j)
    obtain ⟨p1, p2⟩ := tc_A (u := u) (g := g) (T := 84 + 26 * n) (F := 1) (by omega)
    have cu : ∀ c, c ≠ 28 → u1 c = tcx u g (84 + 26 * n) 1 c := fun c hc => by rw [z2, ms_c1 hc]
    have cv : ∀ c, 163 ≤ c → c ≤ 169 → v2 c = Fx_M_copyRX (iN 0) (iN (n + 1)) (ms v 162 0 0) g' c := fun c c1 c2 => by rw [z4, ms_c1 (by omega)]
    have vc : ∀ c, 163 ≤ c → c ≤ 169 → (ms v 162 0 0) c = v c := fun c c1 _ => v1c c c1
    refine ⟨z1.trans z3.symm, tld_cp h.1 (tcp_r (fun c c1 c2 => by rw [cu c (by omega), p2 c (by omega)])) (scp_t (s2 0 (by omega)) cv vc), ?_, fun i hi hl => ?_⟩
    · rw [z2, z4, ms_a1, ms_a1, p2 28 (by omega), s3 181 (by omega), v1c 181 (by omega), h.2.1]
    · by_cases y : i = n
      · rw [y]
        exact tld_cp h.1 (tcp_t p1 (fun c c1 c2 => cu c (by omega))) (scp_t s1 cv vc)
      · rw [z2, ms_i1 y, p2 28 (by omega)] at hl
        exact tld_cp (h.2.2 i hi hl) (tcp_r (fun c c1 c2 => by rw [cu c (by omega), p2 c (by omega)])) (scp_t (s2 (i + 1) (by omega)) cv vc)
  · rw [if_neg (k2_no q)] at e2
    have hP : Fx_P_imageRX k u g = (false, u) := by
      unfold Fx_P_imageRX
      simp only [xq_lt]
      by_cases y : k < 0
      · rw [if_pos y]
      · rw [if_neg y, if_neg (fun y2 => lt_le_no y2 (k2_3 q y))]
    rw [hP] at e1
    have z1 : z = false := congrArg Prod.fst e1
    have z2 : u1 = u := congrArg Prod.snd e1
    have z3 : w = false := congrArg Prod.fst e2
    have z4 : v2 = ms v 162 0 0 := congrArg Prod.snd e2
    refine ⟨z1.trans z3.symm, rlx_c (fun c _ => by rw [z2]) (fun c hc => by rw [z4]; exact v1c c hc.1) (by rw [z4]; exact v1c 181 (by decide)) h⟩
theorem R3_again {u v u1 v2 : MM} {g g' : GG} {k : Int32} {z w : Bool} (h : RLX u v) (bf : ∀ n, n ≤ 2 → BF u (84 + 26 * n + 1)) (e1 : (z, u1) = Fx_P_againRX k u g) (e2 : (w, v2) = Fx_M_againRX k v g') : z = w ∧ RLX u1 v2 := by
  have hX : Fx_M_againRX k v g' = if (decide (0 ≤ k) && decide (k ≤ 2)) = true then (if v 181 k.toNatClampNeg = 0 then (false, ms v 162 0 0) else (true, Fx_M_copyRX (k + 1) 0 (ms v 162 0 0) g')) else (false, ms v 162 0 0) := by
    unfold Fx_M_againRX
    simp only [xq_lt, in_X]
    rw [show (ms v 162 0 0) 181 = v 181 from ms_c1 (by decide)]
  rw [hX] at e2
  have v1c : ∀ c, 163 ≤ c → (ms v 162 0 0) c = v c := fun c hc => ms_c1 (by omega)
  have stay : (z, u1) = (false, u) → (w, v2) = (false, ms v 162 0 0) → z = w ∧ RLX u1 v2 := by
    intro q1 q2
    have z1 : z = false := congrArg Prod.fst q1
    have z2 : u1 = u := congrArg Prod.snd q1
    have z3 : w = false := congrArg Prod.fst q2
    have z4 : v2 = ms v 162 0 0 := congrArg Prod.snd q2
    exact ⟨z1.trans z3.symm, rlx_c (fun c _ => by rw [z2]) (fun c hc => by rw [z4]; exact v1c c hc.1) (by rw [z4]; exact v1c 181 (by decide)) h⟩
  by_cases q : 0 ≤ k ∧ k ≤ 2
  · obtain ⟨n, hn, n2⟩ := k2_ex q
    rw [decide_eq_true q.1, decide_eq_true q.2, if_pos (show (true && true) = true from rfl), hn, iN_s, iN_cl (by omega), ← h.2.1] at e2
    rw [hn, agP n2] at e1
    by_cases y : u 28 n = 0
    · rw [if_pos y] at e1 e2
      exact stay e1 e2
    · rw [if_neg y] at e1 e2
      have z1 : z = true := congrArg Prod.fst e1
      have z2 : u1 = tcx u g 1 (84 + 26 * n) := congrArg Prod.snd e1
      have z3 : w = true := congrArg Prod.fst e2
      have z4a := (Prod.mk.inj e2).2
      rw [show (0 : Int32) = iN 0 from rfl] at z4a
      have z4 : v2 = Fx_M_copyRX (iN (n + 1)) (iN 0) (ms v 162 0 (iN 0)) g' := by
        rw [z4a]
      rw [show iN 0 = (0 : Int32) from rfl] at z4
      change v2 = Fx_M_copyRX (iN (n + 1)) (iN 0) (ms v 162 0 0) g' at z4
      have hT := h.2.2 n (by omega) y
      obtain ⟨s1, s2, s3⟩ := cpR_X (a := n + 1) (b := 0) (v := ms v 162 0 0) (g := g') (by omega) (by omega) (by omega) (fun j hj => by rw [v1c 163 (by omega), ← hT.1 j hj]; exact bf n n2 j)
      obtain ⟨p1, p2⟩ := tc_A (u := u) (g := g) (T := 1) (F := 84 + 26 * n) (by omega)
      have cv : ∀ c, 163 ≤ c → c ≤ 169 → v2 c = Fx_M_copyRX (iN (n + 1)) (iN 0) (ms v 162 0 0) g' c := fun c c1 c2 => by rw [z4]
      have vc : ∀ c, 163 ≤ c → c ≤ 169 → (ms v 162 0 0) c = v c := fun c c1 _ => v1c c c1
      refine ⟨z1.trans z3.symm, tld_cp hT (tcp_t p1 (fun c _ _ => by rw [z2])) (scp_t s1 cv vc), ?_, fun i hi hl => ?_⟩
      · rw [z2, z4, p2 28 (by omega), s3 181 (by omega), v1c 181 (by omega), h.2.1]
      · rw [z2, p2 28 (by omega)] at hl
        exact tld_cp (h.2.2 i hi hl) (tcp_r (fun c c1 c2 => by rw [z2, p2 c (by omega)])) (scp_t (s2 (i + 1) (by omega)) cv vc)
  · rw [if_neg (k2_no q)] at e2
    refine stay (e1.trans ?_) e2
    unfold Fx_P_againRX
    simp only [xq_lt]
    by_cases y : k < 0
    · rw [if_pos y]
    · rw [if_neg y, if_pos (k2_3 q y)]
