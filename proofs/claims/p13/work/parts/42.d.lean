/-! text on both sides -/
theorem fb_bd {v : Int32} (h : fits .byte (.int v) = true) : Bd (-128) 127 v := by
  obtain ⟨h1, h2⟩ := (Bool.and_eq_true _ _).mp (show (decide (-128 ≤ v) && decide (v ≤ 127)) = true from h)
  have a := Int32.le_iff_toInt_le.mp (of_decide_eq_true h1)
  have b := Int32.le_iff_toInt_le.mp (of_decide_eq_true h2)
  have e1 : (-128 : Int32).toInt = -128 := rfl
  have e2 : (127 : Int32).toInt = 127 := rfl
  exact ⟨by omega, by omega⟩
theorem rlx_g {u v x y : MM} (h : RLX u v) (hu : ∀ c, c = 28 ∨ (84 ≤ c ∧ c ≤ 161) → x c = u c) (h81 : y 181 = v 181) (t : TLD x y 1 0) (q : ∀ s, 1 ≤ s → s ≤ 3 → SCP y v s s) : RLX x y := by
  obtain ⟨-, h1, h2⟩ := h
  refine ⟨t, by rw [hu 28 (Or.inl rfl), h81, h1], fun k hk hn => ?_⟩
  rw [hu 28 (Or.inl rfl)] at hn
  exact tld_cp (h2 k hk hn) (tcp_r (fun c c1 c2 => hu c (by omega))) (q (k + 1) (by omega) (by omega))
theorem scp_1 {y v : MM} (a : ∀ j, 600 ≤ j → y 163 j = v 163 j) (b : ∀ j, j ≠ 0 → y 164 j = v 164 j) (c : ∀ j, j ≠ 0 → y 165 j = v 165 j) (d : ∀ j, j ≠ 0 → y 166 j = v 166 j) (e : ∀ j, 2 ≤ j → y 167 j = v 167 j) (f : ∀ j, 314 ≤ j → y 168 j = v 168 j) (g : ∀ j, 111 ≤ j → y 169 j = v 169 j) : ∀ s, 1 ≤ s → s ≤ 3 → SCP y v s s := by
  intro s s1 s2
  exact ⟨fun j _ => a _ (by omega), b s (by omega), c s (by omega), d s (by omega), e _ (by omega), e _ (by omega), fun j _ => f _ (by omega), fun j _ => g _ (by omega)⟩
theorem tld_n {u v x y : MM} (h : TLD u v 1 0) (hx : ∀ c, 2 ≤ c → c ≤ 26 → x c = u c) (x1 : x 1 1 = y 164 0) (x2 : x 1 2 = y 165 0) (x3 : x 1 3 = y 166 0) (x5 : x 1 5 = u 1 5) (x7 : x 1 7 = u 1 7) (y3 : y 163 = v 163) (y7 : y 167 = v 167) (y8 : y 168 = v 168) (y9 : y 169 = v 169) : TLD x y 1 0 := by
  obtain ⟨t0, t1, t2, t3, t5, t7, th, tw⟩ := h
  refine ⟨fun j hj => ?_, x1, x2, x3, ?_, ?_, fun k hk hl => ?_, fun k hk hl => ?_⟩
  · rw [hx (1 + 1) (by omega) (by omega), y3]; exact t0 j hj
  · rw [x5, y7]; exact t5
  · rw [x7, y7]; exact t7
  · rw [x5] at hl
    exact hrw_cp (th k hk hl) (hcp_r (fun c c1 c2 => hx c (by omega) (by omega))) (fun j hj => by rw [y8])
  · rw [x7] at hl
    exact prw_cp (tw k hk hl) (wcp_r (fun c c1 c2 => hx c (by omega) (by omega))) (fun j hj => by rw [y9])
theorem hrw_new {x x' y : MM} {R : Nat → Int32} {t n : Nat} (c : HCP x x' t 32) (hr : RepH x' R True) (e : ∀ o, o < 157 → y 168 (314 * 0 + (157 * n + o)) = R o) : HRW x y t 0 n := by
  obtain ⟨r0, r1, r2, r3, r4⟩ := hr
  obtain ⟨c0, c1, c2, c3, c4, c5⟩ := c
  refine ⟨(c0.trans r0).trans (e 0 (by omega)).symm, (c1.trans r1).trans (e 1 (by omega)).symm, fun i hi => ((c5 i hi).trans (r2 i hi)).trans (e (2 + i) (by omega)).symm, fun i hi hl => ?_, fun p c hp hc hl => ?_⟩
  · rw [e 1 (by omega)] at hl
    exact ⟨((c3 i hi).trans (r3 i hl).1).trans (e (5 + 2 * i) (by omega)).symm, ((c4 i hi).trans (r3 i hl).2).trans (e (6 + 2 * i) (by omega)).symm⟩
  · rw [e 0 (by omega)] at hl
    exact ((c2 (16 * p + c) (by omega)).trans (r4 trivial p c hl hc)).trans (e (13 + 16 * p + c) (by omega)).symm
theorem prw_new {x x' y : MM} {R : Nat → Int32} {t n : Nat} (c : WCP x x' t 37) (hr : RepP x' R) (e : ∀ o, o < 37 → y 169 (111 * 0 + (37 * n + o)) = R o) : PRW x y t 0 n := by
  obtain ⟨r0, r1⟩ := hr
  obtain ⟨c0, c1, c2, c3⟩ := c
  refine ⟨(c0.trans r0).trans (e 0 (by omega)).symm, fun i hi hl => ?_⟩
  rw [e 0 (by omega)] at hl
  obtain ⟨a, b, d⟩ := r1 i hl
  exact ⟨((c1 i hi).trans a).trans (e (1 + 3 * i) (by omega)).symm, ((c2 i hi).trans b).trans (e (2 + 3 * i) (by omega)).symm, ((c3 i hi).trans d).trans (e (3 + 3 * i) (by omega)).symm⟩
theorem rep_w {w x : MM} {R : Nat → Int32} (h : RepH x R True) (e : ∀ c, 32 ≤ c → c ≤ 36 → w c = x c) : RepH w R True := by
  unfold RepH
  rw [e 32 (by omega) (by omega), e 33 (by omega) (by omega), e 34 (by omega) (by omega), e 35 (by omega) (by omega), e 36 (by omega) (by omega)]
  exact h
theorem repp_w {w x : MM} {R : Nat → Int32} (h : RepP x R) (e : ∀ c, 37 ≤ c → c ≤ 40 → w c = x c) : RepP w R := by
  unfold RepP
  rw [e 37 (by omega) (by omega), e 38 (by omega) (by omega), e 39 (by omega) (by omega), e 40 (by omega) (by omega)]
  exact h
theorem keep_0 {n : Nat} {w : MM} {g : GG} (h : n < 2) : Fx_T_keepX 0 (iN n) w g = ms (Fx_H_copyBX (5 + 5 * n) 32 w g) 1 5 (if w 1 5 < iN n + 1 then iN n + 1 else w 1 5) := by
  rcases (show n = 0 ∨ n = 1 by omega) with q | q <;> subst q <;> rfl
theorem keep_1 {n : Nat} {w : MM} {g : GG} (h : n < 3) : Fx_T_keepX 1 (iN n) w g = ms (wcx w (15 + 4 * n) 37) 1 7 (if w 1 7 < iN n + 1 then iN n + 1 else w 1 7) := by
  rcases (show n = 0 ∨ n = 1 ∨ n = 2 by omega) with q | q | q <;> subst q <;> rfl
theorem y3_c {u : MM} {c : Nat} (h : c ≠ 1) : Y3 u c = u c := by unfold Y3; rw [ms_c1 h, ms_c1 h, ms_c1 h]
theorem y3_j {u : MM} {j : Nat} (h1 : j ≠ 1) (h2 : j ≠ 2) (h3 : j ≠ 3) : Y3 u 1 j = u 1 j := by unfold Y3; rw [ms_i1 h3, ms_i1 h2, ms_i1 h1]
theorem t9_c {u : MM} {c : Nat} (h : c ≠ 162 ∧ c ≠ 164 ∧ c ≠ 165 ∧ c ≠ 166) : T9 u c = u c := by unfold T9; rw [ms_c1 h.2.2.2, ms_c1 h.2.2.1, ms_c1 h.2.1, ms_c1 h.1, ms_c1 h.1]
theorem up_c {h n : Nat} {at0 : Int32} (hh : h ≤ 3) (hn : (at0 = -1 ∧ n = h) ∨ (¬ at0 = -1 ∧ n < h)) : (if iN h < iN n + 1 then iN n + 1 else iN h) = iN (if at0 = -1 then h + 1 else h) := by
  rcases hn with ⟨a1, a2⟩ | ⟨a1, a2⟩
  · rw [if_pos a1, a2, iN_s, if_pos ((iN_lt (by omega) (by omega)).mpr (by omega))]
  · rw [if_neg a1, iN_s, if_neg (fun q => by have := (iN_lt (by omega) (by omega)).mp q; omega)]
theorem R3_text {u v u1 v2 : MM} {g g' g2 : GG} {sort at0 z w : Int32} (h : RLX u v) (bl : Bd 0 600 (u 1 1)) (b5 : Bd 0 2 (u 1 5)) (b7 : Bd 0 3 (u 1 7)) (bf : BF u 2) (hd : z = -2 ∨ RDF sort u g) (ht : w = -2 ∨ RTF sort v g') (e1 : (z, u1) = Fx_P_textRX sort at0 u g) (e2 : (w, v2, g2) = Fx_M_textRX sort at0 v g') (f3 : v2 163 = v 163) (f4 : ∀ j, j ≠ 0 → v2 164 j = v 164 j) (f4z : v2 164 0 = 0) (f5 : ∀ j, j ≠ 0 → v2 165 j = v 165 j) (f6 : ∀ j, j ≠ 0 → v2 166 j = v 166 j) (f81 : v2 181 = v 181) : z = w ∧ RLX u1 v2 := by
  obtain ⟨t0, t1, t2, t3, t5, t7, th, tw⟩ := h.1
  obtain ⟨L, hL, hb⟩ := iN_ex (hi := 600) bl
  have hL' : v 164 0 = iN L := t1.symm.trans hL
  have htp : ∀ j, j < L → u 2 j = v 163 j := fun j hj => (t0 j (by omega)).trans (congrArg (v 163) (by omega))
  have hby : ∀ j, j < L → Bd (-128) 127 (v 163 j) := fun j hj => by rw [← htp j hj]; exact fb_bd (bf j)
  obtain ⟨F, hF⟩ : ∃ F, txF sort (u 2) L (v 170) = F := ⟨_, rfl⟩
  have hF' : txF sort (v 163) L (v 170) = F := by
    rw [← hF]
    unfold txF
    rw [cg_HR htp 601 0 _ _ (Nat.zero_le _), cg_PT htp 601 0 _ _ (Nat.zero_le _)]
  obtain ⟨h5, e5, l5⟩ := iN_ex (hi := 2) b5
  obtain ⟨h7, e7, l7⟩ := iN_ex (hi := 3) b7
  have v5 : v 167 0 = iN h5 := t5.symm.trans e5
  have v7 : v 167 1 = iN h7 := t7.symm.trans e7
  obtain ⟨k1, k2⟩ := tc_X (sort := sort) (at0 := at0) (g := g) hb hL b5 b7 hF
  have refused : nuT sort at0 (u 1 5) (u 1 7) = -1 → Fx_M_textRX sort at0 v g' = (-2, T9 v, g') → z = w ∧ RLX u1 v2 := by
    intro q1 q2
    have q3 : (z, u1) = ((-2 : Int32), Y3 u) := e1.trans (k1 q1)
    have q4 : (w, v2, g2) = ((-2 : Int32), T9 v, g') := e2.trans q2
    have z1 : z = -2 := congrArg Prod.fst q3
    have z2 : u1 = Y3 u := congrArg Prod.snd q3
    have z3 : w = -2 := congrArg Prod.fst q4
    have z4 : v2 = T9 v := congrArg (fun p => p.2.1) q4
    refine ⟨z1.trans z3.symm, ?_⟩
    have c7 : ∀ c, 167 ≤ c → v2 c = v c := fun c hc => by rw [z4]; exact t9_c ⟨by omega, by omega, by omega, by omega⟩
    have cu : ∀ c, c ≠ 1 → u1 c = u c := fun c hc => by rw [z2]; exact y3_c hc
    refine rlx_g h (fun c hc => cu c (by omega)) f81 (tld_n h.1 (fun c c1 c2 => cu c (by omega)) ?_ ?_ ?_ ?_ ?_ f3 (c7 167 (by omega)) (c7 168 (by omega)) (c7 169 (by omega))) (scp_1 (fun j _ => by rw [f3]) f4 f5 f6 (fun j _ => by rw [c7 167 (by omega)]) (fun j _ => by rw [c7 168 (by omega)]) (fun j _ => by rw [c7 169 (by omega)]))
    · rw [z2, f4z]; rfl
    · rw [z2, z4]; rfl
    · rw [z2, z4]; rfl
    · rw [z2]; exact y3_j (by decide) (by decide) (by decide)
    · rw [z2]; exact y3_j (by decide) (by decide) (by decide)
  have faulty : ∀ x : MM, (∀ c, c < 29 ∨ 42 < c → x c = Y3 u c) → (z, u1) = ((-1 : Int32), ms (ms x 1 2 F.1) 1 3 F.2.1) → (∃ x2 g3, Fx_M_textRX sort at0 v g' = (-1, x2, g3) ∧ x2 165 0 = F.1 ∧ x2 166 0 = F.2.1 ∧ x2 167 = v 167 ∧ x2 168 = v 168 ∧ x2 169 = v 169) → z = w ∧ RLX u1 v2 := by
    intro x hx q3 hq
    obtain ⟨x2, g3, q2, w5, w6, w7, w8, w9⟩ := hq
    have q4 : (w, v2, g2) = ((-1 : Int32), x2, g3) := e2.trans q2
    have z1 : z = -1 := congrArg Prod.fst q3
    have z2 : u1 = ms (ms x 1 2 F.1) 1 3 F.2.1 := congrArg Prod.snd q3
    have z3 : w = -1 := congrArg Prod.fst q4
    have z4 : v2 = x2 := congrArg (fun p => p.2.1) q4
    refine ⟨z1.trans z3.symm, ?_⟩
    have cu : ∀ c, c ≠ 1 → c < 29 ∨ 42 < c → u1 c = u c := fun c hc hc2 => by rw [z2, ms_c1 hc, ms_c1 hc, hx c hc2, y3_c hc]
    rw [← z4] at w5 w6 w7 w8 w9
    refine rlx_g h (fun c hc => cu c (by omega) (by omega)) f81 (tld_n h.1 (fun c c1 c2 => cu c (by omega) (by omega)) ?_ ?_ ?_ ?_ ?_ f3 w7 w8 w9) (scp_1 (fun j _ => by rw [f3]) f4 f5 f6 (fun j _ => by rw [w7]) (fun j _ => by rw [w8]) (fun j _ => by rw [w9]))
    · rw [z2, ms_i1 (by decide), ms_i1 (by decide), hx 1 (by omega), f4z]; rfl
    · rw [z2, ms_i1 (by decide), ms_e1, w5]
    · rw [z2, ms_e1, w6]
    · rw [z2, ms_i1 (by decide), ms_i1 (by decide), hx 1 (by omega)]; exact y3_j (by decide) (by decide) (by decide)
    · rw [z2, ms_i1 (by decide), ms_i1 (by decide), hx 1 (by omega)]; exact y3_j (by decide) (by decide) (by decide)
  by_cases s0 : sort = 0
  · subst s0
    have nq : nuT 0 at0 (u 1 5) (u 1 7) = if at0 = -1 then (if iN 2 ≤ iN h5 then (-1 : Int32) else iN h5) else if at0 < 0 then -1 else if iN h5 ≤ at0 then -1 else at0 := by rw [← e5]; rfl
    rcases nu_cl (at0 := at0) (show 2 ≤ 3 by omega) l5 with ⟨q1, q2⟩ | ⟨q1, n, q2, q3⟩
    · exact refused (nq.trans q1) (txn_0 v5 l5 q2)
    rw [← nq] at q1 q2
    have hn : n < 2 := by omega
    obtain ⟨x, ⟨k3a, k3b, k4⟩, kx, kz⟩ := k2 q1
    have hz : ¬ z = -2 := by
      intro y
      have y1 := congrArg Prod.fst (e1.trans kz)
      by_cases q : F.1 = 0
      · rw [if_pos q, q2] at y1
        have y2 : z = iN n := y1
        rw [y] at y2
        have y3 := congrArg Int32.toInt y2
        rw [iN_ti (by omega)] at y3
        have y4 : (-2 : Int32).toInt = -2 := rfl
        omega
      · rw [if_neg q] at y1
        have y2 : z = -1 := y1
        rw [y] at y2
        exact absurd y2 (by decide)
    have hx : ∀ c, c < 29 ∨ 42 < c → x c = Y3 u c := by
      rcases hd with y | y
      · exact absurd y hz
      · unfold RDF at y
        rw [hL] at y
        intro c hc
        rw [kx]
        exact y c hc
    have bq : Bd 0 2 (v 167 0) := by rw [v5]; exact ⟨by rw [iN_ti (by omega)]; omega, by rw [iN_ti (by omega)]; omega⟩
    have nv : nuT 0 at0 (v 167 0) (v 167 1) = nuT 0 at0 (u 1 5) (u 1 7) := by rw [v5, v7, e5, e7]
    have tm := tm_0 (at0 := at0) (u := v) (g := g') hb hL' hby bq hF'
    rw [nv] at tm
    have hw : ¬ w = -2 := by
      intro y
      by_cases q : F.1 = 0
      · obtain ⟨x2, g3, y2, -⟩ := tm.2.1 q1 q
        have y3 : w = nuT 0 at0 (u 1 5) (u 1 7) := congrArg Prod.fst (e2.trans y2)
        rw [y, q2] at y3
        have y4 := congrArg Int32.toInt y3
        rw [iN_ti (by omega)] at y4
        have y5 : (-2 : Int32).toInt = -2 := rfl
        omega
      · obtain ⟨x2, g3, y2, -⟩ := tm.2.2 q1 q
        have y3 : w = -1 := congrArg Prod.fst (e2.trans y2)
        rw [y] at y3
        exact absurd y3 (by decide)
    have hr := (ht.resolve_left hw).1 rfl
    obtain ⟨m1, m2⟩ := tx_0 (at0 := at0) (u := v) (g := g') hb hL' hby v5 l5 q3 hF' hr
    by_cases q : F.1 = 0
    rotate_left
    · rw [if_neg q] at kz
      exact faulty x hx (e1.trans kz) (m2 q)
    obtain ⟨x2, g3, y1, w5, w6, w7, w8, w9⟩ := m1 q
    rw [if_pos q, q2, keep_0 hn] at kz
    have z0 := e1.trans kz
    have z1 : z = iN n := congrArg Prod.fst z0
    have z2 : u1 = ms (Fx_H_copyBX (5 + 5 * n) 32 (ms (ms x 1 2 F.1) 1 3 F.2.1) g) 1 5 (if (ms (ms x 1 2 F.1) 1 3 F.2.1) 1 5 < iN n + 1 then iN n + 1 else (ms (ms x 1 2 F.1) 1 3 F.2.1) 1 5) := congrArg Prod.snd z0
    have z4 := e2.trans y1
    have z5 : w = iN n := congrArg Prod.fst z4
    have z6 : v2 = x2 := congrArg (fun p => p.2.1) z4
    refine ⟨z1.trans z5.symm, ?_⟩
    rw [← z6] at w5 w6 w7 w8 w9
    have p := hcB (u := ms (ms x 1 2 F.1) 1 3 F.2.1) (g := g) (t := 5 + 5 * n) (f := 32) (by omega)
    have w0c : ∀ c, c ≠ 1 → (ms (ms x 1 2 F.1) 1 3 F.2.1) c = x c := fun c hc => by rw [ms_c1 hc, ms_c1 hc]
    have w0j : ∀ j, j ≠ 2 → j ≠ 3 → (ms (ms x 1 2 F.1) 1 3 F.2.1) 1 j = Y3 u 1 j := fun j j2 j3 => by rw [ms_i1 j3, ms_i1 j2, hx 1 (by omega)]
    have cu : ∀ c, c ≠ 1 → c < (5 + 5 * n) ∨ (5 + 5 * n) + 4 < c → c < 29 ∨ 42 < c → u1 c = u c := fun c c1 c2 c3 => by rw [z2, ms_c1 c1, p.2 c c2, w0c c c1, hx c c3, y3_c c1]
    have cj : ∀ j, j ≠ 5 → u1 1 j = (ms (ms x 1 2 F.1) 1 3 F.2.1) 1 j := fun j hj => by rw [z2, ms_i1 hj, p.2 1 (by omega)]
    have cn : u1 1 5 = iN (if at0 = -1 then h5 + 1 else h5) := by
      rw [z2, ms_e1, w0j 5 (by decide) (by decide), y3_j (by decide) (by decide) (by decide), e5]
      exact up_c (by omega) (q3.imp (fun y => ⟨y.1, y.2.1⟩) (fun y => ⟨y.1, y.2.1⟩))
    have cv : v2 167 0 = iN (if at0 = -1 then h5 + 1 else h5) := by rw [w7]; exact if_pos rfl
    have co : v2 167 1 = v 167 1 := by rw [w7]; exact if_neg (by decide)
    have ck : ∀ k, k ≠ n → k < (u1 1 5).toInt.toNat → k < (u 1 5).toInt.toNat := by
      intro k hk hl
      rw [cn, iN_ti (by split <;> omega)] at hl
      rw [e5, iN_ti (by omega)]
      rcases q3 with ⟨a1, a2, a3⟩ | ⟨a1, a2, a3⟩
      · rw [if_pos a1] at hl
        omega
      · rw [if_neg a1] at hl
        omega
    have c1o : u1 1 7 = u 1 7 := by rw [cj 7 (by decide), w0j 7 (by decide) (by decide), y3_j (by decide) (by decide) (by decide)]
    refine rlx_g h (fun c hc => cu c (by omega) (by omega) (by omega)) f81 ⟨fun j hj => ?_, ?_, ?_, ?_, cn.trans cv.symm, (c1o.trans t7).trans co.symm, fun k hk hl => ?_, fun k hk hl => ?_⟩ (scp_1 (fun j _ => by rw [f3]) f4 f5 f6 (fun j hj => by rw [w7]; exact if_neg (by omega)) (fun j hj => by rw [w9, if_neg (by omega)]) (fun j hj => by rw [w8]))
    · rw [cu (1 + 1) (by omega) (by omega) (by omega), f3]; exact t0 j hj
    · rw [cj 1 (by decide), w0j 1 (by decide) (by decide), f4z]; rfl
    · rw [cj 2 (by decide), ms_i1 (by decide), ms_e1, w5]
    · rw [cj 3 (by decide), ms_e1, w6]
    · by_cases kn : k = n
      · rw [kn]
        exact hrw_new (hcp_t p.1 (fun c c1 c2 => by rw [z2, ms_c1 (by omega)])) (rep_w ((k4 q).1 rfl) (fun c c1 c2 => w0c c (by omega))) (fun o ho => by rw [w9, if_pos (by omega)]; exact congrArg F.2.2 (by omega))
      · exact hrw_cp (th k hk (ck k kn hl)) (hcp_r (fun c c1 c2 => cu c (by omega) (by omega) (by omega))) (fun o ho => by rw [w9, if_neg (by omega)])
    · rw [c1o] at hl
      exact prw_cp (tw k hk hl) (wcp_r (fun c c1 c2 => cu c (by omega) (by omega) (by omega))) (fun o ho => by rw [w8])
  · by_cases s1 : sort = 1
    · subst s1
      have nq : nuT 1 at0 (u 1 5) (u 1 7) = if at0 = -1 then (if iN 3 ≤ iN h7 then (-1 : Int32) else iN h7) else if at0 < 0 then -1 else if iN h7 ≤ at0 then -1 else at0 := by rw [← e7]; rfl
      rcases nu_cl (at0 := at0) (show 3 ≤ 3 by omega) l7 with ⟨q1, q2⟩ | ⟨q1, n, q2, q3⟩
      · exact refused (nq.trans q1) (txn_1 v7 l7 q2)
      rw [← nq] at q1 q2
      have hn : n < 3 := by omega
      obtain ⟨x, ⟨k3a, k3b, k4⟩, kx, kz⟩ := k2 q1
      have hz : ¬ z = -2 := by
        intro y
        have y1 := congrArg Prod.fst (e1.trans kz)
        by_cases q : F.1 = 0
        · rw [if_pos q, q2] at y1
          have y2 : z = iN n := y1
          rw [y] at y2
          have y3 := congrArg Int32.toInt y2
          rw [iN_ti (by omega)] at y3
          have y4 : (-2 : Int32).toInt = -2 := rfl
          omega
        · rw [if_neg q] at y1
          have y2 : z = -1 := y1
          rw [y] at y2
          exact absurd y2 (by decide)
      have hx : ∀ c, c < 29 ∨ 42 < c → x c = Y3 u c := by
        rcases hd with y | y
        · exact absurd y hz
        · unfold RDF at y
          rw [hL] at y
          intro c hc
          rw [kx]
          exact y c hc
      have bq : Bd 0 3 (v 167 1) := by rw [v7]; exact ⟨by rw [iN_ti (by omega)]; omega, by rw [iN_ti (by omega)]; omega⟩
      have nv : nuT 1 at0 (v 167 0) (v 167 1) = nuT 1 at0 (u 1 5) (u 1 7) := by rw [v5, v7, e5, e7]
      have tm := tm_1 (at0 := at0) (u := v) (g := g') hb hL' hby bq hF'
      rw [nv] at tm
      have hw : ¬ w = -2 := by
        intro y
        by_cases q : F.1 = 0
        · obtain ⟨x2, g3, y2, -⟩ := tm.2.1 q1 q
          have y3 : w = nuT 1 at0 (u 1 5) (u 1 7) := congrArg Prod.fst (e2.trans y2)
          rw [y, q2] at y3
          have y4 := congrArg Int32.toInt y3
          rw [iN_ti (by omega)] at y4
          have y5 : (-2 : Int32).toInt = -2 := rfl
          omega
        · obtain ⟨x2, g3, y2, -⟩ := tm.2.2 q1 q
          have y3 : w = -1 := congrArg Prod.fst (e2.trans y2)
          rw [y] at y3
          exact absurd y3 (by decide)
      have hr := (ht.resolve_left hw).2 rfl
      obtain ⟨m1, m2⟩ := tx_1 (at0 := at0) (u := v) (g := g') hb hL' hby v7 l7 q3 hF' hr
      by_cases q : F.1 = 0
      rotate_left
      · rw [if_neg q] at kz
        exact faulty x hx (e1.trans kz) (m2 q)
      obtain ⟨x2, g3, y1, w5, w6, w7, w8, w9⟩ := m1 q
      rw [if_pos q, q2, keep_1 hn] at kz
      have z0 := e1.trans kz
      have z1 : z = iN n := congrArg Prod.fst z0
      have z2 : u1 = ms (wcx (ms (ms x 1 2 F.1) 1 3 F.2.1) (15 + 4 * n) 37) 1 7 (if (ms (ms x 1 2 F.1) 1 3 F.2.1) 1 7 < iN n + 1 then iN n + 1 else (ms (ms x 1 2 F.1) 1 3 F.2.1) 1 7) := congrArg Prod.snd z0
      have z4 := e2.trans y1
      have z5 : w = iN n := congrArg Prod.fst z4
      have z6 : v2 = x2 := congrArg (fun p => p.2.1) z4
      refine ⟨z1.trans z5.symm, ?_⟩
      rw [← z6] at w5 w6 w7 w8 w9
      have p := wcK (u := ms (ms x 1 2 F.1) 1 3 F.2.1) (t := 15 + 4 * n) (f := 37) (by omega)
      have w0c : ∀ c, c ≠ 1 → (ms (ms x 1 2 F.1) 1 3 F.2.1) c = x c := fun c hc => by rw [ms_c1 hc, ms_c1 hc]
      have w0j : ∀ j, j ≠ 2 → j ≠ 3 → (ms (ms x 1 2 F.1) 1 3 F.2.1) 1 j = Y3 u 1 j := fun j j2 j3 => by rw [ms_i1 j3, ms_i1 j2, hx 1 (by omega)]
      have cu : ∀ c, c ≠ 1 → c < (15 + 4 * n) ∨ (15 + 4 * n) + 3 < c → c < 29 ∨ 42 < c → u1 c = u c := fun c c1 c2 c3 => by rw [z2, ms_c1 c1, p.2 c c2, w0c c c1, hx c c3, y3_c c1]
      have cj : ∀ j, j ≠ 7 → u1 1 j = (ms (ms x 1 2 F.1) 1 3 F.2.1) 1 j := fun j hj => by rw [z2, ms_i1 hj, p.2 1 (by omega)]
      have cn : u1 1 7 = iN (if at0 = -1 then h7 + 1 else h7) := by
        rw [z2, ms_e1, w0j 7 (by decide) (by decide), y3_j (by decide) (by decide) (by decide), e7]
        exact up_c (by omega) (q3.imp (fun y => ⟨y.1, y.2.1⟩) (fun y => ⟨y.1, y.2.1⟩))
      have cv : v2 167 1 = iN (if at0 = -1 then h7 + 1 else h7) := by rw [w7]; exact if_pos rfl
      have co : v2 167 0 = v 167 0 := by rw [w7]; exact if_neg (by decide)
      have ck : ∀ k, k ≠ n → k < (u1 1 7).toInt.toNat → k < (u 1 7).toInt.toNat := by
        intro k hk hl
        rw [cn, iN_ti (by split <;> omega)] at hl
        rw [e7, iN_ti (by omega)]
        rcases q3 with ⟨a1, a2, a3⟩ | ⟨a1, a2, a3⟩
        · rw [if_pos a1] at hl
          omega
        · rw [if_neg a1] at hl
          omega
      have c1o : u1 1 5 = u 1 5 := by rw [cj 5 (by decide), w0j 5 (by decide) (by decide), y3_j (by decide) (by decide) (by decide)]
      refine rlx_g h (fun c hc => cu c (by omega) (by omega) (by omega)) f81 ⟨fun j hj => ?_, ?_, ?_, ?_, (c1o.trans t5).trans co.symm, cn.trans cv.symm, fun k hk hl => ?_, fun k hk hl => ?_⟩ (scp_1 (fun j _ => by rw [f3]) f4 f5 f6 (fun j hj => by rw [w7]; exact if_neg (by omega)) (fun j hj => by rw [w8]) (fun j hj => by rw [w9, if_neg (by omega)]))
      · rw [cu (1 + 1) (by omega) (by omega) (by omega), f3]; exact t0 j hj
      · rw [cj 1 (by decide), w0j 1 (by decide) (by decide), f4z]; rfl
      · rw [cj 2 (by decide), ms_i1 (by decide), ms_e1, w5]
      · rw [cj 3 (by decide), ms_e1, w6]
      · rw [c1o] at hl
        exact hrw_cp (th k hk hl) (hcp_r (fun c c1 c2 => cu c (by omega) (by omega) (by omega))) (fun o ho => by rw [w8])
      · by_cases kn : k = n
        · rw [kn]
          exact prw_new (wcp_t p.1 (fun c c1 c2 => by rw [z2, ms_c1 (by omega)])) (repp_w ((k4 q).2 rfl) (fun c c1 c2 => w0c c (by omega))) (fun o ho => by rw [w9, if_pos (by omega)]; exact congrArg F.2.2 (by omega))
        · exact prw_cp (tw k hk (ck k kn hl)) (wcp_r (fun c c1 c2 => cu c (by omega) (by omega) (by omega))) (fun o ho => by rw [w9, if_neg (by omega)])
    · refine refused ?_ (tx_2 s0 s1)
      unfold nuT
      rw [if_neg s0, if_neg s1]
