/-! weighs, hear, low, around -/
theorem inB_bt : ∀ p, p < 9 → ∀ q, q < 9 → inB (bt p) q = decide (q = p) := by decide +kernel
theorem wk_u {A : Nat → Nat → Int32} {p q : Nat} (hp : p < 9) (hq : q < 9) : chM A 0 (bt p) q = upA A p 4 (A p 4 + 1) q 4 := by
  unfold chM upA
  rw [inB_0 q hq, if_neg Bool.false_ne_true, inB_bt p hp q hq]
  by_cases y : q = p
  · rw [decide_eq_true y, if_pos rfl, if_pos ⟨y, rfl⟩, y]
  · rw [decide_eq_false y, if_neg Bool.false_ne_true, if_neg (fun z => y z.1), Int32.add_zero]
theorem hv_L {x u6 y0 : MM} {g' : GG} {n m : Nat} {A : Nat → Nat → Int32} {sr cr : Nat → Int32} {l20 : Int64} (ha : HA x 44 n A) (h6 : u6 44 0 = iN n) (y22 : y0 162 22 = iN n) : ∀ (f p : Nat) (g : GG) (y1 : MM) (mst : Int64) (hv : Int32) (ch : Nat → Int32), n - p < f → p ≤ n → OK u6 g n m A sr cr (iN (2 ^ n - 1)) ch → RR y1 n m A sr cr → (Fx_C_heaviestX_L34 x u6 l20 f mst hv (iN p) g).1 = (Fx_M_weighsX_L31 g' y0 l20 f hv mst (iN p) y1).1 := by
  intro f
  induction f with
  | zero => intro p g y1 mst hv ch h1; omega
  | succ f ih =>
    intro p g y1 mst hv ch h1 h2 ok rr
    have n9 := ok.1
    rw [Fx_C_heaviestX_L34_s, Fx_M_weighsX_L31_s, ha.1, y22]
    by_cases q : n ≤ p
    · rw [if_pos ((iN_le (by omega) (by omega)).mpr q), if_pos ((iN_le (by omega) (by omega)).mpr q)]
    · have hp : p < n := by omega
      have aw := rr.2.2.2.1
      rw [if_neg (fun z => q ((iN_le (by omega) (by omega)).mp z)), if_neg (fun z => q ((iN_le (by omega) (by omega)).mp z)), show hof x 44 (iN p) (4 : Int32) = A p 4 from ha_r (c := 4) ha n9 hp (by decide), show mof y1 (iN p) (4 : Int32) = A p 4 from ma_r (c := 4) rr.2.2.1 n9 hp (by decide)]
      unfold Fx_C_heaviestX_J99 Fx_M_weighsX_J100 Fx_M_weighsX_J117 Fx_M_weighsX_J119
      rw [iN_s]
      by_cases t : (10 : Int32) ≤ A p 4
      · rw [if_pos t, if_pos t]
        exact ih (p + 1) g y1 mst hv ch (by omega) (by omega) ok rr
      · rw [if_neg t, if_neg t]
        obtain ⟨k, hk, k10⟩ := iN_ex (hi := 10) (show Bd 0 10 (A p 4) from (aw p hp).1 4 (by decide))
        have k9 : k + 1 ≤ 10 := by
          rw [hk] at t
          have : ¬ 10 ≤ k := fun z => t ((iN_le (a := 10) (by omega) (by omega)).mpr z)
          omega
        have bz : Bd (cLo 4) (cHi 4) (A p 4 + 1) := by
          rw [hk, iN_s]
          exact (show Bd 0 10 (iN (k + 1)) from ⟨by rw [iN_ti (by omega)]; omega, by rw [iN_ti (by omega)]; omega⟩)
        obtain ⟨g2, q1, q2, q3⟩ := ok_w (md := 0) (wk := bt p) ok
        have s4 : ∀ (v : MM) (z : Int32), Fx_M_setX (iN p) (4 : Int32) z v g' = ms v 172 (13 + 16 * p + 4) z := fun v z => msE (c := 4) (by omega) (by decide)
        have r1 := rr_s (p := p) (c := 4) (z := A p 4 + 1) rr (by decide) bz (fun z => by omega)
        obtain ⟨y3, m1, m2⟩ := mb_N (g := g') r1
        have r2 := rr_a (rr_s (p := p) (c := 4) (z := A p 4) (rr_c r1 m2) (by decide) ((aw p hp).1 4 (by decide)) (fun z => by omega)) (fun q d _ _ => upA_b q d)
        have e1 : Fx_O_meanOfX (iN (2 ^ n - 1)) u6 g2 = MN (upA A p 4 (A p 4 + 1)) n m sr cr := by
          rw [cmn_eq (y := u6) (g' := g2) (o := -1) (ch2 := fun q => upA A p 4 (A p 4 + 1) q 4) q2 (sup_a n9) (c := 2 ^ n - 1) (by have := Nat.two_pow_pos n; omega) (fun q hq => wk_u (by omega) (by omega)) cnt_all]
          exact (mb_e (fun q c hc => upA_n hc)).symm
        rw [xqb, b9I (by omega), xqb, q1, xqb, all_X h6 n9, xqb, e1, xqb, xqb, s4, m1, c2_mk, xqb, xqb, s4]
        by_cases w : lg_cmp (MN (upA A p 4 (A p 4 + 1)) n m sr cr - l20) mst ≤ 0
        · rw [if_pos w, if_pos w, if_pos w]
          exact ih (p + 1) g2 _ mst hv _ (by omega) (by omega) q2 r2
        · rw [if_neg w, if_neg w, if_neg w]
          exact ih (p + 1) g2 _ _ _ _ (by omega) (by omega) q2 r2
theorem R5_weighs {u v u1 v2 : MM} {g g' g1 : GG} {hill plan z w : Int32} (h : RLY u v) (b5 : Bd 0 2 (u 1 5)) (b7 : Bd 0 3 (u 1 7)) (hd : HD v) (pl : PL v) (e1 : (z, u1, g1) = Fx_P_weighsX hill plan u g) (e2 : (w, v2) = Fx_M_weighsX hill plan v g') : z = w := by
  obtain ⟨b, x, y, p1, p2, p3⟩ := lay_Y (g := g) (g' := g') (hill := hill) (plan := plan) h b5 b7 hd pl
  unfold Fx_P_weighsX at e1
  unfold Fx_M_weighsX at e2
  rw [p1, c2_mk] at e1
  rw [xqb, p2, c2_mk] at e2
  cases b
  · rw [if_neg Bool.false_ne_true] at e1 e2
    exact (congrArg Prod.fst e1).trans (congrArg Prod.fst e2).symm
  obtain ⟨n, m, L⟩ := p3 rfl
  have n9 := L.1
  have m4 := L.2.2.1
  have rr := rr_L L
  have ha := L.2.2.2.1
  rw [if_pos rfl] at e1 e2
  unfold Fx_C_heaviestX at e1
  obtain ⟨u6, g7, k1, k2, k3, k4⟩ := lk44_X (g := g) (mg := iN (2 ^ n - 1)) ha n9 m4 (rns_L L).1 (rns_L L).2
  have h6 : u6 44 0 = iN n := by rw [k3 44 (by decide)]; exact ha.1
  obtain ⟨y2, m1, m2⟩ := mb_N (g := g') rr
  have em : Fx_O_meanOfX (iN (2 ^ n - 1)) u6 g7 = MN (rwA y) n m (sR y) (cR y) := cmn_eq (y := u6) (g' := g7) (o := -1) (ch2 := fun q => rwA y q 4) k2 (sup_a n9) (c := 2 ^ n - 1) (by have := Nat.two_pow_pos n; omega) (fun q hq => chM_0 (by omega)) cnt_all
  have e10 : (9 - (0 : Int32).toInt).toNat + 1 = 10 := by decide
  rw [xqb, all_X ha.1 n9, k1, c2_mk, xqb, all_X h6 n9, xqb, em, e10] at e1
  rw [m1, c2_mk, e10] at e2
  have k := hv_L (g' := g') (l20 := MN (rwA y) n m (sR y) (cR y)) ha h6 L.2.2.2.2.1.1 10 0 g7 y2 0 (-1) _ (by omega) (by omega) k2 (rr_c rr m2)
  have z1 : z = (Fx_C_heaviestX_L34 x u6 (MN (rwA y) n m (sR y) (cR y)) 10 0 (-1) (iN 0) g7).1 := congrArg Prod.fst e1
  exact z1.trans (k.trans (congrArg Prod.fst e2).symm)
theorem R5_hear {u v u1 v2 : MM} {g g' g1 : GG} {hill plan pond mm : Int32} {z w : Int64} (h : RLY u v) (b5 : Bd 0 2 (u 1 5)) (b7 : Bd 0 3 (u 1 7)) (hd : HD v) (pl : PL v) (e1 : (z, u1, g1) = Fx_P_hearX hill plan pond mm u g) (e2 : (w, v2) = Fx_M_hearX hill plan pond mm v g') : z = w := by
  obtain ⟨b, x, y, p1, p2, p3⟩ := lay_Y (g := g) (g' := g') (hill := hill) (plan := plan) h b5 b7 hd pl
  unfold Fx_P_hearX at e1
  unfold Fx_M_hearX at e2
  rw [xqb, p2, c2_mk] at e2
  cases b
  · rw [hpd_F p1, c2_mk, if_neg Bool.false_ne_true] at e1
    rw [if_neg Bool.false_ne_true] at e2
    exact (congrArg Prod.fst e1).trans (congrArg Prod.fst e2).symm
  obtain ⟨n, m, L⟩ := p3 rfl
  have n9 := L.1
  have m4 := L.2.2.1
  have rr := rr_L L
  have ha := L.2.2.2.1
  have aw := L.2.2.2.2.2.1
  obtain ⟨t, t1, t2, t3⟩ := q_pond (g := g) (g' := g') (p := pond) L
  rw [hpd_T p1 t1, c2_mk] at e1
  rw [if_pos rfl, xqb, t2] at e2
  cases t
  · rw [if_neg Bool.false_ne_true] at e1 e2
    exact (congrArg Prod.fst e1).trans (congrArg Prod.fst e2).symm
  obtain ⟨q, q1, q2⟩ := t3 rfl
  have l0 : (0 : Int32).toInt = 0 := rfl
  have l99 : (99 : Int32).toInt = 99 := rfl
  rw [if_pos rfl] at e1
  rw [if_pos rfl, xqb, in_X] at e2
  by_cases hm : 0 ≤ mm.toInt ∧ mm.toInt ≤ 99
  · rw [if_neg (nltI (by omega)), if_pos (leI (by omega))] at e1
    rw [inT (by omega) (by omega), if_pos rfl] at e2
    obtain ⟨x1, g2, k1, k2, k3⟩ := wm44_X (g := g) ha n9 m4 aw (rns_L L)
    have ha1 : HA x1 44 n (rwA y) := ha_c ha (k2 44 (by decide)) (k2 45 (by decide))
    have hr1 := rns_c (rns_L L) (k2 44 (by decide)) (k2 46 (by decide)) (k2 47 (by decide))
    obtain ⟨x2, c1, c2, c3, c4⟩ := cph_X (g := g2) (t := 79) ha1 hr1 n9 m4 (by decide)
    have bm : Bd (cLo 12) (cHi 12) mm := (show Bd (-1) 99 mm from ⟨by omega, hm.2⟩)
    have hs := ha_s (p := q) (c := 12) (z := mm) c2 (by decide)
    obtain ⟨x3, g3, d1, d2, d3⟩ := wm79_X (g := g2) hs n9 m4 (aw_u aw bm (fun z => by omega)) (rns_c c3 (ms_c1 (by decide)) (ms_c1 (by decide)) (ms_c1 (by decide)))
    obtain ⟨y2, m1, m2⟩ := mb_N (g := g') rr
    have r1 := rr_s (p := q) (c := 12) (z := mm) (rr_c rr m2) (by decide) bm (fun z => by omega)
    obtain ⟨y3, m3, m4'⟩ := mb_N (g := g') r1
    have pu : Fx_H_putX (iN q) (12 : Int32) mm 79 x2 g2 = ms x2 (79 + 1) (16 * q + 12) mm := putE (c := 12) (by omega) (by decide)
    have sE : Fx_M_setX (iN q) (12 : Int32) mm y2 g' = ms y2 172 (13 + 16 * q + 12) mm := msE (c := 12) (by omega) (by decide)
    rw [k1, c3_mk, xqb, c1, xqb, q2, pu, d1, c3_mk, xqb] at e1
    rw [m1, c2_mk, xqb, q2, sE, m3, c2_mk, xqb] at e2
    exact (congrArg Prod.fst e1).trans (congrArg Prod.fst e2).symm
  · rw [(Bool.not_eq_true _).mp (inF (v := mm) (lo := 0) (hi := 99) (by omega)), if_neg Bool.false_ne_true] at e2
    by_cases h2 : mm.toInt < 0
    · rw [if_pos (ltI (by omega))] at e1
      exact (congrArg Prod.fst e1).trans (congrArg Prod.fst e2).symm
    · rw [if_neg (nltI (by omega)), if_neg (nleI (by omega))] at e1
      exact (congrArg Prod.fst e1).trans (congrArg Prod.fst e2).symm
/-! low -/
theorem lw_L {x y : MM} {g' : GG} {n m p l : Nat} {A : Nat → Nat → Int32} {sr cr : Nat → Int32} {cn : Nat → Nat} (ha : HA x 44 n A) (n9 : n ≤ 9) (m4 : m ≤ 4) (hp : p < n) (rr0 : RR y n m A sr cr) (hl : A p 1 = iN l) (l24 : l ≤ 24) (hcr : ∀ r, r < m → cr r = iN (cn r) ∧ cn r ≤ 100) (hs : sN cn m = 100) : ∀ (f b : Nat) (x1 y1 : MM) (g1 : GG) (best : Int32) (least : Int64) (d : Int32), l + 1 - b < f → b ≤ l + 1 → HA x1 70 n (upA A p 1 d) → RNS x1 70 m sr cr → x1 44 0 = iN n → (0 < b → g1 56 4 = least) → RR y1 n m (upA A p 1 d) sr cr → (Fx_C_lowerByX_L21 (iN p) x f best (iN b) x1 g1).1 = (Fx_M_lowX_L41 (iN p) g' y f best least (iN b) y1).1 := by
  intro f
  induction f with
  | zero => intro b x1 y1 g1 best least d h1; omega
  | succ f ih =>
    intro b x1 y1 g1 best least d h1 h2 h70 r70 h44 hg rr
    have aw := rr0.2.2.2.1
    have hx1 : hof x 44 (iN p) (1 : Int32) = iN l := (ha_r (c := 1) ha n9 hp (by decide)).trans hl
    have hx7 : hof x 44 (iN p) (7 : Int32) = A p 7 := ha_r (c := 7) ha n9 hp (by decide)
    have hy1 : mof y (iN p) (1 : Int32) = iN l := (ma_r (c := 1) rr0.2.2.1 n9 hp (by decide)).trans hl
    rw [Fx_C_lowerByX_L21_s, Fx_M_lowX_L41_s, hx1, hy1, hx7]
    by_cases q : l + 1 ≤ b
    · rw [if_pos ((iN_lt (by omega) (by omega)).mpr (by omega)), if_pos ((iN_lt (by omega) (by omega)).mpr (by omega))]
    · have hb : b ≤ l := by omega
      rw [if_neg (fun z => by have := (iN_lt (by omega) (by omega)).mp z; omega), if_neg (fun z => by have := (iN_lt (by omega) (by omega)).mp z; omega), iN_sub hb]
      have bz : Bd (cLo 1) (cHi 1) (iN (l - b)) := (show Bd 0 24 (iN (l - b)) from ⟨by rw [iN_ti (by omega)]; omega, by rw [iN_ti (by omega)]; omega⟩)
      obtain ⟨B, hB⟩ : ∃ B, B = upA A p 1 (iN (l - b)) := ⟨_, rfl⟩
      have pu : Fx_H_putX (iN p) (1 : Int32) (iN (l - b)) 70 x1 g1 = ms x1 (70 + 1) (16 * p + 1) (iN (l - b)) := putE (c := 1) (by omega) (by decide)
      have sE : Fx_M_setX (iN p) (1 : Int32) (iN (l - b)) y1 g' = ms y1 172 (13 + 16 * p + 1) (iN (l - b)) := msE (c := 1) (by omega) (by decide)
      have h70' : HA (ms x1 (70 + 1) (16 * p + 1) (iN (l - b))) 70 n B := ha_e (ha_s (p := p) (c := 1) (z := iN (l - b)) h70 (by decide)) (fun q c _ _ => by rw [hB]; exact upA_2 q c)
      have r70' : RNS (ms x1 (70 + 1) (16 * p + 1) (iN (l - b))) 70 m sr cr := rns_c r70 (ms_c1 (by decide)) (ms_c1 (by decide)) (ms_c1 (by decide))
      have rr1 : RR (ms y1 172 (13 + 16 * p + 1) (iN (l - b))) n m B sr cr := rr_a (rr_s (p := p) (c := 1) (z := iN (l - b)) rr (by decide) bz (fun z => by omega)) (fun q c _ _ => by rw [hB]; exact upA_2 q c)
      have awB := rr1.2.2.2.1
      have B7 : B p 7 = A p 7 := by rw [hB]; exact upA_n (by decide)
      obtain ⟨x2, g2, k1, k2, k3, k4⟩ := lk70_X (g := g1) (mg := iN (bset (wkF B) n)) h70' n9 m4 r70'.1 r70'.2
      obtain ⟨y2, m1, m2⟩ := mb_N (g := g') rr1
      have rr2 := rr_c rr1 m2
      have x44 : x2 44 0 = iN n := by rw [k3 44 (by decide), ms_c1 (by decide)]; exact h44
      have em : Fx_O_meanOfX (iN (2 ^ n - 1)) x2 g2 = MN B n m sr cr := cmn_eq (y := x2) (g' := g2) (o := -1) (ch2 := fun q => B q 4) k2 (sup_m (md := 0) n9 awB) (c := 2 ^ n - 1) (by have := Nat.two_pow_pos n; omega) (fun q hq => chM_0 (by omega)) cnt_all
      have ep : Fx_O_partsOfX 0 x2 g2 = zN (100 * 10 ^ n) := by
        rw [po_X k2 (sup_m (md := 0) n9 awB), pt_eq (ch2 := fun q => B q 4) (fun q hq => chM_0 (by omega)), pt_z n9 (kA_s awB) hcr, pt_all (fun q hq => (kA_s awB q hq).2) hs]
      have hy7 : mof (ms y1 172 (13 + 16 * p + 1) (iN (l - b))) (iN p) (7 : Int32) = A p 7 := (ma_r (c := 7) rr1.2.2.1 n9 hp (by decide)).trans B7
      have h70x : HA x2 70 n B := ha_c h70' (k3 70 (by decide)) (k3 71 (by decide))
      have r70x : RNS x2 70 m sr cr := rns_c r70' (k3 70 (by decide)) (k3 72 (by decide)) (k3 73 (by decide))
      rw [hB] at h70x rr2
      unfold Fx_C_lowerByX_J119 Fx_M_lowX_J105
      rw [iN_s, xqb, pu, xqb, wk_X h70' n9, k1, c2_mk, xqb, all_X x44 n9, xqb, em, xqb, ep, xqb, xqb, xqb, xqb, xqb, sE]
      rw [xqb (x := ms y1 172 (13 + 16 * p + 1) (iN (l - b))), m1, c2_mk, xqb (x := Fx_M_allPartsX y2 g'), al_X rr2.2.2.1 n9, hy7, xqb (x := (iN b).toInt64), xqb (x := zN (100 * 10 ^ n) * (iN b).toInt64), xqb (x := (A p 7).toInt64), xqb (x := zN (100 * 10 ^ n) * (iN b).toInt64 * (A p 7).toInt64), xqb (x := MN B n m sr cr + zN (100 * 10 ^ n) * (iN b).toInt64 * (A p 7).toInt64)]
      have eo : zN (100 * 10 ^ n) * (iN b).toInt64 * (A p 7).toInt64 = zN (100 * 10 ^ n) * (A p 7).toInt64 * (iN b).toInt64 := by
        rw [Int64.mul_assoc, Int64.mul_comm (iN b).toInt64, ← Int64.mul_assoc]
      rw [eo]
      obtain ⟨loss, hlo⟩ : ∃ loss, loss = MN B n m sr cr + zN (100 * 10 ^ n) * (A p 7).toInt64 * (iN b).toInt64 := ⟨_, rfl⟩
      rw [← hlo]
      by_cases b0 : b = 0
      · have z0 : iN b = 0 := by rw [b0]; rfl
        rw [if_pos z0, if_pos z0, xqb]
        exact ih (b + 1) x2 y2 _ _ _ _ (by omega) (by omega) h70x r70x x44 (fun _ => ml_e) rr2
      · have z0 : ¬ iN b = 0 := fun z => b0 ((iN_eq (b := 0) (by omega) (by omega)).mp z)
        have hg2 : g2 56 4 = least := by rw [k4 56 (by decide)]; exact hg (by omega)
        rw [if_neg z0, if_neg z0, xqb, hg2]
        by_cases w : 0 ≤ lg_cmp loss least
        · rw [if_pos w, if_pos w]
          exact ih (b + 1) x2 y2 _ _ _ _ (by omega) (by omega) h70x r70x x44 (fun _ => hg2) rr2
        · rw [if_neg w, if_neg w, xqb]
          exact ih (b + 1) x2 y2 _ _ _ _ (by omega) (by omega) h70x r70x x44 (fun _ => ml_e) rr2
theorem R5_low {u v u1 v2 : MM} {g g' g1 : GG} {hill plan pond z w : Int32} (h : RLY u v) (b5 : Bd 0 2 (u 1 5)) (b7 : Bd 0 3 (u 1 7)) (hd : HD v) (pl : PL v) (e1 : (z, u1, g1) = Fx_P_lowX hill plan pond u g) (e2 : (w, v2) = Fx_M_lowX hill plan pond v g') : z = w := by
  obtain ⟨b, x, y, p1, p2, p3⟩ := lay_Y (g := g) (g' := g') (hill := hill) (plan := plan) h b5 b7 hd pl
  unfold Fx_P_lowX at e1
  unfold Fx_M_lowX at e2
  rw [xqb, p2, c2_mk] at e2
  cases b
  · rw [hpd_F p1, c2_mk, if_neg Bool.false_ne_true] at e1
    rw [if_neg Bool.false_ne_true] at e2
    exact (congrArg Prod.fst e1).trans (congrArg Prod.fst e2).symm
  obtain ⟨n, m, L⟩ := p3 rfl
  have n9 := L.1
  have m4 := L.2.2.1
  have rr := rr_L L
  have ha := L.2.2.2.1
  have aw := L.2.2.2.2.2.1
  obtain ⟨t, t1, t2, t3⟩ := q_pond (g := g) (g' := g') (p := pond) L
  rw [hpd_T p1 t1, c2_mk] at e1
  rw [if_pos rfl, xqb, t2] at e2
  cases t
  · rw [if_neg Bool.false_ne_true] at e1 e2
    exact (congrArg Prod.fst e1).trans (congrArg Prod.fst e2).symm
  obtain ⟨q, q1, q2⟩ := t3 rfl
  obtain ⟨l, hl, l24⟩ := iN_ex (hi := 24) (show Bd 0 24 (rwA y q 1) from (aw q q1).1 1 (by decide))
  obtain ⟨x2, c1, c2, c3, c4⟩ := cph_X (g := g) (t := 70) ha (rns_L L) n9 m4 (by decide)
  have e1001 : (1000 - (0 : Int32).toInt).toNat + 1 = 1001 := by decide
  have self : ∀ p c, p < n → c < 16 → rwA y p c = upA (rwA y) q 1 (rwA y q 1) p c := fun p c _ _ => by
    unfold upA
    by_cases y1 : p = q ∧ c = 1
    · rw [if_pos y1, y1.1, y1.2]
    · rw [if_neg y1]
  have k := lw_L (g' := g') ha n9 m4 q1 rr hl l24 (cN_s L).1 (cN_s L).2 1001 0 x2 y g 0 0 (rwA y q 1) (by omega) (by omega) (ha_e c2 self) c3 (by rw [c4 44 (by decide)]; exact ha.1) (fun z => by omega) (rr_a rr self)
  rw [if_pos rfl] at e1 e2
  unfold Fx_C_lowerByX at e1
  rw [xqb, c1, q2, e1001] at e1
  rw [q2, e1001] at e2
  have z1 : z = (Fx_C_lowerByX_L21 (iN q) x 1001 0 (iN 0) x2 g).1 := by
    obtain ⟨R, hR⟩ : ∃ R, R = Fx_C_lowerByX_L21 (iN q) x 1001 0 (iN 0) x2 g := ⟨_, rfl⟩
    have e3 : (z, u1, g1) = xq_c3 R fun v14 u15 g16 => (v14, u15, g16) := by rw [hR]; exact e1
    rw [← hR]
    exact congrArg Prod.fst e3
  exact z1.trans (k.trans (congrArg Prod.fst e2).symm)
