/-! around, rows -/
theorem self_u {A : Nat → Nat → Int32} {p c : Nat} (q d : Nat) : A q d = upA A p c (A p c) q d := by
  unfold upA
  by_cases y : q = p ∧ d = c
  · rw [if_pos y, y.1, y.2]
  · rw [if_neg y]
/-- both sides while ways are tried; the class's trial has the ways B -/
def TS (xc : MM) (gc : GG) (yc : MM) (n m : Nat) (A B : Nat → Nat → Int32) (sr cr : Nat → Int32) (l : Int64) (a b : Int32) : Prop := HA xc 70 n B ∧ RNS xc 70 m sr cr ∧ HA xc 44 n A ∧ gc 56 4 = l ∧ xc 56 2 = a ∧ xc 56 3 = b ∧ RR yc n m A sr cr
theorem iso_X {x : MM} {g : GG} {n p : Nat} {A : Nat → Nat → Int32} (h : HA x 44 n A) (n9 : n ≤ 9) (hp : p < n) : Fx_H_isOutX (iN p) 44 x g = decide (A p 15 = 1) := by
  unfold Fx_H_isOutX
  rw [show hof x 44 (iN p) (15 : Int32) = A p 15 from ha_r (c := 15) h n9 hp (by decide)]
  by_cases w : A p 15 = 1
  · rw [if_pos w, decide_eq_true w]
  · rw [if_neg w, decide_eq_false w]
/-- an out pond's ways: none -/
theorem ta_O {x : MM} {ihc : Int32 → MM → GG → MM × GG} {n p : Nat} {A : Nat → Nat → Int32} (ha : HA x 44 n A) (n9 : n ≤ 9) (hp : p < n) (ho : A p 15 = 1) {xc : MM} {gc : GG} (hx : HA xc 44 n A) : ∀ (f t : Nat), n - t < f → t ≤ n → Fx_C_turnAroundX_L45 ihc x (iN p) f (iN t) xc gc = ihc (iN (p + 1)) (ms xc (70 + 1) (16 * p + 8) (A p 8)) gc := by
  intro f
  induction f with
  | zero => intro t h1; omega
  | succ f ih =>
    intro t h1 h2
    rw [Fx_C_turnAroundX_L45_s, ha.1]
    by_cases q : n ≤ t
    · have pu : Fx_H_putX (iN p) (8 : Int32) (A p 8) 70 xc gc = ms xc (70 + 1) (16 * p + 8) (A p 8) := putE (c := 8) (by omega) (by decide)
      rw [if_pos ((iN_le (by omega) (by omega)).mpr q), show hof x 44 (iN p) (8 : Int32) = A p 8 from ha_r (c := 8) ha n9 hp (by decide), xqb, pu, iN_s]
    · rw [if_neg (fun z => q ((iN_le (by omega) (by omega)).mp z)), xqb, iso_X hx n9 hp, if_pos (decide_eq_true ho)]
      unfold Fx_C_turnAroundX_J123
      rw [iN_s]
      exact ih (t + 1) (by omega) (by omega)
theorem ta_I {x y5 yo : MM} {g' : GG} {ihc : Int32 → MM → GG → MM × GG} {ihr : Int64 → Int32 → Int32 → Int32 → MM → Int32 × MM} {n m p : Nat} {A : Nat → Nat → Int32} {sr cr : Nat → Int32} (ha : HA x 44 n A) (y22 : y5 162 22 = iN n) (n9 : n ≤ 9) (m4 : m ≤ 4) (hp : p < n) (h8 : mof yo (iN p) (8 : Int32) = A p 8) (ho : A p 15 = 0) : ∀ (f t : Nat) (xc : MM) (gc : GG) (yc : MM) (l : Int64) (a b d : Int32), n - t < f → p < t → t ≤ n → TS xc gc yc n m A (upA A p 8 d) sr cr l a b → ∃ x' g2 y' l' a' b', Fx_C_turnAroundX_L45 ihc x (iN p) f (iN t) xc gc = ihc (iN (p + 1)) x' g2 ∧ Fx_M_aroundX_L57 ihr g' y5 (iN p) yo f l a b (iN t) yc = ihr l' a' b' (iN (p + 1)) y' ∧ TS x' g2 y' n m A A sr cr l' a' b' := by
  intro f
  induction f with
  | zero => intro t xc gc yc l a b d h1; omega
  | succ f ih =>
    intro t xc gc yc l a b d h1 h2 h3 hT
    obtain ⟨t1, t2, t3, t4, t5, t6, t7⟩ := hT
    have aw := t7.2.2.2.1
    rw [Fx_C_turnAroundX_L45_s, Fx_M_aroundX_L57_s, ha.1, y22]
    have hx8 : hof x 44 (iN p) (8 : Int32) = A p 8 := ha_r (c := 8) ha n9 hp (by decide)
    have b8 : Bd (cLo 8) (cHi 8) (A p 8) := (aw p hp).1 8 (by decide)
    unfold Fx_C_turnAroundX_J123 Fx_M_aroundX_J140 Fx_M_aroundX_J134
    rw [iN_s, iN_s]
    by_cases q : n ≤ t
    · have pu : Fx_H_putX (iN p) (8 : Int32) (A p 8) 70 xc gc = ms xc (70 + 1) (16 * p + 8) (A p 8) := putE (c := 8) (by omega) (by decide)
      rw [if_pos ((iN_le (by omega) (by omega)).mpr q), if_pos ((iN_le (by omega) (by omega)).mpr q), hx8, xqb, pu]
      exact ⟨_, gc, yc, l, a, b, rfl, rfl, ha_e (ha_s (p := p) (c := 8) (z := A p 8) t1 (by decide)) (fun q c _ _ => upA_b q c), rns_c t2 (ms_c1 (by decide)) (ms_c1 (by decide)) (ms_c1 (by decide)), ha_c t3 (ms_c1 (by decide)) (ms_c1 (by decide)), t4, by rw [ms_c1 (by decide)]; exact t5, by rw [ms_c1 (by decide)]; exact t6, t7⟩
    · have ht : t < n := by omega
      have no : ¬ decide (A p 15 = 1) = true := fun z => by
        have z1 := of_decide_eq_true z
        rw [ho] at z1
        exact absurd z1 (by decide)
      rw [if_neg (fun z => q ((iN_le (by omega) (by omega)).mp z)), if_neg (fun z => q ((iN_le (by omega) (by omega)).mp z)), xqb, iso_X t3 n9 hp, if_neg no, show mof yc (iN p) (15 : Int32) = A p 15 from ma_r (c := 15) t7.2.2.1 n9 hp (by decide), if_pos ho, hx8, h8]
      by_cases w : iN t = A p 8
      · rw [if_pos w, if_pos w]
        exact ih (t + 1) xc gc yc l a b d (by omega) (by omega) (by omega) ⟨t1, t2, t3, t4, t5, t6, t7⟩
      · have bt' : Bd (cLo 8) (cHi 8) (iN t) := (show Bd (-1) 8 (iN t) from ⟨by rw [iN_ti (by omega)]; omega, by rw [iN_ti (by omega)]; omega⟩)
        have lt' : 8 = 8 ∨ 8 = 9 → LK n p (iN t) := fun _ => Or.inr ⟨t, h2, ht, rfl⟩
        have pu : Fx_H_putX (iN p) (8 : Int32) (iN t) 70 xc gc = ms xc (70 + 1) (16 * p + 8) (iN t) := putE (c := 8) (by omega) (by decide)
        have sE : ∀ (v : MM) (z : Int32), Fx_M_setX (iN p) (8 : Int32) z v g' = ms v 172 (13 + 16 * p + 8) z := fun v z => msE (c := 8) (by omega) (by decide)
        have c1 : HA (ms xc (70 + 1) (16 * p + 8) (iN t)) 70 n (upA A p 8 (iN t)) := ha_e (ha_s (p := p) (c := 8) (z := iN t) t1 (by decide)) (fun q c _ _ => upA_2 q c)
        have c2 : RNS (ms xc (70 + 1) (16 * p + 8) (iN t)) 70 m sr cr := rns_c t2 (ms_c1 (by decide)) (ms_c1 (by decide)) (ms_c1 (by decide))
        obtain ⟨x2, g2, k1, k2, k3⟩ := wm70_X (g := gc) c1 n9 m4 (aw_u aw bt' lt') c2
        have r1 := rr_s (p := p) (c := 8) (z := iN t) t7 (by decide) bt' lt'
        obtain ⟨y2, m1, m2⟩ := mb_N (g := g') r1
        have r2 : RR (ms y2 172 (13 + 16 * p + 8) (A p 8)) n m A sr cr := rr_a (rr_s (p := p) (c := 8) (z := A p 8) (rr_c r1 m2) (by decide) b8 (fun _ => (aw p hp).2.1)) (fun q c _ _ => upA_b q c)
        have u1 : HA x2 70 n (upA A p 8 (iN t)) := ha_c c1 (k2 70 (by decide)) (k2 71 (by decide))
        have u2 : RNS x2 70 m sr cr := rns_c c2 (k2 70 (by decide)) (k2 72 (by decide)) (k2 73 (by decide))
        have u3 : HA x2 44 n A := ha_c t3 ((k2 44 (by decide)).trans (ms_c1 (by decide))) ((k2 45 (by decide)).trans (ms_c1 (by decide)))
        have u4 : g2 56 4 = l := (by rw [k3 56 (by decide)]; exact t4)
        have u5 : x2 56 = xc 56 := (k2 56 (by decide)).trans (ms_c1 (by decide))
        rw [if_neg w, if_neg w, xqb (x := Fx_H_putX (iN p) (8 : Int32) (iN t) 70 xc gc), pu, k1, c3_mk, xqb (x := g2 56 4), u4, xqb (x := Fx_M_setX (iN p) (8 : Int32) (iN t) yc g'), sE, m1, c2_mk, xqb (x := Fx_M_setX (iN p) (8 : Int32) (A p 8) y2 g'), sE]
        by_cases v : 0 ≤ lg_cmp (MN (upA A p 8 (iN t)) n m sr cr) l
        · rw [if_pos v, if_pos v]
          exact ih (t + 1) x2 g2 _ l a b (iN t) (by omega) (by omega) (by omega) ⟨u1, u2, u3, u4, by rw [u5]; exact t5, by rw [u5]; exact t6, r2⟩
        · rw [if_neg v, if_neg v, xqb, xqb, xqb]
          exact ih (t + 1) _ _ _ _ _ _ (iN t) (by omega) (by omega) (by omega) ⟨ha_c u1 ((ms_c1 (by decide)).trans (ms_c1 (by decide))) ((ms_c1 (by decide)).trans (ms_c1 (by decide))), rns_c u2 ((ms_c1 (by decide)).trans (ms_c1 (by decide))) ((ms_c1 (by decide)).trans (ms_c1 (by decide))) ((ms_c1 (by decide)).trans (ms_c1 (by decide))), ha_c u3 ((ms_c1 (by decide)).trans (ms_c1 (by decide))) ((ms_c1 (by decide)).trans (ms_c1 (by decide))), ml_e, by rw [ms_i1 (by decide), ms_e1], ms_e1, r2⟩
theorem ta_L {x y5 : MM} {g' : GG} {n m : Nat} {A : Nat → Nat → Int32} {sr cr : Nat → Int32} {second : Int32} (ha : HA x 44 n A) (y22 : y5 162 22 = iN n) (n9 : n ≤ 9) (m4 : m ≤ 4) : ∀ (f p : Nat) (xc : MM) (gc : GG) (yc : MM) (l : Int64) (a b : Int32), n - p < f → p ≤ n → TS xc gc yc n m A A sr cr l a b → (if second = 0 then (Fx_C_turnAroundX_L33 x f (iN p) xc gc).1 56 2 else (Fx_C_turnAroundX_L33 x f (iN p) xc gc).1 56 3) = (Fx_M_aroundX_L32 second g' y5 f l a b (iN p) yc).1 := by
  intro f
  induction f with
  | zero => intro p xc gc yc l a b h1; omega
  | succ f ih =>
    intro p xc gc yc l a b h1 h2 hT
    rw [Fx_C_turnAroundX_L33_s, Fx_M_aroundX_L32_s, ha.1, y22]
    obtain ⟨t1, t2, t3, t4, t5, t6, t7⟩ := hT
    by_cases q : n ≤ p
    · rw [if_pos ((iN_le (by omega) (by omega)).mpr q), if_pos ((iN_le (by omega) (by omega)).mpr q)]
      by_cases s : second = 0
      · rw [if_pos s, if_pos s]; exact t5
      · rw [if_neg s, if_neg s]; exact t6
    · have hp : p < n := by omega
      have aw := t7.2.2.2.1
      obtain ⟨F, hF, h9⟩ : ∃ F, F = (9 - (iN (p + 1)).toInt).toNat + 1 ∧ n - (p + 1) < F := ⟨_, rfl, by rw [iN_ti (by omega)]; have : (9 : Int32).toInt = 9 := rfl; omega⟩
      rw [if_neg (fun z => q ((iN_le (by omega) (by omega)).mp z)), if_neg (fun z => q ((iN_le (by omega) (by omega)).mp z)), iN_s, show (9 - (iN (p + 1)).toInt).toNat + 1 = F from hF.symm]
      have o01 : A p 15 = 0 ∨ A p 15 = 1 := by
        obtain ⟨k, hk, k1⟩ := iN_ex (hi := 1) (show Bd 0 1 (A p 15) from (aw p hp).1 15 (by decide))
        rcases (show k = 0 ∨ k = 1 by omega) with w | w
        · left; rw [hk, w]; rfl
        · right; rw [hk, w]; rfl
      rcases o01 with o | o
      · obtain ⟨x', g2, y', l', a', b', e1, e2, e3⟩ := ta_I (ihc := Fx_C_turnAroundX_L33 x f) (ihr := Fx_M_aroundX_L32 second g' y5 f) (yo := yc) (g' := g') ha y22 n9 m4 hp (ma_r (c := 8) t7.2.2.1 n9 hp (by decide)) o F (p + 1) xc gc yc l a b (A p 8) h9 (by omega) (by omega) ⟨ha_e t1 (fun q c _ _ => self_u q c), t2, t3, t4, t5, t6, t7⟩
        rw [e1, e2]
        exact ih (p + 1) x' g2 y' l' a' b' (by omega) (by omega) e3
      · have e1 := ta_O (ihc := Fx_C_turnAroundX_L33 x f) (gc := gc) ha n9 hp o t3 F (p + 1) h9 (by omega)
        have e2 : Fx_M_aroundX_L57 (Fx_M_aroundX_L32 second g' y5 f) g' y5 (iN p) yc F l a b (iN (p + 1)) yc = Fx_M_aroundX_L32 second g' y5 f l a b (iN (p + 1)) yc := by
          obtain ⟨F', rfl⟩ : ∃ k, F = k + 1 := ⟨F - 1, by omega⟩
          rw [Fx_M_aroundX_L57_s, y22, show mof yc (iN p) (15 : Int32) = A p 15 from ma_r (c := 15) t7.2.2.1 n9 hp (by decide), o]
          unfold Fx_M_aroundX_J140
          rw [iN_s]
          by_cases w : iN n ≤ iN (p + 1)
          · rw [if_pos w]
          · rw [if_neg w, if_neg (show ¬ (1 : Int32) = 0 by decide)]
        rw [e1, e2]
        refine ih (p + 1) _ gc yc l a b (by omega) (by omega) ⟨ha_e (ha_s (p := p) (c := 8) (z := A p 8) t1 (by decide)) (fun q c _ _ => (self_u q c).symm), rns_c t2 (ms_c1 (by decide)) (ms_c1 (by decide)) (ms_c1 (by decide)), ha_c t3 (ms_c1 (by decide)) (ms_c1 (by decide)), t4, by rw [ms_c1 (by decide)]; exact t5, by rw [ms_c1 (by decide)]; exact t6, t7⟩
theorem R5_around {u v u1 v2 : MM} {g g' g1 : GG} {hill plan second z w : Int32} (h : RLY u v) (b5 : Bd 0 2 (u 1 5)) (b7 : Bd 0 3 (u 1 7)) (hd : HD v) (pl : PL v) (e1 : (z, u1, g1) = Fx_P_aroundX hill plan second u g) (e2 : (w, v2) = Fx_M_aroundX hill plan second v g') : z = w := by
  obtain ⟨b, x, y, p1, p2, p3⟩ := lay_Y (g := g) (g' := g') (hill := hill) (plan := plan) h b5 b7 hd pl
  unfold Fx_P_aroundX at e1
  unfold Fx_M_aroundX at e2
  rw [p1, c2_mk] at e1
  rw [xqb, p2, c2_mk] at e2
  cases b
  · rw [if_neg Bool.false_ne_true] at e1 e2
    exact (congrArg Prod.fst e1).trans (congrArg Prod.fst e2).symm
  obtain ⟨n, m, L⟩ := p3 rfl
  have n9 := L.1
  have m4 := L.2.2.1
  have rr := rr_L L
  have ha := L.2.2.2.1
  have aw := L.2.2.2.2.2.1
  rw [if_pos rfl] at e1 e2
  have e10 : (9 - (0 : Int32).toInt).toNat + 1 = 10 := by decide
  obtain ⟨x1, hx1⟩ : ∃ x1, x1 = ms (ms x 56 2 (-1)) 56 3 (-1) := ⟨_, rfl⟩
  have cx1 : ∀ c, c ≠ 56 → x1 c = x c := fun c hc => by rw [hx1, ms_c1 hc, ms_c1 hc]
  have ha1 : HA x1 44 n (rwA y) := ha_c ha (cx1 44 (by decide)) (cx1 45 (by decide))
  have hr1 := rns_c (rns_L L) (cx1 44 (by decide)) (cx1 46 (by decide)) (cx1 47 (by decide))
  obtain ⟨x2, g2, k1, k2, k3⟩ := wm44_X (g := g) ha1 n9 m4 aw hr1
  have ha2 : HA x2 44 n (rwA y) := ha_c ha1 (k2 44 (by decide)) (k2 45 (by decide))
  have hr2 := rns_c hr1 (k2 44 (by decide)) (k2 46 (by decide)) (k2 47 (by decide))
  obtain ⟨x3, c1, c2, c3, c4⟩ := cph_X (g := ml g2 56 4 (MN (rwA y) n m (sR y) (cR y))) (t := 70) ha2 hr2 n9 m4 (by decide)
  obtain ⟨y2, m1, m2⟩ := mb_N (g := g') rr
  have x56 : x3 56 = x1 56 := (c4 56 (by decide)).trans (k2 56 (by decide))
  have hT : TS x3 (ml g2 56 4 (MN (rwA y) n m (sR y) (cR y))) y2 n m (rwA y) (rwA y) (sR y) (cR y) (MN (rwA y) n m (sR y) (cR y)) (-1) (-1) := ⟨c2, c3, ha_c ha2 (c4 44 (by decide)) (c4 45 (by decide)), ml_e, by rw [x56, hx1, ms_i1 (by decide), ms_e1], by rw [x56, hx1, ms_e1], rr_c rr m2⟩
  have k := ta_L (g' := g') (second := second) ha L.2.2.2.2.1.1 n9 m4 10 0 x3 _ y2 _ (-1) (-1) (by omega) (by omega) hT
  unfold Fx_C_turnAroundX at e1
  rw [xqb, xqb, ← hx1, k1, c3_mk, xqb, xqb, c1, e10] at e1
  rw [m1, c2_mk, e10] at e2
  obtain ⟨R, hR⟩ : ∃ R, R = Fx_C_turnAroundX_L33 x 10 (iN 0) x3 (ml g2 56 4 (MN (rwA y) n m (sR y) (cR y))) := ⟨_, rfl⟩
  rw [← hR] at k
  have e3 : (z, u1, g1) = xq_c2 R fun u13 g14 => if second = 0 then (u13 56 2, u13, g14) else (u13 56 3, u13, g14) := by rw [hR]; exact e1
  have z1 : z = if second = 0 then R.1 56 2 else R.1 56 3 := by
    have e4 : xq_c2 R (fun u13 g14 => if second = 0 then (u13 56 2, u13, g14) else (u13 56 3, u13, g14)) = if second = 0 then (R.1 56 2, R.1, R.2) else (R.1 56 3, R.1, R.2) := rfl
    rw [e4] at e3
    by_cases s : second = 0
    · rw [if_pos s] at e3 ⊢
      exact congrArg Prod.fst e3
    · rw [if_neg s] at e3 ⊢
      exact congrArg Prod.fst e3
  exact z1.trans (k.trans (congrArg Prod.fst e2).symm)
/-! rows -/
theorem fJ_L {n : Nat} : ∀ (f k : Nat) (g : GG), 512 - k < f → k ≤ 512 → (∀ j, j < k → g 69 j = 0) → ∃ g2, Fx_fillJ_69X_L6 0 f (iN k) g = g2 ∧ (∀ j, j < 512 → g2 69 j = 0) ∧ ∀ a, a ≠ 69 → g2 a = g a := by
  intro f
  induction f with
  | zero => intro k g h1; omega
  | succ f ih =>
    intro k g h1 h2 h3
    rw [Fx_fillJ_69X_L6_s]
    by_cases q : 512 ≤ k
    · rw [if_pos (show (512 : Int32) ≤ iN k from (iN_le (a := 512) (by omega) (by omega)).mpr q)]
      exact ⟨g, rfl, fun j hj => h3 j (by omega), fun _ _ => rfl⟩
    · rw [if_neg (show ¬ (512 : Int32) ≤ iN k from fun z => q ((iN_le (a := 512) (by omega) (by omega)).mp z)), xqb, iN_cl (by omega), iN_s]
      obtain ⟨g2, k1, k2, k3⟩ := ih (k + 1) (ml g 69 k 0) (by omega) (by omega) (fun j hj => by
        by_cases y : j = k
        · rw [y, ml_e]
        · rw [zl_i y]; exact h3 j (by omega))
      exact ⟨g2, k1, k2, fun a ha => (k3 a ha).trans (zl_c ha)⟩
theorem ok_69 {x : MM} {g g2 : GG} {n m : Nat} {A : Nat → Nat → Int32} {sr cr ch : Nat → Int32} {mg : Int32} (h : OK x g n m A sr cr mg ch) (e : g2 68 = g 68) : OK x g2 n m A sr cr mg ch := by
  obtain ⟨n9, m4, ha, h1, h2, h3, h4, h5⟩ := h
  exact ⟨n9, m4, ha, h1, h2, h3, h4, by rw [e]; exact h5⟩
/-- what came together, on both sides -/
def TG (gc gr : GG) (n : Nat) : Prop := ∀ j, j < 2 ^ n → gc 69 j = gr 176 j
theorem ro_I {x u5 y0 : MM} {n m r : Nat} {A : Nat → Nat → Int32} {sr cr ch : Nat → Int32} {mg : Int32} {ihc : Int32 → GG → Int32 × GG} {ihr : Int32 → MM → GG → Int64 × MM × GG} (h22 : u5 162 22 = iN n) (su : SUP n mg ch) (hch : ∀ p, p < n → ch p = A p 4) (hr : r < m) (h0 : RR y0 n m A sr cr) : ∀ (f b : Nat) (gc gr : GG) (y1 : MM), 2 ^ n - b < f → b ≤ 2 ^ n → OK x gc n m A sr cr mg ch → FRM y1 y0 → TG gc gr n → ∃ gc' gr' y', Fx_O_likeliestX_L23 ihc x (iN r) f (iN b) gc = ihc (iN (r + 1)) gc' ∧ Fx_M_rowsX_L63 ihr u5 (iN r) f (iN b) y1 gr = ihr (iN (r + 1)) y' gr' ∧ OK x gc' n m A sr cr mg ch ∧ FRM y' y0 ∧ TG gc' gr' n := by
  have n9 := h0.1
  have p2 := p2_le n9
  have pp := Nat.two_pow_pos n
  intro f
  induction f with
  | zero => intro b gc gr y1 h1; omega
  | succ f ihf =>
    intro b gc gr y1 h1 h2 ok fr tg
    have h := rr_c h0 fr
    rw [Fx_O_likeliestX_L23_s, Fx_M_rowsX_L63_s, all_X ok.2.2.1.1 n9, xqb, h22, (all_e n (by omega)).2.1]
    by_cases q : 2 ^ n ≤ b
    · rw [if_pos ((iN_lt (by omega) (by omega)).mpr (by omega)), if_pos ((iN_le (by omega) (by omega)).mpr q), iN_s]
      exact ⟨gc, gr, y1, rfl, rfl, ok, fr, tg⟩
    · have hb : b < 2 ^ n := by omega
      have ew : wB ch b n = wB (fun p => A p 4) b n := wB_c (ch2 := fun p => A p 4) (b2 := b) n (fun q hq => ⟨hch q hq, rfl⟩)
      rw [if_neg (fun z => by have := (iN_lt (by omega) (by omega)).mp z; omega), if_neg (fun z => q ((iN_le (by omega) (by omega)).mp z)), xqb (x := Fx_O_partsX (iN r) (iN b) x gc), par_X ok hr hb, xqb (x := Fx_M_partsOfX (iN r) (iN b) y1 gr), pr_X h hr hb, ew]
      unfold Fx_O_likeliestX_J65 Fx_M_rowsX_J117
      rw [iN_s]
      by_cases z : lg_cmp (wB (fun p => A p 4) b n * (cr r).toInt64) (0 : Int64) ≤ 0
      · rw [if_pos z, if_pos z]
        exact ihf (b + 1) gc gr y1 (by omega) (by omega) ok fr tg
      · have hg := sup_p su hb (show ¬ lg_cmp (wB ch b n * (cr r).toInt64) (0 : Int64) ≤ 0 by rw [ew]; exact z)
        obtain ⟨w, hw, e⟩ := (st_sb (A := A) (n := n) (st := sr r) (bk := iN b) (kp := -1) n n9).1
        obtain ⟨y3, s1, s2, s3⟩ := sto_X (g := gr) (bk := iN b) h hr
        have s31 : y3 162 31 = iN w := s2.1.trans e
        rw [if_neg z, if_neg z, xqb (x := Fx_O_wentByX (iN r) (iN b) x gc), wen_X ok hr hb hg, e, xqb (x := gc 69 (iN w).toNatClampNeg), xqb (x := wB (fun p => A p 4) b n * (cr r).toInt64), xqb (x := gc 69 (iN w).toNatClampNeg + wB (fun p => A p 4) b n * (cr r).toInt64), xqb (x := ml gc 69 (iN w).toNatClampNeg (gc 69 (iN w).toNatClampNeg + wB (fun p => A p 4) b n * (cr r).toInt64)), xqb (x := Fx_M_stepsOfX (iN r) y1 gr), s1, xqb (x := y3), s31, xqb (x := gr 176 (iN w).toNatClampNeg), xqb (x := gr 176 (iN w).toNatClampNeg + wB (fun p => A p 4) b n * (cr r).toInt64), xqb (x := ml gr 176 (iN w).toNatClampNeg (gr 176 (iN w).toNatClampNeg + wB (fun p => A p 4) b n * (cr r).toInt64)), iN_cl (by omega), tg w hw]
        exact ihf (b + 1) _ _ y3 (by omega) (by omega) (ok_69 ok (zl_c (by decide))) (frm_t s3 fr) (fun j hj => by
          by_cases y : j = w
          · rw [y, ml_e, ml_e]
          · rw [zl_i y, zl_i y]; exact tg j hj)
theorem ro_A {x u5 y1 : MM} {parts : Int32} {n m : Nat} {gc gr : GG} (ha : x 61 0 = iN n) (n9 : n ≤ 9) (h22 : u5 162 22 = iN n) (tg : TG gc gr n) : ∀ (f s k : Nat), 2 ^ n - s < f → s ≤ 2 ^ n → k < 2 ^ n → (if parts = 0 then (Fx_O_likeliestX_L81 x gc f (iN k) (iN s)).1.toInt64 else gc 69 (Fx_O_likeliestX_L81 x gc f (iN k) (iN s)).1.toNatClampNeg) = (Fx_M_rowsX_L135 parts u5 y1 gr f (iN k) (iN s)).1 ∧ (Fx_O_likeliestX_L81 x gc f (iN k) (iN s)).2 = gc := by
  have p2 := p2_le n9
  intro f
  induction f with
  | zero => intro s k h1; omega
  | succ f ih =>
    intro s k h1 h2 hk
    by_cases q : 2 ^ n ≤ s
    · have c1 : Fx_O_likeliestX_L81 x gc (f + 1) (iN k) (iN s) = (iN k, gc) := by
        rw [Fx_O_likeliestX_L81_s, all_X ha n9, xqb, if_pos ((iN_lt (by omega) (by omega)).mpr (by omega))]
      have r1 : Fx_M_rowsX_L135 parts u5 y1 gr (f + 1) (iN k) (iN s) = if parts = 0 then ((iN k).toInt64, y1, gr) else (gr 176 (iN k).toNatClampNeg, y1, gr) := by
        rw [Fx_M_rowsX_L135_s, h22, (all_e n (by omega)).2.1, if_pos ((iN_le (by omega) (by omega)).mpr q), xqb, xqb]
      rw [c1, r1]
      refine ⟨?_, rfl⟩
      by_cases p : parts = 0
      · rw [if_pos p, if_pos p]
      · rw [if_neg p, if_neg p]
        show gc 69 (iN k).toNatClampNeg = gr 176 (iN k).toNatClampNeg
        rw [iN_cl (by omega)]
        exact tg k hk
    · have hs : s < 2 ^ n := by omega
      have c1 : Fx_O_likeliestX_L81 x gc (f + 1) (iN k) (iN s) = if lg_cmp (gr 176 s) (gr 176 k) ≤ 0 then Fx_O_likeliestX_L81 x gc f (iN k) (iN (s + 1)) else Fx_O_likeliestX_L81 x gc f (iN s) (iN (s + 1)) := by
        rw [Fx_O_likeliestX_L81_s, all_X ha n9, xqb, if_neg (fun z => by have := (iN_lt (by omega) (by omega)).mp z; omega), xqb, xqb, iN_cl (n := s) (by omega), iN_cl (n := k) (by omega), tg s hs, tg k hk]
        unfold Fx_O_likeliestX_J110
        rw [iN_s]
      have r1 : Fx_M_rowsX_L135 parts u5 y1 gr (f + 1) (iN k) (iN s) = if lg_cmp (gr 176 s) (gr 176 k) ≤ 0 then Fx_M_rowsX_L135 parts u5 y1 gr f (iN k) (iN (s + 1)) else Fx_M_rowsX_L135 parts u5 y1 gr f (iN s) (iN (s + 1)) := by
        rw [Fx_M_rowsX_L135_s, h22, (all_e n (by omega)).2.1, if_neg (fun z => q ((iN_le (by omega) (by omega)).mp z)), xqb, xqb, iN_cl (n := s) (by omega), iN_cl (n := k) (by omega)]
        unfold Fx_M_rowsX_J171
        rw [iN_s]
      rw [c1, r1]
      by_cases w : lg_cmp (gr 176 s) (gr 176 k) ≤ 0
      · rw [if_pos w, if_pos w]
        exact ih (s + 1) k (by omega) (by omega) hk
      · rw [if_neg w, if_neg w]
        exact ih (s + 1) s (by omega) (by omega) hs
theorem ro_L {x u5 : MM} {parts : Int32} {n m : Nat} {A : Nat → Nat → Int32} {sr cr ch : Nat → Int32} {mg : Int32} (su : SUP n mg ch) (hch : ∀ p, p < n → ch p = A p 4) (h0 : RR u5 n m A sr cr) : ∀ (f r : Nat) (gc gr : GG) (y1 : MM), m - r < f → r ≤ m → OK x gc n m A sr cr mg ch → FRM y1 u5 → TG gc gr n → (if parts = 0 then (Fx_O_likeliestX_L10 x f (iN r) gc).1.toInt64 else (Fx_O_likeliestX_L10 x f (iN r) gc).2 69 (Fx_O_likeliestX_L10 x f (iN r) gc).1.toNatClampNeg) = (Fx_M_rowsX_L49 parts u5 f (iN r) y1 gr).1 := by
  have n9 := h0.1
  have m4 := h0.2.1
  have pp := Nat.two_pow_pos n
  have p2 := p2_le n9
  intro f
  induction f with
  | zero => intro r gc gr y1 h1; omega
  | succ f ihf =>
    intro r gc gr y1 h1 h2 ok fr tg
    rw [Fx_O_likeliestX_L10_s, Fx_M_rowsX_L49_s, ok.2.2.2.1, h0.2.2.2.2.2.2.1]
    by_cases q : m ≤ r
    · have e512 : (512 - (1 : Int32).toInt).toNat + 1 = 512 := by decide
      rw [if_pos ((iN_le (by omega) (by omega)).mpr q), if_pos ((iN_le (by omega) (by omega)).mpr q), e512]
      obtain ⟨k1, k2⟩ := ro_A (y1 := y1) (parts := parts) (m := m) ok.2.2.1.1 n9 h0.2.2.1.1 tg 512 1 0 (by omega) (by omega) (by omega)
      have k2' : (Fx_O_likeliestX_L81 x gc 512 0 1).2 = gc := k2
      rw [k2']
      exact k1
    · have e513 : (512 - (0 : Int32).toInt).toNat + 1 = 513 := by decide
      rw [if_neg (fun z => q ((iN_le (by omega) (by omega)).mp z)), if_neg (fun z => q ((iN_le (by omega) (by omega)).mp z)), e513]
      obtain ⟨gc', gr', y', k1, k2, k3, k4, k5⟩ := ro_I (ihc := Fx_O_likeliestX_L10 x f) (ihr := Fx_M_rowsX_L49 parts u5 f) h0.2.2.1.1 su hch (show r < m by omega) h0 513 0 gc gr y1 (by omega) (Nat.zero_le _) ok fr tg
      have k1' : Fx_O_likeliestX_L23 (Fx_O_likeliestX_L10 x f) x (iN r) 513 0 gc = Fx_O_likeliestX_L10 x f (iN (r + 1)) gc' := k1
      have k2' : Fx_M_rowsX_L63 (Fx_M_rowsX_L49 parts u5 f) u5 (iN r) 513 0 y1 gr = Fx_M_rowsX_L49 parts u5 f (iN (r + 1)) y' gr' := k2
      rw [k1', k2']
      exact ihf (r + 1) gc' gr' y' (by omega) (by omega) k3 k4 k5
theorem rz_L {u5 : MM} {parts : Int32} {n : Nat} (h22 : u5 162 22 = iN n) (n9 : n ≤ 9) : ∀ (f k : Nat) (g : GG), 2 ^ n - k < f → k ≤ 2 ^ n → (∀ j, j < k → g 176 j = 0) → ∃ g2, Fx_M_rowsX_L21 parts u5 f (iN k) g = Fx_M_rowsX_L49 parts u5 5 0 u5 g2 ∧ ∀ j, j < 2 ^ n → g2 176 j = 0 := by
  have p2 := p2_le n9
  intro f
  induction f with
  | zero => intro k g h1; omega
  | succ f ih =>
    intro k g h1 h2 h3
    rw [Fx_M_rowsX_L21_s, h22, (all_e n (by omega)).2.1]
    by_cases q : 2 ^ n ≤ k
    · have e5 : (4 - (0 : Int32).toInt).toNat + 1 = 5 := by decide
      rw [if_pos ((iN_le (by omega) (by omega)).mpr q), e5]
      exact ⟨g, rfl, fun j hj => h3 j (by omega)⟩
    · rw [if_neg (fun z => q ((iN_le (by omega) (by omega)).mp z)), xqb, iN_cl (by omega), iN_s]
      exact ih (k + 1) (ml g 176 k 0) (by omega) (by omega) (fun j hj => by
        by_cases y : j = k
        · rw [y, ml_e]
        · rw [zl_i y]; exact h3 j (by omega))
theorem R5_rows {u v u1 v2 : MM} {g g' g1 g3 : GG} {hill plan parts : Int32} {z w : Int64} (h : RLY u v) (b5 : Bd 0 2 (u 1 5)) (b7 : Bd 0 3 (u 1 7)) (hd : HD v) (pl : PL v) (e1 : (z, u1, g1) = Fx_P_rowsX hill plan parts u g) (e2 : (w, v2, g3) = Fx_M_rowsX hill plan parts v g') : z = w := by
  obtain ⟨b, x, y, p1, p2, p3⟩ := lay_Y (g := g) (g' := g') (hill := hill) (plan := plan) h b5 b7 hd pl
  unfold Fx_P_rowsX at e1
  unfold Fx_M_rowsX at e2
  rw [xqb, p2, c2_mk] at e2
  cases b
  · rw [looks_F p1, c3_mk, if_neg Bool.false_ne_true] at e1
    rw [if_neg Bool.false_ne_true] at e2
    exact (congrArg Prod.fst e1).trans (congrArg Prod.fst e2).symm
  obtain ⟨n, m, L⟩ := p3 rfl
  obtain ⟨x', g2, k1, K, k3⟩ := looks_T (g := g) p1 L
  rw [k1, c3_mk, if_pos rfl] at e1
  rw [if_pos rfl] at e2
  have n9 := L.1
  have m4 := L.2.2.1
  have rr := rr_L L
  have p2' := p2_le n9
  have e5 : (4 - (0 : Int32).toInt).toNat + 1 = 5 := by decide
  have e513 : (512 - (0 : Int32).toInt).toNat + 1 = 513 := by decide
  obtain ⟨gc, f1, f2, f3⟩ := fJ_L (n := n) 513 0 g2 (by omega) (by omega) (fun j hj => by omega)
  have f1' : Fx_fillJ_69X 0 x' g2 = gc := f1
  obtain ⟨gr, r1, r2⟩ := rz_L (parts := parts) L.2.2.2.2.1.1 n9 513 0 g' (by omega) (Nat.zero_le _) (fun j hj => by omega)
  have r1' : Fx_M_rowsX_L21 parts y 513 0 g' = Fx_M_rowsX_L49 parts y 5 0 y gr := r1
  have k := ro_L (parts := parts) (sup_m (md := 0) n9 L.2.2.2.2.2.1) (fun p hp => chM_0 (by omega)) rr 5 0 gc gr y (by omega) (by omega) (ok_69 K.1 (f3 68 (by decide))) frm_0 (fun j hj => by rw [f2 j (by omega), r2 j hj])
  unfold Fx_O_likeliestX at e1
  rw [xqb, f1', e5] at e1
  rw [e513, r1'] at e2
  obtain ⟨R, hR⟩ : ∃ R, R = Fx_O_likeliestX_L10 x' 5 (iN 0) gc := ⟨_, rfl⟩
  rw [← hR] at k
  have e3 : (z, u1, g1) = xq_c2 R fun v19 g20 => if parts = 0 then (xq_lt v19.toInt64 fun l24 => (l24, x', g20)) else (xq_lt (g20 69 v19.toNatClampNeg) fun l25 => (l25, x', g20)) := by rw [hR]; exact e1
  have z1 : z = if parts = 0 then R.1.toInt64 else R.2 69 R.1.toNatClampNeg := by
    have e4 : xq_c2 R (fun v19 g20 => if parts = 0 then (xq_lt v19.toInt64 fun l24 => (l24, x', g20)) else (xq_lt (g20 69 v19.toNatClampNeg) fun l25 => (l25, x', g20))) = if parts = 0 then (R.1.toInt64, x', R.2) else (R.2 69 R.1.toNatClampNeg, x', R.2) := rfl
    rw [e4] at e3
    by_cases s : parts = 0
    · rw [if_pos s] at e3 ⊢
      exact congrArg Prod.fst e3
    · rw [if_neg s] at e3 ⊢
      exact congrArg Prod.fst e3
  exact z1.trans (k.trans (congrArg Prod.fst e2).symm)
