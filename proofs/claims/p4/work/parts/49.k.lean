/-! what mending costs; best, spend, steps -/
def cst (A : Nat → Nat → Int32) (d s : Int32) : Nat → Int32
  | 0 => 0
  | p + 1 => cst A d s p + (if inB s p = true then d * A p 4 else 0)
theorem cst_0 {A : Nat → Nat → Int32} {d : Int32} : ∀ p, p ≤ 9 → cst A d 0 p = 0 := by
  intro p
  induction p with
  | zero => intro _; rfl
  | succ p ih =>
    intro h
    show cst A d 0 p + (if inB 0 p = true then d * A p 4 else 0) = 0
    rw [ih (by omega), inB_0 p (by omega), if_neg Bool.false_ne_true]
    rfl
theorem dm_L {x : MM} {g : GG} {n : Nat} {A : Nat → Nat → Int32} {d s : Int32} (h : HA x 44 n A) (n9 : n ≤ 9) (hd : x 48 0 = d) : ∀ (f p : Nat), n - p < f → p ≤ n → Fx_H_daysToMendX_L4 s 44 x g f (cst A d s p) (iN p) = cst A d s n := by
  intro f
  induction f with
  | zero => intro p h1; omega
  | succ f ih =>
    intro p h1 h2
    rw [Fx_H_daysToMendX_L4_s, h.1]
    by_cases q : n ≤ p
    · rw [if_pos ((iN_le (by omega) (by omega)).mpr q), show p = n by omega]
    · have k := ih (p + 1) (by omega) (by omega)
      have e : cst A d s (p + 1) = cst A d s p + (if inB s p = true then d * A p 4 else 0) := rfl
      rw [e] at k
      rw [if_neg (fun z => q ((iN_le (by omega) (by omega)).mp z)), xqb, isI, show hof x 44 (iN p) (4 : Int32) = A p 4 from ha_r (c := 4) h n9 (by omega) (by decide)]
      unfold Fx_H_daysToMendX_J36
      rw [iN_s, show x (44 + 4) 0 = d from hd]
      by_cases w : inB s p = true
      · rw [if_pos w] at k ⊢
        exact k
      · rw [if_neg w, Int32.add_zero] at k
        rw [if_neg w]
        exact k
theorem dm_X {x : MM} {g : GG} {n : Nat} {A : Nat → Nat → Int32} {d s : Int32} (h : HA x 44 n A) (n9 : n ≤ 9) (hd : x 48 0 = d) : Fx_H_daysToMendX s 44 x g = cst A d s n := by
  unfold Fx_H_daysToMendX
  have e10 : (9 - (0 : Int32).toInt).toNat + 1 = 10 := by decide
  rw [e10]
  exact dm_L h n9 hd 10 0 (by omega) (by omega)
theorem co2_L {y : MM} {g : GG} {n m : Nat} {A : Nat → Nat → Int32} {sr cr : Nat → Int32} {d s : Int32} (h : MRD y n m A sr cr) (hd : y 172 2 = d) : ∀ (f p : Nat), n - p < f → p ≤ n → Fx_M_costOfX_L4 s y g f (cst A d s p) (iN p) = cst A d s n := by
  have n9 := h.1.1
  intro f
  induction f with
  | zero => intro p h1; omega
  | succ f ih =>
    intro p h1 h2
    rw [Fx_M_costOfX_L4_s, h.1.2.2.1.1]
    by_cases q : n ≤ p
    · rw [if_pos ((iN_le (by omega) (by omega)).mpr q), show p = n by omega]
    · have k := ih (p + 1) (by omega) (by omega)
      have e : cst A d s (p + 1) = cst A d s p + (if inB s p = true then d * A p 4 else 0) := rfl
      rw [e] at k
      rw [if_neg (fun z => q ((iN_le (by omega) (by omega)).mp z)), xqb, hasI]
      unfold Fx_M_costOfX_J38
      rw [iN_s, hd]
      by_cases w : inB s p = true
      · rw [if_pos w] at k ⊢
        rw [xqb, iN_cl (by omega), h.2 p (by omega), Int32.mul_comm (A p 4)]
        exact k
      · rw [if_neg w] at k ⊢
        exact k
theorem co2_X {y : MM} {g : GG} {n m : Nat} {A : Nat → Nat → Int32} {sr cr : Nat → Int32} {d s : Int32} (h : MRD y n m A sr cr) (hd : y 172 2 = d) : Fx_M_costOfX s y g = cst A d s n := by
  unfold Fx_M_costOfX
  have n9 := h.1.1
  have e10 : (9 - (0 : Int32).toInt).toNat + 1 = 10 := by decide
  rw [e10]
  exact co2_L h hd 10 0 (by omega) (by omega)
/-- the mean with some mended -/
noncomputable def MDN (A : Nat → Nat → Int32) (n m : Nat) (sr cr : Nat → Int32) (s : Int32) : Int64 := fR (mnF A n sr cr (fun p => if inB s p = true then 0 else A p 4) (fun w => hro A (-1) w n)) (2 ^ n) m 0
theorem MDN_0 {A : Nat → Nat → Int32} {n m : Nat} {sr cr : Nat → Int32} (n9 : n ≤ 9) : MDN A n m sr cr 0 = MN A n m sr cr := by
  refine mn_eq n9 (fun p hp => ?_) (fun _ _ => rfl)
  rw [inB_0 p (by omega), if_neg Bool.false_ne_true]
theorem cmm_X {x : MM} {g : GG} {n m : Nat} {A : Nat → Nat → Int32} {sr cr ch : Nat → Int32} {s : Int32} (ok : OK x g n m A sr cr (iN (bset (wkF A) n)) ch) (aw : AWF n A) : ∃ g2, Fx_C_meanMendedX s x g = (MDN A n m sr cr s, g2) ∧ OK x g2 n m A sr cr (iN (bset (wkF A) n)) (chM A s 0) ∧ ∀ a, a ≠ 68 → g2 a = g a := by
  unfold Fx_C_meanMendedX
  have n9 := ok.1
  obtain ⟨g2, q1, q2, q3⟩ := ok_w (md := s) (wk := 0) ok
  refine ⟨g2, ?_, q2, q3⟩
  rw [xqb, q1, xqb, all_X q2.2.2.1.1 n9, xqb, cmn_eq (y := x) (g' := g) (o := -1) (ch2 := fun p => if inB s p = true then 0 else A p 4) q2 (sup_m n9 aw) (c := 2 ^ n - 1) (by have := Nat.two_pow_pos n; omega) (fun p hp => chM_m (by omega)) cnt_all]
  rfl
theorem mmm_X {y : MM} {g : GG} {n m : Nat} {A : Nat → Nat → Int32} {sr cr : Nat → Int32} {s d : Int32} (h : MRD y n m A sr cr) (hd : y 172 2 = d) : ∃ y2, Fx_M_meanMendedNX s (-1) y g = (MDN A n m sr cr s, y2) ∧ MRD y2 n m A sr cr ∧ y2 172 2 = d := by
  obtain ⟨y2, k1, k2, k3⟩ := mm_X (g := g) (md := s) (o := -1) h
  exact ⟨y2, k1, k2, (k3.2.2 2 (by decide)).trans hd⟩
/-- members of a set -/
def pcn (k : Nat) : Nat → Nat
  | 0 => 0
  | p + 1 => pcn k p + (if k.testBit p = true then 1 else 0)
theorem pcn_o : ∀ k, k < 512 → onesN (iN k) 9 = iN (pcn k 9) ∧ pcn k 9 ≤ 9 := by decide +kernel
theorem cm_Y {u v : MM} {g g' : GG} {hill plan ponds : Int32} (h : RLY u v) (b5 : Bd 0 2 (u 1 5)) (b7 : Bd 0 3 (u 1 7)) (hd : HD v) (pl : PL v) : ∃ b x y, (∀ limit most, Fx_P_canMendX hill plan ponds limit most u g = if b = true then (if limit < 0 then (false, x) else if most < limit then (false, x) else (true, x)) else (false, x)) ∧ (∀ left, Fx_M_canMendX hill plan ponds left (ms v 162 0 0) g' = if b = true then (if (decide (0 ≤ left) && decide (left ≤ 9999)) = true then (true, Fx_M_keepChancesX y g') else (false, y)) else (false, y)) ∧ (b = true → ∃ n m k, LDF x y n m ∧ k < 2 ^ n ∧ ponds = iN k ∧ pcn k 9 ≤ 5) := by
  obtain ⟨b, x, y, p1, p2, p3⟩ := lay_Y (g := g) (g' := g') (hill := hill) (plan := plan) h b5 b7 hd pl
  cases b
  · refine ⟨false, x, y, fun limit most => ?_, fun left => ?_, fun z => absurd z Bool.false_ne_true⟩
    · unfold Fx_P_canMendX
      rw [p1, c2_mk, if_neg Bool.false_ne_true, if_neg Bool.false_ne_true]
    · unfold Fx_M_canMendX
      rw [p2, c2_mk, if_neg Bool.false_ne_true, if_neg Bool.false_ne_true]
  obtain ⟨n, m, L⟩ := p3 rfl
  have p2' := p2_le L.1
  obtain ⟨s, s1, s2, s3⟩ := q_set (g := g) (g' := g') (s := ponds) L
  cases s
  · refine ⟨false, x, y, fun limit most => ?_, fun left => ?_, fun z => absurd z Bool.false_ne_true⟩
    · unfold Fx_P_canMendX
      rw [p1, c2_mk, if_pos rfl, xqb, s1, if_neg Bool.false_ne_true, if_neg Bool.false_ne_true]
    · unfold Fx_M_canMendX
      rw [p2, c2_mk, if_pos rfl, xqb, s2, if_neg Bool.false_ne_true, if_neg Bool.false_ne_true]
  obtain ⟨k, k1, k2⟩ := s3 rfl
  obtain ⟨o1, o2⟩ := pcn_o k (by omega)
  have hl : (5 : Int32) < iN (pcn k 9) ↔ 5 < pcn k 9 := iN_lt (a := 5) (by omega) (by omega)
  by_cases c : 5 < pcn k 9
  · refine ⟨false, x, y, fun limit most => ?_, fun left => ?_, fun z => absurd z Bool.false_ne_true⟩
    · unfold Fx_P_canMendX
      rw [p1, c2_mk, if_pos rfl, xqb, s1, if_pos rfl, xqb, k2, bc_e (v := x) k (by omega), o1, if_pos (hl.mpr c), if_neg Bool.false_ne_true]
    · unfold Fx_M_canMendX
      rw [p2, c2_mk, if_pos rfl, xqb, s2, if_pos rfl, k2, o1, if_pos (hl.mpr c), if_neg Bool.false_ne_true]
  · refine ⟨true, x, y, fun limit most => ?_, fun left => ?_, fun _ => ⟨n, m, k, L, k1, k2, by omega⟩⟩
    · unfold Fx_P_canMendX
      rw [p1, c2_mk, if_pos rfl, xqb, s1, if_pos rfl, xqb, k2, bc_e (v := x) k (by omega), o1, if_neg (fun z => c (hl.mp z)), if_pos rfl]
    · unfold Fx_M_canMendX
      rw [p2, c2_mk, if_pos rfl, xqb, s2, if_pos rfl, k2, o1, if_neg (fun z => c (hl.mp z)), if_pos rfl, xqb, in_X, xqb]
theorem lim_T {limit most : Int32} (h : 0 ≤ limit ∧ limit ≤ most) : ¬ limit < 0 ∧ ¬ most < limit := ⟨Int32.not_lt.mpr h.1, Int32.not_lt.mpr h.2⟩
/-- what was laid, both sides ready to mend -/
theorem md_R {x y : MM} {g g' : GG} {n m : Nat} (L : LDF x y n m) : ∃ y2, Fx_M_keepChancesX y g' = y2 ∧ MRD y2 n m (rwA y) (sR y) (cR y) ∧ y2 172 2 = y 172 2 := by
  obtain ⟨y2, r1, r2, r3⟩ := kc_X (g := g') (rr_L L)
  exact ⟨y2, r1, r2, by rw [r3 172 (by decide)]⟩
/-! best -/
theorem be_L {x6 : MM} {g' : GG} {n m P : Nat} {A : Nat → Nat → Int32} {sr cr : Nat → Int32} {days d : Int32} (ha : HA x6 44 n A) (hx : x6 48 0 = d) (n9 : n ≤ 9) (aw : AWF n A) (hP : P < 512) : ∀ (f s : Nat) (g : GG) (y1 : MM) (k : Nat) (least : Int64) (ch : Nat → Int32), P + 1 - s < f → s ≤ P + 1 → k < 512 → OK x6 g n m A sr cr (iN (bset (wkF A) n)) ch → g 56 4 = least → MRD y1 n m A sr cr → y1 172 2 = d → (Fx_C_bestSetX_L28 (iN P) days x6 f (iN k) (iN s) g).1 = (Fx_M_bestX_L28 (iN P) days g' f (iN k) least (iN s) y1).1 := by
  intro f
  induction f with
  | zero => intro s g y1 k least ch h1; omega
  | succ f ih =>
    intro s g y1 k least ch h1 h2 hk ok hg mr hd
    rw [Fx_C_bestSetX_L28_s, Fx_M_bestX_L28_s]
    by_cases q : P + 1 ≤ s
    · rw [if_pos ((iN_lt (by omega) (by omega)).mpr (by omega)), if_pos ((iN_lt (by omega) (by omega)).mpr (by omega))]
    · rw [if_neg (fun z => by have := (iN_lt (by omega) (by omega)).mp z; omega), if_neg (fun z => by have := (iN_lt (by omega) (by omega)).mp z; omega), xqb, dm_X ha n9 hx]
      unfold Fx_C_bestSetX_J106 Fx_M_bestX_J111
      rw [iN_s]
      by_cases w : iN s &&& (iN P ^^^ (-1)) = 0
      · rw [if_pos w, if_pos w, xqb, co2_X mr hd]
        by_cases c : days < cst A d (iN s) n
        · rw [if_pos c, if_neg (Int32.not_le.mpr c)]
          exact ih (s + 1) g y1 k least ch (by omega) (by omega) hk ok hg mr hd
        · obtain ⟨g2, q1, q2, q3⟩ := cmm_X (s := iN s) ok aw
          obtain ⟨y2, r1, r2, r3⟩ := mmm_X (g := g') (s := iN s) mr hd
          have nk : ¬ iN k = -1 := fun z => by
            have z1 := congrArg Int32.toInt z
            rw [iN_ti (by omega)] at z1
            have : (-1 : Int32).toInt = -1 := rfl
            omega
          have hg2 : g2 56 4 = least := by rw [q3 56 (by decide)]; exact hg
          rw [if_neg c, if_pos (Int32.not_lt.mp c), q1, c2_mk, r1, c2_mk, if_neg nk, xqb, hg2]
          by_cases l1 : lg_cmp (MDN A n m sr cr (iN s)) least < 0
          · rw [if_pos l1, if_pos l1, xqb]
            exact ih (s + 1) _ y2 s _ _ (by omega) (by omega) (by omega) (ok_69 q2 (zl_c (by decide))) ml_e r2 r3
          · rw [if_neg l1, if_neg l1, xqb]
            by_cases l2 : lg_cmp (MDN A n m sr cr (iN s)) least = 0
            · rw [if_pos l2, if_pos l2, xqb (x := Fx_H_daysToMendX (iN k) 44 x6 g2), dm_X ha n9 hx, xqb (x := Fx_M_costOfX (iN s) y2 g'), xqb (x := Fx_M_costOfX (iN k) y2 g'), co2_X (s := iN s) r2 r3, co2_X (s := iN k) r2 r3]
              by_cases l3 : cst A d (iN k) n ≤ cst A d (iN s) n
              · rw [if_pos l3, if_pos l3]
                exact ih (s + 1) g2 y2 k least _ (by omega) (by omega) hk q2 hg2 r2 r3
              · rw [if_neg l3, if_neg l3, xqb]
                exact ih (s + 1) _ y2 s _ _ (by omega) (by omega) (by omega) (ok_69 q2 (zl_c (by decide))) ml_e r2 r3
            · rw [if_neg l2, if_neg l2]
              exact ih (s + 1) g2 y2 k least _ (by omega) (by omega) hk q2 hg2 r2 r3
      · rw [if_neg w, if_neg w]
        exact ih (s + 1) g y1 k least ch (by omega) (by omega) hk ok hg mr hd
/-- the class looks at what is laid, ready to mend -/
theorem lo_M {x y : MM} {g : GG} {n m : Nat} (L : LDF x y n m) : ∃ x6 g7, Fx_O_look_44X (-1) (Fx_H_weakX 44 x g) x g = (x6, g7) ∧ OK x6 g7 n m (rwA y) (sR y) (cR y) (iN (bset (wkF (rwA y)) n)) (chM (rwA y) 0 0) ∧ HA x6 44 n (rwA y) ∧ x6 48 0 = y 172 2 := by
  have n9 := L.1
  rw [wk_X L.2.2.2.1 n9]
  obtain ⟨x', g1, k1, k2, k3, k4⟩ := lk44_X (g := g) (mg := iN (bset (wkF (rwA y)) n)) (sr := sR y) (cr := cR y) L.2.2.2.1 n9 L.2.2.1 (rns_L L).1 (rns_L L).2
  exact ⟨x', g1, k1, k2, ha_c L.2.2.2.1 (k3 44 (by decide)) (k3 45 (by decide)), by rw [k3 48 (by decide)]; exact (L.2.2.2.2.2.2.2.2.2.1 0 (by decide)).1⟩
theorem R5_best {u v u1 v2 : MM} {g g' g1 : GG} {hill plan ponds days z w : Int32} (h : RLY u v) (b5 : Bd 0 2 (u 1 5)) (b7 : Bd 0 3 (u 1 7)) (hd : HD v) (pl : PL v) (e1 : (z, u1, g1) = Fx_P_bestX hill plan ponds days u g) (e2 : (w, v2) = Fx_M_bestX hill plan ponds days v g') : z = w := by
  obtain ⟨b, x, y, p1, p2, p3⟩ := cm_Y (g := g) (g' := g') (hill := hill) (plan := plan) (ponds := ponds) h b5 b7 hd pl
  unfold Fx_P_bestX at e1
  unfold Fx_M_bestX at e2
  rw [p1] at e1
  rw [xqb, p2] at e2
  cases b
  · rw [if_neg Bool.false_ne_true, c2_mk, if_neg Bool.false_ne_true] at e1 e2
    exact (congrArg Prod.fst e1).trans (congrArg Prod.fst e2).symm
  rw [if_pos rfl] at e1 e2
  by_cases hl : 0 ≤ days ∧ days ≤ 9999
  rotate_left
  · have ef : ¬ (decide (0 ≤ days) && decide (days ≤ 9999)) = true := fun z => by
      obtain ⟨z1, z2⟩ := (Bool.and_eq_true _ _).mp z
      exact hl ⟨of_decide_eq_true z1, of_decide_eq_true z2⟩
    rw [if_neg ef, c2_mk, if_neg Bool.false_ne_true] at e2
    by_cases l1 : days < 0
    · rw [if_pos l1, c2_mk, if_neg Bool.false_ne_true] at e1
      exact (congrArg Prod.fst e1).trans (congrArg Prod.fst e2).symm
    · have l2 : (9999 : Int32) < days := Int32.not_le.mp (fun z => hl ⟨Int32.not_lt.mp l1, z⟩)
      rw [if_neg l1, if_pos l2, c2_mk, if_neg Bool.false_ne_true] at e1
      exact (congrArg Prod.fst e1).trans (congrArg Prod.fst e2).symm
  obtain ⟨n, m, P, L, hP, eP, h5⟩ := p3 rfl
  obtain ⟨t1, t2⟩ := lim_T hl
  rw [if_neg t1, if_neg t2, c2_mk, if_pos rfl] at e1
  rw [decide_eq_true hl.1, decide_eq_true hl.2, if_pos (show (true && true) = true from rfl), c2_mk, if_pos rfl] at e2
  have n9 := L.1
  have m4 := L.2.2.1
  have pn := p2_le n9
  have aw := L.2.2.2.2.2.1
  obtain ⟨x6, g7, k1, k2, k3, k4⟩ := lo_M (g := g) L
  obtain ⟨y2, r1, r2, r3⟩ := md_R (g := g) (g' := g') L
  obtain ⟨g8, q1, q2, q3⟩ := cmm_X (s := 0) k2 aw
  obtain ⟨y3, m1, m2, m3⟩ := mmm_X (g := g') (s := iN 0) r2 r3
  have e512 : (512 - (1 : Int32).toInt).toNat + 1 = 512 := by decide
  have e513 : (512 - (0 : Int32).toInt).toNat + 1 = 513 := by decide
  unfold Fx_C_bestSetX at e1
  rw [xqb, k1, c2_mk, q1, c2_mk, xqb, e512, eP] at e1
  rw [r1, e513, eP] at e2
  have k := be_L (g' := g') (days := days) k3 k4 n9 aw (show P < 512 by omega) 512 1 (ml g8 56 4 (MDN (rwA y) n m (sR y) (cR y) 0)) y3 0 _ _ (by omega) (by omega) (by omega) (ok_69 q2 (zl_c (by decide))) ml_e m2 m3
  have first : Fx_M_bestX_L28 (iN P) days g' 513 (-1) 0 (iN 0) y2 = Fx_M_bestX_L28 (iN P) days g' 512 (iN 0) (MDN (rwA y) n m (sR y) (cR y) 0) (iN 1) y3 := by
    have c0 : Fx_M_costOfX (iN 0) y2 g' = 0 := (co2_X r2 r3).trans (cst_0 n n9)
    rw [Fx_M_bestX_L28_s, if_neg (fun z => by have := (iN_lt (by omega) (by omega)).mp z; omega), if_pos (show iN 0 &&& (iN P ^^^ (-1)) = 0 from Int32.zero_and), xqb, c0, if_pos hl.1, m1, c2_mk, if_pos rfl]
    unfold Fx_M_bestX_J111
    rw [iN_s]
    rfl
  have e2' : (w, v2) = Fx_M_bestX_L28 (iN P) days g' 513 (-1) 0 (iN 0) y2 := e2
  rw [first] at e2'
  have z1 : z = (Fx_C_bestSetX_L28 (iN P) days x6 512 (iN 0) (iN 1) (ml g8 56 4 (MDN (rwA y) n m (sR y) (cR y) 0))).1 := by
    obtain ⟨R, hR⟩ : ∃ R, R = Fx_C_bestSetX_L28 (iN P) days x6 512 (iN 0) (iN 1) (ml g8 56 4 (MDN (rwA y) n m (sR y) (cR y) 0)) := ⟨_, rfl⟩
    have e3 : (z, u1, g1) = xq_c3 R fun v14 u15 g16 => (v14, u15, g16) := by rw [hR]; exact e1
    rw [← hR]
    exact congrArg Prod.fst e3
  exact z1.trans (k.trans (congrArg Prod.fst e2').symm)
/-! spend -/
theorem spd_L {x6 : MM} {g' : GG} {n m P : Nat} {A : Nat → Nat → Int32} {sr cr : Nat → Int32} {d : Int32} {lim : Int64} (ha : HA x6 44 n A) (hx : x6 48 0 = d) (n9 : n ≤ 9) (aw : AWF n A) (hP : P < 512) : ∀ (f s : Nat) (g : GG) (y1 : MM) (few : Int32) (ch : Nat → Int32), P + 1 - s < f → s ≤ P + 1 → OK x6 g n m A sr cr (iN (bset (wkF A) n)) ch → MRD y1 n m A sr cr → y1 172 2 = d → (Fx_C_fewestDaysX_L29 (iN P) x6 lim f few (iN s) g).1 = (Fx_M_spendX_L46 (iN P) g' lim f few (iN s) y1).1 := by
  intro f
  induction f with
  | zero => intro s g y1 few ch h1; omega
  | succ f ih =>
    intro s g y1 few ch h1 h2 ok mr hd
    rw [Fx_C_fewestDaysX_L29_s, Fx_M_spendX_L46_s]
    by_cases q : P + 1 ≤ s
    · rw [if_pos ((iN_lt (by omega) (by omega)).mpr (by omega)), if_pos ((iN_lt (by omega) (by omega)).mpr (by omega))]
    · rw [if_neg (fun z => by have := (iN_lt (by omega) (by omega)).mp z; omega), if_neg (fun z => by have := (iN_lt (by omega) (by omega)).mp z; omega), xqb, dm_X ha n9 hx]
      unfold Fx_C_fewestDaysX_J85 Fx_M_spendX_J103
      rw [iN_s]
      obtain ⟨g2, q1, q2, q3⟩ := cmm_X (s := iN s) ok aw
      obtain ⟨y2, r1, r2, r3⟩ := mmm_X (g := g') (s := iN s) mr hd
      by_cases w : iN s &&& (iN P ^^^ (-1)) = 0
      · rw [if_pos w, if_pos w]
        by_cases c : few = -1
        · rw [if_pos c, if_pos c, q1, c2_mk, xqb, r1, c2_mk, xqb, Int64.mul_comm (100 : Int64)]
          by_cases l : 0 < lg_cmp (MDN A n m sr cr (iN s) * (100 : Int64)) lim
          · rw [if_pos l, if_pos l]
            exact ih (s + 1) g2 y2 few _ (by omega) (by omega) q2 r2 r3
          · rw [if_neg l, if_neg l, xqb, co2_X r2 r3]
            exact ih (s + 1) g2 y2 _ _ (by omega) (by omega) q2 r2 r3
        · rw [if_neg c, if_neg c, xqb, co2_X mr hd]
          by_cases e : few ≤ cst A d (iN s) n
          · rw [if_pos e, if_pos e]
            exact ih (s + 1) g y1 few ch (by omega) (by omega) ok mr hd
          · rw [if_neg e, if_neg e, q1, c2_mk, xqb, r1, c2_mk, xqb, Int64.mul_comm (100 : Int64)]
            by_cases l : 0 < lg_cmp (MDN A n m sr cr (iN s) * (100 : Int64)) lim
            · rw [if_pos l, if_pos l]
              exact ih (s + 1) g2 y2 few _ (by omega) (by omega) q2 r2 r3
            · rw [if_neg l, if_neg l, xqb, co2_X r2 r3]
              exact ih (s + 1) g2 y2 _ _ (by omega) (by omega) q2 r2 r3
      · rw [if_neg w, if_neg w]
        exact ih (s + 1) g y1 few ch (by omega) (by omega) ok mr hd
theorem R5_spend {u v u1 v2 : MM} {g g' g1 : GG} {hill plan ponds mm z w : Int32} (h : RLY u v) (b5 : Bd 0 2 (u 1 5)) (b7 : Bd 0 3 (u 1 7)) (hd : HD v) (pl : PL v) (e1 : (z, u1, g1) = Fx_P_spendX hill plan ponds mm u g) (e2 : (w, v2) = Fx_M_spendX hill plan ponds mm v g') : z = w := by
  obtain ⟨b, x, y, p1, p2, p3⟩ := cm_Y (g := g) (g' := g') (hill := hill) (plan := plan) (ponds := ponds) h b5 b7 hd pl
  unfold Fx_P_spendX at e1
  unfold Fx_M_spendX at e2
  rw [p1] at e1
  rw [xqb, p2] at e2
  cases b
  · rw [if_neg Bool.false_ne_true, c2_mk, if_neg Bool.false_ne_true] at e1 e2
    exact (congrArg Prod.fst e1).trans (congrArg Prod.fst e2).symm
  rw [if_pos rfl] at e1 e2
  rw [if_pos (show (decide ((0 : Int32) ≤ 0) && decide ((0 : Int32) ≤ 9999)) = true by decide), c2_mk, if_pos rfl, xqb, in_X] at e2
  by_cases hl : 0 ≤ mm ∧ mm ≤ 100
  rotate_left
  · have ef : ¬ (decide (0 ≤ mm) && decide (mm ≤ 100)) = true := fun z => by
      obtain ⟨z1, z2⟩ := (Bool.and_eq_true _ _).mp z
      exact hl ⟨of_decide_eq_true z1, of_decide_eq_true z2⟩
    rw [if_neg ef] at e2
    by_cases l1 : mm < 0
    · rw [if_pos l1, c2_mk, if_neg Bool.false_ne_true] at e1
      exact (congrArg Prod.fst e1).trans (congrArg Prod.fst e2).symm
    · have l2 : (100 : Int32) < mm := Int32.not_le.mp (fun z => hl ⟨Int32.not_lt.mp l1, z⟩)
      rw [if_neg l1, if_pos l2, c2_mk, if_neg Bool.false_ne_true] at e1
      exact (congrArg Prod.fst e1).trans (congrArg Prod.fst e2).symm
  obtain ⟨n, m, P, L, hP, eP, h5⟩ := p3 rfl
  obtain ⟨t1, t2⟩ := lim_T hl
  rw [if_neg t1, if_neg t2, c2_mk, if_pos rfl] at e1
  rw [decide_eq_true hl.1, decide_eq_true hl.2, if_pos (show (true && true) = true from rfl)] at e2
  have n9 := L.1
  have m4 := L.2.2.1
  have pn := p2_le n9
  have aw := L.2.2.2.2.2.1
  obtain ⟨x6, g7, k1, k2, k3, k4⟩ := lo_M (g := g) L
  obtain ⟨y2, r1, r2, r3⟩ := md_R (g := g) (g' := g') L
  obtain ⟨g8, q1, q2, q3⟩ := cmm_X (s := 0) k2 aw
  obtain ⟨y3, m1, m2⟩ := mb_N (g := g') r2.1
  have r2' : MRD y3 n m (rwA y) (sR y) (cR y) := ⟨rr_c r2.1 m2, fun p hp => by rw [m2.1 177 (by decide) (by decide) (by decide) (by decide)]; exact r2.2 p hp⟩
  have r3' : y3 172 2 = y 172 2 := by rw [m2.1 172 (by decide) (by decide) (by decide) (by decide)]; exact r3
  have e513 : (512 - (0 : Int32).toInt).toNat + 1 = 513 := by decide
  unfold Fx_C_fewestDaysX at e1
  rw [xqb, k1, c2_mk, q1, c2_mk, xqb, xqb, e513, eP, MDN_0 n9] at e1
  rw [r1, xqb, m1, c2_mk, xqb, e513, eP, Int64.mul_comm mm.toInt64] at e2
  have k := spd_L (g' := g') (lim := MN (rwA y) n m (sR y) (cR y) * mm.toInt64) k3 k4 n9 aw (show P < 512 by omega) 513 0 g8 y3 (-1) _ (by omega) (by omega) q2 r2' r3'
  have z1 : z = (Fx_C_fewestDaysX_L29 (iN P) x6 (MN (rwA y) n m (sR y) (cR y) * mm.toInt64) 513 (-1) (iN 0) g8).1 := by
    obtain ⟨R, hR⟩ : ∃ R, R = Fx_C_fewestDaysX_L29 (iN P) x6 (MN (rwA y) n m (sR y) (cR y) * mm.toInt64) 513 (-1) (iN 0) g8 := ⟨_, rfl⟩
    have e3 : (z, u1, g1) = xq_c3 R fun v14 u15 g16 => (v14, u15, g16) := by rw [hR]; exact e1
    rw [← hR]
    exact congrArg Prod.fst e3
  exact z1.trans (k.trans (congrArg Prod.fst e2).symm)
