/-! around, rows -/
/-! rows -/
theorem fJ_L {n : Nat} : ∀ (f k : Nat) (g : GG), 512 - k < f → k ≤ 512 → (∀ j, j < k → g 69 j = 0) → ∃ g2, Fx_fillJ_69X_L6 0 f (iN k) g = g2 ∧ (∀ j, j < 512 → g2 69 j = 0) ∧ ∀ a, a ≠ 69 → g2 a = g a := by
  intro f
  induction f with
  | zero => intro k g h1; omega
  | succ f ih =>
    intro k g h1 h2 h3
    rw [Fx_fillJ_69X_L6_s]
    by_cases q : 512 ≤ k
    · rw [if_pos (show (512 : Int32) ≤ iN k from (iN_le (a := 512) (by omega) (by omega)).mpr q)]
      exact ⟨g, rfl, fun j hj => h3 j (by omega), fun _ _ => rfl⟩
    · rw [if_neg (show ¬ (512 : Int32) ≤ iN k from fun z => q ((iN_le (a := 512) (by omega) (by omega)).mp z)), xqb, iN_cl (by omega), iN_s]
      obtain ⟨g2, k1, k2, k3⟩ := ih (k + 1) (ml g 69 k 0) (by omega) (by omega) (fun j hj => by
        by_cases y : j = k
        · rw [y, ml_e]
        · rw [zl_i y]; exact h3 j (by omega))
      exact ⟨g2, k1, k2, fun a ha => (k3 a ha).trans (zl_c ha)⟩
theorem ok_69 {x : MM} {g g2 : GG} {n m : Nat} {A : Nat → Nat → Int32} {sr cr ch : Nat → Int32} {mg : Int32} (h : OK x g n m A sr cr mg ch) (e : g2 68 = g 68) : OK x g2 n m A sr cr mg ch := by
  obtain ⟨n9, m4, ha, h1, h2, h3, h4, h5⟩ := h
  exact ⟨n9, m4, ha, h1, h2, h3, h4, by rw [e]; exact h5⟩
/-- what came together, on both sides -/
def TG (gc gr : GG) (n : Nat) : Prop := ∀ j, j < 2 ^ n → gc 69 j = gr 176 j
theorem ro_I {x u5 y0 : MM} {n m r : Nat} {A : Nat → Nat → Int32} {sr cr ch : Nat → Int32} {mg : Int32} {ihc : Int32 → GG → Int32 × GG} {ihr : Int32 → MM → GG → Int64 × MM × GG} (h22 : u5 162 22 = iN n) (su : SUP n mg ch) (hch : ∀ p, p < n → ch p = A p 4) (hr : r < m) (h0 : RR y0 n m A sr cr) : ∀ (f b : Nat) (gc gr : GG) (y1 : MM), 2 ^ n - b < f → b ≤ 2 ^ n → OK x gc n m A sr cr mg ch → FRM y1 y0 → TG gc gr n → ∃ gc' gr' y', Fx_O_likeliestX_L23 ihc x (iN r) f (iN b) gc = ihc (iN (r + 1)) gc' ∧ Fx_M_rowsX_L63 ihr u5 (iN r) f (iN b) y1 gr = ihr (iN (r + 1)) y' gr' ∧ OK x gc' n m A sr cr mg ch ∧ FRM y' y0 ∧ TG gc' gr' n := by
  have n9 := h0.1
  have p2 := p2_le n9
  have pp := Nat.two_pow_pos n
  intro f
  induction f with
  | zero => intro b gc gr y1 h1; omega
  | succ f ihf =>
    intro b gc gr y1 h1 h2 ok fr tg
    have h := rr_c h0 fr
    rw [Fx_O_likeliestX_L23_s, Fx_M_rowsX_L63_s, all_X ok.2.2.1.1 n9, xqb, h22, (all_e n (by omega)).2.1]
    by_cases q : 2 ^ n ≤ b
    · rw [if_pos ((iN_lt (by omega) (by omega)).mpr (by omega)), if_pos ((iN_le (by omega) (by omega)).mpr q), iN_s]
      exact ⟨gc, gr, y1, rfl, rfl, ok, fr, tg⟩
    · have hb : b < 2 ^ n := by omega
      have ew : wB ch b n = wB (fun p => A p 4) b n := wB_c (ch2 := fun p => A p 4) (b2 := b) n (fun q hq => ⟨hch q hq, rfl⟩)
      rw [if_neg (fun z => by have := (iN_lt (by omega) (by omega)).mp z; omega), if_neg (fun z => q ((iN_le (by omega) (by omega)).mp z)), xqb (x := Fx_O_partsX (iN r) (iN b) x gc), par_X ok hr hb, xqb (x := Fx_M_partsOfX (iN r) (iN b) y1 gr), pr_X h hr hb, ew]
      unfold Fx_O_likeliestX_J65 Fx_M_rowsX_J117
      rw [iN_s]
      by_cases z : lg_cmp (wB (fun p => A p 4) b n * (cr r).toInt64) (0 : Int64) ≤ 0
      · rw [if_pos z, if_pos z]
        exact ihf (b + 1) gc gr y1 (by omega) (by omega) ok fr tg
      · have hg := sup_p su hb (show ¬ lg_cmp (wB ch b n * (cr r).toInt64) (0 : Int64) ≤ 0 by rw [ew]; exact z)
        obtain ⟨w, hw, e⟩ := (st_sb (A := A) (n := n) (st := sr r) (bk := iN b) (kp := -1) n n9).1
        obtain ⟨y3, s1, s2, s3⟩ := sto_X (g := gr) (bk := iN b) h hr
        have s31 : y3 162 31 = iN w := s2.1.trans e
        rw [if_neg z, if_neg z, xqb (x := Fx_O_wentByX (iN r) (iN b) x gc), wen_X ok hr hb hg, e, xqb (x := gc 69 (iN w).toNatClampNeg), xqb (x := wB (fun p => A p 4) b n * (cr r).toInt64), xqb (x := gc 69 (iN w).toNatClampNeg + wB (fun p => A p 4) b n * (cr r).toInt64), xqb (x := ml gc 69 (iN w).toNatClampNeg (gc 69 (iN w).toNatClampNeg + wB (fun p => A p 4) b n * (cr r).toInt64)), xqb (x := Fx_M_stepsOfX (iN r) y1 gr), s1, xqb (x := y3), s31, xqb (x := gr 176 (iN w).toNatClampNeg), xqb (x := gr 176 (iN w).toNatClampNeg + wB (fun p => A p 4) b n * (cr r).toInt64), xqb (x := ml gr 176 (iN w).toNatClampNeg (gr 176 (iN w).toNatClampNeg + wB (fun p => A p 4) b n * (cr r).toInt64)), iN_cl (by omega), tg w hw]
        exact ihf (b + 1) _ _ y3 (by omega) (by omega) (ok_69 ok (zl_c (by decide))) (frm_t s3 fr) (fun j hj => by
          by_cases y : j = w
          · rw [y, ml_e, ml_e]
          · rw [zl_i y, zl_i y]; exact tg j hj)
theorem ro_A {x u5 y1 : MM} {parts : Int32} {n m : Nat} {gc gr : GG} (ha : x 61 0 = iN n) (n9 : n ≤ 9) (h22 : u5 162 22 = iN n) (tg : TG gc gr n) : ∀ (f s k : Nat), 2 ^ n - s < f → s ≤ 2 ^ n → k < 2 ^ n → (if parts = 0 then (Fx_O_likeliestX_L81 x gc f (iN k) (iN s)).1.toInt64 else gc 69 (Fx_O_likeliestX_L81 x gc f (iN k) (iN s)).1.toNatClampNeg) = (Fx_M_rowsX_L135 parts u5 y1 gr f (iN k) (iN s)).1 ∧ (Fx_O_likeliestX_L81 x gc f (iN k) (iN s)).2 = gc := by
  have p2 := p2_le n9
  intro f
  induction f with
  | zero => intro s k h1; omega
  | succ f ih =>
    intro s k h1 h2 hk
    by_cases q : 2 ^ n ≤ s
    · have c1 : Fx_O_likeliestX_L81 x gc (f + 1) (iN k) (iN s) = (iN k, gc) := by
        rw [Fx_O_likeliestX_L81_s, all_X ha n9, xqb, if_pos ((iN_lt (by omega) (by omega)).mpr (by omega))]
      have r1 : Fx_M_rowsX_L135 parts u5 y1 gr (f + 1) (iN k) (iN s) = if parts = 0 then ((iN k).toInt64, y1, gr) else (gr 176 (iN k).toNatClampNeg, y1, gr) := by
        rw [Fx_M_rowsX_L135_s, h22, (all_e n (by omega)).2.1, if_pos ((iN_le (by omega) (by omega)).mpr q), xqb, xqb]
      rw [c1, r1]
      refine ⟨?_, rfl⟩
      by_cases p : parts = 0
      · rw [if_pos p, if_pos p]
      · rw [if_neg p, if_neg p]
        show gc 69 (iN k).toNatClampNeg = gr 176 (iN k).toNatClampNeg
        rw [iN_cl (by omega)]
        exact tg k hk
    · have hs : s < 2 ^ n := by omega
      have c1 : Fx_O_likeliestX_L81 x gc (f + 1) (iN k) (iN s) = if lg_cmp (gr 176 s) (gr 176 k) ≤ 0 then Fx_O_likeliestX_L81 x gc f (iN k) (iN (s + 1)) else Fx_O_likeliestX_L81 x gc f (iN s) (iN (s + 1)) := by
        rw [Fx_O_likeliestX_L81_s, all_X ha n9, xqb, if_neg (fun z => by have := (iN_lt (by omega) (by omega)).mp z; omega), xqb, xqb, iN_cl (n := s) (by omega), iN_cl (n := k) (by omega), tg s hs, tg k hk]
        unfold Fx_O_likeliestX_J110
        rw [iN_s]
      have r1 : Fx_M_rowsX_L135 parts u5 y1 gr (f + 1) (iN k) (iN s) = if lg_cmp (gr 176 s) (gr 176 k) ≤ 0 then Fx_M_rowsX_L135 parts u5 y1 gr f (iN k) (iN (s + 1)) else Fx_M_rowsX_L135 parts u5 y1 gr f (iN s) (iN (s + 1)) := by
        rw [Fx_M_rowsX_L135_s, h22, (all_e n (by omega)).2.1, if_neg (fun z => q ((iN_le (by omega) (by omega)).mp z)), xqb, xqb, iN_cl (n := s) (by omega), iN_cl (n := k) (by omega)]
        unfold Fx_M_rowsX_J171
        rw [iN_s]
      rw [c1, r1]
      by_cases w : lg_cmp (gr 176 s) (gr 176 k) ≤ 0
      · rw [if_pos w, if_pos w]
        exact ih (s + 1) k (by omega) (by omega) hk
      · rw [if_neg w, if_neg w]
        exact ih (s + 1) s (by omega) (by omega) hs
theorem ro_L {x u5 : MM} {parts : Int32} {n m : Nat} {A : Nat → Nat → Int32} {sr cr ch : Nat → Int32} {mg : Int32} (su : SUP n mg ch) (hch : ∀ p, p < n → ch p = A p 4) (h0 : RR u5 n m A sr cr) : ∀ (f r : Nat) (gc gr : GG) (y1 : MM), m - r < f → r ≤ m → OK x gc n m A sr cr mg ch → FRM y1 u5 → TG gc gr n → (if parts = 0 then (Fx_O_likeliestX_L10 x f (iN r) gc).1.toInt64 else (Fx_O_likeliestX_L10 x f (iN r) gc).2 69 (Fx_O_likeliestX_L10 x f (iN r) gc).1.toNatClampNeg) = (Fx_M_rowsX_L49 parts u5 f (iN r) y1 gr).1 := by
  have n9 := h0.1
  have m4 := h0.2.1
  have pp := Nat.two_pow_pos n
  have p2 := p2_le n9
  intro f
  induction f with
  | zero => intro r gc gr y1 h1; omega
  | succ f ihf =>
    intro r gc gr y1 h1 h2 ok fr tg
    rw [Fx_O_likeliestX_L10_s, Fx_M_rowsX_L49_s, ok.2.2.2.1, h0.2.2.2.2.2.2.1]
    by_cases q : m ≤ r
    · have e512 : (512 - (1 : Int32).toInt).toNat + 1 = 512 := by decide
      rw [if_pos ((iN_le (by omega) (by omega)).mpr q), if_pos ((iN_le (by omega) (by omega)).mpr q), e512]
      obtain ⟨k1, k2⟩ := ro_A (y1 := y1) (parts := parts) (m := m) ok.2.2.1.1 n9 h0.2.2.1.1 tg 512 1 0 (by omega) (by omega) (by omega)
      have k2' : (Fx_O_likeliestX_L81 x gc 512 0 1).2 = gc := k2
      rw [k2']
      exact k1
    · have e513 : (512 - (0 : Int32).toInt).toNat + 1 = 513 := by decide
      rw [if_neg (fun z => q ((iN_le (by omega) (by omega)).mp z)), if_neg (fun z => q ((iN_le (by omega) (by omega)).mp z)), e513]
      obtain ⟨gc', gr', y', k1, k2, k3, k4, k5⟩ := ro_I (ihc := Fx_O_likeliestX_L10 x f) (ihr := Fx_M_rowsX_L49 parts u5 f) h0.2.2.1.1 su hch (show r < m by omega) h0 513 0 gc gr y1 (by omega) (Nat.zero_le _) ok fr tg
      have k1' : Fx_O_likeliestX_L23 (Fx_O_likeliestX_L10 x f) x (iN r) 513 0 gc = Fx_O_likeliestX_L10 x f (iN (r + 1)) gc' := k1
      have k2' : Fx_M_rowsX_L63 (Fx_M_rowsX_L49 parts u5 f) u5 (iN r) 513 0 y1 gr = Fx_M_rowsX_L49 parts u5 f (iN (r + 1)) y' gr' := k2
      rw [k1', k2']
      exact ihf (r + 1) gc' gr' y' (by omega) (by omega) k3 k4 k5
theorem rz_L {u5 : MM} {parts : Int32} {n : Nat} (h22 : u5 162 22 = iN n) (n9 : n ≤ 9) : ∀ (f k : Nat) (g : GG), 2 ^ n - k < f → k ≤ 2 ^ n → (∀ j, j < k → g 176 j = 0) → ∃ g2, Fx_M_rowsX_L21 parts u5 f (iN k) g = Fx_M_rowsX_L49 parts u5 5 0 u5 g2 ∧ ∀ j, j < 2 ^ n → g2 176 j = 0 := by
  have p2 := p2_le n9
  intro f
  induction f with
  | zero => intro k g h1; omega
  | succ f ih =>
    intro k g h1 h2 h3
    rw [Fx_M_rowsX_L21_s, h22, (all_e n (by omega)).2.1]
    by_cases q : 2 ^ n ≤ k
    · have e5 : (4 - (0 : Int32).toInt).toNat + 1 = 5 := by decide
      rw [if_pos ((iN_le (by omega) (by omega)).mpr q), e5]
      exact ⟨g, rfl, fun j hj => h3 j (by omega)⟩
    · rw [if_neg (fun z => q ((iN_le (by omega) (by omega)).mp z)), xqb, iN_cl (by omega), iN_s]
      exact ih (k + 1) (ml g 176 k 0) (by omega) (by omega) (fun j hj => by
        by_cases y : j = k
        · rw [y, ml_e]
        · rw [zl_i y]; exact h3 j (by omega))
theorem R5_rows {u v u1 v2 : MM} {g g' g1 g3 : GG} {hill plan parts : Int32} {z w : Int64} (h : RLY u v) (b5 : Bd 0 2 (u 1 5)) (b7 : Bd 0 3 (u 1 7)) (hd : HD v) (pl : PL v) (e1 : (z, u1, g1) = Fx_P_rowsX hill plan parts u g) (e2 : (w, v2, g3) = Fx_M_rowsX hill plan parts v g') : z = w := by
  obtain ⟨b, x, y, p1, p2, p3⟩ := lay_Y (g := g) (g' := g') (hill := hill) (plan := plan) h b5 b7 hd pl
  unfold Fx_P_rowsX at e1
  unfold Fx_M_rowsX at e2
  rw [xqb, p2, c2_mk] at e2
  cases b
  · rw [looks_F p1, c3_mk, if_neg Bool.false_ne_true] at e1
    rw [if_neg Bool.false_ne_true] at e2
    exact (congrArg Prod.fst e1).trans (congrArg Prod.fst e2).symm
  obtain ⟨n, m, L⟩ := p3 rfl
  obtain ⟨x', g2, k1, K, k3⟩ := looks_T (g := g) p1 L
  rw [k1, c3_mk, if_pos rfl] at e1
  rw [if_pos rfl] at e2
  have n9 := L.1
  have m4 := L.2.2.1
  have rr := rr_L L
  have p2' := p2_le n9
  have e5 : (4 - (0 : Int32).toInt).toNat + 1 = 5 := by decide
  have e513 : (512 - (0 : Int32).toInt).toNat + 1 = 513 := by decide
  obtain ⟨gc, f1, f2, f3⟩ := fJ_L (n := n) 513 0 g2 (by omega) (by omega) (fun j hj => by omega)
  have f1' : Fx_fillJ_69X 0 x' g2 = gc := f1
  obtain ⟨gr, r1, r2⟩ := rz_L (parts := parts) L.2.2.2.2.1.1 n9 513 0 g' (by omega) (Nat.zero_le _) (fun j hj => by omega)
  have r1' : Fx_M_rowsX_L21 parts y 513 0 g' = Fx_M_rowsX_L49 parts y 5 0 y gr := r1
  have k := ro_L (parts := parts) (sup_m (md := 0) n9 L.2.2.2.2.2.1) (fun p hp => chM_0 (by omega)) rr 5 0 gc gr y (by omega) (by omega) (ok_69 K.1 (f3 68 (by decide))) frm_0 (fun j hj => by rw [f2 j (by omega), r2 j hj])
  unfold Fx_O_likeliestX at e1
  rw [xqb, f1', e5] at e1
  rw [e513, r1'] at e2
  obtain ⟨R, hR⟩ : ∃ R, R = Fx_O_likeliestX_L10 x' 5 (iN 0) gc := ⟨_, rfl⟩
  rw [← hR] at k
  have e3 : (z, u1, g1) = xq_c2 R fun v19 g20 => if parts = 0 then (xq_lt v19.toInt64 fun l24 => (l24, x', g20)) else (xq_lt (g20 69 v19.toNatClampNeg) fun l25 => (l25, x', g20)) := by rw [hR]; exact e1
  have z1 : z = if parts = 0 then R.1.toInt64 else R.2 69 R.1.toNatClampNeg := by
    have e4 : xq_c2 R (fun v19 g20 => if parts = 0 then (xq_lt v19.toInt64 fun l24 => (l24, x', g20)) else (xq_lt (g20 69 v19.toNatClampNeg) fun l25 => (l25, x', g20))) = if parts = 0 then (R.1.toInt64, x', R.2) else (R.2 69 R.1.toNatClampNeg, x', R.2) := rfl
    rw [e4] at e3
    by_cases s : parts = 0
    · rw [if_pos s] at e3 ⊢
      exact congrArg Prod.fst e3
    · rw [if_neg s] at e3 ⊢
      exact congrArg Prod.fst e3
  exact z1.trans (k.trans (congrArg Prod.fst e2).symm)
