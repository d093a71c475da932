/-! sums over storms as numbers; likely, given -/
def wN (c : Nat → Nat) (b : Nat) : Nat → Nat
  | 0 => 1
  | p + 1 => wN c b p * (if b.testBit p = true then c p else 10 - c p)
theorem wB_n {ch : Nat → Int32} {c : Nat → Nat} {b : Nat} : ∀ p, (∀ q, q < p → ch q = iN (c q) ∧ c q ≤ 10) → wB ch b p = zN (wN c b p) ∧ wN c b p ≤ 10 ^ p := by
  intro p
  induction p with
  | zero => intro _; exact ⟨rfl, Nat.le_refl _⟩
  | succ p ih =>
    intro h
    obtain ⟨i1, i2⟩ := ih (fun q hq => h q (by omega))
    obtain ⟨h1, h2⟩ := h p (by omega)
    have hf : fac ch b p = zN (if b.testBit p = true then c p else 10 - c p) := by
      unfold fac
      rw [h1]
      by_cases t : b.testBit p = true
      · rw [if_pos t, if_pos t, iN_l (by omega)]
      · rw [if_neg t, if_neg t, show (10 : Int32) - iN (c p) = iN (10 - c p) from iN_sub (a := 10) h2, iN_l (by omega)]
    refine ⟨?_, ?_⟩
    · show wB ch b p * fac ch b p = _
      rw [i1, hf, zN_m]
      rfl
    · show wN c b p * (if b.testBit p = true then c p else 10 - c p) ≤ 10 ^ (p + 1)
      rw [Nat.pow_succ]
      exact Nat.mul_le_mul i2 (by split <;> omega)
theorem wN_c {c : Nat → Nat} {b d : Nat} : ∀ p, (∀ q, q < p → b.testBit q = d.testBit q) → wN c b p = wN c d p := by
  intro p
  induction p with
  | zero => intro _; rfl
  | succ p ih =>
    intro h
    show wN c b p * (if b.testBit p = true then c p else 10 - c p) = wN c d p * (if d.testBit p = true then c p else 10 - c p)
    rw [ih (fun q hq => h q (by omega)), h p (by omega)]
def sN (G : Nat → Nat) : Nat → Nat
  | 0 => 0
  | b + 1 => sN G b + G b
theorem sN_c {G H : Nat → Nat} : ∀ n, (∀ b, b < n → G b = H b) → sN G n = sN H n := by
  intro n
  induction n with
  | zero => intro _; rfl
  | succ n ih =>
    intro h
    show sN G n + G n = sN H n + H n
    rw [ih (fun b hb => h b (by omega)), h n (by omega)]
theorem sN_m {G : Nat → Nat} {k : Nat} : ∀ n, sN (fun b => G b * k) n = sN G n * k := by
  intro n
  induction n with
  | zero => exact (Nat.zero_mul k).symm
  | succ n ih =>
    show sN (fun b => G b * k) n + G n * k = (sN G n + G n) * k
    rw [ih, Nat.add_mul]
theorem sN_a {G : Nat → Nat} {m : Nat} : ∀ n, sN G (m + n) = sN G m + sN (fun b => G (b + m)) n := by
  intro n
  induction n with
  | zero => rfl
  | succ n ih =>
    show sN G (m + n) + G (m + n) = sN G m + (sN (fun b => G (b + m)) n + G (n + m))
    rw [ih, Nat.add_comm m n, Nat.add_assoc]
theorem wN_s {c : Nat → Nat} : ∀ n, (∀ q, q < n → c q ≤ 10) → sN (fun b => wN c b n) (2 ^ n) = 10 ^ n := by
  intro n
  induction n with
  | zero => intro _; rfl
  | succ n ih =>
    intro h
    have k := ih (fun q hq => h q (by omega))
    have h1 := h n (by omega)
    have e2 : (2 : Nat) ^ (n + 1) = 2 ^ n + 2 ^ n := by rw [Nat.pow_succ]; omega
    have a : sN (fun b => wN c b (n + 1)) (2 ^ n) = 10 ^ n * (10 - c n) := by
      rw [sN_c (H := fun b => wN c b n * (10 - c n)) (2 ^ n) (fun b hb => by
        show wN c b n * (if b.testBit n = true then c n else 10 - c n) = _
        rw [Nat.testBit_lt_two_pow hb, if_neg Bool.false_ne_true]), sN_m (G := fun b => wN c b n), k]
    have b : sN (fun b => wN c (b + 2 ^ n) (n + 1)) (2 ^ n) = 10 ^ n * c n := by
      rw [sN_c (H := fun b => wN c b n * c n) (2 ^ n) (fun b hb => by
        show wN c (b + 2 ^ n) n * (if (b + 2 ^ n).testBit n = true then c n else 10 - c n) = _
        rw [tb_add hb (Nat.le_refl n), if_pos rfl, if_pos rfl, wN_c (d := b) n (fun q hq => by rw [tb_add hb (by omega), if_neg (by omega)])]), sN_m (G := fun b => wN c b n), k]
    rw [e2, sN_a, a, b, ← Nat.mul_add, Nat.pow_succ]
    congr 1
    omega
theorem fB_z {F : Nat → Int64 → Int64} {G : Nat → Nat} : ∀ n a, (∀ b, b < n → ∀ a, F b (zN a) = zN (a + G b)) → fB F n (zN a) = zN (a + sN G n) := by
  intro n
  induction n with
  | zero => intro a _; rfl
  | succ n ih =>
    intro a h
    show F n (fB F n (zN a)) = zN (a + (sN G n + G n))
    rw [ih a (fun b hb => h b (by omega)), h n (by omega), Nat.add_assoc]
theorem fR_z {F : Nat → Nat → Int64 → Int64} {G : Nat → Nat → Nat} {N : Nat} : ∀ m a, (∀ r b, r < m → b < N → ∀ a, F r b (zN a) = zN (a + G r b)) → fR F N m (zN a) = zN (a + sN (fun r => sN (G r) N) m) := by
  intro m
  induction m with
  | zero => intro a _; rfl
  | succ m ih =>
    intro a h
    show fB (F m) N (fR F N m (zN a)) = zN (a + (sN (fun r => sN (G r) N) m + sN (G m) N))
    rw [ih a (fun r b hr hb => h r b (by omega) hb), fB_z N _ (fun b hb => h m b (by omega) hb), Nat.add_assoc]
/-- a storm's parts, a number -/
theorem pa_z {ch cr : Nat → Int32} {c cn : Nat → Nat} {n m r b : Nat} (n9 : n ≤ 9) (hc : ∀ q, q < n → ch q = iN (c q) ∧ c q ≤ 10) (hr : ∀ r, r < m → cr r = iN (cn r) ∧ cn r ≤ 100) (h : r < m) : wB ch b n * (cr r).toInt64 = zN (wN c b n * cn r) ∧ wN c b n * cn r ≤ 100000000000 := by
  obtain ⟨a1, a2⟩ := wB_n (b := b) n hc
  obtain ⟨b1, b2⟩ := hr r h
  have hp : 10 ^ n ≤ 10 ^ 9 := Nat.pow_le_pow_right (by decide) n9
  have hm : wN c b n * cn r ≤ 10 ^ 9 * 100 := Nat.mul_le_mul (Nat.le_trans a2 hp) b2
  exact ⟨by rw [a1, b1, iN_l (by omega), zN_m], hm⟩
noncomputable def ptN (A : Nat → Nat → Int32) (n : Nat) (sr : Nat → Int32) (cn c : Nat → Nat) (s : Int32) (r b : Nat) : Nat := if (stN A n (sr r) (iN b) (-1) n).1 &&& s = s then wN c b n * cn r else 0
theorem pt_z {A : Nat → Nat → Int32} {ch sr cr : Nat → Int32} {c cn : Nat → Nat} {n m : Nat} {s : Int32} (n9 : n ≤ 9) (hc : ∀ q, q < n → ch q = iN (c q) ∧ c q ≤ 10) (hr : ∀ r, r < m → cr r = iN (cn r) ∧ cn r ≤ 100) : fR (ptF A n sr cr ch s) (2 ^ n) m 0 = zN (sN (fun r => sN (ptN A n sr cn c s r) (2 ^ n)) m) := by
  have e0 : (0 : Int64) = zN 0 := rfl
  have k := fR_z (F := ptF A n sr cr ch s) (G := ptN A n sr cn c s) (N := 2 ^ n) m 0 (fun r b h1 h2 a => by
    obtain ⟨p1, p2⟩ := pa_z (b := b) n9 hc hr h1
    by_cases z : lg_cmp (wB ch b n * (cr r).toInt64) (0 : Int64) ≤ 0
    · have z2 := (lg_cmp_le _ _).mp z
      rw [p1, e0] at z2
      have z3 := (zN_le (by omega) (by omega)).mp z2
      rw [ptF_0 z]
      unfold ptN
      rw [show wN c b n * cn r = 0 by omega]
      split <;> rfl
    · rw [ptF_1 z]
      unfold ptN
      by_cases w : (stN A n (sr r) (iN b) (-1) n).1 &&& s = s
      · rw [if_pos w, if_pos w, p1, zN_a]
      · rw [if_neg w, if_neg w]
        rfl)
  rw [Nat.zero_add] at k
  exact k
theorem pt_all {A : Nat → Nat → Int32} {sr : Nat → Int32} {c cn : Nat → Nat} {n m : Nat} (hc : ∀ q, q < n → c q ≤ 10) (hs : sN cn m = 100) : sN (fun r => sN (ptN A n sr cn c 0 r) (2 ^ n)) m = 100 * 10 ^ n := by
  have a : ∀ r, sN (fun b => wN c b n * cn r) (2 ^ n) = cn r * 10 ^ n := fun r => by rw [sN_m (G := fun b => wN c b n), wN_s n hc, Nat.mul_comm]
  have k : sN (fun r => sN (ptN A n sr cn c 0 r) (2 ^ n)) m = sN (fun r => cn r * 10 ^ n) m := sN_c m (fun r hr => by
    rw [← a r]
    refine sN_c _ (fun b hb => ?_)
    unfold ptN
    rw [if_pos Int32.and_zero])
  rw [k, sN_m, hs]
/-- the chances of a hill, as numbers -/
def cN (y : MM) (i : Nat) : Nat := (cR y i).toNatClampNeg
def kA (A : Nat → Nat → Int32) (p : Nat) : Nat := (A p 4).toNatClampNeg
theorem kA_s {A : Nat → Nat → Int32} {n : Nat} (aw : AWF n A) : ∀ q, q < n → A q 4 = iN (kA A q) ∧ kA A q ≤ 10 := fun q hq => by
  obtain ⟨k, hk, h1⟩ := iN_ex (hi := 10) (show Bd 0 10 (A q 4) from (aw q hq).1 4 (by decide))
  have e : kA A q = k := by
    unfold kA
    rw [hk, iN_cl (by omega)]
  rw [e]
  exact ⟨hk, h1⟩
theorem cN_s {x y : MM} {n m : Nat} (L : LDF x y n m) : (∀ r, r < m → cR y r = iN (cN y r) ∧ cN y r ≤ 100) ∧ sN (cN y) m = 100 := by
  have hr : ∀ r, r < m → cR y r = iN (cN y r) ∧ cN y r ≤ 100 := fun r hr => by
    obtain ⟨k, hk, h1⟩ := iN_ex (hi := 100) (show Bd 0 100 (cR y r) from (L.2.2.2.2.2.2.2.2.1 r hr).2.2.2)
    have e : cN y r = k := by
      unfold cN
      rw [hk, iN_cl (by omega)]
    rw [e]
    exact ⟨hk, h1⟩
  refine ⟨hr, ?_⟩
  have m1 := L.2.1
  have m4 := L.2.2.1
  have e1 := L.2.2.2.2.2.2.2.1
  have hs := L.2.2.2.2.2.2.2.2.2.2.1
  have e100 : (100 : Int32) = iN 100 := rfl
  unfold sm at hs
  rw [e1] at hs
  rcases (show m = 1 ∨ m = 2 ∨ m = 3 ∨ m = 4 by omega) with w | w | w | w
  · subst w
    have a0 : y 172 6 = iN (cN y 0) := (hr 0 (by omega)).1
    rw [if_pos (by decide), a0, Int32.zero_add, e100] at hs
    have b0 := (hr 0 (by omega)).2
    have := (iN_eq (by omega) (by omega)).mp hs
    show 0 + cN y 0 = 100
    omega
  · subst w
    have a0 : y 172 6 = iN (cN y 0) := (hr 0 (by omega)).1
    have a1 : y 172 8 = iN (cN y 1) := (hr 1 (by omega)).1
    rw [if_neg (by decide), if_pos (by decide), a0, a1, Int32.zero_add, iN_a, e100] at hs
    have b0 := (hr 0 (by omega)).2
    have b1 := (hr 1 (by omega)).2
    have := (iN_eq (by omega) (by omega)).mp hs
    show 0 + cN y 0 + cN y 1 = 100
    omega
  · subst w
    have a0 : y 172 6 = iN (cN y 0) := (hr 0 (by omega)).1
    have a1 : y 172 8 = iN (cN y 1) := (hr 1 (by omega)).1
    have a2 : y 172 10 = iN (cN y 2) := (hr 2 (by omega)).1
    rw [if_neg (by decide), if_neg (by decide), if_pos (by decide), a0, a1, a2, Int32.zero_add, iN_a, iN_a, e100] at hs
    have b0 := (hr 0 (by omega)).2
    have b1 := (hr 1 (by omega)).2
    have b2 := (hr 2 (by omega)).2
    have := (iN_eq (by omega) (by omega)).mp hs
    show 0 + cN y 0 + cN y 1 + cN y 2 = 100
    omega
  · subst w
    have a0 : y 172 6 = iN (cN y 0) := (hr 0 (by omega)).1
    have a1 : y 172 8 = iN (cN y 1) := (hr 1 (by omega)).1
    have a2 : y 172 10 = iN (cN y 2) := (hr 2 (by omega)).1
    have a3 : y 172 12 = iN (cN y 3) := (hr 3 (by omega)).1
    rw [if_neg (by decide), if_neg (by decide), if_neg (by decide), a0, a1, a2, a3, Int32.zero_add, iN_a, iN_a, iN_a, e100] at hs
    have b0 := (hr 0 (by omega)).2
    have b1 := (hr 1 (by omega)).2
    have b2 := (hr 2 (by omega)).2
    have b3 := (hr 3 (by omega)).2
    have := (iN_eq (by omega) (by omega)).mp hs
    show 0 + cN y 0 + cN y 1 + cN y 2 + cN y 3 = 100
    omega
theorem al_L {y : MM} {n : Nat} {A : Nat → Nat → Int32} (h : RMA y n A) (n9 : n ≤ 9) : ∀ (f p : Nat), n - p < f → p ≤ n → Fx_M_allPartsX_L6 y f (zN (100 * 10 ^ p)) (iN p) = zN (100 * 10 ^ n) := by
  intro f
  induction f with
  | zero => intro p h1; omega
  | succ f ih =>
    intro p h1 h2
    rw [Fx_M_allPartsX_L6_s, h.1]
    by_cases q : n ≤ p
    · rw [if_pos ((iN_le (by omega) (by omega)).mpr q), show p = n by omega]
    · have e : zN (100 * 10 ^ p) * (10 : Int64) = zN (100 * 10 ^ (p + 1)) := by
        show zN (100 * 10 ^ p) * zN 10 = _
        rw [zN_m, Nat.mul_assoc, ← Nat.pow_succ]
      rw [if_neg (fun z => q ((iN_le (by omega) (by omega)).mp z)), xqb, iN_s, e]
      exact ih (p + 1) (by omega) (by omega)
theorem al_X {y : MM} {g : GG} {n : Nat} {A : Nat → Nat → Int32} (h : RMA y n A) (n9 : n ≤ 9) : Fx_M_allPartsX y g = zN (100 * 10 ^ n) := by
  unfold Fx_M_allPartsX
  have e : (9 - (0 : Int32).toInt).toNat + 1 = 10 := by decide
  rw [e]
  exact al_L h n9 10 0 (by omega) (by omega)
/-- the class's parts of a set, a number -/
theorem pn_X {x x' y : MM} {g g1 : GG} {n m : Nat} {s : Int32} (K : LKD x' g1 y n m) : Fx_O_partsOfX s x' g1 = zN (sN (fun r => sN (ptN (rwA y) n (sR y) (cN y) (kA (rwA y)) s r) (2 ^ n)) m) := by
  obtain ⟨ok, L⟩ := K
  have n9 := L.1
  rw [po_X ok (sup_m (md := 0) n9 L.2.2.2.2.2.1), pt_eq (ch2 := fun p => rwA y p 4) (fun p hp => chM_0 (by omega))]
  exact pt_z n9 (kA_s L.2.2.2.2.2.1) (cN_s L).1
theorem and_bt : ∀ q, q < 9 → ∀ k, k < 512 → (iN k &&& bt q = bt q ↔ inB (iN k) q = true) := by decide +kernel
theorem lik_I {y : MM} {u : MM} {g : GG} {n m r q : Nat} {A : Nat → Nat → Int32} {sr cr : Nat → Int32} {ih : Int64 → Int32 → MM → Int64 × MM} (h22 : u 162 22 = iN n) (hr : r < m) (hq : q < 9) (a0 : Int64) (h0 : RR y n m A sr cr) : ∀ (f b : Nat) (y1 : MM), 2 ^ n - b < f → b ≤ 2 ^ n → FRM y1 y → ∃ y2, Fx_M_likelyX_L56 ih (iN q) g u (iN r) f (fB (ptF A n sr cr (fun p => A p 4) (bt q) r) b a0) (iN b) y1 = ih (fB (ptF A n sr cr (fun p => A p 4) (bt q) r) (2 ^ n) a0) (iN (r + 1)) y2 ∧ FRM y2 y := by
  have n9 := h0.1
  have p2 := p2_le n9
  have pp := Nat.two_pow_pos n
  intro f
  induction f with
  | zero => intro b y1 h1; omega
  | succ f ihf =>
    intro b y1 h1 h2 fr
    have h := rr_c h0 fr
    rw [Fx_M_likelyX_L56_s, h22, (all_e n (by omega)).2.1, iN_s]
    by_cases z : 2 ^ n ≤ b
    · rw [if_pos ((iN_le (by omega) (by omega)).mpr z), show b = 2 ^ n by omega]
      exact ⟨y1, rfl, fr⟩
    · have hb : b < 2 ^ n := by omega
      have e : fB (ptF A n sr cr (fun p => A p 4) (bt q) r) (b + 1) a0 = ptF A n sr cr (fun p => A p 4) (bt q) r b (fB (ptF A n sr cr (fun p => A p 4) (bt q) r) b a0) := rfl
      rw [if_neg (fun w => z ((iN_le (by omega) (by omega)).mp w)), xqb, pr_X h hr hb]
      unfold Fx_M_likelyX_J115 Fx_M_likelyX_J118
      rw [iN_s]
      by_cases w : lg_cmp (wB (fun p => A p 4) b n * (cr r).toInt64) (0 : Int64) ≤ 0
      · obtain ⟨y2, k1, k2⟩ := ihf (b + 1) y1 (by omega) (by omega) fr
        rw [e, ptF_0 w] at k1
        rw [if_pos w]
        exact ⟨y2, k1, k2⟩
      · obtain ⟨y3, s1, s2, s3⟩ := sto_X (g := g) (bk := iN b) h hr
        obtain ⟨y2, k1, k2⟩ := ihf (b + 1) y3 (by omega) (by omega) (frm_t s3 fr)
        obtain ⟨k, hk, ek⟩ := (st_sb (A := A) (n := n) (st := sr r) (bk := iN b) (kp := -1) n n9).1
        rw [e, ptF_1 w] at k1
        rw [if_neg w, xqb, xqb, s1, xqb, hasI, s2.1]
        by_cases t : (stN A n (sr r) (iN b) (-1) n).1 &&& bt q = bt q
        · rw [if_pos t] at k1
          rw [ek] at t
          rw [ek, if_pos ((and_bt q hq k (by omega)).mp t), xqb]
          exact ⟨y2, k1, k2⟩
        · rw [if_neg t] at k1
          rw [ek] at t
          rw [ek, if_neg (fun v => t ((and_bt q hq k (by omega)).mpr v)), xqb, Int64.add_zero]
          exact ⟨y2, k1, k2⟩
theorem lik_L {u : MM} {g : GG} {n m q : Nat} {A : Nat → Nat → Int32} {sr cr : Nat → Int32} (h0 : RR u n m A sr cr) (hq : q < 9) : ∀ (f r : Nat) (y1 : MM), m - r < f → r ≤ m → FRM y1 u → ∃ y2, Fx_M_likelyX_L37 (iN q) g u f (fR (ptF A n sr cr (fun p => A p 4) (bt q)) (2 ^ n) r 0) (iN r) y1 = (fR (ptF A n sr cr (fun p => A p 4) (bt q)) (2 ^ n) m 0, y2) ∧ FRM y2 u := by
  have m4 := h0.2.1
  have p2 := p2_le h0.1
  have nq : ¬ iN q = -1 := fun z => by
    have z1 := congrArg Int32.toInt z
    rw [iN_ti (by omega)] at z1
    have : (-1 : Int32).toInt = -1 := rfl
    omega
  intro f
  induction f with
  | zero => intro r y1 h1; omega
  | succ f ihf =>
    intro r y1 h1 h2 fr
    rw [Fx_M_likelyX_L37_s, h0.2.2.2.2.2.2.1]
    by_cases z : m ≤ r
    · rw [if_pos ((iN_le (by omega) (by omega)).mpr z), if_neg nq, show r = m by omega]
      exact ⟨y1, rfl, fr⟩
    · have e513 : (512 - (0 : Int32).toInt).toNat + 1 = 513 := by decide
      rw [if_neg (fun w => z ((iN_le (by omega) (by omega)).mp w)), if_neg nq, e513]
      obtain ⟨y3, k1, k2⟩ := lik_I (ih := Fx_M_likelyX_L37 (iN q) g u f) (g := g) h0.2.2.1.1 (show r < m by omega) hq (fR (ptF A n sr cr (fun p => A p 4) (bt q)) (2 ^ n) r 0) h0 513 0 y1 (by omega) (Nat.zero_le _) fr
      obtain ⟨y2, j1, j2⟩ := ihf (r + 1) y3 (by omega) (by omega) k2
      exact ⟨y2, Eq.trans k1 j1, j2⟩
theorem R5_likely {u v u1 v2 : MM} {g g' g1 : GG} {hill plan pond : Int32} {z w : Int64} (h : RLY u v) (b5 : Bd 0 2 (u 1 5)) (b7 : Bd 0 3 (u 1 7)) (hd : HD v) (pl : PL v) (e1 : (z, u1, g1) = Fx_P_likelyX hill plan pond u g) (e2 : (w, v2) = Fx_M_likelyX hill plan pond v g') : z = w := by
  obtain ⟨b, x, y, p1, p2, p3⟩ := lay_Y (g := g) (g' := g') (hill := hill) (plan := plan) h b5 b7 hd pl
  unfold Fx_P_likelyX at e1
  unfold Fx_M_likelyX at e2
  rw [xqb, p2, c2_mk] at e2
  cases b
  · rw [looks_F p1, c3_mk, if_neg Bool.false_ne_true] at e1
    rw [if_neg Bool.false_ne_true] at e2
    exact (congrArg Prod.fst e1).trans (congrArg Prod.fst e2).symm
  obtain ⟨n, m, L⟩ := p3 rfl
  obtain ⟨x', g2, k1, K, k3⟩ := looks_T (g := g) p1 L
  rw [k1, c3_mk, if_pos rfl] at e1
  rw [if_pos rfl] at e2
  have n9 := L.1
  have rr := rr_L L
  by_cases o : pond = -1
  · have b3 : Fx_bit3X pond x' g2 = 0 := by
      unfold Fx_bit3X
      rw [o, if_neg (by decide)]
    rw [if_pos o, xqb, b3, xqb, pn_X (x := x) (g := g) K, pt_all (fun q hq => (kA_s L.2.2.2.2.2.1 q hq).2) (cN_s L).2] at e1
    rw [if_pos o, L.2.2.2.2.2.2.2.1, if_neg (fun q => by have := (iN_le (b := 0) (by have := L.2.2.1; omega) (by omega)).mp q; have := L.2.1; omega), if_pos o, if_pos o, xqb, al_X L.2.2.2.2.1 n9] at e2
    exact (congrArg Prod.fst e1).trans (congrArg Prod.fst e2).symm
  · obtain ⟨t, t1, t2, t3⟩ := q_pond (g := g2) (g' := g') (p := pond) K.2
    rw [if_neg o, xqb, t1] at e1
    rw [if_neg o, xqb, t2] at e2
    cases t
    · rw [if_neg Bool.false_ne_true] at e1 e2
      exact (congrArg Prod.fst e1).trans (congrArg Prod.fst e2).symm
    · obtain ⟨q, q1, q2⟩ := t3 rfl
      have e5 : (4 - (0 : Int32).toInt).toNat + 1 = 5 := by decide
      rw [if_pos rfl, q2, xqb, b9I (by omega), xqb, po_X K.1 (sup_m (md := 0) n9 L.2.2.2.2.2.1), pt_eq (ch2 := fun p => rwA y p 4) (fun p hp => chM_0 (by omega))] at e1
      obtain ⟨y2, m1, m2⟩ := lik_L (g := g') rr (show q < 9 by omega) 5 0 y (by have := L.2.2.1; omega) (by omega) frm_0
      have m1' : Fx_M_likelyX_L37 (iN q) g' y 5 0 0 y = (fR (ptF (rwA y) n (sR y) (cR y) (fun p => rwA y p 4) (bt q)) (2 ^ n) m 0, y2) := m1
      rw [if_pos rfl, q2, e5, m1'] at e2
      exact (congrArg Prod.fst e1).trans (congrArg Prod.fst e2).symm
