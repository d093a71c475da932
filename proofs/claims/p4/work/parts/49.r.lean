/-! the reference's mean while all rains are dry (dry49.py) -/
def RRD (y : MM) (n m : Nat) (A : Nat → Nat → Int32) (sr cr : Nat → Int32) : Prop := n ≤ 9 ∧ m ≤ 4 ∧ RMA y n A ∧ AWF n A ∧ y 162 26 = -1 ∧ y 162 27 = 1 ∧ y 172 1 = iN m ∧ ∀ i, i < m → y 172 (5 + 2 * i) = sr i ∧ y 172 (6 + 2 * i) = cr i ∧ Bd 0 9 (sr i)
theorem rr_cD {y y' : MM} {n m : Nat} {A : Nat → Nat → Int32} {sr cr : Nat → Int32} (h : RRD y n m A sr cr) (f : FRM y' y) : RRD y' n m A sr cr := by
  obtain ⟨n9, m4, ma, aw, h26, h27, h1, hr⟩ := h
  have e172 : y' 172 = y 172 := f.1 172 (by decide) (by decide) (by decide) (by decide)
  refine ⟨n9, m4, ma_c ma (f.2 22 (by decide) (by decide) (by decide)) e172, aw, ?_, ?_, ?_, ?_⟩
  · rw [f.2 26 (by decide) (by decide) (by decide)]; exact h26
  · rw [f.2 27 (by decide) (by decide) (by decide)]; exact h27
  · rw [e172]; exact h1
  · rw [e172]; exact hr
theorem pr_LD {y : MM} {g : GG} {n m b : Nat} {A : Nat → Nat → Int32} {sr cr : Nat → Int32} {c : Int64} (h : RRD y n m A sr cr) (hb : b < 2 ^ n) : ∀ (f p : Nat), n - p < f → p ≤ n → Fx_M_partsOfX_L17 (iN b) y g f (prB (fun p => A p 4) b c p) (iN p) = prB (fun p => A p 4) b c n := by
  have n9 := h.1
  have p2 := p2_le n9
  intro f
  induction f with
  | zero => intro p h1; omega
  | succ f ih =>
    intro p h1 h2
    rw [Fx_M_partsOfX_L17_s, h.2.2.1.1]
    by_cases q : n ≤ p
    · rw [if_pos ((iN_le (by omega) (by omega)).mpr q), show p = n by omega]
    · have k := ih (p + 1) (by omega) (by omega)
      have e : prB (fun p => A p 4) b c (p + 1) = prB (fun p => A p 4) b c p * (if b.testBit p = true then A p 4 else 10 - A p 4).toInt64 := rfl
      rw [e] at k
      rw [if_neg (fun z => q ((iN_le (by omega) (by omega)).mp z)), xqb, hasI, inN b (by omega) p (by omega), show mof y (iN p) (4 : Int32) = A p 4 from ma_r (c := 4) h.2.2.1 n9 (by omega) (by decide)]
      unfold Fx_M_partsOfX_J58
      rw [iN_s]
      by_cases t : b.testBit p = true
      · rw [if_pos t] at k ⊢
        rw [xqb, xqb]
        exact k
      · rw [if_neg t] at k ⊢
        rw [xqb, xqb]
        exact k
theorem pr_XD {y : MM} {g : GG} {n m r b : Nat} {A : Nat → Nat → Int32} {sr cr : Nat → Int32} (h : RRD y n m A sr cr) (hr : r < m) (hb : b < 2 ^ n) : Fx_M_partsOfX (iN r) (iN b) y g = wB (fun p => A p 4) b n * (cr r).toInt64 := by
  unfold Fx_M_partsOfX
  have n9 := h.1
  have m4 := h.2.1
  have e : (((5 : Int32) + ((2 : Int32) * iN r)) + 1).toNatClampNeg = 6 + 2 * r := by
    show ((iN 5 + iN 2 * iN r) + iN 1).toNatClampNeg = _
    rw [iN_m, iN_a, iN_a, iN_cl (by omega)]
    omega
  have e10 : (9 - (0 : Int32).toInt).toNat + 1 = 10 := by decide
  rw [xqb, xqb, e, (h.2.2.2.2.2.2.2 r hr).2.1, e10, ← prB_e]
  exact pr_LD h hb 10 0 (by omega) (by omega)
theorem sto_XD {y : MM} {g : GG} {n m r : Nat} {A : Nat → Nat → Int32} {sr cr : Nat → Int32} {bk : Int32} (h : RRD y n m A sr cr) (hr : r < m) : ∃ y1, Fx_M_blowX (Fx_M_stepsOfX (iN r) y g) bk y g = y1 ∧ RS y1 (stN A n 0 bk (-1) n) n n ∧ FRM y1 y := by
  obtain ⟨n9, m4, ma, aw, h26, h27, h1, hs⟩ := h
  obtain ⟨r1, r2, r3⟩ := hs r hr
  have es : Fx_M_stepsOfX (iN r) y g = 0 := by
    unfold Fx_M_stepsOfX
    rw [h27, if_neg (show ¬ (1 : Int32) = 0 by decide)]
  rw [es]
  obtain ⟨y1, b0, b1, b2, b3⟩ := rbl_X (g := g) (bk := bk) ma n9 aw h26 (show Bd 0 9 (0 : Int32) by decide)
  exact ⟨y1, b0, b1, b2, b3⟩
theorem mb_ID {u y : MM} {g : GG} {n m r : Nat} {A : Nat → Nat → Int32} {sr cr : Nat → Int32} {o : Int32} {ih : Int64 → Int32 → MM → Int64 × MM} (h22 : u 162 22 = iN n) (hr : r < m) (a0 : Int64) (h0 : RRD y n m A sr cr) : ∀ (f b : Nat) (y1 : MM), 2 ^ n - b < f → b ≤ 2 ^ n → FRM y1 y → ∃ y2, Fx_M_meanByX_L19 ih o u g (iN r) f (fB (mnF A n (fun _ => 0) cr (fun p => A p 4) (fun w => hro A o w n) r) b a0) (iN b) y1 = ih (fB (mnF A n (fun _ => 0) cr (fun p => A p 4) (fun w => hro A o w n) r) (2 ^ n) a0) (iN (r + 1)) y2 ∧ FRM y2 y := by
  have n9 := h0.1
  have p2 := p2_le n9
  have pp := Nat.two_pow_pos n
  intro f
  induction f with
  | zero => intro b y1 h1; omega
  | succ f ihf =>
    intro b y1 h1 h2 fr
    have h := rr_cD h0 fr
    rw [Fx_M_meanByX_L19_s, h22, (all_e n (by omega)).2.1, iN_s]
    by_cases q : 2 ^ n ≤ b
    · rw [if_pos ((iN_le (by omega) (by omega)).mpr q), show b = 2 ^ n by omega]
      exact ⟨y1, rfl, fr⟩
    · have hb : b < 2 ^ n := by omega
      have e : fB (mnF A n (fun _ => 0) cr (fun p => A p 4) (fun w => hro A o w n) r) (b + 1) a0 = mnF A n (fun _ => 0) cr (fun p => A p 4) (fun w => hro A o w n) r b (fB (mnF A n (fun _ => 0) cr (fun p => A p 4) (fun w => hro A o w n) r) b a0) := rfl
      rw [if_neg (fun z => q ((iN_le (by omega) (by omega)).mp z)), xqb, pr_XD h hr hb]
      unfold Fx_M_meanByX_J71
      rw [iN_s]
      by_cases z : lg_cmp (wB (fun p => A p 4) b n * (cr r).toInt64) (0 : Int64) ≤ 0
      · obtain ⟨y2, k1, k2⟩ := ihf (b + 1) y1 (by omega) (by omega) fr
        rw [e] at k1
        rw [mnF_0 z] at k1
        rw [if_pos z]
        exact ⟨y2, k1, k2⟩
      · obtain ⟨y3, s1, s2, s3⟩ := sto_XD (g := g) (bk := iN b) h hr
        obtain ⟨y2, k1, k2⟩ := ihf (b + 1) y3 (by omega) (by omega) (frm_t s3 fr)
        rw [e] at k1
        rw [mnF_1 z] at k1
        rw [if_neg z]
        have hh := ho_X (g := g) (o := o) (rr_cD h s3).2.2.1 n9
        rw [s2.1] at hh
        rw [xqb, s1, xqb, hh, xqb, xqb, xqb]
        exact ⟨y2, k1, k2⟩
theorem mb_LD {u : MM} {g : GG} {n m : Nat} {A : Nat → Nat → Int32} {sr cr : Nat → Int32} {o : Int32} (h0 : RRD u n m A sr cr) : ∀ (f r : Nat) (y1 : MM), m - r < f → r ≤ m → FRM y1 u → ∃ y2, Fx_M_meanByX_L5 o u g f (fR (mnF A n (fun _ => 0) cr (fun p => A p 4) (fun w => hro A o w n)) (2 ^ n) r 0) (iN r) y1 = (fR (mnF A n (fun _ => 0) cr (fun p => A p 4) (fun w => hro A o w n)) (2 ^ n) m 0, y2) ∧ FRM y2 u := by
  have m4 := h0.2.1
  have p2 := p2_le h0.1
  intro f
  induction f with
  | zero => intro r y1 h1; omega
  | succ f ihf =>
    intro r y1 h1 h2 fr
    rw [Fx_M_meanByX_L5_s, h0.2.2.2.2.2.2.1]
    by_cases q : m ≤ r
    · rw [if_pos ((iN_le (by omega) (by omega)).mpr q), show r = m by omega]
      exact ⟨y1, rfl, fr⟩
    · have e513 : (512 - (0 : Int32).toInt).toNat + 1 = 513 := by decide
      rw [if_neg (fun z => q ((iN_le (by omega) (by omega)).mp z)), e513]
      obtain ⟨y3, k1, k2⟩ := mb_ID (ih := Fx_M_meanByX_L5 o u g f) (g := g) (o := o) h0.2.2.1.1 (show r < m by omega) (fR (mnF A n (fun _ => 0) cr (fun p => A p 4) (fun w => hro A o w n)) (2 ^ n) r 0) h0 513 0 y1 (by omega) (Nat.zero_le _) fr
      obtain ⟨y2, j1, j2⟩ := ihf (r + 1) y3 (by omega) (by omega) k2
      exact ⟨y2, Eq.trans k1 j1, j2⟩
theorem mb_XD {y : MM} {g : GG} {n m : Nat} {A : Nat → Nat → Int32} {sr cr : Nat → Int32} {o : Int32} (h0 : RRD y n m A sr cr) : ∃ y2, Fx_M_meanByX o y g = (fR (mnF A n (fun _ => 0) cr (fun p => A p 4) (fun w => hro A o w n)) (2 ^ n) m 0, y2) ∧ FRM y2 y := by
  have m4 := h0.2.1
  unfold Fx_M_meanByX
  have e5 : (4 - (0 : Int32).toInt).toNat + 1 = 5 := by decide
  rw [e5]
  exact mb_LD h0 5 0 y (by omega) (by omega) frm_0
