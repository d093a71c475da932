/-! worst, flood, deep -/
theorem fB_i {α : Type} {F : Nat → α → α} {P : α → Prop} : ∀ (n : Nat) (a : α), (∀ b a, b < n → P a → P (F b a)) → P a → P (fB F n a) := by
  intro n
  induction n with
  | zero => intro a _ h; exact h
  | succ n ih => intro a h p; exact h n _ (by omega) (ih a (fun b a hb => h b a (by omega)) p)
theorem fR_i {α : Type} {F : Nat → Nat → α → α} {N : Nat} {P : α → Prop} : ∀ (m : Nat) (a : α), (∀ r b a, r < m → b < N → P a → P (F r b a)) → P a → P (fR F N m a) := by
  intro m
  induction m with
  | zero => intro a _ h; exact h
  | succ m ih => intro a h p; exact fB_i N _ (fun b a hb => h m b a (by omega) hb) (ih a (fun r b a hr hb => h r b a (by omega) hb) p)
theorem fB_v {α : Type} {F : Nat → α → α} {P V : α → Prop} {b0 : Nat} : ∀ (n : Nat) (a : α), (∀ b a, b < n → P a → P (F b a)) → (∀ b a, b < n → V a → V (F b a)) → (∀ a, P a → V (F b0 a)) → b0 < n → P a → V (fB F n a) := by
  intro n
  induction n with
  | zero => intro a _ _ _ h; omega
  | succ n ih =>
    intro a h1 h2 h3 h p
    by_cases y : b0 = n
    · subst y
      exact h3 _ (fB_i b0 a (fun b a hb => h1 b a (by omega)) p)
    · exact h2 n _ (by omega) (ih a (fun b a hb => h1 b a (by omega)) (fun b a hb => h2 b a (by omega)) h3 (by omega) p)
theorem fR_v {α : Type} {F : Nat → Nat → α → α} {N : Nat} {P V : α → Prop} {r0 b0 : Nat} : ∀ (m : Nat) (a : α), (∀ r b a, r < m → b < N → P a → P (F r b a)) → (∀ r b a, r < m → b < N → V a → V (F r b a)) → (∀ a, P a → V (F r0 b0 a)) → r0 < m → b0 < N → P a → V (fR F N m a) := by
  intro m
  induction m with
  | zero => intro a _ _ _ h; omega
  | succ m ih =>
    intro a h1 h2 h3 hr hb p
    by_cases y : r0 = m
    · subst y
      exact fB_v N _ (fun b a hb => h1 r0 b a (by omega) hb) (fun b a hb => h2 r0 b a (by omega) hb) h3 hb (fR_i r0 a (fun r b a hr hb => h1 r b a (by omega) hb) p)
    · exact fB_i N _ (fun b a hb => h2 m b a (by omega) hb) (ih a (fun r b a hr hb => h1 r b a (by omega) hb) (fun r b a hr hb => h2 r b a (by omega) hb) h3 (by omega) hb p)
theorem fB_x {α : Type} {F : Nat → α → α} {k : Nat} : ∀ (n : Nat) (a : α), k ≤ n → (∀ b a, k ≤ b → b < n → F b a = a) → fB F n a = fB F k a := by
  intro n
  induction n with
  | zero => intro a h _; rw [show k = 0 by omega]
  | succ n ih =>
    intro a h1 h2
    by_cases y : k = n + 1
    · rw [y]
    · show F n (fB F n a) = _
      rw [h2 n _ (by omega) (by omega)]
      exact ih a (by omega) (fun b a hb hb2 => h2 b a hb (by omega))
theorem sN_0 {G : Nat → Nat} : ∀ n, ¬ sN G n = 0 → ∃ b, b < n ∧ ¬ G b = 0 := by
  intro n
  induction n with
  | zero => intro h; exact absurd rfl h
  | succ n ih =>
    intro h
    by_cases y : G n = 0
    · obtain ⟨b, b1, b2⟩ := ih (fun z => h (by show sN G n + G n = 0; omega))
      exact ⟨b, by omega, b2⟩
    · exact ⟨n, by omega, y⟩
/-- a storm that has parts -/
theorem some_s {x y : MM} {n m : Nat} (L : LDF x y n m) : ∃ r b, r < m ∧ b < 2 ^ n ∧ ¬ lg_cmp (wB (fun p => rwA y p 4) b n * (cR y r).toInt64) (0 : Int64) ≤ 0 := by
  have n9 := L.1
  have e := pt_all (A := rwA y) (sr := sR y) (fun q hq => (kA_s L.2.2.2.2.2.1 q hq).2) (cN_s L).2
  have p10 := Nat.pow_pos (n := n) (show 0 < 10 by decide)
  obtain ⟨r, hr, r1⟩ := sN_0 (G := fun r => sN (ptN (rwA y) n (sR y) (cN y) (kA (rwA y)) 0 r) (2 ^ n)) m (by rw [e]; omega)
  obtain ⟨b, hb, b1⟩ := sN_0 (G := ptN (rwA y) n (sR y) (cN y) (kA (rwA y)) 0 r) (2 ^ n) r1
  obtain ⟨k1, k2⟩ := pa_z (b := b) n9 (kA_s L.2.2.2.2.2.1) (cN_s L).1 hr
  unfold ptN at b1
  rw [if_pos Int32.and_zero] at b1
  have e0 : (0 : Int64) = zN 0 := rfl
  refine ⟨r, b, hr, hb, fun z => b1 ?_⟩
  have z1 := (lg_cmp_le _ _).mp z
  rw [k1, e0] at z1
  have := (zN_le (by omega) (by omega)).mp z1
  omega
theorem hrm_b {A : Nat → Nat → Int32} {n : Nat} {s : Int32} (aw : AWF n A) (n9 : n ≤ 9) : ∀ p, p ≤ n → ∃ k, hrm A s p = iN k ∧ k ≤ 999 * p := by
  intro p
  induction p with
  | zero => intro _; exact ⟨0, rfl, by omega⟩
  | succ p ih =>
    intro hp
    obtain ⟨k, h1, h2⟩ := ih (by omega)
    obtain ⟨j, j1, j2⟩ := iN_ex (hi := 999) (show Bd 0 999 (A p 5) from (aw p (by omega)).1 5 (by decide))
    by_cases y : inB s p = true
    · refine ⟨k + j, ?_, by omega⟩
      show (if inB s p = true then hrm A s p + A p 5 else hrm A s p) = _
      rw [if_pos y, h1, j1, iN_a]
    · refine ⟨k, ?_, by omega⟩
      show (if inB s p = true then hrm A s p + A p 5 else hrm A s p) = _
      rw [if_neg y, h1]
abbrev TT : Type := Int32 × Int32 × Int32
noncomputable def woF (A : Nat → Nat → Int32) (n : Nat) (sr cr ch : Nat → Int32) (r b : Nat) (s : TT) : TT := if lg_cmp (wB ch b n * (cr r).toInt64) (0 : Int64) ≤ 0 then s else if hrm A (stN A n (sr r) (iN b) (-1) n).1 n ≤ s.2.2 then s else (iN r, iN b, hrm A (stN A n (sr r) (iN b) (-1) n).1 n)
theorem woF_0 {A : Nat → Nat → Int32} {n r b : Nat} {sr cr ch : Nat → Int32} {s : TT} (h : lg_cmp (wB ch b n * (cr r).toInt64) (0 : Int64) ≤ 0) : woF A n sr cr ch r b s = s := if_pos h
theorem woF_1 {A : Nat → Nat → Int32} {n r b : Nat} {sr cr ch : Nat → Int32} {s : TT} (h : ¬ lg_cmp (wB ch b n * (cr r).toInt64) (0 : Int64) ≤ 0) : woF A n sr cr ch r b s = if hrm A (stN A n (sr r) (iN b) (-1) n).1 n ≤ s.2.2 then s else (iN r, iN b, hrm A (stN A n (sr r) (iN b) (-1) n).1 n) := if_neg h
theorem wo_I {x : MM} {g : GG} {n m r : Nat} {A : Nat → Nat → Int32} {sr cr ch : Nat → Int32} {mg : Int32} {ih : Int32 → Int32 → Int32 → Int32 → Int64} (h : OK x g n m A sr cr mg ch) (su : SUP n mg ch) (hr : r < m) (a0 : TT) : ∀ (f b : Nat), 2 ^ n - b < f → b ≤ 2 ^ n → Fx_O_worstToldX_L25 ih x g (iN r) f (fB (woF A n sr cr ch r) b a0).1 (fB (woF A n sr cr ch r) b a0).2.1 (fB (woF A n sr cr ch r) b a0).2.2 (iN b) = ih (fB (woF A n sr cr ch r) (2 ^ n) a0).1 (fB (woF A n sr cr ch r) (2 ^ n) a0).2.1 (fB (woF A n sr cr ch r) (2 ^ n) a0).2.2 (iN (r + 1)) := by
  have n9 := h.1
  have p2 := p2_le n9
  have pp := Nat.two_pow_pos n
  intro f
  induction f with
  | zero => intro b h1; omega
  | succ f ihf =>
    intro b h1 h2
    rw [Fx_O_worstToldX_L25_s, all_X h.2.2.1.1 n9, xqb, iN_s]
    by_cases q : 2 ^ n ≤ b
    · rw [if_pos ((iN_lt (by omega) (by omega)).mpr (by omega)), show b = 2 ^ n by omega]
    · have hb : b < 2 ^ n := by omega
      have e : fB (woF A n sr cr ch r) (b + 1) a0 = woF A n sr cr ch r b (fB (woF A n sr cr ch r) b a0) := rfl
      have k := ihf (b + 1) (by omega) (by omega)
      rw [e] at k
      obtain ⟨S, hS⟩ : ∃ S, S = fB (woF A n sr cr ch r) b a0 := ⟨_, rfl⟩
      rw [← hS] at k ⊢
      rw [if_neg (fun z => by have := (iN_lt (by omega) (by omega)).mp z; omega), xqb, par_X h hr hb]
      unfold Fx_O_worstToldX_J89
      rw [iN_s]
      by_cases z : lg_cmp (wB ch b n * (cr r).toInt64) (0 : Int64) ≤ 0
      · rw [woF_0 z] at k
        rw [if_pos z]
        exact k
      · have hg := sup_p su hb z
        obtain ⟨w, hw, ew⟩ := (st_sb (A := A) (n := n) (st := sr r) (bk := iN b) (kp := -1) n n9).1
        rw [woF_1 z, ew] at k
        rw [if_neg z, wen_X h hr hb hg, ew, xqb, iN_cl (by omega), h.2.2.2.2.2.1 _ hw, xqb, xqb, xqb]
        by_cases y : hrm A (iN w) n ≤ S.2.2
        · rw [if_pos y] at k ⊢
          exact k
        · rw [if_neg y] at k ⊢
          rw [iN_cl (by omega), h.2.2.2.2.2.1 _ hw]
          exact k
noncomputable def woE (x : MM) (g : GG) (what : Int32) (s : TT) : Int64 := if what = 0 then s.1.toInt64 else if what = 1 then s.2.1.toInt64 else if what = 2 then s.2.2.toInt64 else if what = 3 then (if s.1 = -1 then -1 else Fx_O_partsX s.1 s.2.1 x g) else -1
theorem wo_L {x : MM} {g : GG} {n m : Nat} {A : Nat → Nat → Int32} {sr cr ch : Nat → Int32} {mg what : Int32} (h : OK x g n m A sr cr mg ch) (su : SUP n mg ch) : ∀ (f r : Nat), m - r < f → r ≤ m → Fx_O_worstToldX_L10 what x g f (fR (woF A n sr cr ch) (2 ^ n) r (-1, 0, -1)).1 (fR (woF A n sr cr ch) (2 ^ n) r (-1, 0, -1)).2.1 (fR (woF A n sr cr ch) (2 ^ n) r (-1, 0, -1)).2.2 (iN r) = woE x g what (fR (woF A n sr cr ch) (2 ^ n) m (-1, 0, -1)) := by
  have m4 := h.2.1
  have p2 := p2_le h.1
  intro f
  induction f with
  | zero => intro r h1; omega
  | succ f ihf =>
    intro r h1 h2
    rw [Fx_O_worstToldX_L10_s, h.2.2.2.1]
    by_cases q : m ≤ r
    · rw [if_pos ((iN_le (by omega) (by omega)).mpr q), show r = m by omega]
      unfold woE
      rw [xqb, xqb, xqb, xqb]
    · have e513 : (512 - (0 : Int32).toInt).toNat + 1 = 513 := by decide
      rw [if_neg (fun z => q ((iN_le (by omega) (by omega)).mp z)), e513]
      have k := wo_I (ih := Fx_O_worstToldX_L10 what x g f) h su (show r < m by omega) (fR (woF A n sr cr ch) (2 ^ n) r (-1, 0, -1)) 513 0 (by omega) (Nat.zero_le _)
      exact Eq.trans k (ihf (r + 1) (by omega) (by omega))
theorem wr_I {u y : MM} {g : GG} {n m r : Nat} {A : Nat → Nat → Int32} {sr cr : Nat → Int32} {ih : Int32 → Int32 → Int32 → Int32 → MM → Int64 × MM} (h22 : u 162 22 = iN n) (hr : r < m) (a0 : TT) (h0 : RR y n m A sr cr) : ∀ (f b : Nat) (y1 : MM), 2 ^ n - b < f → b ≤ 2 ^ n → FRM y1 y → ∃ y2, Fx_M_worstX_L53 ih g u (iN r) f (fB (woF A n sr cr (fun p => A p 4) r) b a0).1 (fB (woF A n sr cr (fun p => A p 4) r) b a0).2.1 (fB (woF A n sr cr (fun p => A p 4) r) b a0).2.2 (iN b) y1 = ih (fB (woF A n sr cr (fun p => A p 4) r) (2 ^ n) a0).1 (fB (woF A n sr cr (fun p => A p 4) r) (2 ^ n) a0).2.1 (fB (woF A n sr cr (fun p => A p 4) r) (2 ^ n) a0).2.2 (iN (r + 1)) y2 ∧ FRM y2 y := by
  have n9 := h0.1
  have p2 := p2_le n9
  have pp := Nat.two_pow_pos n
  intro f
  induction f with
  | zero => intro b y1 h1; omega
  | succ f ihf =>
    intro b y1 h1 h2 fr
    have h := rr_c h0 fr
    rw [Fx_M_worstX_L53_s, h22, (all_e n (by omega)).2.1, iN_s]
    by_cases q : 2 ^ n ≤ b
    · rw [if_pos ((iN_le (by omega) (by omega)).mpr q), show b = 2 ^ n by omega]
      exact ⟨y1, rfl, fr⟩
    · have hb : b < 2 ^ n := by omega
      have e : fB (woF A n sr cr (fun p => A p 4) r) (b + 1) a0 = woF A n sr cr (fun p => A p 4) r b (fB (woF A n sr cr (fun p => A p 4) r) b a0) := rfl
      have K := ihf (b + 1)
      rw [e] at K
      obtain ⟨S, hS⟩ : ∃ S, S = fB (woF A n sr cr (fun p => A p 4) r) b a0 := ⟨_, rfl⟩
      rw [← hS] at K ⊢
      rw [if_neg (fun z => q ((iN_le (by omega) (by omega)).mp z)), xqb, pr_X h hr hb]
      unfold Fx_M_worstX_J114
      rw [iN_s]
      by_cases z : lg_cmp (wB (fun p => A p 4) b n * (cr r).toInt64) (0 : Int64) ≤ 0
      · obtain ⟨y2, k1, k2⟩ := K y1 (by omega) (by omega) fr
        rw [woF_0 z] at k1
        rw [if_pos z]
        exact ⟨y2, k1, k2⟩
      · obtain ⟨y3, s1, s2, s3⟩ := sto_X (g := g) (bk := iN b) h hr
        obtain ⟨y2, k1, k2⟩ := K y3 (by omega) (by omega) (frm_t s3 fr)
        have hh := ho_X (g := g) (o := -1) (rr_c h s3).2.2.1 n9
        rw [s2.1, hro_all] at hh
        rw [woF_1 z] at k1
        rw [if_neg z, xqb, xqb, s1, hh, xqb, xqb]
        by_cases w : hrm A (stN A n (sr r) (iN b) (-1) n).1 n ≤ S.2.2
        · rw [if_pos w] at k1 ⊢
          exact ⟨y2, k1, k2⟩
        · rw [if_neg w] at k1 ⊢
          exact ⟨y2, k1, k2⟩
theorem wr_L {u : MM} {g : GG} {n m : Nat} {A : Nat → Nat → Int32} {sr cr : Nat → Int32} {what : Int32} (h0 : RR u n m A sr cr) : ∀ (f r : Nat) (y1 : MM), m - r < f → r ≤ m → FRM y1 u → ∃ y2, Fx_M_worstX_L39 what g u f (fR (woF A n sr cr (fun p => A p 4)) (2 ^ n) r (-1, 0, -1)).1 (fR (woF A n sr cr (fun p => A p 4)) (2 ^ n) r (-1, 0, -1)).2.1 (fR (woF A n sr cr (fun p => A p 4)) (2 ^ n) r (-1, 0, -1)).2.2 (iN r) y1 = (if what = 0 then (fR (woF A n sr cr (fun p => A p 4)) (2 ^ n) m (-1, 0, -1)).1.toInt64 else if what = 1 then (fR (woF A n sr cr (fun p => A p 4)) (2 ^ n) m (-1, 0, -1)).2.1.toInt64 else if what = 2 then (fR (woF A n sr cr (fun p => A p 4)) (2 ^ n) m (-1, 0, -1)).2.2.toInt64 else Fx_M_partsOfX (fR (woF A n sr cr (fun p => A p 4)) (2 ^ n) m (-1, 0, -1)).1 (fR (woF A n sr cr (fun p => A p 4)) (2 ^ n) m (-1, 0, -1)).2.1 y2 g, y2) ∧ FRM y2 u := by
  have m4 := h0.2.1
  have p2 := p2_le h0.1
  intro f
  induction f with
  | zero => intro r y1 h1; omega
  | succ f ihf =>
    intro r y1 h1 h2 fr
    rw [Fx_M_worstX_L39_s, h0.2.2.2.2.2.2.1]
    by_cases q : m ≤ r
    · rw [if_pos ((iN_le (by omega) (by omega)).mpr q), show r = m by omega]
      refine ⟨y1, ?_, fr⟩
      rw [xqb, xqb, xqb, xqb]
      split
      · rfl
      · split
        · rfl
        · split <;> rfl
    · have e513 : (512 - (0 : Int32).toInt).toNat + 1 = 513 := by decide
      rw [if_neg (fun z => q ((iN_le (by omega) (by omega)).mp z)), e513]
      obtain ⟨y3, k1, k2⟩ := wr_I (ih := Fx_M_worstX_L39 what g u f) (g := g) h0.2.2.1.1 (show r < m by omega) (fR (woF A n sr cr (fun p => A p 4)) (2 ^ n) r (-1, 0, -1)) h0 513 0 y1 (by omega) (Nat.zero_le _) fr
      obtain ⟨y2, j1, j2⟩ := ihf (r + 1) y3 (by omega) (by omega) k2
      exact ⟨y2, Eq.trans k1 j1, j2⟩
/-- the worst storm is one -/
theorem wo_V {x y : MM} {n m : Nat} (L : LDF x y n m) : ∃ r b, r < m ∧ b < 2 ^ n ∧ (fR (woF (rwA y) n (sR y) (cR y) (fun p => rwA y p 4)) (2 ^ n) m (-1, 0, -1)).1 = iN r ∧ (fR (woF (rwA y) n (sR y) (cR y) (fun p => rwA y p 4)) (2 ^ n) m (-1, 0, -1)).2.1 = iN b := by
  have n9 := L.1
  have aw := L.2.2.2.2.2.1
  obtain ⟨r0, b0, hr0, hb0, h0⟩ := some_s L
  have hV := fR_v (F := woF (rwA y) n (sR y) (cR y) (fun p => rwA y p 4)) (N := 2 ^ n) (P := fun s : TT => s = (-1, 0, -1) ∨ ∃ r b, r < m ∧ b < 2 ^ n ∧ s.1 = iN r ∧ s.2.1 = iN b) (V := fun s : TT => ∃ r b, r < m ∧ b < 2 ^ n ∧ s.1 = iN r ∧ s.2.1 = iN b) (r0 := r0) (b0 := b0) m (-1, 0, -1) (fun r b a hr hb p => by
    unfold woF
    split
    · exact p
    · split
      · exact p
      · exact Or.inr ⟨r, b, hr, hb, rfl, rfl⟩) (fun r b a hr hb p => by
    unfold woF
    split
    · exact p
    · split
      · exact p
      · exact ⟨r, b, hr, hb, rfl, rfl⟩) (fun a p => by
    rw [woF_1 h0]
    by_cases w : hrm (rwA y) (stN (rwA y) n (sR y r0) (iN b0) (-1) n).1 n ≤ a.2.2
    · rw [if_pos w]
      rcases p with p | p
      · rw [p] at w
        obtain ⟨k, k1, k2⟩ := hrm_b (s := (stN (rwA y) n (sR y r0) (iN b0) (-1) n).1) aw n9 n (Nat.le_refl _)
        have w1 := Int32.le_iff_toInt_le.mp w
        rw [k1, iN_ti (by omega)] at w1
        have : (-1 : Int32).toInt = -1 := rfl
        have w2 : (k : Int) ≤ (-1 : Int32).toInt := w1
        omega
      · exact p
    · rw [if_neg w]
      exact ⟨r0, b0, hr0, hb0, rfl, rfl⟩) hr0 hb0 (Or.inl rfl)
  exact hV
theorem wo_eq {A : Nat → Nat → Int32} {n m : Nat} {sr cr ch ch2 : Nat → Int32} {a : TT} (hch : ∀ p, p < n → ch p = ch2 p) : fR (woF A n sr cr ch) (2 ^ n) m a = fR (woF A n sr cr ch2) (2 ^ n) m a := by
  refine fR_c m a (fun r b a hr hb => ?_)
  unfold woF
  rw [wB_c (ch2 := ch2) (b2 := b) n (fun q hq => ⟨hch q hq, rfl⟩)]
theorem R5_worst {u v u1 v2 : MM} {g g' g1 : GG} {hill plan what : Int32} {z w : Int64} (h : RLY u v) (b5 : Bd 0 2 (u 1 5)) (b7 : Bd 0 3 (u 1 7)) (hd : HD v) (pl : PL v) (e1 : (z, u1, g1) = Fx_P_worstX hill plan what u g) (e2 : (w, v2) = Fx_M_worstX hill plan what v g') : z = w := by
  obtain ⟨b, x, y, p1, p2, p3⟩ := lay_Y (g := g) (g' := g') (hill := hill) (plan := plan) h b5 b7 hd pl
  unfold Fx_P_worstX at e1
  unfold Fx_M_worstX at e2
  rw [xqb, p2, c2_mk] at e2
  cases b
  · rw [looks_F p1, c3_mk, if_neg Bool.false_ne_true] at e1
    rw [if_neg Bool.false_ne_true] at e2
    exact (congrArg Prod.fst e1).trans (congrArg Prod.fst e2).symm
  obtain ⟨n, m, L⟩ := p3 rfl
  obtain ⟨x', g2, k1, K, k3⟩ := looks_T (g := g) p1 L
  rw [k1, c3_mk, if_pos rfl] at e1
  rw [if_pos rfl] at e2
  have n9 := L.1
  have m4 := L.2.2.1
  have rr := rr_L L
  have su := sup_m (md := 0) n9 L.2.2.2.2.2.1
  have e5 : (4 - (0 : Int32).toInt).toNat + 1 = 5 := by decide
  have hch : ∀ p, p < n → chM (rwA y) 0 0 p = rwA y p 4 := fun p hp => chM_0 (by omega)
  unfold Fx_O_worstToldX at e1
  have c1 := wo_L (what := what) K.1 su 5 0 (by omega) (by omega)
  have c1' : Fx_O_worstToldX_L10 what x' g2 5 (-1) 0 (-1) 0 = woE x' g2 what (fR (woF (rwA y) n (sR y) (cR y) (chM (rwA y) 0 0)) (2 ^ n) m (-1, 0, -1)) := c1
  rw [xqb, e5, c1', wo_eq hch] at e1
  obtain ⟨r, b, hr, hb, s1, s2⟩ := wo_V L
  obtain ⟨S, hS⟩ : ∃ S, S = fR (woF (rwA y) n (sR y) (cR y) (fun p => rwA y p 4)) (2 ^ n) m (-1, 0, -1) := ⟨_, rfl⟩
  rw [← hS] at s1 s2 e1
  rw [xqb, in_X] at e2
  have z1 : z = woE x' g2 what S := congrArg Prod.fst e1
  rw [z1]
  unfold woE
  have l0 : (0 : Int32).toInt = 0 := rfl
  have l1 : (1 : Int32).toInt = 1 := rfl
  have l2 : (2 : Int32).toInt = 2 := rfl
  have l3 : (3 : Int32).toInt = 3 := rfl
  by_cases hw : 0 ≤ what.toInt ∧ what.toInt ≤ 3
  · obtain ⟨y2, d1, d2⟩ := wr_L (g := g') (what := what) rr 5 0 y (by omega) (by omega) frm_0
    have d1' : Fx_M_worstX_L39 what g' y 5 (-1) 0 (-1) 0 y = (if what = 0 then S.1.toInt64 else if what = 1 then S.2.1.toInt64 else if what = 2 then S.2.2.toInt64 else Fx_M_partsOfX S.1 S.2.1 y2 g', y2) := by rw [hS]; exact d1
    rw [inT (by omega) (by omega), if_pos rfl, e5, d1'] at e2
    have w1 := congrArg Prod.fst e2
    dsimp only at w1
    rw [w1]
    by_cases c0 : what = 0
    · rw [if_pos c0, if_pos c0]
    by_cases c1 : what = 1
    · rw [if_neg c0, if_neg c0, if_pos c1, if_pos c1]
    by_cases c2 : what = 2
    · rw [if_neg c0, if_neg c0, if_neg c1, if_neg c1, if_pos c2, if_pos c2]
    have c3 : what = 3 := by
      refine Int32.toInt_inj.mp ?_
      have d0 : ¬ what.toInt = 0 := fun q => c0 (Int32.toInt_inj.mp q)
      have d1 : ¬ what.toInt = 1 := fun q => c1 (Int32.toInt_inj.mp q)
      have d2 : ¬ what.toInt = 2 := fun q => c2 (Int32.toInt_inj.mp q)
      omega
    have nr : ¬ iN r = -1 := fun q => by
      have q1 := congrArg Int32.toInt q
      rw [iN_ti (by omega)] at q1
      have : (-1 : Int32).toInt = -1 := rfl
      omega
    rw [if_neg c0, if_neg c0, if_neg c1, if_neg c1, if_neg c2, if_neg c2, if_pos c3, s1, s2, if_neg nr, par_X K.1 hr hb, pr_X (rr_c rr d2) hr hb, wB_c (ch2 := fun p => rwA y p 4) (b2 := b) n (fun q hq => ⟨hch q hq, rfl⟩)]
  · have c0 : ¬ what = 0 := fun q => hw (by rw [q]; decide)
    have c1 : ¬ what = 1 := fun q => hw (by rw [q]; decide)
    have c2 : ¬ what = 2 := fun q => hw (by rw [q]; decide)
    have c3 : ¬ what = 3 := fun q => hw (by rw [q]; decide)
    rw [(Bool.not_eq_true _).mp (inF (v := what) (lo := 0) (hi := 3) (by omega)), if_neg Bool.false_ne_true] at e2
    rw [if_neg c0, if_neg c1, if_neg c2, if_neg c3]
    exact (congrArg Prod.fst e2).symm
/-! flood -/
theorem ok_c {x y : MM} {g : GG} {n m : Nat} {A : Nat → Nat → Int32} {sr cr ch : Nat → Int32} {mg : Int32} (h : OK x g n m A sr cr mg ch) (hc : ∀ c, 60 < c → y c = x c) : OK y g n m A sr cr mg ch := by
  obtain ⟨n9, m4, ha, h1, h2, h3, h4, h5⟩ := h
  refine ⟨n9, m4, ha_c ha (hc 61 (by decide)) (hc 62 (by decide)), ?_, fun i hi => ?_, fun s hs => ?_, fun r b hr hb hg => ?_, h5⟩
  · rw [hc 61 (by decide)]; exact h1
  · rw [hc 63 (by decide), hc 64 (by decide)]; exact h2 i hi
  · rw [hc 67 (by decide)]; exact h3 s hs
  · rw [hc 66 (by decide)]; exact h4 r b hr hb hg
theorem sp61_X {x : MM} {g : GG} {n m r : Nat} {A : Nat → Nat → Int32} {sr cr ch : Nat → Int32} {mg : Int32} (h : OK x g n m A sr cr mg ch) (hr : r < m) : Fx_H_stepsOfX (iN r) 61 x g = sr r := by
  obtain ⟨n9, m4, ha, h1, h2, h3, h4, h5⟩ := h
  unfold Fx_H_stepsOfX
  rw [if_neg (show ¬ iN r < (0 : Int32) from fun z => by have := (iN_lt (b := 0) (by omega) (by omega)).mp z; omega), h1, if_neg (fun z => by have := (iN_le (by omega) (by omega)).mp z; omega), xqb, iN_cl (by omega)]
  exact (h2 r hr).1
noncomputable def flF (A : Nat → Nat → Int32) (n : Nat) (sr cr ch : Nat → Int32) (r b : Nat) (a : Int32) : Int32 := if lg_cmp (wB ch b n * (cr r).toInt64) (0 : Int64) ≤ 0 then a else if a < (stN A n (sr r) (iN b) (-1) n).2.2.1 then (stN A n (sr r) (iN b) (-1) n).2.2.1 else a
theorem flF_0 {A : Nat → Nat → Int32} {n r b : Nat} {sr cr ch : Nat → Int32} {a : Int32} (h : lg_cmp (wB ch b n * (cr r).toInt64) (0 : Int64) ≤ 0) : flF A n sr cr ch r b a = a := if_pos h
theorem flF_1 {A : Nat → Nat → Int32} {n r b : Nat} {sr cr ch : Nat → Int32} {a : Int32} (h : ¬ lg_cmp (wB ch b n * (cr r).toInt64) (0 : Int64) ≤ 0) : flF A n sr cr ch r b a = if a < (stN A n (sr r) (iN b) (-1) n).2.2.1 then (stN A n (sr r) (iN b) (-1) n).2.2.1 else a := if_neg h
theorem fl_I {g : GG} {n m r : Nat} {A : Nat → Nat → Int32} {sr cr ch : Nat → Int32} {mg : Int32} {ih : Int32 → Int32 → MM → Int32 × MM} (hr : r < m) (a0 : Int32) : ∀ (f b : Nat) (x : MM), 2 ^ n - b < f → b ≤ 2 ^ n → OK x g n m A sr cr mg ch → ∃ x', Fx_O_mostInBrookX_L17 ih g (iN r) f (fB (flF A n sr cr ch r) b a0) (iN b) x = ih (fB (flF A n sr cr ch r) (2 ^ n) a0) (iN (r + 1)) x' ∧ OK x' g n m A sr cr mg ch := by
  intro f
  induction f with
  | zero => intro b x h1; omega
  | succ f ihf =>
    intro b x h1 h2 h
    have n9 := h.1
    have p2 := p2_le n9
    have pp := Nat.two_pow_pos n
    rw [Fx_O_mostInBrookX_L17_s, all_X h.2.2.1.1 n9, xqb, iN_s]
    by_cases q : 2 ^ n ≤ b
    · rw [if_pos ((iN_lt (by omega) (by omega)).mpr (by omega)), show b = 2 ^ n by omega]
      exact ⟨x, rfl, h⟩
    · have hb : b < 2 ^ n := by omega
      have e : fB (flF A n sr cr ch r) (b + 1) a0 = flF A n sr cr ch r b (fB (flF A n sr cr ch r) b a0) := rfl
      rw [if_neg (fun z => by have := (iN_lt (by omega) (by omega)).mp z; omega), xqb, par_X h hr hb]
      unfold Fx_O_mostInBrookX_J72
      rw [iN_s]
      by_cases z : lg_cmp (wB ch b n * (cr r).toInt64) (0 : Int64) ≤ 0
      · obtain ⟨x', k1, k2⟩ := ihf (b + 1) x (by omega) (by omega) h
        rw [e, flF_0 z] at k1
        rw [if_pos z]
        exact ⟨x', k1, k2⟩
      · obtain ⟨y1, a0', a1, a2, a3, a4⟩ := rn58_X (g := g) (st := sr r) (bk := iN b) (kp := -1) h.2.2.1 (by decide) n9
        obtain ⟨x', k1, k2⟩ := ihf (b + 1) y1 (by omega) (by omega) (ok_c h (fun c hc => a3 c (Or.inr hc)))
        rw [e, flF_1 z] at k1
        rw [if_neg z, xqb, sp61_X h hr, xqb, a0', xqb, a1.2.2.1]
        exact ⟨x', k1, k2⟩
theorem fl_L {u : MM} {g : GG} {n m : Nat} {A : Nat → Nat → Int32} {sr cr ch : Nat → Int32} {mg : Int32} (h2m : u 61 2 = iN m) : ∀ (f r : Nat) (x : MM), m - r < f → r ≤ m → OK x g n m A sr cr mg ch → ∃ x', Fx_O_mostInBrookX_L4 u g f (fR (flF A n sr cr ch) (2 ^ n) r 0) (iN r) x = (fR (flF A n sr cr ch) (2 ^ n) m 0, x') := by
  intro f
  induction f with
  | zero => intro r x h1; omega
  | succ f ihf =>
    intro r x h1 h2 h
    have m4 := h.2.1
    have p2 := p2_le h.1
    rw [Fx_O_mostInBrookX_L4_s, h2m]
    by_cases q : m ≤ r
    · rw [if_pos ((iN_le (by omega) (by omega)).mpr q), show r = m by omega]
      exact ⟨x, rfl⟩
    · have e513 : (512 - (0 : Int32).toInt).toNat + 1 = 513 := by decide
      rw [if_neg (fun z => q ((iN_le (by omega) (by omega)).mp z)), e513]
      obtain ⟨x1, k1, k2⟩ := fl_I (ih := Fx_O_mostInBrookX_L4 u g f) (show r < m by omega) (fR (flF A n sr cr ch) (2 ^ n) r 0) 513 0 x (by omega) (Nat.zero_le _) h
      obtain ⟨x', j1⟩ := ihf (r + 1) x1 (by omega) (by omega) k2
      exact ⟨x', Eq.trans k1 j1⟩
theorem mx_le {a b : Int32} : (if b ≤ a then a else b) = if a < b then b else a := by
  by_cases q : b ≤ a
  · rw [if_pos q, if_neg (fun z => by
      have z1 := Int32.lt_iff_toInt_lt.mp z
      have z2 := Int32.le_iff_toInt_le.mp q
      omega)]
  · rw [if_neg q, if_pos (by
      refine Int32.lt_iff_toInt_lt.mpr ?_
      have : ¬ b.toInt ≤ a.toInt := fun z => q (Int32.le_iff_toInt_le.mpr z)
      omega)]
theorem fm_I {u y : MM} {g : GG} {n m r : Nat} {A : Nat → Nat → Int32} {sr cr : Nat → Int32} {ih : Int32 → Int32 → MM → Int32 × MM} (h22 : u 162 22 = iN n) (hr : r < m) (a0 : Int32) (h0 : RR y n m A sr cr) : ∀ (f b : Nat) (y1 : MM), 2 ^ n - b < f → b ≤ 2 ^ n → FRM y1 y → ∃ y2, Fx_M_floodX_L35 ih g u (iN r) f (fB (flF A n sr cr (fun p => A p 4) r) b a0) (iN b) y1 = ih (fB (flF A n sr cr (fun p => A p 4) r) (2 ^ n) a0) (iN (r + 1)) y2 ∧ FRM y2 y := by
  have n9 := h0.1
  have p2 := p2_le n9
  have pp := Nat.two_pow_pos n
  intro f
  induction f with
  | zero => intro b y1 h1; omega
  | succ f ihf =>
    intro b y1 h1 h2 fr
    have h := rr_c h0 fr
    rw [Fx_M_floodX_L35_s, h22, (all_e n (by omega)).2.1, iN_s]
    by_cases q : 2 ^ n ≤ b
    · rw [if_pos ((iN_le (by omega) (by omega)).mpr q), show b = 2 ^ n by omega]
      exact ⟨y1, rfl, fr⟩
    · have hb : b < 2 ^ n := by omega
      have e : fB (flF A n sr cr (fun p => A p 4) r) (b + 1) a0 = flF A n sr cr (fun p => A p 4) r b (fB (flF A n sr cr (fun p => A p 4) r) b a0) := rfl
      rw [if_neg (fun z => q ((iN_le (by omega) (by omega)).mp z)), xqb, pr_X h hr hb]
      unfold Fx_M_floodX_J87 Fx_M_floodX_J88
      rw [iN_s]
      by_cases z : lg_cmp (wB (fun p => A p 4) b n * (cr r).toInt64) (0 : Int64) ≤ 0
      · obtain ⟨y2, k1, k2⟩ := ihf (b + 1) y1 (by omega) (by omega) fr
        rw [e, flF_0 z] at k1
        rw [if_pos z]
        exact ⟨y2, k1, k2⟩
      · obtain ⟨y3, s1, s2, s3⟩ := sto_X (g := g) (bk := iN b) h hr
        obtain ⟨y2, k1, k2⟩ := ihf (b + 1) y3 (by omega) (by omega) (frm_t s3 fr)
        rw [e, flF_1 z, ← mx_le] at k1
        rw [if_neg z, xqb, xqb, s1, s2.2.2.1]
        by_cases w : (stN A n (sr r) (iN b) (-1) n).2.2.1 ≤ fB (flF A n sr cr (fun p => A p 4) r) b a0
        · rw [if_pos w] at k1 ⊢
          exact ⟨y2, k1, k2⟩
        · rw [if_neg w] at k1 ⊢
          exact ⟨y2, k1, k2⟩
theorem fm_L {u : MM} {g : GG} {n m : Nat} {A : Nat → Nat → Int32} {sr cr : Nat → Int32} (h0 : RR u n m A sr cr) : ∀ (f r : Nat) (y1 : MM), m - r < f → r ≤ m → FRM y1 u → ∃ y2, Fx_M_floodX_L21 g u f (fR (flF A n sr cr (fun p => A p 4)) (2 ^ n) r 0) (iN r) y1 = (fR (flF A n sr cr (fun p => A p 4)) (2 ^ n) m 0, y2) := by
  have m4 := h0.2.1
  have p2 := p2_le h0.1
  intro f
  induction f with
  | zero => intro r y1 h1; omega
  | succ f ihf =>
    intro r y1 h1 h2 fr
    rw [Fx_M_floodX_L21_s, h0.2.2.2.2.2.2.1]
    by_cases q : m ≤ r
    · rw [if_pos ((iN_le (by omega) (by omega)).mpr q), show r = m by omega]
      exact ⟨y1, rfl⟩
    · have e513 : (512 - (0 : Int32).toInt).toNat + 1 = 513 := by decide
      rw [if_neg (fun z => q ((iN_le (by omega) (by omega)).mp z)), e513]
      obtain ⟨y3, k1, k2⟩ := fm_I (ih := Fx_M_floodX_L21 g u f) (g := g) h0.2.2.1.1 (show r < m by omega) (fR (flF A n sr cr (fun p => A p 4)) (2 ^ n) r 0) h0 513 0 y1 (by omega) (Nat.zero_le _) fr
      obtain ⟨y2, j1⟩ := ihf (r + 1) y3 (by omega) (by omega) k2
      exact ⟨y2, Eq.trans k1 j1⟩
theorem fl_eq {A : Nat → Nat → Int32} {n m : Nat} {sr cr ch ch2 : Nat → Int32} {a : Int32} (hch : ∀ p, p < n → ch p = ch2 p) : fR (flF A n sr cr ch) (2 ^ n) m a = fR (flF A n sr cr ch2) (2 ^ n) m a := by
  refine fR_c m a (fun r b a hr hb => ?_)
  unfold flF
  rw [wB_c (ch2 := ch2) (b2 := b) n (fun q hq => ⟨hch q hq, rfl⟩)]
theorem R5_flood {u v u1 v2 : MM} {g g' g1 : GG} {hill plan z w : Int32} (h : RLY u v) (b5 : Bd 0 2 (u 1 5)) (b7 : Bd 0 3 (u 1 7)) (hd : HD v) (pl : PL v) (e1 : (z, u1, g1) = Fx_P_floodX hill plan u g) (e2 : (w, v2) = Fx_M_floodX hill plan v g') : z = w := by
  obtain ⟨b, x, y, p1, p2, p3⟩ := lay_Y (g := g) (g' := g') (hill := hill) (plan := plan) h b5 b7 hd pl
  unfold Fx_P_floodX at e1
  unfold Fx_M_floodX at e2
  rw [xqb, p2, c2_mk] at e2
  cases b
  · rw [looks_F p1, c3_mk, if_neg Bool.false_ne_true] at e1
    rw [if_neg Bool.false_ne_true] at e2
    exact (congrArg Prod.fst e1).trans (congrArg Prod.fst e2).symm
  obtain ⟨n, m, L⟩ := p3 rfl
  obtain ⟨x', g2, k1, K, k3⟩ := looks_T (g := g) p1 L
  rw [k1, c3_mk, if_pos rfl] at e1
  rw [if_pos rfl] at e2
  have n9 := L.1
  have m4 := L.2.2.1
  have rr := rr_L L
  have e5 : (4 - (0 : Int32).toInt).toNat + 1 = 5 := by decide
  unfold Fx_O_mostInBrookX at e1
  obtain ⟨x2, c1⟩ := fl_L K.1.2.2.2.1 5 0 x' (by omega) (by omega) K.1
  have c1' : Fx_O_mostInBrookX_L4 x' g2 5 0 0 x' = (fR (flF (rwA y) n (sR y) (cR y) (chM (rwA y) 0 0)) (2 ^ n) m 0, x2) := c1
  rw [e5, c1', c2_mk, fl_eq (ch2 := fun p => rwA y p 4) (fun p hp => chM_0 (by omega))] at e1
  obtain ⟨y2, d1⟩ := fm_L (g := g') rr 5 0 y (by omega) (by omega) frm_0
  have d1' : Fx_M_floodX_L21 g' y 5 0 0 y = (fR (flF (rwA y) n (sR y) (cR y) (fun p => rwA y p 4)) (2 ^ n) m 0, y2) := d1
  rw [e5, d1'] at e2
  exact (congrArg Prod.fst e1).trans (congrArg Prod.fst e2).symm
/-! deep -/
theorem sub_1 {b w : Nat} (hb : b < 512) (hw : w < 512) (h : iN b &&& (iN w ^^^ (-1)) = 0) : ∀ p, b.testBit p = true → w.testBit p = true := by
  intro p hp
  have p9 : p < 9 := by
    by_cases z : p < 9
    · exact z
    · rw [Nat.testBit_lt_two_pow (Nat.lt_of_lt_of_le hb (Nat.pow_le_pow_right (n := 2) (i := 9) (by decide) (by omega)))] at hp
      exact absurd hp (by decide)
  have h1 := congrArg (fun v : Int32 => v.toBitVec.getLsbD p) h
  have h2 : (BitVec.ofNat 32 b &&& (BitVec.ofNat 32 w ^^^ BitVec.allOnes 32)).getLsbD p = (BitVec.ofNat 32 0).getLsbD p := h1
  rw [BitVec.getLsbD_and, BitVec.getLsbD_xor, BitVec.getLsbD_ofNat, BitVec.getLsbD_ofNat, BitVec.getLsbD_ofNat, BitVec.getLsbD_allOnes, decide_eq_true (show p < 32 by omega), Nat.zero_testBit, hp] at h2
  cases t : w.testBit p
  · rw [t] at h2
    exact absurd h2 (by decide)
  · rfl
theorem sub_le {b w : Nat} (h : ∀ p, b.testBit p = true → w.testBit p = true) : b ≤ w := by
  have e : b &&& w = b := by
    refine Nat.eq_of_testBit_eq (fun i => ?_)
    rw [Nat.testBit_and]
    by_cases t : b.testBit i = true
    · rw [h i t, t]; rfl
    · rw [(Bool.not_eq_true _).mp t]; rfl
  rw [← e]
  exact Nat.and_le_right
noncomputable def dpF (A : Nat → Nat → Int32) (n : Nat) (sr : Nat → Int32) (mg : Int32) (r b : Nat) (a : Int32) : Int32 := if iN b &&& (mg ^^^ (-1)) = 0 then (if a < onesN (stN A n (sr r) (iN b) (-1) n).1 9 then onesN (stN A n (sr r) (iN b) (-1) n).1 9 else a) else a
theorem dpF_0 {A : Nat → Nat → Int32} {n r b : Nat} {sr : Nat → Int32} {mg a : Int32} (h : ¬ iN b &&& (mg ^^^ (-1)) = 0) : dpF A n sr mg r b a = a := if_neg h
theorem dpF_1 {A : Nat → Nat → Int32} {n r b : Nat} {sr : Nat → Int32} {mg a : Int32} (h : iN b &&& (mg ^^^ (-1)) = 0) : dpF A n sr mg r b a = if a < onesN (stN A n (sr r) (iN b) (-1) n).1 9 then onesN (stN A n (sr r) (iN b) (-1) n).1 9 else a := if_pos h
theorem dp_I {x : MM} {g : GG} {n m r : Nat} {A : Nat → Nat → Int32} {sr cr ch : Nat → Int32} {mg : Int32} {ih : Int32 → Int32 → Int32} (h : OK x g n m A sr cr mg ch) (hr : r < m) (a0 : Int32) : ∀ (f b : Nat), 2 ^ n - b < f → b ≤ 2 ^ n → Fx_O_mostThatWentX_L26 ih x g mg (iN r) f (fB (dpF A n sr mg r) b a0) (iN b) = ih (fB (dpF A n sr mg r) (2 ^ n) a0) (iN (r + 1)) := by
  have n9 := h.1
  have p2 := p2_le n9
  have pp := Nat.two_pow_pos n
  intro f
  induction f with
  | zero => intro b h1; omega
  | succ f ihf =>
    intro b h1 h2
    rw [Fx_O_mostThatWentX_L26_s, all_X h.2.2.1.1 n9, xqb]
    by_cases q : 2 ^ n ≤ b
    · rw [if_pos ((iN_lt (by omega) (by omega)).mpr (by omega)), iN_s, show b = 2 ^ n by omega]
    · have hb : b < 2 ^ n := by omega
      have e : fB (dpF A n sr mg r) (b + 1) a0 = dpF A n sr mg r b (fB (dpF A n sr mg r) b a0) := rfl
      have k := ihf (b + 1) (by omega) (by omega)
      rw [e] at k
      rw [if_neg (fun z => by have := (iN_lt (by omega) (by omega)).mp z; omega)]
      unfold Fx_O_mostThatWentX_J62
      rw [iN_s]
      by_cases z : iN b &&& (mg ^^^ (-1)) = 0
      · obtain ⟨w, hw, ew⟩ := (st_sb (A := A) (n := n) (st := sr r) (bk := iN b) (kp := -1) n n9).1
        rw [dpF_1 z, ew] at k
        rw [if_pos z, wen_X h hr hb z, ew, xqb, bc_e (v := x) w (by omega), xqb, xqb]
        exact k
      · rw [dpF_0 z] at k
        rw [if_neg z]
        exact k
theorem dp_L {x : MM} {g : GG} {n m : Nat} {A : Nat → Nat → Int32} {sr cr ch : Nat → Int32} {mg : Int32} (h : OK x g n m A sr cr mg ch) : ∀ (f r : Nat), m - r < f → r ≤ m → Fx_O_mostThatWentX_L12 x g mg f (fR (dpF A n sr mg) (2 ^ n) r 0) (iN r) = fR (dpF A n sr mg) (2 ^ n) m 0 := by
  have m4 := h.2.1
  have p2 := p2_le h.1
  intro f
  induction f with
  | zero => intro r h1; omega
  | succ f ihf =>
    intro r h1 h2
    rw [Fx_O_mostThatWentX_L12_s, h.2.2.2.1]
    by_cases q : m ≤ r
    · rw [if_pos ((iN_le (by omega) (by omega)).mpr q), show r = m by omega]
    · have e513 : (512 - (0 : Int32).toInt).toNat + 1 = 513 := by decide
      rw [if_neg (fun z => q ((iN_le (by omega) (by omega)).mp z)), e513]
      have k := dp_I (ih := Fx_O_mostThatWentX_L12 x g mg f) h (show r < m by omega) (fR (dpF A n sr mg) (2 ^ n) r 0) 513 0 (by omega) (Nat.zero_le _)
      exact Eq.trans k (ihf (r + 1) (by omega) (by omega))
theorem dr_I {y : MM} {g : GG} {n m r K : Nat} {A : Nat → Nat → Int32} {sr cr : Nat → Int32} {ih : Int32 → Int32 → MM → Int32 × MM} (hK : K < 2 ^ n) (hr : r < m) (a0 : Int32) (h0 : RR y n m A sr cr) : ∀ (f b : Nat) (y1 : MM), K + 1 - b < f → b ≤ K + 1 → FRM y1 y → ∃ y2, Fx_M_deepX_L77 ih g (iN K) (iN r) f (fB (dpF A n sr (iN K) r) b a0) (iN b) y1 = ih (fB (dpF A n sr (iN K) r) (K + 1) a0) (iN (r + 1)) y2 ∧ FRM y2 y := by
  have n9 := h0.1
  have p2 := p2_le n9
  intro f
  induction f with
  | zero => intro b y1 h1; omega
  | succ f ihf =>
    intro b y1 h1 h2 fr
    have h := rr_c h0 fr
    rw [Fx_M_deepX_L77_s]
    by_cases q : K + 1 ≤ b
    · rw [if_pos ((iN_lt (by omega) (by omega)).mpr (by omega)), iN_s, show b = K + 1 by omega]
      exact ⟨y1, rfl, fr⟩
    · have e : fB (dpF A n sr (iN K) r) (b + 1) a0 = dpF A n sr (iN K) r b (fB (dpF A n sr (iN K) r) b a0) := rfl
      rw [if_neg (fun z => by have := (iN_lt (by omega) (by omega)).mp z; omega)]
      unfold Fx_M_deepX_J128 Fx_M_deepX_J130
      rw [iN_s]
      by_cases z : iN b &&& (iN K ^^^ (-1)) = 0
      · obtain ⟨y3, s1, s2, s3⟩ := sto_X (g := g) (bk := iN b) h hr
        obtain ⟨y2, k1, k2⟩ := ihf (b + 1) y3 (by omega) (by omega) (frm_t s3 fr)
        rw [e, dpF_1 z, ← mx_le] at k1
        rw [if_pos z, xqb, xqb, s1, s2.1]
        by_cases w : onesN (stN A n (sr r) (iN b) (-1) n).1 9 ≤ fB (dpF A n sr (iN K) r) b a0
        · rw [if_pos w] at k1 ⊢
          exact ⟨y2, k1, k2⟩
        · rw [if_neg w] at k1 ⊢
          exact ⟨y2, k1, k2⟩
      · obtain ⟨y2, k1, k2⟩ := ihf (b + 1) y1 (by omega) (by omega) fr
        rw [e, dpF_0 z] at k1
        rw [if_neg z]
        exact ⟨y2, k1, k2⟩
theorem dr_L {u : MM} {g : GG} {n m K : Nat} {A : Nat → Nat → Int32} {sr cr : Nat → Int32} (h0 : RR u n m A sr cr) (hK : K < 2 ^ n) : ∀ (f r : Nat) (y1 : MM), m - r < f → r ≤ m → FRM y1 u → ∃ y2, Fx_M_deepX_L63 g u (iN K) f (fR (dpF A n sr (iN K)) (2 ^ n) r 0) (iN r) y1 = (fR (dpF A n sr (iN K)) (2 ^ n) m 0, y2) := by
  have m4 := h0.2.1
  have p2 := p2_le h0.1
  intro f
  induction f with
  | zero => intro r y1 h1; omega
  | succ f ihf =>
    intro r y1 h1 h2 fr
    rw [Fx_M_deepX_L63_s, h0.2.2.2.2.2.2.1]
    by_cases q : m ≤ r
    · rw [if_pos ((iN_le (by omega) (by omega)).mpr q), show r = m by omega]
      exact ⟨y1, rfl⟩
    · have e513 : (512 - (0 : Int32).toInt).toNat + 1 = 513 := by decide
      rw [if_neg (fun z => q ((iN_le (by omega) (by omega)).mp z)), e513]
      obtain ⟨y3, k1, k2⟩ := dr_I (ih := Fx_M_deepX_L63 g u (iN K) f) (g := g) hK (show r < m by omega) (fR (dpF A n sr (iN K)) (2 ^ n) r 0) h0 513 0 y1 (by omega) (Nat.zero_le _) fr
      obtain ⟨y2, j1⟩ := ihf (r + 1) y3 (by omega) (by omega) k2
      have ex : fB (dpF A n sr (iN K) r) (2 ^ n) (fR (dpF A n sr (iN K)) (2 ^ n) r 0) = fB (dpF A n sr (iN K) r) (K + 1) (fR (dpF A n sr (iN K)) (2 ^ n) r 0) := fB_x (2 ^ n) _ (by omega) (fun b a hb hb2 => dpF_0 (fun z => by
        have := sub_le (sub_1 (by omega) (by omega) z)
        omega))
      rw [← ex] at k1
      exact ⟨y2, Eq.trans k1 j1⟩
theorem dw_L {y : MM} {g : GG} {n m : Nat} {A : Nat → Nat → Int32} {sr cr : Nat → Int32} (h : RR y n m A sr cr) : ∀ (f p : Nat), n - p < f → p ≤ n → Fx_M_deepX_L21 g y f (iN (bset (wkF A) p)) (iN p) = Fx_M_deepX_L63 g y (iN (bset (wkF A) n)) 5 0 0 y := by
  have n9 := h.1
  intro f
  induction f with
  | zero => intro p h1; omega
  | succ f ih =>
    intro p h1 h2
    rw [Fx_M_deepX_L21_s, h.2.2.1.1]
    by_cases q : n ≤ p
    · have e5 : (4 - (0 : Int32).toInt).toNat + 1 = 5 := by decide
      rw [if_pos ((iN_le (by omega) (by omega)).mpr q), show p = n by omega, e5]
    · have e : bset (wkF A) (p + 1) = if wkF A p = true then bset (wkF A) p + 2 ^ p else bset (wkF A) p := rfl
      have k := ih (p + 1) (by omega) (by omega)
      rw [if_neg (fun z => q ((iN_le (by omega) (by omega)).mp z)), show mof y (iN p) (4 : Int32) = A p 4 from ma_r (c := 4) h.2.2.1 n9 (by omega) (by decide)]
      unfold Fx_M_deepX_J49
      rw [iN_s]
      by_cases w : A p 4 ≤ 0
      · rw [if_neg (show ¬ wkF A p = true from fun z => (of_decide_eq_true z) w)] at e
        rw [if_pos w, Int32.or_zero, ← e]
        exact k
      · have eb := bset_or (f := wkF A) (p := p) (by omega)
        unfold bt at eb
        rw [if_pos (show wkF A p = true from decide_eq_true w)] at e
        rw [if_neg w, eb, ← e]
        exact k
theorem R5_deep {u v u1 v2 : MM} {g g' g1 : GG} {hill plan z w : Int32} (h : RLY u v) (b5 : Bd 0 2 (u 1 5)) (b7 : Bd 0 3 (u 1 7)) (hd : HD v) (pl : PL v) (e1 : (z, u1, g1) = Fx_P_deepX hill plan u g) (e2 : (w, v2) = Fx_M_deepX hill plan v g') : z = w := by
  obtain ⟨b, x, y, p1, p2, p3⟩ := lay_Y (g := g) (g' := g') (hill := hill) (plan := plan) h b5 b7 hd pl
  unfold Fx_P_deepX at e1
  unfold Fx_M_deepX at e2
  rw [xqb, p2, c2_mk] at e2
  cases b
  · rw [looks_F p1, c3_mk, if_neg Bool.false_ne_true] at e1
    rw [if_neg Bool.false_ne_true] at e2
    exact (congrArg Prod.fst e1).trans (congrArg Prod.fst e2).symm
  obtain ⟨n, m, L⟩ := p3 rfl
  obtain ⟨x', g2, k1, K, k3⟩ := looks_T (g := g) p1 L
  rw [k1, c3_mk, if_pos rfl] at e1
  rw [if_pos rfl] at e2
  have n9 := L.1
  have m4 := L.2.2.1
  have rr := rr_L L
  have e5 : (4 - (0 : Int32).toInt).toNat + 1 = 5 := by decide
  have e10 : (9 - (0 : Int32).toInt).toNat + 1 = 10 := by decide
  unfold Fx_O_mostThatWentX at e1
  have c1 := dp_L K.1 5 0 (by omega) (by omega)
  have c1' : Fx_O_mostThatWentX_L12 x' g2 (iN (bset (wkF (rwA y)) n)) 5 0 0 = fR (dpF (rwA y) n (sR y) (iN (bset (wkF (rwA y)) n))) (2 ^ n) m 0 := c1
  rw [xqb, xqb, wk_X K.1.2.2.1 n9, e5, c1'] at e1
  obtain ⟨y2, d1⟩ := dr_L (g := g') (K := bset (wkF (rwA y)) n) rr (bset_lt n) 5 0 y (by omega) (by omega) frm_0
  have d1' : Fx_M_deepX_L63 g' y (iN (bset (wkF (rwA y)) n)) 5 0 0 y = (fR (dpF (rwA y) n (sR y) (iN (bset (wkF (rwA y)) n))) (2 ^ n) m 0, y2) := d1
  have d2 := dw_L (g := g') rr 10 0 (by omega) (by omega)
  have d2' : Fx_M_deepX_L21 g' y 10 0 0 = Fx_M_deepX_L63 g' y (iN (bset (wkF (rwA y)) n)) 5 0 0 y := d2
  rw [e10, d2', d1'] at e2
  exact (congrArg Prod.fst e1).trans (congrArg Prod.fst e2).symm
