/-! a line of a hill, as the reference reads it -/
theorem of1_e8 {v : MM} {g : GG} {n low high second : Int32} (h : v 170 0 = n) : Fx_M_ofPond1X 8 low high second v g = two 0 (n - 1) (fun z => z + 1) (fun _ => n - 1) (K1 8) v g := by
  unfold Fx_M_ofPond1X
  rw [h]
  simp (config := { decide := true }) only [if_true]
  rfl
theorem of1_en {v : MM} {g : GG} {n to low high second : Int32} (h : v 170 0 = n) (h8 : ¬ to = 8) (h9 : ¬ to = 9) : Fx_M_ofPond1X to low high second v g = two 0 (n - 1) (fun _ => low) (fun _ => high) (K1 to) v g := by
  unfold Fx_M_ofPond1X
  rw [h]
  simp only [h8, h9, if_false]
  rfl
theorem of2_e9 {v : MM} {g : GG} {n low high second : Int32} (h : v 170 0 = n) : Fx_M_ofPond2X 9 low high second v g = two 0 (n - 1) (fun z => z + 1) (fun _ => n - 1) (K2 0 second (K3p 9)) v g := by
  unfold Fx_M_ofPond2X
  rw [h]
  simp (config := { decide := true }) only [if_true, if_false]
  rfl
theorem of2_en {v : MM} {g : GG} {n to low high second : Int32} (h : v 170 0 = n) (h8 : ¬ to = 8) (h9 : ¬ to = 9) : Fx_M_ofPond2X to low high second v g = two 0 (n - 1) (fun _ => low) (fun _ => high) (K2 0 second (K3p to)) v g := by
  unfold Fx_M_ofPond2X
  rw [h]
  simp only [h8, h9, if_false]
  rfl
def gdH (w : Nat) (n v0 v1 v2 : Int32) : Bool := if w = 2 ∨ w = 10 then (chk w 0 n v0 v0 && (chk w 1 n v0 v1 && chk w 2 n v0 v2)) else (chk w 0 n v0 v0 && chk w 1 n v0 v1)
/-- what a hill's line w, its word at a, does to what is remembered and to the row -/
def lnP (w : Nat) (f : Nat → Int32) (L a : Nat) (R : Nat → Int32) (P : Int32 × Int32) : Int32 × Int32 := fo (fun j x => chk w j (R 0) (vv f L (tN f L a) 0) x) (vv f L (tN f L a)) (pp f L (tN f L a)) (cnt w) 0 (rmb (!fl w (R 0) (R 1)) 3 (iN (tS f L a)) P)
def lnR (w : Nat) (f : Nat → Int32) (L a : Nat) (R : Nat → Int32) : Nat → Int32 := rowH w R (vv f L (tN f L a) 0) (vv f L (tN f L a) 1) (vv f L (tN f L a) 2) (gdH w (R 0) (vv f L (tN f L a) 0) (vv f L (tN f L a) 1) (vv f L (tN f L a) 2))
theorem fl_n {w : Nat} {n r : Int32} (h0 : w ≠ 0) (h1 : w ≠ 11) : fl w n r = false := decide_eq_false (fun z => by
  rcases z with z | z
  · exact h0 z.1
  · exact h1 z.1)
theorem iN_m1 {j : Nat} (h : j ≤ 100000) : ¬ iN j = -1 := by
  intro q
  have h1 := congrArg Int32.toInt q
  rw [iN_ti h] at h1
  have e : (-1 : Int32).toInt = -1 := rfl
  omega
theorem hl_X {v : MM} {g : GG} {f : Nat → Int32} {L a : Nat} {P : Int32 × Int32} {R : Nat → Int32} (hb : L ≤ 600) (hf : ∀ j, j < L → Bd (-128) 127 (f j)) (ha : a ≤ L) (h : RSv v g f L a P R) (o : OR P (tS f L a)) (hg : v 162 18 = 1) (b0 : Bd 0 9 (R 0)) (b1 : Bd 0 4 (R 1)) :
    (hX f L a = -1 → Fx_M_hillLineX (iN (tS f L a)) v g = (false, ms v 162 14 (iN (tS f L a)), g)) ∧ ∀ w, w < 15 → hX f L a = iN w → OUT (Fx_M_hillLineX (iN (tS f L a)) v g) f L (cnt w) (tN f L a) (lnP w f L a R P) (lnR w f L a R) := by
  have hT := h.2.2.1
  refine ⟨fun q => ?_, fun w hw q => ?_⟩
  · rcases hX_c (f := f) (L := L) (a := a) with ⟨_, h2⟩ | ⟨j, h1, h2, _⟩
    · rw [hl_wn (fun i hi z => h2 i hi ((rw_i (by omega) hT).mp z)), hT.2.1]
    · exact absurd (h2.symm.trans q) (iN_m1 (by omega))
  · have hwk : wk f (tS f L a) (tN f L a) (tK f L a) w = true := by
      rcases hX_c (f := f) (L := L) (a := a) with ⟨h1, _⟩ | ⟨j, h1, h2, h3⟩
      · exact absurd (q.symm.trans h1) (iN_m1 (by omega))
      · rw [← (iN_eq (by omega) (by omega)).mp (h2.symm.trans q)]
        exact h3
    have hk : ∀ i, i < 15 → (lg_cmp (rw0 v g) (kW i) = 0 ↔ i = w) := by
      intro i hi
      rw [rw_i (by omega) hT]
      refine ⟨fun z => ?_, fun z => by rw [z]; exact hwk⟩
      exact wm_u (by omega) (by omega) ((Bool.and_eq_true _ _).mp z).2 ((Bool.and_eq_true _ _).mp hwk).2
    have hK : tK f L a = 1 := of_decide_eq_true ((Bool.and_eq_true _ _).mp hwk).1
    obtain ⟨m1, m2⟩ := rs_t (y := v) (Q := P) hb hf ha h rfl rfl rfl rfl h.2.2.2.1
    have hg2 : (Fx_M_tokenX v g).1 162 18 = 1 := (m2.2 18 (by decide) (by decide) (by decide) (by decide)).trans hg
    have hlt := tN_lt (f := f) (L := L) (a := a) (by rw [hK]; decide)
    have hle := tS_le (f := f) (L := L) (tN f L a)
    have hin := tS_in (f := f) (tN_in (f := f) ha)
    have o2 : OR P (tS f L (tN f L a)) := or_w o (by omega) (by omega)
    have e170 : (Fx_M_tokenX v g).1 170 0 = R 0 := by rw [m1.2.2.2.2]
    unfold lnP lnR
    rcases (show w = 0 ∨ w = 1 ∨ w = 2 ∨ w = 3 ∨ w = 4 ∨ w = 5 ∨ w = 6 ∨ w = 7 ∨ w = 8 ∨ w = 9 ∨ w = 10 ∨ w = 11 ∨ w = 12 ∨ w = 13 ∨ w = 14 by omega) with z | z | z | z | z | z | z | z | z | z | z | z | z | z | z
    · subst z
      rw [hl_w0 hk]
      exact pond_X hb hf (tN_in ha) m1 b0 o (by omega)
    · subst z
      rw [hl_w1 hk]
      rw [fl_n (w := 1) (by decide) (by decide), rmb_t (b := !false) (by decide)]
      exact of1_X (w := 1) hb hf (tN_in ha) m1 o2 b0 hg2 (by decide) (by decide) (by decide) (of1_e8 e170) (fun v0 v1 q0 q1 => ck_pd (by decide) (by decide) b0 q0 q1)
    · subst z
      rw [hl_w2 hk]
      rw [fl_n (w := 2) (by decide) (by decide), rmb_t (b := !false) (by decide)]
      exact of2_X (w := 2) hb hf (tN_in ha) m1 o2 b0 hg2 (Or.inl rfl) (of2_e9 e170) (fun v0 v1 q0 q1 => ck_pd (by decide) (by decide) b0 q0 q1)
    · subst z
      rw [hl_w3 hk]
      rw [fl_n (w := 3) (by decide) (by decide), rmb_t (b := !false) (by decide)]
      exact of1_X (w := 3) hb hf (tN_in ha) m1 o2 b0 hg2 (by decide) (by decide) (by decide) (of1_en e170 (by decide) (by decide)) (fun v0 v1 _ q1 => ck_pn (h := 24) (by decide) (by decide) (by decide) q1)
    · subst z
      rw [hl_w4 hk]
      rw [fl_n (w := 4) (by decide) (by decide), rmb_t (b := !false) (by decide)]
      exact of1_X (w := 4) hb hf (tN_in ha) m1 o2 b0 hg2 (by decide) (by decide) (by decide) (of1_en e170 (by decide) (by decide)) (fun v0 v1 _ q1 => ck_pn (h := 10) (by decide) (by decide) (by decide) q1)
    · subst z
      rw [hl_w5 hk]
      rw [fl_n (w := 5) (by decide) (by decide), rmb_t (b := !false) (by decide)]
      exact of1_X (w := 5) hb hf (tN_in ha) m1 o2 b0 hg2 (by decide) (by decide) (by decide) (of1_en e170 (by decide) (by decide)) (fun v0 v1 _ q1 => ck_pn (h := 999) (by decide) (by decide) (by decide) q1)
    · subst z
      rw [hl_w6 hk]
      rw [fl_n (w := 6) (by decide) (by decide), rmb_t (b := !false) (by decide)]
      exact of1_X (w := 6) hb hf (tN_in ha) m1 o2 b0 hg2 (by decide) (by decide) (by decide) (of1_en e170 (by decide) (by decide)) (fun v0 v1 _ q1 => ck_pn (h := 3) (by decide) (by decide) (by decide) q1)
    · subst z
      rw [hl_w7 hk]
      rw [fl_n (w := 7) (by decide) (by decide), rmb_t (b := !false) (by decide)]
      exact of1_X (w := 7) hb hf (tN_in ha) m1 o2 b0 hg2 (by decide) (by decide) (by decide) (of1_en e170 (by decide) (by decide)) (fun v0 v1 _ q1 => ck_pn (h := 99) (by decide) (by decide) (by decide) q1)
    · subst z
      rw [hl_w8 hk]
      rw [fl_n (w := 8) (by decide) (by decide), rmb_t (b := !false) (by decide)]
      exact of1_X (w := 8) hb hf (tN_in ha) m1 o2 b0 hg2 (by decide) (by decide) (by decide) (of1_en e170 (by decide) (by decide)) (fun v0 v1 _ q1 => ck_pn (h := 99) (by decide) (by decide) (by decide) q1)
    · subst z
      rw [hl_w9 hk]
      rw [fl_n (w := 9) (by decide) (by decide), rmb_t (b := !false) (by decide)]
      exact of1_X (w := 9) hb hf (tN_in ha) m1 o2 b0 hg2 (by decide) (by decide) (by decide) (of1_en e170 (by decide) (by decide)) (fun v0 v1 _ q1 => ck_pn (h := 99) (by decide) (by decide) (by decide) q1)
    · subst z
      rw [hl_w10 hk]
      rw [fl_n (w := 10) (by decide) (by decide), rmb_t (b := !false) (by decide)]
      exact of2_X (w := 10) hb hf (tN_in ha) m1 o2 b0 hg2 (Or.inr rfl) (of2_en e170 (by decide) (by decide)) (fun v0 v1 _ q1 => ck_pn (h := 10) (by decide) (by decide) (by decide) q1)
    · subst z
      rw [hl_w11 hk]
      exact rain_X hb hf (tN_in ha) m1 b1 o (by omega)
    · subst z
      rw [hl_w12 hk]
      rw [fl_n (w := 12) (by decide) (by decide), rmb_t (b := !false) (by decide)]
      exact days_X (w := 12) hb hf (tN_in ha) m1 o2 (by decide) (by decide)
    · subst z
      rw [hl_w13 hk]
      rw [fl_n (w := 13) (by decide) (by decide), rmb_t (b := !false) (by decide)]
      exact days_X (w := 13) hb hf (tN_in ha) m1 o2 (by decide) (by decide)
    · subst z
      rw [hl_w14 hk]
      rw [fl_n (w := 14) (by decide) (by decide), rmb_t (b := !false) (by decide)]
      exact days_X (w := 14) hb hf (tN_in ha) m1 o2 (by decide) (by decide)
/-- a hill's row stays in its bounds -/
theorem rowH_b {w : Nat} {R : Nat → Int32} {v0 v1 v2 : Int32} {gd : Bool} (b0 : Bd 0 9 (R 0)) (b1 : Bd 0 4 (R 1)) : Bd 0 9 (rowH w R v0 v1 v2 gd 0) ∧ Bd 0 4 (rowH w R v0 v1 v2 gd 1) := by
  have e1 : (1 : Int32).toInt = 1 := rfl
  unfold rowH
  by_cases c0 : w = 0
  · rw [if_pos c0]
    by_cases q : R 0 < 9
    · rw [if_pos q]
      have q1 := Int32.lt_iff_toInt_lt.mp q
      have e9 : (9 : Int32).toInt = 9 := rfl
      refine ⟨?_, ?_⟩
      · show Bd 0 9 (R 0 + 1)
        have e : (R 0 + 1).toInt = (R 0).toInt + 1 := by rw [ti_add (by have := b0.1; omega) (by omega), e1]
        rw [Bd, e]
        have := b0.1
        omega
      · show Bd 0 4 (if 13 + 16 * (R 0).toInt.toNat ≤ 1 ∧ _ then _ else R 1)
        rw [if_neg (by omega)]
        exact b1
    · rw [if_neg q]; exact ⟨b0, b1⟩
  · rw [if_neg c0]
    by_cases c1 : w = 11
    · rw [if_pos c1]
      by_cases q : R 1 < 4
      · rw [if_pos q]
        have q1 := Int32.lt_iff_toInt_lt.mp q
        have e4 : (4 : Int32).toInt = 4 := rfl
        refine ⟨?_, ?_⟩
        · unfold upd
          rw [if_neg (by decide), if_neg (by omega), if_neg (by omega)]
          exact b0
        · show Bd 0 4 (R 1 + 1)
          have e : (R 1 + 1).toInt = (R 1).toInt + 1 := by rw [ti_add (by have := b1.1; omega) (by omega), e1]
          rw [Bd, e]
          have := b1.1
          omega
      · rw [if_neg q]; exact ⟨b0, b1⟩
    · rw [if_neg c1]
      by_cases c2 : 11 < w
      · rw [if_pos c2]
        unfold upd
        rw [if_neg (by omega), if_neg (by omega)]
        exact ⟨b0, b1⟩
      · rw [if_neg c2]
        by_cases c3 : gd = true
        · rw [if_pos c3]
          by_cases c4 : w = 2 ∨ w = 10
          · rw [if_pos c4]
            unfold upd
            rw [if_neg (by omega), if_neg (by omega), if_neg (by omega), if_neg (by omega)]
            exact ⟨b0, b1⟩
          · rw [if_neg c4]
            unfold upd
            rw [if_neg (by omega), if_neg (by omega)]
            exact ⟨b0, b1⟩
        · rw [if_neg c3]; exact ⟨b0, b1⟩
/-- a hill's text from a on: where it breaks off, what is remembered, the row -/
def HR (f : Nat → Int32) (L : Nat) : Nat → Nat → Int32 × Int32 → (Nat → Int32) → Option Nat × (Int32 × Int32) × (Nat → Int32)
  | 0, _, P, R => (none, P, R)
  | n + 1, a, P, R => if tK f L a = 0 then (none, P, R) else if hX f L a = -1 then (some (tS f L a), P, R) else
    match nb f L (cnt (hX f L a).toInt.toNat) (tN f L a) with
    | some q => (some q, P, R)
    | none => HR f L n (sk f L (cnt (hX f L a).toInt.toNat + 1) (tN f L a)) (lnP (hX f L a).toInt.toNat f L a R P) (lnR (hX f L a).toInt.toNat f L a R)
theorem sk_le {f : Nat → Int32} {L : Nat} : ∀ (r p : Nat), p ≤ sk f L r p := by
  intro r
  induction r with
  | zero => intro p; exact Nat.le_refl _
  | succ r ih =>
    intro p
    have h1 := tS_le (f := f) (L := L) p
    have h2 := tN_le (f := f) (L := L) p
    have h3 := ih (tN f L p)
    show p ≤ sk f L r (tN f L p)
    omega
theorem hX_n {f : Nat → Int32} {L a : Nat} (h : ¬ hX f L a = -1) : (hX f L a).toInt.toNat < 15 ∧ hX f L a = iN (hX f L a).toInt.toNat := by
  rcases hX_c (f := f) (L := L) (a := a) with ⟨h1, _⟩ | ⟨j, h1, h2, _⟩
  · exact absurd h1 h
  · rw [h2, iN_ti (by omega)]
    have e : ((j : Nat) : Int).toNat = j := by omega
    rw [e]
    exact ⟨h1, rfl⟩
/-- how the reference's reader of a hill ends -/
theorem rt_L {f : Nat → Int32} {L : Nat} (hb : L ≤ 600) (hf : ∀ j, j < L → Bd (-128) 127 (f j)) : ∀ (n m a : Nat) (v : MM) (g : GG) (P : Int32 × Int32) (R : Nat → Int32), L - tN f L a < n → L - a < m → a ≤ L → RSv v g f L a P R → OR P (tS f L a) → Bd 0 9 (R 0) → Bd 0 4 (R 1) →
    (∀ q P2 R2, HR f L m a P R = (some q, P2, R2) → ∃ x g2, Fx_M_readText0X_L55 n 1 v g = Fx_M_readText0X_J122 0 x g2 ∧ x 162 14 = iN q) ∧
    (∀ P2 R2, HR f L m a P R = (none, P2, R2) → ∃ x g2 e, Fx_M_readText0X_L55 n 1 v g = Fx_M_readText0X_J122 1 x g2 ∧ RSv x g2 f L e P2 R2 ∧ OR P2 (tS f L e) ∧ tK f L e = 0 ∧ e ≤ L ∧ Bd 0 9 (R2 0) ∧ Bd 0 4 (R2 1)) := by
  intro n
  induction n with
  | zero => intro m a v g P R h; omega
  | succ n ih =>
    intro m a v g P R hn hm ha h o b0 b1
    cases m with
    | zero => omega
    | succ m =>
    have hT := h.2.2.1
    have hH : HR f L (m + 1) a P R = if tK f L a = 0 then (none, P, R) else if hX f L a = -1 then (some (tS f L a), P, R) else
      match nb f L (cnt (hX f L a).toInt.toNat) (tN f L a) with
      | some q => (some q, P, R)
      | none => HR f L m (sk f L (cnt (hX f L a).toInt.toNat + 1) (tN f L a)) (lnP (hX f L a).toInt.toNat f L a R P) (lnR (hX f L a).toInt.toNat f L a R) := rfl
    rw [hH, Fx_M_readText0X_L55_s, if_neg (show ¬ (1 : Int32) = 0 by decide)]
    by_cases k0 : tK f L a = 0
    · rw [if_pos k0, if_pos (show v 162 11 = 0 by rw [hT.2.2.1, k0]; rfl)]
      refine ⟨fun q P2 R2 z => (by cases z), fun P2 R2 z => ?_⟩
      cases z
      exact ⟨v, g, a, rfl, h, o, k0, ha, b0, b1⟩
    · have kz : ¬ v 162 11 = 0 := by
        rw [hT.2.2.1]
        unfold km
        rw [if_neg k0]
        split
        · decide
        · split
          · decide
          · split <;> decide
      rw [if_neg k0, if_neg kz]
      have hv : RSv (ms v 162 18 1) g f L a P R := by
        obtain ⟨r1, r2, ⟨t1, t2, t3, t4, t5⟩, r4, r5⟩ := h
        exact ⟨r1, r2, ⟨t1, t2, t3, t4, t5⟩, r4, r5⟩
      obtain ⟨l1, l2⟩ := hl_X hb hf ha hv o rfl b0 b1
      simp only [xq_lt]
      rw [hT.2.1]
      by_cases kx : hX f L a = -1
      · rw [if_pos kx, l1 kx]
        refine ⟨fun q P2 R2 z => ?_, fun P2 R2 z => (by cases z)⟩
        cases z
        refine ⟨ms (ms v 162 18 1) 162 14 (iN (tS f L a)), g, ?_, rfl⟩
        rw [c3_mk, if_neg (by decide)]
        rfl
      · rw [if_neg kx]
        obtain ⟨w15, wx⟩ := hX_n kx
        obtain ⟨u1, u2⟩ := l2 _ w15 wx
        obtain ⟨n1, n2⟩ := nb_n (f := f) (L := L) (cnt (hX f L a).toInt.toNat) (tN f L a)
        generalize hw : (hX f L a).toInt.toNat = w at *
        obtain ⟨t, x, g2, hz⟩ : ∃ t x g2, Fx_M_hillLineX (iN (tS f L a)) (ms v 162 18 1) g = (t, x, g2) := ⟨_, _, _, rfl⟩
        rw [hz] at u1 u2 ⊢
        rw [c3_mk]
        cases hN : nn f L (cnt w) (tN f L a) with
        | some q =>
          rw [n1 q hN]
          obtain ⟨y1, y2⟩ := u1 q hN
          have y1' : t = false := y1
          refine ⟨fun q2 P2 R2 z => ?_, fun P2 R2 z => (by cases z)⟩
          cases z
          refine ⟨x, g2, ?_, y2⟩
          rw [y1', if_neg (by decide)]
          rfl
        | none =>
          rw [n2 hN]
          obtain ⟨y1, y2, y3⟩ := u2 hN
          have y1' : t = true := y1
          have y2' : RSv x g2 f L (sk f L (cnt w) (tN f L a)) (lnP w f L a R P) (lnR w f L a R) := y2
          rw [y1', if_pos rfl]
          by_cases k3 : tK f L (sk f L (cnt w) (tN f L a)) = 3
          · rw [if_pos k3, if_pos (show x 162 11 = 4 by rw [y2'.2.2.1.2.2.1]; exact km_4.mpr k3)]
            have hin : sk f L (cnt w) (tN f L a) ≤ L := sk_in _ _ (tN_in ha)
            obtain ⟨m1, m2⟩ := rs_t (y := x) (Q := lnP w f L a R P) hb hf hin y2' rfl rfl rfl rfl y2'.2.2.2.1
            have p1 := tN_lt (f := f) (L := L) (a := a) k0
            have p2 := tN_lt (f := f) (L := L) (a := sk f L (cnt w) (tN f L a)) (by rw [k3]; decide)
            have p3 := sk_le (f := f) (L := L) (cnt w) (tN f L a)
            have p4 := tS_le (f := f) (L := L) a
            have p5 := tS_le (f := f) (L := L) (sk f L (cnt w) (tN f L a))
            have p6 := tS_le (f := f) (L := L) (tN f L (sk f L (cnt w) (tN f L a)))
            have p7 := tN_in (f := f) hin
            have p8 := tS_in (f := f) p7
            have p9 := tN_le (f := f) (L := L) (tN f L (sk f L (cnt w) (tN f L a)))
            obtain ⟨c0, c1⟩ := rowH_b (w := w) (v0 := vv f L (tN f L a) 0) (v1 := vv f L (tN f L a) 1) (v2 := vv f L (tN f L a) 2) (gd := gdH w (R 0) (vv f L (tN f L a) 0) (vv f L (tN f L a) 1) (vv f L (tN f L a) 2)) b0 b1
            have es : sk f L (cnt w + 1) (tN f L a) = tN f L (sk f L (cnt w) (tN f L a)) := sk_s _ _
            have y3' : OR (lnP w f L a R P) (tS f L (sk f L (cnt w) (tN f L a))) := y3
            have I := ih m (tN f L (sk f L (cnt w) (tN f L a))) (Fx_M_tokenX x g2).1 (Fx_M_tokenX x g2).2 (lnP w f L a R P) (lnR w f L a R) (by omega) (by omega) p7 m1 (or_w y3' (by omega) (by omega)) c0 c1
            dsimp only
            rw [es]
            exact I
          · rw [if_neg k3, if_neg (show ¬ x 162 11 = 4 from fun z => k3 (km_4.mp (y2'.2.2.1.2.2.1 ▸ z)))]
            refine ⟨fun q2 P2 R2 z => ?_, fun P2 R2 z => (by cases z)⟩
            cases z
            refine ⟨ms x 162 14 (x 162 10), g2, rfl, ?_⟩
            rw [ms_e1]
            exact y2'.2.2.1.2.1
