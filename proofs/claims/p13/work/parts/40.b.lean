/-! whole texts: plans of the reference, both of the class -/
theorem t1_X {v : MM} {g : GG} {L : Nat} {F : Int32 × Int32 × (Nat → Int32)} (hb : L ≤ 600) (h9 : v 162 9 = iN L) (hf : ∀ j, j < L → Bd (-128) 127 (v 163 j)) (hF : finP (PT (v 163) L 601 0 (0, -1) (R0 false (v 170))) = F) :
    ∃ x g2, Fx_M_readText1X v g = (decide (F.1 = 0), x, g2) ∧ x 165 0 = F.1 ∧ x 166 0 = F.2.1 ∧ (F.1 = 0 → x 170 = F.2.2) := by
  have e : Fx_M_readText1X v g = Fx_M_readText1X_L2 g 158 (iN 0) v := rfl
  obtain ⟨x, x1, x2, x3⟩ := rj_L (g := g) 158 0 v (by omega) (by omega)
  have xR : x 170 = R0 false (v 170) := by
    funext j
    rw [x3 j]
    unfold R0
    by_cases q : j < 157
    · rw [if_pos (by omega), if_pos q, if_neg (fun z => absurd z.1 (by decide))]
    · rw [if_neg (by omega), if_neg q]
  have x163 : x 163 = v 163 := x2 163 (by decide)
  have x9 : x 162 9 = iN L := by rw [x2 162 (by decide)]; exact h9
  have hft := ft_X (g := g) hb x9 (by rw [x163]; exact hf) xR
  rw [x163] at hft
  have hfu : L - tN (v 163) L 0 < (600 - ((Fx_M_tokenX (ms (ms x 162 8 0) 162 15 0) g).1 162 8).toInt).toNat + 1 := by
    have h8 := hft.2.2.1.1
    have := tN_in (f := v 163) (Nat.zero_le L)
    rw [h8, iN_ti (by omega)]
    omega
  obtain ⟨r1, r2⟩ := rp_L hb hf _ 601 0 _ _ (0, -1) (R0 false (v 170)) hfu (by omega) (by omega) hft or_0 (show Bd 0 12 (0 : Int32) by decide)
  have hpi := pi_PT (f := v 163) (L := L) 601 0 (0, -1) (R0 false (v 170)) (Or.inl ⟨rfl, rfl⟩)
  rw [e, x1]
  obtain ⟨oz, P, R, hz⟩ : ∃ oz P R, PT (v 163) L 601 0 (0, -1) (R0 false (v 170)) = (oz, P, R) := ⟨_, _, _, rfl⟩
  rw [hz] at hF hpi
  have hpi2 : PI P := hpi
  cases oz with
  | some q =>
    obtain ⟨y, g2, y1, y2⟩ := r1 q P R hz
    rw [y1]
    subst hF
    refine ⟨ms (ms y 165 0 1) 166 0 (y 162 14), g2, rfl, rfl, ?_, fun z => absurd z (by show ¬ (1 : Int32) = 0; decide)⟩
    show y 162 14 = iN q
    exact y2
  | none =>
    obtain ⟨y, g2, e2, y1, y2, yo, y3, y4, c0⟩ := r2 P R hz
    rw [y1]
    have hF' : F = (P.1, P.2, R) := hF.symm
    subst hF'
    have y15 : y 162 15 = P.1 := y2.2.2.2.1.1
    have y16 : ¬ P.1 = 0 → y 162 16 = P.2 := y2.2.2.2.1.2
    have y170 : y 170 = R := y2.2.2.2.2
    have p21 : P.1 = 0 → P.2 = -1 := by
      intro z
      rcases hpi2 with h | h | h
      · exact h.2
      · rw [z] at h; exact absurd h (by decide)
      · rw [z] at h; exact absurd h (by decide)
    have e3 : Fx_M_readText1X_J122 1 y g2 = (if y 162 15 ≤ 0 then (if y 162 15 = 0 then (true, ms (ms y 165 0 (y 162 15)) 166 0 (-1), g2) else (false, ms (ms y 165 0 (y 162 15)) 166 0 (-1), g2)) else (if y 162 15 = 0 then default else (false, ms (ms y 165 0 (y 162 15)) 166 0 (y 162 16), g2))) := rfl
    rw [e3, y15]
    by_cases q : P.1 = 0
    · rw [if_pos ((pi_pos hpi2).mpr q), if_pos q]
      refine ⟨ms (ms y 165 0 P.1) 166 0 (-1), g2, ?_, rfl, (p21 q).symm, fun _ => y170⟩
      rw [decide_eq_true (show ((P.1, P.2, R) : Int32 × Int32 × (Nat → Int32)).1 = 0 from q)]
    · rw [if_neg (fun z => q ((pi_pos hpi2).mp z)), if_neg q]
      refine ⟨ms (ms y 165 0 P.1) 166 0 (y 162 16), g2, ?_, rfl, y16 q, fun z => absurd z q⟩
      rw [decide_eq_false (show ¬ ((P.1, P.2, R) : Int32 × Int32 × (Nat → Int32)).1 = 0 from q)]
/-- rains' chances together -/
def sfc (c : Nat → Int32) : Nat → Nat → Int32 → Int32
  | 0, _, s => s
  | m + 1, k, s => sfc c m (k + 1) (s + c k)
theorem ch_L {u : MM} {g : GG} {r : Nat} (hr : u 32 2 = iN r) (h4 : r ≤ 4) : ∀ (n k : Nat) (s : Int32), r - k < n → k ≤ r → Fx_H_chancesX_L4 32 u g n s (iN k) = sfc (u 35) (r - k) k s := by
  intro n
  induction n with
  | zero => intro k s h; omega
  | succ n ih =>
    intro k s h hk
    rw [Fx_H_chancesX_L4_s, hr]
    by_cases c : r ≤ k
    · rw [if_pos ((iN_le (by omega) (by omega)).mpr c), show r - k = 0 by omega]
      rfl
    · rw [if_neg (fun q => c ((iN_le (by omega) (by omega)).mp q))]
      have ec : Fx_H_chanceOfX (iN k) 32 u g = u 35 k := by
        unfold Fx_H_chanceOfX
        rw [if_neg (show ¬ iN k < (0 : Int32) from fun q => by have := (iN_lt (b := 0) (by omega) (by omega)).mp q; omega), hr, if_neg (fun q => c ((iN_le (by omega) (by omega)).mp q)), iN_cl (by omega)]
        rfl
      show Fx_H_chancesX_L4 32 u g n (s + Fx_H_chanceOfX (iN k) 32 u g) (iN k + 1) = _
      rw [ec, iN_s, ih (k + 1) _ (by omega) (by omega), show r - k = (r - (k + 1)) + 1 by omega]
      rfl
theorem chs_X {u : MM} {g : GG} {R : Nat → Int32} {z : Prop} (h : RepH u R z) (b1 : Bd 0 4 (R 1)) (h0 : ¬ R 1 = 0) : Fx_H_chancesX 32 u g = sm R := by
  obtain ⟨r0, r1, r2, r3, r4⟩ := h
  have hr : u 32 2 = iN (R 1).toInt.toNat := r1.trans (iN_of b1 (by decide))
  have e : Fx_H_chancesX 32 u g = Fx_H_chancesX_L4 32 u g 5 0 (iN 0) := rfl
  rw [e, ch_L hr (by have := b1.2; omega) 5 0 0 (by have := b1.2; omega) (by omega)]
  have rr : R 1 = 1 ∨ R 1 = 2 ∨ R 1 = 3 ∨ R 1 = 4 := by
    have h6 : (R 1).toInt ≠ 0 := fun q => h0 (Int32.toInt_inj.mp q)
    have h5 : (R 1).toInt = 1 ∨ (R 1).toInt = 2 ∨ (R 1).toInt = 3 ∨ (R 1).toInt = 4 := by have := b1.1; have := b1.2; omega
    rcases h5 with h | h | h | h
    · exact Or.inl (Int32.toInt_inj.mp h)
    · exact Or.inr (Or.inl (Int32.toInt_inj.mp h))
    · exact Or.inr (Or.inr (Or.inl (Int32.toInt_inj.mp h)))
    · exact Or.inr (Or.inr (Or.inr (Int32.toInt_inj.mp h)))
  unfold sm
  rcases rr with h | h | h | h
  · have k0 := (r3 0 (by rw [h]; decide)).2
    rw [h]
    show 0 + u 35 0 = 0 + R 6
    rw [k0]
  · have k0 := (r3 0 (by rw [h]; decide)).2
    have k1 := (r3 1 (by rw [h]; decide)).2
    rw [h]
    show 0 + u 35 0 + u 35 1 = 0 + R 6 + R 8
    rw [k0, k1]
  · have k0 := (r3 0 (by rw [h]; decide)).2
    have k1 := (r3 1 (by rw [h]; decide)).2
    have k2 := (r3 2 (by rw [h]; decide)).2
    rw [h]
    show 0 + u 35 0 + u 35 1 + u 35 2 = 0 + R 6 + R 8 + R 10
    rw [k0, k1, k2]
  · have k0 := (r3 0 (by rw [h]; decide)).2
    have k1 := (r3 1 (by rw [h]; decide)).2
    have k2 := (r3 2 (by rw [h]; decide)).2
    have k3 := (r3 3 (by rw [h]; decide)).2
    rw [h]
    show 0 + u 35 0 + u 35 1 + u 35 2 + u 35 3 = 0 + R 6 + R 8 + R 10 + R 12
    rw [k0, k1, k2, k3]
theorem cz_X {x : MM} {g : GG} {L : Nat} {P : Int32 × Int32} {R : Nat → Int32} {F : Int32 × Int32 × (Nat → Int32)} (hp : PR x = P) (hpi : PI P) (b1 : Bd 0 4 (R 1)) (h : RepH x R (P.1 = 0)) (hL : x 30 1 = iN L) (hF : finH L (none, P, R) = F) :
    (Fx_Rd_readX_J65 0 g x) 29 5 = F.1 ∧ (Fx_Rd_readX_J65 0 g x) 29 6 = F.2.1 ∧ (F.1 = 0 → RepH (Fx_Rd_readX_J65 0 g x) F.2.2 True) := by
  have p5 : x 29 5 = P.1 := congrArg Prod.fst hp
  have p6 : x 29 6 = P.2 := congrArg Prod.snd hp
  have e : Fx_Rd_readX_J65 0 g x = if x 29 5 = 0 then Fx_Rd_closeRainsX x g else x := rfl
  have hF' : F = if R 1 = 0 then (P.1, P.2, upd (upd (upd R 1 1) 5 0) 6 100) else if P.1 = 0 ∧ ¬ sm R = 100 then (4, iN L, R) else (P.1, P.2, R) := hF.symm
  rw [e, p5]
  by_cases z : P.1 = 0
  · rw [if_pos z]
    unfold Fx_Rd_closeRainsX
    rw [h.2.1]
    by_cases q : R 1 = 0
    · rw [if_pos q] at hF' ⊢
      subst hF'
      have ea : Fx_H_addRainX 0 100 32 x g = (true, ms (ms (ms x 34 0 0) 35 0 100) 32 2 1) := by
        unfold Fx_H_addRainX
        rw [h.2.1, q]
        rfl
      rw [ea]
      refine ⟨p5, p6, fun _ => ⟨?_, rfl, fun k hk => ?_, fun k hk => ?_, fun _ p c hpp hc => ?_⟩⟩
      · show x 32 0 = R 0
        exact h.1
      · show x 36 k = upd (upd (upd R 1 1) 5 0) 6 100 (2 + k)
        unfold upd
        rw [if_neg (by omega), if_neg (by omega), if_neg (by omega)]
        exact h.2.2.1 k hk
      · have hk0 : k = 0 := by
          have e1 : (upd (upd (upd R 1 1) 5 0) 6 100 1).toInt.toNat = 1 := rfl
          rw [e1] at hk
          omega
        subst hk0
        exact ⟨rfl, rfl⟩
      · have hpp2 : p < (R 0).toInt.toNat := hpp
        show x 33 (16 * p + c) = upd (upd (upd R 1 1) 5 0) 6 100 (13 + 16 * p + c)
        unfold upd
        rw [if_neg (by omega), if_neg (by omega), if_neg (by omega)]
        exact h.2.2.2.2 z p c hpp2 hc
    · rw [if_neg q] at hF' ⊢
      simp only [xq_lt]
      rw [chs_X h b1 q]
      by_cases s : sm R = 100
      · rw [if_pos s]
        rw [if_neg (fun y => y.2 s)] at hF'
        subst hF'
        exact ⟨p5, p6, fun _ => ⟨h.1, h.2.1, h.2.2.1, h.2.2.2.1, fun _ => h.2.2.2.2 z⟩⟩
      · rw [if_neg s]
        rw [if_pos ⟨z, s⟩] at hF'
        subst hF'
        have ea : Fx_Rd_rememberX 4 (x 30 1) x g = ms (ms x 29 5 4) 29 6 (x 30 1) := by
          unfold Fx_Rd_rememberX
          rw [if_pos (p5.trans z)]
          rfl
        rw [ea]
        exact ⟨rfl, hL, fun y => absurd y (by show ¬ (4 : Int32) = 0; decide)⟩
  · rw [if_neg z]
    have hF2 : F.1 = P.1 ∧ F.2.1 = P.2 := by
      by_cases q : R 1 = 0
      · rw [if_pos q] at hF'; subst hF'; exact ⟨rfl, rfl⟩
      · rw [if_neg q, if_neg (fun y => z y.1)] at hF'; subst hF'; exact ⟨rfl, rfl⟩
    rw [hF2.1, hF2.2]
    exact ⟨p5, p6, fun y => absurd y z⟩
theorem f36_X {u : MM} {g : GG} : Fx_fill_36X 1 u g = ms (ms (ms u 36 0 1) 36 1 1) 36 2 1 := by
  have e : Fx_fill_36X 1 u g = Fx_fill_36X_L5 1 (3 + 1) 0 u := rfl
  rw [e, Fx_fill_36X_L5_s, if_neg (by decide)]
  simp only [xq_lt]
  rw [Fx_fill_36X_L5_s (n_ := 2), if_neg (by decide)]
  simp only [xq_lt]
  rw [Fx_fill_36X_L5_s (n_ := 1), if_neg (by decide)]
  simp only [xq_lt]
  rw [Fx_fill_36X_L5_s (n_ := 0), if_pos (by decide)]
  rfl
theorem bg_X {u : MM} {g : GG} {L : Nat} (hb : L ≤ 600) : Fx_Tk_beginX (iN L) u g = ms (ms (ms u 30 0 1) 30 1 (iN L)) 30 2 0 := by
  unfold Fx_Tk_beginX
  rw [if_neg (show ¬ (600 : Int32) < iN L from fun q => by have := (iN_lt (a := 600) (by omega) (by omega)).mp q; omega)]
  rfl
/-- the reader's memory at the first line -/
theorem i0_0 : (0 : Int32) = iN 0 := rfl
set_option maxRecDepth 100000 in
theorem rd_0 {u : MM} {g : GG} {L : Nat} {sort : Int32} (hb : L ≤ 600) : ∃ x, Fx_Rd_readX (iN L) sort u g = Fx_Rd_readX_L39 sort g 602 1 (iN 0) x ∧ x 2 = u 2 ∧ x 30 1 = iN L ∧ x 30 2 = iN 0 ∧ PR x = (0, -1) ∧ x 32 0 = 0 ∧ x 32 2 = 0 ∧ (∀ k, k < 3 → x 36 k = 1) ∧ x 37 0 = 0 := by
  have e : Fx_Rd_readX (iN L) sort u g = Fx_Rd_readX_L39 sort g ((601 - (0 : Int32).toInt).toNat + 1) 1 0 (Fx_Tk_beginX (iN L) (Fx_W_clearX 37 (Fx_H_clear32X (ms (ms u 29 5 0) 29 6 (-1)) g) g) g) := by
    unfold Fx_Rd_readX
    simp only [xq_lt]
  rw [show ((601 - (0 : Int32).toInt).toNat + 1) = 602 by decide] at e
  have e' : Fx_Rd_readX_L39 sort g 602 1 0 = Fx_Rd_readX_L39 sort g 602 1 (iN 0) := congrArg (Fx_Rd_readX_L39 sort g 602 1) i0_0
  rw [e'] at e
  have ec : Fx_H_clear32X (ms (ms u 29 5 0) 29 6 (-1)) g = Fx_fill_36X 1 (ms (ms (ms (ms u 29 5 0) 29 6 (-1)) 32 0 0) 32 2 0) g := rfl
  have ew : ∀ y : MM, Fx_W_clearX 37 y g = ms y 37 0 0 := fun _ => rfl
  rw [e, ec, f36_X, ew, bg_X hb]
  refine ⟨_, rfl, rfl, rfl, rfl, rfl, rfl, rfl, fun k hk => ?_, rfl⟩
  rcases (show k = 0 ∨ k = 1 ∨ k = 2 by omega) with z | z | z <;> subst z <;> rfl
theorem hr_b {f : Nat → Int32} {L : Nat} : ∀ (n a : Nat) (P : Int32 × Int32) (R : Nat → Int32), Bd 0 9 (R 0) → Bd 0 4 (R 1) → ∀ {oz : Option Nat} {P2 : Int32 × Int32} {R2 : Nat → Int32}, HR f L n a P R = (oz, P2, R2) → Bd 0 9 (R2 0) ∧ Bd 0 4 (R2 1) := by
  intro n
  induction n with
  | zero => intro a P R b0 b1 oz P2 R2 h; cases h; exact ⟨b0, b1⟩
  | succ n ih =>
    intro a P R b0 b1 oz P2 R2 h
    unfold HR at h
    split at h
    · cases h; exact ⟨b0, b1⟩
    · split at h
      · cases h; exact ⟨b0, b1⟩
      · split at h
        · cases h; exact ⟨b0, b1⟩
        · obtain ⟨c0, c1⟩ := rowH_b (w := (hX f L a).toInt.toNat) (v0 := vv f L (tN f L a) 0) (v1 := vv f L (tN f L a) 1) (v2 := vv f L (tN f L a) 2) (gd := gdH (hX f L a).toInt.toNat (R 0) (vv f L (tN f L a) 0) (vv f L (tN f L a) 1) (vv f L (tN f L a) 2)) b0 b1
          exact ih _ _ _ c0 c1 h
theorem d0_X {u : MM} {g : GG} {L : Nat} {R : Nat → Int32} {F : Int32 × Int32 × (Nat → Int32)} (hb : L ≤ 600) (h0 : R 0 = 0) (h1 : R 1 = 0) (h2 : ∀ k, k < 3 → R (2 + k) = 1) (hF : finH L (HR (u 2) L 601 0 (0, -1) R) = F) :
    (Fx_Rd_readX (iN L) 0 u g) 29 5 = F.1 ∧ (Fx_Rd_readX (iN L) 0 u g) 29 6 = F.2.1 ∧ (F.1 = 0 → RepH (Fx_Rd_readX (iN L) 0 u g) F.2.2 True) := by
  obtain ⟨x, e, x1, x2, x3, x4, x5, x6, x7, x8⟩ := rd_0 (u := u) (g := g) (sort := 0) hb
  have hrep : RepH x R (((0, -1) : Int32 × Int32).1 = 0) := by
    refine ⟨x5.trans h0.symm, x6.trans h1.symm, fun k hk => (x7 k hk).trans (h2 k hk).symm, fun k hk => ?_, fun _ p c hp => ?_⟩
    · rw [h1] at hk; exact absurd hk (Nat.not_lt_zero _)
    · rw [h0] at hp; exact absurd hp (Nat.not_lt_zero _)
  obtain ⟨r1, r2⟩ := cl_L (g := g) (f := u 2) hb 602 601 0 0 x (0, -1) R (by omega) (by omega) (by omega) (by omega) ⟨x1, x2, x3, x4, hrep⟩ (by rw [h0]; decide) (by rw [h1]; decide)
  have hpi := pi_HR (f := u 2) (L := L) 601 0 (0, -1) R (Or.inl ⟨rfl, rfl⟩)
  rw [e]
  obtain ⟨oz, P, R2, hz⟩ : ∃ oz P R2, HR (u 2) L 601 0 (0, -1) R = (oz, P, R2) := ⟨_, _, _, rfl⟩
  rw [hz] at hF hpi
  cases oz with
  | some q =>
    obtain ⟨y, y1, y2, y3⟩ := r1 q P R2 hz
    rw [y1]
    subst hF
    have ej : Fx_Rd_readX_J65 0 g y = y := by
      show (if y 29 5 = 0 then _ else y) = y
      rw [if_neg (by rw [y2]; decide)]
    rw [ej]
    exact ⟨y2, y3, fun z => absurd z (by show ¬ (1 : Int32) = 0; decide)⟩
  | none =>
    obtain ⟨y, y1, y2, y3, y4⟩ := r2 P R2 hz
    rw [y1]
    have b1 : Bd 0 4 (R2 1) := (hr_b (f := u 2) (L := L) 601 0 (0, -1) R (by rw [h0]; decide) (by rw [h1]; decide) hz).2
    exact cz_X y2 hpi b1 y3 y4 hF
theorem d1_X {u : MM} {g : GG} {L : Nat} {R : Nat → Int32} {F : Int32 × Int32 × (Nat → Int32)} (hb : L ≤ 600) (h0 : R 0 = 0) (hF : finP (PT (u 2) L 601 0 (0, -1) R) = F) :
    (Fx_Rd_readX (iN L) 1 u g) 29 5 = F.1 ∧ (Fx_Rd_readX (iN L) 1 u g) 29 6 = F.2.1 ∧ (F.1 = 0 → RepP (Fx_Rd_readX (iN L) 1 u g) F.2.2) := by
  obtain ⟨x, e, x1, x2, x3, x4, x5, x6, x7, x8⟩ := rd_0 (u := u) (g := g) (sort := 1) hb
  have hrep : RepP x R := by
    refine ⟨x8.trans h0.symm, fun k hk => ?_⟩
    rw [h0] at hk
    exact absurd hk (Nat.not_lt_zero _)
  obtain ⟨r1, r2⟩ := cp_L (g := g) (f := u 2) hb 602 601 0 0 x (0, -1) R (by omega) (by omega) (by omega) (by omega) ⟨x1, x2, x3, x4, hrep⟩ (by rw [h0]; decide)
  rw [e]
  obtain ⟨oz, P, R2, hz⟩ : ∃ oz P R2, PT (u 2) L 601 0 (0, -1) R = (oz, P, R2) := ⟨_, _, _, rfl⟩
  rw [hz] at hF
  have ej : ∀ y : MM, Fx_Rd_readX_J65 1 g y = y := fun _ => rfl
  cases oz with
  | some q =>
    obtain ⟨y, y1, y2, y3⟩ := r1 q P R2 hz
    rw [y1, ej]
    subst hF
    exact ⟨y2, y3, fun z => absurd z (by show ¬ (1 : Int32) = 0; decide)⟩
  | none =>
    obtain ⟨y, y1, y2, y3⟩ := r2 P R2 hz
    rw [y1, ej]
    subst hF
    exact ⟨congrArg Prod.fst y2, congrArg Prod.snd y2, fun _ => y3⟩
