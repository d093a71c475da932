/-! plans: the class -/
theorem rl_P {u2 : Nat → Nat → Int32} {g : Nat → Nat → Int64} {L c : Nat} {k : Int32} (hb : L ≤ 600) (hc : c ≤ 3) : ∀ (n r i p : Nat) (u : Nat → Nat → Int32), r < n → i + r = c → p ≤ L → u 30 1 = iN L → u 30 2 = iN p →
    (∀ q, nb (u 2) L r p = some q → ∃ x, Fx_Rd_readLineX_L65 1 g u2 k (iN c) n (iN i) u = (false, x) ∧ x 29 5 = 1 ∧ x 29 6 = iN q) ∧
    (nb (u 2) L r p = none → ∃ x, Fx_Rd_readLineX_L65 1 g u2 k (iN c) n (iN i) u = (true, Fx_Rd_takeX 1 k (u2 30 4) (iN c) x g) ∧ (∀ b, b ≠ 30 → b ≠ 41 → b ≠ 42 → x b = u b) ∧ x 30 0 = u 30 0 ∧ x 30 1 = u 30 1 ∧ x 30 2 = iN (sk (u 2) L (r + 1) p) ∧
      (∀ j, j < i → x 41 j = u 41 j ∧ x 42 j = u 42 j) ∧ ∀ j, j < r → x 41 (i + j) = tV (u 2) L (sk (u 2) L j p) ∧ x 42 (i + j) = iN (tS (u 2) L (sk (u 2) L j p))) := by
  intro n
  induction n with
  | zero => intro r i p u h; omega
  | succ n ih =>
    intro r i p u hr hir hp h1 h2
    have A := ad_X (g := g) h1 hb hp h2
    have A' := A
    obtain ⟨a0, a1, a2, a3, a4, a5, a6⟩ := A'
    rw [Fx_Rd_readLineX_L65_s]
    cases r with
    | zero =>
      rw [if_pos ((iN_le (by omega) (by omega)).mpr (by omega))]
      have e : (xq_lt (Fx_Tk_advanceX u g) fun y => if (y 30 3) = (3 : Int32) then (xq_lt (Fx_Rd_takeX 1 k (u2 30 4) (iN c) y g) fun z => (true, z)) else (xq_c2 (Fx_Rd_breaksOffX y g) fun t z => (t, z))) = (if tK (u 2) L p = 3 then (true, Fx_Rd_takeX 1 k (u2 30 4) (iN c) (Fx_Tk_advanceX u g) g) else (false, ms (ms (Fx_Tk_advanceX u g) 29 5 1) 29 6 (iN (tS (u 2) L p)))) := by
        rw [← a4, ← a5]
        rfl
      rw [e]
      unfold nb
      by_cases q : tK (u 2) L p = 3
      · rw [if_pos q, if_pos q]
        refine ⟨fun q h => (by cases h), fun _ => ⟨Fx_Tk_advanceX u g, rfl, fun b hb _ _ => a0 b hb, a1, a2, a3, fun j _ => ?_, fun j hj => by omega⟩⟩
        rw [a0 41 (by decide), a0 42 (by decide)]
        exact ⟨rfl, rfl⟩
      · rw [if_neg q, if_neg q]
        refine ⟨fun z h => ?_, fun h => (by cases h)⟩
        cases h
        exact ⟨_, rfl, rfl, rfl⟩
    | succ r =>
      rw [if_neg (fun z => by have := (iN_le (by omega) (by omega)).mp z; omega), iN_cl (by omega), iN_s]
      have e : (xq_lt (Fx_Tk_advanceX u g) fun y => if (y 30 3) = (2 : Int32) then (xq_lt (ms y 41 i (y 30 5)) fun y1 => xq_lt (ms y1 42 i (y 30 4)) fun y2 => (Fx_Rd_readLineX_L65 1 g u2 k (iN c) n) (iN (i + 1)) y2) else (xq_c2 (Fx_Rd_breaksOffX y g) fun t z => (t, z))) = (if tK (u 2) L p = 2 then Fx_Rd_readLineX_L65 1 g u2 k (iN c) n (iN (i + 1)) (ms (ms (Fx_Tk_advanceX u g) 41 i ((Fx_Tk_advanceX u g) 30 5)) 42 i ((Fx_Tk_advanceX u g) 30 4)) else (false, ms (ms (Fx_Tk_advanceX u g) 29 5 1) 29 6 (iN (tS (u 2) L p)))) := by
        rw [← a4, ← a5]
        rfl
      rw [e]
      unfold nb
      by_cases q : tK (u 2) L p = 2
      · rw [if_pos q, if_pos q]
        have hy2 : (ms (ms (Fx_Tk_advanceX u g) 41 i ((Fx_Tk_advanceX u g) 30 5)) 42 i ((Fx_Tk_advanceX u g) 30 4)) 2 = u 2 := a0 2 (by decide)
        obtain ⟨i1, i2⟩ := ih r (i + 1) (tN (u 2) L p) (ms (ms (Fx_Tk_advanceX u g) 41 i ((Fx_Tk_advanceX u g) 30 5)) 42 i ((Fx_Tk_advanceX u g) 30 4)) (by omega) (by omega) (tN_in hp) (a2.trans h1) a3
        rw [hy2] at i1 i2
        refine ⟨i1, fun h => ?_⟩
        obtain ⟨x, e1, e2, e3, e4, e5, e6, e7⟩ := i2 h
        refine ⟨x, e1, fun b h30 h41 h42 => ?_, e3.trans a1, e4.trans a2, e5, fun j hj => ?_, fun j hj => ?_⟩
        · rw [e2 b h30 h41 h42, ms_c1 h42, ms_c1 h41, a0 b h30]
        · obtain ⟨g1, g2⟩ := e6 j (by omega)
          rw [g1, g2]
          refine ⟨?_, ?_⟩
          · rw [ms_c1 (by decide), ms_i1 (by omega), a0 41 (by decide)]
          · rw [ms_i1 (by omega), ms_c1 (by decide), a0 42 (by decide)]
        · cases j with
          | zero =>
            obtain ⟨g1, g2⟩ := e6 i (by omega)
            rw [Nat.add_zero, g1, g2]
            refine ⟨?_, ?_⟩
            · rw [ms_c1 (by decide), ms_e1]
              exact a6 q
            · rw [ms_e1]
              exact a5
          | succ j =>
            have := e7 j (by omega)
            rw [show i + (j + 1) = i + 1 + j by omega]
            exact this
      · rw [if_neg q, if_neg q]
        refine ⟨fun z h => ?_, fun h => (by cases h)⟩
        cases h
        exact ⟨_, rfl, rfl, rfl⟩
def chP (w i : Nat) (v : Int32) : Bool := decide ((sAr 4).getD (3 * w + i) 0 ≤ v) && decide (v ≤ (sAr 5).getD (3 * w + i) 0)
def cnP (w : Nat) : Nat := [2, 2, 2, 2, 1].getD w 0
theorem cnP_b : ∀ w, w < 5 → 1 ≤ cnP w ∧ cnP w ≤ 2 ∧ (sAr 3).getD w 0 = iN (cnP w) ∧ (cnP w ≤ 1 ↔ w = 4) := by decide +kernel
theorem cp_X {u : MM} {g : GG} {w i : Nat} (hw : w < 5) (hi : i < 3) : Fx_Rd_canBeInPlanX (iN w) (iN i) u g = chP w i (u 41 i) := by
  unfold Fx_Rd_canBeInPlanX chP
  show (if u 41 (iN i).toNatClampNeg < (sAr 4).getD ((iN 3 * iN w) + iN i).toNatClampNeg 0 then false else (if (sAr 5).getD ((iN 3 * iN w) + iN i).toNatClampNeg 0 < u 41 (iN i).toNatClampNeg then false else true)) = _
  rw [iN_cl (by omega), iN_m, iN_a, iN_cl (by omega)]
  by_cases h : u 41 i < (sAr 4).getD (3 * w + i) 0
  · rw [if_pos h, decide_eq_false (fun q => lt_le_no h q)]; rfl
  · rw [if_neg h, decide_eq_true (i_nlt h)]
    by_cases h2 : (sAr 5).getD (3 * w + i) 0 < u 41 i
    · rw [if_pos h2, decide_eq_false (fun q => lt_le_no h2 q)]; rfl
    · rw [if_neg h2, decide_eq_true (i_nlt h2)]; rfl
theorem tp_L {u0 : MM} {g : GG} {w c : Nat} (hw : w < 5) (hc : c ≤ 2) : ∀ (n i : Nat) (u : MM), c - i < n → i ≤ c → ∃ x, Fx_Rd_takeX_L36 1 (iN w) (iN c) u0 g n (iN i) u = (Fx_W_addKX (iN w) (u0 41 0) (if c ≤ 1 then -1 else u0 41 1) x g).2 ∧ (∀ b, b ≠ 29 → x b = u b) ∧ PR x = fo (fun j v => chP w j v) (u 41) (u 42) c i (PR u) := by
  intro n
  induction n with
  | zero => intro i u h; omega
  | succ n ih =>
    intro i u h hi
    rw [Fx_Rd_takeX_L36_s]
    by_cases k : c ≤ i
    · refine ⟨u, ?_, fun _ _ => rfl, (fo_e (by omega)).symm⟩
      rw [if_pos ((iN_le (by omega) (by omega)).mpr k), if_neg (show ¬ (1 : Int32) = 0 by decide)]
      by_cases q : c ≤ 1
      · rw [if_pos (show iN c ≤ (1 : Int32) from (iN_le (b := 1) (by omega) (by omega)).mpr q), if_pos q]
        rfl
      · rw [if_neg (show ¬ iN c ≤ (1 : Int32) from fun z => q ((iN_le (b := 1) (by omega) (by omega)).mp z)), if_neg q]
        rfl
    · rw [if_neg (fun z => k ((iN_le (by omega) (by omega)).mp z)), if_neg (show ¬ (1 : Int32) = 0 by decide), iN_cl (by omega)]
      show ∃ x, (if Fx_Rd_canBeInPlanX (iN w) (iN i) u g = true then Fx_Rd_takeX_L36 1 (iN w) (iN c) u0 g n (iN i + 1) u else Fx_Rd_takeX_L36 1 (iN w) (iN c) u0 g n (iN i + 1) (Fx_Rd_rememberX 2 (u 42 i) u g)) = _ ∧ _
      rw [cp_X hw (by omega), iN_s, fo_s (by omega)]
      by_cases q : chP w i (u 41 i) = true
      · rw [if_pos q, rmb_t q]
        exact ih (i + 1) u (by omega) (by omega)
      · rw [if_neg q, rmb_f q]
        obtain ⟨r1, r2⟩ := re_X (u := u) (g := g) (f := 2) (p := u 42 i)
        obtain ⟨x, h1, h2, h3⟩ := ih (i + 1) (Fx_Rd_rememberX 2 (u 42 i) u g) (by omega) (by omega)
        rw [r2 41 (by decide), r2 42 (by decide), r1] at h3
        exact ⟨x, h1, fun b hb => (h2 b hb).trans (r2 b hb), h3⟩
theorem tk_P {u : MM} {g : GG} {w c : Nat} {first : Int32} (hw : w < 5) (hc : c ≤ 2) : ∃ x, Fx_Rd_takeX 1 (iN w) first (iN c) u g = (Fx_W_addKX (iN w) (u 41 0) (if c ≤ 1 then -1 else u 41 1) x g).2 ∧ (∀ b, b ≠ 29 → x b = u b) ∧ PR x = fo (fun j v => chP w j v) (u 41) (u 42) c 0 (rmb (decide (u 37 0 < 12)) 3 first (PR u)) := by
  have e : Fx_Rd_takeX 1 (iN w) first (iN c) u g = (if u 37 0 < 12 then Fx_Rd_takeX_L36 1 (iN w) (iN c) u g 4 (iN 0) u else Fx_Rd_takeX_L36 1 (iN w) (iN c) u g 4 (iN 0) (Fx_Rd_rememberX 3 first u g)) := rfl
  rw [e]
  by_cases q : u 37 0 < 12
  · rw [if_pos q, decide_eq_true q, rmb_t rfl]
    exact tp_L (u0 := u) (g := g) hw hc 4 0 u (by omega) (by omega)
  · rw [if_neg q, decide_eq_false q, rmb_f (by decide)]
    obtain ⟨r1, r2⟩ := re_X (u := u) (g := g) (f := 3) (p := first)
    obtain ⟨x, h1, h2, h3⟩ := tp_L (u0 := u) (g := g) hw hc 4 0 (Fx_Rd_rememberX 3 first u g) (by omega) (by omega)
    rw [r2 41 (by decide), r2 42 (by decide), r1] at h3
    exact ⟨x, h1, fun b hb => (h2 b hb).trans (r2 b hb), h3⟩
/-- a plan's row behind line w -/
def rowP (w : Nat) (R : Nat → Int32) (v0 v1 : Int32) : Nat → Int32 := if R 0 < 12 then upd (upd (upd (upd R (1 + 3 * (R 0).toInt.toNat) (iN w)) (2 + 3 * (R 0).toInt.toNat) v0) (3 + 3 * (R 0).toInt.toNat) (if w = 4 then -1 else v1)) 0 (R 0 + 1) else R
def lnPP (w : Nat) (f : Nat → Int32) (L a : Nat) (R : Nat → Int32) (P : Int32 × Int32) : Int32 × Int32 := fo (fun j x => chP w j x) (vv f L (tN f L a)) (pp f L (tN f L a)) (cnP w) 0 (rmb (decide (R 0 < 12)) 3 (iN (tS f L a)) P)
def lnPR (w : Nat) (f : Nat → Int32) (L a : Nat) (R : Nat → Int32) : Nat → Int32 := rowP w R (vv f L (tN f L a) 0) (vv f L (tN f L a) 1)
theorem rowP_b {w : Nat} {R : Nat → Int32} {v0 v1 : Int32} (b0 : Bd 0 12 (R 0)) : Bd 0 12 (rowP w R v0 v1 0) := by
  unfold rowP
  by_cases q : R 0 < 12
  · rw [if_pos q]
    show Bd 0 12 (R 0 + 1)
    have q1 := Int32.lt_iff_toInt_lt.mp q
    have e12 : (12 : Int32).toInt = 12 := rfl
    have e1 : (1 : Int32).toInt = 1 := rfl
    have e : (R 0 + 1).toInt = (R 0).toInt + 1 := by rw [ti_add (by have := b0.1; omega) (by omega), e1]
    rw [Bd, e]
    have := b0.1
    omega
  · rw [if_neg q]; exact b0
def RepP (u : MM) (R : Nat → Int32) : Prop := u 37 0 = R 0 ∧ ∀ k, k < (R 0).toInt.toNat → u 38 k = R (1 + 3 * k) ∧ u 39 k = R (2 + 3 * k) ∧ u 40 k = R (3 + 3 * k)
theorem ak_X {u : MM} {g : GG} {R : Nat → Int32} {w : Nat} {v0 v1 : Int32} (b0 : Bd 0 12 (R 0)) (h : RepP u R) : RepP (Fx_W_addKX (iN w) v0 (if w = 4 then -1 else v1) u g).2 (rowP w R v0 v1) ∧ ∀ b, b ≠ 37 → b ≠ 38 → b ≠ 39 → b ≠ 40 → (Fx_W_addKX (iN w) v0 (if w = 4 then -1 else v1) u g).2 b = u b := by
  obtain ⟨r0, r1⟩ := h
  unfold Fx_W_addKX rowP
  rw [r0]
  by_cases q : R 0 < 12
  · have q1 := Int32.lt_iff_toInt_lt.mp q
    have e12 : (12 : Int32).toInt = 12 := rfl
    have e1 : (1 : Int32).toInt = 1 := rfl
    have hc : (R 0).toNatClampNeg = (R 0).toInt.toNat := rfl
    have hs : (R 0 + 1).toInt.toNat = (R 0).toInt.toNat + 1 := by
      rw [ti_add (by have := b0.1; omega) (by omega), e1]
      have := b0.1
      omega
    rw [if_pos q, if_pos q, hc]
    simp only [xq_lt]
    generalize (if w = 4 then (-1 : Int32) else v1) = M
    refine ⟨⟨rfl, fun k hk => ?_⟩, fun b h37 h38 h39 h40 => ?_⟩
    · have e0 : upd (upd (upd (upd R (1 + 3 * (R 0).toInt.toNat) (iN w)) (2 + 3 * (R 0).toInt.toNat) v0) (3 + 3 * (R 0).toInt.toNat) M) 0 (R 0 + 1) 0 = R 0 + 1 := rfl
      rw [e0, hs] at hk
      have hg : ¬ k = (R 0).toInt.toNat → u 38 k = R (1 + 3 * k) ∧ u 39 k = R (2 + 3 * k) ∧ u 40 k = R (3 + 3 * k) := fun y => r1 k (by omega)
      generalize (R 0).toInt.toNat = r at *
      refine ⟨?_, ?_, ?_⟩
      · show (if k = r then iN w else u 38 k) = _
        unfold upd
        rw [if_neg (show ¬ 1 + 3 * k = 0 by omega), if_neg (show ¬ 1 + 3 * k = 3 + 3 * r by omega), if_neg (show ¬ 1 + 3 * k = 2 + 3 * r by omega)]
        by_cases y : k = r
        · rw [if_pos y, if_pos (by omega)]
        · rw [if_neg y, if_neg (by omega)]; exact (hg y).1
      · show (if k = r then v0 else u 39 k) = _
        unfold upd
        rw [if_neg (show ¬ 2 + 3 * k = 0 by omega), if_neg (show ¬ 2 + 3 * k = 3 + 3 * r by omega)]
        by_cases y : k = r
        · rw [if_pos y, if_pos (by omega)]
        · rw [if_neg y, if_neg (by omega), if_neg (by omega)]; exact (hg y).2.1
      · show (if k = r then M else u 40 k) = _
        unfold upd
        rw [if_neg (show ¬ 3 + 3 * k = 0 by omega)]
        by_cases y : k = r
        · rw [if_pos y, if_pos (by omega)]
        · rw [if_neg y, if_neg (by omega), if_neg (by omega), if_neg (by omega)]; exact (hg y).2.2
    · rw [ms_c1 h37, ms_c1 h40, ms_c1 h39, ms_c1 h38]
  · rw [if_neg q, if_neg q]
    exact ⟨⟨r0, r1⟩, fun _ _ _ _ _ => rfl⟩
def CPS (u : MM) (f : Nat → Int32) (L a : Nat) (P : Int32 × Int32) (R : Nat → Int32) : Prop := u 2 = f ∧ u 30 1 = iN L ∧ u 30 2 = iN a ∧ PR u = P ∧ RepP u R
theorem rp_p {x u : MM} {R : Nat → Int32} (h : RepP u R) (h37 : x 37 = u 37) (h38 : x 38 = u 38) (h39 : x 39 = u 39) (h40 : x 40 = u 40) : RepP x R := by
  unfold RepP
  rw [h37, h38, h39, h40]
  exact h
theorem cp_R {u : MM} {g : GG} {f : Nat → Int32} {L a : Nat} {P : Int32 × Int32} {R : Nat → Int32} (hb : L ≤ 600) (ha : a ≤ L) (b0 : Bd 0 12 (R 0)) (h : CPS u f L a P R) :
    (tK f L a = 0 → ∃ x, Fx_Rd_readLineX 1 u g = (false, x) ∧ PR x = P ∧ RepP x R) ∧
    (¬ tK f L a = 0 → pX f L a = -1 → ∃ x, Fx_Rd_readLineX 1 u g = (false, x) ∧ x 29 5 = 1 ∧ x 29 6 = iN (tS f L a)) ∧
    (∀ w, ¬ tK f L a = 0 → w < 5 → pX f L a = iN w → (∀ q, nb f L (cnP w) (tN f L a) = some q → ∃ x, Fx_Rd_readLineX 1 u g = (false, x) ∧ x 29 5 = 1 ∧ x 29 6 = iN q) ∧
      (nb f L (cnP w) (tN f L a) = none → ∃ x, Fx_Rd_readLineX 1 u g = (true, x) ∧ CPS x f L (sk f L (cnP w + 1) (tN f L a)) (lnPP w f L a R P) (lnPR w f L a R))) := by
  obtain ⟨c1, c2, c3, c4, c5⟩ := h
  have A := ad_X (g := g) c2 hb ha c3
  have hl := lo_1 (g := g) (sort := 1) (by decide) c2 hb ha A
  rw [c1] at A hl
  obtain ⟨a0, a1, a2, a3, a4, a5, a6⟩ := A
  have e : Fx_Rd_readLineX 1 u g = (if tK f L a = 0 then (false, Fx_Tk_advanceX u g) else (if pX f L a = -1 then (false, ms (ms (Fx_Tk_advanceX u g) 29 5 1) 29 6 (iN (tS f L a))) else Fx_Rd_readLineX_L65 1 g (Fx_Tk_advanceX u g) (pX f L a) ((sAr 3).getD (pX f L a).toNatClampNeg 0) 3 (iN 0) (Fx_Tk_advanceX u g))) := by
    rw [← a4, ← hl, ← a5]
    rfl
  have hrep : RepP (Fx_Tk_advanceX u g) R := rp_p c5 (a0 37 (by decide)) (a0 38 (by decide)) (a0 39 (by decide)) (a0 40 (by decide))
  have hpr : PR (Fx_Tk_advanceX u g) = P := by
    unfold PR
    rw [a0 29 (by decide)]
    exact c4
  refine ⟨fun k => ?_, fun k kx => ?_, fun w k w5 kx => ?_⟩
  · rw [e, if_pos k]
    exact ⟨_, rfl, hpr, hrep⟩
  · rw [e, if_neg k, if_pos kx]
    exact ⟨_, rfl, rfl, rfl⟩
  · obtain ⟨k1, k3, kc, k4⟩ := cnP_b w w5
    rw [e, if_neg k, kx, if_neg (iN_m1 (by omega)), iN_cl (by omega), kc]
    obtain ⟨q1, q2⟩ := rl_P (u2 := Fx_Tk_advanceX u g) (g := g) (L := L) (c := cnP w) (k := iN w) hb (by omega) 3 (cnP w) 0 (tN f L a) (Fx_Tk_advanceX u g) (by omega) (by omega) (tN_in ha) (a2.trans c2) a3
    have e2 : Fx_Tk_advanceX u g 2 = f := (a0 2 (by decide)).trans c1
    rw [e2] at q1 q2
    refine ⟨q1, fun hN => ?_⟩
    obtain ⟨y, y1, y2, y3, y4, y5, _, y7⟩ := q2 hN
    obtain ⟨x, x1, x2, x3⟩ := tk_P (u := y) (g := g) (w := w) (c := cnP w) (first := Fx_Tk_advanceX u g 30 4) w5 k3
    have v41 : ∀ j, j < cnP w → y 41 j = vv f L (tN f L a) j := fun j hj => by have := (y7 j hj).1; rw [Nat.zero_add] at this; exact this
    have v42 : ∀ j, j < cnP w → y 42 j = pp f L (tN f L a) j := fun j hj => by have := (y7 j hj).2; rw [Nat.zero_add] at this; exact this
    have hy : RepP y R := rp_p hrep (y2 37 (by decide) (by decide) (by decide)) (y2 38 (by decide) (by decide) (by decide)) (y2 39 (by decide) (by decide) (by decide)) (y2 40 (by decide) (by decide) (by decide))
    have py : PR y = P := by
      unfold PR
      rw [y2 29 (by decide) (by decide) (by decide)]
      exact hpr
    rw [hy.1, py, a5, fo_c v41 v42 (cnP w) 0 _ (by omega)] at x3
    have x3' : PR x = lnPP w f L a R P := x3
    have hx : RepP x R := rp_p hy (x2 37 (by decide)) (x2 38 (by decide)) (x2 39 (by decide)) (x2 40 (by decide))
    have hm : (if cnP w ≤ 1 then (-1 : Int32) else y 41 1) = if w = 4 then -1 else vv f L (tN f L a) 1 := by
      by_cases z : w = 4
      · rw [if_pos (k4.mpr z), if_pos z]
      · have z2 : ¬ cnP w ≤ 1 := fun q => z (k4.mp q)
        rw [if_neg z2, if_neg z, v41 1 (by omega)]
    rw [v41 0 (by omega), hm] at x1
    obtain ⟨t1, t2⟩ := ak_X (u := x) (g := g) (w := w) (v0 := vv f L (tN f L a) 0) (v1 := vv f L (tN f L a) 1) b0 hx
    refine ⟨_, by rw [y1, x1], ?_, ?_, ?_, ?_, t1⟩
    · rw [t2 2 (by decide) (by decide) (by decide) (by decide), x2 2 (by decide), y2 2 (by decide) (by decide) (by decide), e2]
    · rw [t2 30 (by decide) (by decide) (by decide) (by decide), x2 30 (by decide), y4, a2, c2]
    · rw [t2 30 (by decide) (by decide) (by decide) (by decide), x2 30 (by decide), y5]
    · unfold PR
      rw [t2 29 (by decide) (by decide) (by decide) (by decide)]
      exact x3'
/-- a plan's text from a on -/
def PT (f : Nat → Int32) (L : Nat) : Nat → Nat → Int32 × Int32 → (Nat → Int32) → Option Nat × (Int32 × Int32) × (Nat → Int32)
  | 0, _, P, R => (none, P, R)
  | n + 1, a, P, R => if tK f L a = 0 then (none, P, R) else if pX f L a = -1 then (some (tS f L a), P, R) else
    match nb f L (cnP (pX f L a).toInt.toNat) (tN f L a) with
    | some q => (some q, P, R)
    | none => PT f L n (sk f L (cnP (pX f L a).toInt.toNat + 1) (tN f L a)) (lnPP (pX f L a).toInt.toNat f L a R P) (lnPR (pX f L a).toInt.toNat f L a R)
theorem pX_n {f : Nat → Int32} {L a : Nat} (h : ¬ pX f L a = -1) : (pX f L a).toInt.toNat < 5 ∧ pX f L a = iN (pX f L a).toInt.toNat := by
  rcases pX_c (f := f) (L := L) (a := a) with ⟨h1, _⟩ | ⟨j, h1, h2, _⟩
  · exact absurd h1 h
  · rw [h2, iN_ti (by omega)]
    have e : ((j : Nat) : Int).toNat = j := by omega
    rw [e]
    exact ⟨h1, rfl⟩
theorem cp_L {f : Nat → Int32} {L : Nat} {g : GG} (hb : L ≤ 600) : ∀ (n m k a : Nat) (u : MM) (P : Int32 × Int32) (R : Nat → Int32), L - a + 1 < n → L - a < m → a ≤ L → k ≤ a → CPS u f L a P R → Bd 0 12 (R 0) →
    (∀ q P2 R2, PT f L m a P R = (some q, P2, R2) → ∃ x, Fx_Rd_readX_L39 1 g n 1 (iN k) u = Fx_Rd_readX_J65 1 g x ∧ x 29 5 = 1 ∧ x 29 6 = iN q) ∧
    (∀ P2 R2, PT f L m a P R = (none, P2, R2) → ∃ x, Fx_Rd_readX_L39 1 g n 1 (iN k) u = Fx_Rd_readX_J65 1 g x ∧ PR x = P2 ∧ RepP x R2) := by
  intro n
  induction n with
  | zero => intro m k a u P R h; omega
  | succ n ih =>
    intro m k a u P R hn hm ha hk h b0
    cases m with
    | zero => omega
    | succ m =>
    have hH : PT f L (m + 1) a P R = if tK f L a = 0 then (none, P, R) else if pX f L a = -1 then (some (tS f L a), P, R) else
      match nb f L (cnP (pX f L a).toInt.toNat) (tN f L a) with
      | some q => (some q, P, R)
      | none => PT f L m (sk f L (cnP (pX f L a).toInt.toNat + 1) (tN f L a)) (lnPP (pX f L a).toInt.toNat f L a R P) (lnPR (pX f L a).toInt.toNat f L a R) := rfl
    obtain ⟨r1, r2, r3⟩ := cp_R (g := g) hb ha b0 h
    have hend : ∀ x : MM, Fx_Rd_readX_L39 1 g n 0 (iN (k + 1)) x = Fx_Rd_readX_J65 1 g x := by
      intro x
      cases n with
      | zero => omega
      | succ n =>
        rw [Fx_Rd_readX_L39_s, if_pos rfl]
        split <;> rfl
    rw [hH, Fx_Rd_readX_L39_s, if_neg (show ¬ (600 : Int32) < iN k from fun z => by have := (iN_lt (a := 600) (by omega) (by omega)).mp z; omega), if_neg (show ¬ (1 : Int32) = 0 by decide), iN_s]
    by_cases k0 : tK f L a = 0
    · rw [if_pos k0]
      obtain ⟨x, x1, x2, x3⟩ := r1 k0
      rw [x1, c2_mk]
      refine ⟨fun q P2 R2 z => (by cases z), fun P2 R2 z => ?_⟩
      cases z
      exact ⟨x, hend x, x2, x3⟩
    · rw [if_neg k0]
      by_cases kx : pX f L a = -1
      · rw [if_pos kx]
        obtain ⟨x, x1, x2, x3⟩ := r2 k0 kx
        rw [x1, c2_mk]
        refine ⟨fun q P2 R2 z => ?_, fun P2 R2 z => (by cases z)⟩
        cases z
        exact ⟨x, hend x, x2, x3⟩
      · rw [if_neg kx]
        obtain ⟨w5, wx⟩ := pX_n kx
        obtain ⟨s1, s2⟩ := r3 _ k0 w5 wx
        generalize hw : (pX f L a).toInt.toNat = w at *
        cases hN : nb f L (cnP w) (tN f L a) with
        | some q =>
          obtain ⟨x, x1, x2, x3⟩ := s1 q hN
          rw [x1, c2_mk]
          refine ⟨fun q2 P2 R2 z => ?_, fun P2 R2 z => (by cases z)⟩
          cases z
          exact ⟨x, hend x, x2, x3⟩
        | none =>
          obtain ⟨x, x1, x2⟩ := s2 hN
          rw [x1, c2_mk]
          have p1 := tN_lt (f := f) (L := L) (a := a) k0
          have p3 := sk_le (f := f) (L := L) (cnP w + 1) (tN f L a)
          have p4 := tS_le (f := f) (L := L) a
          have p5 := sk_in (f := f) (cnP w + 1) (tN f L a) (tN_in ha)
          have c0 := rowP_b (w := w) (v0 := vv f L (tN f L a) 0) (v1 := vv f L (tN f L a) 1) b0
          exact ih m (k + 1) (sk f L (cnP w + 1) (tN f L a)) x (lnPP w f L a R P) (lnPR w f L a R) (by omega) (by omega) p5 (by omega) x2 c0
