/-! whole texts: both readers -/
def PI (P : Int32 × Int32) : Prop := (P.1 = 0 ∧ P.2 = -1) ∨ P.1 = 2 ∨ P.1 = 3
theorem pi_rm {P : Int32 × Int32} {f p : Int32} (hf : f = 2 ∨ f = 3) (h : PI P) : PI (rm P f p) := by
  unfold rm
  split
  · exact Or.inr hf
  · exact h
theorem pi_rmb {P : Int32 × Int32} {f p : Int32} {b : Bool} (hf : f = 2 ∨ f = 3) (h : PI P) : PI (rmb b f p P) := by
  unfold rmb
  split
  · exact h
  · exact pi_rm hf h
theorem pi_fo {ck : Nat → Int32 → Bool} {v p : Nat → Int32} {c : Nat} : ∀ (n i : Nat) (P : Int32 × Int32), c - i ≤ n → PI P → PI (fo ck v p c i P) := by
  intro n
  induction n with
  | zero => intro i P h hp; rw [fo_e (by omega)]; exact hp
  | succ n ih =>
    intro i P h hp
    by_cases q : i < c
    · rw [fo_s q]; exact ih (i + 1) _ (by omega) (pi_rmb (Or.inl rfl) hp)
    · rw [fo_e q]; exact hp
theorem pi_HR {f : Nat → Int32} {L : Nat} : ∀ (n a : Nat) (P : Int32 × Int32) (R : Nat → Int32), PI P → PI (HR f L n a P R).2.1 := by
  intro n
  induction n with
  | zero => intro a P R h; exact h
  | succ n ih =>
    intro a P R h
    unfold HR
    split
    · exact h
    · split
      · exact h
      · split
        · exact h
        · exact ih _ _ _ (pi_fo _ 0 _ (Nat.le_refl _) (pi_rmb (Or.inr rfl) h))
theorem pi_PT {f : Nat → Int32} {L : Nat} : ∀ (n a : Nat) (P : Int32 × Int32) (R : Nat → Int32), PI P → PI (PT f L n a P R).2.1 := by
  intro n
  induction n with
  | zero => intro a P R h; exact h
  | succ n ih =>
    intro a P R h
    unfold PT
    split
    · exact h
    · split
      · exact h
      · split
        · exact h
        · exact ih _ _ _ (pi_fo _ 0 _ (Nat.le_refl _) (pi_rmb (Or.inr rfl) h))
def sm (R : Nat → Int32) : Int32 := if R 1 ≤ 1 then 0 + R 6 else if R 1 ≤ 2 then 0 + R 6 + R 8 else if R 1 ≤ 3 then 0 + R 6 + R 8 + R 10 else 0 + R 6 + R 8 + R 10 + R 12
/-- a hill's text at its end: FAULT, place, row -/
def finH (L : Nat) (z : Option Nat × (Int32 × Int32) × (Nat → Int32)) : Int32 × Int32 × (Nat → Int32) :=
  match z with
  | (some q, _, R) => (1, iN q, R)
  | (none, P, R) => if R 1 = 0 then (P.1, P.2, upd (upd (upd R 1 1) 5 0) 6 100) else if P.1 = 0 ∧ ¬ sm R = 100 then (4, iN L, R) else (P.1, P.2, R)
def finP (z : Option Nat × (Int32 × Int32) × (Nat → Int32)) : Int32 × Int32 × (Nat → Int32) :=
  match z with
  | (some q, _, R) => (1, iN q, R)
  | (none, P, R) => (P.1, P.2, R)
def R0 (h : Bool) (r : Nat → Int32) : Nat → Int32 := fun j => if j < 157 then (if h = true ∧ 2 ≤ j ∧ j ≤ 4 then 1 else 0) else r j
theorem ri_L {g : GG} : ∀ (n i : Nat) (w : MM), 157 - i < n → i ≤ 157 → ∃ x, Fx_M_readText0X_L2 g n (iN i) w = Fx_M_readText0X_L55 ((600 - ((Fx_M_tokenX (ms (ms x 162 8 0) 162 15 0) g).1 162 8).toInt).toNat + 1) 1 (Fx_M_tokenX (ms (ms x 162 8 0) 162 15 0) g).1 (Fx_M_tokenX (ms (ms x 162 8 0) 162 15 0) g).2 ∧ (∀ b, b ≠ 170 → x b = w b) ∧ ∀ j, x 170 j = if i ≤ j ∧ j < 157 then (if 2 ≤ j ∧ j ≤ 4 then 1 else 0) else w 170 j := by
  intro n
  induction n with
  | zero => intro i w h; omega
  | succ n ih =>
    intro i w h hi
    rw [Fx_M_readText0X_L2_s]
    by_cases c : 157 ≤ i
    · rw [if_pos (show (157 : Int32) ≤ iN i from (iN_le (a := 157) (by omega) (by omega)).mpr c)]
      refine ⟨w, rfl, fun _ _ => rfl, fun j => ?_⟩
      rw [if_neg (by omega)]
    · rw [if_neg (show ¬ (157 : Int32) ≤ iN i from fun q => c ((iN_le (a := 157) (by omega) (by omega)).mp q))]
      have e : (xq_lt (Fx_M_inEX (iN i) (2 : Int32) (4 : Int32) w g) fun t => if t = true then (Fx_M_readText0X_J32 (Fx_M_readText0X_L2 g n) (iN i) w (1 : Int32)) else (Fx_M_readText0X_J32 (Fx_M_readText0X_L2 g n) (iN i) w (0 : Int32))) = Fx_M_readText0X_L2 g n (iN (i + 1)) (ms w 170 i (if 2 ≤ i ∧ i ≤ 4 then 1 else 0)) := by
        show (if Fx_M_inEX (iN i) (2 : Int32) (4 : Int32) w g = true then _ else _) = _
        unfold Fx_M_readText0X_J32
        rw [in_X, iN_cl (by omega), iN_s]
        by_cases q : 2 ≤ i ∧ i ≤ 4
        · rw [decide_eq_true (show (2 : Int32) ≤ iN i from (iN_le (a := 2) (by omega) (by omega)).mpr q.1), decide_eq_true (show iN i ≤ (4 : Int32) from (iN_le (b := 4) (by omega) (by omega)).mpr q.2), if_pos (show (true && true) = true from rfl), if_pos q]
          rfl
        · rw [if_neg q, if_neg]
          · rfl
          · intro z
            obtain ⟨z1, z2⟩ := (Bool.and_eq_true _ _).mp z
            exact q ⟨(iN_le (a := 2) (by omega) (by omega)).mp (of_decide_eq_true z1), (iN_le (b := 4) (by omega) (by omega)).mp (of_decide_eq_true z2)⟩
      rw [e]
      obtain ⟨x, x1, x2, x3⟩ := ih (i + 1) (ms w 170 i (if 2 ≤ i ∧ i ≤ 4 then 1 else 0)) (by omega) (by omega)
      refine ⟨x, x1, fun b hb => (x2 b hb).trans (ms_c1 hb), fun j => ?_⟩
      rw [x3 j]
      by_cases q : j = i
      · rw [q, if_neg (show ¬ (i + 1 ≤ i ∧ i < 157) by omega), ms_e1, if_pos (show i ≤ i ∧ i < 157 by omega)]
      · rw [ms_i1 q]
        by_cases q2 : i ≤ j ∧ j < 157
        · rw [if_pos (by omega), if_pos q2]
        · rw [if_neg (by omega), if_neg q2]
theorem rj_L {g : GG} : ∀ (n i : Nat) (w : MM), 157 - i < n → i ≤ 157 → ∃ x, Fx_M_readText1X_L2 g n (iN i) w = Fx_M_readText1X_L55 ((600 - ((Fx_M_tokenX (ms (ms x 162 8 0) 162 15 0) g).1 162 8).toInt).toNat + 1) 1 (Fx_M_tokenX (ms (ms x 162 8 0) 162 15 0) g).1 (Fx_M_tokenX (ms (ms x 162 8 0) 162 15 0) g).2 ∧ (∀ b, b ≠ 170 → x b = w b) ∧ ∀ j, x 170 j = if i ≤ j ∧ j < 157 then 0 else w 170 j := by
  intro n
  induction n with
  | zero => intro i w h; omega
  | succ n ih =>
    intro i w h hi
    rw [Fx_M_readText1X_L2_s]
    by_cases c : 157 ≤ i
    · rw [if_pos (show (157 : Int32) ≤ iN i from (iN_le (a := 157) (by omega) (by omega)).mpr c)]
      refine ⟨w, rfl, fun _ _ => rfl, fun j => ?_⟩
      rw [if_neg (by omega)]
    · rw [if_neg (show ¬ (157 : Int32) ≤ iN i from fun q => c ((iN_le (a := 157) (by omega) (by omega)).mp q)), iN_cl (by omega), iN_s]
      obtain ⟨x, x1, x2, x3⟩ := ih (i + 1) (ms w 170 i 0) (by omega) (by omega)
      refine ⟨x, x1, fun b hb => (x2 b hb).trans (ms_c1 hb), fun j => ?_⟩
      rw [x3 j]
      by_cases q : j = i
      · rw [q, if_neg (show ¬ (i + 1 ≤ i ∧ i < 157) by omega), ms_e1, if_pos (show i ≤ i ∧ i < 157 by omega)]
      · rw [ms_i1 q]
        by_cases q2 : i ≤ j ∧ j < 157
        · rw [if_pos (by omega), if_pos q2]
        · rw [if_neg (by omega), if_neg q2]
/-- the reference's first token -/
theorem ft_X {x : MM} {g : GG} {L : Nat} {R : Nat → Int32} (hb : L ≤ 600) (h9 : x 162 9 = iN L) (hf : ∀ j, j < L → Bd (-128) 127 (x 163 j)) (hR : x 170 = R) : RSv (Fx_M_tokenX (ms (ms x 162 8 0) 162 15 0) g).1 (Fx_M_tokenX (ms (ms x 162 8 0) 162 15 0) g).2 (x 163) L 0 (0, -1) R := by
  obtain ⟨m1, m2⟩ := mt_X (u := ms (ms x 162 8 0) 162 15 0) (g := g) (L := L) (a := 0) h9 hb hf (by omega) rfl
  refine ⟨m2.1 163 (by decide), (m2.2 9 (by decide) (by decide) (by decide) (by decide)).trans h9, m1, ⟨m2.2 15 (by decide) (by decide) (by decide) (by decide), fun z => absurd rfl z⟩, (m2.1 170 (by decide)).trans hR⟩
theorem or_0 {t : Nat} : OR (0, -1) t := fun z => absurd rfl z
theorem pi_pos {P : Int32 × Int32} (h : PI P) : (P.1 ≤ 0 ↔ P.1 = 0) := by
  rcases h with h | h | h
  · rw [h.1]; decide
  · rw [h]; decide
  · rw [h]; decide
/-- the reference's whole text of a hill -/
theorem t0_X {v : MM} {g : GG} {L : Nat} {F : Int32 × Int32 × (Nat → Int32)} (hb : L ≤ 600) (h9 : v 162 9 = iN L) (hf : ∀ j, j < L → Bd (-128) 127 (v 163 j)) (hF : finH L (HR (v 163) L 601 0 (0, -1) (R0 true (v 170))) = F) :
    ∃ x g2, Fx_M_readText0X v g = (decide (F.1 = 0), x, g2) ∧ x 165 0 = F.1 ∧ x 166 0 = F.2.1 ∧ (F.1 = 0 → x 170 = F.2.2) := by
  have e : Fx_M_readText0X v g = Fx_M_readText0X_L2 g 158 (iN 0) v := rfl
  obtain ⟨x, x1, x2, x3⟩ := ri_L (g := g) 158 0 v (by omega) (by omega)
  have xR : x 170 = R0 true (v 170) := by
    funext j
    rw [x3 j]
    unfold R0
    by_cases q : j < 157
    · rw [if_pos (by omega), if_pos q]
      by_cases q2 : 2 ≤ j ∧ j ≤ 4
      · rw [if_pos q2, if_pos ⟨rfl, q2⟩]
      · rw [if_neg q2, if_neg (fun z => q2 z.2)]
    · rw [if_neg (by omega), if_neg q]
  have x163 : x 163 = v 163 := x2 163 (by decide)
  have x9 : x 162 9 = iN L := by rw [x2 162 (by decide)]; exact h9
  have hft := ft_X (g := g) hb x9 (by rw [x163]; exact hf) xR
  rw [x163] at hft
  have hfu : L - tN (v 163) L 0 < (600 - ((Fx_M_tokenX (ms (ms x 162 8 0) 162 15 0) g).1 162 8).toInt).toNat + 1 := by
    have h8 := hft.2.2.1.1
    have := tN_in (f := v 163) (Nat.zero_le L)
    rw [h8, iN_ti (by omega)]
    omega
  obtain ⟨r1, r2⟩ := rt_L hb hf _ 601 0 _ _ (0, -1) (R0 true (v 170)) hfu (by omega) (by omega) hft or_0 (show Bd 0 9 (0 : Int32) by decide) (show Bd 0 4 (0 : Int32) by decide)
  have hpi := pi_HR (f := v 163) (L := L) 601 0 (0, -1) (R0 true (v 170)) (Or.inl ⟨rfl, rfl⟩)
  rw [e, x1]
  obtain ⟨oz, P, R, hz⟩ : ∃ oz P R, HR (v 163) L 601 0 (0, -1) (R0 true (v 170)) = (oz, P, R) := ⟨_, _, _, rfl⟩
  rw [hz] at hF hpi
  have hpi2 : PI P := hpi
  cases oz with
  | some q =>
    obtain ⟨y, g2, y1, y2⟩ := r1 q P R hz
    rw [y1]
    subst hF
    refine ⟨ms (ms y 165 0 1) 166 0 (y 162 14), g2, rfl, rfl, ?_, fun z => absurd z (by show ¬ (1 : Int32) = 0; decide)⟩
    show y 162 14 = iN q
    exact y2
  | none =>
    obtain ⟨y, g2, e2, y1, y2, yo, y3, y4, c0, c1⟩ := r2 P R hz
    rw [y1]
    have y15 : y 162 15 = P.1 := y2.2.2.2.1.1
    have y16 : ¬ P.1 = 0 → y 162 16 = P.2 := y2.2.2.2.1.2
    have y10 : y 162 10 = iN L := by rw [y2.2.2.1.2.1, tS_end y4 y3]
    have y170 : y 170 = R := y2.2.2.2.2
    -- what endsHill leaves
    have key : ∃ w, Fx_M_endsHillX y g2 = w ∧ w 162 15 = F.1 ∧ (¬ F.1 = 0 → w 162 16 = F.2.1) ∧ (F.1 = 0 → F.2.1 = -1) ∧ (F.1 ≤ 0 ↔ F.1 = 0) ∧ w 170 = F.2.2 := by
      have hF' : F = if R 1 = 0 then (P.1, P.2, upd (upd (upd R 1 1) 5 0) 6 100) else if P.1 = 0 ∧ ¬ sm R = 100 then (4, iN L, R) else (P.1, P.2, R) := hF.symm
      have p21 : P.1 = 0 → P.2 = -1 := by
        intro z
        rcases hpi2 with h | h | h
        · exact h.2
        · rw [z] at h; exact absurd h (by decide)
        · rw [z] at h; exact absurd h (by decide)
      have case0 : ∀ S : Int32, F = (P.1, P.2, R) → ∃ w, y = w ∧ w 162 15 = F.1 ∧ (¬ F.1 = 0 → w 162 16 = F.2.1) ∧ (F.1 = 0 → F.2.1 = -1) ∧ (F.1 ≤ 0 ↔ F.1 = 0) ∧ w 170 = F.2.2 := by
        intro _ hS
        subst hS
        exact ⟨y, rfl, y15, y16, p21, pi_pos hpi2, y170⟩
      have case4 : P.1 = 0 → F = (4, iN L, R) → ∃ w, Fx_M_laterX 4 (y 162 10) y g2 = w ∧ w 162 15 = F.1 ∧ (¬ F.1 = 0 → w 162 16 = F.2.1) ∧ (F.1 = 0 → F.2.1 = -1) ∧ (F.1 ≤ 0 ↔ F.1 = 0) ∧ w 170 = F.2.2 := by
        intro h0 hS
        subst hS
        refine ⟨ms (ms y 162 15 4) 162 16 (y 162 10), ?_, rfl, fun _ => y10, fun z => absurd z (by show ¬ (4 : Int32) = 0; decide), (show ((4 : Int32) ≤ 0 ↔ (4 : Int32) = 0) by decide), y170⟩
        unfold Fx_M_laterX
        rw [if_pos (y15.trans h0)]
        rfl
      have e1 : y 170 1 = R 1 := by rw [y170]
      have step : ∀ S : Int32, sm R = S → ¬ R 1 = 0 → ∃ w, (if S = 100 then y else if y 162 15 = 0 then Fx_M_laterX 4 (y 162 10) y g2 else y) = w ∧ w 162 15 = F.1 ∧ (¬ F.1 = 0 → w 162 16 = F.2.1) ∧ (F.1 = 0 → F.2.1 = -1) ∧ (F.1 ≤ 0 ↔ F.1 = 0) ∧ w 170 = F.2.2 := by
        intro S hS h1
        rw [if_neg h1, hS] at hF'
        by_cases s1 : S = 100
        · rw [if_pos s1]
          rw [if_neg (fun z => z.2 s1)] at hF'
          exact case0 0 hF'
        · rw [if_neg s1, y15]
          by_cases s2 : P.1 = 0
          · rw [if_pos s2]
            rw [if_pos ⟨s2, s1⟩] at hF'
            exact case4 s2 hF'
          · rw [if_neg s2]
            rw [if_neg (fun z => s2 z.1)] at hF'
            exact case0 0 hF'
      have ti0 : (0 : Int32).toInt = 0 := rfl
      have rr : R 1 = 0 ∨ R 1 = 1 ∨ R 1 = 2 ∨ R 1 = 3 ∨ R 1 = 4 := by
        have h5 : (R 1).toInt = 0 ∨ (R 1).toInt = 1 ∨ (R 1).toInt = 2 ∨ (R 1).toInt = 3 ∨ (R 1).toInt = 4 := by have := c1.1; have := c1.2; omega
        rcases h5 with h | h | h | h | h
        · exact Or.inl (Int32.toInt_inj.mp h)
        · exact Or.inr (Or.inl (Int32.toInt_inj.mp h))
        · exact Or.inr (Or.inr (Or.inl (Int32.toInt_inj.mp h)))
        · exact Or.inr (Or.inr (Or.inr (Or.inl (Int32.toInt_inj.mp h))))
        · exact Or.inr (Or.inr (Or.inr (Or.inr (Int32.toInt_inj.mp h))))
      unfold Fx_M_endsHillX
      rw [e1]
      rcases rr with h | h | h | h | h
      · rw [if_pos h] at hF'
        subst hF'
        rw [h]
        refine ⟨ms (ms (ms y 170 1 1) 170 5 0) 170 6 100, rfl, y15, y16, p21, pi_pos hpi2, ?_⟩
        show ms (ms (ms y 170 1 1) 170 5 0) 170 6 100 170 = _
        rw [ms_a1, ms_a1, ms_a1, y170]
      · have hs : sm R = 0 + y 170 6 := by unfold sm; rw [h, y170]; rfl
        have := step _ hs (by rw [h]; decide)
        rw [h]
        exact this
      · have hs : sm R = 0 + y 170 6 + y 170 8 := by unfold sm; rw [h, y170]; rfl
        have := step _ hs (by rw [h]; decide)
        rw [h]
        exact this
      · have hs : sm R = 0 + y 170 6 + y 170 8 + y 170 10 := by unfold sm; rw [h, y170]; rfl
        have := step _ hs (by rw [h]; decide)
        rw [h]
        exact this
      · have hs : sm R = 0 + y 170 6 + y 170 8 + y 170 10 + y 170 12 := by unfold sm; rw [h, y170]; rfl
        have := step _ hs (by rw [h]; decide)
        rw [h]
        exact this
    obtain ⟨w, w1, w2, w3, w4, w5, w6⟩ := key
    have e3 : Fx_M_readText0X_J122 1 y g2 = (if w 162 15 ≤ 0 then (if w 162 15 = 0 then (true, ms (ms w 165 0 (w 162 15)) 166 0 (-1), g2) else (false, ms (ms w 165 0 (w 162 15)) 166 0 (-1), g2)) else (if w 162 15 = 0 then default else (false, ms (ms w 165 0 (w 162 15)) 166 0 (w 162 16), g2))) := by
      rw [← w1]
      rfl
    rw [e3, w2]
    by_cases q : F.1 = 0
    · rw [if_pos (w5.mpr q), if_pos q, decide_eq_true q]
      exact ⟨_, _, rfl, rfl, (w4 q).symm, fun _ => w6⟩
    · rw [if_neg (fun z => q (w5.mp z)), if_neg q, decide_eq_false q]
      exact ⟨_, _, rfl, rfl, w3 q, fun z => absurd z q⟩
