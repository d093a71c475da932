section
/-! whole texts: both readers -/
def PI (P : Int32 × Int32) : Prop := (P.1 = 0 ∧ P.2 = -1) ∨ P.1 = 2 ∨ P.1 = 3
theorem pi_rm {P : Int32 × Int32} {f p : Int32} (hf : f = 2 ∨ f = 3) (h : PI P) : PI (rm P f p) := by
  unfold rm
  split
  · exact Or.inr hf
  · exact h
theorem pi_rmb {P : Int32 × Int32} {f p : Int32} {b : Bool} (hf : f = 2 ∨ f = 3) (h : PI P) : PI (rmb b f p P) := by
  unfold rmb
  split
  · exact h
  · exact pi_rm hf h
theorem pi_fo {ck : Nat → Int32 → Bool} {v p : Nat → Int32} {c : Nat} : ∀ (n i : Nat) (P : Int32 × Int32), c - i ≤ n → PI P → PI (fo ck v p c i P) := by
  intro n
  induction n with
  | zero => intro i P h hp; rw [fo_e (by omega)]; exact hp
  | succ n ih =>
    intro i P h hp
    by_cases q : i < c
    · rw [fo_s q]; exact ih (i + 1) _ (by omega) (pi_rmb (Or.inl rfl) hp)
    · rw [fo_e q]; exact hp
theorem pi_HR {f : Nat → Int32} {L : Nat} : ∀ (n a : Nat) (P : Int32 × Int32) (R : Nat → Int32), PI P → PI (HR f L n a P R).2.1 := by
  intro n
  induction n with
  | zero => intro a P R h; exact h
  | succ n ih =>
    intro a P R h
    unfold HR
    split
    · exact h
    · split
      · exact h
      · split
        · exact h
        · exact ih _ _ _ (pi_fo _ 0 _ (Nat.le_refl _) (pi_rmb (Or.inr rfl) h))
theorem pi_PT {f : Nat → Int32} {L : Nat} : ∀ (n a : Nat) (P : Int32 × Int32) (R : Nat → Int32), PI P → PI (PT f L n a P R).2.1 := by
  intro n
  induction n with
  | zero => intro a P R h; exact h
  | succ n ih =>
    intro a P R h
    unfold PT
    split
    · exact h
    · split
      · exact h
      · split
        · exact h
        · exact ih _ _ _ (pi_fo _ 0 _ (Nat.le_refl _) (pi_rmb (Or.inr rfl) h))
def sm (R : Nat → Int32) : Int32 := if R 1 ≤ 1 then 0 + R 6 else if R 1 ≤ 2 then 0 + R 6 + R 8 else if R 1 ≤ 3 then 0 + R 6 + R 8 + R 10 else 0 + R 6 + R 8 + R 10 + R 12
/-- a hill's text at its end: FAULT, place, row -/
def finH (L : Nat) (z : Option Nat × (Int32 × Int32) × (Nat → Int32)) : Int32 × Int32 × (Nat → Int32) :=
  match z with
  | (some q, _, R) => (1, iN q, R)
  | (none, P, R) => if R 1 = 0 then (P.1, P.2, upd (upd (upd R 1 1) 5 0) 6 100) else if P.1 = 0 ∧ ¬ sm R = 100 then (4, iN L, R) else (P.1, P.2, R)
def finP (z : Option Nat × (Int32 × Int32) × (Nat → Int32)) : Int32 × Int32 × (Nat → Int32) :=
  match z with
  | (some q, _, R) => (1, iN q, R)
  | (none, P, R) => (P.1, P.2, R)
def R0 (h : Bool) (r : Nat → Int32) : Nat → Int32 := fun j => if j < 157 then (if h = true ∧ 2 ≤ j ∧ j ≤ 4 then 1 else 0) else r j
theorem ri_L {g : GG} : ∀ (n i : Nat) (w : MM), 157 - i < n → i ≤ 157 → ∃ x, Fx_M_readText0X_L2 g n (iN i) w = Fx_M_readText0X_L55 ((600 - ((Fx_M_tokenX (ms (ms x 162 8 0) 162 15 0) g).1 162 8).toInt).toNat + 1) 1 (Fx_M_tokenX (ms (ms x 162 8 0) 162 15 0) g).1 (Fx_M_tokenX (ms (ms x 162 8 0) 162 15 0) g).2 ∧ (∀ b, b ≠ 170 → x b = w b) ∧ ∀ j, x 170 j = if i ≤ j ∧ j < 157 then (if 2 ≤ j ∧ j ≤ 4 then 1 else 0) else w 170 j := by
  intro n
  induction n with
  | zero => intro i w h; omega
  | succ n ih =>
    intro i w h hi
    rw [Fx_M_readText0X_L2_s]
    by_cases c : 157 ≤ i
    · rw [if_pos (show (157 : Int32) ≤ iN i from (iN_le (a := 157) (by omega) (by omega)).mpr c)]
      refine ⟨w, rfl, fun _ _ => rfl, fun j => ?_⟩
      rw [if_neg (by omega)]
    · rw [if_neg (show ¬ (157 : Int32) ≤ iN i from fun q => c ((iN_le (a := 157) (by omega) (by omega)).mp q))]
      have e : (xq_lt (Fx_M_inEX (iN i) (2 : Int32) (4 : Int32) w g) fun t => if t = true then (Fx_M_readText0X_J32 (Fx_M_readText0X_L2 g n) (iN i) w (1 : Int32)) else (Fx_M_readText0X_J32 (Fx_M_readText0X_L2 g n) (iN i) w (0 : Int32))) = Fx_M_readText0X_L2 g n (iN (i + 1)) (ms w 170 i (if 2 ≤ i ∧ i ≤ 4 then 1 else 0)) := by
        show (if Fx_M_inEX (iN i) (2 : Int32) (4 : Int32) w g = true then _ else _) = _
        unfold Fx_M_readText0X_J32
        rw [in_X, iN_cl (by omega), iN_s]
        by_cases q : 2 ≤ i ∧ i ≤ 4
        · rw [decide_eq_true (show (2 : Int32) ≤ iN i from (iN_le (a := 2) (by omega) (by omega)).mpr q.1), decide_eq_true (show iN i ≤ (4 : Int32) from (iN_le (b := 4) (by omega) (by omega)).mpr q.2), if_pos (show (true && true) = true from rfl), if_pos q]
          rfl
        · rw [if_neg q, if_neg]
          · rfl
          · intro z
            obtain ⟨z1, z2⟩ := (Bool.and_eq_true _ _).mp z
            exact q ⟨(iN_le (a := 2) (by omega) (by omega)).mp (of_decide_eq_true z1), (iN_le (b := 4) (by omega) (by omega)).mp (of_decide_eq_true z2)⟩
      rw [e]
      obtain ⟨x, x1, x2, x3⟩ := ih (i + 1) (ms w 170 i (if 2 ≤ i ∧ i ≤ 4 then 1 else 0)) (by omega) (by omega)
      refine ⟨x, x1, fun b hb => (x2 b hb).trans (ms_c1 hb), fun j => ?_⟩
      rw [x3 j]
      by_cases q : j = i
      · rw [q, if_neg (show ¬ (i + 1 ≤ i ∧ i < 157) by omega), ms_e1, if_pos (show i ≤ i ∧ i < 157 by omega)]
      · rw [ms_i1 q]
        by_cases q2 : i ≤ j ∧ j < 157
        · rw [if_pos (by omega), if_pos q2]
        · rw [if_neg (by omega), if_neg q2]
theorem rj_L {g : GG} : ∀ (n i : Nat) (w : MM), 157 - i < n → i ≤ 157 → ∃ x, Fx_M_readText1X_L2 g n (iN i) w = Fx_M_readText1X_L55 ((600 - ((Fx_M_tokenX (ms (ms x 162 8 0) 162 15 0) g).1 162 8).toInt).toNat + 1) 1 (Fx_M_tokenX (ms (ms x 162 8 0) 162 15 0) g).1 (Fx_M_tokenX (ms (ms x 162 8 0) 162 15 0) g).2 ∧ (∀ b, b ≠ 170 → x b = w b) ∧ ∀ j, x 170 j = if i ≤ j ∧ j < 157 then 0 else w 170 j := by
  intro n
  induction n with
  | zero => intro i w h; omega
  | succ n ih =>
    intro i w h hi
    rw [Fx_M_readText1X_L2_s]
    by_cases c : 157 ≤ i
    · rw [if_pos (show (157 : Int32) ≤ iN i from (iN_le (a := 157) (by omega) (by omega)).mpr c)]
      refine ⟨w, rfl, fun _ _ => rfl, fun j => ?_⟩
      rw [if_neg (by omega)]
    · rw [if_neg (show ¬ (157 : Int32) ≤ iN i from fun q => c ((iN_le (a := 157) (by omega) (by omega)).mp q)), iN_cl (by omega), iN_s]
      obtain ⟨x, x1, x2, x3⟩ := ih (i + 1) (ms w 170 i 0) (by omega) (by omega)
      refine ⟨x, x1, fun b hb => (x2 b hb).trans (ms_c1 hb), fun j => ?_⟩
      rw [x3 j]
      by_cases q : j = i
      · rw [q, if_neg (show ¬ (i + 1 ≤ i ∧ i < 157) by omega), ms_e1, if_pos (show i ≤ i ∧ i < 157 by omega)]
      · rw [ms_i1 q]
        by_cases q2 : i ≤ j ∧ j < 157
        · rw [if_pos (by omega), if_pos q2]
        · rw [if_neg (by omega), if_neg q2]
/-- the reference's first token -/
theorem ft_X {x : MM} {g : GG} {L : Nat} {R : Nat → Int32} (hb : L ≤ 600) (h9 : x 162 9 = iN L) (hf : ∀ j, j < L → Bd (-128) 127 (x 163 j)) (hR : x 170 = R) : RSv (Fx_M_tokenX (ms (ms x 162 8 0) 162 15 0) g).1 (Fx_M_tokenX (ms (ms x 162 8 0) 162 15 0) g).2 (x 163) L 0 (0, -1) R := by
  obtain ⟨m1, m2⟩ := mt_X (u := ms (ms x 162 8 0) 162 15 0) (g := g) (L := L) (a := 0) h9 hb hf (by omega) rfl
  refine ⟨m2.1 163 (by decide), (m2.2 9 (by decide) (by decide) (by decide) (by decide)).trans h9, m1, ⟨m2.2 15 (by decide) (by decide) (by decide) (by decide), fun z => absurd rfl z⟩, (m2.1 170 (by decide)).trans hR⟩
theorem or_0 {t : Nat} : OR (0, -1) t := fun z => absurd rfl z
theorem pi_pos {P : Int32 × Int32} (h : PI P) : (P.1 ≤ 0 ↔ P.1 = 0) := by
  rcases h with h | h | h
  · rw [h.1]; decide
  · rw [h]; decide
  · rw [h]; decide
/-- the reference's whole text of a hill -/
theorem t0_X {v : MM} {g : GG} {L : Nat} {F : Int32 × Int32 × (Nat → Int32)} (hb : L ≤ 600) (h9 : v 162 9 = iN L) (hf : ∀ j, j < L → Bd (-128) 127 (v 163 j)) (hF : finH L (HR (v 163) L 601 0 (0, -1) (R0 true (v 170))) = F) :
    ∃ x g2, Fx_M_readText0X v g = (decide (F.1 = 0), x, g2) ∧ x 165 0 = F.1 ∧ x 166 0 = F.2.1 ∧ (F.1 = 0 → x 170 = F.2.2) := by
  have e : Fx_M_readText0X v g = Fx_M_readText0X_L2 g 158 (iN 0) v := rfl
  obtain ⟨x, x1, x2, x3⟩ := ri_L (g := g) 158 0 v (by omega) (by omega)
  have xR : x 170 = R0 true (v 170) := by
    funext j
    rw [x3 j]
    unfold R0
    by_cases q : j < 157
    · rw [if_pos (by omega), if_pos q]
      by_cases q2 : 2 ≤ j ∧ j ≤ 4
      · rw [if_pos q2, if_pos ⟨rfl, q2⟩]
      · rw [if_neg q2, if_neg (fun z => q2 z.2)]
    · rw [if_neg (by omega), if_neg q]
  have x163 : x 163 = v 163 := x2 163 (by decide)
  have x9 : x 162 9 = iN L := by rw [x2 162 (by decide)]; exact h9
  have hft := ft_X (g := g) hb x9 (by rw [x163]; exact hf) xR
  rw [x163] at hft
  have hfu : L - tN (v 163) L 0 < (600 - ((Fx_M_tokenX (ms (ms x 162 8 0) 162 15 0) g).1 162 8).toInt).toNat + 1 := by
    have h8 := hft.2.2.1.1
    have := tN_in (f := v 163) (Nat.zero_le L)
    rw [h8, iN_ti (by omega)]
    omega
  obtain ⟨r1, r2⟩ := rt_L hb hf _ 601 0 _ _ (0, -1) (R0 true (v 170)) hfu (by omega) (by omega) hft or_0 (show Bd 0 9 (0 : Int32) by decide) (show Bd 0 4 (0 : Int32) by decide)
  have hpi := pi_HR (f := v 163) (L := L) 601 0 (0, -1) (R0 true (v 170)) (Or.inl ⟨rfl, rfl⟩)
  rw [e, x1]
  obtain ⟨oz, P, R, hz⟩ : ∃ oz P R, HR (v 163) L 601 0 (0, -1) (R0 true (v 170)) = (oz, P, R) := ⟨_, _, _, rfl⟩
  rw [hz] at hF hpi
  have hpi2 : PI P := hpi
  cases oz with
  | some q =>
    obtain ⟨y, g2, y1, y2⟩ := r1 q P R hz
    rw [y1]
    subst hF
    refine ⟨ms (ms y 165 0 1) 166 0 (y 162 14), g2, rfl, rfl, ?_, fun z => absurd z (by show ¬ (1 : Int32) = 0; decide)⟩
    show y 162 14 = iN q
    exact y2
  | none =>
    obtain ⟨y, g2, e2, y1, y2, yo, y3, y4, c0, c1⟩ := r2 P R hz
    rw [y1]
    have y15 : y 162 15 = P.1 := y2.2.2.2.1.1
    have y16 : ¬ P.1 = 0 → y 162 16 = P.2 := y2.2.2.2.1.2
    have y10 : y 162 10 = iN L := by rw [y2.2.2.1.2.1, tS_end y4 y3]
    have y170 : y 170 = R := y2.2.2.2.2
    -- what endsHill leaves
    have key : ∃ w, Fx_M_endsHillX y g2 = w ∧ w 162 15 = F.1 ∧ (¬ F.1 = 0 → w 162 16 = F.2.1) ∧ (F.1 = 0 → F.2.1 = -1) ∧ (F.1 ≤ 0 ↔ F.1 = 0) ∧ w 170 = F.2.2 := by
      have hF' : F = if R 1 = 0 then (P.1, P.2, upd (upd (upd R 1 1) 5 0) 6 100) else if P.1 = 0 ∧ ¬ sm R = 100 then (4, iN L, R) else (P.1, P.2, R) := hF.symm
      have p21 : P.1 = 0 → P.2 = -1 := by
        intro z
        rcases hpi2 with h | h | h
        · exact h.2
        · rw [z] at h; exact absurd h (by decide)
        · rw [z] at h; exact absurd h (by decide)
      have case0 : ∀ S : Int32, F = (P.1, P.2, R) → ∃ w, y = w ∧ w 162 15 = F.1 ∧ (¬ F.1 = 0 → w 162 16 = F.2.1) ∧ (F.1 = 0 → F.2.1 = -1) ∧ (F.1 ≤ 0 ↔ F.1 = 0) ∧ w 170 = F.2.2 := by
        intro _ hS
        subst hS
        exact ⟨y, rfl, y15, y16, p21, pi_pos hpi2, y170⟩
      have case4 : P.1 = 0 → F = (4, iN L, R) → ∃ w, Fx_M_laterX 4 (y 162 10) y g2 = w ∧ w 162 15 = F.1 ∧ (¬ F.1 = 0 → w 162 16 = F.2.1) ∧ (F.1 = 0 → F.2.1 = -1) ∧ (F.1 ≤ 0 ↔ F.1 = 0) ∧ w 170 = F.2.2 := by
        intro h0 hS
        subst hS
        refine ⟨ms (ms y 162 15 4) 162 16 (y 162 10), ?_, rfl, fun _ => y10, fun z => absurd z (by show ¬ (4 : Int32) = 0; decide), (show ((4 : Int32) ≤ 0 ↔ (4 : Int32) = 0) by decide), y170⟩
        unfold Fx_M_laterX
        rw [if_pos (y15.trans h0)]
        rfl
      have e1 : y 170 1 = R 1 := by rw [y170]
      have step : ∀ S : Int32, sm R = S → ¬ R 1 = 0 → ∃ w, (if S = 100 then y else if y 162 15 = 0 then Fx_M_laterX 4 (y 162 10) y g2 else y) = w ∧ w 162 15 = F.1 ∧ (¬ F.1 = 0 → w 162 16 = F.2.1) ∧ (F.1 = 0 → F.2.1 = -1) ∧ (F.1 ≤ 0 ↔ F.1 = 0) ∧ w 170 = F.2.2 := by
        intro S hS h1
        rw [if_neg h1, hS] at hF'
        by_cases s1 : S = 100
        · rw [if_pos s1]
          rw [if_neg (fun z => z.2 s1)] at hF'
          exact case0 0 hF'
        · rw [if_neg s1, y15]
          by_cases s2 : P.1 = 0
          · rw [if_pos s2]
            rw [if_pos ⟨s2, s1⟩] at hF'
            exact case4 s2 hF'
          · rw [if_neg s2]
            rw [if_neg (fun z => s2 z.1)] at hF'
            exact case0 0 hF'
      have ti0 : (0 : Int32).toInt = 0 := rfl
      have rr : R 1 = 0 ∨ R 1 = 1 ∨ R 1 = 2 ∨ R 1 = 3 ∨ R 1 = 4 := by
        have h5 : (R 1).toInt = 0 ∨ (R 1).toInt = 1 ∨ (R 1).toInt = 2 ∨ (R 1).toInt = 3 ∨ (R 1).toInt = 4 := by have := c1.1; have := c1.2; omega
        rcases h5 with h | h | h | h | h
        · exact Or.inl (Int32.toInt_inj.mp h)
        · exact Or.inr (Or.inl (Int32.toInt_inj.mp h))
        · exact Or.inr (Or.inr (Or.inl (Int32.toInt_inj.mp h)))
        · exact Or.inr (Or.inr (Or.inr (Or.inl (Int32.toInt_inj.mp h))))
        · exact Or.inr (Or.inr (Or.inr (Or.inr (Int32.toInt_inj.mp h))))
      unfold Fx_M_endsHillX
      rw [e1]
      rcases rr with h | h | h | h | h
      · rw [if_pos h] at hF'
        subst hF'
        rw [h]
        refine ⟨ms (ms (ms y 170 1 1) 170 5 0) 170 6 100, rfl, y15, y16, p21, pi_pos hpi2, ?_⟩
        show ms (ms (ms y 170 1 1) 170 5 0) 170 6 100 170 = _
        rw [ms_a1, ms_a1, ms_a1, y170]
      · have hs : sm R = 0 + y 170 6 := by unfold sm; rw [h, y170]; rfl
        have := step _ hs (by rw [h]; decide)
        rw [h]
        exact this
      · have hs : sm R = 0 + y 170 6 + y 170 8 := by unfold sm; rw [h, y170]; rfl
        have := step _ hs (by rw [h]; decide)
        rw [h]
        exact this
      · have hs : sm R = 0 + y 170 6 + y 170 8 + y 170 10 := by unfold sm; rw [h, y170]; rfl
        have := step _ hs (by rw [h]; decide)
        rw [h]
        exact this
      · have hs : sm R = 0 + y 170 6 + y 170 8 + y 170 10 + y 170 12 := by unfold sm; rw [h, y170]; rfl
        have := step _ hs (by rw [h]; decide)
        rw [h]
        exact this
    obtain ⟨w, w1, w2, w3, w4, w5, w6⟩ := key
    have e3 : Fx_M_readText0X_J122 1 y g2 = (if w 162 15 ≤ 0 then (if w 162 15 = 0 then (true, ms (ms w 165 0 (w 162 15)) 166 0 (-1), g2) else (false, ms (ms w 165 0 (w 162 15)) 166 0 (-1), g2)) else (if w 162 15 = 0 then default else (false, ms (ms w 165 0 (w 162 15)) 166 0 (w 162 16), g2))) := by
      rw [← w1]
      rfl
    rw [e3, w2]
    by_cases q : F.1 = 0
    · rw [if_pos (w5.mpr q), if_pos q, decide_eq_true q]
      exact ⟨_, _, rfl, rfl, (w4 q).symm, fun _ => w6⟩
    · rw [if_neg (fun z => q (w5.mp z)), if_neg q, decide_eq_false q]
      exact ⟨_, _, rfl, rfl, w3 q, fun z => absurd z q⟩
end
section
/-! whole texts: plans of the reference, both of the class -/
theorem t1_X {v : MM} {g : GG} {L : Nat} {F : Int32 × Int32 × (Nat → Int32)} (hb : L ≤ 600) (h9 : v 162 9 = iN L) (hf : ∀ j, j < L → Bd (-128) 127 (v 163 j)) (hF : finP (PT (v 163) L 601 0 (0, -1) (R0 false (v 170))) = F) :
    ∃ x g2, Fx_M_readText1X v g = (decide (F.1 = 0), x, g2) ∧ x 165 0 = F.1 ∧ x 166 0 = F.2.1 ∧ (F.1 = 0 → x 170 = F.2.2) := by
  have e : Fx_M_readText1X v g = Fx_M_readText1X_L2 g 158 (iN 0) v := rfl
  obtain ⟨x, x1, x2, x3⟩ := rj_L (g := g) 158 0 v (by omega) (by omega)
  have xR : x 170 = R0 false (v 170) := by
    funext j
    rw [x3 j]
    unfold R0
    by_cases q : j < 157
    · rw [if_pos (by omega), if_pos q, if_neg (fun z => absurd z.1 (by decide))]
    · rw [if_neg (by omega), if_neg q]
  have x163 : x 163 = v 163 := x2 163 (by decide)
  have x9 : x 162 9 = iN L := by rw [x2 162 (by decide)]; exact h9
  have hft := ft_X (g := g) hb x9 (by rw [x163]; exact hf) xR
  rw [x163] at hft
  have hfu : L - tN (v 163) L 0 < (600 - ((Fx_M_tokenX (ms (ms x 162 8 0) 162 15 0) g).1 162 8).toInt).toNat + 1 := by
    have h8 := hft.2.2.1.1
    have := tN_in (f := v 163) (Nat.zero_le L)
    rw [h8, iN_ti (by omega)]
    omega
  obtain ⟨r1, r2⟩ := rp_L hb hf _ 601 0 _ _ (0, -1) (R0 false (v 170)) hfu (by omega) (by omega) hft or_0 (show Bd 0 12 (0 : Int32) by decide)
  have hpi := pi_PT (f := v 163) (L := L) 601 0 (0, -1) (R0 false (v 170)) (Or.inl ⟨rfl, rfl⟩)
  rw [e, x1]
  obtain ⟨oz, P, R, hz⟩ : ∃ oz P R, PT (v 163) L 601 0 (0, -1) (R0 false (v 170)) = (oz, P, R) := ⟨_, _, _, rfl⟩
  rw [hz] at hF hpi
  have hpi2 : PI P := hpi
  cases oz with
  | some q =>
    obtain ⟨y, g2, y1, y2⟩ := r1 q P R hz
    rw [y1]
    subst hF
    refine ⟨ms (ms y 165 0 1) 166 0 (y 162 14), g2, rfl, rfl, ?_, fun z => absurd z (by show ¬ (1 : Int32) = 0; decide)⟩
    show y 162 14 = iN q
    exact y2
  | none =>
    obtain ⟨y, g2, e2, y1, y2, yo, y3, y4, c0⟩ := r2 P R hz
    rw [y1]
    have hF' : F = (P.1, P.2, R) := hF.symm
    subst hF'
    have y15 : y 162 15 = P.1 := y2.2.2.2.1.1
    have y16 : ¬ P.1 = 0 → y 162 16 = P.2 := y2.2.2.2.1.2
    have y170 : y 170 = R := y2.2.2.2.2
    have p21 : P.1 = 0 → P.2 = -1 := by
      intro z
      rcases hpi2 with h | h | h
      · exact h.2
      · rw [z] at h; exact absurd h (by decide)
      · rw [z] at h; exact absurd h (by decide)
    have e3 : Fx_M_readText1X_J122 1 y g2 = (if y 162 15 ≤ 0 then (if y 162 15 = 0 then (true, ms (ms y 165 0 (y 162 15)) 166 0 (-1), g2) else (false, ms (ms y 165 0 (y 162 15)) 166 0 (-1), g2)) else (if y 162 15 = 0 then default else (false, ms (ms y 165 0 (y 162 15)) 166 0 (y 162 16), g2))) := rfl
    rw [e3, y15]
    by_cases q : P.1 = 0
    · rw [if_pos ((pi_pos hpi2).mpr q), if_pos q]
      refine ⟨ms (ms y 165 0 P.1) 166 0 (-1), g2, ?_, rfl, (p21 q).symm, fun _ => y170⟩
      rw [decide_eq_true (show ((P.1, P.2, R) : Int32 × Int32 × (Nat → Int32)).1 = 0 from q)]
    · rw [if_neg (fun z => q ((pi_pos hpi2).mp z)), if_neg q]
      refine ⟨ms (ms y 165 0 P.1) 166 0 (y 162 16), g2, ?_, rfl, y16 q, fun z => absurd z q⟩
      rw [decide_eq_false (show ¬ ((P.1, P.2, R) : Int32 × Int32 × (Nat → Int32)).1 = 0 from q)]
/-- rains' chances together -/
def sfc (c : Nat → Int32) : Nat → Nat → Int32 → Int32
  | 0, _, s => s
  | m + 1, k, s => sfc c m (k + 1) (s + c k)
theorem ch_L {u : MM} {g : GG} {r : Nat} (hr : u 32 2 = iN r) (h4 : r ≤ 4) : ∀ (n k : Nat) (s : Int32), r - k < n → k ≤ r → Fx_H_chancesX_L4 32 u g n s (iN k) = sfc (u 35) (r - k) k s := by
  intro n
  induction n with
  | zero => intro k s h; omega
  | succ n ih =>
    intro k s h hk
    rw [Fx_H_chancesX_L4_s, hr]
    by_cases c : r ≤ k
    · rw [if_pos ((iN_le (by omega) (by omega)).mpr c), show r - k = 0 by omega]
      rfl
    · rw [if_neg (fun q => c ((iN_le (by omega) (by omega)).mp q))]
      have ec : Fx_H_chanceOfX (iN k) 32 u g = u 35 k := by
        unfold Fx_H_chanceOfX
        rw [if_neg (show ¬ iN k < (0 : Int32) from fun q => by have := (iN_lt (b := 0) (by omega) (by omega)).mp q; omega), hr, if_neg (fun q => c ((iN_le (by omega) (by omega)).mp q)), iN_cl (by omega)]
        rfl
      show Fx_H_chancesX_L4 32 u g n (s + Fx_H_chanceOfX (iN k) 32 u g) (iN k + 1) = _
      rw [ec, iN_s, ih (k + 1) _ (by omega) (by omega), show r - k = (r - (k + 1)) + 1 by omega]
      rfl
theorem chs_X {u : MM} {g : GG} {R : Nat → Int32} {z : Prop} (h : RepH u R z) (b1 : Bd 0 4 (R 1)) (h0 : ¬ R 1 = 0) : Fx_H_chancesX 32 u g = sm R := by
  obtain ⟨r0, r1, r2, r3, r4⟩ := h
  have hr : u 32 2 = iN (R 1).toInt.toNat := r1.trans (iN_of b1 (by decide))
  have e : Fx_H_chancesX 32 u g = Fx_H_chancesX_L4 32 u g 5 0 (iN 0) := rfl
  rw [e, ch_L hr (by have := b1.2; omega) 5 0 0 (by have := b1.2; omega) (by omega)]
  have rr : R 1 = 1 ∨ R 1 = 2 ∨ R 1 = 3 ∨ R 1 = 4 := by
    have h6 : (R 1).toInt ≠ 0 := fun q => h0 (Int32.toInt_inj.mp q)
    have h5 : (R 1).toInt = 1 ∨ (R 1).toInt = 2 ∨ (R 1).toInt = 3 ∨ (R 1).toInt = 4 := by have := b1.1; have := b1.2; omega
    rcases h5 with h | h | h | h
    · exact Or.inl (Int32.toInt_inj.mp h)
    · exact Or.inr (Or.inl (Int32.toInt_inj.mp h))
    · exact Or.inr (Or.inr (Or.inl (Int32.toInt_inj.mp h)))
    · exact Or.inr (Or.inr (Or.inr (Int32.toInt_inj.mp h)))
  unfold sm
  rcases rr with h | h | h | h
  · have k0 := (r3 0 (by rw [h]; decide)).2
    rw [h]
    show 0 + u 35 0 = 0 + R 6
    rw [k0]
  · have k0 := (r3 0 (by rw [h]; decide)).2
    have k1 := (r3 1 (by rw [h]; decide)).2
    rw [h]
    show 0 + u 35 0 + u 35 1 = 0 + R 6 + R 8
    rw [k0, k1]
  · have k0 := (r3 0 (by rw [h]; decide)).2
    have k1 := (r3 1 (by rw [h]; decide)).2
    have k2 := (r3 2 (by rw [h]; decide)).2
    rw [h]
    show 0 + u 35 0 + u 35 1 + u 35 2 = 0 + R 6 + R 8 + R 10
    rw [k0, k1, k2]
  · have k0 := (r3 0 (by rw [h]; decide)).2
    have k1 := (r3 1 (by rw [h]; decide)).2
    have k2 := (r3 2 (by rw [h]; decide)).2
    have k3 := (r3 3 (by rw [h]; decide)).2
    rw [h]
    show 0 + u 35 0 + u 35 1 + u 35 2 + u 35 3 = 0 + R 6 + R 8 + R 10 + R 12
    rw [k0, k1, k2, k3]
theorem cz_X {x : MM} {g : GG} {L : Nat} {P : Int32 × Int32} {R : Nat → Int32} {F : Int32 × Int32 × (Nat → Int32)} (hp : PR x = P) (hpi : PI P) (b1 : Bd 0 4 (R 1)) (h : RepH x R (P.1 = 0)) (hL : x 30 1 = iN L) (hF : finH L (none, P, R) = F) :
    (Fx_Rd_readX_J65 0 g x) 29 5 = F.1 ∧ (Fx_Rd_readX_J65 0 g x) 29 6 = F.2.1 ∧ (F.1 = 0 → RepH (Fx_Rd_readX_J65 0 g x) F.2.2 True) := by
  have p5 : x 29 5 = P.1 := congrArg Prod.fst hp
  have p6 : x 29 6 = P.2 := congrArg Prod.snd hp
  have e : Fx_Rd_readX_J65 0 g x = if x 29 5 = 0 then Fx_Rd_closeRainsX x g else x := rfl
  have hF' : F = if R 1 = 0 then (P.1, P.2, upd (upd (upd R 1 1) 5 0) 6 100) else if P.1 = 0 ∧ ¬ sm R = 100 then (4, iN L, R) else (P.1, P.2, R) := hF.symm
  rw [e, p5]
  by_cases z : P.1 = 0
  · rw [if_pos z]
    unfold Fx_Rd_closeRainsX
    rw [h.2.1]
    by_cases q : R 1 = 0
    · rw [if_pos q] at hF' ⊢
      subst hF'
      have ea : Fx_H_addRainX 0 100 32 x g = (true, ms (ms (ms x 34 0 0) 35 0 100) 32 2 1) := by
        unfold Fx_H_addRainX
        rw [h.2.1, q]
        rfl
      rw [ea]
      refine ⟨p5, p6, fun _ => ⟨?_, rfl, fun k hk => ?_, fun k hk => ?_, fun _ p c hpp hc => ?_⟩⟩
      · show x 32 0 = R 0
        exact h.1
      · show x 36 k = upd (upd (upd R 1 1) 5 0) 6 100 (2 + k)
        unfold upd
        rw [if_neg (by omega), if_neg (by omega), if_neg (by omega)]
        exact h.2.2.1 k hk
      · have hk0 : k = 0 := by
          have e1 : (upd (upd (upd R 1 1) 5 0) 6 100 1).toInt.toNat = 1 := rfl
          rw [e1] at hk
          omega
        subst hk0
        exact ⟨rfl, rfl⟩
      · have hpp2 : p < (R 0).toInt.toNat := hpp
        show x 33 (16 * p + c) = upd (upd (upd R 1 1) 5 0) 6 100 (13 + 16 * p + c)
        unfold upd
        rw [if_neg (by omega), if_neg (by omega), if_neg (by omega)]
        exact h.2.2.2.2 z p c hpp2 hc
    · rw [if_neg q] at hF' ⊢
      simp only [xq_lt]
      rw [chs_X h b1 q]
      by_cases s : sm R = 100
      · rw [if_pos s]
        rw [if_neg (fun y => y.2 s)] at hF'
        subst hF'
        exact ⟨p5, p6, fun _ => ⟨h.1, h.2.1, h.2.2.1, h.2.2.2.1, fun _ => h.2.2.2.2 z⟩⟩
      · rw [if_neg s]
        rw [if_pos ⟨z, s⟩] at hF'
        subst hF'
        have ea : Fx_Rd_rememberX 4 (x 30 1) x g = ms (ms x 29 5 4) 29 6 (x 30 1) := by
          unfold Fx_Rd_rememberX
          rw [if_pos (p5.trans z)]
          rfl
        rw [ea]
        exact ⟨rfl, hL, fun y => absurd y (by show ¬ (4 : Int32) = 0; decide)⟩
  · rw [if_neg z]
    have hF2 : F.1 = P.1 ∧ F.2.1 = P.2 := by
      by_cases q : R 1 = 0
      · rw [if_pos q] at hF'; subst hF'; exact ⟨rfl, rfl⟩
      · rw [if_neg q, if_neg (fun y => z y.1)] at hF'; subst hF'; exact ⟨rfl, rfl⟩
    rw [hF2.1, hF2.2]
    exact ⟨p5, p6, fun y => absurd y z⟩
theorem f36_X {u : MM} {g : GG} : Fx_fill_36X 1 u g = ms (ms (ms u 36 0 1) 36 1 1) 36 2 1 := by
  have e : Fx_fill_36X 1 u g = Fx_fill_36X_L5 1 (3 + 1) 0 u := rfl
  rw [e, Fx_fill_36X_L5_s, if_neg (by decide)]
  simp only [xq_lt]
  rw [Fx_fill_36X_L5_s (n_ := 2), if_neg (by decide)]
  simp only [xq_lt]
  rw [Fx_fill_36X_L5_s (n_ := 1), if_neg (by decide)]
  simp only [xq_lt]
  rw [Fx_fill_36X_L5_s (n_ := 0), if_pos (by decide)]
  rfl
theorem bg_X {u : MM} {g : GG} {L : Nat} (hb : L ≤ 600) : Fx_Tk_beginX (iN L) u g = ms (ms (ms u 30 0 1) 30 1 (iN L)) 30 2 0 := by
  unfold Fx_Tk_beginX
  rw [if_neg (show ¬ (600 : Int32) < iN L from fun q => by have := (iN_lt (a := 600) (by omega) (by omega)).mp q; omega)]
  rfl
/-- the reader's memory at the first line -/
theorem i0_0 : (0 : Int32) = iN 0 := rfl
set_option maxRecDepth 100000 in
theorem rd_0 {u : MM} {g : GG} {L : Nat} {sort : Int32} (hb : L ≤ 600) : ∃ x, Fx_Rd_readX (iN L) sort u g = Fx_Rd_readX_L39 sort g 602 1 (iN 0) x ∧ x 2 = u 2 ∧ x 30 1 = iN L ∧ x 30 2 = iN 0 ∧ PR x = (0, -1) ∧ x 32 0 = 0 ∧ x 32 2 = 0 ∧ (∀ k, k < 3 → x 36 k = 1) ∧ x 37 0 = 0 := by
  have e : Fx_Rd_readX (iN L) sort u g = Fx_Rd_readX_L39 sort g ((601 - (0 : Int32).toInt).toNat + 1) 1 0 (Fx_Tk_beginX (iN L) (Fx_W_clearX 37 (Fx_H_clear32X (ms (ms u 29 5 0) 29 6 (-1)) g) g) g) := by
    unfold Fx_Rd_readX
    simp only [xq_lt]
  rw [show ((601 - (0 : Int32).toInt).toNat + 1) = 602 by decide] at e
  have e' : Fx_Rd_readX_L39 sort g 602 1 0 = Fx_Rd_readX_L39 sort g 602 1 (iN 0) := congrArg (Fx_Rd_readX_L39 sort g 602 1) i0_0
  rw [e'] at e
  have ec : Fx_H_clear32X (ms (ms u 29 5 0) 29 6 (-1)) g = Fx_fill_36X 1 (ms (ms (ms (ms u 29 5 0) 29 6 (-1)) 32 0 0) 32 2 0) g := rfl
  have ew : ∀ y : MM, Fx_W_clearX 37 y g = ms y 37 0 0 := fun _ => rfl
  rw [e, ec, f36_X, ew, bg_X hb]
  refine ⟨_, rfl, rfl, rfl, rfl, rfl, rfl, rfl, fun k hk => ?_, rfl⟩
  rcases (show k = 0 ∨ k = 1 ∨ k = 2 by omega) with z | z | z <;> subst z <;> rfl
theorem hr_b {f : Nat → Int32} {L : Nat} : ∀ (n a : Nat) (P : Int32 × Int32) (R : Nat → Int32), Bd 0 9 (R 0) → Bd 0 4 (R 1) → ∀ {oz : Option Nat} {P2 : Int32 × Int32} {R2 : Nat → Int32}, HR f L n a P R = (oz, P2, R2) → Bd 0 9 (R2 0) ∧ Bd 0 4 (R2 1) := by
  intro n
  induction n with
  | zero => intro a P R b0 b1 oz P2 R2 h; cases h; exact ⟨b0, b1⟩
  | succ n ih =>
    intro a P R b0 b1 oz P2 R2 h
    unfold HR at h
    split at h
    · cases h; exact ⟨b0, b1⟩
    · split at h
      · cases h; exact ⟨b0, b1⟩
      · split at h
        · cases h; exact ⟨b0, b1⟩
        · obtain ⟨c0, c1⟩ := rowH_b (w := (hX f L a).toInt.toNat) (v0 := vv f L (tN f L a) 0) (v1 := vv f L (tN f L a) 1) (v2 := vv f L (tN f L a) 2) (gd := gdH (hX f L a).toInt.toNat (R 0) (vv f L (tN f L a) 0) (vv f L (tN f L a) 1) (vv f L (tN f L a) 2)) b0 b1
          exact ih _ _ _ c0 c1 h
theorem d0_X {u : MM} {g : GG} {L : Nat} {R : Nat → Int32} {F : Int32 × Int32 × (Nat → Int32)} (hb : L ≤ 600) (h0 : R 0 = 0) (h1 : R 1 = 0) (h2 : ∀ k, k < 3 → R (2 + k) = 1) (hF : finH L (HR (u 2) L 601 0 (0, -1) R) = F) :
    (Fx_Rd_readX (iN L) 0 u g) 29 5 = F.1 ∧ (Fx_Rd_readX (iN L) 0 u g) 29 6 = F.2.1 ∧ (F.1 = 0 → RepH (Fx_Rd_readX (iN L) 0 u g) F.2.2 True) := by
  obtain ⟨x, e, x1, x2, x3, x4, x5, x6, x7, x8⟩ := rd_0 (u := u) (g := g) (sort := 0) hb
  have hrep : RepH x R (((0, -1) : Int32 × Int32).1 = 0) := by
    refine ⟨x5.trans h0.symm, x6.trans h1.symm, fun k hk => (x7 k hk).trans (h2 k hk).symm, fun k hk => ?_, fun _ p c hp => ?_⟩
    · rw [h1] at hk; exact absurd hk (Nat.not_lt_zero _)
    · rw [h0] at hp; exact absurd hp (Nat.not_lt_zero _)
  obtain ⟨r1, r2⟩ := cl_L (g := g) (f := u 2) hb 602 601 0 0 x (0, -1) R (by omega) (by omega) (by omega) (by omega) ⟨x1, x2, x3, x4, hrep⟩ (by rw [h0]; decide) (by rw [h1]; decide)
  have hpi := pi_HR (f := u 2) (L := L) 601 0 (0, -1) R (Or.inl ⟨rfl, rfl⟩)
  rw [e]
  obtain ⟨oz, P, R2, hz⟩ : ∃ oz P R2, HR (u 2) L 601 0 (0, -1) R = (oz, P, R2) := ⟨_, _, _, rfl⟩
  rw [hz] at hF hpi
  cases oz with
  | some q =>
    obtain ⟨y, y1, y2, y3⟩ := r1 q P R2 hz
    rw [y1]
    subst hF
    have ej : Fx_Rd_readX_J65 0 g y = y := by
      show (if y 29 5 = 0 then _ else y) = y
      rw [if_neg (by rw [y2]; decide)]
    rw [ej]
    exact ⟨y2, y3, fun z => absurd z (by show ¬ (1 : Int32) = 0; decide)⟩
  | none =>
    obtain ⟨y, y1, y2, y3, y4⟩ := r2 P R2 hz
    rw [y1]
    have b1 : Bd 0 4 (R2 1) := (hr_b (f := u 2) (L := L) 601 0 (0, -1) R (by rw [h0]; decide) (by rw [h1]; decide) hz).2
    exact cz_X y2 hpi b1 y3 y4 hF
theorem d1_X {u : MM} {g : GG} {L : Nat} {R : Nat → Int32} {F : Int32 × Int32 × (Nat → Int32)} (hb : L ≤ 600) (h0 : R 0 = 0) (hF : finP (PT (u 2) L 601 0 (0, -1) R) = F) :
    (Fx_Rd_readX (iN L) 1 u g) 29 5 = F.1 ∧ (Fx_Rd_readX (iN L) 1 u g) 29 6 = F.2.1 ∧ (F.1 = 0 → RepP (Fx_Rd_readX (iN L) 1 u g) F.2.2) := by
  obtain ⟨x, e, x1, x2, x3, x4, x5, x6, x7, x8⟩ := rd_0 (u := u) (g := g) (sort := 1) hb
  have hrep : RepP x R := by
    refine ⟨x8.trans h0.symm, fun k hk => ?_⟩
    rw [h0] at hk
    exact absurd hk (Nat.not_lt_zero _)
  obtain ⟨r1, r2⟩ := cp_L (g := g) (f := u 2) hb 602 601 0 0 x (0, -1) R (by omega) (by omega) (by omega) (by omega) ⟨x1, x2, x3, x4, hrep⟩ (by rw [h0]; decide)
  rw [e]
  obtain ⟨oz, P, R2, hz⟩ : ∃ oz P R2, PT (u 2) L 601 0 (0, -1) R = (oz, P, R2) := ⟨_, _, _, rfl⟩
  rw [hz] at hF
  have ej : ∀ y : MM, Fx_Rd_readX_J65 1 g y = y := fun _ => rfl
  cases oz with
  | some q =>
    obtain ⟨y, y1, y2, y3⟩ := r1 q P R2 hz
    rw [y1, ej]
    subst hF
    exact ⟨y2, y3, fun z => absurd z (by show ¬ (1 : Int32) = 0; decide)⟩
  | none =>
    obtain ⟨y, y1, y2, y3⟩ := r2 P R2 hz
    rw [y1, ej]
    subst hF
    exact ⟨congrArg Prod.fst y2, congrArg Prod.snd y2, fun _ => y3⟩
end
section
/-! what a text tells hangs on its bytes alone -/
section
variable {f f2 : Nat → Int32} {L : Nat}
theorem cg_run {p : Int32 → Bool} (h : ∀ j, j < L → f j = f2 j) (a : Nat) : run p f L a = run p f2 L a :=
  run_ind (p := p) (f := f) (L := L) (P := fun a => run p f L a = run p f2 L a) (fun a n => by
    rw [run_e n, run_e (fun m => n ⟨m.1, by rw [h a m.1]; exact m.2⟩)]) (fun a h1 h2 ih => by rw [run_s h1 h2, run_s (f := f2) h1 (by rw [← h a h1]; exact h2)]; exact ih) _ a (Nat.le_refl _)
theorem cg_dg (h : ∀ j, j < L → f j = f2 j) : ∀ (n a : Nat) (v : Int32), L - a ≤ n → dgv f L a v = dgv f2 L a v := by
  intro n
  induction n with
  | zero => intro a v hn; rw [dgv_e (fun q => by omega), dgv_e (fun q => by omega)]
  | succ n ih =>
    intro a v hn
    by_cases q : a < L ∧ isD (f a) = true
    · rw [dgv_s q.1 q.2, dgv_s (f := f2) q.1 (by rw [← h a q.1]; exact q.2), h a q.1]
      exact ih _ _ (by omega)
    · rw [dgv_e q, dgv_e (fun m => q ⟨m.1, by rw [h a m.1]; exact m.2⟩)]
theorem cg_S (h : ∀ j, j < L → f j = f2 j) (a : Nat) : tS f L a = tS f2 L a := cg_run h a
theorem cg_K (h : ∀ j, j < L → f j = f2 j) (a : Nat) : tK f L a = tK f2 L a := by
  unfold tK
  rw [cg_S h a]
  by_cases q : L ≤ tS f2 L a
  · rw [if_pos q, if_pos q]
  · rw [if_neg q, if_neg q, h _ (by omega), cg_run h]
theorem cg_N (h : ∀ j, j < L → f j = f2 j) (a : Nat) : tN f L a = tN f2 L a := by
  unfold tN
  rw [cg_S h a]
  by_cases q : L ≤ tS f2 L a
  · rw [if_pos q, if_pos q]
  · rw [if_neg q, if_neg q, h _ (by omega), cg_run h, cg_run h]
theorem cg_V (h : ∀ j, j < L → f j = f2 j) (a : Nat) : tV f L a = tV f2 L a := by
  unfold tV
  rw [cg_S h a]
  exact cg_dg h _ _ _ (Nat.le_refl _)
theorem cg_wq (h : ∀ j, j < L → f j = f2 j) : ∀ (l : List Int32) (s : Nat), s + l.length ≤ L → wq f s l = wq f2 s l
  | [], _, _ => rfl
  | c :: l, s, hs => by
    have hl : (c :: l).length = l.length + 1 := rfl
    show ((f s == c) && wq f (s + 1) l) = ((f2 s == c) && wq f2 (s + 1) l)
    rw [h s (by omega), cg_wq h l (s + 1) (by omega)]
theorem cg_wk (h : ∀ j, j < L → f j = f2 j) {s e i : Nat} {k : Int32} (he : e ≤ L) (hi : i < 18) : wk f s e k i = wk f2 s e k i := by
  unfold wk wm
  by_cases q : e = s + sLn.getD i 0
  · rw [cg_wq h _ s (by rw [← sB_len i hi]; omega)]
  · rw [decide_eq_false q, Bool.false_and, Bool.false_and]
theorem cg_fw {p q : Nat → Bool} {m : Nat} (h : ∀ j, j < m → p j = q j) : ∀ (n k : Nat), m - k ≤ n → fw p m k = fw q m k := by
  intro n
  induction n with
  | zero => intro k hk; rw [fw_n (by omega), fw_n (by omega)]
  | succ n ih =>
    intro k hk
    by_cases c : k < m
    · by_cases z : p k = true
      · rw [fw_t c z, fw_t c (by rw [← h k c]; exact z)]
      · rw [fw_f c z, fw_f c (by rw [← h k c]; exact z)]
        exact ih (k + 1) (by omega)
    · rw [fw_n c, fw_n c]
theorem cg_hX (h : ∀ j, j < L → f j = f2 j) {a : Nat} (ha : a ≤ L) : hX f L a = hX f2 L a := by
  unfold hX
  rw [cg_S h, cg_N h, cg_K h]
  exact cg_fw (fun j hj => cg_wk h (tN_in ha) (by omega)) _ 0 (Nat.le_refl _)
theorem cg_pX (h : ∀ j, j < L → f j = f2 j) {a : Nat} (ha : a ≤ L) : pX f L a = pX f2 L a := by
  unfold pX
  rw [cg_S h, cg_N h, cg_K h]
  exact cg_fw (fun j hj => cg_wk h (tN_in ha) (pwi_lt j hj)) _ 0 (Nat.le_refl _)
theorem cg_sk (h : ∀ j, j < L → f j = f2 j) : ∀ (r a : Nat), sk f L r a = sk f2 L r a := by
  intro r
  induction r with
  | zero => intro a; rfl
  | succ r ih =>
    intro a
    show sk f L r (tN f L a) = sk f2 L r (tN f2 L a)
    rw [cg_N h]
    exact ih _
theorem cg_nb (h : ∀ j, j < L → f j = f2 j) : ∀ (r a : Nat), nb f L r a = nb f2 L r a := by
  intro r
  induction r with
  | zero => intro a; unfold nb; rw [cg_K h, cg_S h]
  | succ r ih => intro a; unfold nb; rw [cg_K h, cg_S h, cg_N h, ih]
theorem cg_vv (h : ∀ j, j < L → f j = f2 j) (a : Nat) : vv f L a = vv f2 L a := by
  funext j
  unfold vv
  rw [cg_sk h, cg_V h]
theorem cg_pp (h : ∀ j, j < L → f j = f2 j) (a : Nat) : pp f L a = pp f2 L a := by
  funext j
  unfold pp
  rw [cg_sk h, cg_S h]
theorem cg_HR (h : ∀ j, j < L → f j = f2 j) : ∀ (n a : Nat) (P : Int32 × Int32) (R : Nat → Int32), a ≤ L → HR f L n a P R = HR f2 L n a P R := by
  intro n
  induction n with
  | zero => intro a P R _; rfl
  | succ n ih =>
    intro a P R ha
    unfold HR
    have eP : ∀ w, lnP w f L a R P = lnP w f2 L a R P := by
      intro w
      unfold lnP
      rw [cg_N h, cg_vv h, cg_pp h, cg_S h]
    have eR : ∀ w, lnR w f L a R = lnR w f2 L a R := by
      intro w
      unfold lnR
      rw [cg_N h, cg_vv h]
    rw [cg_K h, cg_hX h ha, cg_S h, cg_N h, cg_nb h, eP, eR, cg_sk h, ih _ _ _ (sk_in _ _ (tN_in ha))]
theorem cg_PT (h : ∀ j, j < L → f j = f2 j) : ∀ (n a : Nat) (P : Int32 × Int32) (R : Nat → Int32), a ≤ L → PT f L n a P R = PT f2 L n a P R := by
  intro n
  induction n with
  | zero => intro a P R _; rfl
  | succ n ih =>
    intro a P R ha
    unfold PT
    have eP : ∀ w, lnPP w f L a R P = lnPP w f2 L a R P := by
      intro w
      unfold lnPP
      rw [cg_N h, cg_vv h, cg_pp h, cg_S h]
    have eR : ∀ w, lnPR w f L a R = lnPR w f2 L a R := by
      intro w
      unfold lnPR
      rw [cg_N h, cg_vv h]
    rw [cg_K h, cg_pX h ha, cg_S h, cg_N h, cg_nb h, eP, eR, cg_sk h, ih _ _ _ (sk_in _ _ (tN_in ha))]
end
/-- which number a text gets: -1 none -/
def nuT (sort at0 hs ps : Int32) : Int32 := if sort = 0 then (if at0 = -1 then (if 2 ≤ hs then -1 else hs) else if at0 < 0 then -1 else if hs ≤ at0 then -1 else at0) else if sort = 1 then (if at0 = -1 then (if 3 ≤ ps then -1 else ps) else if at0 < 0 then -1 else if ps ≤ at0 then -1 else at0) else -1
theorem nu_C {sort at0 : Int32} {u : MM} {g : GG} : Fx_T_numberForX sort at0 u g = nuT sort at0 (u 1 5) (u 1 7) := by
  by_cases h0 : sort = 0
  · subst h0; rfl
  · by_cases h1 : sort = 1
    · subst h1; rfl
    · unfold Fx_T_numberForX nuT
      simp only [h0, h1, if_false]
/-- what a text leaves: FAULT, place, row -/
def txF (sort : Int32) (f : Nat → Int32) (L : Nat) (r : Nat → Int32) : Int32 × Int32 × (Nat → Int32) := if sort = 0 then finH L (HR f L 601 0 (0, -1) (R0 true r)) else finP (PT f L 601 0 (0, -1) (R0 false r))
/-- the class's text: answer, FAULT, place, counts, tape -/
theorem tc_X {sort at0 : Int32} {u : MM} {g : GG} {L : Nat} {r : Nat → Int32} {F : Int32 × Int32 × (Nat → Int32)} (hb : L ≤ 600) (hL : u 1 1 = iN L) (b5 : Bd 0 2 (u 1 5)) (b7 : Bd 0 3 (u 1 7)) (hF : txF sort (u 2) L r = F) :
    (nuT sort at0 (u 1 5) (u 1 7) = -1 → Fx_P_textRX sort at0 u g = (-2, ms (ms (ms u 1 1 0) 1 2 0) 1 3 (-1))) ∧
    (¬ nuT sort at0 (u 1 5) (u 1 7) = -1 → ∃ x, (x 29 5 = F.1 ∧ x 29 6 = F.2.1 ∧ (F.1 = 0 → (sort = 0 → RepH x F.2.2 True) ∧ (sort = 1 → RepP x F.2.2))) ∧ x = Fx_Rd_readX (iN L) sort (ms (ms (ms u 1 1 0) 1 2 0) 1 3 (-1)) g ∧
      Fx_P_textRX sort at0 u g = if F.1 = 0 then (nuT sort at0 (u 1 5) (u 1 7), Fx_T_keepX sort (nuT sort at0 (u 1 5) (u 1 7)) (ms (ms x 1 2 F.1) 1 3 F.2.1) g) else (-1, ms (ms x 1 2 F.1) 1 3 F.2.1)) := by
  have e : Fx_P_textRX sort at0 u g = if Fx_T_numberForX sort at0 (ms (ms (ms u 1 1 0) 1 2 0) 1 3 (-1)) g = -1 then (-2, ms (ms (ms u 1 1 0) 1 2 0) 1 3 (-1)) else (if (Fx_Rd_readX (u 1 1) sort (ms (ms (ms u 1 1 0) 1 2 0) 1 3 (-1)) g) 29 5 = 0 then (Fx_T_numberForX sort at0 (ms (ms (ms u 1 1 0) 1 2 0) 1 3 (-1)) g, Fx_T_keepX sort (Fx_T_numberForX sort at0 (ms (ms (ms u 1 1 0) 1 2 0) 1 3 (-1)) g) (ms (ms (Fx_Rd_readX (u 1 1) sort (ms (ms (ms u 1 1 0) 1 2 0) 1 3 (-1)) g) 1 2 ((Fx_Rd_readX (u 1 1) sort (ms (ms (ms u 1 1 0) 1 2 0) 1 3 (-1)) g) 29 5)) 1 3 ((Fx_Rd_readX (u 1 1) sort (ms (ms (ms u 1 1 0) 1 2 0) 1 3 (-1)) g) 29 6)) g) else (-1, ms (ms (Fx_Rd_readX (u 1 1) sort (ms (ms (ms u 1 1 0) 1 2 0) 1 3 (-1)) g) 1 2 ((Fx_Rd_readX (u 1 1) sort (ms (ms (ms u 1 1 0) 1 2 0) 1 3 (-1)) g) 29 5)) 1 3 ((Fx_Rd_readX (u 1 1) sort (ms (ms (ms u 1 1 0) 1 2 0) 1 3 (-1)) g) 29 6))) := by
    unfold Fx_P_textRX
    simp only [xq_lt]
  rw [e, nu_C, hL]
  have e5 : ms (ms (ms u 1 1 0) 1 2 0) 1 3 (-1) 1 5 = u 1 5 := rfl
  have e7 : ms (ms (ms u 1 1 0) 1 2 0) 1 3 (-1) 1 7 = u 1 7 := rfl
  rw [e5, e7]
  refine ⟨fun q => by rw [if_pos q], fun q => ?_⟩
  rw [if_neg q]
  have hs : sort = 0 ∨ sort = 1 := by
    by_cases h0 : sort = 0
    · exact Or.inl h0
    · by_cases h1 : sort = 1
      · exact Or.inr h1
      · exact absurd (by unfold nuT; rw [if_neg h0, if_neg h1]) q
  have key : (Fx_Rd_readX (iN L) sort (ms (ms (ms u 1 1 0) 1 2 0) 1 3 (-1)) g) 29 5 = F.1 ∧ (Fx_Rd_readX (iN L) sort (ms (ms (ms u 1 1 0) 1 2 0) 1 3 (-1)) g) 29 6 = F.2.1 ∧ (F.1 = 0 → (sort = 0 → RepH (Fx_Rd_readX (iN L) sort (ms (ms (ms u 1 1 0) 1 2 0) 1 3 (-1)) g) F.2.2 True) ∧ (sort = 1 → RepP (Fx_Rd_readX (iN L) sort (ms (ms (ms u 1 1 0) 1 2 0) 1 3 (-1)) g) F.2.2)) := by
    rcases hs with z | z
    · subst z
      have h2 : ∀ k, k < 3 → R0 true r (2 + k) = 1 := by
        intro k hk
        rcases (show k = 0 ∨ k = 1 ∨ k = 2 by omega) with y | y | y <;> subst y <;> rfl
      obtain ⟨k1, k2, k3⟩ := d0_X (u := ms (ms (ms u 1 1 0) 1 2 0) 1 3 (-1)) (g := g) (R := R0 true r) hb rfl rfl h2 hF
      exact ⟨k1, k2, fun y => ⟨fun _ => k3 y, fun y2 => absurd y2 (by decide)⟩⟩
    · subst z
      obtain ⟨k1, k2, k3⟩ := d1_X (u := ms (ms (ms u 1 1 0) 1 2 0) 1 3 (-1)) (g := g) (R := R0 false r) hb rfl hF
      exact ⟨k1, k2, fun y => ⟨fun y2 => absurd y2 (by decide), fun _ => k3 y⟩⟩
  refine ⟨_, key, rfl, ?_⟩
  rw [key.1, key.2.1]
end
section
/-! the reference's text -/
theorem cy_0a {at0 : Int32} {g : GG} : ∀ (n i : Nat) (w : MM), 157 - i < n → i ≤ 157 → ∃ x, Fx_M_textRX_L138 at0 g n (iN i) w = (at0, x, g) ∧ ∀ b, b ≠ 168 → x b = w b := by
  intro n
  induction n with
  | zero => intro i w h; omega
  | succ n ih =>
    intro i w h hi
    rw [Fx_M_textRX_L138_s]
    by_cases c : 157 ≤ i
    · rw [if_pos (show (157 : Int32) ≤ iN i from (iN_le (a := 157) (by omega) (by omega)).mpr c)]
      exact ⟨w, rfl, fun _ _ => rfl⟩
    · rw [if_neg (show ¬ (157 : Int32) ≤ iN i from fun q => c ((iN_le (a := 157) (by omega) (by omega)).mp q)), iN_s]
      simp only [xq_lt]
      obtain ⟨x, x1, x2⟩ := ih (i + 1) (ms w 168 ((((157 : Int32) * at0) + iN i).toNatClampNeg) (w 170 (iN i).toNatClampNeg)) (by omega) (by omega)
      exact ⟨x, x1, fun b hb => (x2 b hb).trans (ms_c1 hb)⟩
theorem cy_0b {u : MM} {g : GG} : ∀ (n i : Nat) (w : MM), 157 - i < n → i ≤ 157 → ∃ x, Fx_M_textRX_L138b u g n (iN i) w = (u 167 0, x, g) ∧ ∀ b, b ≠ 168 → x b = w b := by
  intro n
  induction n with
  | zero => intro i w h; omega
  | succ n ih =>
    intro i w h hi
    rw [Fx_M_textRX_L138b_s]
    by_cases c : 157 ≤ i
    · rw [if_pos (show (157 : Int32) ≤ iN i from (iN_le (a := 157) (by omega) (by omega)).mpr c)]
      exact ⟨w, rfl, fun _ _ => rfl⟩
    · rw [if_neg (show ¬ (157 : Int32) ≤ iN i from fun q => c ((iN_le (a := 157) (by omega) (by omega)).mp q)), iN_s]
      simp only [xq_lt]
      obtain ⟨x, x1, x2⟩ := ih (i + 1) (ms w 168 ((((157 : Int32) * (u 167 0)) + iN i).toNatClampNeg) (w 170 (iN i).toNatClampNeg)) (by omega) (by omega)
      exact ⟨x, x1, fun b hb => (x2 b hb).trans (ms_c1 hb)⟩
theorem tm_0 {at0 : Int32} {u : MM} {g : GG} {L : Nat} {F : Int32 × Int32 × (Nat → Int32)} (hb : L ≤ 600) (hL : u 164 0 = iN L) (hf : ∀ j, j < L → Bd (-128) 127 (u 163 j)) (bq : Bd 0 2 (u 167 0)) (hF : txF 0 (u 163) L (u 170) = F) :
    (nuT 0 at0 (u 167 0) (u 167 1) = -1 → ∃ x, Fx_M_textRX 0 at0 u g = (-2, x, g) ∧ x 165 0 = 0 ∧ x 166 0 = -1) ∧
    (¬ nuT 0 at0 (u 167 0) (u 167 1) = -1 → F.1 = 0 → ∃ x g2, Fx_M_textRX 0 at0 u g = (nuT 0 at0 (u 167 0) (u 167 1), x, g2) ∧ x 165 0 = F.1 ∧ x 166 0 = F.2.1 ∧ x 170 = F.2.2) ∧
    (¬ nuT 0 at0 (u 167 0) (u 167 1) = -1 → ¬ F.1 = 0 → ∃ x g2, Fx_M_textRX 0 at0 u g = (-1, x, g2) ∧ x 165 0 = F.1 ∧ x 166 0 = F.2.1) := by
  obtain ⟨y, hy⟩ : ∃ y, y = ms (ms (ms (ms (ms u 162 0 0) 162 9 (u 164 0)) 164 0 0) 165 0 0) 166 0 (-1) := ⟨_, rfl⟩
  have y9 : y 162 9 = iN L := by rw [hy]; exact hL
  have y163 : y 163 = u 163 := by rw [hy]; rfl
  have y170 : y 170 = u 170 := by rw [hy]; rfl
  have y5 : y 165 0 = 0 := by rw [hy]; rfl
  have y6 : y 166 0 = -1 := by rw [hy]; rfl
  have hF2 : txF 0 (y 163) L (y 170) = F := by rw [y163, y170]; exact hF
  obtain ⟨x, g2, e, x1, x2, x3⟩ := t0_X (v := y) (g := g) hb y9 (by rw [y163]; exact hf) hF2
  have en : nuT 0 at0 (u 167 0) (u 167 1) = if at0 = -1 then (if 2 ≤ u 167 0 then -1 else u 167 0) else if at0 < 0 then -1 else if u 167 0 ≤ at0 then -1 else at0 := rfl
  have e1 : (1 : Int32).toInt = 1 := rfl
  have ep : (u 167 0 - 1).toInt = (u 167 0).toInt - 1 := by
    rw [ti_sub (by have := bq.1; have := bq.2; omega) (by have := bq.1; have := bq.2; omega), e1]
  have hX : Fx_M_textRX 0 at0 u g = if at0 = -1 then (if u 167 0 = 2 then (-2, y, g) else (xq_c3 (Fx_M_readText0X y g) fun t z g3 => if t = true then Fx_M_textRX_L138b u g3 158 (iN 0) (ms z 167 0 ((u 167 0) + 1)) else (-1, z, g3))) else (if Fx_M_inEX at0 0 ((u 167 0) - 1) y g = true then (xq_c3 (Fx_M_readText0X y g) fun t z g3 => if t = true then Fx_M_textRX_L138 at0 g3 158 (iN 0) (ms z 167 0 ((u 167 0) + 0)) else (-1, z, g3)) else (-2, y, g)) := by
    by_cases h : at0 = -1
    · subst h
      unfold Fx_M_textRX
      simp (config := { decide := true }) only [xq_lt, if_false, if_true, in_X]
      subst hy
      rfl
    · unfold Fx_M_textRX
      simp (config := { decide := true }) only [xq_lt, h, if_false, if_true, in_X]
      subst hy
      rfl
  rw [hX, en]
  by_cases h : at0 = -1
  · rw [if_pos h, if_pos h]
    by_cases h2 : u 167 0 = 2
    · rw [if_pos h2, if_pos (show (2 : Int32) ≤ u 167 0 by rw [h2]; decide)]
      exact ⟨fun _ => ⟨y, rfl, y5, y6⟩, fun z => absurd rfl z, fun z => absurd rfl z⟩
    · have h3 : ¬ (2 : Int32) ≤ u 167 0 := by
        intro z
        have z1 := Int32.le_iff_toInt_le.mp z
        have e2 : (2 : Int32).toInt = 2 := rfl
        exact h2 (Int32.toInt_inj.mp (by have := bq.2; omega))
      rw [if_neg h2, if_neg h3, e, c3_mk]
      have hnz : ¬ u 167 0 = -1 := by
        intro z
        have := congrArg Int32.toInt z
        have e2 : (-1 : Int32).toInt = -1 := rfl
        have := bq.1
        omega
      refine ⟨fun z => absurd z hnz, fun _ q => ?_, fun _ q => ?_⟩
      · rw [if_pos (decide_eq_true q)]
        obtain ⟨z, z1, z2⟩ := cy_0b (u := u) (g := g2) 158 0 (ms x 167 0 ((u 167 0) + 1)) (by omega) (by omega)
        refine ⟨z, g2, z1, ?_, ?_, ?_⟩
        · rw [z2 165 (by decide), ms_c1 (by decide)]; exact x1
        · rw [z2 166 (by decide), ms_c1 (by decide)]; exact x2
        · rw [z2 170 (by decide), ms_c1 (by decide)]; exact x3 q
      · rw [if_neg (fun z => q (of_decide_eq_true z))]
        exact ⟨x, g2, rfl, x1, x2⟩
  · rw [if_neg h, if_neg h, in_X]
    by_cases h2 : 0 ≤ at0 ∧ at0 ≤ u 167 0 - 1
    · have a1 := Int32.le_iff_toInt_le.mp h2.1
      have a2 := Int32.le_iff_toInt_le.mp h2.2
      have e0 : (0 : Int32).toInt = 0 := rfl
      rw [decide_eq_true h2.1, decide_eq_true h2.2, if_pos (show (true && true) = true from rfl), if_neg (fun z => lt_le_no z h2.1), if_neg (show ¬ u 167 0 ≤ at0 by rw [Int32.le_iff_toInt_le]; omega), e, c3_mk]
      refine ⟨fun z => absurd z h, fun _ q => ?_, fun _ q => ?_⟩
      · rw [if_pos (decide_eq_true q)]
        obtain ⟨z, z1, z2⟩ := cy_0a (at0 := at0) (g := g2) 158 0 (ms x 167 0 ((u 167 0) + 0)) (by omega) (by omega)
        refine ⟨z, g2, z1, ?_, ?_, ?_⟩
        · rw [z2 165 (by decide), ms_c1 (by decide)]; exact x1
        · rw [z2 166 (by decide), ms_c1 (by decide)]; exact x2
        · rw [z2 170 (by decide), ms_c1 (by decide)]; exact x3 q
      · rw [if_neg (fun z => q (of_decide_eq_true z))]
        exact ⟨x, g2, rfl, x1, x2⟩
    · have h3 : ¬ (decide (0 ≤ at0) && decide (at0 ≤ u 167 0 - 1)) = true := by
        intro z
        obtain ⟨z1, z2⟩ := (Bool.and_eq_true _ _).mp z
        exact h2 ⟨of_decide_eq_true z1, of_decide_eq_true z2⟩
      have h4 : (if at0 < 0 then (-1 : Int32) else if u 167 0 ≤ at0 then -1 else at0) = -1 := by
        by_cases z : at0 < 0
        · rw [if_pos z]
        · rw [if_neg z]
          by_cases z2 : u 167 0 ≤ at0
          · rw [if_pos z2]
          · exfalso
            have z3 := Int32.lt_iff_toInt_lt.mp (i_nle z2)
            exact h2 ⟨i_nlt z, by rw [Int32.le_iff_toInt_le]; omega⟩
      rw [if_neg h3, h4]
      exact ⟨fun _ => ⟨y, rfl, y5, y6⟩, fun z => absurd rfl z, fun z => absurd rfl z⟩
theorem cy_1a {at0 : Int32} {g : GG} : ∀ (n i : Nat) (w : MM), 37 - i < n → i ≤ 37 → ∃ x, Fx_M_textRX_L179 at0 g n (iN i) w = (at0, x, g) ∧ ∀ b, b ≠ 169 → x b = w b := by
  intro n
  induction n with
  | zero => intro i w h; omega
  | succ n ih =>
    intro i w h hi
    rw [Fx_M_textRX_L179_s]
    by_cases c : 37 ≤ i
    · rw [if_pos (show (37 : Int32) ≤ iN i from (iN_le (a := 37) (by omega) (by omega)).mpr c)]
      exact ⟨w, rfl, fun _ _ => rfl⟩
    · rw [if_neg (show ¬ (37 : Int32) ≤ iN i from fun q => c ((iN_le (a := 37) (by omega) (by omega)).mp q)), iN_s]
      simp only [xq_lt]
      obtain ⟨x, x1, x2⟩ := ih (i + 1) (ms w 169 ((((37 : Int32) * at0) + iN i).toNatClampNeg) (w 170 (iN i).toNatClampNeg)) (by omega) (by omega)
      exact ⟨x, x1, fun b hb => (x2 b hb).trans (ms_c1 hb)⟩
theorem cy_1b {u : MM} {g : GG} : ∀ (n i : Nat) (w : MM), 37 - i < n → i ≤ 37 → ∃ x, Fx_M_textRX_L179b u g n (iN i) w = (u 167 1, x, g) ∧ ∀ b, b ≠ 169 → x b = w b := by
  intro n
  induction n with
  | zero => intro i w h; omega
  | succ n ih =>
    intro i w h hi
    rw [Fx_M_textRX_L179b_s]
    by_cases c : 37 ≤ i
    · rw [if_pos (show (37 : Int32) ≤ iN i from (iN_le (a := 37) (by omega) (by omega)).mpr c)]
      exact ⟨w, rfl, fun _ _ => rfl⟩
    · rw [if_neg (show ¬ (37 : Int32) ≤ iN i from fun q => c ((iN_le (a := 37) (by omega) (by omega)).mp q)), iN_s]
      simp only [xq_lt]
      obtain ⟨x, x1, x2⟩ := ih (i + 1) (ms w 169 ((((37 : Int32) * (u 167 1)) + iN i).toNatClampNeg) (w 170 (iN i).toNatClampNeg)) (by omega) (by omega)
      exact ⟨x, x1, fun b hb => (x2 b hb).trans (ms_c1 hb)⟩
theorem tm_1 {at0 : Int32} {u : MM} {g : GG} {L : Nat} {F : Int32 × Int32 × (Nat → Int32)} (hb : L ≤ 600) (hL : u 164 0 = iN L) (hf : ∀ j, j < L → Bd (-128) 127 (u 163 j)) (bq : Bd 0 3 (u 167 1)) (hF : txF 1 (u 163) L (u 170) = F) :
    (nuT 1 at0 (u 167 0) (u 167 1) = -1 → ∃ x, Fx_M_textRX 1 at0 u g = (-2, x, g) ∧ x 165 0 = 0 ∧ x 166 0 = -1) ∧
    (¬ nuT 1 at0 (u 167 0) (u 167 1) = -1 → F.1 = 0 → ∃ x g2, Fx_M_textRX 1 at0 u g = (nuT 1 at0 (u 167 0) (u 167 1), x, g2) ∧ x 165 0 = F.1 ∧ x 166 0 = F.2.1 ∧ x 170 = F.2.2) ∧
    (¬ nuT 1 at0 (u 167 0) (u 167 1) = -1 → ¬ F.1 = 0 → ∃ x g2, Fx_M_textRX 1 at0 u g = (-1, x, g2) ∧ x 165 0 = F.1 ∧ x 166 0 = F.2.1) := by
  obtain ⟨y, hy⟩ : ∃ y, y = ms (ms (ms (ms (ms u 162 0 0) 162 9 (u 164 0)) 164 0 0) 165 0 0) 166 0 (-1) := ⟨_, rfl⟩
  have y9 : y 162 9 = iN L := by rw [hy]; exact hL
  have y163 : y 163 = u 163 := by rw [hy]; rfl
  have y170 : y 170 = u 170 := by rw [hy]; rfl
  have y5 : y 165 0 = 0 := by rw [hy]; rfl
  have y6 : y 166 0 = -1 := by rw [hy]; rfl
  have hF2 : txF 1 (y 163) L (y 170) = F := by rw [y163, y170]; exact hF
  obtain ⟨x, g2, e, x1, x2, x3⟩ := t1_X (v := y) (g := g) hb y9 (by rw [y163]; exact hf) hF2
  have en : nuT 1 at0 (u 167 0) (u 167 1) = if at0 = -1 then (if 3 ≤ u 167 1 then -1 else u 167 1) else if at0 < 0 then -1 else if u 167 1 ≤ at0 then -1 else at0 := rfl
  have e1 : (1 : Int32).toInt = 1 := rfl
  have ep : (u 167 1 - 1).toInt = (u 167 1).toInt - 1 := by
    rw [ti_sub (by have := bq.1; have := bq.2; omega) (by have := bq.1; have := bq.2; omega), e1]
  have hX : Fx_M_textRX 1 at0 u g = if at0 = -1 then (if u 167 1 = 3 then (-2, y, g) else (xq_c3 (Fx_M_readText1X y g) fun t z g3 => if t = true then Fx_M_textRX_L179b u g3 38 (iN 0) (ms z 167 1 ((u 167 1) + 1)) else (-1, z, g3))) else (if Fx_M_inEX at0 0 ((u 167 1) - 1) y g = true then (xq_c3 (Fx_M_readText1X y g) fun t z g3 => if t = true then Fx_M_textRX_L179 at0 g3 38 (iN 0) (ms z 167 1 ((u 167 1) + 0)) else (-1, z, g3)) else (-2, y, g)) := by
    by_cases h : at0 = -1
    · subst h
      unfold Fx_M_textRX
      simp (config := { decide := true }) only [xq_lt, if_false, if_true, in_X]
      subst hy
      rfl
    · unfold Fx_M_textRX
      simp (config := { decide := true }) only [xq_lt, h, if_false, if_true, in_X]
      subst hy
      rfl
  rw [hX, en]
  by_cases h : at0 = -1
  · rw [if_pos h, if_pos h]
    by_cases h2 : u 167 1 = 3
    · rw [if_pos h2, if_pos (show (3 : Int32) ≤ u 167 1 by rw [h2]; decide)]
      exact ⟨fun _ => ⟨y, rfl, y5, y6⟩, fun z => absurd rfl z, fun z => absurd rfl z⟩
    · have h3 : ¬ (3 : Int32) ≤ u 167 1 := by
        intro z
        have z1 := Int32.le_iff_toInt_le.mp z
        have e2 : (3 : Int32).toInt = 3 := rfl
        exact h2 (Int32.toInt_inj.mp (by have := bq.2; omega))
      rw [if_neg h2, if_neg h3, e, c3_mk]
      have hnz : ¬ u 167 1 = -1 := by
        intro z
        have := congrArg Int32.toInt z
        have e2 : (-1 : Int32).toInt = -1 := rfl
        have := bq.1
        omega
      refine ⟨fun z => absurd z hnz, fun _ q => ?_, fun _ q => ?_⟩
      · rw [if_pos (decide_eq_true q)]
        obtain ⟨z, z1, z2⟩ := cy_1b (u := u) (g := g2) 38 0 (ms x 167 1 ((u 167 1) + 1)) (by omega) (by omega)
        refine ⟨z, g2, z1, ?_, ?_, ?_⟩
        · rw [z2 165 (by decide), ms_c1 (by decide)]; exact x1
        · rw [z2 166 (by decide), ms_c1 (by decide)]; exact x2
        · rw [z2 170 (by decide), ms_c1 (by decide)]; exact x3 q
      · rw [if_neg (fun z => q (of_decide_eq_true z))]
        exact ⟨x, g2, rfl, x1, x2⟩
  · rw [if_neg h, if_neg h, in_X]
    by_cases h2 : 0 ≤ at0 ∧ at0 ≤ u 167 1 - 1
    · have a1 := Int32.le_iff_toInt_le.mp h2.1
      have a2 := Int32.le_iff_toInt_le.mp h2.2
      have e0 : (0 : Int32).toInt = 0 := rfl
      rw [decide_eq_true h2.1, decide_eq_true h2.2, if_pos (show (true && true) = true from rfl), if_neg (fun z => lt_le_no z h2.1), if_neg (show ¬ u 167 1 ≤ at0 by rw [Int32.le_iff_toInt_le]; omega), e, c3_mk]
      refine ⟨fun z => absurd z h, fun _ q => ?_, fun _ q => ?_⟩
      · rw [if_pos (decide_eq_true q)]
        obtain ⟨z, z1, z2⟩ := cy_1a (at0 := at0) (g := g2) 38 0 (ms x 167 1 ((u 167 1) + 0)) (by omega) (by omega)
        refine ⟨z, g2, z1, ?_, ?_, ?_⟩
        · rw [z2 165 (by decide), ms_c1 (by decide)]; exact x1
        · rw [z2 166 (by decide), ms_c1 (by decide)]; exact x2
        · rw [z2 170 (by decide), ms_c1 (by decide)]; exact x3 q
      · rw [if_neg (fun z => q (of_decide_eq_true z))]
        exact ⟨x, g2, rfl, x1, x2⟩
    · have h3 : ¬ (decide (0 ≤ at0) && decide (at0 ≤ u 167 1 - 1)) = true := by
        intro z
        obtain ⟨z1, z2⟩ := (Bool.and_eq_true _ _).mp z
        exact h2 ⟨of_decide_eq_true z1, of_decide_eq_true z2⟩
      have h4 : (if at0 < 0 then (-1 : Int32) else if u 167 1 ≤ at0 then -1 else at0) = -1 := by
        by_cases z : at0 < 0
        · rw [if_pos z]
        · rw [if_neg z]
          by_cases z2 : u 167 1 ≤ at0
          · rw [if_pos z2]
          · exfalso
            have z3 := Int32.lt_iff_toInt_lt.mp (i_nle z2)
            exact h2 ⟨i_nlt z, by rw [Int32.le_iff_toInt_le]; omega⟩
      rw [if_neg h3, h4]
      exact ⟨fun _ => ⟨y, rfl, y5, y6⟩, fun z => absurd rfl z, fun z => absurd rfl z⟩
end
section
/-! the tape: feed and end of both sides -/
def by4 (v : Int32) (i : Nat) : Int32 := if i = 0 then vp_nar .byte ((v >>> (24 &&& 31)).toInt8.toInt32) else if i = 1 then vp_nar .byte ((v >>> (16 &&& 31)).toInt8.toInt32) else if i = 2 then vp_nar .byte ((v >>> (8 &&& 31)).toInt8.toInt32) else vp_nar .byte ((v >>> (0 &&& 31)).toInt8.toInt32)
/-- four bytes come behind the L-th of the tape in cell tc; how many it has stands in cell lc at li -/
def AP4 (x u : MM) (lc li tc L : Nat) (v : Int32) : Prop := x lc li = iN (L + 4) ∧ (∀ j, x tc j = if L ≤ j ∧ j < L + 4 then by4 v (j - L) else u tc j) ∧ (∀ b, b ≠ lc → b ≠ tc → x b = u b) ∧ ∀ j, j ≠ li → x lc j = u lc j
def mem4 (u : MM) (lc li tc L : Nat) (v : Int32) : MM := ms (ms (ms (ms (ms (ms (ms (ms u tc L (by4 v 0)) lc li (iN (L + 1))) tc (L + 1) (by4 v 1)) lc li (iN (L + 2))) tc (L + 2) (by4 v 2)) lc li (iN (L + 3))) tc (L + 3) (by4 v 3)) lc li (iN (L + 4))
theorem ap_m {u : MM} {lc li tc L : Nat} {v : Int32} (hn : tc ≠ lc) : AP4 (mem4 u lc li tc L v) u lc li tc L v := by
  unfold mem4
  refine ⟨ms_e1, fun j => ?_, fun b b1 b2 => ?_, fun j hj => ?_⟩
  · rw [ms_c1 hn]
    by_cases q3 : j = L + 3
    · rw [q3, ms_e1, if_pos (by omega), Nat.add_sub_cancel_left]
    · rw [ms_i1 q3, ms_c1 hn]
      by_cases q2 : j = L + 2
      · rw [q2, ms_e1, if_pos (by omega), Nat.add_sub_cancel_left]
      · rw [ms_i1 q2, ms_c1 hn]
        by_cases q1 : j = L + 1
        · rw [q1, ms_e1, if_pos (by omega), Nat.add_sub_cancel_left]
        · rw [ms_i1 q1, ms_c1 hn]
          by_cases q0 : j = L
          · rw [q0, ms_e1, if_pos (by omega), Nat.sub_self]
          · rw [ms_i1 q0, if_neg (by omega)]
  · rw [ms_c1 b1, ms_c1 b2, ms_c1 b1, ms_c1 b2, ms_c1 b1, ms_c1 b2, ms_c1 b1, ms_c1 b2]
  · rw [ms_i1 hj, ms_c1 (Ne.symm hn), ms_i1 hj, ms_c1 (Ne.symm hn), ms_i1 hj, ms_c1 (Ne.symm hn), ms_i1 hj, ms_c1 (Ne.symm hn)]
theorem ap_C {u : MM} {g : GG} {L : Nat} {v : Int32} (hL : u 1 1 = iN L) (h : L + 4 ≤ 600) : Fx_T_appendRX v u g = mem4 u 1 1 2 L v := by
  unfold Fx_T_appendRX
  simp only [xq_lt, hL, iN_s]
  rw [if_neg (show ¬ (600 : Int32) ≤ iN L from fun q => by have := (iN_le (a := 600) (by omega) (by omega)).mp q; omega), if_neg (show ¬ (600 : Int32) ≤ iN (L + 1) from fun q => by have := (iN_le (a := 600) (by omega) (by omega)).mp q; omega), if_neg (show ¬ (600 : Int32) ≤ iN (L + 1 + 1) from fun q => by have := (iN_le (a := 600) (by omega) (by omega)).mp q; omega), if_neg (show ¬ (600 : Int32) ≤ iN (L + 1 + 1 + 1) from fun q => by have := (iN_le (a := 600) (by omega) (by omega)).mp q; omega), iN_cl (by omega), iN_cl (by omega), iN_cl (by omega), iN_cl (by omega)]
  rfl
theorem ap_R {u : MM} {g : GG} {L : Nat} {v : Int32} (hL : u 164 0 = iN L) (h : L + 4 ≤ 600) : Fx_M_fourX v u g = mem4 u 164 0 163 L v := by
  unfold Fx_M_fourX
  simp only [xq_lt, hL, iN_s]
  rw [iN_cl (by omega), iN_cl (by omega), iN_cl (by omega), iN_cl (by omega)]
  rfl
/-- the tapes are alike: of the class's told T (its tape in T + 1), of the reference's place s -/
def TPE (u v : MM) : Prop := ∀ j, j < 600 → u 2 j = v 163 j
theorem ap_E {x y u v : MM} {L : Nat} {a : Int32} (h : TPE u v) (h1 : AP4 x u 1 1 2 L a) (h2 : AP4 y v 164 0 163 L a) : TPE x y := by
  intro j hj
  rw [h1.2.1 j, h2.2.1 j]
  by_cases q : L ≤ j ∧ j < L + 4
  · rw [if_pos q, if_pos q]
  · rw [if_neg q, if_neg q]
    exact h j hj
/-- feed on both sides: the class's memory u, the reference's v -/
theorem fd_X {u v : MM} {g g2 : GG} {L : Nat} {a b c d e : Int32} (hb : L ≤ 600) (h1 : u 1 1 = iN L) (h2 : v 164 0 = iN L) (h : TPE u v) : (Fx_P_feedRX a b c d e u g).1 = (Fx_M_feedRX a b c d e v g2).1 ∧ TPE (Fx_P_feedRX a b c d e u g).2 (Fx_M_feedRX a b c d e v g2).2 ∧ (Fx_P_feedRX a b c d e u g).2 1 1 = (Fx_M_feedRX a b c d e v g2).2 164 0 ∧ (∀ j, j ≠ 1 → (Fx_P_feedRX a b c d e u g).2 1 j = u 1 j) ∧ ∀ j, 600 ≤ j → (Fx_M_feedRX a b c d e v g2).2 163 j = v 163 j := by
  have e20 : iN L + 20 = iN (L + 20) := iN_a (m := 20)
  have eC : Fx_P_feedRX a b c d e u g = if u 1 1 ≤ 580 then (((((((((((((((((((((u 1 1 + 1) + 1) + 1) + 1) + 1) + 1) + 1) + 1) + 1) + 1) + 1) + 1) + 1) + 1) + 1) + 1) + 1) + 1) + 1) + 1), Fx_T_appendRX e (Fx_T_appendRX d (Fx_T_appendRX c (Fx_T_appendRX b (Fx_T_appendRX a u g) g) g) g) g) else (-1, u) := by
    unfold Fx_P_feedRX
    simp only [xq_lt]
  have eR : Fx_M_feedRX a b c d e v g2 = if v 164 0 + 20 ≤ 600 then (((((((((((((((((((((v 164 0 + 1) + 1) + 1) + 1) + 1) + 1) + 1) + 1) + 1) + 1) + 1) + 1) + 1) + 1) + 1) + 1) + 1) + 1) + 1) + 1), Fx_M_fourX e (Fx_M_fourX d (Fx_M_fourX c (Fx_M_fourX b (Fx_M_fourX a (ms v 162 0 0) g2) g2) g2) g2) g2) else (-1, ms v 162 0 0) := by
    unfold Fx_M_feedRX
    simp only [xq_lt]
  rw [eC, eR, h1, h2, e20]
  by_cases q : L ≤ 580
  · rw [if_pos (show iN L ≤ (580 : Int32) from (iN_le (b := 580) (by omega) (by omega)).mpr q), if_pos (show iN (L + 20) ≤ (600 : Int32) from (iN_le (b := 600) (by omega) (by omega)).mpr (by omega))]
    have a1 := ap_m (u := u) (lc := 1) (li := 1) (tc := 2) (L := L) (v := a) (by decide)
    rw [← ap_C (g := g) h1 (by omega)] at a1
    have a2 := ap_m (u := Fx_T_appendRX a u g) (lc := 1) (li := 1) (tc := 2) (L := L + 4) (v := b) (by decide)
    rw [← ap_C (g := g) a1.1 (by omega)] at a2
    have a3 := ap_m (u := Fx_T_appendRX b (Fx_T_appendRX a u g) g) (lc := 1) (li := 1) (tc := 2) (L := L + 4 + 4) (v := c) (by decide)
    rw [← ap_C (g := g) a2.1 (by omega)] at a3
    have a4 := ap_m (u := Fx_T_appendRX c (Fx_T_appendRX b (Fx_T_appendRX a u g) g) g) (lc := 1) (li := 1) (tc := 2) (L := L + 4 + 4 + 4) (v := d) (by decide)
    rw [← ap_C (g := g) a3.1 (by omega)] at a4
    have a5 := ap_m (u := Fx_T_appendRX d (Fx_T_appendRX c (Fx_T_appendRX b (Fx_T_appendRX a u g) g) g) g) (lc := 1) (li := 1) (tc := 2) (L := L + 4 + 4 + 4 + 4) (v := e) (by decide)
    rw [← ap_C (g := g) a4.1 (by omega)] at a5
    have h2' : ms v 162 0 0 164 0 = iN L := h2
    have b1 := ap_m (u := ms v 162 0 0) (lc := 164) (li := 0) (tc := 163) (L := L) (v := a) (by decide)
    rw [← ap_R (g := g2) h2' (by omega)] at b1
    have b2 := ap_m (u := Fx_M_fourX a (ms v 162 0 0) g2) (lc := 164) (li := 0) (tc := 163) (L := L + 4) (v := b) (by decide)
    rw [← ap_R (g := g2) b1.1 (by omega)] at b2
    have b3 := ap_m (u := Fx_M_fourX b (Fx_M_fourX a (ms v 162 0 0) g2) g2) (lc := 164) (li := 0) (tc := 163) (L := L + 4 + 4) (v := c) (by decide)
    rw [← ap_R (g := g2) b2.1 (by omega)] at b3
    have b4 := ap_m (u := Fx_M_fourX c (Fx_M_fourX b (Fx_M_fourX a (ms v 162 0 0) g2) g2) g2) (lc := 164) (li := 0) (tc := 163) (L := L + 4 + 4 + 4) (v := d) (by decide)
    rw [← ap_R (g := g2) b3.1 (by omega)] at b4
    have b5 := ap_m (u := Fx_M_fourX d (Fx_M_fourX c (Fx_M_fourX b (Fx_M_fourX a (ms v 162 0 0) g2) g2) g2) g2) (lc := 164) (li := 0) (tc := 163) (L := L + 4 + 4 + 4 + 4) (v := e) (by decide)
    rw [← ap_R (g := g2) b4.1 (by omega)] at b5
    have h' : TPE u (ms v 162 0 0) := h
    dsimp only
    refine ⟨rfl, ap_E (ap_E (ap_E (ap_E (ap_E h' a1 b1) a2 b2) a3 b3) a4 b4) a5 b5, a5.1.trans b5.1.symm, fun j hj => ?_, fun j hj => ?_⟩
    · rw [a5.2.2.2 j hj, a4.2.2.2 j hj, a3.2.2.2 j hj, a2.2.2.2 j hj, a1.2.2.2 j hj]
    · rw [b5.2.1 j, if_neg (by omega), b4.2.1 j, if_neg (by omega), b3.2.1 j, if_neg (by omega), b2.2.1 j, if_neg (by omega), b1.2.1 j, if_neg (by omega)]
      rfl
  · rw [if_neg (show ¬ iN L ≤ (580 : Int32) from fun z => q ((iN_le (b := 580) (by omega) (by omega)).mp z)), if_neg (show ¬ iN (L + 20) ≤ (600 : Int32) from fun z => by have := (iN_le (b := 600) (by omega) (by omega)).mp z; omega)]
    exact ⟨rfl, h, h1.trans h2.symm, fun _ _ => rfl, fun _ _ => rfl⟩
theorem en_X {u v : MM} {g g2 : GG} {n : Int32} (h : u 1 1 = v 164 0) (ht : TPE u v) : (Fx_P_endRX n u g).1 = (Fx_M_endRX n v g2).1 ∧ TPE (Fx_P_endRX n u g).2 (Fx_M_endRX n v g2).2 ∧ (Fx_P_endRX n u g).2 1 1 = (Fx_M_endRX n v g2).2 164 0 := by
  have eC : Fx_P_endRX n u g = if n < 0 then (-1, u) else if n ≤ u 1 1 then (n, ms u 1 1 n) else (-1, u) := by
    unfold Fx_P_endRX
    simp only [xq_lt]
  have eR : Fx_M_endRX n v g2 = if (decide (0 ≤ n) && decide (n ≤ v 164 0)) = true then (n, ms (ms v 162 0 0) 164 0 n) else (-1, ms v 162 0 0) := by
    unfold Fx_M_endRX
    simp only [xq_lt, in_X]
  rw [eC, eR, h]
  by_cases q : n < 0
  · rw [if_pos q, decide_eq_false (fun z => lt_le_no q z), Bool.false_and, if_neg (by decide)]
    exact ⟨rfl, ht, h⟩
  · rw [if_neg q, decide_eq_true (i_nlt q), Bool.true_and]
    by_cases z : n ≤ v 164 0
    · rw [if_pos z, decide_eq_true z, if_pos rfl]
      exact ⟨rfl, ht, rfl⟩
    · rw [if_neg z, decide_eq_false z, if_neg (by decide)]
      exact ⟨rfl, ht, h⟩
end
section
/-! what both sides tell: the relation -/
/-- the class's hill in cell t is the reference's k-th row of place s -/
def HRW (u v : MM) (t s k : Nat) : Prop := u t 0 = v 168 (314 * s + (157 * k + 0)) ∧ u t 2 = v 168 (314 * s + (157 * k + 1)) ∧ (∀ i, i < 3 → u (t + 4) i = v 168 (314 * s + (157 * k + (2 + i)))) ∧ (∀ i, i < 4 → i < (v 168 (314 * s + (157 * k + 1))).toInt.toNat → u (t + 2) i = v 168 (314 * s + (157 * k + (5 + 2 * i))) ∧ u (t + 3) i = v 168 (314 * s + (157 * k + (6 + 2 * i)))) ∧ ∀ p c, p < 9 → c < 16 → p < (v 168 (314 * s + (157 * k + 0))).toInt.toNat → u (t + 1) (16 * p + c) = v 168 (314 * s + (157 * k + (13 + 16 * p + c)))
def PRW (u v : MM) (t s k : Nat) : Prop := u t 0 = v 169 (111 * s + (37 * k + 0)) ∧ ∀ i, i < 12 → i < (v 169 (111 * s + (37 * k + 0))).toInt.toNat → u (t + 1) i = v 169 (111 * s + (37 * k + (1 + 3 * i))) ∧ u (t + 2) i = v 169 (111 * s + (37 * k + (2 + 3 * i))) ∧ u (t + 3) i = v 169 (111 * s + (37 * k + (3 + 3 * i)))
/-- all that is told: the class's cell T on, the reference's place s -/
def TLD (u v : MM) (T s : Nat) : Prop := (∀ j, j < 600 → u (T + 1) j = v 163 (600 * s + j)) ∧ u T 1 = v 164 s ∧ u T 2 = v 165 s ∧ u T 3 = v 166 s ∧ u T 5 = v 167 (2 * s) ∧ u T 7 = v 167 (2 * s + 1) ∧ (∀ k, k < 2 → k < (u T 5).toInt.toNat → HRW u v (T + 4 + 5 * k) s k) ∧ ∀ k, k < 3 → k < (u T 7).toInt.toNat → PRW u v (T + 14 + 4 * k) s k
/-- both objects -/
def RLX (u v : MM) : Prop := TLD u v 1 0 ∧ u 28 = v 181 ∧ ∀ k, k < 3 → ¬ u 28 k = 0 → TLD u v (84 + 26 * k) (k + 1)
def HCP (x u : MM) (t f : Nat) : Prop := x t 0 = u f 0 ∧ x t 2 = u f 2 ∧ (∀ j, j < 144 → x (t + 1) j = u (f + 1) j) ∧ (∀ j, j < 4 → x (t + 2) j = u (f + 2) j) ∧ (∀ j, j < 4 → x (t + 3) j = u (f + 3) j) ∧ ∀ j, j < 3 → x (t + 4) j = u (f + 4) j
def WCP (x u : MM) (t f : Nat) : Prop := x t 0 = u f 0 ∧ (∀ j, j < 12 → x (t + 1) j = u (f + 1) j) ∧ (∀ j, j < 12 → x (t + 2) j = u (f + 2) j) ∧ ∀ j, j < 12 → x (t + 3) j = u (f + 3) j
def TCP (x u : MM) (T F : Nat) : Prop := (∀ j, j < 600 → x (T + 1) j = u (F + 1) j) ∧ x T 1 = u F 1 ∧ x T 2 = u F 2 ∧ x T 3 = u F 3 ∧ x T 5 = u F 5 ∧ x T 7 = u F 7 ∧ (∀ k, k < 2 → HCP x u (T + 4 + 5 * k) (F + 4 + 5 * k)) ∧ ∀ k, k < 3 → WCP x u (T + 14 + 4 * k) (F + 14 + 4 * k)
def SCP (y v : MM) (s r : Nat) : Prop := (∀ j, j < 600 → y 163 (600 * s + j) = v 163 (600 * r + j)) ∧ y 164 s = v 164 r ∧ y 165 s = v 165 r ∧ y 166 s = v 166 r ∧ y 167 (2 * s) = v 167 (2 * r) ∧ y 167 (2 * s + 1) = v 167 (2 * r + 1) ∧ (∀ j, j < 314 → y 168 (314 * s + j) = v 168 (314 * r + j)) ∧ ∀ j, j < 111 → y 169 (111 * s + j) = v 169 (111 * r + j)
theorem hcp_r {x u : MM} {t : Nat} (h : ∀ c, t ≤ c → c ≤ t + 4 → x c = u c) : HCP x u t t := by
  unfold HCP
  rw [h t (by omega) (by omega), h (t + 1) (by omega) (by omega), h (t + 2) (by omega) (by omega), h (t + 3) (by omega) (by omega), h (t + 4) (by omega) (by omega)]
  exact ⟨rfl, rfl, fun _ _ => rfl, fun _ _ => rfl, fun _ _ => rfl, fun _ _ => rfl⟩
theorem wcp_r {x u : MM} {t : Nat} (h : ∀ c, t ≤ c → c ≤ t + 3 → x c = u c) : WCP x u t t := by
  unfold WCP
  rw [h t (by omega) (by omega), h (t + 1) (by omega) (by omega), h (t + 2) (by omega) (by omega), h (t + 3) (by omega) (by omega)]
  exact ⟨rfl, fun _ _ => rfl, fun _ _ => rfl, fun _ _ => rfl⟩
theorem tcp_r {x u : MM} {T : Nat} (h : ∀ c, T ≤ c → c ≤ T + 25 → x c = u c) : TCP x u T T := by
  refine ⟨fun j _ => by rw [h (T + 1) (by omega) (by omega)], by rw [h T (by omega) (by omega)], by rw [h T (by omega) (by omega)], by rw [h T (by omega) (by omega)], by rw [h T (by omega) (by omega)], by rw [h T (by omega) (by omega)], fun k hk => hcp_r (fun c c1 c2 => h c (by omega) (by omega)), fun k hk => wcp_r (fun c c1 c2 => h c (by omega) (by omega))⟩
theorem scp_r {y v : MM} {s : Nat} (h : ∀ c, 163 ≤ c → c ≤ 169 → y c = v c) : SCP y v s s := by
  unfold SCP
  rw [h 163 (by omega) (by omega), h 164 (by omega) (by omega), h 165 (by omega) (by omega), h 166 (by omega) (by omega), h 167 (by omega) (by omega), h 168 (by omega) (by omega), h 169 (by omega) (by omega)]
  exact ⟨fun _ _ => rfl, rfl, rfl, rfl, rfl, rfl, fun _ _ => rfl, fun _ _ => rfl⟩
theorem hrw_cp {x u y v : MM} {t f s r k : Nat} (h : HRW u v f r k) (c : HCP x u t f) (e : ∀ o, o < 157 → y 168 (314 * s + (157 * k + o)) = v 168 (314 * r + (157 * k + o))) : HRW x y t s k := by
  obtain ⟨h0, h1, h2, h3, h4⟩ := h
  obtain ⟨c0, c1, c2, c3, c4, c5⟩ := c
  refine ⟨?_, ?_, fun i hi => ?_, fun i hi hl => ?_, fun p c hp hc hl => ?_⟩
  · rw [c0, h0, e _ (by omega)]
  · rw [c1, h1, e _ (by omega)]
  · rw [c5 i hi, h2 i hi, e _ (by omega)]
  · rw [e _ (by omega)] at hl
    obtain ⟨a, b⟩ := h3 i hi hl
    rw [c3 i hi, c4 i hi, a, b, e _ (by omega), e _ (by omega)]
    exact ⟨rfl, rfl⟩
  · rw [e _ (by omega)] at hl
    rw [c2 _ (by omega), h4 p c hp hc hl, e _ (by omega)]
theorem prw_cp {x u y v : MM} {t f s r k : Nat} (h : PRW u v f r k) (c : WCP x u t f) (e : ∀ o, o < 37 → y 169 (111 * s + (37 * k + o)) = v 169 (111 * r + (37 * k + o))) : PRW x y t s k := by
  obtain ⟨h0, h1⟩ := h
  obtain ⟨c0, c1, c2, c3⟩ := c
  refine ⟨by rw [c0, h0, e _ (by omega)], fun i hi hl => ?_⟩
  rw [e _ (by omega)] at hl
  obtain ⟨a, b, d⟩ := h1 i hi hl
  rw [c1 i hi, c2 i hi, c3 i hi, a, b, d, e _ (by omega), e _ (by omega), e _ (by omega)]
  exact ⟨rfl, rfl, rfl⟩
theorem tld_cp {x u y v : MM} {T F s r : Nat} (h : TLD u v F r) (c : TCP x u T F) (e : SCP y v s r) : TLD x y T s := by
  obtain ⟨h0, h1, h2, h3, h5, h7, hh, hw⟩ := h
  obtain ⟨c0, c1, c2, c3, c5, c7, ch, cw⟩ := c
  obtain ⟨e0, e1, e2, e3, e5, e7, e8, e9⟩ := e
  refine ⟨fun j hj => by rw [c0 j hj, h0 j hj, e0 j hj], by rw [c1, h1, e1], by rw [c2, h2, e2], by rw [c3, h3, e3], by rw [c5, h5, e5], by rw [c7, h7, e7], fun k hk hl => ?_, fun k hk hl => ?_⟩
  · rw [c5] at hl
    exact hrw_cp (hh k hk hl) (ch k hk) (fun o ho => e8 _ (by omega))
  · rw [c7] at hl
    exact prw_cp (hw k hk hl) (cw k hk) (fun o ho => e9 _ (by omega))
/-- what is told stays -/
theorem rlx_c {u v u2 v2 : MM} (hu : ∀ c, (1 ≤ c ∧ c ≤ 28) ∨ (84 ≤ c ∧ c ≤ 161) → u2 c = u c) (hv : ∀ c, 163 ≤ c ∧ c ≤ 169 → v2 c = v c) (h81 : v2 181 = v 181) (h : RLX u v) : RLX u2 v2 := by
  obtain ⟨h0, h1, h2⟩ := h
  refine ⟨tld_cp h0 (tcp_r (fun c c1 c2 => hu c (by omega))) (scp_r (fun c c1 c2 => hv c ⟨c1, c2⟩)), by rw [hu 28 (by omega), h81, h1], fun k hk hn => ?_⟩
  rw [hu 28 (by omega)] at hn
  exact tld_cp (h2 k hk hn) (tcp_r (fun c c1 c2 => hu c (by omega))) (scp_r (fun c c1 c2 => hv c ⟨c1, c2⟩))
theorem mr_a1 {u : MM} {a : Nat} {f : Nat → Int32} : mr u a f a = f := if_pos rfl
theorem mr_c1 {u : MM} {a b : Nat} {f : Nat → Int32} (h : b ≠ a) : mr u a f b = u b := if_neg h
theorem cpz0 {f h : Nat → Int32} {n j : Nat} (hj : j < n) : va_cpy f h 0 0 n j = f j := by
  unfold va_cpy
  rw [if_pos (by omega), Nat.sub_zero, Nat.zero_add]
theorem hcB {u : MM} {g : GG} {t f : Nat} (d : f + 4 < t ∨ t + 4 < f) : HCP (Fx_H_copyBX t f u g) u t f ∧ ∀ b, b < t ∨ t + 4 < b → Fx_H_copyBX t f u g b = u b := by
  unfold Fx_H_copyBX
  simp only [xq_lt]
  refine ⟨⟨?_, ?_, fun j hj => ?_, fun j hj => ?_, fun j hj => ?_, fun j hj => ?_⟩, fun b hb => ?_⟩
  · rw [mr_c1 (by omega), mr_c1 (by omega), mr_c1 (by omega), mr_c1 (by omega), ms_i1 (by omega), ms_e1]
  · rw [mr_c1 (by omega), mr_c1 (by omega), mr_c1 (by omega), mr_c1 (by omega), ms_e1]
  · rw [mr_c1 (by omega), mr_c1 (by omega), mr_c1 (by omega), mr_a1, cpz0 hj, ms_c1 (by omega), ms_c1 (by omega)]
  · rw [mr_c1 (by omega), mr_c1 (by omega), mr_a1, cpz0 hj, mr_c1 (by omega), ms_c1 (by omega), ms_c1 (by omega)]
  · rw [mr_c1 (by omega), mr_a1, cpz0 hj, mr_c1 (by omega), mr_c1 (by omega), ms_c1 (by omega), ms_c1 (by omega)]
  · rw [mr_a1, cpz0 hj, mr_c1 (by omega), mr_c1 (by omega), mr_c1 (by omega), ms_c1 (by omega), ms_c1 (by omega)]
  · rw [mr_c1 (by omega), mr_c1 (by omega), mr_c1 (by omega), mr_c1 (by omega), ms_c1 (by omega), ms_c1 (by omega)]
/-- works, as every copy of them is printed -/
def wcx (u : MM) (t f : Nat) : MM := xq_lt (ms u t 0 (u f 0)) fun u1 => xq_lt (mr u1 (t + 1) (va_cpy (u1 (f + 1)) (u1 (t + 1)) 0 0 12)) fun u3 => xq_lt (mr u3 (t + 2) (va_cpy (u3 (f + 2)) (u3 (t + 2)) 0 0 12)) fun u5 => xq_lt (mr u5 (t + 3) (va_cpy (u5 (f + 3)) (u5 (t + 3)) 0 0 12)) fun u7 => u7
theorem wcK {u : MM} {t f : Nat} (d : f + 3 < t ∨ t + 3 < f) : WCP (wcx u t f) u t f ∧ ∀ b, b < t ∨ t + 3 < b → wcx u t f b = u b := by
  unfold wcx
  simp only [xq_lt]
  refine ⟨⟨?_, fun j hj => ?_, fun j hj => ?_, fun j hj => ?_⟩, fun b hb => ?_⟩
  · rw [mr_c1 (by omega), mr_c1 (by omega), mr_c1 (by omega), ms_e1]
  · rw [mr_c1 (by omega), mr_c1 (by omega), mr_a1, cpz0 hj, ms_c1 (by omega)]
  · rw [mr_c1 (by omega), mr_a1, cpz0 hj, mr_c1 (by omega), ms_c1 (by omega)]
  · rw [mr_a1, cpz0 hj, mr_c1 (by omega), mr_c1 (by omega), ms_c1 (by omega)]
  · rw [mr_c1 (by omega), mr_c1 (by omega), mr_c1 (by omega), ms_c1 (by omega)]
theorem hcp_t {x y u : MM} {t f : Nat} (h : HCP y u t f) (e : ∀ c, t ≤ c → c ≤ t + 4 → x c = y c) : HCP x u t f := by
  unfold HCP
  rw [e t (by omega) (by omega), e (t + 1) (by omega) (by omega), e (t + 2) (by omega) (by omega), e (t + 3) (by omega) (by omega), e (t + 4) (by omega) (by omega)]
  exact h
theorem wcp_t {x y u : MM} {t f : Nat} (h : WCP y u t f) (e : ∀ c, t ≤ c → c ≤ t + 3 → x c = y c) : WCP x u t f := by
  unfold WCP
  rw [e t (by omega) (by omega), e (t + 1) (by omega) (by omega), e (t + 2) (by omega) (by omega), e (t + 3) (by omega) (by omega)]
  exact h
theorem hcp_f {x y u : MM} {t f : Nat} (h : HCP x y t f) (e : ∀ c, f ≤ c → c ≤ f + 4 → y c = u c) : HCP x u t f := by
  unfold HCP at h ⊢
  rw [e f (by omega) (by omega), e (f + 1) (by omega) (by omega), e (f + 2) (by omega) (by omega), e (f + 3) (by omega) (by omega), e (f + 4) (by omega) (by omega)] at h
  exact h
theorem wcp_f {x y u : MM} {t f : Nat} (h : WCP x y t f) (e : ∀ c, f ≤ c → c ≤ f + 3 → y c = u c) : WCP x u t f := by
  unfold WCP at h ⊢
  rw [e f (by omega) (by omega), e (f + 1) (by omega) (by omega), e (f + 2) (by omega) (by omega), e (f + 3) (by omega) (by omega)] at h
  exact h
/-- told, copied: as every copy of it is printed -/
def tc0 (u : MM) (T F : Nat) : MM := ms (ms (ms (ms (ms (mr u (T + 1) (va_cpy (u (F + 1)) (u (T + 1)) 0 0 600)) T 1 (u F 1)) T 2 (u F 2)) T 3 (u F 3)) T 5 (u F 5)) T 7 (u F 7)
noncomputable def tcx (u : MM) (g : GG) (T F : Nat) : MM := wcx (wcx (wcx (Fx_H_copyBX (T + 9) (F + 9) (Fx_H_copyBX (T + 4) (F + 4) (tc0 u T F) g) g) (T + 14) (F + 14)) (T + 18) (F + 18)) (T + 22) (F + 22)
theorem tc_0 {u : MM} {T F : Nat} (d : F + 25 < T ∨ T + 25 < F) : (∀ j, j < 600 → tc0 u T F (T + 1) j = u (F + 1) j) ∧ tc0 u T F T 1 = u F 1 ∧ tc0 u T F T 2 = u F 2 ∧ tc0 u T F T 3 = u F 3 ∧ tc0 u T F T 5 = u F 5 ∧ tc0 u T F T 7 = u F 7 ∧ ∀ b, b < T ∨ T + 1 < b → tc0 u T F b = u b := by
  unfold tc0
  refine ⟨fun j hj => ?_, ?_, ?_, ?_, ?_, ?_, fun b hb => ?_⟩
  · rw [ms_c1 (by omega), ms_c1 (by omega), ms_c1 (by omega), ms_c1 (by omega), ms_c1 (by omega), mr_a1, cpz0 hj]
  · rw [ms_i1 (by omega), ms_i1 (by omega), ms_i1 (by omega), ms_i1 (by omega), ms_e1]
  · rw [ms_i1 (by omega), ms_i1 (by omega), ms_i1 (by omega), ms_e1]
  · rw [ms_i1 (by omega), ms_i1 (by omega), ms_e1]
  · rw [ms_i1 (by omega), ms_e1]
  · rw [ms_e1]
  · rw [ms_c1 (by omega), ms_c1 (by omega), ms_c1 (by omega), ms_c1 (by omega), ms_c1 (by omega), mr_c1 (by omega)]
theorem tc_A {u : MM} {g : GG} {T F : Nat} (d : F + 25 < T ∨ T + 25 < F) : TCP (tcx u g T F) u T F ∧ ∀ b, b < T ∨ T + 25 < b → tcx u g T F b = u b := by
  obtain ⟨z0, z1, z2, z3, z5, z7, zf⟩ := tc_0 (u := u) d
  obtain ⟨x1, hx1⟩ : ∃ x, x = Fx_H_copyBX (T + 4) (F + 4) (tc0 u T F) g := ⟨_, rfl⟩
  obtain ⟨x2, hx2⟩ : ∃ x, x = Fx_H_copyBX (T + 9) (F + 9) x1 g := ⟨_, rfl⟩
  obtain ⟨x3, hx3⟩ : ∃ x, x = wcx x2 (T + 14) (F + 14) := ⟨_, rfl⟩
  obtain ⟨x4, hx4⟩ : ∃ x, x = wcx x3 (T + 18) (F + 18) := ⟨_, rfl⟩
  obtain ⟨x5, hx5⟩ : ∃ x, x = wcx x4 (T + 22) (F + 22) := ⟨_, rfl⟩
  have e : tcx u g T F = x5 := by rw [hx5, hx4, hx3, hx2, hx1]; rfl
  have p1 := hcB (u := tc0 u T F) (g := g) (t := T + 4) (f := F + 4) (by omega)
  rw [← hx1] at p1
  have p2 := hcB (u := x1) (g := g) (t := T + 9) (f := F + 9) (by omega)
  rw [← hx2] at p2
  have p3 := wcK (u := x2) (t := T + 14) (f := F + 14) (by omega)
  rw [← hx3] at p3
  have p4 := wcK (u := x3) (t := T + 18) (f := F + 18) (by omega)
  rw [← hx4] at p4
  have p5 := wcK (u := x4) (t := T + 22) (f := F + 22) (by omega)
  rw [← hx5] at p5
  rw [e]
  have low : ∀ b, b < T + 4 → x5 b = tc0 u T F b := fun b hb => by
    rw [p5.2 b (by omega), p4.2 b (by omega), p3.2 b (by omega), p2.2 b (by omega), p1.2 b (by omega)]
  refine ⟨⟨fun j hj => ?_, ?_, ?_, ?_, ?_, ?_, fun k hk => ?_, fun k hk => ?_⟩, fun b hb => ?_⟩
  · rw [low _ (by omega)]; exact z0 j hj
  · rw [low _ (by omega)]; exact z1
  · rw [low _ (by omega)]; exact z2
  · rw [low _ (by omega)]; exact z3
  · rw [low _ (by omega)]; exact z5
  · rw [low _ (by omega)]; exact z7
  · rcases (show k = 0 ∨ k = 1 by omega) with q | q <;> subst q
    · exact hcp_t (hcp_f p1.1 (fun c c1 c2 => zf c (by omega))) (fun c c1 c2 => by rw [p5.2 c (by omega), p4.2 c (by omega), p3.2 c (by omega), p2.2 c (by omega)])
    · exact hcp_t (hcp_f p2.1 (fun c c1 c2 => by rw [p1.2 c (by omega), zf c (by omega)])) (fun c c1 c2 => by rw [p5.2 c (by omega), p4.2 c (by omega), p3.2 c (by omega)])
  · rcases (show k = 0 ∨ k = 1 ∨ k = 2 by omega) with q | q | q <;> subst q
    · exact wcp_t (wcp_f p3.1 (fun c c1 c2 => by rw [p2.2 c (by omega), p1.2 c (by omega), zf c (by omega)])) (fun c c1 c2 => by rw [p5.2 c (by omega), p4.2 c (by omega)])
    · exact wcp_t (wcp_f p4.1 (fun c c1 c2 => by rw [p3.2 c (by omega), p2.2 c (by omega), p1.2 c (by omega), zf c (by omega)])) (fun c c1 c2 => by rw [p5.2 c (by omega)])
    · exact wcp_f p5.1 (fun c c1 c2 => by rw [p4.2 c (by omega), p3.2 c (by omega), p2.2 c (by omega), p1.2 c (by omega), zf c (by omega)])
  · rw [p5.2 b (by omega), p4.2 b (by omega), p3.2 b (by omega), p2.2 b (by omega), p1.2 b (by omega), zf b (by omega)]
end
section
/-! the class's copies of what is told -/
theorem i01 : (0 : Int32) + 1 = 1 := by decide
theorem i12 : (1 : Int32) + 1 = 2 := by decide
theorem i23 : (2 : Int32) + 1 = 3 := by decide
theorem te2 : (2 - (0 : Int32).toInt).toNat + 1 = 3 := by decide
theorem te3 : (3 - (0 : Int32).toInt).toNat + 1 = 4 := by decide
theorem xqb {α β : Type} {x : α} {K : α → β} : xq_lt x K = K x := rfl
theorem tcY_84_1 {u : MM} : ms (ms (ms (ms (ms (mr u 85 (va_cpy (u 2) (u 85) 0 0 600)) 84 1 (u 1 1)) 84 2 (u 1 2)) 84 3 (u 1 3)) 84 5 (u 1 5)) 84 7 (u 1 7) = tc0 u 84 1 := by
  unfold tc0
  rfl
theorem tcX_84_1 {u : MM} {g : GG} : Fx_T_copyR_84_1X u g = tcx u g 84 1 := by
  have w0 : ∀ w : MM, Fx_W_copyK_98_15X w g = wcx w 98 15 := by
    intro w
    unfold Fx_W_copyK_98_15X wcx
    rfl
  have w1 : ∀ w : MM, Fx_W_copyK_102_19X w g = wcx w 102 19 := by
    intro w
    unfold Fx_W_copyK_102_19X wcx
    rfl
  have w2 : ∀ w : MM, Fx_W_copyK_106_23X w g = wcx w 106 23 := by
    intro w
    unfold Fx_W_copyK_106_23X wcx
    rfl
  have s0 : ∀ w : MM, Fx_T_copyR_84_1X_L86 g 4 0 w = wcx (wcx (wcx w 98 15) 102 19) 106 23 := by
    intro w
    rw [Fx_T_copyR_84_1X_L86_s, if_neg (by decide), if_pos rfl, xqb, i01, w0]
    rw [Fx_T_copyR_84_1X_L86_s, if_neg (by decide), if_neg (by decide), if_pos rfl, xqb, i12, w1]
    rw [Fx_T_copyR_84_1X_L86_s, if_neg (by decide), if_neg (by decide), if_neg (by decide), xqb, i23, w2]
    rw [Fx_T_copyR_84_1X_L86_s, if_pos (by decide)]
  have r0 : ∀ w : MM, Fx_T_copyR_84_1X_L58 g 3 0 w = Fx_T_copyR_84_1X_L86 g 4 0 (Fx_H_copyBX 93 10 (Fx_H_copyBX 88 5 w g) g) := by
    intro w
    rw [Fx_T_copyR_84_1X_L58_s, if_neg (by decide), if_pos rfl, xqb, i01]
    rw [Fx_T_copyR_84_1X_L58_s, if_neg (by decide), if_neg (by decide), xqb, i12]
    rw [Fx_T_copyR_84_1X_L58_s, if_pos (by decide), te3]
  unfold Fx_T_copyR_84_1X
  rw [te2, xqb, xqb, xqb, xqb, xqb, xqb, r0, s0, tcY_84_1]
  rfl
theorem tcY_110_1 {u : MM} : ms (ms (ms (ms (ms (mr u 111 (va_cpy (u 2) (u 111) 0 0 600)) 110 1 (u 1 1)) 110 2 (u 1 2)) 110 3 (u 1 3)) 110 5 (u 1 5)) 110 7 (u 1 7) = tc0 u 110 1 := by
  unfold tc0
  rfl
theorem tcX_110_1 {u : MM} {g : GG} : Fx_T_copyR_110_1X u g = tcx u g 110 1 := by
  have w0 : ∀ w : MM, Fx_W_copyK_124_15X w g = wcx w 124 15 := by
    intro w
    unfold Fx_W_copyK_124_15X wcx
    rfl
  have w1 : ∀ w : MM, Fx_W_copyK_128_19X w g = wcx w 128 19 := by
    intro w
    unfold Fx_W_copyK_128_19X wcx
    rfl
  have w2 : ∀ w : MM, Fx_W_copyK_132_23X w g = wcx w 132 23 := by
    intro w
    unfold Fx_W_copyK_132_23X wcx
    rfl
  have s0 : ∀ w : MM, Fx_T_copyR_110_1X_L86 g 4 0 w = wcx (wcx (wcx w 124 15) 128 19) 132 23 := by
    intro w
    rw [Fx_T_copyR_110_1X_L86_s, if_neg (by decide), if_pos rfl, xqb, i01, w0]
    rw [Fx_T_copyR_110_1X_L86_s, if_neg (by decide), if_neg (by decide), if_pos rfl, xqb, i12, w1]
    rw [Fx_T_copyR_110_1X_L86_s, if_neg (by decide), if_neg (by decide), if_neg (by decide), xqb, i23, w2]
    rw [Fx_T_copyR_110_1X_L86_s, if_pos (by decide)]
  have r0 : ∀ w : MM, Fx_T_copyR_110_1X_L58 g 3 0 w = Fx_T_copyR_110_1X_L86 g 4 0 (Fx_H_copyBX 119 10 (Fx_H_copyBX 114 5 w g) g) := by
    intro w
    rw [Fx_T_copyR_110_1X_L58_s, if_neg (by decide), if_pos rfl, xqb, i01]
    rw [Fx_T_copyR_110_1X_L58_s, if_neg (by decide), if_neg (by decide), xqb, i12]
    rw [Fx_T_copyR_110_1X_L58_s, if_pos (by decide), te3]
  unfold Fx_T_copyR_110_1X
  rw [te2, xqb, xqb, xqb, xqb, xqb, xqb, r0, s0, tcY_110_1]
  rfl
theorem tcY_136_1 {u : MM} : ms (ms (ms (ms (ms (mr u 137 (va_cpy (u 2) (u 137) 0 0 600)) 136 1 (u 1 1)) 136 2 (u 1 2)) 136 3 (u 1 3)) 136 5 (u 1 5)) 136 7 (u 1 7) = tc0 u 136 1 := by
  unfold tc0
  rfl
theorem tcX_136_1 {u : MM} {g : GG} : Fx_T_copyR_136_1X u g = tcx u g 136 1 := by
  have w0 : ∀ w : MM, Fx_W_copyK_150_15X w g = wcx w 150 15 := by
    intro w
    unfold Fx_W_copyK_150_15X wcx
    rfl
  have w1 : ∀ w : MM, Fx_W_copyK_154_19X w g = wcx w 154 19 := by
    intro w
    unfold Fx_W_copyK_154_19X wcx
    rfl
  have w2 : ∀ w : MM, Fx_W_copyK_158_23X w g = wcx w 158 23 := by
    intro w
    unfold Fx_W_copyK_158_23X wcx
    rfl
  have s0 : ∀ w : MM, Fx_T_copyR_136_1X_L86 g 4 0 w = wcx (wcx (wcx w 150 15) 154 19) 158 23 := by
    intro w
    rw [Fx_T_copyR_136_1X_L86_s, if_neg (by decide), if_pos rfl, xqb, i01, w0]
    rw [Fx_T_copyR_136_1X_L86_s, if_neg (by decide), if_neg (by decide), if_pos rfl, xqb, i12, w1]
    rw [Fx_T_copyR_136_1X_L86_s, if_neg (by decide), if_neg (by decide), if_neg (by decide), xqb, i23, w2]
    rw [Fx_T_copyR_136_1X_L86_s, if_pos (by decide)]
  have r0 : ∀ w : MM, Fx_T_copyR_136_1X_L58 g 3 0 w = Fx_T_copyR_136_1X_L86 g 4 0 (Fx_H_copyBX 145 10 (Fx_H_copyBX 140 5 w g) g) := by
    intro w
    rw [Fx_T_copyR_136_1X_L58_s, if_neg (by decide), if_pos rfl, xqb, i01]
    rw [Fx_T_copyR_136_1X_L58_s, if_neg (by decide), if_neg (by decide), xqb, i12]
    rw [Fx_T_copyR_136_1X_L58_s, if_pos (by decide), te3]
  unfold Fx_T_copyR_136_1X
  rw [te2, xqb, xqb, xqb, xqb, xqb, xqb, r0, s0, tcY_136_1]
  rfl
theorem tcY_1_84 {u : MM} : ms (ms (ms (ms (ms (mr u 2 (va_cpy (u 85) (u 2) 0 0 600)) 1 1 (u 84 1)) 1 2 (u 84 2)) 1 3 (u 84 3)) 1 5 (u 84 5)) 1 7 (u 84 7) = tc0 u 1 84 := by
  unfold tc0
  rfl
theorem tcX_1_84 {u : MM} {g : GG} : Fx_T_copyR_1_84X u g = tcx u g 1 84 := by
  have w0 : ∀ w : MM, Fx_W_copyK_15_98X w g = wcx w 15 98 := by
    intro w
    unfold Fx_W_copyK_15_98X wcx
    rfl
  have w1 : ∀ w : MM, Fx_W_copyK_19_102X w g = wcx w 19 102 := by
    intro w
    unfold Fx_W_copyK_19_102X wcx
    rfl
  have w2 : ∀ w : MM, Fx_W_copyK_23_106X w g = wcx w 23 106 := by
    intro w
    unfold Fx_W_copyK_23_106X wcx
    rfl
  have s0 : ∀ w : MM, Fx_T_copyR_1_84X_L86 g 4 0 w = wcx (wcx (wcx w 15 98) 19 102) 23 106 := by
    intro w
    rw [Fx_T_copyR_1_84X_L86_s, if_neg (by decide), if_pos rfl, xqb, i01, w0]
    rw [Fx_T_copyR_1_84X_L86_s, if_neg (by decide), if_neg (by decide), if_pos rfl, xqb, i12, w1]
    rw [Fx_T_copyR_1_84X_L86_s, if_neg (by decide), if_neg (by decide), if_neg (by decide), xqb, i23, w2]
    rw [Fx_T_copyR_1_84X_L86_s, if_pos (by decide)]
  have r0 : ∀ w : MM, Fx_T_copyR_1_84X_L58 g 3 0 w = Fx_T_copyR_1_84X_L86 g 4 0 (Fx_H_copyBX 10 93 (Fx_H_copyBX 5 88 w g) g) := by
    intro w
    rw [Fx_T_copyR_1_84X_L58_s, if_neg (by decide), if_pos rfl, xqb, i01]
    rw [Fx_T_copyR_1_84X_L58_s, if_neg (by decide), if_neg (by decide), xqb, i12]
    rw [Fx_T_copyR_1_84X_L58_s, if_pos (by decide), te3]
  unfold Fx_T_copyR_1_84X
  rw [te2, xqb, xqb, xqb, xqb, xqb, xqb, r0, s0, tcY_1_84]
  rfl
theorem tcY_1_110 {u : MM} : ms (ms (ms (ms (ms (mr u 2 (va_cpy (u 111) (u 2) 0 0 600)) 1 1 (u 110 1)) 1 2 (u 110 2)) 1 3 (u 110 3)) 1 5 (u 110 5)) 1 7 (u 110 7) = tc0 u 1 110 := by
  unfold tc0
  rfl
theorem tcX_1_110 {u : MM} {g : GG} : Fx_T_copyR_1_110X u g = tcx u g 1 110 := by
  have w0 : ∀ w : MM, Fx_W_copyK_15_124X w g = wcx w 15 124 := by
    intro w
    unfold Fx_W_copyK_15_124X wcx
    rfl
  have w1 : ∀ w : MM, Fx_W_copyK_19_128X w g = wcx w 19 128 := by
    intro w
    unfold Fx_W_copyK_19_128X wcx
    rfl
  have w2 : ∀ w : MM, Fx_W_copyK_23_132X w g = wcx w 23 132 := by
    intro w
    unfold Fx_W_copyK_23_132X wcx
    rfl
  have s0 : ∀ w : MM, Fx_T_copyR_1_110X_L86 g 4 0 w = wcx (wcx (wcx w 15 124) 19 128) 23 132 := by
    intro w
    rw [Fx_T_copyR_1_110X_L86_s, if_neg (by decide), if_pos rfl, xqb, i01, w0]
    rw [Fx_T_copyR_1_110X_L86_s, if_neg (by decide), if_neg (by decide), if_pos rfl, xqb, i12, w1]
    rw [Fx_T_copyR_1_110X_L86_s, if_neg (by decide), if_neg (by decide), if_neg (by decide), xqb, i23, w2]
    rw [Fx_T_copyR_1_110X_L86_s, if_pos (by decide)]
  have r0 : ∀ w : MM, Fx_T_copyR_1_110X_L58 g 3 0 w = Fx_T_copyR_1_110X_L86 g 4 0 (Fx_H_copyBX 10 119 (Fx_H_copyBX 5 114 w g) g) := by
    intro w
    rw [Fx_T_copyR_1_110X_L58_s, if_neg (by decide), if_pos rfl, xqb, i01]
    rw [Fx_T_copyR_1_110X_L58_s, if_neg (by decide), if_neg (by decide), xqb, i12]
    rw [Fx_T_copyR_1_110X_L58_s, if_pos (by decide), te3]
  unfold Fx_T_copyR_1_110X
  rw [te2, xqb, xqb, xqb, xqb, xqb, xqb, r0, s0, tcY_1_110]
  rfl
theorem tcY_1_136 {u : MM} : ms (ms (ms (ms (ms (mr u 2 (va_cpy (u 137) (u 2) 0 0 600)) 1 1 (u 136 1)) 1 2 (u 136 2)) 1 3 (u 136 3)) 1 5 (u 136 5)) 1 7 (u 136 7) = tc0 u 1 136 := by
  unfold tc0
  rfl
theorem tcX_1_136 {u : MM} {g : GG} : Fx_T_copyR_1_136X u g = tcx u g 1 136 := by
  have w0 : ∀ w : MM, Fx_W_copyK_15_150X w g = wcx w 15 150 := by
    intro w
    unfold Fx_W_copyK_15_150X wcx
    rfl
  have w1 : ∀ w : MM, Fx_W_copyK_19_154X w g = wcx w 19 154 := by
    intro w
    unfold Fx_W_copyK_19_154X wcx
    rfl
  have w2 : ∀ w : MM, Fx_W_copyK_23_158X w g = wcx w 23 158 := by
    intro w
    unfold Fx_W_copyK_23_158X wcx
    rfl
  have s0 : ∀ w : MM, Fx_T_copyR_1_136X_L86 g 4 0 w = wcx (wcx (wcx w 15 150) 19 154) 23 158 := by
    intro w
    rw [Fx_T_copyR_1_136X_L86_s, if_neg (by decide), if_pos rfl, xqb, i01, w0]
    rw [Fx_T_copyR_1_136X_L86_s, if_neg (by decide), if_neg (by decide), if_pos rfl, xqb, i12, w1]
    rw [Fx_T_copyR_1_136X_L86_s, if_neg (by decide), if_neg (by decide), if_neg (by decide), xqb, i23, w2]
    rw [Fx_T_copyR_1_136X_L86_s, if_pos (by decide)]
  have r0 : ∀ w : MM, Fx_T_copyR_1_136X_L58 g 3 0 w = Fx_T_copyR_1_136X_L86 g 4 0 (Fx_H_copyBX 10 145 (Fx_H_copyBX 5 140 w g) g) := by
    intro w
    rw [Fx_T_copyR_1_136X_L58_s, if_neg (by decide), if_pos rfl, xqb, i01]
    rw [Fx_T_copyR_1_136X_L58_s, if_neg (by decide), if_neg (by decide), xqb, i12]
    rw [Fx_T_copyR_1_136X_L58_s, if_pos (by decide), te3]
  unfold Fx_T_copyR_1_136X
  rw [te2, xqb, xqb, xqb, xqb, xqb, xqb, r0, s0, tcY_1_136]
  rfl
end
section
/-! copies of the reference; image, again -/
theorem fr_ix {N a i : Nat} (ha : a ≤ 3) (hi : i < N) (hN : N ≤ 600) : ((iN N * iN a) + iN i).toNatClampNeg = N * a + i := by
  have : N * a ≤ 600 * 3 := Nat.mul_le_mul hN ha
  rw [iN_m, iN_a, iN_cl (by omega)]
theorem dj_ix {N a b i k : Nat} (hab : a ≠ b) (hi : i < N) (hk : k < N) : N * a + i ≠ N * b + k := by
  intro h
  rcases Nat.lt_or_gt_of_ne hab with q | q
  · have : N * (a + 1) ≤ N * b := Nat.mul_le_mul_left N q
    rw [Nat.mul_add] at this
    omega
  · have : N * (b + 1) ≤ N * a := Nat.mul_le_mul_left N q
    rw [Nat.mul_add] at this
    omega
theorem nb_fit {v : Int32} (h : fits .byte (.int v) = true) : vp_nar .byte v = v := by
  unfold vp_nar
  rw [narrow_of_fits h]
noncomputable def Fx_M_copyRX_T (a b : Int32) (x : MM) (g : GG) : MM := Fx_M_move_169X a b (Fx_M_move_168X a b (Fx_M_move_167X a b (Fx_M_move_166X a b (Fx_M_move_165X a b (Fx_M_move_164X a b x g) g) g) g) g) g
theorem mv_164 {a b : Nat} (ha : a ≤ 3) (hb : b ≤ 3) (hab : a ≠ b) : ∀ (n i : Nat) (w : MM), 1 - i < n → i ≤ 1 → ∃ x, Fx_M_move_164X_L3 (iN a) (iN b) n (iN i) w = x ∧ (∀ c, c ≠ 164 → x c = w c) ∧ (∀ j, i ≤ j → j < 1 → x 164 (1 * b + j) = w 164 (1 * a + j)) ∧ ∀ j, (j < 1 * b + i ∨ 1 * b + 1 ≤ j) → x 164 j = w 164 j := by
  intro n
  induction n with
  | zero => intro i w h; omega
  | succ n ih =>
    intro i w h hi
    rw [Fx_M_move_164X_L3_s]
    by_cases c : 1 ≤ i
    · rw [if_pos (show (1 : Int32) ≤ iN i from (iN_le (a := 1) (by omega) (by omega)).mpr c)]
      exact ⟨w, rfl, fun _ _ => rfl, fun j h1 h2 => by omega, fun j _ => rfl⟩
    · rw [if_neg (show ¬ (1 : Int32) ≤ iN i from fun q => c ((iN_le (a := 1) (by omega) (by omega)).mp q)), iN_s]
      have q1 : (((1 : Int32) * iN a) + iN i).toNatClampNeg = 1 * a + i := fr_ix (N := 1) ha (by omega) (by omega)
      have q2 : (((1 : Int32) * iN b) + iN i).toNatClampNeg = 1 * b + i := fr_ix (N := 1) hb (by omega) (by omega)
      simp only [xq_lt, q1, q2]
      obtain ⟨x, x1, x2, x3, x4⟩ := ih (i + 1) (ms w 164 (1 * b + i) (w 164 (1 * a + i))) (by omega) (by omega)
      refine ⟨x, x1, fun c hc => (x2 c hc).trans (ms_c1 hc), fun j h1 h2 => ?_, fun j hj => ?_⟩
      · by_cases z : j = i
        · rw [z, x4 _ (by omega), ms_e1]
        · rw [x3 j (by omega) h2, ms_i1 (dj_ix hab (by omega) (by omega))]
      · rw [x4 j (by omega), ms_i1 (by omega)]
theorem mv_165 {a b : Nat} (ha : a ≤ 3) (hb : b ≤ 3) (hab : a ≠ b) : ∀ (n i : Nat) (w : MM), 1 - i < n → i ≤ 1 → ∃ x, Fx_M_move_165X_L3 (iN a) (iN b) n (iN i) w = x ∧ (∀ c, c ≠ 165 → x c = w c) ∧ (∀ j, i ≤ j → j < 1 → x 165 (1 * b + j) = w 165 (1 * a + j)) ∧ ∀ j, (j < 1 * b + i ∨ 1 * b + 1 ≤ j) → x 165 j = w 165 j := by
  intro n
  induction n with
  | zero => intro i w h; omega
  | succ n ih =>
    intro i w h hi
    rw [Fx_M_move_165X_L3_s]
    by_cases c : 1 ≤ i
    · rw [if_pos (show (1 : Int32) ≤ iN i from (iN_le (a := 1) (by omega) (by omega)).mpr c)]
      exact ⟨w, rfl, fun _ _ => rfl, fun j h1 h2 => by omega, fun j _ => rfl⟩
    · rw [if_neg (show ¬ (1 : Int32) ≤ iN i from fun q => c ((iN_le (a := 1) (by omega) (by omega)).mp q)), iN_s]
      have q1 : (((1 : Int32) * iN a) + iN i).toNatClampNeg = 1 * a + i := fr_ix (N := 1) ha (by omega) (by omega)
      have q2 : (((1 : Int32) * iN b) + iN i).toNatClampNeg = 1 * b + i := fr_ix (N := 1) hb (by omega) (by omega)
      simp only [xq_lt, q1, q2]
      obtain ⟨x, x1, x2, x3, x4⟩ := ih (i + 1) (ms w 165 (1 * b + i) (w 165 (1 * a + i))) (by omega) (by omega)
      refine ⟨x, x1, fun c hc => (x2 c hc).trans (ms_c1 hc), fun j h1 h2 => ?_, fun j hj => ?_⟩
      · by_cases z : j = i
        · rw [z, x4 _ (by omega), ms_e1]
        · rw [x3 j (by omega) h2, ms_i1 (dj_ix hab (by omega) (by omega))]
      · rw [x4 j (by omega), ms_i1 (by omega)]
theorem mv_166 {a b : Nat} (ha : a ≤ 3) (hb : b ≤ 3) (hab : a ≠ b) : ∀ (n i : Nat) (w : MM), 1 - i < n → i ≤ 1 → ∃ x, Fx_M_move_166X_L3 (iN a) (iN b) n (iN i) w = x ∧ (∀ c, c ≠ 166 → x c = w c) ∧ (∀ j, i ≤ j → j < 1 → x 166 (1 * b + j) = w 166 (1 * a + j)) ∧ ∀ j, (j < 1 * b + i ∨ 1 * b + 1 ≤ j) → x 166 j = w 166 j := by
  intro n
  induction n with
  | zero => intro i w h; omega
  | succ n ih =>
    intro i w h hi
    rw [Fx_M_move_166X_L3_s]
    by_cases c : 1 ≤ i
    · rw [if_pos (show (1 : Int32) ≤ iN i from (iN_le (a := 1) (by omega) (by omega)).mpr c)]
      exact ⟨w, rfl, fun _ _ => rfl, fun j h1 h2 => by omega, fun j _ => rfl⟩
    · rw [if_neg (show ¬ (1 : Int32) ≤ iN i from fun q => c ((iN_le (a := 1) (by omega) (by omega)).mp q)), iN_s]
      have q1 : (((1 : Int32) * iN a) + iN i).toNatClampNeg = 1 * a + i := fr_ix (N := 1) ha (by omega) (by omega)
      have q2 : (((1 : Int32) * iN b) + iN i).toNatClampNeg = 1 * b + i := fr_ix (N := 1) hb (by omega) (by omega)
      simp only [xq_lt, q1, q2]
      obtain ⟨x, x1, x2, x3, x4⟩ := ih (i + 1) (ms w 166 (1 * b + i) (w 166 (1 * a + i))) (by omega) (by omega)
      refine ⟨x, x1, fun c hc => (x2 c hc).trans (ms_c1 hc), fun j h1 h2 => ?_, fun j hj => ?_⟩
      · by_cases z : j = i
        · rw [z, x4 _ (by omega), ms_e1]
        · rw [x3 j (by omega) h2, ms_i1 (dj_ix hab (by omega) (by omega))]
      · rw [x4 j (by omega), ms_i1 (by omega)]
theorem mv_167 {a b : Nat} (ha : a ≤ 3) (hb : b ≤ 3) (hab : a ≠ b) : ∀ (n i : Nat) (w : MM), 2 - i < n → i ≤ 2 → ∃ x, Fx_M_move_167X_L3 (iN a) (iN b) n (iN i) w = x ∧ (∀ c, c ≠ 167 → x c = w c) ∧ (∀ j, i ≤ j → j < 2 → x 167 (2 * b + j) = w 167 (2 * a + j)) ∧ ∀ j, (j < 2 * b + i ∨ 2 * b + 2 ≤ j) → x 167 j = w 167 j := by
  intro n
  induction n with
  | zero => intro i w h; omega
  | succ n ih =>
    intro i w h hi
    rw [Fx_M_move_167X_L3_s]
    by_cases c : 2 ≤ i
    · rw [if_pos (show (2 : Int32) ≤ iN i from (iN_le (a := 2) (by omega) (by omega)).mpr c)]
      exact ⟨w, rfl, fun _ _ => rfl, fun j h1 h2 => by omega, fun j _ => rfl⟩
    · rw [if_neg (show ¬ (2 : Int32) ≤ iN i from fun q => c ((iN_le (a := 2) (by omega) (by omega)).mp q)), iN_s]
      have q1 : (((2 : Int32) * iN a) + iN i).toNatClampNeg = 2 * a + i := fr_ix (N := 2) ha (by omega) (by omega)
      have q2 : (((2 : Int32) * iN b) + iN i).toNatClampNeg = 2 * b + i := fr_ix (N := 2) hb (by omega) (by omega)
      simp only [xq_lt, q1, q2]
      obtain ⟨x, x1, x2, x3, x4⟩ := ih (i + 1) (ms w 167 (2 * b + i) (w 167 (2 * a + i))) (by omega) (by omega)
      refine ⟨x, x1, fun c hc => (x2 c hc).trans (ms_c1 hc), fun j h1 h2 => ?_, fun j hj => ?_⟩
      · by_cases z : j = i
        · rw [z, x4 _ (by omega), ms_e1]
        · rw [x3 j (by omega) h2, ms_i1 (dj_ix hab (by omega) (by omega))]
      · rw [x4 j (by omega), ms_i1 (by omega)]
theorem mv_168 {a b : Nat} (ha : a ≤ 3) (hb : b ≤ 3) (hab : a ≠ b) : ∀ (n i : Nat) (w : MM), 314 - i < n → i ≤ 314 → ∃ x, Fx_M_move_168X_L3 (iN a) (iN b) n (iN i) w = x ∧ (∀ c, c ≠ 168 → x c = w c) ∧ (∀ j, i ≤ j → j < 314 → x 168 (314 * b + j) = w 168 (314 * a + j)) ∧ ∀ j, (j < 314 * b + i ∨ 314 * b + 314 ≤ j) → x 168 j = w 168 j := by
  intro n
  induction n with
  | zero => intro i w h; omega
  | succ n ih =>
    intro i w h hi
    rw [Fx_M_move_168X_L3_s]
    by_cases c : 314 ≤ i
    · rw [if_pos (show (314 : Int32) ≤ iN i from (iN_le (a := 314) (by omega) (by omega)).mpr c)]
      exact ⟨w, rfl, fun _ _ => rfl, fun j h1 h2 => by omega, fun j _ => rfl⟩
    · rw [if_neg (show ¬ (314 : Int32) ≤ iN i from fun q => c ((iN_le (a := 314) (by omega) (by omega)).mp q)), iN_s]
      have q1 : (((314 : Int32) * iN a) + iN i).toNatClampNeg = 314 * a + i := fr_ix (N := 314) ha (by omega) (by omega)
      have q2 : (((314 : Int32) * iN b) + iN i).toNatClampNeg = 314 * b + i := fr_ix (N := 314) hb (by omega) (by omega)
      simp only [xq_lt, q1, q2]
      obtain ⟨x, x1, x2, x3, x4⟩ := ih (i + 1) (ms w 168 (314 * b + i) (w 168 (314 * a + i))) (by omega) (by omega)
      refine ⟨x, x1, fun c hc => (x2 c hc).trans (ms_c1 hc), fun j h1 h2 => ?_, fun j hj => ?_⟩
      · by_cases z : j = i
        · rw [z, x4 _ (by omega), ms_e1]
        · rw [x3 j (by omega) h2, ms_i1 (dj_ix hab (by omega) (by omega))]
      · rw [x4 j (by omega), ms_i1 (by omega)]
theorem mv_169 {a b : Nat} (ha : a ≤ 3) (hb : b ≤ 3) (hab : a ≠ b) : ∀ (n i : Nat) (w : MM), 111 - i < n → i ≤ 111 → ∃ x, Fx_M_move_169X_L3 (iN a) (iN b) n (iN i) w = x ∧ (∀ c, c ≠ 169 → x c = w c) ∧ (∀ j, i ≤ j → j < 111 → x 169 (111 * b + j) = w 169 (111 * a + j)) ∧ ∀ j, (j < 111 * b + i ∨ 111 * b + 111 ≤ j) → x 169 j = w 169 j := by
  intro n
  induction n with
  | zero => intro i w h; omega
  | succ n ih =>
    intro i w h hi
    rw [Fx_M_move_169X_L3_s]
    by_cases c : 111 ≤ i
    · rw [if_pos (show (111 : Int32) ≤ iN i from (iN_le (a := 111) (by omega) (by omega)).mpr c)]
      exact ⟨w, rfl, fun _ _ => rfl, fun j h1 h2 => by omega, fun j _ => rfl⟩
    · rw [if_neg (show ¬ (111 : Int32) ≤ iN i from fun q => c ((iN_le (a := 111) (by omega) (by omega)).mp q)), iN_s]
      have q1 : (((111 : Int32) * iN a) + iN i).toNatClampNeg = 111 * a + i := fr_ix (N := 111) ha (by omega) (by omega)
      have q2 : (((111 : Int32) * iN b) + iN i).toNatClampNeg = 111 * b + i := fr_ix (N := 111) hb (by omega) (by omega)
      simp only [xq_lt, q1, q2]
      obtain ⟨x, x1, x2, x3, x4⟩ := ih (i + 1) (ms w 169 (111 * b + i) (w 169 (111 * a + i))) (by omega) (by omega)
      refine ⟨x, x1, fun c hc => (x2 c hc).trans (ms_c1 hc), fun j h1 h2 => ?_, fun j hj => ?_⟩
      · by_cases z : j = i
        · rw [z, x4 _ (by omega), ms_e1]
        · rw [x3 j (by omega) h2, ms_i1 (dj_ix hab (by omega) (by omega))]
      · rw [x4 j (by omega), ms_i1 (by omega)]
theorem mv_163 {a b : Nat} (ha : a ≤ 3) (hb : b ≤ 3) (hab : a ≠ b) {g : GG} : ∀ (n i : Nat) (w : MM), 600 - i < n → i ≤ 600 → (∀ j, j < 600 → fits .byte (.int (w 163 (600 * a + j))) = true) → ∃ x, Fx_M_copyRX_L2 (iN a) (iN b) g n (iN i) w = Fx_M_copyRX_T (iN a) (iN b) x g ∧ (∀ c, c ≠ 163 → x c = w c) ∧ (∀ j, i ≤ j → j < 600 → x 163 (600 * b + j) = w 163 (600 * a + j)) ∧ ∀ j, (j < 600 * b + i ∨ 600 * b + 600 ≤ j) → x 163 j = w 163 j := by
  intro n
  induction n with
  | zero => intro i w h; omega
  | succ n ih =>
    intro i w h hi hf
    rw [Fx_M_copyRX_L2_s]
    by_cases c : 600 ≤ i
    · rw [if_pos (show (600 : Int32) ≤ iN i from (iN_le (a := 600) (by omega) (by omega)).mpr c), xqb, xqb, xqb, xqb, xqb, xqb]
      exact ⟨w, rfl, fun _ _ => rfl, fun j h1 h2 => by omega, fun j _ => rfl⟩
    · rw [if_neg (show ¬ (600 : Int32) ≤ iN i from fun q => c ((iN_le (a := 600) (by omega) (by omega)).mp q)), iN_s]
      have q1 : (((600 : Int32) * iN a) + iN i).toNatClampNeg = 600 * a + i := fr_ix (N := 600) ha (by omega) (by omega)
      have q2 : (((600 : Int32) * iN b) + iN i).toNatClampNeg = 600 * b + i := fr_ix (N := 600) hb (by omega) (by omega)
      simp only [xq_lt, q1, q2]
      rw [nb_fit (hf i (by omega))]
      obtain ⟨x, x1, x2, x3, x4⟩ := ih (i + 1) (ms w 163 (600 * b + i) (w 163 (600 * a + i))) (by omega) (by omega) (fun j hj => by rw [ms_i1 (dj_ix hab hj (by omega))]; exact hf j hj)
      refine ⟨x, x1, fun c hc => (x2 c hc).trans (ms_c1 hc), fun j h1 h2 => ?_, fun j hj => ?_⟩
      · by_cases z : j = i
        · rw [z, x4 _ (by omega), ms_e1]
        · rw [x3 j (by omega) h2, ms_i1 (dj_ix hab (by omega) (by omega))]
      · rw [x4 j (by omega), ms_i1 (by omega)]
theorem mw_164 {a b : Nat} {w : MM} {g : GG} (ha : a ≤ 3) (hb : b ≤ 3) (hab : a ≠ b) : (∀ c, c ≠ 164 → Fx_M_move_164X (iN a) (iN b) w g c = w c) ∧ (∀ j, j < 1 → Fx_M_move_164X (iN a) (iN b) w g 164 (1 * b + j) = w 164 (1 * a + j)) ∧ ∀ j, (j < 1 * b ∨ 1 * b + 1 ≤ j) → Fx_M_move_164X (iN a) (iN b) w g 164 j = w 164 j := by
  have e : Fx_M_move_164X (iN a) (iN b) w g = Fx_M_move_164X_L3 (iN a) (iN b) 2 (iN 0) w := rfl
  obtain ⟨x, x1, x2, x3, x4⟩ := mv_164 ha hb hab 2 0 w (by omega) (by omega)
  rw [e, x1]
  exact ⟨x2, fun j hj => x3 j (by omega) hj, fun j hj => x4 j (by omega)⟩
theorem mw_165 {a b : Nat} {w : MM} {g : GG} (ha : a ≤ 3) (hb : b ≤ 3) (hab : a ≠ b) : (∀ c, c ≠ 165 → Fx_M_move_165X (iN a) (iN b) w g c = w c) ∧ (∀ j, j < 1 → Fx_M_move_165X (iN a) (iN b) w g 165 (1 * b + j) = w 165 (1 * a + j)) ∧ ∀ j, (j < 1 * b ∨ 1 * b + 1 ≤ j) → Fx_M_move_165X (iN a) (iN b) w g 165 j = w 165 j := by
  have e : Fx_M_move_165X (iN a) (iN b) w g = Fx_M_move_165X_L3 (iN a) (iN b) 2 (iN 0) w := rfl
  obtain ⟨x, x1, x2, x3, x4⟩ := mv_165 ha hb hab 2 0 w (by omega) (by omega)
  rw [e, x1]
  exact ⟨x2, fun j hj => x3 j (by omega) hj, fun j hj => x4 j (by omega)⟩
theorem mw_166 {a b : Nat} {w : MM} {g : GG} (ha : a ≤ 3) (hb : b ≤ 3) (hab : a ≠ b) : (∀ c, c ≠ 166 → Fx_M_move_166X (iN a) (iN b) w g c = w c) ∧ (∀ j, j < 1 → Fx_M_move_166X (iN a) (iN b) w g 166 (1 * b + j) = w 166 (1 * a + j)) ∧ ∀ j, (j < 1 * b ∨ 1 * b + 1 ≤ j) → Fx_M_move_166X (iN a) (iN b) w g 166 j = w 166 j := by
  have e : Fx_M_move_166X (iN a) (iN b) w g = Fx_M_move_166X_L3 (iN a) (iN b) 2 (iN 0) w := rfl
  obtain ⟨x, x1, x2, x3, x4⟩ := mv_166 ha hb hab 2 0 w (by omega) (by omega)
  rw [e, x1]
  exact ⟨x2, fun j hj => x3 j (by omega) hj, fun j hj => x4 j (by omega)⟩
theorem mw_167 {a b : Nat} {w : MM} {g : GG} (ha : a ≤ 3) (hb : b ≤ 3) (hab : a ≠ b) : (∀ c, c ≠ 167 → Fx_M_move_167X (iN a) (iN b) w g c = w c) ∧ (∀ j, j < 2 → Fx_M_move_167X (iN a) (iN b) w g 167 (2 * b + j) = w 167 (2 * a + j)) ∧ ∀ j, (j < 2 * b ∨ 2 * b + 2 ≤ j) → Fx_M_move_167X (iN a) (iN b) w g 167 j = w 167 j := by
  have e : Fx_M_move_167X (iN a) (iN b) w g = Fx_M_move_167X_L3 (iN a) (iN b) 3 (iN 0) w := rfl
  obtain ⟨x, x1, x2, x3, x4⟩ := mv_167 ha hb hab 3 0 w (by omega) (by omega)
  rw [e, x1]
  exact ⟨x2, fun j hj => x3 j (by omega) hj, fun j hj => x4 j (by omega)⟩
theorem mw_168 {a b : Nat} {w : MM} {g : GG} (ha : a ≤ 3) (hb : b ≤ 3) (hab : a ≠ b) : (∀ c, c ≠ 168 → Fx_M_move_168X (iN a) (iN b) w g c = w c) ∧ (∀ j, j < 314 → Fx_M_move_168X (iN a) (iN b) w g 168 (314 * b + j) = w 168 (314 * a + j)) ∧ ∀ j, (j < 314 * b ∨ 314 * b + 314 ≤ j) → Fx_M_move_168X (iN a) (iN b) w g 168 j = w 168 j := by
  have e : Fx_M_move_168X (iN a) (iN b) w g = Fx_M_move_168X_L3 (iN a) (iN b) 315 (iN 0) w := rfl
  obtain ⟨x, x1, x2, x3, x4⟩ := mv_168 ha hb hab 315 0 w (by omega) (by omega)
  rw [e, x1]
  exact ⟨x2, fun j hj => x3 j (by omega) hj, fun j hj => x4 j (by omega)⟩
theorem mw_169 {a b : Nat} {w : MM} {g : GG} (ha : a ≤ 3) (hb : b ≤ 3) (hab : a ≠ b) : (∀ c, c ≠ 169 → Fx_M_move_169X (iN a) (iN b) w g c = w c) ∧ (∀ j, j < 111 → Fx_M_move_169X (iN a) (iN b) w g 169 (111 * b + j) = w 169 (111 * a + j)) ∧ ∀ j, (j < 111 * b ∨ 111 * b + 111 ≤ j) → Fx_M_move_169X (iN a) (iN b) w g 169 j = w 169 j := by
  have e : Fx_M_move_169X (iN a) (iN b) w g = Fx_M_move_169X_L3 (iN a) (iN b) 112 (iN 0) w := rfl
  obtain ⟨x, x1, x2, x3, x4⟩ := mv_169 ha hb hab 112 0 w (by omega) (by omega)
  rw [e, x1]
  exact ⟨x2, fun j hj => x3 j (by omega) hj, fun j hj => x4 j (by omega)⟩
theorem dj_lt {N s b j : Nat} (h : s ≠ b) (hj : j < N) : N * s + j < N * b ∨ N * b + N ≤ N * s + j := by
  rcases Nat.lt_or_gt_of_ne h with q | q
  · have : N * (s + 1) ≤ N * b := Nat.mul_le_mul_left N q
    rw [Nat.mul_add] at this
    omega
  · have : N * (b + 1) ≤ N * s := Nat.mul_le_mul_left N q
    rw [Nat.mul_add] at this
    omega
/-- the reference's copy: place b is as place a was, the others stay -/
theorem cpR_X {a b : Nat} {v : MM} {g : GG} (ha : a ≤ 3) (hb : b ≤ 3) (hab : a ≠ b) (hf : ∀ j, j < 600 → fits .byte (.int (v 163 (600 * a + j))) = true) : SCP (Fx_M_copyRX (iN a) (iN b) v g) v b a ∧ (∀ s, s ≠ b → SCP (Fx_M_copyRX (iN a) (iN b) v g) v s s) ∧ ∀ c, (c < 163 ∨ 169 < c) → Fx_M_copyRX (iN a) (iN b) v g c = v c := by
  have e : Fx_M_copyRX (iN a) (iN b) v g = Fx_M_copyRX_L2 (iN a) (iN b) g 601 (iN 0) v := rfl
  obtain ⟨x3, y3, p3, q3, r3⟩ := mv_163 ha hb hab (g := g) 601 0 v (by omega) (by omega) hf
  obtain ⟨x4, h4⟩ : ∃ x, x = Fx_M_move_164X (iN a) (iN b) x3 g := ⟨_, rfl⟩
  have m4 := mw_164 (w := x3) (g := g) ha hb hab
  rw [← h4] at m4
  obtain ⟨p4, q4, r4⟩ := m4
  obtain ⟨x5, h5⟩ : ∃ x, x = Fx_M_move_165X (iN a) (iN b) x4 g := ⟨_, rfl⟩
  have m5 := mw_165 (w := x4) (g := g) ha hb hab
  rw [← h5] at m5
  obtain ⟨p5, q5, r5⟩ := m5
  obtain ⟨x6, h6⟩ : ∃ x, x = Fx_M_move_166X (iN a) (iN b) x5 g := ⟨_, rfl⟩
  have m6 := mw_166 (w := x5) (g := g) ha hb hab
  rw [← h6] at m6
  obtain ⟨p6, q6, r6⟩ := m6
  obtain ⟨x7, h7⟩ : ∃ x, x = Fx_M_move_167X (iN a) (iN b) x6 g := ⟨_, rfl⟩
  have m7 := mw_167 (w := x6) (g := g) ha hb hab
  rw [← h7] at m7
  obtain ⟨p7, q7, r7⟩ := m7
  obtain ⟨x8, h8⟩ : ∃ x, x = Fx_M_move_168X (iN a) (iN b) x7 g := ⟨_, rfl⟩
  have m8 := mw_168 (w := x7) (g := g) ha hb hab
  rw [← h8] at m8
  obtain ⟨p8, q8, r8⟩ := m8
  obtain ⟨x9, h9⟩ : ∃ x, x = Fx_M_move_169X (iN a) (iN b) x8 g := ⟨_, rfl⟩
  have m9 := mw_169 (w := x8) (g := g) ha hb hab
  rw [← h9] at m9
  obtain ⟨p9, q9, r9⟩ := m9
  have ex : Fx_M_copyRX_T (iN a) (iN b) x3 g = x9 := by rw [h9, h8, h7, h6, h5, h4]; rfl
  rw [e, y3, ex]
  refine ⟨⟨fun j hj => ?_, ?_, ?_, ?_, ?_, ?_, fun j hj => ?_, fun j hj => ?_⟩, fun s hs => ⟨fun j hj => ?_, ?_, ?_, ?_, ?_, ?_, fun j hj => ?_, fun j hj => ?_⟩, fun c hc => ?_⟩
  · rw [p9 163 (by decide), p8 163 (by decide), p7 163 (by decide), p6 163 (by decide), p5 163 (by decide), p4 163 (by decide), q3 j (Nat.zero_le _) hj]
  · have h := q4 0 (by omega)
    rw [Nat.one_mul, Nat.one_mul, Nat.add_zero, Nat.add_zero] at h
    rw [p9 164 (by decide), p8 164 (by decide), p7 164 (by decide), p6 164 (by decide), p5 164 (by decide), h, p3 164 (by decide)]
  · have h := q5 0 (by omega)
    rw [Nat.one_mul, Nat.one_mul, Nat.add_zero, Nat.add_zero] at h
    rw [p9 165 (by decide), p8 165 (by decide), p7 165 (by decide), p6 165 (by decide), h, p4 165 (by decide), p3 165 (by decide)]
  · have h := q6 0 (by omega)
    rw [Nat.one_mul, Nat.one_mul, Nat.add_zero, Nat.add_zero] at h
    rw [p9 166 (by decide), p8 166 (by decide), p7 166 (by decide), h, p5 166 (by decide), p4 166 (by decide), p3 166 (by decide)]
  · have h := q7 0 (by omega)
    rw [Nat.add_zero, Nat.add_zero] at h
    rw [p9 167 (by decide), p8 167 (by decide), h, p6 167 (by decide), p5 167 (by decide), p4 167 (by decide), p3 167 (by decide)]
  · rw [p9 167 (by decide), p8 167 (by decide), q7 1 (by omega), p6 167 (by decide), p5 167 (by decide), p4 167 (by decide), p3 167 (by decide)]
  · rw [p9 168 (by decide), q8 j hj, p7 168 (by decide), p6 168 (by decide), p5 168 (by decide), p4 168 (by decide), p3 168 (by decide)]
  · rw [q9 j hj, p8 169 (by decide), p7 169 (by decide), p6 169 (by decide), p5 169 (by decide), p4 169 (by decide), p3 169 (by decide)]
  · rw [p9 163 (by decide), p8 163 (by decide), p7 163 (by decide), p6 163 (by decide), p5 163 (by decide), p4 163 (by decide), r3 _ (by have := dj_lt (N := 600) (j := j) hs (by omega); omega)]
  · rw [p9 164 (by decide), p8 164 (by decide), p7 164 (by decide), p6 164 (by decide), p5 164 (by decide), r4 _ (by omega), p3 164 (by decide)]
  · rw [p9 165 (by decide), p8 165 (by decide), p7 165 (by decide), p6 165 (by decide), r5 _ (by omega), p4 165 (by decide), p3 165 (by decide)]
  · rw [p9 166 (by decide), p8 166 (by decide), p7 166 (by decide), r6 _ (by omega), p5 166 (by decide), p4 166 (by decide), p3 166 (by decide)]
  · rw [p9 167 (by decide), p8 167 (by decide), r7 _ (by omega), p6 167 (by decide), p5 167 (by decide), p4 167 (by decide), p3 167 (by decide)]
  · rw [p9 167 (by decide), p8 167 (by decide), r7 _ (by omega), p6 167 (by decide), p5 167 (by decide), p4 167 (by decide), p3 167 (by decide)]
  · rw [p9 168 (by decide), r8 _ (by have := dj_lt (N := 314) (j := j) hs (by omega); omega), p7 168 (by decide), p6 168 (by decide), p5 168 (by decide), p4 168 (by decide), p3 168 (by decide)]
  · rw [r9 _ (by have := dj_lt (N := 111) (j := j) hs (by omega); omega), p8 169 (by decide), p7 169 (by decide), p6 169 (by decide), p5 169 (by decide), p4 169 (by decide), p3 169 (by decide)]
  · rw [p9 c (by omega), p8 c (by omega), p7 c (by omega), p6 c (by omega), p5 c (by omega), p4 c (by omega), p3 c (by omega)]
end
