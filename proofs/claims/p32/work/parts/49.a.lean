section
/-! sets, weights, sums over storms -/
theorem inN : ∀ k, k < 512 → ∀ q, q < 9 → inB (iN k) q = k.testBit q := by decide +kernel
theorem iN_and {a b : Nat} (ha : a < 2 ^ 31) (hb : b < 2 ^ 31) : iN a &&& iN b = iN (a &&& b) := by
  refine Int32.toBitVec_inj.mp ?_
  rw [Int32.toBitVec_and]
  show BitVec.ofNat 32 a &&& BitVec.ofNat 32 b = BitVec.ofNat 32 (a &&& b)
  refine BitVec.eq_of_getLsbD_eq (fun i hi => ?_)
  rw [BitVec.getLsbD_and, BitVec.getLsbD_ofNat, BitVec.getLsbD_ofNat, BitVec.getLsbD_ofNat, Nat.testBit_and, decide_eq_true hi]
  rfl
/-! weights -/
/-! sums over storms -/
/-! a storm does not hang on the chances -/
end
section
/-! the class's weights, and what hangs on them -/
theorem btE {p : Nat} (hp : p < 10) : bt p = iN (2 ^ p) := (all_e p hp).2.1
end
section
/-! steps -/
theorem iN_or {a b : Nat} : iN a ||| iN b = iN (a ||| b) := by
  refine Int32.toBitVec_inj.mp ?_
  rw [Int32.toBitVec_or]
  show BitVec.ofNat 32 a ||| BitVec.ofNat 32 b = BitVec.ofNat 32 (a ||| b)
  refine BitVec.eq_of_getLsbD_eq (fun i hi => ?_)
  rw [BitVec.getLsbD_or, BitVec.getLsbD_ofNat, BitVec.getLsbD_ofNat, BitVec.getLsbD_ofNat, Nat.testBit_or, decide_eq_true hi]
  rfl
theorem bXI {p : Nat} {u : MM} {g : GG} (hp : p ≤ 1000) : Fx_bitX (iN p) u g = bt p := by
  unfold Fx_bitX bt
  rw [if_pos (show (0 : Int32) ≤ iN p from (iN_le (a := 0) (by omega) (by omega)).mpr (by omega))]
end
section
/-! upon -/
/-- u's water goes to p at once -/
def LD (A : Nat → Nat → Int32) (u p : Nat) : Prop := A u 8 = iN p ∨ A u 9 = iN p
theorem ld_lt {A : Nat → Nat → Int32} {n i t : Nat} (aw : AWF n A) (n9 : n ≤ 9) (hi : i < n) (ht : t < n) (h : LD A i t) : i < t := by
  obtain ⟨-, a8, a9⟩ := aw i hi
  have k : ∀ d : Int32, LK n i d → d = iN t → i < t := fun d l e => by
    rcases l with l | ⟨q, q1, q2, q3⟩
    · rw [l] at e
      have e1 := congrArg Int32.toInt e
      rw [iN_ti (by omega)] at e1
      have : (-1 : Int32).toInt = -1 := rfl
      omega
    · rw [q3] at e
      have := (iN_eq (by omega) (by omega)).mp e
      omega
  rcases h with h | h
  · exact k _ a8 h
  · exact k _ a9 h
theorem bw_X {x : MM} {g : GG} {n k : Nat} {d : Int32} (l : LK n k d) (n9 : n ≤ 9) : ∃ b, Fx_bitX d x g = iN b ∧ b < 2 ^ n ∧ ∀ t, b.testBit t = true ↔ (t < n ∧ d = iN t) := by
  rcases l with l | ⟨a, a1, a2, a3⟩
  · refine ⟨0, ?_, Nat.two_pow_pos n, fun t => ?_⟩
    · unfold Fx_bitX
      rw [l, if_neg (by decide)]
      rfl
    · rw [Nat.zero_testBit, l]
      refine ⟨fun z => absurd z (by decide), fun z => ?_⟩
      have e1 := congrArg Int32.toInt z.2
      rw [iN_ti (by omega)] at e1
      have : (-1 : Int32).toInt = -1 := rfl
      omega
  · refine ⟨2 ^ a, ?_, Nat.pow_lt_pow_right (by decide) a2, fun t => ?_⟩
    · rw [a3, bXI (by omega), btE (by omega)]
    · rw [Nat.testBit_two_pow, a3]
      refine ⟨fun z => ?_, fun z => decide_eq_true ((iN_eq (by omega) (by omega)).mp z.2)⟩
      have z1 := of_decide_eq_true z
      exact ⟨by omega, by rw [z1]⟩
theorem nx_X {x : MM} {g : GG} {n k : Nat} {A : Nat → Nat → Int32} (h : HA x 44 n A) (aw : AWF n A) (n9 : n ≤ 9) (hk : k < n) : ∃ b, Fx_H_nextOfX (iN k) 44 x g = iN b ∧ b < 2 ^ n ∧ ∀ t, b.testBit t = true ↔ (t < n ∧ LD A k t) := by
  obtain ⟨-, a8, a9⟩ := aw k hk
  obtain ⟨b, b1, b2, b3⟩ := bw_X (x := x) (g := g) a8 n9
  obtain ⟨c, c1, c2, c3⟩ := bw_X (x := x) (g := g) a9 n9
  unfold Fx_H_nextOfX
  rw [show hof x 44 (iN k) (8 : Int32) = A k 8 from ha_r (c := 8) h n9 hk (by decide), show hof x 44 (iN k) (9 : Int32) = A k 9 from ha_r (c := 9) h n9 hk (by decide), b1, c1, xqb, xqb, iN_or]
  refine ⟨b ||| c, rfl, Nat.or_lt_two_pow b2 c2, fun t => ?_⟩
  rw [Nat.testBit_or, Bool.or_eq_true, b3 t, c3 t]
  exact ⟨fun z => z.elim (fun z => ⟨z.1, Or.inl z.2⟩) (fun z => ⟨z.1, Or.inr z.2⟩), fun z => z.2.elim (fun w => Or.inl ⟨z.1, w⟩) (fun w => Or.inr ⟨z.1, w⟩)⟩
theorem cap_0 {a b n : Nat} (ha : a < 2 ^ n) (hb : b < 2 ^ n) (n9 : n ≤ 9) : iN a &&& iN b = 0 ↔ ¬ ∃ t, a.testBit t = true ∧ b.testBit t = true := by
  have pn := p2_le n9
  have hl : a &&& b ≤ a := Nat.and_le_left
  rw [iN_and (by omega) (by omega)]
  refine ⟨fun z => ?_, fun z => ?_⟩
  · have z1 : a &&& b = 0 := (iN_eq (b := 0) (by omega) (by omega)).mp z
    rintro ⟨t, t1, t2⟩
    have : (a &&& b).testBit t = true := by rw [Nat.testBit_and, t1, t2]; rfl
    rw [z1, Nat.zero_testBit] at this
    exact absurd this (by decide)
  · have z1 : a &&& b = 0 := by
      refine Nat.eq_of_testBit_eq (fun t => ?_)
      rw [Nat.testBit_and, Nat.zero_testBit]
      cases t1 : a.testBit t
      · rfl
      · cases t2 : b.testBit t
        · rfl
        · exact absurd ⟨t, t1, t2⟩ z
    rw [z1]
    rfl
theorem or_b {s q : Nat} (i : Nat) : (s ||| 2 ^ q).testBit i = true ↔ (s.testBit i = true ∨ i = q) := by
  rw [Nat.testBit_or, Bool.or_eq_true, Nat.testBit_two_pow]
  exact ⟨fun z => z.imp_right (fun w => (of_decide_eq_true w).symm), fun z => z.imp_right (fun w => decide_eq_true w.symm)⟩
/-- the class from below: what reaches q, down to k -/
def RCH (A : Nat → Nat → Int32) (n q s k : Nat) : Prop := s < 2 ^ n ∧ s.testBit q = true ∧ (∀ i, s.testBit i = true → k ≤ i ∧ i ≤ q) ∧ ∀ i, k ≤ i → i < q → (s.testBit i = true ↔ ∃ t, t < n ∧ LD A i t ∧ s.testBit t = true)
theorem rc_L {x : MM} {g : GG} {n q : Nat} {A : Nat → Nat → Int32} (h : HA x 44 n A) (aw : AWF n A) (n9 : n ≤ 9) (hq : q < n) : ∀ (f k s : Nat), k < f → k ≤ q → RCH A n q s k → ∃ C, Fx_H_reachingX_L9 (iN q) 44 x g f (iN s) (iN k - 1) = iN C &&& (bt q ^^^ (-1)) ∧ RCH A n q C 0 := by
  have pn := p2_le n9
  intro f
  induction f with
  | zero => intro k s h1; omega
  | succ f ih =>
    intro k s h1 h2 hR
    rw [Fx_H_reachingX_L9_s]
    by_cases k0 : k = 0
    · subst k0
      rw [if_pos (show iN 0 - 1 < (0 : Int32) by decide), xqb, b9I (by omega)]
      exact ⟨s, rfl, hR⟩
    obtain ⟨p, rfl⟩ : ∃ p, k = p + 1 := ⟨k - 1, by omega⟩
    have e1 : iN (p + 1) - 1 = iN p := iN_sub (a := p + 1) (b := 1) (by omega)
    obtain ⟨b, b1, b2, b3⟩ := nx_X (g := g) h aw n9 (show p < n by omega)
    obtain ⟨r1, r2, r3, r4⟩ := hR
    unfold Fx_H_reachingX_J30
    rw [e1, if_neg (show ¬ iN p < (0 : Int32) from fun z => by have := (iN_lt (b := 0) (by omega) (by omega)).mp z; omega), b1, xqb, show iN p + (-1) = iN p - 1 from (Int32.sub_eq_add_neg _ _).symm]
    have hc := cap_0 b2 r1 n9
    have ex : (∃ t, b.testBit t = true ∧ s.testBit t = true) ↔ ∃ t, t < n ∧ LD A p t ∧ s.testBit t = true := ⟨fun ⟨t, t1, t2⟩ => ⟨t, ((b3 t).mp t1).1, ((b3 t).mp t1).2, t2⟩, fun ⟨t, t1, t2, t3⟩ => ⟨t, (b3 t).mpr ⟨t1, t2⟩, t3⟩⟩
    by_cases z : iN b &&& iN s = 0
    · have nz := hc.mp z
      rw [if_pos z]
      refine ih p s (by omega) (by omega) ⟨r1, r2, fun i hi => ⟨by have := (r3 i hi).1; omega, (r3 i hi).2⟩, fun i hi1 hi2 => ?_⟩
      by_cases y : i = p
      · subst y
        exact ⟨fun w => by have := (r3 i w).1; omega, fun w => absurd (ex.mpr w) nz⟩
      · exact r4 i (by omega) hi2
    · have hz : ∃ t, t < n ∧ LD A p t ∧ s.testBit t = true := ex.mp (Classical.byContradiction (fun w => z (hc.mpr w)))
      have s2 : s ||| 2 ^ p < 2 ^ n := Nat.or_lt_two_pow r1 (Nat.pow_lt_pow_right (by decide) (by omega))
      rw [if_neg z, b9I (by omega), xqb, btE (by omega), iN_or]
      refine ih p (s ||| 2 ^ p) (by omega) (by omega) ⟨s2, (or_b q).mpr (Or.inl r2), fun i hi => ?_, fun i hi1 hi2 => ?_⟩
      · rcases (or_b i).mp hi with w | w
        · exact ⟨by have := (r3 i w).1; omega, (r3 i w).2⟩
        · exact ⟨by omega, by omega⟩
      · by_cases y : i = p
        · subst y
          refine ⟨fun _ => ?_, fun _ => (or_b i).mpr (Or.inr rfl)⟩
          obtain ⟨t, t1, t2, t3⟩ := hz
          exact ⟨t, t1, t2, (or_b t).mpr (Or.inl t3)⟩
        · have k1 := r4 i (by omega) hi2
          refine ⟨fun w => ?_, fun ⟨t, t1, t2, t3⟩ => (or_b i).mpr (Or.inl (k1.mpr ⟨t, t1, t2, ?_⟩))⟩
          · rcases (or_b i).mp w with w | w
            · obtain ⟨t, t1, t2, t3⟩ := k1.mp w
              exact ⟨t, t1, t2, (or_b t).mpr (Or.inl t3)⟩
            · exact absurd w y
          · rcases (or_b t).mp t3 with w | w
            · exact w
            · have := ld_lt aw n9 (show i < n by omega) t1 t2
              omega
/-- the class from above: what q reaches, up to k -/
def RF (A : Nat → Nat → Int32) (n q s k : Nat) : Prop := s < 2 ^ n ∧ s.testBit q = true ∧ (∀ i, s.testBit i = true → q ≤ i) ∧ (∀ i t, i < k → s.testBit i = true → t < n → LD A i t → s.testBit t = true) ∧ ∀ i, s.testBit i = true → ¬ i = q → ∃ j, j < n ∧ s.testBit j = true ∧ LD A j i
theorem rf_L {x : MM} {g : GG} {n q : Nat} {A : Nat → Nat → Int32} (h : HA x 44 n A) (aw : AWF n A) (n9 : n ≤ 9) (hq : q < n) : ∀ (f k s : Nat), n - k < f → q ≤ k → k ≤ n → RF A n q s k → ∃ C, Fx_H_reachedFromX_L7 (iN q) 44 x g f (iN s) (iN k) = iN C &&& (bt q ^^^ (-1)) ∧ RF A n q C n := by
  have pn := p2_le n9
  intro f
  induction f with
  | zero => intro k s h1; omega
  | succ f ih =>
    intro k s h1 h2 h3 hR
    rw [Fx_H_reachedFromX_L7_s, h.1]
    by_cases z : n ≤ k
    · rw [if_pos ((iN_le (by omega) (by omega)).mpr z), xqb, b9I (by omega)]
      have e : k = n := by omega
      subst e
      exact ⟨s, rfl, hR⟩
    have hk : k < n := by omega
    obtain ⟨r1, r2, r3, r4, r5⟩ := hR
    obtain ⟨b, b1, b2, b3⟩ := nx_X (g := g) h aw n9 hk
    unfold Fx_H_reachedFromX_J31
    rw [if_neg (fun w => z ((iN_le (by omega) (by omega)).mp w)), xqb, isI, inN s (by omega) k (by omega), iN_s, b1]
    by_cases t : s.testBit k = true
    · have s2 : s ||| b < 2 ^ n := Nat.or_lt_two_pow r1 b2
      have ob : ∀ i, (s ||| b).testBit i = true ↔ (s.testBit i = true ∨ (i < n ∧ LD A k i)) := fun i => by rw [Nat.testBit_or, Bool.or_eq_true, b3 i]
      rw [if_pos t, xqb, iN_or]
      refine ih (k + 1) (s ||| b) (by omega) (by omega) (by omega) ⟨s2, (ob q).mpr (Or.inl r2), fun i hi => ?_, fun i j hi hs hj hl => ?_, fun i hi hn => ?_⟩
      · rcases (ob i).mp hi with w | w
        · exact r3 i w
        · have := ld_lt aw n9 hk w.1 w.2
          omega
      · rcases (ob i).mp hs with w | w
        · by_cases y : i = k
          · subst y
            exact (ob j).mpr (Or.inr ⟨hj, hl⟩)
          · exact (ob j).mpr (Or.inl (r4 i j (by omega) w hj hl))
        · have := ld_lt aw n9 hk w.1 w.2
          omega
      · rcases (ob i).mp hi with w | w
        · obtain ⟨j, j1, j2, j3⟩ := r5 i w hn
          exact ⟨j, j1, (ob j).mpr (Or.inl j2), j3⟩
        · exact ⟨k, hk, (ob k).mpr (Or.inl t), w.2⟩
    · rw [if_neg t]
      refine ih (k + 1) s (by omega) (by omega) (by omega) ⟨r1, r2, r3, fun i j hi hs hj hl => ?_, r5⟩
      by_cases y : i = k
      · subst y
        exact absurd hs t
      · exact r4 i j (by omega) hs hj hl
/-! the reference's passes -/
theorem lea_X {y : MM} {g : GG} {n u p : Nat} {A : Nat → Nat → Int32} (h : RMA y n A) (n9 : n ≤ 9) (hu : u < n) : Fx_M_leadsX (iN u) (iN p) y g = true ↔ LD A u p := by
  unfold Fx_M_leadsX LD
  rw [show mof y (iN u) (8 : Int32) = A u 8 from ma_r (c := 8) h n9 hu (by decide), show mof y (iN u) (9 : Int32) = A u 9 from ma_r (c := 9) h n9 hu (by decide)]
  by_cases w : A u 8 = iN p
  · rw [if_pos w]
    exact ⟨fun _ => Or.inl w, fun _ => rfl⟩
  · rw [if_neg w]
    by_cases z : A u 9 = iN p
    · rw [if_pos z]
      exact ⟨fun _ => Or.inr z, fun _ => rfl⟩
    · rw [if_neg z]
      exact ⟨fun q => absurd q Bool.false_ne_true, fun q => absurd q (fun q => q.elim w z)⟩
/-- which of both must be there, which of both comes to it -/
def DIR (below : Int32) (tr ad : Nat → Nat → Nat) : Prop := (below = 0 ∧ (∀ u p, tr u p = p) ∧ ∀ u p, ad u p = u) ∨ (¬ below = 0 ∧ (∀ u p, tr u p = u) ∧ ∀ u p, ad u p = p)
theorem up_3 {y : MM} {g : GG} {n u C : Nat} {A : Nat → Nat → Int32} {below : Int32} {tr ad : Nat → Nat → Nat} {ih : Int32 → Int32 → Int32 × MM} (h : RMA y n A) (n9 : n ≤ 9) (hu : u < n) (dr : DIR below tr ad) (hC : ∀ u p, u < n → p < n → LD A u p → C.testBit (tr u p) = true → C.testBit (ad u p) = true) : ∀ (f p s : Nat), n - p < f → p ≤ n → s < 2 ^ n → (∀ i, s.testBit i = true → C.testBit i = true) → ∃ s', Fx_M_uponX_L56 ih below g y (iN u) f (iN s) (iN p) = ih (iN s') (iN (u + 1)) ∧ s' < 2 ^ n ∧ (∀ i, s.testBit i = true → s'.testBit i = true) ∧ (∀ i, s'.testBit i = true → C.testBit i = true) ∧ ∀ q, p ≤ q → q < n → LD A u q → s.testBit (tr u q) = true → s'.testBit (ad u q) = true := by
  have pn := p2_le n9
  intro f
  induction f with
  | zero => intro p s h1; omega
  | succ f ihf =>
    intro p s h1 h2 hs hsub
    by_cases z : n ≤ p
    · refine ⟨s, ?_, hs, fun _ q => q, hsub, fun q hq1 hq2 => by omega⟩
      rw [Fx_M_uponX_L56_s, h.1, if_pos ((iN_le (by omega) (by omega)).mpr z), iN_s]
    have hp : p < n := by omega
    have nle : ¬ iN n ≤ iN p := fun w => z ((iN_le (by omega) (by omega)).mp w)
    have skip : Fx_M_uponX_L56 ih below g y (iN u) (f + 1) (iN s) (iN p) = Fx_M_uponX_L56 ih below g y (iN u) f (iN s) (iN (p + 1)) → (LD A u p → s.testBit (tr u p) = true → False) → ∃ s', Fx_M_uponX_L56 ih below g y (iN u) (f + 1) (iN s) (iN p) = ih (iN s') (iN (u + 1)) ∧ s' < 2 ^ n ∧ (∀ i, s.testBit i = true → s'.testBit i = true) ∧ (∀ i, s'.testBit i = true → C.testBit i = true) ∧ ∀ q, p ≤ q → q < n → LD A u q → s.testBit (tr u q) = true → s'.testBit (ad u q) = true := by
      intro e no
      obtain ⟨s', a1, a2, a3, a4, a5⟩ := ihf (p + 1) s (by omega) (by omega) hs hsub
      refine ⟨s', e.trans a1, a2, a3, a4, fun q q1 q2 q3 q4 => ?_⟩
      by_cases w : q = p
      · subst w
        exact absurd q4 (fun v => no q3 v)
      · exact a5 q (by omega) q2 q3 q4
    by_cases l : LD A u p
    rotate_left
    · refine skip ?_ (fun v => absurd v l)
      rw [Fx_M_uponX_L56_s, h.1, if_neg nle, xqb, if_neg (fun w => l ((lea_X h n9 hu).mp w))]
      unfold Fx_M_uponX_J126
      rw [iN_s]
    have lt := (lea_X (g := g) h n9 hu).mpr l
    by_cases t : s.testBit (tr u p) = true
    rotate_left
    · refine skip ?_ (fun _ v => t v)
      rcases dr with ⟨d0, d1, d2⟩ | ⟨d0, d1, d2⟩
      · rw [d1] at t
        rw [Fx_M_uponX_L56_s, h.1, if_neg nle, xqb, if_pos lt, if_pos d0, if_pos d0, xqb, hasI, inN s (by omega) p (by omega), if_neg t]
        unfold Fx_M_uponX_J123 Fx_M_uponX_J126
        rw [iN_s, Int32.or_zero]
      · rw [d1] at t
        rw [Fx_M_uponX_L56_s, h.1, if_neg nle, xqb, if_pos lt, if_neg d0, xqb, hasI, inN s (by omega) u (by omega), if_neg t, if_neg d0]
        unfold Fx_M_uponX_J123 Fx_M_uponX_J126
        rw [iN_s, Int32.or_zero]
    have had : ad u p < n := by
      rcases dr with ⟨-, -, d2⟩ | ⟨-, -, d2⟩
      · rw [d2]; exact hu
      · rw [d2]; exact hp
    have e : Fx_M_uponX_L56 ih below g y (iN u) (f + 1) (iN s) (iN p) = Fx_M_uponX_L56 ih below g y (iN u) f (iN (s ||| 2 ^ ad u p)) (iN (p + 1)) := by
      rcases dr with ⟨d0, d1, d2⟩ | ⟨d0, d1, d2⟩
      · rw [d1] at t
        have eb : (1 : Int32) <<< (iN u &&& 31) = iN (2 ^ u) := (all_e u (by omega)).2.1
        rw [Fx_M_uponX_L56_s, h.1, if_neg nle, xqb, if_pos lt, if_pos d0, if_pos d0, xqb, hasI, inN s (by omega) p (by omega), if_pos t]
        unfold Fx_M_uponX_J123 Fx_M_uponX_J126
        rw [iN_s, eb, iN_or, d2]
      · rw [d1] at t
        have eb : (1 : Int32) <<< (iN p &&& 31) = iN (2 ^ p) := (all_e p (by omega)).2.1
        rw [Fx_M_uponX_L56_s, h.1, if_neg nle, xqb, if_pos lt, if_neg d0, xqb, hasI, inN s (by omega) u (by omega), if_pos t]
        unfold Fx_M_uponX_J123 Fx_M_uponX_J126
        rw [iN_s, eb, iN_or, d2]
    have s2 : s ||| 2 ^ ad u p < 2 ^ n := Nat.or_lt_two_pow hs (Nat.pow_lt_pow_right (by decide) had)
    obtain ⟨s', a1, a2, a3, a4, a5⟩ := ihf (p + 1) (s ||| 2 ^ ad u p) (by omega) (by omega) s2 (fun i hi => by
      rcases (or_b i).mp hi with w | w
      · exact hsub i w
      · rw [w]; exact hC u p hu hp l (hsub _ t))
    refine ⟨s', e.trans a1, a2, fun i hi => a3 i ((or_b i).mpr (Or.inl hi)), a4, fun q q1 q2 q3 q4 => ?_⟩
    by_cases w : q = p
    · subst w
      exact a3 _ ((or_b _).mpr (Or.inr rfl))
    · exact a5 q (by omega) q2 q3 ((or_b _).mpr (Or.inl q4))
theorem up_2 {y : MM} {g : GG} {n C k : Nat} {A : Nat → Nat → Int32} {below : Int32} {tr ad : Nat → Nat → Nat} {ih : Int32 → Int32 → Int32 × MM} (h : RMA y n A) (n9 : n ≤ 9) (dr : DIR below tr ad) (hC : ∀ u p, u < n → p < n → LD A u p → C.testBit (tr u p) = true → C.testBit (ad u p) = true) : ∀ (f u s : Nat), n - u < f → u ≤ n → s < 2 ^ n → (∀ i, s.testBit i = true → C.testBit i = true) → ∃ s', Fx_M_uponX_L44 ih below g y (iN k) f (iN s) (iN u) = ih (iN s') (iN (k + 1)) ∧ s' < 2 ^ n ∧ (∀ i, s.testBit i = true → s'.testBit i = true) ∧ (∀ i, s'.testBit i = true → C.testBit i = true) ∧ ∀ v q, u ≤ v → v < n → q < n → LD A v q → s.testBit (tr v q) = true → s'.testBit (ad v q) = true := by
  intro f
  induction f with
  | zero => intro u s h1; omega
  | succ f ihf =>
    intro u s h1 h2 hs hsub
    rw [Fx_M_uponX_L44_s, h.1]
    by_cases z : n ≤ u
    · refine ⟨s, ?_, hs, fun _ q => q, hsub, fun v q hq1 hq2 => by omega⟩
      rw [if_pos ((iN_le (by omega) (by omega)).mpr z), iN_s]
    have e10 : (9 - (0 : Int32).toInt).toNat + 1 = 10 := by decide
    rw [if_neg (fun w => z ((iN_le (by omega) (by omega)).mp w)), e10]
    obtain ⟨s1, a1, a2, a3, a4, a5⟩ := up_3 (g := g) (ih := Fx_M_uponX_L44 ih below g y (iN k) f) h n9 (show u < n by omega) dr hC 10 0 s (by omega) (by omega) hs hsub
    obtain ⟨s2, b1, b2, b3, b4, b5⟩ := ihf (u + 1) s1 (by omega) (by omega) a2 a4
    refine ⟨s2, Eq.trans a1 b1, b2, fun i hi => b3 i (a3 i hi), b4, fun v q v1 v2 q2 q3 q4 => ?_⟩
    by_cases w : v = u
    · subst w
      exact b3 _ (a5 q (Nat.zero_le _) q2 q3 q4)
    · exact b5 v q (by omega) v2 q2 q3 (a3 _ q4)
theorem up_1 {y : MM} {g : GG} {n C q : Nat} {A : Nat → Nat → Int32} {below : Int32} {tr ad : Nat → Nat → Nat} {rk : Nat → Nat} (h : RMA y n A) (n9 : n ≤ 9) (hq : q < n) (dr : DIR below tr ad) (hC : ∀ u p, u < n → p < n → LD A u p → C.testBit (tr u p) = true → C.testBit (ad u p) = true) (hr : ∀ i, C.testBit i = true → rk i ≤ n) (hS : ∀ i, C.testBit i = true → 0 < rk i → ∃ v p, v < n ∧ p < n ∧ LD A v p ∧ C.testBit (tr v p) = true ∧ rk (tr v p) < rk i ∧ ad v p = i) : ∀ (f k s : Nat), n - k < f → k ≤ n → s < 2 ^ n → (∀ i, s.testBit i = true → C.testBit i = true) → (∀ i, C.testBit i = true → rk i ≤ k → s.testBit i = true) → Fx_M_uponX_L32 (iN q) below g y f (iN s) (iN k) = (iN C &&& (bt q ^^^ (-1)), y) := by
  intro f
  induction f with
  | zero => intro k s h1; omega
  | succ f ihf =>
    intro k s h1 h2 hs hsub hk
    rw [Fx_M_uponX_L32_s, h.1]
    by_cases z : n ≤ k
    · have e : s = C := Nat.eq_of_testBit_eq (fun i => by
        cases t : C.testBit i
        · cases t2 : s.testBit i
          · rfl
          · rw [hsub i t2] at t
            exact t
        · exact hk i t (by have := hr i t; omega))
      rw [if_pos ((iN_le (by omega) (by omega)).mpr z), e]
      rfl
    have e10 : (9 - (0 : Int32).toInt).toNat + 1 = 10 := by decide
    rw [if_neg (fun w => z ((iN_le (by omega) (by omega)).mp w)), e10]
    obtain ⟨s1, a1, a2, a3, a4, a5⟩ := up_2 (g := g) (k := k) (ih := Fx_M_uponX_L32 (iN q) below g y f) h n9 dr hC 10 0 s (by omega) (by omega) hs hsub
    refine Eq.trans a1 (ihf (k + 1) s1 (by omega) (by omega) a2 a4 (fun i hi hl => ?_))
    by_cases w : rk i ≤ k
    · exact a3 i (hk i hi w)
    · obtain ⟨v, p, v1, p1, l1, c1, r1, d1⟩ := hS i hi (by omega)
      rw [← d1]
      exact a5 v p (Nat.zero_le _) v1 p1 l1 (hk _ c1 (by omega))
theorem R5_upon {u v u1 v2 : MM} {g g' : GG} {hill plan pond below z w : Int32} (h : RLY u v) (b5 : Bd 0 2 (u 1 5)) (b7 : Bd 0 3 (u 1 7)) (hd : HD v) (pl : PL v) (e1 : (z, u1) = Fx_P_uponX hill plan pond below u g) (e2 : (w, v2) = Fx_M_uponX hill plan pond below v g') : z = w := by
  obtain ⟨b, x, y, p1, p2, p3⟩ := lay_Y (g := g) (g' := g') (hill := hill) (plan := plan) h b5 b7 hd pl
  unfold Fx_P_uponX at e1
  unfold Fx_M_uponX at e2
  rw [xqb, p2, c2_mk] at e2
  cases b
  · rw [hpd_F p1, c2_mk, if_neg Bool.false_ne_true] at e1
    rw [if_neg Bool.false_ne_true] at e2
    exact (congrArg Prod.fst e1).trans (congrArg Prod.fst e2).symm
  obtain ⟨n, m, L⟩ := p3 rfl
  have n9 := L.1
  have pn := p2_le n9
  have ha := L.2.2.2.1
  have aw := L.2.2.2.2.2.1
  have ma := L.2.2.2.2.1
  obtain ⟨t, t1, t2, t3⟩ := q_pond (g := g) (g' := g') (p := pond) L
  rw [hpd_T p1 t1, c2_mk] at e1
  rw [if_pos rfl, xqb, t2] at e2
  cases t
  · rw [if_neg Bool.false_ne_true] at e1 e2
    exact (congrArg Prod.fst e1).trans (congrArg Prod.fst e2).symm
  obtain ⟨q, hq, q2⟩ := t3 rfl
  have e10 : (9 - (0 : Int32).toInt).toNat + 1 = 10 := by decide
  have eb : (1 : Int32) <<< (iN q &&& 31) = iN (2 ^ q) := (all_e q (by omega)).2.1
  have q2p : 2 ^ q < 2 ^ n := Nat.pow_lt_pow_right (by decide) hq
  have tq : ∀ i, (2 ^ q).testBit i = true ↔ i = q := fun i => by
    rw [Nat.testBit_two_pow]
    exact ⟨fun z => (of_decide_eq_true z).symm, fun z => decide_eq_true z.symm⟩
  rw [if_pos rfl, q2] at e1 e2
  rw [e10, eb] at e2
  by_cases b0 : below = 0
  · rw [if_pos b0, xqb] at e1
    unfold Fx_H_reachingX at e1
    obtain ⟨F, hF, h9⟩ : ∃ F, F = ((iN q - 1).toInt - (-1)).toNat + 1 ∧ q < F := by
      refine ⟨_, rfl, ?_⟩
      by_cases z : q = 0
      · subst z; decide
      · rw [show iN q - 1 = iN (q - 1) from iN_sub (a := q) (b := 1) (by omega), iN_ti (by omega)]
        omega
    obtain ⟨C, c1, r1, r2, r3, r4⟩ := rc_L (g := g) ha aw n9 hq F q (2 ^ q) h9 (Nat.le_refl _) ⟨q2p, (tq q).mpr rfl, fun i hi => by have := (tq i).mp hi; omega, fun i h1 h2 => by omega⟩
    rw [xqb, b9I (by omega), btE (by omega), ← hF, c1] at e1
    have hU := up_1 (g := g') (C := C) (q := q) (tr := fun _ p => p) (ad := fun u _ => u) (rk := fun i => q - i) ma n9 hq (Or.inl ⟨b0, fun _ _ => rfl, fun _ _ => rfl⟩) (fun a p ha' hp l hc => (r4 a (Nat.zero_le _) (by have h1 := ld_lt aw n9 ha' hp l; have h2 := (r3 p hc).2; omega)).mpr ⟨p, hp, l, hc⟩) (fun i _ => by omega) (fun i hi hk => by
      obtain ⟨p, hp, l, hc⟩ := (r4 i (Nat.zero_le _) (by omega)).mp hi
      have h1 := ld_lt aw n9 (by omega) hp l
      exact ⟨i, p, by omega, hp, l, hc, by have := (r3 p hc).2; omega, rfl⟩) 10 0 (2 ^ q) (by omega) (by omega) q2p (fun i hi => by rw [(tq i).mp hi]; exact r2) (fun i hi hk => (tq i).mpr (by have := (r3 i hi).2; omega))
    have hU' : Fx_M_uponX_L32 (iN q) below g' y 10 (iN (2 ^ q)) 0 = (iN C &&& (bt q ^^^ (-1)), y) := hU
    rw [hU'] at e2
    exact (congrArg Prod.fst e1).trans (congrArg Prod.fst e2).symm
  · rw [if_neg b0, xqb] at e1
    unfold Fx_H_reachedFromX at e1
    obtain ⟨F, hF, h9⟩ : ∃ F, F = (9 - (iN q).toInt).toNat + 1 ∧ n - q < F := ⟨_, rfl, by rw [iN_ti (by omega)]; omega⟩
    obtain ⟨C, c1, r1, r2, r3, r4, r5⟩ := rf_L (g := g) ha aw n9 hq F q (2 ^ q) h9 (Nat.le_refl _) (by omega) ⟨q2p, (tq q).mpr rfl, fun i hi => by have := (tq i).mp hi; omega, fun i t h1 h2 => by have := (tq i).mp h2; omega, fun i hi hn => absurd ((tq i).mp hi) hn⟩
    rw [xqb, b9I (by omega), btE (by omega), ← hF, c1] at e1
    have hlt : ∀ i, C.testBit i = true → i < n := fun i hi => by
      by_cases z : i < n
      · exact z
      · rw [Nat.testBit_lt_two_pow (Nat.lt_of_lt_of_le r1 (Nat.pow_le_pow_right (by decide) (by omega)))] at hi
        exact absurd hi (by decide)
    have hU := up_1 (g := g') (C := C) (q := q) (tr := fun u _ => u) (ad := fun _ p => p) (rk := fun i => i - q) ma n9 hq (Or.inr ⟨b0, fun _ _ => rfl, fun _ _ => rfl⟩) (fun a p ha' hp l hc => r4 a p ha' hc hp l) (fun i hi => by have := hlt i hi; omega) (fun i hi hk => by
      obtain ⟨j, j1, j2, j3⟩ := r5 i hi (by omega)
      have h1 := ld_lt aw n9 j1 (hlt i hi) j3
      exact ⟨j, i, j1, hlt i hi, j3, j2, by have := r3 j j2; omega, rfl⟩) 10 0 (2 ^ q) (by omega) (by omega) q2p (fun i hi => by rw [(tq i).mp hi]; exact r2) (fun i hi hk => (tq i).mpr (by have := r3 i hi; omega))
    have hU' : Fx_M_uponX_L32 (iN q) below g' y 10 (iN (2 ^ q)) 0 = (iN C &&& (bt q ^^^ (-1)), y) := hU
    rw [hU'] at e2
    exact (congrArg Prod.fst e1).trans (congrArg Prod.fst e2).symm
end
section
/-! means as numbers; rains that are all dry are as one of them -/
noncomputable def hN (A : Nat → Nat → Int32) (n : Nat) (st : Int32) (b : Nat) : Nat := (hro A (-1) (stN A n st (iN b) (-1) n).1 n).toNatClampNeg
/-! ponds filled -/
end
