/-! the reference's lines: what it remembers, numbers -/
def OR (P : Int32 × Int32) (t : Nat) : Prop := ¬ P.1 = 0 → P.2 < iN t
theorem or_w {P : Int32 × Int32} {t t2 : Nat} (h : OR P t) (ht : t ≤ t2) (h6 : t2 ≤ 100000) : OR P t2 := by
  intro q
  have h1 := Int32.lt_iff_toInt_lt.mp (h q)
  rw [iN_ti (by omega)] at h1
  rw [Int32.lt_iff_toInt_lt, iN_ti h6]
  omega
theorem or_rm {P : Int32 × Int32} {f : Int32} {t t2 : Nat} (h : OR P t) (ht : t < t2) (h6 : t2 ≤ 100000) : OR (rm P f (iN t)) t2 := by
  unfold rm
  by_cases q : P.1 = 0
  · rw [if_pos q]
    intro _
    exact (iN_lt (by omega) h6).mpr ht
  · rw [if_neg q]
    exact or_w h (Nat.le_of_lt ht) h6
theorem or_rmb {P : Int32 × Int32} {f : Int32} {b : Bool} {t t2 : Nat} (h : OR P t) (ht : t < t2) (h6 : t2 ≤ 100000) : OR (rmb b f (iN t) P) t2 := by
  by_cases q : b = true
  · rw [rmb_t q]; exact or_w h (Nat.le_of_lt ht) h6
  · rw [rmb_f q]; exact or_rm h ht h6
/-- what the reference has remembered -/
def LT (v : Nat → Nat → Int32) (P : Int32 × Int32) : Prop := v 162 15 = P.1 ∧ (¬ P.1 = 0 → v 162 16 = P.2)
theorem la_X {v : Nat → Nat → Int32} {g : Nat → Nat → Int64} {P : Int32 × Int32} {f : Int32} {t : Nat} (h : LT v P) (o : OR P t) : LT (Fx_M_laterX f (iN t) v g) (rm P f (iN t)) ∧ (∀ b, b ≠ 162 → Fx_M_laterX f (iN t) v g b = v b) ∧ ∀ j, j ≠ 15 → j ≠ 16 → Fx_M_laterX f (iN t) v g 162 j = v 162 j := by
  obtain ⟨h1, h2⟩ := h
  unfold Fx_M_laterX
  simp only [xq_lt]
  rw [h1]
  by_cases z : P.1 = 0
  · rw [if_pos z]
    refine ⟨?_, fun b hb => (ms_c1 hb).trans (ms_c1 hb), fun j j15 j16 => (ms_i1 j16).trans (ms_i1 j15)⟩
    unfold rm
    rw [if_pos z]
    exact ⟨rfl, fun _ => rfl⟩
  · have o1 := o z
    rw [if_neg z, h2 z, if_neg (fun q => lt_lt_no q o1), if_neg (fun q => by rw [q] at o1; exact Int32.lt_irrefl o1)]
    refine ⟨?_, fun _ _ => rfl, fun _ _ _ => rfl⟩
    unfold rm
    rw [if_neg z]
    exact ⟨h1, h2⟩
/-- the reference's reader, the token at a read -/
def RSv (v : Nat → Nat → Int32) (g : Nat → Nat → Int64) (f : Nat → Int32) (L a : Nat) (P : Int32 × Int32) (R : Nat → Int32) : Prop := v 163 = f ∧ v 162 9 = iN L ∧ TKR v g f L a ∧ LT v P ∧ v 170 = R
def okn (low high v : Int32) : Bool := decide (low ≤ v) && decide (v ≤ high)
theorem km_3 {f : Nat → Int32} {L a : Nat} : km (tK f L a) = 3 ↔ tK f L a = 2 := by
  unfold km
  by_cases h0 : tK f L a = 0
  · rw [if_pos h0, h0]; decide
  · rw [if_neg h0]
    by_cases h1 : tK f L a = 1
    · rw [if_pos h1, h1]; decide
    · rw [if_neg h1]
      by_cases h2 : tK f L a = 2
      · rw [if_pos h2]; exact ⟨fun _ => h2, fun _ => rfl⟩
      · rw [if_neg h2]
        refine ⟨?_, fun q => absurd q h2⟩
        split <;> exact fun q => absurd q (by decide)
theorem km_4 {f : Nat → Int32} {L a : Nat} : km (tK f L a) = 4 ↔ tK f L a = 3 := by
  unfold km
  by_cases h0 : tK f L a = 0
  · rw [if_pos h0, h0]; decide
  · rw [if_neg h0]
    by_cases h1 : tK f L a = 1
    · rw [if_pos h1, h1]; decide
    · rw [if_neg h1]
      by_cases h2 : tK f L a = 2
      · rw [if_pos h2, h2]; decide
      · rw [if_neg h2]
        by_cases h3 : tK f L a = 3
        · rw [if_pos h3]; exact ⟨fun _ => h3, fun _ => rfl⟩
        · rw [if_neg h3]
          exact ⟨fun q => absurd q (by decide), fun q => absurd q h3⟩
/-- a token behind a memory that differs from a reader's only where the reader's rows don't look -/
theorem rs_t {v y : Nat → Nat → Int32} {g : Nat → Nat → Int64} {f : Nat → Int32} {L a : Nat} {P Q : Int32 × Int32} {R : Nat → Int32} (hb : L ≤ 600) (hf : ∀ j, j < L → Bd (-128) 127 (f j)) (ha : a ≤ L) (h : RSv v g f L a P R) (h163 : y 163 = v 163) (h9 : y 162 9 = v 162 9) (h8 : y 162 8 = v 162 8) (hR : y 170 = v 170) (hQ : LT y Q) : RSv (Fx_M_tokenX y g).1 (Fx_M_tokenX y g).2 f L (tN f L a) Q R ∧ TF (Fx_M_tokenX y g).1 y := by
  obtain ⟨r1, r2, r3, r4, r5⟩ := h
  have e : y 163 = f := h163.trans r1
  obtain ⟨m1, m2⟩ := mt_X (u := y) (g := g) (L := L) (a := tN f L a) (h9.trans r2) hb (by rw [e]; exact hf) (tN_in ha) (h8.trans r3.1)
  rw [e] at m1
  refine ⟨⟨(m2.1 163 (by decide)).trans e, (m2.2 9 (by decide) (by decide) (by decide) (by decide)).trans (h9.trans r2), m1, ⟨?_, fun z => ?_⟩, (m2.1 170 (by decide)).trans (hR.trans r5)⟩, m2⟩
  · rw [m2.2 15 (by decide) (by decide) (by decide) (by decide)]; exact hQ.1
  · rw [m2.2 16 (by decide) (by decide) (by decide) (by decide)]; exact hQ.2 z
theorem nu_0 {v : Nat → Nat → Int32} {g : Nat → Nat → Int64} {f : Nat → Int32} {L a : Nat} {P : Int32 × Int32} {R : Nat → Int32} {low high : Int32} (h : RSv v g f L a P R) (k : ¬ tK f L a = 2) : Fx_M_numberX low high v g = (false, ms v 162 14 (iN (tS f L a)), g) := by
  obtain ⟨r1, r2, ⟨t1, t2, t3, t4, t5⟩, r4, r5⟩ := h
  unfold Fx_M_numberX
  rw [if_neg (fun q => k (km_3.mp (t3 ▸ q))), ← t2]
  rfl
theorem nu_1 {v : Nat → Nat → Int32} {g : Nat → Nat → Int64} {f : Nat → Int32} {L a : Nat} {P : Int32 × Int32} {R : Nat → Int32} {low high : Int32} (hb : L ≤ 600) (hf : ∀ j, j < L → Bd (-128) 127 (f j)) (ha : a ≤ L) (h : RSv v g f L a P R) (o : OR P (tS f L a)) (k : tK f L a = 2) :
    ∃ x g2, Fx_M_numberX low high v g = (true, x, g2) ∧ RSv x g2 f L (tN f L a) (rmb (okn low high (tV f L a)) 2 (iN (tS f L a)) P) R ∧ x 162 17 = tV f L a ∧ x 162 18 = (if okn low high (tV f L a) = true then v 162 18 else 0) ∧ ∀ b, b ≠ 162 → x b = v b := by
  have h' := h
  obtain ⟨r1, r2, ⟨t1, t2, t3, t4, t5⟩, r4, r5⟩ := h'
  have e12 := t4 k
  unfold Fx_M_numberX
  rw [if_pos (by rw [t3]; exact km_3.mpr k)]
  simp only [xq_lt, xq_c2, in_X]
  rw [e12, t2]
  by_cases q : okn low high (tV f L a) = true
  · rw [if_pos (show (decide (low ≤ tV f L a) && decide (tV f L a ≤ high)) = true from q), rmb_t q, if_pos q]
    obtain ⟨m1, m2⟩ := rs_t (y := ms v 162 17 (tV f L a)) (Q := P) hb hf ha h rfl rfl rfl rfl r4
    refine ⟨_, _, rfl, m1, ?_, ?_, fun b hb => (m2.1 b hb).trans (ms_c1 hb)⟩
    · rw [m2.2 17 (by decide) (by decide) (by decide) (by decide)]; rfl
    · rw [m2.2 18 (by decide) (by decide) (by decide) (by decide)]; rfl
  · rw [if_neg (show ¬ (decide (low ≤ tV f L a) && decide (tV f L a ≤ high)) = true from q), rmb_f q, if_neg q]
    obtain ⟨l1, l2, l3⟩ := la_X (v := ms v 162 17 (tV f L a)) (g := g) (f := 2) (t := tS f L a) (show LT (ms v 162 17 (tV f L a)) P from r4) o
    obtain ⟨m1, m2⟩ := rs_t (y := ms (Fx_M_laterX 2 (iN (tS f L a)) (ms v 162 17 (tV f L a)) g) 162 18 0) (Q := rm P 2 (iN (tS f L a))) hb hf ha h (l2 163 (by decide)) (l3 9 (by decide) (by decide)) (l3 8 (by decide) (by decide)) (l2 170 (by decide)) l1
    refine ⟨_, _, rfl, m1, ?_, ?_, fun b hb => ?_⟩
    · rw [m2.2 17 (by decide) (by decide) (by decide) (by decide), ms_i1 (by decide), l3 17 (by decide) (by decide)]; rfl
    · rw [m2.2 18 (by decide) (by decide) (by decide) (by decide)]; rfl
    · rw [m2.1 b hb, ms_c1 hb, l2 b hb, ms_c1 hb]
theorem ta_00 {v : Nat → Nat → Int32} {g : Nat → Nat → Int64} {f : Nat → Int32} {L a : Nat} {P : Int32 × Int32} {R : Nat → Int32} {low high : Int32} (h : RSv v g f L a P R) (k : ¬ tK f L a = 2) : ∃ x g2, Fx_M_take0X low high v g = (false, x, g2) ∧ x 162 14 = iN (tS f L a) := by
  unfold Fx_M_take0X
  rw [nu_0 h k]
  exact ⟨_, _, rfl, rfl⟩
theorem ta_01 {v : Nat → Nat → Int32} {g : Nat → Nat → Int64} {f : Nat → Int32} {L a : Nat} {P : Int32 × Int32} {R : Nat → Int32} {low high : Int32} (hb : L ≤ 600) (hf : ∀ j, j < L → Bd (-128) 127 (f j)) (ha : a ≤ L) (h : RSv v g f L a P R) (o : OR P (tS f L a)) (k : tK f L a = 2) :
    ∃ x g2, Fx_M_take0X low high v g = (true, x, g2) ∧ RSv x g2 f L (tN f L a) (rmb (okn low high (tV f L a)) 2 (iN (tS f L a)) P) R ∧ x 171 0 = tV f L a ∧ (∀ j, j ≠ 0 → x 171 j = v 171 j) ∧ x 162 18 = (if okn low high (tV f L a) = true then v 162 18 else 0) ∧ (∀ b, b ≠ 162 → b ≠ 171 → x b = v b) ∧ OR (rmb (okn low high (tV f L a)) 2 (iN (tS f L a)) P) (tS f L (tN f L a)) := by
  obtain ⟨x, g2, e, m1, m2, m3, m4⟩ := nu_1 (low := low) (high := high) hb hf ha h o k
  unfold Fx_M_take0X
  rw [e]
  refine ⟨ms x 171 0 (x 162 17), g2, rfl, ?_, ?_, fun j hj => ?_, m3, fun b b1 b2 => ?_, ?_⟩
  · obtain ⟨s1, s2, ⟨u1, u2, u3, u4, u5⟩, s4, s5⟩ := m1
    exact ⟨s1, s2, ⟨u1, u2, u3, u4, u5⟩, s4, s5⟩
  · rw [ms_e1]; exact m2
  · rw [ms_i1 hj, m4 171 (by decide)]
  · rw [ms_c1 b2, m4 b b1]
  · have h1 := tN_lt (f := f) (L := L) (a := a) (by rw [k]; decide)
    have h2 := tS_le (f := f) (L := L) (tN f L a)
    have h3 := tS_in (f := f) (tN_in (f := f) ha)
    exact or_rmb o (by omega) (by omega)
theorem ta_10 {v : Nat → Nat → Int32} {g : Nat → Nat → Int64} {f : Nat → Int32} {L a : Nat} {P : Int32 × Int32} {R : Nat → Int32} {low high : Int32} (h : RSv v g f L a P R) (k : ¬ tK f L a = 2) : ∃ x g2, Fx_M_take1X low high v g = (false, x, g2) ∧ x 162 14 = iN (tS f L a) := by
  unfold Fx_M_take1X
  rw [nu_0 h k]
  exact ⟨_, _, rfl, rfl⟩
theorem ta_11 {v : Nat → Nat → Int32} {g : Nat → Nat → Int64} {f : Nat → Int32} {L a : Nat} {P : Int32 × Int32} {R : Nat → Int32} {low high : Int32} (hb : L ≤ 600) (hf : ∀ j, j < L → Bd (-128) 127 (f j)) (ha : a ≤ L) (h : RSv v g f L a P R) (o : OR P (tS f L a)) (k : tK f L a = 2) :
    ∃ x g2, Fx_M_take1X low high v g = (true, x, g2) ∧ RSv x g2 f L (tN f L a) (rmb (okn low high (tV f L a)) 2 (iN (tS f L a)) P) R ∧ x 171 1 = tV f L a ∧ (∀ j, j ≠ 1 → x 171 j = v 171 j) ∧ x 162 18 = (if okn low high (tV f L a) = true then v 162 18 else 0) ∧ (∀ b, b ≠ 162 → b ≠ 171 → x b = v b) ∧ OR (rmb (okn low high (tV f L a)) 2 (iN (tS f L a)) P) (tS f L (tN f L a)) := by
  obtain ⟨x, g2, e, m1, m2, m3, m4⟩ := nu_1 (low := low) (high := high) hb hf ha h o k
  unfold Fx_M_take1X
  rw [e]
  refine ⟨ms x 171 1 (x 162 17), g2, rfl, ?_, ?_, fun j hj => ?_, m3, fun b b1 b2 => ?_, ?_⟩
  · obtain ⟨s1, s2, ⟨u1, u2, u3, u4, u5⟩, s4, s5⟩ := m1
    exact ⟨s1, s2, ⟨u1, u2, u3, u4, u5⟩, s4, s5⟩
  · rw [ms_e1]; exact m2
  · rw [ms_i1 hj, m4 171 (by decide)]
  · rw [ms_c1 b2, m4 b b1]
  · have h1 := tN_lt (f := f) (L := L) (a := a) (by rw [k]; decide)
    have h2 := tS_le (f := f) (L := L) (tN f L a)
    have h3 := tS_in (f := f) (tN_in (f := f) ha)
    exact or_rmb o (by omega) (by omega)
theorem ta_20 {v : Nat → Nat → Int32} {g : Nat → Nat → Int64} {f : Nat → Int32} {L a : Nat} {P : Int32 × Int32} {R : Nat → Int32} {low high : Int32} (h : RSv v g f L a P R) (k : ¬ tK f L a = 2) : ∃ x g2, Fx_M_take2X low high v g = (false, x, g2) ∧ x 162 14 = iN (tS f L a) := by
  unfold Fx_M_take2X
  rw [nu_0 h k]
  exact ⟨_, _, rfl, rfl⟩
theorem ta_21 {v : Nat → Nat → Int32} {g : Nat → Nat → Int64} {f : Nat → Int32} {L a : Nat} {P : Int32 × Int32} {R : Nat → Int32} {low high : Int32} (hb : L ≤ 600) (hf : ∀ j, j < L → Bd (-128) 127 (f j)) (ha : a ≤ L) (h : RSv v g f L a P R) (o : OR P (tS f L a)) (k : tK f L a = 2) :
    ∃ x g2, Fx_M_take2X low high v g = (true, x, g2) ∧ RSv x g2 f L (tN f L a) (rmb (okn low high (tV f L a)) 2 (iN (tS f L a)) P) R ∧ x 171 2 = tV f L a ∧ (∀ j, j ≠ 2 → x 171 j = v 171 j) ∧ x 162 18 = (if okn low high (tV f L a) = true then v 162 18 else 0) ∧ (∀ b, b ≠ 162 → b ≠ 171 → x b = v b) ∧ OR (rmb (okn low high (tV f L a)) 2 (iN (tS f L a)) P) (tS f L (tN f L a)) := by
  obtain ⟨x, g2, e, m1, m2, m3, m4⟩ := nu_1 (low := low) (high := high) hb hf ha h o k
  unfold Fx_M_take2X
  rw [e]
  refine ⟨ms x 171 2 (x 162 17), g2, rfl, ?_, ?_, fun j hj => ?_, m3, fun b b1 b2 => ?_, ?_⟩
  · obtain ⟨s1, s2, ⟨u1, u2, u3, u4, u5⟩, s4, s5⟩ := m1
    exact ⟨s1, s2, ⟨u1, u2, u3, u4, u5⟩, s4, s5⟩
  · rw [ms_e1]; exact m2
  · rw [ms_i1 hj, m4 171 (by decide)]
  · rw [ms_c1 b2, m4 b b1]
  · have h1 := tN_lt (f := f) (L := L) (a := a) (by rw [k]; decide)
    have h2 := tS_le (f := f) (L := L) (tN f L a)
    have h3 := tS_in (f := f) (tN_in (f := f) ha)
    exact or_rmb o (by omega) (by omega)
/-- numbers alone: where the first that is none stands -/
def nn (f : Nat → Int32) (L : Nat) : Nat → Nat → Option Nat
  | 0, _ => none
  | r + 1, p => if tK f L p = 2 then nn f L r (tN f L p) else some (tS f L p)
theorem dgv_b {f : Nat → Int32} {L : Nat} : ∀ (k a : Nat) (v : Int32) (hi : Nat), run isD f L a ≤ a + k → Bd 0 hi v → (hi + 1) * 10 ^ k ≤ 100000 → Bd 0 ((hi + 1) * 10 ^ k - 1 : Nat) (dgv f L a v) := by
  intro k
  induction k with
  | zero =>
    intro a v hi h b hh
    have e : ¬ (a < L ∧ isD (f a) = true) := by
      intro q
      rw [run_s q.1 q.2] at h
      have := run_le (p := isD) (f := f) (L := L) (a + 1)
      omega
    rw [dgv_e e]
    exact bd_w b (by omega)
  | succ k ih =>
    intro a v hi h b hh
    by_cases q : a < L ∧ isD (f a) = true
    · rw [dgv_s q.1 q.2]
      rw [run_s q.1 q.2] at h
      have hd : Bd 48 57 (f a) := by
        have q2 := q.2
        unfold isD at q2
        obtain ⟨h1, h2⟩ := (Bool.and_eq_true _ _).mp q2
        have e1 := Int32.le_iff_toInt_le.mp (of_decide_eq_true h1)
        have e2 := Int32.le_iff_toInt_le.mp (of_decide_eq_true h2)
        exact ⟨e1, e2⟩
      have hp : (10 : Nat) ^ 0 ≤ 10 ^ k := Nat.pow_le_pow_right (by decide) (Nat.zero_le k)
      rw [Nat.pow_zero] at hp
      have e10 : (hi + 1) * 10 ^ (k + 1) = ((hi * 10 + 9) + 1) * 10 ^ k := by
        rw [Nat.pow_succ, Nat.mul_comm (10 ^ k) 10, ← Nat.mul_assoc]
        congr 1
        omega
      have h0 : hi * 10 + 10 ≤ 100000 := by
        have h1 : (hi * 10 + 9 + 1) * 1 ≤ (hi * 10 + 9 + 1) * 10 ^ k := Nat.mul_le_mul_left _ hp
        have h2 : (hi * 10 + 9 + 1) * 10 ^ k ≤ 100000 := by rw [← e10]; exact hh
        have h3 := Nat.le_trans h1 h2
        omega
      have b2 : Bd 0 ((hi * 10 + 9 : Nat) : Int) (v * 10 + (f a - 48)) := by
        have d1 : Bd 0 9 (f a - 48) := bd_sub (l := 0) (h := 9) hd (show Bd 48 48 (48 : Int32) by decide) (by decide)
        have d2 : Bd 0 ((hi * 10 : Nat) : Int) (v * 10) := bd_mul (l := 0) (h := ((hi * 10 : Nat) : Int)) b (show Bd 10 10 (10 : Int32) by decide) ⟨by omega, by omega, by omega, by omega, by omega, by omega⟩
        exact bd_add (l := 0) (h := ((hi * 10 + 9 : Nat) : Int)) d2 d1 ⟨by omega, by omega, by omega, by omega⟩
      rw [e10] at hh ⊢
      exact ih (a + 1) _ (hi * 10 + 9) (by omega) b2 hh
    · rw [dgv_e q]
      have hp : (10 : Nat) ^ 0 ≤ 10 ^ (k + 1) := Nat.pow_le_pow_right (by decide) (Nat.zero_le _)
      rw [Nat.pow_zero] at hp
      have := Nat.mul_le_mul_left (hi + 1) hp
      exact bd_w b (by omega)
theorem tV_b {f : Nat → Int32} {L a : Nat} (k : tK f L a = 2) : Bd 0 999 (tV f L a) := by
  have h : run isD f L (tS f L a) ≤ tS f L a + 3 := by
    have hn : ¬ L ≤ tS f L a := fun q => by rw [(tk_0 q).1] at k; exact absurd k (by decide)
    by_cases l : isL (f (tS f L a)) = true
    · rw [(tk_1 hn l).1] at k; exact absurd k (by decide)
    · by_cases d : isD (f (tS f L a)) = true
      · rw [(tk_2 hn l d).1] at k
        by_cases y : 3 < run isD f L (tS f L a) - tS f L a
        · rw [if_pos y] at k; exact absurd k (by decide)
        · omega
      · rw [(tk_3 hn l d).1] at k
        revert k
        split <;> intro k <;> exact absurd k (by decide)
  exact dgv_b 3 (tS f L a) 0 0 h (by decide) (by decide)
