/-! both find the same order -/
/-- a reference's code of an order, a class's code of digits -/
def rcd (c : Nat) (o : Nat → Nat) : Nat := (if 0 < c then o 0 else 0) * 729 + (if 1 < c then o 1 else 0) * 81 + (if 2 < c then o 2 else 0) * 9 + (if 3 < c then o 3 else 0)
def ccd (c : Nat) (d : Nat → Nat) : Nat := (if 0 < c then d 0 * 4 ^ (c - 1) else 0) + (if 1 < c then d 1 * 4 ^ (c - 2) else 0) + (if 2 < c then d 2 * 4 ^ (c - 3) else 0) + (if 3 < c then d 3 * 4 ^ (c - 4) else 0)
theorem rcd_g {c : Nat} {o : Nat → Nat} (c4 : c ≤ 4) (h : ∀ j, j < c → o j < 9) : rcd c o < 6561 ∧ (∀ j, j < c → rg (rcd c o) j = o j) ∧ ∀ j, c ≤ j → j < 4 → rg (rcd c o) j = 0 := by
  have e0 : (if 0 < c then o 0 else 0) < 9 := by split; exact h 0 (by omega); omega
  have e1 : (if 1 < c then o 1 else 0) < 9 := by split; exact h 1 (by omega); omega
  have e2 : (if 2 < c then o 2 else 0) < 9 := by split; exact h 2 (by omega); omega
  have e3 : (if 3 < c then o 3 else 0) < 9 := by split; exact h 3 (by omega); omega
  have r0 : rg (rcd c o) 0 = if 0 < c then o 0 else 0 := by
    show rcd c o / 729 % 9 = _
    unfold rcd
    omega
  have r1 : rg (rcd c o) 1 = if 1 < c then o 1 else 0 := by
    show rcd c o / 81 % 9 = _
    unfold rcd
    omega
  have r2 : rg (rcd c o) 2 = if 2 < c then o 2 else 0 := by
    show rcd c o / 9 % 9 = _
    unfold rcd
    omega
  have r3 : rg (rcd c o) 3 = if 3 < c then o 3 else 0 := by
    show rcd c o / 1 % 9 = _
    unfold rcd
    omega
  refine ⟨by unfold rcd; omega, fun j hj => ?_, fun j h1 h2 => ?_⟩
  · rcases (show j = 0 ∨ j = 1 ∨ j = 2 ∨ j = 3 by omega) with e | e | e | e <;> subst e
    · rw [r0, if_pos hj]
    · rw [r1, if_pos hj]
    · rw [r2, if_pos hj]
    · rw [r3, if_pos hj]
  · rcases (show j = 0 ∨ j = 1 ∨ j = 2 ∨ j = 3 by omega) with e | e | e | e <;> subst e
    · rw [r0, if_neg (by omega)]
    · rw [r1, if_neg (by omega)]
    · rw [r2, if_neg (by omega)]
    · rw [r3, if_neg (by omega)]
theorem ccd_g {c : Nat} {d : Nat → Nat} (c1 : 1 ≤ c) (c4 : c ≤ 4) (h : ∀ j, j < c → d j < 4) : ccd c d < 4 ^ c ∧ ∀ j, j < c → dg c (ccd c d) j = d j := by
  rcases (show c = 1 ∨ c = 2 ∨ c = 3 ∨ c = 4 by omega) with e | e | e | e <;> subst e
  · have h0 := h 0 (by decide)
    have ec : ccd 1 d = d 0 := by
      show d 0 * 1 + 0 + 0 + 0 = _
      omega
    rw [ec]
    refine ⟨by omega, fun j hj => ?_⟩
    have e : j = 0 := by omega
    subst e
    show d 0 / 1 % 4 = d 0
    omega
  · have h0 := h 0 (by decide)
    have h1 := h 1 (by decide)
    have ec : ccd 2 d = d 0 * 4 + d 1 := by
      show d 0 * 4 + d 1 * 1 + 0 + 0 = _
      omega
    rw [ec]
    refine ⟨by omega, fun j hj => ?_⟩
    rcases (show j = 0 ∨ j = 1 by omega) with e | e <;> subst e
    · show (d 0 * 4 + d 1) / 4 % 4 = d 0
      omega
    · show (d 0 * 4 + d 1) / 1 % 4 = d 1
      omega
  · have h0 := h 0 (by decide)
    have h1 := h 1 (by decide)
    have h2 := h 2 (by decide)
    have ec : ccd 3 d = d 0 * 16 + d 1 * 4 + d 2 := by
      show d 0 * 16 + d 1 * 4 + d 2 * 1 + 0 = _
      omega
    rw [ec]
    refine ⟨by omega, fun j hj => ?_⟩
    rcases (show j = 0 ∨ j = 1 ∨ j = 2 by omega) with e | e | e <;> subst e
    · show (d 0 * 16 + d 1 * 4 + d 2) / 16 % 4 = d 0
      omega
    · show (d 0 * 16 + d 1 * 4 + d 2) / 4 % 4 = d 1
      omega
    · show (d 0 * 16 + d 1 * 4 + d 2) / 1 % 4 = d 2
      omega
  · have h0 := h 0 (by decide)
    have h1 := h 1 (by decide)
    have h2 := h 2 (by decide)
    have h3 := h 3 (by decide)
    have ec : ccd 4 d = d 0 * 64 + d 1 * 16 + d 2 * 4 + d 3 := by
      show d 0 * 64 + d 1 * 16 + d 2 * 4 + d 3 * 1 = _
      omega
    rw [ec]
    refine ⟨by omega, fun j hj => ?_⟩
    rcases (show j = 0 ∨ j = 1 ∨ j = 2 ∨ j = 3 by omega) with e | e | e | e <;> subst e
    · show (d 0 * 64 + d 1 * 16 + d 2 * 4 + d 3) / 64 % 4 = d 0
      omega
    · show (d 0 * 64 + d 1 * 16 + d 2 * 4 + d 3) / 16 % 4 = d 1
      omega
    · show (d 0 * 64 + d 1 * 16 + d 2 * 4 + d 3) / 4 % 4 = d 2
      omega
    · show (d 0 * 64 + d 1 * 16 + d 2 * 4 + d 3) / 1 % 4 = d 3
      omega
theorem lex4 {d0 d1 d2 d3 f0 f1 f2 f3 r0 r1 r2 r3 s0 s1 s2 s3 : Nat} (bd1 : d1 < 4) (bd2 : d2 < 4) (bd3 : d3 < 4) (bf1 : f1 < 4) (bf2 : f2 < 4) (bf3 : f3 < 4) (br1 : r1 < 9) (br2 : r2 < 9) (br3 : r3 < 9) (h0 : (d0 < f0 → r0 < s0) ∧ (d0 = f0 → r0 = s0)) (h1 : (d1 < f1 → r1 < s1) ∧ (d1 = f1 → r1 = s1)) (h2 : (d2 < f2 → r2 < s2) ∧ (d2 = f2 → r2 = s2)) (h3 : (d3 < f3 → r3 < s3) ∧ (d3 = f3 → r3 = s3)) (l : d0 * 64 + d1 * 16 + d2 * 4 + d3 < f0 * 64 + f1 * 16 + f2 * 4 + f3) : r0 * 729 + r1 * 81 + r2 * 9 + r3 < s0 * 729 + s1 * 81 + s2 * 9 + s3 := by
  rcases Nat.lt_trichotomy d0 f0 with q | q | q
  · have k := h0.1 q
    clear h0 h1 h2 h3 l
    omega
  · have k := h0.2 q
    clear h0
    rcases Nat.lt_trichotomy d1 f1 with q1 | q1 | q1
    · have k1 := h1.1 q1
      clear h1 h2 h3 l
      omega
    · have k1 := h1.2 q1
      clear h1
      rcases Nat.lt_trichotomy d2 f2 with q2 | q2 | q2
      · have k2 := h2.1 q2
        clear h2 h3 l
        omega
      · have k2 := h2.2 q2
        clear h2
        rcases Nat.lt_trichotomy d3 f3 with q3 | q3 | q3
        · have k3 := h3.1 q3
          clear h3 l
          omega
        · omega
        · clear h3
          omega
      · clear h2 h3
        omega
    · clear h1 h2 h3
      omega
  · clear h0 h1 h2 h3
    omega
theorem rg_s {R : Nat} (h : R < 6561) : rg R 0 * 729 + rg R 1 * 81 + rg R 2 * 9 + rg R 3 = R := by
  show R / 729 % 9 * 729 + R / 81 % 9 * 81 + R / 9 % 9 * 9 + R / 1 % 9 = R
  omega
theorem nil4 {r s : Nat} (h : r = 0) (h' : s = 0) : (0 < 0 → r < s) ∧ (0 = 0 → r = s) := ⟨fun z => absurd z (Nat.lt_irrefl 0), fun _ => h.trans h'.symm⟩
/-- codes rise alike: C by digits of c places -/
theorem rise {c C C' R R' : Nat} (c1 : 1 ≤ c) (c4 : c ≤ 4) (hC : C < 4 ^ c) (hC' : C' < 4 ^ c) (hR : R < 6561) (hR' : R' < 6561) (z : ∀ j, c ≤ j → j < 4 → rg R j = 0) (z' : ∀ j, c ≤ j → j < 4 → rg R' j = 0) (h : ∀ j, j < c → (dg c C j < dg c C' j → rg R j < rg R' j) ∧ (dg c C j = dg c C' j → rg R j = rg R' j)) (l : C < C') : R < R' := by
  rw [← rg_s hR, ← rg_s hR']
  rcases (show c = 1 ∨ c = 2 ∨ c = 3 ∨ c = 4 by omega) with e | e | e | e <;> subst e
  · have e1 : dg 1 C 0 = C := by show C / 1 % 4 = C; omega
    have e2 : dg 1 C' 0 = C' := by show C' / 1 % 4 = C'; omega
    exact lex4 (d0 := dg 1 C 0) (f0 := dg 1 C' 0) (d1 := 0) (d2 := 0) (d3 := 0) (f1 := 0) (f2 := 0) (f3 := 0) (by decide) (by decide) (by decide) (by decide) (by decide) (by decide) rg_9 rg_9 rg_9 (h 0 (by decide)) (nil4 (z 1 (by decide) (by decide)) (z' 1 (by decide) (by decide))) (nil4 (z 2 (by decide) (by decide)) (z' 2 (by decide) (by decide))) (nil4 (z 3 (by decide) (by decide)) (z' 3 (by decide) (by decide))) (by rw [e1, e2]; omega)
  · have e1 : dg 2 C 0 * 4 + dg 2 C 1 = C := by show C / 4 % 4 * 4 + C / 1 % 4 = C; omega
    have e2 : dg 2 C' 0 * 4 + dg 2 C' 1 = C' := by show C' / 4 % 4 * 4 + C' / 1 % 4 = C'; omega
    exact lex4 (d0 := dg 2 C 0) (f0 := dg 2 C' 0) (d1 := dg 2 C 1) (f1 := dg 2 C' 1) (d2 := 0) (d3 := 0) (f2 := 0) (f3 := 0) dg_4 (by decide) (by decide) dg_4 (by decide) (by decide) rg_9 rg_9 rg_9 (h 0 (by decide)) (h 1 (by decide)) (nil4 (z 2 (by decide) (by decide)) (z' 2 (by decide) (by decide))) (nil4 (z 3 (by decide) (by decide)) (z' 3 (by decide) (by decide))) (by omega)
  · have e1 : dg 3 C 0 * 16 + dg 3 C 1 * 4 + dg 3 C 2 = C := by show C / 16 % 4 * 16 + C / 4 % 4 * 4 + C / 1 % 4 = C; omega
    have e2 : dg 3 C' 0 * 16 + dg 3 C' 1 * 4 + dg 3 C' 2 = C' := by show C' / 16 % 4 * 16 + C' / 4 % 4 * 4 + C' / 1 % 4 = C'; omega
    exact lex4 (d0 := dg 3 C 0) (f0 := dg 3 C' 0) (d1 := dg 3 C 1) (f1 := dg 3 C' 1) (d2 := dg 3 C 2) (f2 := dg 3 C' 2) (d3 := 0) (f3 := 0) dg_4 dg_4 (by decide) dg_4 dg_4 (by decide) rg_9 rg_9 rg_9 (h 0 (by decide)) (h 1 (by decide)) (h 2 (by decide)) (nil4 (z 3 (by decide) (by decide)) (z' 3 (by decide) (by decide))) (by omega)
  · have e1 : dg 4 C 0 * 64 + dg 4 C 1 * 16 + dg 4 C 2 * 4 + dg 4 C 3 = C := by show C / 64 % 4 * 64 + C / 16 % 4 * 16 + C / 4 % 4 * 4 + C / 1 % 4 = C; omega
    have e2 : dg 4 C' 0 * 64 + dg 4 C' 1 * 16 + dg 4 C' 2 * 4 + dg 4 C' 3 = C' := by show C' / 64 % 4 * 64 + C' / 16 % 4 * 16 + C' / 4 % 4 * 4 + C' / 1 % 4 = C'; omega
    exact lex4 dg_4 dg_4 dg_4 dg_4 dg_4 dg_4 rg_9 rg_9 rg_9 (h 0 (by decide)) (h 1 (by decide)) (h 2 (by decide)) (h 3 (by decide)) (by rw [e1, e2]; exact l)
theorem mav_c {A : Nat → Nat → Int32} {n : Nat} {o o' : Nat → Nat} : ∀ c, (∀ j, j < c → o j = o' j) → MAV A n o c = MAV A n o' c ∧ PS o c = PS o' c := by
  intro c
  induction c with
  | zero => intro _; exact ⟨rfl, rfl⟩
  | succ c ih =>
    intro h
    obtain ⟨i1, i2⟩ := ih (fun j hj => h j (by omega))
    have e : PS o (c + 1) = PS o' (c + 1) := by
      show PS o c ||| 2 ^ o c = PS o' c ||| 2 ^ o' c
      rw [i2, h c (by omega)]
    refine ⟨?_, e⟩
    show MAV A n o c + DM A n (PS o (c + 1)) = MAV A n o' c + DM A n (PS o' (c + 1))
    rw [i1, e]
/-- the class's code's order as the reference's code -/
theorem to_R {n P c C : Nat} (hP : P < 2 ^ n) (n9 : n ≤ 9) (hc : pcn P n = c) (c4 : c ≤ 4) (v : VC c C) : ∃ R, R < 6561 ∧ VR P c R ∧ ∀ j, j < c → rg R j = tf P n (dg c C j) := by
  have hd := vc_d v
  obtain ⟨r1, r2, r3⟩ := rcd_g (c := c) (o := fun i => tf P n (dg c C i)) c4 (fun j hj => by have := (tf_1 (P := P) n (dg c C j) (by rw [hc]; exact hd j hj)).1; omega)
  refine ⟨_, r1, ⟨r3, ?_⟩, r2⟩
  rw [(mav_c (A := fun _ _ => 0) (n := n) c r2).2]
  refine nat_x (fun i => ?_)
  rw [PS_b]
  refine ⟨fun ⟨j, j1, j2⟩ => ?_, fun hi => ?_⟩
  · rw [← j2]
    exact (tf_1 n (dg c C j) (by rw [hc]; exact hd j j1)).2
  · have hn : i < n := by
      by_cases z : i < n
      · exact z
      · rw [Nat.testBit_lt_two_pow (Nat.lt_of_lt_of_le hP (Nat.pow_le_pow_right (by decide) (by omega)))] at hi
        exact absurd hi Bool.false_ne_true
    obtain ⟨k, k1, k2⟩ := tf_2 n i hn hi
    have b : (PS (dg c C) c).testBit k = true := by
      rw [show PS (dg c C) c = 2 ^ c - 1 from v, Nat.testBit_two_pow_sub_one]
      exact decide_eq_true (by omega)
    obtain ⟨j, j1, j2⟩ := (PS_b c k).mp b
    exact ⟨j, j1, by show tf P n (dg c C j) = i; rw [j2]; exact k2⟩
/-- the reference's code's order as the class's code -/
theorem to_C {n P c R : Nat} (hP : P < 2 ^ n) (n9 : n ≤ 9) (hc : pcn P n = c) (c1 : 1 ≤ c) (c4 : c ≤ 4) (v : VR P c R) : ∃ C, C < 4 ^ c ∧ VC c C ∧ ∀ j, j < c → rg R j = tf P n (dg c C j) := by
  have hn := vr_n v hP
  have ex : ∀ j, ∃ i, j < c → i < c ∧ tf P n i = rg R j := fun j => by
    by_cases hj : j < c
    · have b : P.testBit (rg R j) = true := by
        have b := (PS_b (o := rg R) c (rg R j)).mpr ⟨j, hj, rfl⟩
        rw [v.2] at b
        exact b
      obtain ⟨i, i1, i2⟩ := tf_2 n (rg R j) (hn j hj) b
      exact ⟨i, fun _ => ⟨by omega, i2⟩⟩
    · exact ⟨0, fun z => absurd z hj⟩
  obtain ⟨d, hd⟩ := Classical.skolem.mp ex
  obtain ⟨q1, q2⟩ := ccd_g (c := c) (d := d) c1 c4 (fun j hj => by have := (hd j hj).1; omega)
  refine ⟨_, q1, ?_, fun j hj => by rw [q2 j hj]; exact (hd j hj).2.symm⟩
  unfold VC
  rw [(mav_c (A := fun _ _ => 0) (n := n) c q2).2]
  refine nat_x (fun i => ?_)
  rw [PS_b, Nat.testBit_two_pow_sub_one]
  refine ⟨fun ⟨j, j1, j2⟩ => decide_eq_true (by have := (hd j j1).1; omega), fun hi => ?_⟩
  have ic := of_decide_eq_true hi
  obtain ⟨t1, t2⟩ := tf_1 (P := P) n i (by omega)
  have t3 : (PS (rg R) c).testBit (tf P n i) = true := by rw [v.2]; exact t2
  obtain ⟨j, j1, j2⟩ := (PS_b c _).mp t3
  refine ⟨j, j1, ?_⟩
  have k := (hd j j1).2
  have kc := (hd j j1).1
  by_cases w : d j < i
  · have := tf_3 (P := P) n (d j) i w (by omega)
    omega
  · by_cases w2 : i < d j
    · have := tf_3 (P := P) n i (d j) w2 (by omega)
      omega
    · omega
theorem ord_eq {A : Nat → Nat → Int32} {n P c b r : Nat} (hP : P < 2 ^ n) (n9 : n ≤ 9) (hc : pcn P n = c) (c1 : 1 ≤ c) (c4 : c ≤ 4) (hb : BST (VC c) (MCV A n P c) (4 ^ c) b) (hr : BST (VR P c) (MRV A n c) 6561 r) : MCV A n P c b = MRV A n c r ∧ ∀ j, j < c → rg r j = tf P n (dg c b j) := by
  obtain ⟨b1, b2, b3⟩ := hb
  obtain ⟨r1, r2, r3⟩ := hr
  obtain ⟨R, R1, R2, R3⟩ := to_R hP n9 hc c4 b2
  obtain ⟨C, C1, C2, C3⟩ := to_C hP n9 hc c1 c4 r2
  have eR : MRV A n c R = MCV A n P c b := (mav_c c R3).1
  have eC : MRV A n c r = MCV A n P c C := (mav_c c C3).1
  have l1 := (b3 C C1 C2).1
  have l2 := (r3 R R1 R2).1
  rw [eR, eC] at l2
  have k1 := Int64.le_iff_toInt_le.mp l1
  have k2 := Int64.le_iff_toInt_le.mp l2
  have em : MCV A n P c b = MCV A n P c C := Int64.toInt_inj.mp (by omega)
  have hv : ∀ C', VC c C' → ∀ j, j < c → dg c C' j < c := fun C' h => vc_d h
  have ri : ∀ D D', VC c D → VC c D' → ∀ j, j < c → (dg c D j < dg c D' j → tf P n (dg c D j) < tf P n (dg c D' j)) ∧ (dg c D j = dg c D' j → tf P n (dg c D j) = tf P n (dg c D' j)) := fun D D' h h' j hj => ⟨fun z => tf_3 n _ _ z (by rw [hc]; exact vc_d h' j hj), fun z => by rw [z]⟩
  have eb : b = C := by
    by_cases w : C < b
    · have k := Int64.lt_iff_toInt_lt.mp ((b3 C C1 C2).2 w)
      omega
    · by_cases w2 : b < C
      · have l : R < r := rise c1 c4 b1 C1 R1 r1 R2.1 r2.1 (fun j hj => by rw [R3 j hj, C3 j hj]; exact ri b C b2 C2 j hj) w2
        have k := (r3 R R1 R2).2 l
        rw [eR, eC] at k
        have k3 := Int64.lt_iff_toInt_lt.mp k
        omega
      · omega
  subst eb
  exact ⟨eC.symm, C3⟩
