/-! a hill that was told is in order -/
def cLo (c : Nat) : Int := if c = 8 ∨ c = 9 ∨ c = 12 then -1 else 0
def cHi (c : Nat) : Int := ([24, 24, 9, 24, 10, 999, 3, 99, 8, 8, 10, 99, 99, 10, 10, 1] : List Int).getD c 0
/-- a pond's way down -/
def LK (n p : Nat) (d : Int32) : Prop := d = -1 ∨ ∃ q, p < q ∧ q < n ∧ d = iN q
/-- pond p of n in row f -/
def PW (n p : Nat) (f : Nat → Int32) : Prop := (∀ c, c < 16 → Bd (cLo c) (cHi c) (f (13 + 16 * p + c))) ∧ LK n p (f (13 + 16 * p + 8)) ∧ LK n p (f (13 + 16 * p + 9))
/-- rain i -/
def RW (f : Nat → Int32) (i : Nat) : Prop := Bd 0 9 (f (5 + 2 * i)) ∧ Bd 0 100 (f (6 + 2 * i))
def HWp (f : Nat → Int32) : Prop := ∃ n m, n ≤ 9 ∧ m ≤ 4 ∧ f 0 = iN n ∧ f 1 = iN m ∧ (∀ i, i < m → RW f i) ∧ (∀ i, i < 3 → Bd 0 99 (f (2 + i))) ∧ ∀ p, p < n → PW n p f
def HWF (f : Nat → Int32) : Prop := HWp f ∧ Bd 1 4 (f 1) ∧ sm f = 100
theorem lk_s {n p : Nat} {d : Int32} (h : LK n p d) : LK (n + 1) p d := by
  rcases h with h | ⟨q, h1, h2, h3⟩
  · exact Or.inl h
  · exact Or.inr ⟨q, h1, by omega, h3⟩
theorem pw_u {n p q c : Nat} {z : Int32} {R : Nat → Int32} (h : PW n p R) (b : Bd (cLo c) (cHi c) z) (l : c = 8 ∨ c = 9 → LK n q z) (hc : c < 16) : PW n p (upd R (13 + 16 * q + c) z) := by
  obtain ⟨h1, h2, h3⟩ := h
  have e : ∀ d, d < 16 → (p = q ∧ d = c ∧ upd R (13 + 16 * q + c) z (13 + 16 * p + d) = z) ∨ upd R (13 + 16 * q + c) z (13 + 16 * p + d) = R (13 + 16 * p + d) := by
    intro d hd
    unfold upd
    by_cases y : 13 + 16 * p + d = 13 + 16 * q + c
    · exact Or.inl ⟨by omega, by omega, if_pos y⟩
    · exact Or.inr (if_neg y)
  refine ⟨fun d hd => ?_, ?_, ?_⟩
  · rcases e d hd with ⟨e1, e2, e3⟩ | e3
    · rw [e3, e2]; exact b
    · rw [e3]; exact h1 d hd
  · rcases e 8 (by decide) with ⟨e1, e2, e3⟩ | e3
    · rw [e3, e1]; exact l (Or.inl e2.symm)
    · rw [e3]; exact h2
  · rcases e 9 (by decide) with ⟨e1, e2, e3⟩ | e3
    · rw [e3, e1]; exact l (Or.inr e2.symm)
    · rw [e3]; exact h3
theorem hwp_u {q c : Nat} {z : Int32} {R : Nat → Int32} (h : HWp R) (hc : c < 16) (b : Bd (cLo c) (cHi c) z) (l : ∀ n, n ≤ 9 → R 0 = iN n → c = 8 ∨ c = 9 → LK n q z) : HWp (upd R (13 + 16 * q + c) z) := by
  obtain ⟨n, m, n9, m4, e0, e1, hr, hd, hp⟩ := h
  have u : ∀ j, j < 13 → upd R (13 + 16 * q + c) z j = R j := fun j hj => if_neg (by omega)
  refine ⟨n, m, n9, m4, (u 0 (by decide)).trans e0, (u 1 (by decide)).trans e1, fun i hi => ?_, fun i hi => by rw [u _ (by omega)]; exact hd i hi, fun p hp' => pw_u (hp p hp') b (l n n9 e0) hc⟩
  unfold RW
  rw [u _ (by omega), u _ (by omega)]
  exact hr i hi
theorem nb_b {f : Nat → Int32} {L : Nat} : ∀ (r p : Nat), nb f L r p = none → ∀ j, j < r → Bd 0 999 (vv f L p j) := by
  intro r
  induction r with
  | zero => intro p h j hj; omega
  | succ r ih =>
    intro p h j hj
    by_cases z : tK f L p = 2
    · have h2 : nb f L r (tN f L p) = none := by
        have e : nb f L (r + 1) p = nb f L r (tN f L p) := if_pos z
        rw [← e]; exact h
      cases j with
      | zero => exact tV_b z
      | succ j => exact ih (tN f L p) h2 j (by omega)
    · have e : nb f L (r + 1) p = some (tS f L p) := if_neg z
      rw [e] at h
      cases h
theorem cHi_0 : ∀ c, c < 16 → 0 ≤ cHi c := by decide +kernel
theorem col_b : ∀ w, w < 11 → 3 ≤ w → ((sAr 2).getD (3 * w + 1) 0).toInt ≤ cHi (hcol w) ∧ hcol w < 16 ∧ cLo (hcol w) ≤ 0 ∧ hcol w ≠ 8 ∧ hcol w ≠ 9 := by decide +kernel
theorem day_b : ∀ w, w < 15 → 11 < w → ((sAr 2).getD (3 * w + 0) 0).toInt = 99 ∧ 1 ≤ cnt w := by decide +kernel
theorem cnt_2 : ∀ w, w < 11 → 1 ≤ w → 2 ≤ cnt w := by decide +kernel
theorem chk_1 {w i : Nat} {n v0 v : Int32} (h : chk w i n v0 v = true) : v.toInt ≤ ((sAr 2).getD (3 * w + i) 0).toInt := Int32.le_iff_toInt_le.mp (of_decide_eq_true ((Bool.and_eq_true _ _).mp h).1)
theorem chk_2 {w i : Nat} {n v0 v : Int32} (h : chk w i n v0 v = true) : (if w = 0 then decide (¬ i = 1 ∨ v ≤ v0) else if 10 < w then true else if i = 0 then decide (v < n) else decide (1 < i ∨ 2 < w ∨ (v0 < v ∧ v < n))) = true := ((Bool.and_eq_true _ _).mp h).2
theorem lk_of {n : Nat} {v0 v1 : Int32} (b0 : Bd 0 999 v0) (b1 : Bd 0 999 v1) (h1 : v0 < v1) (h2 : v1 < iN n) (hn : n ≤ 9) : LK n v0.toInt.toNat v1 := by
  have q1 := Int32.lt_iff_toInt_lt.mp h1
  have q2 := Int32.lt_iff_toInt_lt.mp h2
  rw [iN_ti (by omega)] at q2
  exact Or.inr ⟨v1.toInt.toNat, by have := b0.1; omega, by have := b1.1; omega, iN_of b1 (by decide)⟩
/-- a pond more -/
theorem hw_r0 {R V : Nat → Int32} (h : HWp R) (b : ∀ j, j < 3 → Bd 0 999 (V j)) (hf : fl 0 (R 0) (R 1) = false) (k : ∀ j, j < 3 → chk 0 j (R 0) (V 0) (V j) = true) {gd : Bool} : HWp (rowH 0 R (V 0) (V 1) (V 2) gd) := by
  obtain ⟨n, m, n9, m4, e0, e1, hr, hd, hp⟩ := h
  have n8 : n < 9 := by
    have q : ¬ (0 = 0 ∧ (9 : Int32) ≤ R 0 ∨ 0 = 11 ∧ (4 : Int32) ≤ R 1) := of_decide_eq_false hf
    by_cases y : n < 9
    · exact y
    · exfalso
      refine q (Or.inl ⟨rfl, ?_⟩)
      rw [e0]
      exact (iN_le (a := 9) (by omega) (by omega)).mpr (by omega)
  have en : (R 0).toInt.toNat = n := by rw [e0, iN_ti (by omega)]; omega
  have k0 : (V 0).toInt ≤ 24 := chk_1 (k 0 (by decide))
  have k1 : (V 1).toInt ≤ 24 := chk_1 (k 1 (by decide))
  have k2 : (V 2).toInt ≤ 9 := chk_1 (k 2 (by decide))
  have hpc : ∀ c, c < 16 → Bd (cLo c) (cHi c) (pc (V 0) (V 1) (V 2) c) := by
    intro c hc
    by_cases y0 : c = 0
    · rw [y0]; exact (show Bd 0 24 (V 0) from ⟨(b 0 (by decide)).1, k0⟩)
    by_cases y1 : c = 1
    · rw [y1]; exact (show Bd 0 24 (V 1) from ⟨(b 1 (by decide)).1, k1⟩)
    by_cases y2 : c = 2
    · rw [y2]; exact (show Bd 0 9 (V 2) from ⟨(b 2 (by decide)).1, k2⟩)
    unfold pc
    rw [if_neg y0, if_neg y1, if_neg y2]
    have c0 := cHi_0 c hc
    by_cases y : c = 8 ∨ c = 9 ∨ c = 12
    · rw [if_pos y]
      unfold cLo
      rw [if_pos y]
      have e : (-1 : Int32).toInt = -1 := rfl
      exact ⟨by omega, by omega⟩
    · rw [if_neg y]
      unfold cLo
      rw [if_neg y]
      have e : (0 : Int32).toInt = 0 := rfl
      exact ⟨by omega, by omega⟩
  unfold rowH
  rw [if_pos rfl, en, if_pos (show R 0 < 9 by rw [e0]; exact (iN_lt (b := 9) (by omega) (by omega)).mpr n8)]
  have lo : ∀ j, 1 ≤ j → j < 13 → upd (fun j => if 13 + 16 * n ≤ j ∧ j < 29 + 16 * n then pc (V 0) (V 1) (V 2) (j - (13 + 16 * n)) else R j) 0 (R 0 + 1) j = R j := by
    intro j j1 j2
    unfold upd
    rw [if_neg (by omega)]
    dsimp only
    rw [if_neg (by omega)]
  have pn : ∀ c, c < 16 → upd (fun j => if 13 + 16 * n ≤ j ∧ j < 29 + 16 * n then pc (V 0) (V 1) (V 2) (j - (13 + 16 * n)) else R j) 0 (R 0 + 1) (13 + 16 * n + c) = pc (V 0) (V 1) (V 2) c := by
    intro c hc
    unfold upd
    rw [if_neg (by omega)]
    dsimp only
    rw [if_pos (by omega), Nat.add_sub_cancel_left]
  have po : ∀ p c, p < n → c < 16 → upd (fun j => if 13 + 16 * n ≤ j ∧ j < 29 + 16 * n then pc (V 0) (V 1) (V 2) (j - (13 + 16 * n)) else R j) 0 (R 0 + 1) (13 + 16 * p + c) = R (13 + 16 * p + c) := by
    intro p c hp' hc
    unfold upd
    rw [if_neg (by omega)]
    dsimp only
    rw [if_neg (by omega)]
  refine ⟨n + 1, m, by omega, m4, ?_, (lo 1 (by decide) (by decide)).trans e1, fun i hi => ?_, fun i hi => ?_, fun p hp' => ?_⟩
  · rw [← iN_s, ← e0]; exact if_pos rfl
  · unfold RW
    rw [lo _ (by omega) (by omega), lo _ (by omega) (by omega)]
    exact hr i hi
  · rw [lo _ (by omega) (by omega)]
    exact hd i hi
  · by_cases y : p = n
    · subst y
      refine ⟨fun c hc => ?_, ?_, ?_⟩
      · rw [pn c hc]; exact hpc c hc
      · rw [pn 8 (by decide)]; exact Or.inl rfl
      · rw [pn 9 (by decide)]; exact Or.inl rfl
    · obtain ⟨p1, p2, p3⟩ := hp p (by omega)
      refine ⟨fun c hc => ?_, ?_, ?_⟩
      · rw [po p c (by omega) hc]; exact p1 c hc
      · rw [po p 8 (by omega) (by decide)]; exact lk_s p2
      · rw [po p 9 (by omega) (by decide)]; exact lk_s p3
/-- a rain more -/
theorem hw_r11 {R V : Nat → Int32} (h : HWp R) (b : ∀ j, j < 2 → Bd 0 999 (V j)) (hf : fl 11 (R 0) (R 1) = false) (k : ∀ j, j < 2 → chk 11 j (R 0) (V 0) (V j) = true) {gd : Bool} : HWp (rowH 11 R (V 0) (V 1) (V 2) gd) := by
  obtain ⟨n, m, n9, m4, e0, e1, hr, hd, hp⟩ := h
  have m3 : m < 4 := by
    have q : ¬ (11 = 0 ∧ (9 : Int32) ≤ R 0 ∨ 11 = 11 ∧ (4 : Int32) ≤ R 1) := of_decide_eq_false hf
    by_cases y : m < 4
    · exact y
    · exfalso
      refine q (Or.inr ⟨rfl, ?_⟩)
      rw [e1]
      exact (iN_le (a := 4) (by omega) (by omega)).mpr (by omega)
  have em : (R 1).toInt.toNat = m := by rw [e1, iN_ti (by omega)]; omega
  have k0 : (V 0).toInt ≤ 9 := chk_1 (k 0 (by decide))
  have k1 : (V 1).toInt ≤ 100 := chk_1 (k 1 (by decide))
  unfold rowH
  rw [if_neg (by decide), if_pos rfl, em, if_pos (show R 1 < 4 by rw [e1]; exact (iN_lt (b := 4) (by omega) (by omega)).mpr m3)]
  have o : ∀ j, j ≠ 1 → j ≠ 5 + 2 * m → j ≠ 6 + 2 * m → upd (upd (upd R (5 + 2 * m) (V 0)) (6 + 2 * m) (V 1)) 1 (R 1 + 1) j = R j := by
    intro j j1 j2 j3
    unfold upd
    rw [if_neg j1, if_neg j3, if_neg j2]
  refine ⟨n, m + 1, n9, by omega, (o 0 (by decide) (by omega) (by omega)).trans e0, ?_, fun i hi => ?_, fun i hi => ?_, fun p hp' => ?_⟩
  · rw [← iN_s, ← e1]; exact if_pos rfl
  · by_cases y : i = m
    · subst y
      have a1 : upd (upd (upd R (5 + 2 * i) (V 0)) (6 + 2 * i) (V 1)) 1 (R 1 + 1) (5 + 2 * i) = V 0 := by
        unfold upd
        rw [if_neg (by omega), if_neg (by omega), if_pos rfl]
      have a2 : upd (upd (upd R (5 + 2 * i) (V 0)) (6 + 2 * i) (V 1)) 1 (R 1 + 1) (6 + 2 * i) = V 1 := by
        unfold upd
        rw [if_neg (by omega), if_pos rfl]
      unfold RW
      rw [a1, a2]
      exact ⟨⟨(b 0 (by decide)).1, k0⟩, ⟨(b 1 (by decide)).1, k1⟩⟩
    · unfold RW
      rw [o _ (by omega) (by omega) (by omega), o _ (by omega) (by omega) (by omega)]
      exact hr i (by omega)
  · rw [o _ (by omega) (by omega) (by omega)]
    exact hd i hi
  · obtain ⟨p1, p2, p3⟩ := hp p hp'
    refine ⟨fun c hc => ?_, ?_, ?_⟩
    · rw [o _ (by omega) (by omega) (by omega)]; exact p1 c hc
    · rw [o _ (by omega) (by omega) (by omega)]; exact p2
    · rw [o _ (by omega) (by omega) (by omega)]; exact p3
/-- days -/
theorem hw_d {R : Nat → Int32} {i : Nat} {z : Int32} (h : HWp R) (hi : i < 3) (b : Bd 0 99 z) : HWp (upd R (2 + i) z) := by
  obtain ⟨n, m, n9, m4, e0, e1, hr, hd, hp⟩ := h
  have o : ∀ j, j ≠ 2 + i → upd R (2 + i) z j = R j := fun j hj => if_neg hj
  refine ⟨n, m, n9, m4, (o 0 (by omega)).trans e0, (o 1 (by omega)).trans e1, fun r hr' => ?_, fun r hr' => ?_, fun p hp' => ?_⟩
  · unfold RW
    rw [o _ (by omega), o _ (by omega)]
    exact hr r hr'
  · by_cases y : r = i
    · subst y
      rw [show upd R (2 + r) z (2 + r) = z from if_pos rfl]
      exact b
    · rw [o _ (by omega)]
      exact hd r hr'
  · obtain ⟨p1, p2, p3⟩ := hp p hp'
    refine ⟨fun c hc => ?_, ?_, ?_⟩
    · rw [o _ (by omega)]; exact p1 c hc
    · rw [o _ (by omega)]; exact p2
    · rw [o _ (by omega)]; exact p3
theorem hw_row {R V : Nat → Int32} {w : Nat} (h : HWp R) (hw : w < 15) (b : ∀ j, j < cnt w → Bd 0 999 (V j)) (hf : fl w (R 0) (R 1) = false) (k : ∀ j, j < cnt w → chk w j (R 0) (V 0) (V j) = true) : HWp (rowH w R (V 0) (V 1) (V 2) (gdH w (R 0) (V 0) (V 1) (V 2))) := by
  by_cases w0 : w = 0
  · subst w0; exact hw_r0 h b hf k
  by_cases w11 : w = 11
  · subst w11; exact hw_r11 h b hf k
  by_cases wd : 11 < w
  · obtain ⟨d1, d2⟩ := day_b w hw wd
    have k0 := chk_1 (k 0 (by omega))
    rw [d1] at k0
    unfold rowH
    rw [if_neg w0, if_neg w11, if_pos wd, show w - 10 = 2 + (w - 12) by omega]
    exact hw_d h (by omega) ⟨(b 0 (by omega)).1, k0⟩
  have c2 := cnt_2 w (by omega) (by omega)
  have hg : gdH w (R 0) (V 0) (V 1) (V 2) = true := gd_c (by omega) (by omega) (fun j hj => by
    have h3 : cnt w ≤ 3 := (cnt_b w hw).2.1
    rcases (show j = 0 ∨ j = 1 ∨ j = 2 by omega) with y | y | y <;> subst y
    · exact k 0 hj
    · exact k 1 hj
    · exact k 2 hj)
  have b0 := b 0 (by omega)
  have b1 := b 1 (by omega)
  have k1 := chk_1 (k 1 (by omega))
  have s1 := chk_2 (k 1 (by omega))
  rw [if_neg w0, if_neg (show ¬ 10 < w by omega), if_neg (by decide)] at s1
  have s2 := of_decide_eq_true s1
  unfold rowH
  rw [if_neg w0, if_neg w11, if_neg wd, if_pos hg]
  by_cases w1 : w = 1
  · subst w1
    have s3 : V 0 < V 1 ∧ V 1 < R 0 := by
      rcases s2 with y | y | y
      · exact absurd y (by decide)
      · exact absurd y (by decide)
      · exact y
    rw [if_neg (by decide)]
    refine hwp_u (c := 8) h (by decide) (show Bd (-1) 8 (V 1) from ⟨by have := b1.1; omega, k1⟩) (fun n n9 e0 _ => ?_)
    rw [e0] at s3
    exact lk_of b0 b1 s3.1 s3.2 n9
  by_cases w2 : w = 2
  · subst w2
    have s3 : V 0 < V 1 ∧ V 1 < R 0 := by
      rcases s2 with y | y | y
      · exact absurd y (by decide)
      · exact absurd y (by decide)
      · exact y
    have k2 : (V 2).toInt ≤ 10 := chk_1 (k 2 (by decide))
    rw [if_pos (by decide)]
    have h1 : HWp (upd R (13 + 16 * (V 0).toInt.toNat + 9) (V 1)) := by
      refine hwp_u (c := 9) h (by decide) (show Bd (-1) 8 (V 1) from ⟨by have := b1.1; omega, k1⟩) (fun n n9 e0 _ => ?_)
      rw [e0] at s3
      exact lk_of b0 b1 s3.1 s3.2 n9
    have h2 := hwp_u (q := (V 0).toInt.toNat) (c := 10) (z := V 2) h1 (by decide) (show Bd 0 10 (V 2) from ⟨(b 2 (by decide)).1, k2⟩) (fun n n9 e0 y => by omega)
    rw [show 13 + 16 * (V 0).toInt.toNat + hcol 2 = 13 + 16 * (V 0).toInt.toNat + 9 from rfl, show 14 + 16 * (V 0).toInt.toNat + hcol 2 = 13 + 16 * (V 0).toInt.toNat + 10 by show 14 + 16 * (V 0).toInt.toNat + 9 = _; omega]
    exact h2
  obtain ⟨d1, d2, d3, d4, d5⟩ := col_b w (by omega) (by omega)
  have h1 : HWp (upd R (13 + 16 * (V 0).toInt.toNat + hcol w) (V 1)) := hwp_u h d2 ⟨by have := b1.1; omega, by omega⟩ (fun n n9 e0 y => by omega)
  by_cases w10 : w = 10
  · subst w10
    have k2 : (V 2).toInt ≤ 10 := chk_1 (k 2 (by decide))
    rw [if_pos (by decide)]
    have h2 := hwp_u (q := (V 0).toInt.toNat) (c := 14) (z := V 2) h1 (by decide) (show Bd 0 10 (V 2) from ⟨(b 2 (by decide)).1, k2⟩) (fun n n9 e0 y => by omega)
    rw [show 14 + 16 * (V 0).toInt.toNat + hcol 10 = 13 + 16 * (V 0).toInt.toNat + 14 by show 14 + 16 * (V 0).toInt.toNat + 13 = _; omega]
    exact h2
  · rw [if_neg (by omega)]
    exact h1
theorem ln_z {f : Nat → Int32} {L a w : Nat} {P : Int32 × Int32} {R : Nat → Int32} (hz : (lnP w f L a R P).1 = 0) : P.1 = 0 ∧ fl w (R 0) (R 1) = false ∧ ∀ j, j < cnt w → chk w j (R 0) (vv f L (tN f L a) 0) (vv f L (tN f L a) j) = true := by
  obtain ⟨z1, z2⟩ := fo_z (cnt w) 0 _ (by omega) hz
  obtain ⟨z3, z4⟩ := rmb_z (by decide) z1
  refine ⟨z4, ?_, fun j hj => z2 j (Nat.zero_le _) hj⟩
  cases h : fl w (R 0) (R 1) with
  | false => rfl
  | true => rw [h] at z3; exact absurd z3 (by decide)
theorem hr_z {f : Nat → Int32} {L : Nat} : ∀ (n a : Nat) (P : Int32 × Int32) (R : Nat → Int32), (HR f L n a P R).2.1.1 = 0 → P.1 = 0 := by
  intro n
  induction n with
  | zero => intro a P R h; exact h
  | succ n ih =>
    intro a P R h
    unfold HR at h
    split at h
    · exact h
    · split at h
      · exact h
      · split at h
        · exact h
        · exact (ln_z (ih _ _ _ h)).1
theorem hw_HR {f : Nat → Int32} {L : Nat} : ∀ (n a : Nat) (P : Int32 × Int32) (R : Nat → Int32), (HR f L n a P R).1 = none → (HR f L n a P R).2.1.1 = 0 → HWp R → HWp (HR f L n a P R).2.2 := by
  intro n
  induction n with
  | zero => intro a P R _ _ h; exact h
  | succ n ih =>
    intro a P R hn hz h
    have hH : HR f L (n + 1) a P R = if tK f L a = 0 then (none, P, R) else if hX f L a = -1 then (some (tS f L a), P, R) else
      match nb f L (cnt (hX f L a).toInt.toNat) (tN f L a) with
      | some q => (some q, P, R)
      | none => HR f L n (sk f L (cnt (hX f L a).toInt.toNat + 1) (tN f L a)) (lnP (hX f L a).toInt.toNat f L a R P) (lnR (hX f L a).toInt.toNat f L a R) := rfl
    rw [hH] at hn hz ⊢
    by_cases k0 : tK f L a = 0
    · rw [if_pos k0]; exact h
    rw [if_neg k0] at hn hz ⊢
    by_cases kx : hX f L a = -1
    · rw [if_pos kx]; exact h
    rw [if_neg kx] at hn hz ⊢
    have w15 := (hX_n kx).1
    generalize (hX f L a).toInt.toNat = w at *
    cases hN : nb f L (cnt w) (tN f L a) with
    | some q =>
      rw [hN] at hn
      exact absurd (show some q = none from hn) (Option.some_ne_none q)
    | none =>
      rw [hN] at hn hz
      obtain ⟨y1, y2, y3⟩ := ln_z (hr_z _ _ _ _ hz)
      exact ih _ _ _ hn hz (hw_row h w15 (nb_b (cnt w) (tN f L a) hN) y2 y3)
theorem hw_R0 {r : Nat → Int32} : HWp (R0 true r) := by
  refine ⟨0, 0, by decide, by decide, rfl, rfl, fun i hi => by omega, fun i hi => ?_, fun p hp => by omega⟩
  rcases (show i = 0 ∨ i = 1 ∨ i = 2 by omega) with y | y | y <;> subst y <;> exact (show Bd 0 99 (1 : Int32) from by decide)
theorem hw_fin {L : Nat} {z : Option Nat × (Int32 × Int32) × (Nat → Int32)} (h1 : z.1 = none → z.2.1.1 = 0 → HWp z.2.2) (h2 : (finH L z).1 = 0) : HWF (finH L z).2.2 := by
  obtain ⟨o, P, R⟩ := z
  cases o with
  | some q => exact absurd (show (1 : Int32) = 0 from h2) (by decide)
  | none =>
    have e : finH L (none, P, R) = if R 1 = 0 then (P.1, P.2, upd (upd (upd R 1 1) 5 0) 6 100) else if P.1 = 0 ∧ ¬ sm R = 100 then (4, iN L, R) else (P.1, P.2, R) := rfl
    rw [e] at h2 ⊢
    by_cases q : R 1 = 0
    · rw [if_pos q] at h2 ⊢
      obtain ⟨n, m, n9, m4, e0, e1, hr, hd, hp⟩ := h1 rfl h2
      have o : ∀ j, j ≠ 1 → j ≠ 5 → j ≠ 6 → upd (upd (upd R 1 1) 5 0) 6 100 j = R j := by
        intro j j1 j2 j3
        unfold upd
        rw [if_neg j3, if_neg j2, if_neg j1]
      refine ⟨⟨n, 1, n9, by decide, (o 0 (by decide) (by decide) (by decide)).trans e0, rfl, fun i hi => ?_, fun i hi => ?_, fun p hp' => ?_⟩, (show Bd 1 4 (1 : Int32) by decide), rfl⟩
      · rw [show i = 0 by omega]
        exact ⟨(show Bd 0 9 (0 : Int32) by decide), (show Bd 0 100 (100 : Int32) by decide)⟩
      · show Bd 0 99 (upd (upd (upd R 1 1) 5 0) 6 100 (2 + i))
        rw [o _ (by omega) (by omega) (by omega)]
        exact hd i hi
      · obtain ⟨p1, p2, p3⟩ := hp p hp'
        show PW n p (upd (upd (upd R 1 1) 5 0) 6 100)
        refine ⟨fun c hc => ?_, ?_, ?_⟩
        · rw [o _ (by omega) (by omega) (by omega)]; exact p1 c hc
        · rw [o _ (by omega) (by omega) (by omega)]; exact p2
        · rw [o _ (by omega) (by omega) (by omega)]; exact p3
    · rw [if_neg q] at h2 ⊢
      by_cases s : P.1 = 0 ∧ ¬ sm R = 100
      · rw [if_pos s] at h2
        exact absurd (show (4 : Int32) = 0 from h2) (by decide)
      · rw [if_neg s] at h2 ⊢
        have hw : HWp R := h1 rfl h2
        refine ⟨hw, ?_, ?_⟩
        · obtain ⟨n, m, n9, m4, e0, e1, hr, hd, hp⟩ := hw
          show Bd 1 4 (R 1)
          have m0 : m ≠ 0 := fun y => q (by rw [e1, y]; rfl)
          rw [e1, Bd, iN_ti (by omega)]
          omega
        · by_cases y : sm R = 100
          · exact y
          · exact absurd ⟨h2, y⟩ s
theorem tw_H {f r : Nat → Int32} {L : Nat} (h : (txF 0 f L r).1 = 0) : HWF (txF 0 f L r).2.2 := hw_fin (fun h1 h2 => hw_HR _ _ _ _ h1 h2 hw_R0) h
theorem hwf_c {f f' : Nat → Int32} (e : ∀ j, j < 157 → f' j = f j) (h : HWF f) : HWF f' := by
  obtain ⟨⟨n, m, n9, m4, e0, e1, hr, hd, hp⟩, h2, h3⟩ := h
  refine ⟨⟨n, m, n9, m4, (e 0 (by decide)).trans e0, (e 1 (by decide)).trans e1, fun i hi => ?_, fun i hi => ?_, fun p hp' => ?_⟩, ?_, ?_⟩
  · unfold RW
    rw [e _ (by omega), e _ (by omega)]
    exact hr i hi
  · rw [e _ (by omega)]
    exact hd i hi
  · obtain ⟨p1, p2, p3⟩ := hp p hp'
    refine ⟨fun c hc => ?_, ?_, ?_⟩
    · rw [e _ (by omega)]; exact p1 c hc
    · rw [e _ (by omega)]; exact p2
    · rw [e _ (by omega)]; exact p3
  · rw [e 1 (by decide)]; exact h2
  · unfold sm at h3 ⊢
    rw [e 1 (by decide), e 6 (by decide), e 8 (by decide), e 10 (by decide), e 12 (by decide)]
    exact h3
