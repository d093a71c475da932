/-! the reference's lines of a hill -/
abbrev MM : Type := Nat → Nat → Int32
abbrev GG : Type := Nat → Nat → Int64
def vv (f : Nat → Int32) (L a j : Nat) : Int32 := tV f L (sk f L j a)
def pp (f : Nat → Int32) (L a j : Nat) : Int32 := iN (tS f L (sk f L j a))
theorem sk_s {f : Nat → Int32} {L : Nat} : ∀ (r a : Nat), sk f L (r + 1) a = tN f L (sk f L r a) := by
  intro r
  induction r with
  | zero => intro a; rfl
  | succ r ih => intro a; exact ih (tN f L a)
theorem nn_s {f : Nat → Int32} {L : Nat} : ∀ (r a : Nat), (∀ q, nn f L r a = some q → nn f L (r + 1) a = some q) ∧ (nn f L r a = none → nn f L (r + 1) a = if tK f L (sk f L r a) = 2 then none else some (tS f L (sk f L r a))) := by
  intro r
  induction r with
  | zero => intro a; exact ⟨fun q h => (by cases h), fun _ => rfl⟩
  | succ r ih =>
    intro a
    obtain ⟨h1, h2⟩ := ih (tN f L a)
    by_cases k : tK f L a = 2
    · have e1 : nn f L (r + 1) a = nn f L r (tN f L a) := if_pos k
      have e2 : nn f L (r + 1 + 1) a = nn f L (r + 1) (tN f L a) := if_pos k
      rw [e1, e2]
      exact ⟨h1, h2⟩
    · have e1 : nn f L (r + 1) a = some (tS f L a) := if_neg k
      have e2 : nn f L (r + 1 + 1) a = some (tS f L a) := if_neg k
      rw [e1, e2]
      exact ⟨fun q h => h, fun h => (by cases h)⟩
theorem nb_n {f : Nat → Int32} {L : Nat} : ∀ (r a : Nat), (∀ q, nn f L r a = some q → nb f L r a = some q) ∧ (nn f L r a = none → nb f L r a = if tK f L (sk f L r a) = 3 then none else some (tS f L (sk f L r a))) := by
  intro r
  induction r with
  | zero => intro a; exact ⟨fun q h => (by cases h), fun _ => rfl⟩
  | succ r ih =>
    intro a
    obtain ⟨h1, h2⟩ := ih (tN f L a)
    by_cases k : tK f L a = 2
    · have e1 : nn f L (r + 1) a = nn f L r (tN f L a) := if_pos k
      have e2 : nb f L (r + 1) a = nb f L r (tN f L a) := if_pos k
      rw [e1, e2]
      exact ⟨h1, h2⟩
    · have e1 : nn f L (r + 1) a = some (tS f L a) := if_neg k
      have e2 : nb f L (r + 1) a = some (tS f L a) := if_neg k
      rw [e1, e2]
      exact ⟨fun q h => h, fun h => (by cases h)⟩
/-- how a line's numbers come out -/
def OUT (z : Bool × MM × GG) (f : Nat → Int32) (L c a : Nat) (P : Int32 × Int32) (R : Nat → Int32) : Prop := (∀ q, nn f L c a = some q → z.1 = false ∧ z.2.1 162 14 = iN q) ∧ (nn f L c a = none → z.1 = true ∧ RSv z.2.1 z.2.2 f L (sk f L c a) P R ∧ OR P (tS f L (sk f L c a)))
theorem c3_mk {α β γ δ : Type} {a : α} {b : β} {c : γ} {K : α → β → γ → δ} : xq_c3 (a, b, c) K = K a b c := rfl
theorem c2_mk {α β γ : Type} {a : α} {b : β} {K : α → β → γ} : xq_c2 (a, b) K = K a b := rfl
noncomputable def two (lo0 hi0 : Int32) (lo1 hi1 : Int32 → Int32) (K : MM → GG → MM → GG → Bool × MM × GG) (y : MM) (g : GG) : Bool × MM × GG := xq_c3 (Fx_M_take0X lo0 hi0 y g) fun t x g2 => if t = true then (xq_c3 (Fx_M_take1X (lo1 (x 171 0)) (hi1 (x 171 0)) x g2) fun t2 x2 g3 => if t2 = true then K x g2 x2 g3 else (false, x2, g3)) else (false, x, g2)
theorem two_X {y : MM} {g : GG} {f : Nat → Int32} {L a : Nat} {P : Int32 × Int32} {R : Nat → Int32} {lo0 hi0 : Int32} {lo1 hi1 : Int32 → Int32} {K : MM → GG → MM → GG → Bool × MM × GG} (hb : L ≤ 600) (hf : ∀ j, j < L → Bd (-128) 127 (f j)) (ha : a ≤ L) (h : RSv y g f L a P R) (o : OR P (tS f L a)) :
    (∀ q, nn f L 2 a = some q → (two lo0 hi0 lo1 hi1 K y g).1 = false ∧ (two lo0 hi0 lo1 hi1 K y g).2.1 162 14 = iN q) ∧
    (nn f L 2 a = none → ∃ x g2 x2 g3, two lo0 hi0 lo1 hi1 K y g = K x g2 x2 g3 ∧ x 171 0 = vv f L a 0 ∧ x2 171 0 = vv f L a 0 ∧ x2 171 1 = vv f L a 1 ∧ Bd 0 999 (vv f L a 0) ∧ Bd 0 999 (vv f L a 1) ∧
      RSv x2 g3 f L (sk f L 2 a) (rmb (okn (lo1 (vv f L a 0)) (hi1 (vv f L a 0)) (vv f L a 1)) 2 (pp f L a 1) (rmb (okn lo0 hi0 (vv f L a 0)) 2 (pp f L a 0) P)) R ∧ OR (rmb (okn (lo1 (vv f L a 0)) (hi1 (vv f L a 0)) (vv f L a 1)) 2 (pp f L a 1) (rmb (okn lo0 hi0 (vv f L a 0)) 2 (pp f L a 0) P)) (tS f L (sk f L 2 a)) ∧
      x2 162 18 = (if okn (lo1 (vv f L a 0)) (hi1 (vv f L a 0)) (vv f L a 1) = true then (if okn lo0 hi0 (vv f L a 0) = true then y 162 18 else 0) else 0) ∧ ∀ b, b ≠ 162 → b ≠ 171 → x2 b = y b) := by
  have hN : nn f L 2 a = if tK f L a = 2 then (if tK f L (tN f L a) = 2 then none else some (tS f L (tN f L a))) else some (tS f L a) := rfl
  unfold two
  by_cases k : tK f L a = 2
  · obtain ⟨x, g2, e, m1, m2, m3, m4, m5, m6⟩ := ta_01 (low := lo0) (high := hi0) hb hf ha h o k
    rw [e]
    have b0 := tV_b k
    by_cases k2 : tK f L (tN f L a) = 2
    · obtain ⟨x2, g3, e2, n1, n2, n3, n4, n5, n6⟩ := ta_11 (low := lo1 (x 171 0)) (high := hi1 (x 171 0)) hb hf (tN_in ha) m1 m6 k2
      rw [hN, if_pos k, if_pos k2]
      refine ⟨fun q z => (by cases z), fun _ => ⟨x, g2, x2, g3, ?_, m2, (n3 0 (by decide)).trans m2, n2, b0, tV_b k2, ?_, ?_, ?_, fun b b1 b2 => (n5 b b1 b2).trans (m5 b b1 b2)⟩⟩
      · rw [c3_mk, if_pos rfl, e2, c3_mk, if_pos rfl]
      · rw [m2] at n1; exact n1
      · rw [m2] at n6; exact n6
      · rw [m2, m4] at n4; exact n4
    · obtain ⟨x2, g3, e2, n1⟩ := ta_10 (low := lo1 (x 171 0)) (high := hi1 (x 171 0)) m1 k2
      rw [hN, if_pos k, if_neg k2]
      have e3 : (xq_c3 (true, x, g2) fun t x g2 => if t = true then (xq_c3 (Fx_M_take1X (lo1 (x 171 0)) (hi1 (x 171 0)) x g2) fun t2 x2 g3 => if t2 = true then K x g2 x2 g3 else (false, x2, g3)) else (false, x, g2)) = (false, x2, g3) := by
        rw [c3_mk, if_pos rfl, e2, c3_mk, if_neg (by decide)]
      rw [e3]
      refine ⟨fun q z => ?_, fun z => (by cases z)⟩
      cases z
      exact ⟨rfl, n1⟩
  · obtain ⟨x, g2, e, m1⟩ := ta_00 (low := lo0) (high := hi0) h k
    rw [e, hN, if_neg k]
    refine ⟨fun q z => ?_, fun z => (by cases z)⟩
    cases z
    exact ⟨rfl, m1⟩
/-- a pond's columns -/
def pc (v0 v1 v2 : Int32) (i : Nat) : Int32 := if i = 0 then v0 else if i = 1 then v1 else if i = 2 then v2 else if i = 8 ∨ i = 9 ∨ i = 12 then -1 else 0
def hcol (w : Nat) : Nat := [0, 8, 9, 3, 4, 5, 6, 7, 11, 12, 13].getD w 0
def cnt (w : Nat) : Nat := [3, 2, 3, 2, 2, 2, 2, 2, 2, 2, 3, 2, 1, 1, 1].getD w 0
/-- a hill's row behind line w -/
def rowH (w : Nat) (R : Nat → Int32) (v0 v1 v2 : Int32) (gd : Bool) : Nat → Int32 :=
  if w = 0 then (if R 0 < 9 then upd (fun j => if 13 + 16 * (R 0).toInt.toNat ≤ j ∧ j < 29 + 16 * (R 0).toInt.toNat then pc v0 v1 v2 (j - (13 + 16 * (R 0).toInt.toNat)) else R j) 0 (R 0 + 1) else R)
  else if w = 11 then (if R 1 < 4 then upd (upd (upd R (5 + 2 * (R 1).toInt.toNat) v0) (6 + 2 * (R 1).toInt.toNat) v1) 1 (R 1 + 1) else R)
  else if 11 < w then upd R (w - 10) v0
  else if gd = true then (if w = 2 ∨ w = 10 then upd (upd R (13 + 16 * v0.toInt.toNat + hcol w) v1) (14 + 16 * v0.toInt.toNat + hcol w) v2 else upd R (13 + 16 * v0.toInt.toNat + hcol w) v1) else R
theorem ok_0 {v h : Int32} (b : Bd 0 999 v) : okn 0 h v = decide (v ≤ h) := by
  unfold okn
  rw [decide_eq_true (show (0 : Int32) ≤ v by rw [Int32.le_iff_toInt_le]; exact b.1), Bool.true_and]
theorem fo_1 {ck : Nat → Int32 → Bool} {v p : Nat → Int32} {P : Int32 × Int32} : fo ck v p 1 0 P = rmb (ck 0 (v 0)) 2 (p 0) P := by rw [fo_s (by omega), fo_e (by omega)]
theorem fo_2 {ck : Nat → Int32 → Bool} {v p : Nat → Int32} {P : Int32 × Int32} : fo ck v p 2 0 P = rmb (ck 1 (v 1)) 2 (p 1) (rmb (ck 0 (v 0)) 2 (p 0) P) := by rw [fo_s (by omega), fo_s (by omega), fo_e (by omega)]
theorem fo_3 {ck : Nat → Int32 → Bool} {v p : Nat → Int32} {P : Int32 × Int32} : fo ck v p 3 0 P = rmb (ck 2 (v 2)) 2 (p 2) (rmb (ck 1 (v 1)) 2 (p 1) (rmb (ck 0 (v 0)) 2 (p 0) P)) := by rw [fo_s (by omega), fo_s (by omega), fo_s (by omega), fo_e (by omega)]
/-- the reader's rows don't look at cell 170 but for its row -/
theorem rs_170 {x y : MM} {g : GG} {f : Nat → Int32} {L a : Nat} {P : Int32 × Int32} {R R2 : Nat → Int32} (h : RSv x g f L a P R) (e : y 170 = R2) (h2 : y 162 = x 162) (h3 : y 163 = x 163) : RSv y g f L a P R2 := by
  obtain ⟨r1, r2, ⟨t1, t2, t3, t4, t5⟩, ⟨r4, r5⟩, r6⟩ := h
  refine ⟨h3.trans r1, by rw [h2]; exact r2, ⟨by rw [h2]; exact t1, by rw [h2]; exact t2, by rw [h2]; exact t3, fun z => by rw [h2]; exact t4 z, t5⟩, ⟨by rw [h2]; exact r4, fun z => by rw [h2]; exact r5 z⟩, e⟩
/-- remembering a full hill -/
theorem la_R {v : MM} {g : GG} {f : Nat → Int32} {L a s : Nat} {P : Int32 × Int32} {R : Nat → Int32} (hb : L ≤ 600) (ha : a ≤ L) (h : RSv v g f L a P R) (o : OR P s) (hs : s < tS f L a) : RSv (Fx_M_laterX 3 (iN s) v g) g f L a (rm P 3 (iN s)) R ∧ OR (rm P 3 (iN s)) (tS f L a) ∧ Fx_M_laterX 3 (iN s) v g 162 18 = v 162 18 := by
  obtain ⟨r1, r2, ⟨t1, t2, t3, t4, t5⟩, r4, r5⟩ := h
  obtain ⟨l1, l2, l3⟩ := la_X (v := v) (g := g) (f := 3) (t := s) r4 o
  have h1 := tS_in (f := f) ha
  refine ⟨⟨(l2 163 (by decide)).trans r1, (l3 9 (by decide) (by decide)).trans r2, ⟨(l3 8 (by decide) (by decide)).trans t1, (l3 10 (by decide) (by decide)).trans t2, (l3 11 (by decide) (by decide)).trans t3, fun z => (l3 12 (by decide) (by decide)).trans (t4 z), t5⟩, l1, (l2 170 (by decide)).trans r5⟩, or_rm o hs (by omega), l3 18 (by decide) (by decide)⟩
theorem rain_X {v : MM} {g : GG} {f : Nat → Int32} {L a s : Nat} {P : Int32 × Int32} {R : Nat → Int32} {gd : Bool} (hb : L ≤ 600) (hf : ∀ j, j < L → Bd (-128) 127 (f j)) (ha : a ≤ L) (h : RSv v g f L a P R) (b1 : Bd 0 4 (R 1)) (o : OR P s) (hs : s < tS f L a) :
    OUT (Fx_M_rainLineX (iN s) v g) f L 2 a (fo (fun j x => chk 11 j (R 0) (vv f L a 0) x) (vv f L a) (pp f L a) 2 0 (rmb (!fl 11 (R 0) (R 1)) 3 (iN s) P)) (rowH 11 R (vv f L a 0) (vv f L a 1) (vv f L a 2) gd) := by
  have e170 : v 170 1 = R 1 := by rw [h.2.2.2.2]
  have hC : ∀ {v0 v1 : Int32}, Bd 0 999 v0 → Bd 0 999 v1 → okn 0 9 v0 = chk 11 0 (R 0) (vv f L a 0) v0 ∧ okn 0 100 v1 = chk 11 1 (R 0) (vv f L a 0) v1 := by
    intro v0 v1 q0 q1
    rw [ok_0 q0, ok_0 q1]
    exact ⟨(Bool.and_true _).symm, (Bool.and_true _).symm⟩
  have h1 := tS_in (f := f) ha
  rw [fo_2]
  by_cases q : R 1 = 4
  · have hfl : fl 11 (R 0) (R 1) = true := decide_eq_true (Or.inr ⟨rfl, by rw [q]; decide⟩)
    rw [hfl, rmb_f (b := !true) (by decide)]
    obtain ⟨y1, y2, y3⟩ := la_R hb ha h o hs
    have e : Fx_M_rainLineX (iN s) v g = two 0 9 (fun _ => 0) (fun _ => 100) (fun _ _ x2 g3 => (true, x2, g3)) (Fx_M_laterX 3 (iN s) v g) g := by
      unfold Fx_M_rainLineX
      rw [e170, if_pos q]
      simp only [show ((4 : Int32) ≤ R 1) = True from eq_true (by rw [q]; decide), if_true]
      rfl
    rw [e]
    obtain ⟨t1, t2⟩ := two_X (lo0 := 0) (hi0 := 9) (lo1 := fun _ => 0) (hi1 := fun _ => 100) (K := fun _ _ x2 g3 => (true, x2, g3)) hb hf ha y1 y2
    refine ⟨t1, fun z => ?_⟩
    obtain ⟨x, g2, x2, g3, k1, k2, k3, k4, k5, k6, k7, k8, k9, k10⟩ := t2 z
    rw [k1]
    obtain ⟨c0, c1⟩ := hC k5 k6
    rw [c0, c1] at k7 k8
    refine ⟨rfl, ?_, k8⟩
    have er : rowH 11 R (vv f L a 0) (vv f L a 1) (vv f L a 2) gd = R := by
      show (if R 1 < 4 then _ else R) = R
      rw [if_neg (fun z => by rw [q] at z; exact absurd z (by decide))]
    rw [er]
    exact k7
  · have hlt : R 1 < 4 := by
      rw [Int32.lt_iff_toInt_lt]
      have h2 : (R 1).toInt ≠ 4 := fun z => q (Int32.toInt_inj.mp z)
      have := b1.2
      have e4 : (4 : Int32).toInt = 4 := rfl
      omega
    have hfl : fl 11 (R 0) (R 1) = false := decide_eq_false (fun z => by
      rcases z with z | z
      · exact absurd z.1 (by decide)
      · exact lt_le_no hlt z.2)
    rw [hfl, rmb_t (b := !false) (by decide)]
    have e : Fx_M_rainLineX (iN s) v g = two 0 9 (fun _ => 0) (fun _ => 100) (fun x _ x2 g3 => (true, ms (ms (ms x2 170 ((5 : Int32) + ((2 : Int32) * (R 1))).toNatClampNeg (x 171 0)) 170 (((5 : Int32) + ((2 : Int32) * (R 1))) + 1).toNatClampNeg (x2 171 1)) 170 1 ((R 1) + 1), g3)) v g := by
      unfold Fx_M_rainLineX
      rw [e170, if_neg q]
      simp only [show ((4 : Int32) ≤ R 1) = False from eq_false (fun z => lt_le_no hlt z), if_false]
      rfl
    rw [e]
    obtain ⟨t1, t2⟩ := two_X (lo0 := 0) (hi0 := 9) (lo1 := fun _ => 0) (hi1 := fun _ => 100) (K := fun x _ x2 g3 => (true, ms (ms (ms x2 170 ((5 : Int32) + ((2 : Int32) * (R 1))).toNatClampNeg (x 171 0)) 170 (((5 : Int32) + ((2 : Int32) * (R 1))) + 1).toNatClampNeg (x2 171 1)) 170 1 ((R 1) + 1), g3)) hb hf ha h (or_w o (Nat.le_of_lt hs) (by omega))
    refine ⟨t1, fun z => ?_⟩
    obtain ⟨x, g2, x2, g3, k1, k2, k3, k4, k5, k6, k7, k8, k9, k10⟩ := t2 z
    rw [k1]
    obtain ⟨c0, c1⟩ := hC k5 k6
    rw [c0, c1] at k7 k8
    refine ⟨rfl, ?_, k8⟩
    have hr : (R 1).toInt.toNat ≤ 4 := by have := b1.1; have := b1.2; omega
    have i5 : ((5 : Int32) + ((2 : Int32) * (R 1))).toNatClampNeg = 5 + 2 * (R 1).toInt.toNat := by
      rw [iN_of b1 (by decide), iN_ti (by omega)]
      show (iN 5 + iN 2 * iN (R 1).toInt.toNat).toNatClampNeg = _
      rw [iN_m, iN_a, iN_cl (by omega)]
      omega
    have i6 : (((5 : Int32) + ((2 : Int32) * (R 1))) + 1).toNatClampNeg = 6 + 2 * (R 1).toInt.toNat := by
      rw [iN_of b1 (by decide), iN_ti (by omega)]
      show (iN 5 + iN 2 * iN (R 1).toInt.toNat + 1).toNatClampNeg = _
      rw [iN_m, iN_a, iN_s, iN_cl (by omega)]
      omega
    have er : rowH 11 R (vv f L a 0) (vv f L a 1) (vv f L a 2) gd = upd (upd (upd R (5 + 2 * (R 1).toInt.toNat) (vv f L a 0)) (6 + 2 * (R 1).toInt.toNat) (vv f L a 1)) 1 (R 1 + 1) := by
      show (if R 1 < 4 then _ else R) = _
      rw [if_pos hlt]
    rw [er]
    refine rs_170 k7 ?_ rfl rfl
    show ms (ms (ms x2 170 _ (x 171 0)) 170 _ (x2 171 1)) 170 1 (R 1 + 1) 170 = _
    rw [ms_a1, ms_a1, ms_a1, i5, i6, k2, k4, k7.2.2.2.2]
