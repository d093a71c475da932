/-! steps -/
theorem iN_or {a b : Nat} : iN a ||| iN b = iN (a ||| b) := by
  refine Int32.toBitVec_inj.mp ?_
  rw [Int32.toBitVec_or]
  show BitVec.ofNat 32 a ||| BitVec.ofNat 32 b = BitVec.ofNat 32 (a ||| b)
  refine BitVec.eq_of_getLsbD_eq (fun i hi => ?_)
  rw [BitVec.getLsbD_or, BitVec.getLsbD_ofNat, BitVec.getLsbD_ofNat, BitVec.getLsbD_ofNat, Nat.testBit_or, decide_eq_true hi]
  rfl
theorem dif_X {P M : Nat} (hP : P < 512) : iN P &&& (iN M ^^^ (-1)) = iN (bset (fun q => P.testBit q && !M.testBit q) 9) := by
  refine Int32.toBitVec_inj.mp ?_
  rw [Int32.toBitVec_and, Int32.toBitVec_xor]
  show BitVec.ofNat 32 P &&& (BitVec.ofNat 32 M ^^^ BitVec.allOnes 32) = BitVec.ofNat 32 (bset (fun q => P.testBit q && !M.testBit q) 9)
  refine BitVec.eq_of_getLsbD_eq (fun i hi => ?_)
  rw [BitVec.getLsbD_and, BitVec.getLsbD_xor, BitVec.getLsbD_ofNat, BitVec.getLsbD_ofNat, BitVec.getLsbD_ofNat, BitVec.getLsbD_allOnes, decide_eq_true hi]
  by_cases h : i < 9
  · rw [bset_b 9 i h]
    cases P.testBit i <;> cases M.testBit i <;> rfl
  · have b1 : P.testBit i = false := Nat.testBit_lt_two_pow (Nat.lt_of_lt_of_le hP (Nat.pow_le_pow_right (n := 2) (i := 9) (by decide) (by omega)))
    have b2 : (bset (fun q => P.testBit q && !M.testBit q) 9).testBit i = false := Nat.testBit_lt_two_pow (Nat.lt_of_lt_of_le (bset_lt 9) (Nat.pow_le_pow_right (n := 2) (i := 9) (by decide) (by omega)))
    rw [b1, b2]
    cases M.testBit i <;> rfl
theorem hasEI {s : Int32} {q : Nat} {u : MM} {g : GG} : Fx_M_hasEX s (iN q) u g = inB s q := by
  unfold Fx_M_hasEX inB
  by_cases h : ((s >>> (iN q &&& 31)) &&& 1) = 1
  · rw [if_pos h, decide_eq_true h]
  · rw [if_neg h, decide_eq_false h]
theorem bXI {p : Nat} {u : MM} {g : GG} (hp : p ≤ 1000) : Fx_bitX (iN p) u g = bt p := by
  unfold Fx_bitX bt
  rw [if_pos (show (0 : Int32) ≤ iN p from (iN_le (a := 0) (by omega) (by omega)).mpr (by omega))]
theorem cst_b {A : Nat → Nat → Int32} {d : Int32} {p : Nat} (hp : p < 9) : ∀ k, k ≤ 9 → cst A d (bt p) k = if p < k then d * A p 4 else 0 := by
  intro k
  induction k with
  | zero => intro _; rfl
  | succ k ih =>
    intro h
    show cst A d (bt p) k + (if inB (bt p) k = true then d * A k 4 else 0) = _
    rw [ih (by omega), inB_bt p hp k (by omega)]
    by_cases y : k = p
    · rw [if_neg (by omega), decide_eq_true y, if_pos rfl, if_pos (by omega), y, Int32.zero_add]
    · rw [decide_eq_false y, if_neg Bool.false_ne_true, Int32.add_zero]
      by_cases w : p < k
      · rw [if_pos w, if_pos (by omega)]
      · rw [if_neg w, if_neg (by omega)]
theorem cst_o {A : Nat → Nat → Int32} {d : Int32} {M q : Nat} (hM : M < 512) (hq : q < 9) (hn : M.testBit q = false) : ∀ k, k ≤ 9 → cst A d (iN (M ||| 2 ^ q)) k = cst A d (iN M) k + (if q < k then d * A q 4 else 0) := by
  have h2 : M ||| 2 ^ q < 512 := Nat.or_lt_two_pow (n := 9) hM (Nat.pow_lt_pow_right (by decide) hq)
  intro k
  induction k with
  | zero => intro _; rfl
  | succ k ih =>
    intro h
    show cst A d (iN (M ||| 2 ^ q)) k + (if inB (iN (M ||| 2 ^ q)) k = true then d * A k 4 else 0) = cst A d (iN M) k + (if inB (iN M) k = true then d * A k 4 else 0) + _
    rw [ih (by omega), inN _ h2 k (by omega), inN _ hM k (by omega), Nat.testBit_or, Nat.testBit_two_pow]
    by_cases y : q = k
    · subst y
      rw [hn, decide_eq_true rfl, if_neg (by omega), if_pos (show (false || true) = true from rfl), if_neg Bool.false_ne_true, if_pos (by omega)]
    · rw [decide_eq_false y, Bool.or_false]
      have e : (if q < k + 1 then d * A q 4 else 0) = if q < k then d * A q 4 else 0 := by
        by_cases w : q < k
        · rw [if_pos w, if_pos (by omega)]
        · rw [if_neg w, if_neg (by omega)]
      rw [e, Int32.add_assoc, Int32.add_assoc, Int32.add_comm (if q < k then d * A q 4 else 0)]
theorem pcn_le {M P q : Nat} (h : ∀ i, M.testBit i = true → P.testBit i = true) (hp : P.testBit q = true) (hm : M.testBit q = false) : ∀ k, pcn M k ≤ pcn P k ∧ (q < k → pcn M k < pcn P k) := by
  intro k
  induction k with
  | zero => exact ⟨Nat.le_refl _, fun z => by omega⟩
  | succ k ih =>
    obtain ⟨i1, i2⟩ := ih
    have a : pcn M (k + 1) = pcn M k + (if M.testBit k = true then 1 else 0) := rfl
    have b : pcn P (k + 1) = pcn P k + (if P.testBit k = true then 1 else 0) := rfl
    have c : (if M.testBit k = true then 1 else 0) ≤ (if P.testBit k = true then 1 else 0) := by
      by_cases w : M.testBit k = true
      · rw [if_pos w, if_pos (h k w)]; exact Nat.le_refl _
      · rw [if_neg w]; exact Nat.zero_le _
    refine ⟨by omega, fun z => ?_⟩
    by_cases y : q = k
    · subst y
      rw [hp, if_pos rfl] at b
      rw [hm, if_neg Bool.false_ne_true] at a
      omega
    · have := i2 (by omega)
      omega
theorem pcn_or {M q : Nat} (hm : M.testBit q = false) : ∀ k, pcn (M ||| 2 ^ q) k = pcn M k + (if q < k then 1 else 0) := by
  intro k
  induction k with
  | zero => rfl
  | succ k ih =>
    show pcn (M ||| 2 ^ q) k + (if (M ||| 2 ^ q).testBit k = true then 1 else 0) = pcn M k + (if M.testBit k = true then 1 else 0) + _
    rw [ih, Nat.testBit_or, Nat.testBit_two_pow]
    by_cases y : q = k
    · subst y
      rw [hm, decide_eq_true rfl, if_neg (by omega), if_pos (show (false || true) = true from rfl), if_neg Bool.false_ne_true, if_pos (by omega)]
    · rw [decide_eq_false y, Bool.or_false]
      have e : (if q < k + 1 then 1 else 0) = if q < k then 1 else 0 := by
        by_cases w : q < k
        · rw [if_pos w, if_pos (by omega)]
        · rw [if_neg w, if_neg (by omega)]
      rw [e]
      omega
/-- the better buy, on both sides -/
theorem bb_X {x y : MM} {g g' : GG} {less fall : Int64} {a b : Nat} (ha : a ≤ 100000) (hb : b ≤ 100000) (h : a = 0 ↔ b = 0) : Fx_C_isBetterBuyX less (iN a).toInt64 fall (iN b).toInt64 x g = Fx_M_isSoonerX less (iN a) fall (iN b) y g' := by
  unfold Fx_C_isBetterBuyX Fx_M_isSoonerX
  rw [iN_l ha, iN_l hb, xqb, xqb, xqb, xqb, mx1 (by omega), mx1 (by omega)]
  by_cases z : a = 0
  · have z2 := h.mp z
    subst z z2
    have e1 : zN (max 0 1) = (1 : Int64) := rfl
    rw [if_pos (show iN 0 = 0 from rfl), if_pos (show iN 0 = 0 from rfl), if_neg (show ¬ (0 : Int32) < iN 0 by decide), e1, Int64.mul_one, Int64.mul_one]
  · have z2 : ¬ b = 0 := fun w => z (h.mpr w)
    have n1 : ¬ iN a = 0 := fun w => z ((iN_eq (b := 0) (by omega) (by omega)).mp w)
    have n2 : ¬ iN b = 0 := fun w => z2 ((iN_eq (b := 0) (by omega) (by omega)).mp w)
    rw [if_neg n1, if_neg n2, Nat.max_eq_left (by omega), Nat.max_eq_left (by omega), xqb, xqb, xqb, xqb]
theorem nx_E {g' : GG} {n P M : Nat} {left c : Int32} {l2 fall : Int64} {ct : Int32} {y1 : MM} (hP : P < 2 ^ n) (n9 : n ≤ 9) : ∀ (f p : Nat), 9 - p < f → n ≤ p → p ≤ 9 → Fx_M_nextOfX_L20 (iN P) (iN M) left g' l2 f c fall ct (iN p) y1 = (c, y1) := by
  have pn := p2_le n9
  intro f
  induction f with
  | zero => intro p h1; omega
  | succ f ih =>
    intro p h1 h2 h3
    rw [Fx_M_nextOfX_L20_s]
    by_cases q : 9 ≤ p
    · rw [if_pos (show (9 : Int32) ≤ iN p from (iN_le (a := 9) (by omega) (by omega)).mpr q)]
    · have b1 : P.testBit p = false := Nat.testBit_lt_two_pow (Nat.lt_of_lt_of_le hP (Nat.pow_le_pow_right (by decide) h2))
      rw [if_neg (show ¬ (9 : Int32) ≤ iN p from fun z => q ((iN_le (a := 9) (by omega) (by omega)).mp z)), xqb, hasEI, inN P (by omega) p (by omega), b1, if_neg Bool.false_ne_true, iN_s]
      exact ih (p + 1) (by omega) (by omega) (by omega)
/-- what is chosen so far -/
def CHO (n P M D : Nat) (c ct : Int32) : Prop := c = -1 ∨ ∃ q k, q < n ∧ c = iN q ∧ P.testBit q = true ∧ M.testBit q = false ∧ ct = iN (D * k) ∧ 1 ≤ k ∧ k ≤ 10
theorem ns_L {x6 : MM} {g' : GG} {n m P M D : Nat} {A : Nat → Nat → Int32} {sr cr : Nat → Int32} {left : Int32} {l2 : Int64} (ha : HA x6 44 n A) (hx : x6 48 0 = iN D) (n9 : n ≤ 9) (aw : AWF n A) (hP : P < 2 ^ n) (hM : M < 512) (hD : D ≤ 99) : ∀ (f p : Nat) (g : GG) (y1 : MM) (c : Int32) (fall : Int64) (ct : Int32) (ch : Nat → Int32), 9 - p < f → p ≤ n → OK x6 g n m A sr cr (iN (bset (wkF A) n)) ch → MRD y1 n m A sr cr → y1 172 2 = iN D → CHO n P M D c ct → ∃ c2 ct2 g2 y2 ch2, Fx_C_nextStepX_L19 (iN P &&& (iN M ^^^ (-1))) (iN M) left x6 l2 f c fall ct.toInt64 (iN p) g = (c2, g2) ∧ Fx_M_nextOfX_L20 (iN P) (iN M) left g' l2 f c fall ct (iN p) y1 = (c2, y2) ∧ OK x6 g2 n m A sr cr (iN (bset (wkF A) n)) ch2 ∧ MRD y2 n m A sr cr ∧ y2 172 2 = iN D ∧ CHO n P M D c2 ct2 := by
  have pn := p2_le n9
  intro f
  induction f with
  | zero => intro p g y1 c fall ct ch h1; omega
  | succ f ih =>
    intro p g y1 c fall ct ch h1 h2 ok mr hd cho
    rw [Fx_C_nextStepX_L19_s, ha.1]
    by_cases q : n ≤ p
    · rw [if_pos ((iN_le (by omega) (by omega)).mpr q), nx_E hP n9 (f + 1) p h1 q (by omega)]
      exact ⟨c, ct, g, y1, ch, rfl, rfl, ok, mr, hd, cho⟩
    have hp : p < n := by omega
    obtain ⟨k, hk, k10⟩ := iN_ex (hi := 10) (show Bd 0 10 (A p 4) from (aw p hp).1 4 (by decide))
    have b2 : D * k ≤ 99 * 10 := Nat.mul_le_mul hD k10
    have ec : cst A (iN D) (bt p) n = iN (D * k) := by rw [cst_b (by omega) n n9, if_pos hp, hk, iN_m]
    have ei : inB (iN P &&& (iN M ^^^ (-1))) p = (P.testBit p && !M.testBit p) := by
      rw [dif_X (by omega), inN _ (bset_lt 9) p (by omega), bset_b 9 p (by omega)]
    have em : ∀ v : MM, (∀ q, q < n → v 177 q = A q 4) → v 172 2 = iN D → (v 177 p) * (v 172 2) = iN (D * k) := fun v h1 h2 => by rw [h1 p hp, h2, hk, iN_m, Nat.mul_comm]
    rw [Fx_M_nextOfX_L20_s, if_neg (fun z => q ((iN_le (by omega) (by omega)).mp z)), if_neg (show ¬ (9 : Int32) ≤ iN p from fun z => by have := (iN_le (a := 9) (by omega) (by omega)).mp z; omega), xqb (x := Fx_bit9X (iN p) x6 g), b9I (by omega), xqb (x := Fx_H_daysToMendX (bt p) 44 x6 g), dm_X ha n9 hx, ec, xqb (x := Fx_isInX (iN P &&& (iN M ^^^ (-1))) (iN p) x6 g), isI, ei, xqb (x := Fx_M_hasEX (iN P) (iN p) y1 g'), hasEI, inN P (by omega) p (by omega), show hof x6 44 (iN p) (4 : Int32) = A p 4 from ha_r (c := 4) ha n9 hp (by decide)]
    unfold Fx_C_nextStepX_J122
    rw [iN_s]
    cases tp : P.testBit p
    · rw [Bool.false_and, if_neg Bool.false_ne_true, if_neg Bool.false_ne_true]
      exact ih (p + 1) g y1 c fall ct ch (by omega) (by omega) ok mr hd cho
    rw [Bool.true_and, if_pos (show true = true from rfl), xqb (x := Fx_M_hasEX (iN M) (iN p) y1 g'), hasEI, inN M hM p (by omega)]
    cases tm : M.testBit p
    rotate_left
    · rw [if_neg (show ¬ (!true) = true by decide), if_pos rfl]
      exact ih (p + 1) g y1 c fall ct ch (by omega) (by omega) ok mr hd cho
    rw [if_pos (show (!false) = true from rfl), if_neg Bool.false_ne_true, xqb (x := y1 177 (iN p).toNatClampNeg), iN_cl (by omega), mr.2 p hp, hd]
    by_cases k0 : k = 0
    · rw [if_pos (show A p 4 ≤ 0 by rw [hk, k0]; decide), if_pos (show A p 4 = 0 by rw [hk, k0]; rfl)]
      exact ih (p + 1) g y1 c fall ct ch (by omega) (by omega) ok mr hd cho
    have em1 : A p 4 * iN D = iN (D * k) := by rw [hk, iN_m, Nat.mul_comm]
    rw [if_neg (show ¬ A p 4 ≤ 0 from fun z => k0 (by rw [hk] at z; have := (iN_le (b := 0) (by omega) (by omega)).mp z; omega)), if_neg (show ¬ A p 4 = 0 from fun z => k0 (by rw [hk] at z; exact (iN_eq (b := 0) (by omega) (by omega)).mp z)), em1]
    by_cases cl : left < iN (D * k)
    · rw [if_pos cl, if_neg (Int32.not_le.mpr cl)]
      exact ih (p + 1) g y1 c fall ct ch (by omega) (by omega) ok mr hd cho
    obtain ⟨g2, q1, q2, q3⟩ := cmm_X (s := iN M ||| bt p) ok aw
    obtain ⟨y2, r1, r2, r3⟩ := mmm_X (g := g') (s := iN M ||| bt p) mr hd
    have r1' : Fx_M_meanMendedNX (iN M ||| (1 <<< (iN p &&& 31))) (-1) y1 g' = (MDN A n m sr cr (iN M ||| bt p), y2) := r1
    have chN : CHO n P M D (iN p) (iN (D * k)) := Or.inr ⟨p, k, hp, rfl, tp, tm, rfl, by omega, k10⟩
    have em2 : y2 177 p * y2 172 2 = iN (D * k) := em y2 r2.2 r3
    rw [if_neg cl, if_pos (Int32.not_lt.mp cl), xqb (x := bt p), q1, c2_mk, xqb (x := l2 - MDN A n m sr cr (iN M ||| bt p)), r1', c2_mk, xqb (x := l2 - MDN A n m sr cr (iN M ||| bt p)), xqb (x := y2 177 p), em2]
    by_cases l0 : lg_cmp (l2 - MDN A n m sr cr (iN M ||| bt p)) (0 : Int64) ≤ 0
    · rw [if_pos l0, if_pos l0]
      exact ih (p + 1) g2 y2 c fall ct _ (by omega) (by omega) q2 r2 r3 cho
    rw [if_neg l0, if_neg l0]
    by_cases c1 : c = -1
    · rw [if_pos c1, if_pos c1, xqb]
      exact ih (p + 1) g2 y2 _ _ _ _ (by omega) (by omega) q2 r2 r3 chN
    rw [if_neg c1, if_neg c1]
    obtain ⟨q', k', a1, a2, a3, a4, a5, a6, a7⟩ := cho.resolve_left c1
    have b3 : D * k' ≤ 99 * 10 := Nat.mul_le_mul hD a7
    have hz : D * k = 0 ↔ D * k' = 0 := by
      rw [Nat.mul_eq_zero, Nat.mul_eq_zero]
      exact ⟨fun z => Or.inl (z.resolve_right (by omega)), fun z => Or.inl (z.resolve_right (by omega))⟩
    have eb := bb_X (x := x6) (y := y2) (g := g2) (g' := g') (less := l2 - MDN A n m sr cr (iN M ||| bt p)) (fall := fall) (a := D * k) (b := D * k') (by omega) (by omega) hz
    rw [← a5] at eb
    rw [xqb (x := (iN (D * k)).toInt64), xqb (x := Fx_C_isBetterBuyX (l2 - MDN A n m sr cr (iN M ||| bt p)) (iN (D * k)).toInt64 fall ct.toInt64 x6 g2), eb, xqb (x := Fx_M_isSoonerX (l2 - MDN A n m sr cr (iN M ||| bt p)) (iN (D * k)) fall ct y2 g')]
    cases Fx_M_isSoonerX (l2 - MDN A n m sr cr (iN M ||| bt p)) (iN (D * k)) fall ct y2 g'
    · rw [if_neg Bool.false_ne_true, if_neg Bool.false_ne_true]
      exact ih (p + 1) g2 y2 c fall ct _ (by omega) (by omega) q2 r2 r3 cho
    · rw [if_pos rfl, if_pos rfl, xqb]
      exact ih (p + 1) g2 y2 _ _ _ _ (by omega) (by omega) q2 r2 r3 chN
theorem nst_X {x6 : MM} {g : GG} {g' : GG} {y1 : MM} {n m P M D : Nat} {A : Nat → Nat → Int32} {sr cr ch : Nat → Int32} {left : Int32} (ha : HA x6 44 n A) (hx : x6 48 0 = iN D) (n9 : n ≤ 9) (aw : AWF n A) (hP : P < 2 ^ n) (hM : M < 512) (hD : D ≤ 99) (ok : OK x6 g n m A sr cr (iN (bset (wkF A) n)) ch) (mr : MRD y1 n m A sr cr) (hd : y1 172 2 = iN D) : ∃ c2 ct2 g2 y2 ch2, Fx_C_nextStepX (iN P &&& (iN M ^^^ (-1))) (iN M) left x6 g = (c2, g2) ∧ Fx_M_nextOfX (iN P) (iN M) left y1 g' = (c2, y2) ∧ OK x6 g2 n m A sr cr (iN (bset (wkF A) n)) ch2 ∧ MRD y2 n m A sr cr ∧ y2 172 2 = iN D ∧ CHO n P M D c2 ct2 := by
  unfold Fx_C_nextStepX Fx_M_nextOfX
  obtain ⟨g2, q1, q2, q3⟩ := cmm_X (s := iN M) ok aw
  obtain ⟨y2, r1, r2, r3⟩ := mmm_X (g := g') (s := iN M) mr hd
  have e10 : (9 - (0 : Int32).toInt).toNat + 1 = 10 := by decide
  rw [q1, c2_mk, r1, c2_mk, e10]
  exact ns_L (g' := g') ha hx n9 aw hP hM hD 10 0 g2 y2 (-1) 0 0 _ (by omega) (by omega) q2 r2 r3 (Or.inl rfl)
theorem st_L {x6 : MM} {g' : GG} {n m P D : Nat} {A : Nat → Nat → Int32} {sr cr : Nat → Int32} {days : Int32} (ha : HA x6 44 n A) (hx : x6 48 0 = iN D) (n9 : n ≤ 9) (aw : AWF n A) (hP : P < 2 ^ n) (hD : D ≤ 99) (h5 : pcn P 9 ≤ 5) : ∀ (f f' k M : Nat) (g : GG) (y1 : MM) (left : Int32) (ch : Nat → Int32), 5 - k < f → 5 - k < f' → k ≤ 5 → M < 512 → pcn M 9 = k → (∀ i, M.testBit i = true → P.testBit i = true) → left + cst A (iN D) (iN M) n = days → OK x6 g n m A sr cr (iN (bset (wkF A) n)) ch → MRD y1 n m A sr cr → y1 172 2 = iN D → (Fx_C_stepByStepX_L22 (iN P) x6 f (iN M) left (iN k) g).1 = (Fx_M_stepsX_L28 (iN P) days g' f' (iN M) y1).1 := by
  intro f
  induction f with
  | zero => intro f' k M g y1 left ch h1; omega
  | succ f ih =>
    intro f' k M g y1 left ch h1 h2 h3 hM hpc hsub hl ok mr hd
    obtain ⟨f', rfl⟩ : ∃ j, f' = j + 1 := ⟨f' - 1, by omega⟩
    have el : days - cst A (iN D) (iN M) n = left := by rw [← hl, Int32.add_sub_cancel]
    obtain ⟨c2, ct2, g2, y2, ch2, n1, n2, n3, n4, n5, n6⟩ := nst_X (g' := g') (left := left) ha hx n9 aw hP hM hD ok mr hd
    rw [Fx_C_stepByStepX_L22_s, Fx_M_stepsX_L28_s, xqb (x := Fx_M_costOfX (iN M) y1 g'), co2_X mr hd, el, n2]
    by_cases k5 : 5 ≤ k
    · rw [if_pos (show (5 : Int32) ≤ iN k from (iN_le (a := 5) (by omega) (by omega)).mpr k5), c2_mk]
      have c1 : c2 = -1 := by
        rcases n6 with z | ⟨q, k', a1, a2, a3, a4, -⟩
        · exact z
        · have := (pcn_le hsub a3 a4 9).2 (by omega)
          omega
      rw [if_pos c1, Int32.or_zero]
    · rw [if_neg (show ¬ (5 : Int32) ≤ iN k from fun z => k5 ((iN_le (a := 5) (by omega) (by omega)).mp z)), n1, c2_mk, c2_mk]
      by_cases c1 : c2 = -1
      · rw [if_pos c1, if_pos c1, Int32.or_zero]
      · obtain ⟨q, k', a1, a2, a3, a4, -⟩ := n6.resolve_left c1
        have q9 : q < 9 := by omega
        have h2q : M ||| 2 ^ q < 512 := Nat.or_lt_two_pow (n := 9) hM (Nat.pow_lt_pow_right (by decide) q9)
        have eo : iN M ||| bt q = iN (M ||| 2 ^ q) := by rw [btE (by omega), iN_or]
        have eo' : iN M ||| (1 <<< (iN q &&& 31)) = iN (M ||| 2 ^ q) := eo
        rw [if_neg c1, if_neg c1, a2, xqb, bXI (by omega), xqb, xqb, dm_X ha n9 hx, iN_s, eo, eo']
        refine ih f' (k + 1) (M ||| 2 ^ q) g2 y2 _ ch2 (by omega) (by omega) (by omega) h2q ?_ ?_ ?_ n3 n4 n5
        · rw [pcn_or a4, if_pos (by omega), hpc]
        · intro i hi
          rw [Nat.testBit_or, Nat.testBit_two_pow] at hi
          by_cases y : q = i
          · rw [← y]; exact a3
          · rw [decide_eq_false y, Bool.or_false] at hi
            exact hsub i hi
        · rw [cst_o hM q9 a4 n n9, cst_b q9 n n9, Int32.add_comm (cst A (iN D) (iN M) n), ← Int32.add_assoc, Int32.sub_add_cancel]
          exact hl
theorem R5_steps {u v u1 v2 : MM} {g g' g1 : GG} {hill plan ponds days z w : Int32} (h : RLY u v) (b5 : Bd 0 2 (u 1 5)) (b7 : Bd 0 3 (u 1 7)) (hd : HD v) (pl : PL v) (e1 : (z, u1, g1) = Fx_P_stepsX hill plan ponds days u g) (e2 : (w, v2) = Fx_M_stepsX hill plan ponds days v g') : z = w := by
  obtain ⟨b, x, y, p1, p2, p3⟩ := cm_Y (g := g) (g' := g') (hill := hill) (plan := plan) (ponds := ponds) h b5 b7 hd pl
  unfold Fx_P_stepsX at e1
  unfold Fx_M_stepsX at e2
  rw [p1] at e1
  rw [xqb, p2] at e2
  cases b
  · rw [if_neg Bool.false_ne_true, c2_mk, if_neg Bool.false_ne_true] at e1 e2
    exact (congrArg Prod.fst e1).trans (congrArg Prod.fst e2).symm
  rw [if_pos rfl] at e1 e2
  by_cases hl : 0 ≤ days ∧ days ≤ 9999
  rotate_left
  · have ef : ¬ (decide (0 ≤ days) && decide (days ≤ 9999)) = true := fun z => by
      obtain ⟨z1, z2⟩ := (Bool.and_eq_true _ _).mp z
      exact hl ⟨of_decide_eq_true z1, of_decide_eq_true z2⟩
    rw [if_neg ef, c2_mk, if_neg Bool.false_ne_true] at e2
    by_cases l1 : days < 0
    · rw [if_pos l1, c2_mk, if_neg Bool.false_ne_true] at e1
      exact (congrArg Prod.fst e1).trans (congrArg Prod.fst e2).symm
    · have l2 : (9999 : Int32) < days := Int32.not_le.mp (fun z => hl ⟨Int32.not_lt.mp l1, z⟩)
      rw [if_neg l1, if_pos l2, c2_mk, if_neg Bool.false_ne_true] at e1
      exact (congrArg Prod.fst e1).trans (congrArg Prod.fst e2).symm
  obtain ⟨n, m, P, L, hP, eP, h5⟩ := p3 rfl
  obtain ⟨t1, t2⟩ := lim_T hl
  rw [if_neg t1, if_neg t2, c2_mk, if_pos rfl] at e1
  rw [decide_eq_true hl.1, decide_eq_true hl.2, if_pos (show (true && true) = true from rfl), c2_mk, if_pos rfl] at e2
  have n9 := L.1
  have aw := L.2.2.2.2.2.1
  obtain ⟨D, hD, D99⟩ := iN_ex (hi := 99) (show Bd 0 99 (y 172 2) from (L.2.2.2.2.2.2.2.2.2.1 0 (by decide)).2)
  obtain ⟨x6, g7, k1, k2, k3, k4⟩ := lo_M (g := g) L
  obtain ⟨y2, r1, r2, r3⟩ := md_R (g := g) (g' := g') L
  rw [hD] at k4 r3
  have e6 : (5 - (0 : Int32).toInt).toNat + 1 = 6 := by decide
  have e512 : (511 - (0 : Int32).toInt).toNat + 1 = 512 := by decide
  unfold Fx_C_stepByStepX at e1
  rw [xqb, k1, c2_mk, e6, eP] at e1
  rw [r1, e512, eP] at e2
  have z0 : ∀ i, Nat.testBit 0 i = false := fun i => Nat.zero_testBit i
  have k := st_L (g' := g') (days := days) k3 k4 n9 aw hP D99 h5 6 512 0 0 g7 y2 days _ (by omega) (by omega) (by omega) (by omega) (by decide) (fun i hi => absurd hi (by rw [z0 i]; decide)) (by rw [show iN 0 = 0 from rfl, cst_0 n n9, Int32.add_zero]) k2 r2 r3
  have z1 : z = (Fx_C_stepByStepX_L22 (iN P) x6 6 (iN 0) days (iN 0) g7).1 := by
    obtain ⟨R, hR⟩ : ∃ R, R = Fx_C_stepByStepX_L22 (iN P) x6 6 (iN 0) days (iN 0) g7 := ⟨_, rfl⟩
    have e3 : (z, u1, g1) = xq_c3 R fun v14 u15 g16 => (v14, u15, g16) := by rw [hR]; exact e1
    rw [← hR]
    exact congrArg Prod.fst e3
  exact z1.trans (k.trans (congrArg Prod.fst e2).symm)
