section
/-! sets, weights, sums over storms -/
theorem inN : ∀ k, k < 512 → ∀ q, q < 9 → inB (iN k) q = k.testBit q := by decide +kernel
/-- the set of the first ponds that f tells -/
def bset (f : Nat → Bool) : Nat → Nat
  | 0 => 0
  | p + 1 => if f p = true then bset f p + 2 ^ p else bset f p
theorem bset_lt {f : Nat → Bool} : ∀ p, bset f p < 2 ^ p := by
  intro p
  induction p with
  | zero => exact (by decide : (0 : Nat) < 2 ^ 0)
  | succ p ih =>
    show (if f p = true then bset f p + 2 ^ p else bset f p) < 2 ^ (p + 1)
    rw [Nat.pow_succ]
    split <;> omega
theorem tb_add {k p q : Nat} (hk : k < 2 ^ p) (hq : q ≤ p) : (k + 2 ^ p).testBit q = if q = p then true else k.testBit q := by
  rw [Nat.add_comm]
  by_cases y : q = p
  · rw [if_pos y, y, Nat.testBit_two_pow_add_eq, Nat.testBit_lt_two_pow hk]
    rfl
  · rw [if_neg y, Nat.testBit_two_pow_add_gt (by omega)]
theorem bset_b {f : Nat → Bool} : ∀ p q, q < p → (bset f p).testBit q = f q := by
  intro p
  induction p with
  | zero => intro q h; omega
  | succ p ih =>
    intro q h
    show (if f p = true then bset f p + 2 ^ p else bset f p).testBit q = f q
    by_cases y : q = p
    · rw [y]
      by_cases w : f p = true
      · rw [if_pos w, tb_add (bset_lt p) (Nat.le_refl p), if_pos rfl, w]
      · rw [if_neg w, Nat.testBit_lt_two_pow (bset_lt p), (Bool.not_eq_true _).mp w]
    · by_cases w : f p = true
      · rw [if_pos w, tb_add (bset_lt p) (by omega), if_neg y]
        exact ih q (by omega)
      · rw [if_neg w]
        exact ih q (by omega)
theorem bset_or {f : Nat → Bool} {p : Nat} (hp : p < 9) : iN (bset f p) ||| bt p = iN (bset f p + 2 ^ p) := by
  have h3 := p2_le (p := p) (by omega)
  have h4 := bset_lt (f := f) p
  exact (bits9 p hp _ (by omega) h4).2.2
theorem iN_and {a b : Nat} (ha : a < 2 ^ 31) (hb : b < 2 ^ 31) : iN a &&& iN b = iN (a &&& b) := by
  refine Int32.toBitVec_inj.mp ?_
  rw [Int32.toBitVec_and]
  show BitVec.ofNat 32 a &&& BitVec.ofNat 32 b = BitVec.ofNat 32 (a &&& b)
  refine BitVec.eq_of_getLsbD_eq (fun i hi => ?_)
  rw [BitVec.getLsbD_and, BitVec.getLsbD_ofNat, BitVec.getLsbD_ofNat, BitVec.getLsbD_ofNat, Nat.testBit_and, decide_eq_true hi]
  rfl
/-- a set within another one -/
theorem sub_0 {b w n : Nat} (hb : b < 2 ^ n) (n9 : n ≤ 9) (h : ∀ p, p < n → b.testBit p = true → w.testBit p = true) : iN b &&& (iN w ^^^ (-1)) = 0 := by
  refine Int32.toBitVec_inj.mp ?_
  rw [Int32.toBitVec_and, Int32.toBitVec_xor]
  show BitVec.ofNat 32 b &&& (BitVec.ofNat 32 w ^^^ BitVec.allOnes 32) = BitVec.ofNat 32 0
  refine BitVec.eq_of_getLsbD_eq (fun i hi => ?_)
  rw [BitVec.getLsbD_and, BitVec.getLsbD_xor, BitVec.getLsbD_ofNat, BitVec.getLsbD_ofNat, BitVec.getLsbD_ofNat, BitVec.getLsbD_allOnes, decide_eq_true hi, Nat.zero_testBit]
  by_cases y : b.testBit i = true
  · have hn : i < n := by
      by_cases z : i < n
      · exact z
      · rw [Nat.testBit_lt_two_pow (Nat.lt_of_lt_of_le hb (Nat.pow_le_pow_right (by decide) (by omega)))] at y
        exact absurd y (by decide)
    rw [h i hn y, y]
    rfl
  · rw [(Bool.not_eq_true _).mp y]
    rfl
/-! weights -/
def fac (ch : Nat → Int32) (b p : Nat) : Int64 := (if b.testBit p = true then ch p else 10 - ch p).toInt64
def wB (ch : Nat → Int32) (b : Nat) : Nat → Int64
  | 0 => 1
  | p + 1 => wB ch b p * fac ch b p
def prB (ch : Nat → Int32) (b : Nat) (c : Int64) : Nat → Int64
  | 0 => c
  | p + 1 => prB ch b c p * fac ch b p
theorem prB_e {ch : Nat → Int32} {b : Nat} {c : Int64} : ∀ p, prB ch b c p = wB ch b p * c := by
  intro p
  induction p with
  | zero =>
    show c = 1 * c
    rw [Int64.one_mul]
  | succ p ih =>
    show prB ch b c p * fac ch b p = wB ch b p * fac ch b p * c
    rw [ih, Int64.mul_assoc, Int64.mul_assoc, Int64.mul_comm c]
theorem wB_c {ch ch2 : Nat → Int32} {b b2 : Nat} : ∀ p, (∀ q, q < p → ch q = ch2 q ∧ b.testBit q = b2.testBit q) → wB ch b p = wB ch2 b2 p := by
  intro p
  induction p with
  | zero => intro _; rfl
  | succ p ih =>
    intro h
    obtain ⟨h1, h2⟩ := h p (by omega)
    show wB ch b p * fac ch b p = wB ch2 b2 p * fac ch2 b2 p
    unfold fac
    rw [ih (fun q hq => h q (by omega)), h1, h2]
theorem wB_0 {ch : Nat → Int32} {b q : Nat} (hq : b.testBit q = true) (h0 : ch q = 0) : ∀ p, q < p → wB ch b p = 0 := by
  intro p
  induction p with
  | zero => intro h; omega
  | succ p ih =>
    intro h
    show wB ch b p * fac ch b p = 0
    by_cases y : q = p
    · subst y
      unfold fac
      rw [if_pos hq, h0]
      exact Int64.mul_zero
    · rw [ih (by omega)]
      exact Int64.zero_mul
/-! sums over storms -/
def fB {α : Type} (F : Nat → α → α) : Nat → α → α
  | 0, a => a
  | b + 1, a => F b (fB F b a)
def fR {α : Type} (F : Nat → Nat → α → α) (N : Nat) : Nat → α → α
  | 0, a => a
  | r + 1, a => fB (F r) N (fR F N r a)
theorem fB_c {α : Type} {F G : Nat → α → α} : ∀ (n : Nat) (a : α), (∀ b a, b < n → F b a = G b a) → fB F n a = fB G n a := by
  intro n
  induction n with
  | zero => intro a _; rfl
  | succ n ih =>
    intro a h
    show F n (fB F n a) = G n (fB G n a)
    rw [ih a (fun b a hb => h b a (by omega)), h n _ (by omega)]
theorem fR_c {α : Type} {F G : Nat → Nat → α → α} {N : Nat} : ∀ (m : Nat) (a : α), (∀ r b a, r < m → b < N → F r b a = G r b a) → fR F N m a = fR G N m a := by
  intro m
  induction m with
  | zero => intro a _; rfl
  | succ m ih =>
    intro a h
    show fB (F m) N (fR F N m a) = fB (G m) N (fR G N m a)
    rw [ih a (fun r b a hr hb => h r b a (by omega) hb)]
    exact fB_c N _ (fun b a hb => h m b a (by omega) hb)
/-! a storm does not hang on the chances -/
theorem stN_4 {A B : Nat → Nat → Int32} {n : Nat} {st bk kp : Int32} (h : ∀ p c, c ≠ 4 → A p c = B p c) : ∀ p, stN A n st bk kp p = stN B n st bk kp p := by
  have h0 : ∀ p, A p 0 = B p 0 := fun p => h p 0 (by decide)
  have h1 : ∀ p, A p 1 = B p 1 := fun p => h p 1 (by decide)
  have h2 : ∀ p, A p 2 = B p 2 := fun p => h p 2 (by decide)
  have h3 : ∀ p, A p 3 = B p 3 := fun p => h p 3 (by decide)
  have h8 : ∀ p, A p 8 = B p 8 := fun p => h p 8 (by decide)
  have h9 : ∀ p, A p 9 = B p 9 := fun p => h p 9 (by decide)
  have h10 : ∀ p, A p 10 = B p 10 := fun p => h p 10 (by decide)
  have h11 : ∀ p, A p 11 = B p 11 := fun p => h p 11 (by decide)
  have h12 : ∀ p, A p 12 = B p 12 := fun p => h p 12 (by decide)
  have h15 : ∀ p, A p 15 = B p 15 := fun p => h p 15 (by decide)
  have hhr : ∀ w p, hrB A w p = hrB B w p := by
    intro w p
    have e : HRS A w p = HRS B w p := by
      unfold HRS
      simp only [h8, h9, h11, h12]
    unfold hrB
    rw [e]
  have hw : ∀ (a : Int32) (x : Bool) p c, wat A a x p c = wat B a x p c := fun a x p c => by unfold wat; rw [h1, h2]
  have hg : ∀ p w, gos A bk kp p w = gos B bk kp p w := fun p w => by unfold gos; rw [h0, h3, h15]
  have hl : ∀ (x y : Bool) p w, lef A kp x y p w = lef B kp x y p w := fun x y p w => by unfold lef; rw [h0, h1, h15]
  have ht : ∀ p l, trn A n p l = trn B n p l := fun p l => by unfold trn; rw [h9, h10]
  have ha : ∀ p l W, pA A n p l W = pA B n p l W := fun p l W => by unfold pA; rw [h9, h10]
  have hpw : ∀ p l W, pW A n p l W = pW B n p l W := fun p l W => by unfold pW; rw [h8, ha, ht]
  have hpb : ∀ p l b, pB A n p l b = pB B n p l b := fun p l b => by unfold pB; rw [h8, ht]
  intro p
  induction p with
  | zero => rfl
  | succ p ih =>
    show stp A n st bk kp p (stN A n st bk kp p) = stp B n st bk kp p (stN B n st bk kp p)
    rw [ih]
    unfold stp stq
    rw [hhr, hw, hg, hl, hpw, hpb]
theorem hro_4 {A B : Nat → Nat → Int32} {o s : Int32} (h : ∀ p c, c ≠ 4 → A p c = B p c) : ∀ p, hro A o s p = hro B o s p := by
  intro p
  induction p with
  | zero => rfl
  | succ p ih =>
    show hro A o s p + (if inB s p = true ∧ (o = -1 ∨ A p 6 = o) then A p 5 else 0) = hro B o s p + (if inB s p = true ∧ (o = -1 ∨ B p 6 = o) then B p 5 else 0)
    rw [ih, h p 5 (by decide), h p 6 (by decide)]
/-- harm of those that are counted -/
theorem hrm_and {A : Nat → Nat → Int32} {o : Int32} {k c n : Nat} (n9 : n ≤ 9) (hk : k < 2 ^ n) (hc : c < 2 ^ n) (h : ∀ p, p < n → (c.testBit p = true ↔ (o = -1 ∨ A p 6 = o))) : ∀ p, p ≤ n → hrm A (iN k &&& iN c) p = hro A o (iN k) p := by
  have h3 := p2_le n9
  intro p
  induction p with
  | zero => intro _; rfl
  | succ p ih =>
    intro hp
    have ea : iN k &&& iN c = iN (k &&& c) := iN_and (by omega) (by omega)
    have hl : k &&& c ≤ k := Nat.and_le_left
    show (if inB (iN k &&& iN c) p = true then hrm A (iN k &&& iN c) p + A p 5 else hrm A (iN k &&& iN c) p) = hro A o (iN k) p + (if inB (iN k) p = true ∧ (o = -1 ∨ A p 6 = o) then A p 5 else 0)
    rw [ih (by omega), ea, inN _ (by omega) p (by omega), inN k (by omega) p (by omega), Nat.testBit_and]
    have hh := h p (by omega)
    by_cases y1 : k.testBit p = true
    · by_cases y2 : c.testBit p = true
      · rw [y1, y2, if_pos (show (true && true) = true from rfl), if_pos ⟨rfl, hh.mp y2⟩]
      · rw [y1, (Bool.not_eq_true _).mp y2, if_neg (show ¬ (true && false) = true from Bool.false_ne_true), if_neg (fun z => y2 (hh.mpr z.2)), Int32.add_zero]
    · rw [(Bool.not_eq_true _).mp y1, Bool.false_and, if_neg Bool.false_ne_true, if_neg (fun z => Bool.false_ne_true z.1), Int32.add_zero]
end
section
/-! the class's weights, and what hangs on them -/
theorem zl_c {g : GG} {a b i : Nat} {x : Int64} (h : b ≠ a) : ml g a i x b = g b := if_neg h
theorem zl_i {g : GG} {a i j : Nat} {x : Int64} (h : j ≠ i) : ml g a i x a j = g a j := by
  unfold ml
  rw [if_pos rfl]
  unfold vp_updL
  rw [if_neg h]
theorem btE {p : Nat} (hp : p < 10) : bt p = iN (2 ^ p) := (all_e p hp).2.1
theorem we_I {ih : Int32 → GG → GG} {p : Nat} {ch : Nat → Int32} {c : Int32} (hp : p < 9) (hc : ch p = c) : ∀ (f s : Nat) (g : GG), 2 ^ p - s < f → s ≤ 2 ^ p → (∀ b, b < 2 ^ p → g 68 b = if b < s then wB ch b p * (10 - c).toInt64 else wB ch b p) → (∀ b, b < s → g 68 (b + 2 ^ p) = wB ch b p * c.toInt64) → ∃ g', Fx_O_weighX_L64 ih (iN p) c (bt p) f (iN s) g = ih (iN (p + 1)) g' ∧ (∀ b, b < 2 ^ (p + 1) → g' 68 b = wB ch b (p + 1)) ∧ ∀ a, a ≠ 68 → g' a = g a := by
  have h3 := p2_le (p := p) (by omega)
  intro f
  induction f with
  | zero => intro s g h; omega
  | succ f ih' =>
    intro s g h1 h2 k1 k2
    rw [Fx_O_weighX_L64_s, btE (by omega), iN_s]
    by_cases q : 2 ^ p ≤ s
    · rw [if_pos ((iN_le (by omega) (by omega)).mpr q)]
      refine ⟨g, rfl, fun b hb => ?_, fun _ _ => rfl⟩
      rw [Nat.pow_succ] at hb
      show g 68 b = wB ch b p * fac ch b p
      unfold fac
      by_cases y : b < 2 ^ p
      · rw [k1 b y, if_pos (by omega), Nat.testBit_lt_two_pow y, if_neg (by decide), hc]
      · obtain ⟨d, hd⟩ : ∃ d, b = d + 2 ^ p := ⟨b - 2 ^ p, by omega⟩
        have hd2 : d < 2 ^ p := by omega
        rw [hd, k2 d (by omega), tb_add hd2 (Nat.le_refl p), if_pos rfl, if_pos rfl, hc, wB_c (ch2 := ch) (b := d + 2 ^ p) (b2 := d) p (fun q hq => ⟨rfl, by rw [tb_add hd2 (by omega), if_neg (by omega)]⟩)]
    · have e1 : iN s ||| iN (2 ^ p) = iN (s + 2 ^ p) := by
        rw [← btE (p := p) (by omega)]
        exact (bits9 p hp s (by omega) (by omega)).2.2
      rw [if_neg (fun z => q ((iN_le (by omega) (by omega)).mp z)), xqb, xqb, xqb, xqb, xqb, xqb, xqb, xqb, e1, iN_cl (by omega), iN_cl (by omega), zl_i (j := s) (i := s + 2 ^ p) (by have := Nat.two_pow_pos p; omega), k1 s (by omega), if_neg (Nat.lt_irrefl s), iN_s]
      obtain ⟨g', g1, g2, g3⟩ := ih' (s + 1) (ml (ml g 68 (s + 2 ^ p) (wB ch s p * c.toInt64)) 68 s (wB ch s p * (10 - c).toInt64)) (by omega) (by omega) (fun b hb => by
        by_cases y : b = s
        · rw [y, ml_e, if_pos (by omega)]
        · rw [zl_i y, zl_i (by omega), k1 b hb]
          by_cases w : b < s
          · rw [if_pos w, if_pos (by omega)]
          · rw [if_neg w, if_neg (by omega)]) (fun b hb => by
        rw [zl_i (by omega)]
        by_cases y : b = s
        · rw [y, ml_e]
        · rw [zl_i (by omega)]
          exact k2 b (by omega))
      rw [btE (by omega)] at g1
      exact ⟨g', g1, g2, fun a ha => by rw [g3 a ha, zl_c ha, zl_c ha]⟩
/-- chances with some mended, some weaker -/
def chM (A : Nat → Nat → Int32) (mended weaker : Int32) (p : Nat) : Int32 := if inB mended p = true then 0 else A p 4 + (if inB weaker p = true then 1 else 0)
theorem we_L {u : MM} {n : Nat} {A : Nat → Nat → Int32} {md wk : Int32} (h : HA u 61 n A) (n9 : n ≤ 9) : ∀ (f p : Nat) (g : GG), n - p < f → p ≤ n → (∀ b, b < 2 ^ p → g 68 b = wB (chM A md wk) b p) → ∃ g', Fx_O_weighX_L9 md wk u f (iN p) g = g' ∧ (∀ b, b < 2 ^ n → g' 68 b = wB (chM A md wk) b n) ∧ ∀ a, a ≠ 68 → g' a = g a := by
  intro f
  induction f with
  | zero => intro p g h1; omega
  | succ f ih =>
    intro p g h1 h2 k
    rw [Fx_O_weighX_L9_s, h.1]
    by_cases q : n ≤ p
    · have e : p = n := by omega
      subst e
      rw [if_pos (Int32.le_refl _)]
      exact ⟨g, rfl, k, fun _ _ => rfl⟩
    · have hp : p < n := by omega
      rw [if_neg (fun z => q ((iN_le (by omega) (by omega)).mp z)), if_neg (show ¬ (9 : Int32) ≤ iN p from fun z => by have := (iN_le (a := 9) (by omega) (by omega)).mp z; omega), xqb, isI, heard_e, show hof u 61 (iN p) (4 : Int32) = A p 4 from ha_r (c := 4) h n9 hp (by decide)]
      have J : ∀ c : Int32, chM A md wk p = c → ∃ g', Fx_O_weighX_J53 (Fx_O_weighX_L9 md wk u f) u (iN p) g c = g' ∧ (∀ b, b < 2 ^ n → g' 68 b = wB (chM A md wk) b n) ∧ ∀ a, a ≠ 68 → g' a = g a := by
        intro c hc
        unfold Fx_O_weighX_J53
        have e257 : (256 - (0 : Int32).toInt).toNat + 1 = 257 := by decide
        have hpp : 2 ^ p ≤ 2 ^ 8 := Nat.pow_le_pow_right (by decide) (by omega)
        rw [xqb, b9I (by omega), e257]
        obtain ⟨g1, a1, a2, a3⟩ := we_I (ih := Fx_O_weighX_L9 md wk u f) (p := p) (ch := chM A md wk) (by omega) hc 257 0 g (by omega) (Nat.zero_le _) (fun b hb => by rw [if_neg (by omega)]; exact k b hb) (fun b hb => by omega)
        have a1' : Fx_O_weighX_L64 (Fx_O_weighX_L9 md wk u f) (iN p) c (bt p) 257 0 g = Fx_O_weighX_L9 md wk u f (iN (p + 1)) g1 := a1
        rw [a1']
        obtain ⟨g2, b1, b2, b3⟩ := ih (p + 1) g1 (by omega) (by omega) a2
        exact ⟨g2, b1, b2, fun a ha => (b3 a ha).trans (a3 a ha)⟩
      by_cases y : inB md p = true
      · rw [if_pos y]
        exact J 0 (by unfold chM; rw [if_pos y])
      · rw [if_neg y]
        exact J _ (by unfold chM; rw [if_neg y])
theorem we_X {u : MM} {g : GG} {n : Nat} {A : Nat → Nat → Int32} {md wk : Int32} (h : HA u 61 n A) (n9 : n ≤ 9) : ∃ g', Fx_O_weighX md wk u g = g' ∧ (∀ b, b < 2 ^ n → g' 68 b = wB (chM A md wk) b n) ∧ ∀ a, a ≠ 68 → g' a = g a := by
  unfold Fx_O_weighX
  have e10 : (9 - (0 : Int32).toInt).toNat + 1 = 10 := by decide
  rw [xqb, e10]
  obtain ⟨g', g1, g2, g3⟩ := we_L (md := md) (wk := wk) h n9 10 0 (ml g 68 0 1) (by omega) (by omega) (fun b hb => by
    have e : b = 0 := by rw [Nat.pow_zero] at hb; omega
    rw [e, ml_e]
    rfl)
  exact ⟨g', g1, g2, fun a ha => (g3 a ha).trans (zl_c ha)⟩
/-- the class's odds are ready: storms of banks within mg -/
def OK (x : MM) (g : GG) (n m : Nat) (A : Nat → Nat → Int32) (sr cr : Nat → Int32) (mg : Int32) (ch : Nat → Int32) : Prop := n ≤ 9 ∧ m ≤ 4 ∧ HA x 61 n A ∧ x 61 2 = iN m ∧ (∀ i, i < m → x 63 i = sr i ∧ x 64 i = cr i) ∧ (∀ s, s < 2 ^ n → x 67 s = hrm A (iN s) n) ∧ (∀ r b, r < m → b < 2 ^ n → iN b &&& (mg ^^^ (-1)) = 0 → x 66 (512 * r + b) = (stN A n (sr r) (iN b) (-1) n).1) ∧ ∀ b, b < 2 ^ n → g 68 b = wB ch b n
theorem ok_w {x : MM} {g : GG} {n m : Nat} {A : Nat → Nat → Int32} {sr cr ch : Nat → Int32} {mg md wk : Int32} (h : OK x g n m A sr cr mg ch) : ∃ g', Fx_O_weighX md wk x g = g' ∧ OK x g' n m A sr cr mg (chM A md wk) ∧ ∀ a, a ≠ 68 → g' a = g a := by
  obtain ⟨n9, m4, ha, h1, h2, h3, h4, h5⟩ := h
  obtain ⟨g', g1, g2, g3⟩ := we_X (g := g) (md := md) (wk := wk) ha n9
  exact ⟨g', g1, ⟨n9, m4, ha, h1, h2, h3, h4, g2⟩, g3⟩
theorem stm_X {x : MM} {g : GG} {r b : Nat} (hr : r < 4) (hb : b < 512) : Fx_O_isStormX (iN r) (iN b) x g = true := by
  unfold Fx_O_isStormX
  rw [if_neg (show ¬ iN r < (0 : Int32) from fun z => by have := (iN_lt (b := 0) (by omega) (by omega)).mp z; omega), if_neg (show ¬ (4 : Int32) ≤ iN r from fun z => by have := (iN_le (a := 4) (by omega) (by omega)).mp z; omega), if_neg (show ¬ iN b < (0 : Int32) from fun z => by have := (iN_lt (b := 0) (by omega) (by omega)).mp z; omega), if_neg (show ¬ (512 : Int32) ≤ iN b from fun z => by have := (iN_le (a := 512) (by omega) (by omega)).mp z; omega)]
theorem par_X {x : MM} {g : GG} {n m r b : Nat} {A : Nat → Nat → Int32} {sr cr ch : Nat → Int32} {mg : Int32} (h : OK x g n m A sr cr mg ch) (hr : r < m) (hb : b < 2 ^ n) : Fx_O_partsX (iN r) (iN b) x g = wB ch b n * (cr r).toInt64 := by
  obtain ⟨n9, m4, ha, h1, h2, h3, h4, h5⟩ := h
  have p2 := p2_le n9
  unfold Fx_O_partsX Fx_H_chanceOfX
  rw [xqb, stm_X (by omega) (by omega), if_pos rfl, xqb, xqb, xqb, xqb, iN_cl (by omega), h5 b hb, if_neg (show ¬ iN r < (0 : Int32) from fun z => by have := (iN_lt (b := 0) (by omega) (by omega)).mp z; omega), h1, if_neg (fun z => by have := (iN_le (by omega) (by omega)).mp z; omega), xqb, iN_cl (by omega), show x (61 + 3) r = cr r from (h2 r hr).2]
theorem wen_X {x : MM} {g : GG} {n m r b : Nat} {A : Nat → Nat → Int32} {sr cr ch : Nat → Int32} {mg : Int32} (h : OK x g n m A sr cr mg ch) (hr : r < m) (hb : b < 2 ^ n) (hg : iN b &&& (mg ^^^ (-1)) = 0) : Fx_O_wentByX (iN r) (iN b) x g = (stN A n (sr r) (iN b) (-1) n).1 := by
  obtain ⟨n9, m4, ha, h1, h2, h3, h4, h5⟩ := h
  have p2 := p2_le n9
  unfold Fx_O_wentByX
  have e : ((iN r * 512) + iN b).toNatClampNeg = 512 * r + b := by
    show (iN r * iN 512 + iN b).toNatClampNeg = _
    rw [iN_m, iN_a, iN_cl (by omega)]
    omega
  rw [xqb, stm_X (by omega) (by omega), if_pos rfl, xqb, e]
  exact h4 r b hr hb hg
/-- banks of storms that have parts can go -/
def SUP (n : Nat) (mg : Int32) (ch : Nat → Int32) : Prop := ∀ b, b < 2 ^ n → ¬ wB ch b n = 0 → iN b &&& (mg ^^^ (-1)) = 0
theorem sup_p {n b : Nat} {mg : Int32} {ch : Nat → Int32} {c : Int64} (h : SUP n mg ch) (hb : b < 2 ^ n) (q : ¬ lg_cmp (wB ch b n * c) (0 : Int64) ≤ 0) : iN b &&& (mg ^^^ (-1)) = 0 := by
  refine h b hb (fun z => q ?_)
  rw [z, Int64.zero_mul]
  exact (lg_cmp_le _ _).mpr (Int64.le_refl _)
/-- a storm's part of a sum -/
noncomputable def mnF (A : Nat → Nat → Int32) (n : Nat) (sr cr ch : Nat → Int32) (H : Int32 → Int32) (r b : Nat) (a : Int64) : Int64 := if lg_cmp (wB ch b n * (cr r).toInt64) (0 : Int64) ≤ 0 then a else a + (wB ch b n * (cr r).toInt64) * (H (stN A n (sr r) (iN b) (-1) n).1).toInt64
theorem mnF_0 {A : Nat → Nat → Int32} {n r b : Nat} {sr cr ch : Nat → Int32} {H : Int32 → Int32} {a : Int64} (h : lg_cmp (wB ch b n * (cr r).toInt64) (0 : Int64) ≤ 0) : mnF A n sr cr ch H r b a = a := if_pos h
theorem mnF_1 {A : Nat → Nat → Int32} {n r b : Nat} {sr cr ch : Nat → Int32} {H : Int32 → Int32} {a : Int64} (h : ¬ lg_cmp (wB ch b n * (cr r).toInt64) (0 : Int64) ≤ 0) : mnF A n sr cr ch H r b a = a + (wB ch b n * (cr r).toInt64) * (H (stN A n (sr r) (iN b) (-1) n).1).toInt64 := if_neg h
theorem mo_I {x : MM} {g : GG} {n m r c : Nat} {A : Nat → Nat → Int32} {sr cr ch : Nat → Int32} {mg : Int32} {ih : Int64 → Int32 → Int64} (h : OK x g n m A sr cr mg ch) (su : SUP n mg ch) (hr : r < m) (hc : c < 2 ^ n) (a0 : Int64) : ∀ (f b : Nat), 2 ^ n - b < f → b ≤ 2 ^ n → Fx_O_meanOfX_L20 ih (iN c) x g (iN r) f (fB (mnF A n sr cr ch (fun w => hrm A (w &&& iN c) n) r) b a0) (iN b) = ih (fB (mnF A n sr cr ch (fun w => hrm A (w &&& iN c) n) r) (2 ^ n) a0) (iN (r + 1)) := by
  have n9 := h.1
  have p2 := p2_le n9
  have pp := Nat.two_pow_pos n
  intro f
  induction f with
  | zero => intro b h1; omega
  | succ f ihf =>
    intro b h1 h2
    rw [Fx_O_meanOfX_L20_s, all_X h.2.2.1.1 n9, xqb, iN_s]
    by_cases q : 2 ^ n ≤ b
    · rw [if_pos ((iN_lt (by omega) (by omega)).mpr (by omega)), show b = 2 ^ n by omega]
    · have hb : b < 2 ^ n := by omega
      have e : fB (mnF A n sr cr ch (fun w => hrm A (w &&& iN c) n) r) (b + 1) a0 = mnF A n sr cr ch (fun w => hrm A (w &&& iN c) n) r b (fB (mnF A n sr cr ch (fun w => hrm A (w &&& iN c) n) r) b a0) := rfl
      have k := ihf (b + 1) (by omega) (by omega)
      rw [e] at k
      rw [if_neg (fun z => by have := (iN_lt (by omega) (by omega)).mp z; omega), xqb, par_X h hr hb, xqb]
      unfold Fx_O_meanOfX_J73
      rw [iN_s]
      by_cases z : lg_cmp (wB ch b n * (cr r).toInt64) (0 : Int64) ≤ 0
      · rw [if_pos z]
        rw [mnF_0 z] at k
        exact k
      · have hg := sup_p su hb z
        obtain ⟨w, hw, ew⟩ := (st_sb (A := A) (n := n) (st := sr r) (bk := iN b) (kp := -1) n n9).1
        have el : w &&& c ≤ w := Nat.and_le_left
        rw [if_neg z, xqb, wen_X h hr hb hg, xqb, xqb, xqb, xqb, ew, iN_and (by omega) (by omega), iN_cl (by omega), h.2.2.2.2.2.1 _ (by omega)]
        rw [mnF_1 z, ew, iN_and (by omega) (by omega)] at k
        exact k
theorem mo_L {x : MM} {g : GG} {n m c : Nat} {A : Nat → Nat → Int32} {sr cr ch : Nat → Int32} {mg : Int32} (h : OK x g n m A sr cr mg ch) (su : SUP n mg ch) (hc : c < 2 ^ n) : ∀ (f r : Nat), m - r < f → r ≤ m → Fx_O_meanOfX_L5 (iN c) x g f (fR (mnF A n sr cr ch (fun w => hrm A (w &&& iN c) n)) (2 ^ n) r 0) (iN r) = fR (mnF A n sr cr ch (fun w => hrm A (w &&& iN c) n)) (2 ^ n) m 0 := by
  have m4 := h.2.1
  have p2 := p2_le h.1
  intro f
  induction f with
  | zero => intro r h1; omega
  | succ f ihf =>
    intro r h1 h2
    rw [Fx_O_meanOfX_L5_s, h.2.2.2.1]
    by_cases q : m ≤ r
    · rw [if_pos ((iN_le (by omega) (by omega)).mpr q), show r = m by omega]
    · have e513 : (512 - (0 : Int32).toInt).toNat + 1 = 513 := by decide
      rw [if_neg (fun z => q ((iN_le (by omega) (by omega)).mp z)), e513]
      have k := mo_I (ih := Fx_O_meanOfX_L5 (iN c) x g f) h su (show r < m by omega) hc (fR (mnF A n sr cr ch (fun w => hrm A (w &&& iN c) n)) (2 ^ n) r 0) 513 0 (by omega) (Nat.zero_le _)
      exact Eq.trans k (ihf (r + 1) (by omega) (by omega))
/-- the class's mean -/
theorem mo_X {x : MM} {g : GG} {n m c : Nat} {A : Nat → Nat → Int32} {sr cr ch : Nat → Int32} {mg : Int32} (h : OK x g n m A sr cr mg ch) (su : SUP n mg ch) (hc : c < 2 ^ n) : Fx_O_meanOfX (iN c) x g = fR (mnF A n sr cr ch (fun w => hrm A (w &&& iN c) n)) (2 ^ n) m 0 := by
  have m4 := h.2.1
  unfold Fx_O_meanOfX
  have e5 : (4 - (0 : Int32).toInt).toNat + 1 = 5 := by decide
  rw [e5]
  exact mo_L h su hc 5 0 (by omega) (by omega)
end
section
/-! all storms of the hill in cell 44: the class's look -/
theorem lh44_L {u2 : MM} {g : GG} {n : Nat} {A : Nat → Nat → Int32} {kp mg : Int32} (n9 : n ≤ 9) : ∀ (f s : Nat) (x : MM), 2 ^ n - s < f → s ≤ 2 ^ n → HA x 61 n A → (∀ t, t < s → x 67 t = hrm A (iN t) n) → ∃ y, Fx_O_look_44X_L11 kp mg g u2 f (iN s) x = Fx_O_look_44X_L56 kp mg g u2 5 (iN 0) y ∧ (∀ t, t < 2 ^ n → y 67 t = hrm A (iN t) n) ∧ ∀ c, c ≠ 67 → y c = x c := by
  have p2 := p2_le n9
  have pp := Nat.two_pow_pos n
  intro f
  induction f with
  | zero => intro s x h; omega
  | succ f ih =>
    intro s x h1 h2 ha k
    rw [Fx_O_look_44X_L11_s, all_X ha.1 n9, xqb]
    by_cases q : 2 ^ n ≤ s
    · have e5 : (4 - (0 : Int32).toInt).toNat + 1 = 5 := by decide
      rw [if_pos ((iN_lt (by omega) (by omega)).mpr (by omega)), e5]
      exact ⟨x, rfl, fun t ht => k t (by omega), fun _ _ => rfl⟩
    · rw [if_neg (fun z => by have := (iN_lt (by omega) (by omega)).mp z; omega), if_neg (show ¬ (512 : Int32) ≤ iN s from fun z => by have := (iN_le (a := 512) (by omega) (by omega)).mp z; omega), hm_X ha n9, xqb, xqb, iN_cl (by omega), iN_s]
      obtain ⟨y, y1, y2, y3⟩ := ih (s + 1) (ms x 67 s (hrm A (iN s) n)) (by omega) (by omega) (ha_c ha (ms_c1 (by decide)) (ms_c1 (by decide))) (fun t ht => by
        by_cases w : t = s
        · rw [w, ms_e1]
        · rw [ms_i1 w]; exact k t (by omega))
      exact ⟨y, y1, y2, fun c hc => (y3 c hc).trans (ms_c1 hc)⟩
/-- which storms are known -/
def KN44 (x : MM) (A : Nat → Nat → Int32) (n : Nat) (sr : Nat → Int32) (mg : Int32) (R B : Nat) : Prop := ∀ r b, b < 2 ^ n → r < R ∨ (r = R ∧ b < B) → iN b &&& (mg ^^^ (-1)) = 0 → x 66 (512 * r + b) = (stN A n (sr r) (iN b) (-1) n).1
theorem lb44_L {ih : Int32 → MM → MM × GG} {g : GG} {n m r : Nat} {A : Nat → Nat → Int32} {sr : Nat → Int32} {mg : Int32} (n9 : n ≤ 9) (m4 : m ≤ 4) (hr : r < m) : ∀ (f b : Nat) (x : MM), 2 ^ n - b < f → b ≤ 2 ^ n → HA x 61 n A → x 61 2 = iN m → x 63 r = sr r → KN44 x A n sr mg r b → ∃ y, Fx_O_look_44X_L77 ih (-1) mg g (iN r) f (iN b) x = ih (iN (r + 1)) y ∧ KN44 y A n sr mg (r + 1) 0 ∧ ∀ c, c < 58 ∨ 60 < c → c ≠ 66 → y c = x c := by
  have p2 := p2_le n9
  have pp := Nat.two_pow_pos n
  intro f
  induction f with
  | zero => intro b x h; omega
  | succ f ihf =>
    intro b x h1 h2 ha hm hs k
    rw [Fx_O_look_44X_L77_s, all_X ha.1 n9, xqb, iN_s]
    by_cases q : 2 ^ n ≤ b
    · rw [if_pos ((iN_lt (by omega) (by omega)).mpr (by omega))]
      refine ⟨x, rfl, fun r' b' hb' ho hg => ?_, fun _ _ _ => rfl⟩
      exact k r' b' hb' (by omega) hg
    · unfold Fx_O_look_44X_J150
      rw [if_neg (fun z => by have := (iN_lt (by omega) (by omega)).mp z; omega), if_neg (show ¬ (512 : Int32) ≤ iN b from fun z => by have := (iN_le (a := 512) (by omega) (by omega)).mp z; omega), iN_s]
      by_cases y : iN b &&& (mg ^^^ (-1)) = 0
      · have es : Fx_H_stepsOfX (iN r) 61 x g = sr r := by
          unfold Fx_H_stepsOfX
          rw [if_neg (show ¬ iN r < (0 : Int32) from fun z => by have := (iN_lt (b := 0) (by omega) (by omega)).mp z; omega), hm, if_neg (fun z => by have := (iN_le (by omega) (by omega)).mp z; omega), xqb, iN_cl (by omega)]
          exact hs
        obtain ⟨y1, a0, a1, a2, a3, a4⟩ := rn58_X (g := g) (st := sr r) (bk := iN b) (kp := -1) ha (by decide) n9
        have ei : ((iN r * 512) + iN b).toNatClampNeg = 512 * r + b := by
          show (iN r * iN 512 + iN b).toNatClampNeg = _
          rw [iN_m, iN_a, iN_cl (by omega)]
          omega
        rw [if_pos y, xqb, es, xqb, a0, xqb, ei, a1.1]
        obtain ⟨z, z1, z2, z3⟩ := ihf (b + 1) (ms y1 66 (512 * r + b) (stN A n (sr r) (iN b) (-1) n).1) (by omega) (by omega) (ha_c ha ((ms_c1 (by decide)).trans (a3 61 (by decide))) ((ms_c1 (by decide)).trans (a3 62 (by decide)))) (by rw [ms_c1 (by decide), a3 61 (by decide)]; exact hm) (by rw [ms_c1 (by decide), a3 63 (by decide)]; exact hs) (fun r' b' hb' ho hg => by
          by_cases w : 512 * r' + b' = 512 * r + b
          · have w1 : r' = r := by omega
            have w2 : b' = b := by omega
            rw [w1, w2, ms_e1]
          · rw [ms_i1 w, a3 66 (by decide)]
            refine k r' b' hb' ?_ hg
            by_cases v : r' = r
            · have : b' ≠ b := fun e => w (by rw [v, e])
              omega
            · omega)
        exact ⟨z, z1, z2, fun c c1 c2 => by rw [z3 c c1 c2, ms_c1 c2, a3 c c1]⟩
      · rw [if_neg y]
        exact ihf (b + 1) x (by omega) (by omega) ha hm hs (fun r' b' hb' ho hg => by
          by_cases w : r' = r ∧ b' = b
          · rw [w.2] at hg
            exact absurd hg y
          · exact k r' b' hb' (by omega) hg)
theorem lr44_L {g : GG} {u2 : MM} {n m : Nat} {A : Nat → Nat → Int32} {sr : Nat → Int32} {mg : Int32} (n9 : n ≤ 9) (m4 : m ≤ 4) (h2m : u2 61 2 = iN m) : ∀ (f r : Nat) (x : MM), m - r < f → r ≤ m → HA x 61 n A → x 61 2 = iN m → (∀ i, i < m → x 63 i = sr i) → KN44 x A n sr mg r 0 → ∃ y, Fx_O_look_44X_L56 (-1) mg g u2 f (iN r) x = (y, Fx_O_weighX 0 0 y g) ∧ KN44 y A n sr mg m 0 ∧ ∀ c, c < 58 ∨ 60 < c → c ≠ 66 → y c = x c := by
  intro f
  induction f with
  | zero => intro r x h; omega
  | succ f ih =>
    intro r x h1 h2 ha hm hs k
    rw [Fx_O_look_44X_L56_s, h2m]
    by_cases q : m ≤ r
    · have e : r = m := by omega
      subst e
      rw [if_pos (Int32.le_refl _), xqb]
      exact ⟨x, rfl, k, fun _ _ _ => rfl⟩
    · have e513 : (512 - (0 : Int32).toInt).toNat + 1 = 513 := by decide
      have p2 := p2_le n9
      rw [if_neg (fun z => q ((iN_le (by omega) (by omega)).mp z)), if_neg (show ¬ (4 : Int32) ≤ iN r from fun z => by have := (iN_le (a := 4) (by omega) (by omega)).mp z; omega), e513]
      obtain ⟨y, y1, y2, y3⟩ := lb44_L (ih := Fx_O_look_44X_L56 (-1) mg g u2 f) (g := g) n9 m4 (show r < m by omega) 513 0 x (by omega) (Nat.zero_le _) ha hm (hs r (by omega)) k
      have y1' : Fx_O_look_44X_L77 (Fx_O_look_44X_L56 (-1) mg g u2 f) (-1) mg g (iN r) 513 0 x = Fx_O_look_44X_L56 (-1) mg g u2 f (iN (r + 1)) y := y1
      rw [y1']
      obtain ⟨z, z1, z2, z3⟩ := ih (r + 1) y (by omega) (by omega) (ha_c ha (y3 61 (by decide) (by decide)) (y3 62 (by decide) (by decide))) (by rw [y3 61 (by decide) (by decide)]; exact hm) (fun i hi => by rw [y3 63 (by decide) (by decide)]; exact hs i hi) y2
      exact ⟨z, z1, z2, fun c c1 c2 => (z3 c c1 c2).trans (y3 c c1 c2)⟩
/-- the class's look -/
theorem lk44_X {x : MM} {g : GG} {n m : Nat} {A : Nat → Nat → Int32} {sr cr : Nat → Int32} {mg : Int32} (h0 : HA x 44 n A) (n9 : n ≤ 9) (m4 : m ≤ 4) (hm : x 44 2 = iN m) (hs : ∀ i, i < m → x (44 + 2) i = sr i ∧ x (44 + 3) i = cr i) : ∃ y g', Fx_O_look_44X (-1) mg x g = (y, g') ∧ OK y g' n m A sr cr mg (chM A 0 0) ∧ (∀ c, c < 58 ∨ 67 < c → y c = x c) ∧ ∀ a, a ≠ 68 → g' a = g a := by
  have p2 := p2_le n9
  unfold Fx_O_look_44X
  obtain ⟨x1, hx1⟩ : ∃ x1, x1 = Fx_H_copyX 61 44 x g := ⟨_, rfl⟩
  have cp := hcB (u := x) (g := g) (t := 61) (f := 44) (by omega)
  have hx1' : x1 = Fx_H_copyBX 61 44 x g := hx1
  rw [← hx1'] at cp
  obtain ⟨⟨p0, p2', p3', p4', p5', p6'⟩, pc'⟩ := cp
  have e513 : (512 - (0 : Int32).toInt).toNat + 1 = 513 := by decide
  rw [xqb, ← hx1, e513]
  have ha1 : HA x1 61 n A := ⟨p0.trans h0.1, fun p c hp hc => (p3' (16 * p + c) (by omega)).trans (h0.2 p c hp hc)⟩
  have pp := Nat.two_pow_pos n
  obtain ⟨y, y1, y2, y3⟩ := lh44_L (u2 := x1) (g := g) (kp := -1) (mg := mg) n9 513 0 x1 (by omega) (Nat.zero_le _) ha1 (fun t ht => by omega)
  have y1' : Fx_O_look_44X_L11 (-1) mg g x1 513 0 x1 = Fx_O_look_44X_L56 (-1) mg g x1 5 (iN 0) y := y1
  rw [y1']
  have hay : HA y 61 n A := ha_c ha1 (y3 61 (by decide)) (y3 62 (by decide))
  have hm1 : x1 61 2 = iN m := p2'.trans hm
  have hs1 : ∀ i, i < m → x1 63 i = sr i := fun i hi => (p4' i (by omega)).trans (hs i hi).1
  have hc1 : ∀ i, i < m → x1 64 i = cr i := fun i hi => (p5' i (by omega)).trans (hs i hi).2
  obtain ⟨z, z1, z2, z3⟩ := lr44_L (g := g) (mg := mg) (sr := sr) n9 m4 hm1 5 0 y (by omega) (by omega) hay (by rw [y3 61 (by decide)]; exact hm1) (fun i hi => by rw [y3 63 (by decide)]; exact hs1 i hi) (fun r b hb ho hg => by omega)
  rw [z1]
  have haz : HA z 61 n A := ha_c hay (z3 61 (by decide) (by decide)) (z3 62 (by decide) (by decide))
  obtain ⟨g', g1, g2, g3⟩ := we_X (g := g) (md := 0) (wk := 0) haz n9
  refine ⟨z, g', by rw [g1], ⟨n9, m4, haz, ?_, fun i hi => ⟨?_, ?_⟩, fun s hs' => ?_, fun r b hr hb hg => z2 r b hb (Or.inl hr) hg, g2⟩, fun c hc => ?_, g3⟩
  · rw [z3 61 (by decide) (by decide), y3 61 (by decide)]; exact hm1
  · rw [z3 63 (by decide) (by decide), y3 63 (by decide)]; exact hs1 i hi
  · rw [z3 64 (by decide) (by decide), y3 64 (by decide)]; exact hc1 i hi
  · rw [z3 67 (by decide) (by decide)]; exact y2 s hs'
  · rw [z3 c (by omega) (by omega), y3 c (by omega), pc' c (by omega)]
end
section
/-! weak banks, owners; the class looks -/
def wkF (A : Nat → Nat → Int32) (p : Nat) : Bool := decide (¬ A p 4 ≤ 0)
theorem wk_L {x : MM} {g : GG} {t n : Nat} {A : Nat → Nat → Int32} (h : HA x t n A) (n9 : n ≤ 9) : ∀ (f p : Nat), n - p < f → p ≤ n → Fx_H_weakX_L4 t x g f (iN (bset (wkF A) p)) (iN p) = iN (bset (wkF A) n) := by
  intro f
  induction f with
  | zero => intro p h1; omega
  | succ f ih =>
    intro p h1 h2
    rw [Fx_H_weakX_L4_s, h.1]
    by_cases q : n ≤ p
    · rw [if_pos ((iN_le (by omega) (by omega)).mpr q), show p = n by omega]
    · have e : bset (wkF A) (p + 1) = if wkF A p = true then bset (wkF A) p + 2 ^ p else bset (wkF A) p := rfl
      have k := ih (p + 1) (by omega) (by omega)
      rw [if_neg (fun z => q ((iN_le (by omega) (by omega)).mp z)), show hof x t (iN p) (4 : Int32) = A p 4 from ha_r (c := 4) h n9 (by omega) (by decide)]
      unfold Fx_H_weakX_J28
      rw [iN_s]
      by_cases y : A p 4 ≤ 0
      · rw [if_neg (show ¬ wkF A p = true from fun z => (of_decide_eq_true z) y)] at e
        rw [if_pos y, ← e]
        exact k
      · rw [if_pos (show wkF A p = true from decide_eq_true y)] at e
        rw [if_neg y, xqb, b9I (by omega), bset_or (by omega), ← e]
        exact k
theorem wk_X {x : MM} {g : GG} {t n : Nat} {A : Nat → Nat → Int32} (h : HA x t n A) (n9 : n ≤ 9) : Fx_H_weakX t x g = iN (bset (wkF A) n) := by
  unfold Fx_H_weakX
  have e : (9 - (0 : Int32).toInt).toNat + 1 = 10 := by decide
  rw [e]
  exact wk_L h n9 10 0 (by omega) (by omega)
theorem chM_m {A : Nat → Nat → Int32} {md : Int32} {p : Nat} (hp : p < 9) : chM A md 0 p = if inB md p = true then 0 else A p 4 := by
  unfold chM
  rw [inB_0 p hp, if_neg Bool.false_ne_true, Int32.add_zero]
theorem sup_w {A : Nat → Nat → Int32} {ch : Nat → Int32} {n : Nat} (n9 : n ≤ 9) (h : ∀ p, p < n → A p 4 ≤ 0 → ch p = 0) : SUP n (iN (bset (wkF A) n)) ch := by
  intro b hb q
  refine sub_0 hb n9 (fun p hp y => ?_)
  rw [bset_b n p hp]
  by_cases z : A p 4 ≤ 0
  · exact absurd (wB_0 y (h p hp z) n hp) q
  · exact decide_eq_true z
theorem sup_m {A : Nat → Nat → Int32} {n : Nat} {md : Int32} (n9 : n ≤ 9) (aw : AWF n A) : SUP n (iN (bset (wkF A) n)) (chM A md 0) := by
  refine sup_w n9 (fun p hp y => ?_)
  have b4 : Bd 0 10 (A p 4) := (aw p hp).1 4 (by decide)
  have y1 := Int32.le_iff_toInt_le.mp y
  have l0 : (0 : Int32).toInt = 0 := rfl
  have e : A p 4 = 0 := Int32.toInt_inj.mp (by have := b4.1; omega)
  rw [chM_m (by omega), e]
  split <;> rfl
def sR (y : MM) (i : Nat) : Int32 := y 172 (5 + 2 * i)
def cR (y : MM) (i : Nat) : Int32 := y 172 (6 + 2 * i)
/-! the reference's sums -/
/-- the reference is ready for storms -/
def RR (y : MM) (n m : Nat) (A : Nat → Nat → Int32) (sr cr : Nat → Int32) : Prop := n ≤ 9 ∧ m ≤ 4 ∧ RMA y n A ∧ AWF n A ∧ y 162 26 = -1 ∧ y 162 27 = 0 ∧ y 172 1 = iN m ∧ ∀ i, i < m → y 172 (5 + 2 * i) = sr i ∧ y 172 (6 + 2 * i) = cr i ∧ Bd 0 9 (sr i)
def FRM (y' y : MM) : Prop := (∀ c, c ≠ 162 → c ≠ 173 → c ≠ 174 → c ≠ 175 → y' c = y c) ∧ ∀ j, j ≠ 31 → j ≠ 32 → j ≠ 33 → y' 162 j = y 162 j
theorem frm_0 {y : MM} : FRM y y := ⟨fun _ _ _ _ _ => rfl, fun _ _ _ _ => rfl⟩
theorem frm_t {a b c : MM} (h1 : FRM a b) (h2 : FRM b c) : FRM a c := ⟨fun i i1 i2 i3 i4 => (h1.1 i i1 i2 i3 i4).trans (h2.1 i i1 i2 i3 i4), fun j j1 j2 j3 => (h1.2 j j1 j2 j3).trans (h2.2 j j1 j2 j3)⟩
theorem rr_c {y y' : MM} {n m : Nat} {A : Nat → Nat → Int32} {sr cr : Nat → Int32} (h : RR y n m A sr cr) (f : FRM y' y) : RR y' n m A sr cr := by
  obtain ⟨n9, m4, ma, aw, h26, h27, h1, hr⟩ := h
  have e172 : y' 172 = y 172 := f.1 172 (by decide) (by decide) (by decide) (by decide)
  refine ⟨n9, m4, ma_c ma (f.2 22 (by decide) (by decide) (by decide)) e172, aw, ?_, ?_, ?_, ?_⟩
  · rw [f.2 26 (by decide) (by decide) (by decide)]; exact h26
  · rw [f.2 27 (by decide) (by decide) (by decide)]; exact h27
  · rw [e172]; exact h1
  · rw [e172]; exact hr
theorem rr_L {x y : MM} {n m : Nat} (L : LDF x y n m) : RR y n m (rwA y) (sR y) (cR y) := ⟨L.1, L.2.2.1, L.2.2.2.2.1, L.2.2.2.2.2.1, L.2.2.2.2.2.2.2.2.2.2.2.1, L.2.2.2.2.2.2.2.2.2.2.2.2.1, L.2.2.2.2.2.2.2.1, fun i hi => ⟨rfl, rfl, (L.2.2.2.2.2.2.2.2.1 i hi).2.2.1⟩⟩
theorem pr_L {y : MM} {g : GG} {n m b : Nat} {A : Nat → Nat → Int32} {sr cr : Nat → Int32} {c : Int64} (h : RR y n m A sr cr) (hb : b < 2 ^ n) : ∀ (f p : Nat), n - p < f → p ≤ n → Fx_M_partsOfX_L17 (iN b) y g f (prB (fun p => A p 4) b c p) (iN p) = prB (fun p => A p 4) b c n := by
  have n9 := h.1
  have p2 := p2_le n9
  intro f
  induction f with
  | zero => intro p h1; omega
  | succ f ih =>
    intro p h1 h2
    rw [Fx_M_partsOfX_L17_s, h.2.2.1.1]
    by_cases q : n ≤ p
    · rw [if_pos ((iN_le (by omega) (by omega)).mpr q), show p = n by omega]
    · have k := ih (p + 1) (by omega) (by omega)
      have e : prB (fun p => A p 4) b c (p + 1) = prB (fun p => A p 4) b c p * (if b.testBit p = true then A p 4 else 10 - A p 4).toInt64 := rfl
      rw [e] at k
      rw [if_neg (fun z => q ((iN_le (by omega) (by omega)).mp z)), xqb, hasI, inN b (by omega) p (by omega), show mof y (iN p) (4 : Int32) = A p 4 from ma_r (c := 4) h.2.2.1 n9 (by omega) (by decide)]
      unfold Fx_M_partsOfX_J58
      rw [iN_s]
      by_cases t : b.testBit p = true
      · rw [if_pos t] at k ⊢
        rw [xqb, xqb]
        exact k
      · rw [if_neg t] at k ⊢
        rw [xqb, xqb]
        exact k
theorem pr_X {y : MM} {g : GG} {n m r b : Nat} {A : Nat → Nat → Int32} {sr cr : Nat → Int32} (h : RR y n m A sr cr) (hr : r < m) (hb : b < 2 ^ n) : Fx_M_partsOfX (iN r) (iN b) y g = wB (fun p => A p 4) b n * (cr r).toInt64 := by
  unfold Fx_M_partsOfX
  have n9 := h.1
  have m4 := h.2.1
  have e : (((5 : Int32) + ((2 : Int32) * iN r)) + 1).toNatClampNeg = 6 + 2 * r := by
    show ((iN 5 + iN 2 * iN r) + iN 1).toNatClampNeg = _
    rw [iN_m, iN_a, iN_a, iN_cl (by omega)]
    omega
  have e10 : (9 - (0 : Int32).toInt).toNat + 1 = 10 := by decide
  rw [xqb, xqb, e, (h.2.2.2.2.2.2.2 r hr).2.1, e10, ← prB_e]
  exact pr_L h hb 10 0 (by omega) (by omega)
/-- a storm of the reference, ready for the next one -/
theorem sto_X {y : MM} {g : GG} {n m r : Nat} {A : Nat → Nat → Int32} {sr cr : Nat → Int32} {bk : Int32} (h : RR y n m A sr cr) (hr : r < m) : ∃ y1, Fx_M_blowX (Fx_M_stepsOfX (iN r) y g) bk y g = y1 ∧ RS y1 (stN A n (sr r) bk (-1) n) n n ∧ FRM y1 y := by
  obtain ⟨n9, m4, ma, aw, h26, h27, h1, hs⟩ := h
  obtain ⟨r1, r2, r3⟩ := hs r hr
  have es : Fx_M_stepsOfX (iN r) y g = sr r := by
    unfold Fx_M_stepsOfX
    have e : ((5 : Int32) + ((2 : Int32) * iN r)).toNatClampNeg = 5 + 2 * r := by
      show (iN 5 + iN 2 * iN r).toNatClampNeg = _
      rw [iN_m, iN_a, iN_cl (by omega)]
    rw [h27, if_pos rfl, xqb, e]
    exact r1
  rw [es]
  obtain ⟨y1, b0, b1, b2, b3⟩ := rbl_X (g := g) (bk := bk) ma n9 aw h26 r3
  exact ⟨y1, b0, b1, b2, b3⟩
theorem mb_I {u y : MM} {g : GG} {n m r : Nat} {A : Nat → Nat → Int32} {sr cr : Nat → Int32} {o : Int32} {ih : Int64 → Int32 → MM → Int64 × MM} (h22 : u 162 22 = iN n) (hr : r < m) (a0 : Int64) (h0 : RR y n m A sr cr) : ∀ (f b : Nat) (y1 : MM), 2 ^ n - b < f → b ≤ 2 ^ n → FRM y1 y → ∃ y2, Fx_M_meanByX_L19 ih o u g (iN r) f (fB (mnF A n sr cr (fun p => A p 4) (fun w => hro A o w n) r) b a0) (iN b) y1 = ih (fB (mnF A n sr cr (fun p => A p 4) (fun w => hro A o w n) r) (2 ^ n) a0) (iN (r + 1)) y2 ∧ FRM y2 y := by
  have n9 := h0.1
  have p2 := p2_le n9
  have pp := Nat.two_pow_pos n
  intro f
  induction f with
  | zero => intro b y1 h1; omega
  | succ f ihf =>
    intro b y1 h1 h2 fr
    have h := rr_c h0 fr
    rw [Fx_M_meanByX_L19_s, h22, (all_e n (by omega)).2.1, iN_s]
    by_cases q : 2 ^ n ≤ b
    · rw [if_pos ((iN_le (by omega) (by omega)).mpr q), show b = 2 ^ n by omega]
      exact ⟨y1, rfl, fr⟩
    · have hb : b < 2 ^ n := by omega
      have e : fB (mnF A n sr cr (fun p => A p 4) (fun w => hro A o w n) r) (b + 1) a0 = mnF A n sr cr (fun p => A p 4) (fun w => hro A o w n) r b (fB (mnF A n sr cr (fun p => A p 4) (fun w => hro A o w n) r) b a0) := rfl
      rw [if_neg (fun z => q ((iN_le (by omega) (by omega)).mp z)), xqb, pr_X h hr hb]
      unfold Fx_M_meanByX_J71
      rw [iN_s]
      by_cases z : lg_cmp (wB (fun p => A p 4) b n * (cr r).toInt64) (0 : Int64) ≤ 0
      · obtain ⟨y2, k1, k2⟩ := ihf (b + 1) y1 (by omega) (by omega) fr
        rw [e] at k1
        rw [mnF_0 z] at k1
        rw [if_pos z]
        exact ⟨y2, k1, k2⟩
      · obtain ⟨y3, s1, s2, s3⟩ := sto_X (g := g) (bk := iN b) h hr
        obtain ⟨y2, k1, k2⟩ := ihf (b + 1) y3 (by omega) (by omega) (frm_t s3 fr)
        rw [e] at k1
        rw [mnF_1 z] at k1
        rw [if_neg z]
        have hh := ho_X (g := g) (o := o) (rr_c h s3).2.2.1 n9
        rw [s2.1] at hh
        rw [xqb, s1, xqb, hh, xqb, xqb, xqb]
        exact ⟨y2, k1, k2⟩
theorem mb_L {u : MM} {g : GG} {n m : Nat} {A : Nat → Nat → Int32} {sr cr : Nat → Int32} {o : Int32} (h0 : RR u n m A sr cr) : ∀ (f r : Nat) (y1 : MM), m - r < f → r ≤ m → FRM y1 u → ∃ y2, Fx_M_meanByX_L5 o u g f (fR (mnF A n sr cr (fun p => A p 4) (fun w => hro A o w n)) (2 ^ n) r 0) (iN r) y1 = (fR (mnF A n sr cr (fun p => A p 4) (fun w => hro A o w n)) (2 ^ n) m 0, y2) ∧ FRM y2 u := by
  have m4 := h0.2.1
  have p2 := p2_le h0.1
  intro f
  induction f with
  | zero => intro r y1 h1; omega
  | succ f ihf =>
    intro r y1 h1 h2 fr
    rw [Fx_M_meanByX_L5_s, h0.2.2.2.2.2.2.1]
    by_cases q : m ≤ r
    · rw [if_pos ((iN_le (by omega) (by omega)).mpr q), show r = m by omega]
      exact ⟨y1, rfl, fr⟩
    · have e513 : (512 - (0 : Int32).toInt).toNat + 1 = 513 := by decide
      rw [if_neg (fun z => q ((iN_le (by omega) (by omega)).mp z)), e513]
      obtain ⟨y3, k1, k2⟩ := mb_I (ih := Fx_M_meanByX_L5 o u g f) (g := g) (o := o) h0.2.2.1.1 (show r < m by omega) (fR (mnF A n sr cr (fun p => A p 4) (fun w => hro A o w n)) (2 ^ n) r 0) h0 513 0 y1 (by omega) (Nat.zero_le _) fr
      obtain ⟨y2, j1, j2⟩ := ihf (r + 1) y3 (by omega) (by omega) k2
      exact ⟨y2, Eq.trans k1 j1, j2⟩
/-- the reference's mean -/
theorem mb_X {y : MM} {g : GG} {n m : Nat} {A : Nat → Nat → Int32} {sr cr : Nat → Int32} {o : Int32} (h0 : RR y n m A sr cr) : ∃ y2, Fx_M_meanByX o y g = (fR (mnF A n sr cr (fun p => A p 4) (fun w => hro A o w n)) (2 ^ n) m 0, y2) ∧ FRM y2 y := by
  have m4 := h0.2.1
  unfold Fx_M_meanByX
  have e5 : (4 - (0 : Int32).toInt).toNat + 1 = 5 := by decide
  rw [e5]
  exact mb_L h0 5 0 y (by omega) (by omega) frm_0
end
section
/-! answers: mean, joint, mended, helps, alone -/
theorem mn_eq {A : Nat → Nat → Int32} {n m : Nat} {sr cr ch ch2 : Nat → Int32} {H H2 : Int32 → Int32} (n9 : n ≤ 9) (hch : ∀ p, p < n → ch p = ch2 p) (hH : ∀ k, k < 2 ^ n → H (iN k) = H2 (iN k)) : fR (mnF A n sr cr ch H) (2 ^ n) m 0 = fR (mnF A n sr cr ch2 H2) (2 ^ n) m 0 := by
  refine fR_c m 0 (fun r b a hr hb => ?_)
  obtain ⟨w, hw, ew⟩ := (st_sb (A := A) (n := n) (st := sr r) (bk := iN b) (kp := -1) n n9).1
  unfold mnF
  rw [wB_c (ch2 := ch2) (b2 := b) n (fun q hq => ⟨hch q hq, rfl⟩), ew, hH w hw]
theorem mn_4 {A B : Nat → Nat → Int32} {n m : Nat} {sr cr ch : Nat → Int32} {H : Int32 → Int32} (h : ∀ p c, c ≠ 4 → A p c = B p c) : fR (mnF A n sr cr ch H) (2 ^ n) m 0 = fR (mnF B n sr cr ch H) (2 ^ n) m 0 := by
  refine fR_c m 0 (fun r b a hr hb => ?_)
  unfold mnF
  rw [stN_4 h]
theorem cnt_all {A : Nat → Nat → Int32} {n : Nat} : ∀ p, p < n → ((2 ^ n - 1).testBit p = true ↔ ((-1 : Int32) = -1 ∨ A p 6 = -1)) := fun p hp => ⟨fun _ => Or.inl rfl, fun _ => by rw [Nat.testBit_two_pow_sub_one]; exact decide_eq_true hp⟩
/-- the class's mean of those counted is the reference's of an owner -/
theorem cmn_eq {x y : MM} {g g' : GG} {n m c : Nat} {A : Nat → Nat → Int32} {sr cr ch ch2 : Nat → Int32} {mg o : Int32} (h : OK x g n m A sr cr mg ch) (su : SUP n mg ch) (hc : c < 2 ^ n) (hch : ∀ p, p < n → ch p = ch2 p) (hcn : ∀ p, p < n → (c.testBit p = true ↔ (o = -1 ∨ A p 6 = o))) : Fx_O_meanOfX (iN c) x g = fR (mnF A n sr cr ch2 (fun w => hro A o w n)) (2 ^ n) m 0 := by
  rw [mo_X h su hc]
  exact mn_eq h.1 hch (fun k hk => hrm_and h.1 hk hc hcn n (Nat.le_refl _))
/-! chances kept and mended, of the reference -/
def mdA (A : Nat → Nat → Int32) (md : Int32) (p c : Nat) : Int32 := if c = 4 then (if inB md p = true then 0 else A p 4) else A p c
theorem mdA_n {A : Nat → Nat → Int32} {md : Int32} : ∀ p c, c ≠ 4 → mdA A md p c = A p c := fun p c hc => if_neg hc
theorem mdA_4 {A : Nat → Nat → Int32} {md : Int32} {p : Nat} : mdA A md p 4 = if inB md p = true then 0 else A p 4 := if_pos rfl
theorem aw_md {A : Nat → Nat → Int32} {n : Nat} {md : Int32} (h : AWF n A) : AWF n (mdA A md) := by
  intro p hp
  obtain ⟨a1, a2, a3⟩ := h p hp
  refine ⟨fun c hc => ?_, ?_, ?_⟩
  · by_cases y : c = 4
    · subst y
      rw [mdA_4]
      split
      · exact (show Bd 0 10 (0 : Int32) by decide)
      · exact a1 4 hc
    · rw [mdA_n p c y]; exact a1 c hc
  · rw [mdA_n p 8 (by decide)]; exact a2
  · rw [mdA_n p 9 (by decide)]; exact a3
/-- ready, the chances kept -/
def MRD (y : MM) (n m : Nat) (A : Nat → Nat → Int32) (sr cr : Nat → Int32) : Prop := RR y n m A sr cr ∧ ∀ p, p < n → y 177 p = A p 4
theorem kc_L {u : MM} {n m : Nat} {A : Nat → Nat → Int32} {sr cr : Nat → Int32} (h : RR u n m A sr cr) : ∀ (f p : Nat) (y : MM), n - p < f → p ≤ n → (∀ c, c ≠ 177 → y c = u c) → (∀ q, q < p → y 177 q = A q 4) → ∃ y', Fx_M_keepChancesX_L2 u f (iN p) y = y' ∧ (∀ c, c ≠ 177 → y' c = u c) ∧ ∀ q, q < n → y' 177 q = A q 4 := by
  have n9 := h.1
  intro f
  induction f with
  | zero => intro p y h1; omega
  | succ f ih =>
    intro p y h1 h2 hc k
    rw [Fx_M_keepChancesX_L2_s, h.2.2.1.1]
    by_cases q : n ≤ p
    · have e : p = n := by omega
      subst e
      rw [if_pos (Int32.le_refl _)]
      exact ⟨y, rfl, hc, k⟩
    · rw [if_neg (fun z => q ((iN_le (by omega) (by omega)).mp z)), xqb, iN_s, iN_cl (by omega), show mof u (iN p) (4 : Int32) = A p 4 from ma_r (c := 4) h.2.2.1 n9 (by omega) (by decide)]
      refine ih (p + 1) _ (by omega) (by omega) (fun c hc' => (ms_c1 hc').trans (hc c hc')) (fun q hq => ?_)
      by_cases y2 : q = p
      · rw [y2, ms_e1]
      · rw [ms_i1 y2]; exact k q (by omega)
theorem rr_177 {y u : MM} {n m : Nat} {A : Nat → Nat → Int32} {sr cr : Nat → Int32} (h : RR u n m A sr cr) (hc : ∀ c, c ≠ 177 → y c = u c) : RR y n m A sr cr := by
  obtain ⟨n9, m4, ma, aw, h26, h27, h1, hr⟩ := h
  have e162 := hc 162 (by decide)
  have e172 := hc 172 (by decide)
  exact ⟨n9, m4, ma_c ma (by rw [e162]) e172, aw, by rw [e162]; exact h26, by rw [e162]; exact h27, by rw [e172]; exact h1, by rw [e172]; exact hr⟩
theorem kc_X {u : MM} {g : GG} {n m : Nat} {A : Nat → Nat → Int32} {sr cr : Nat → Int32} (h : RR u n m A sr cr) : ∃ y', Fx_M_keepChancesX u g = y' ∧ MRD y' n m A sr cr ∧ ∀ c, c ≠ 177 → y' c = u c := by
  unfold Fx_M_keepChancesX
  have e10 : (9 - (0 : Int32).toInt).toNat + 1 = 10 := by decide
  have n9 := h.1
  rw [e10]
  obtain ⟨y', k1, k2, k3⟩ := kc_L h 10 0 u (by omega) (by omega) (fun _ _ => rfl) (fun q hq => by omega)
  exact ⟨y', k1, ⟨rr_177 h k2, k3⟩, k2⟩
theorem ma_L {u : MM} {g : GG} {n : Nat} {md : Int32} (h22 : u 162 22 = iN n) (n9 : n ≤ 9) : ∀ (f p : Nat) (y : MM), n - p < f → p ≤ n → (∀ c, c ≠ 172 → y c = u c) → (∀ j, (∀ q, q < n → j ≠ 13 + 16 * q + 4) → y 172 j = u 172 j) → (∀ q, q < p → y 172 (13 + 16 * q + 4) = if inB md q = true then 0 else u 177 q) → ∃ y', Fx_M_mendAllNX_L2 md u g f (iN p) y = y' ∧ (∀ c, c ≠ 172 → y' c = u c) ∧ (∀ j, (∀ q, q < n → j ≠ 13 + 16 * q + 4) → y' 172 j = u 172 j) ∧ ∀ q, q < n → y' 172 (13 + 16 * q + 4) = if inB md q = true then 0 else u 177 q := by
  intro f
  induction f with
  | zero => intro p y h1; omega
  | succ f ih =>
    intro p y h1 h2 hc hj k
    rw [Fx_M_mendAllNX_L2_s, h22]
    by_cases q : n ≤ p
    · have e : p = n := by omega
      subst e
      rw [if_pos (Int32.le_refl _)]
      exact ⟨y, rfl, hc, hj, k⟩
    · have s4 : ∀ z : Int32, Fx_M_setX (iN p) (4 : Int32) z y g = ms y 172 (13 + 16 * p + 4) z := fun z => msE (c := 4) (by omega) (by decide)
      rw [if_neg (fun z => q ((iN_le (by omega) (by omega)).mp z)), xqb, hasI]
      unfold Fx_M_mendAllNX_J31
      rw [iN_s, s4, iN_cl (by omega), hc 177 (by decide)]
      have J : ∀ z : Int32, z = (if inB md p = true then 0 else u 177 p) → ∃ y', (xq_lt (Fx_M_setX (iN p) (4 : Int32) z y g) fun u68 => Fx_M_mendAllNX_L2 md u g f (iN (p + 1)) u68) = y' ∧ (∀ c, c ≠ 172 → y' c = u c) ∧ (∀ j, (∀ q, q < n → j ≠ 13 + 16 * q + 4) → y' 172 j = u 172 j) ∧ ∀ q, q < n → y' 172 (13 + 16 * q + 4) = if inB md q = true then 0 else u 177 q := by
        intro z hz
        rw [xqb, s4]
        refine ih (p + 1) _ (by omega) (by omega) (fun c hc' => (ms_c1 hc').trans (hc c hc')) (fun j hj' => (ms_i1 (hj' p (by omega))).trans (hj j hj')) (fun q hq => ?_)
        by_cases y2 : q = p
        · rw [y2, ms_e1]; exact hz
        · rw [ms_i1 (by omega)]; exact k q (by omega)
      by_cases t : inB md p = true
      · rw [if_pos t, ← s4]
        exact J 0 (by rw [if_pos t])
      · rw [if_neg t, xqb (x := u 177 p)]
        exact J (u 177 p) (by rw [if_neg t])
/-- some mended -/
theorem md_X {u : MM} {g : GG} {n m : Nat} {A B : Nat → Nat → Int32} {sr cr : Nat → Int32} {md : Int32} (h : RR u n m B sr cr) (aw : AWF n A) (hB : ∀ p c, c ≠ 4 → B p c = A p c) (hk : ∀ p, p < n → u 177 p = A p 4) : ∃ y', Fx_M_mendAllNX md u g = y' ∧ RR y' n m (mdA A md) sr cr ∧ (∀ p, p < n → y' 177 p = A p 4) ∧ (∀ c, c ≠ 172 → y' c = u c) ∧ ∀ j, j < 13 → y' 172 j = u 172 j := by
  unfold Fx_M_mendAllNX
  have e10 : (9 - (0 : Int32).toInt).toNat + 1 = 10 := by decide
  obtain ⟨n9, m4, ma, aw', h26, h27, h1, hr⟩ := h
  rw [e10]
  obtain ⟨y', k1, k2, k3, k4⟩ := ma_L (g := g) (md := md) ma.1 n9 10 0 u (by omega) (by omega) (fun _ _ => rfl) (fun _ _ => rfl) (fun q hq => by omega)
  have e162 := k2 162 (by decide)
  have lo : ∀ j, j < 13 → y' 172 j = u 172 j := fun j hj => k3 j (fun q hq => by omega)
  refine ⟨y', k1, ⟨n9, m4, ⟨by rw [e162]; exact ma.1, fun p c hp hc => ?_⟩, aw_md aw, by rw [e162]; exact h26, by rw [e162]; exact h27, by rw [lo 1 (by decide)]; exact h1, fun i hi => ?_⟩, fun p hp => by rw [k2 177 (by decide)]; exact hk p hp, k2, lo⟩
  · by_cases y : c = 4
    · subst y
      rw [k4 p hp, mdA_4, hk p hp]
    · rw [mdA_n p c y, ← hB p c y, ← ma.2 p c hp hc]
      exact k3 _ (fun q hq => by omega)
  · rw [lo _ (by omega), lo _ (by omega)]
    exact hr i hi
theorem rr_a {y : MM} {n m : Nat} {A B : Nat → Nat → Int32} {sr cr : Nat → Int32} (h : RR y n m A sr cr) (e : ∀ p c, p < n → c < 16 → A p c = B p c) : RR y n m B sr cr := by
  obtain ⟨n9, m4, ma, aw, h26, h27, h1, hr⟩ := h
  refine ⟨n9, m4, ⟨ma.1, fun p c hp hc => (ma.2 p c hp hc).trans (e p c hp hc)⟩, fun p hp => ?_, h26, h27, h1, hr⟩
  obtain ⟨a1, a2, a3⟩ := aw p hp
  exact ⟨fun c hc => by rw [← e p c hp hc]; exact a1 c hc, by rw [← e p 8 hp (by decide)]; exact a2, by rw [← e p 9 hp (by decide)]; exact a3⟩
/-- what a mean with some mended leaves alone -/
def FRD (y' y : MM) : Prop := (∀ c, c ≠ 162 → c ≠ 172 → c ≠ 173 → c ≠ 174 → c ≠ 175 → y' c = y c) ∧ (∀ j, j ≠ 31 → j ≠ 32 → j ≠ 33 → y' 162 j = y 162 j) ∧ ∀ j, j < 13 → y' 172 j = y 172 j
/-- the reference's mean with some mended -/
theorem mm_X {y : MM} {g : GG} {n m : Nat} {A : Nat → Nat → Int32} {sr cr : Nat → Int32} {md o : Int32} (h : MRD y n m A sr cr) : ∃ y2, Fx_M_meanMendedNX md o y g = (fR (mnF A n sr cr (fun p => if inB md p = true then 0 else A p 4) (fun w => hro A o w n)) (2 ^ n) m 0, y2) ∧ MRD y2 n m A sr cr ∧ FRD y2 y := by
  unfold Fx_M_meanMendedNX
  have n9 := h.1.1
  have aw := h.1.2.2.2.1
  obtain ⟨y1, a1, a2, a3, a4, a5⟩ := md_X (g := g) (md := md) h.1 aw (fun _ _ _ => rfl) h.2
  obtain ⟨y2, b1, b2⟩ := mb_X (g := g) (o := o) a2
  have rr2 := rr_c a2 b2
  have k2 : ∀ p, p < n → y2 177 p = A p 4 := fun p hp => by rw [b2.1 177 (by decide) (by decide) (by decide) (by decide)]; exact a3 p hp
  obtain ⟨y3, c1, c2, c3, c4, c5⟩ := md_X (g := g) (md := 0) rr2 aw (fun p c hc => mdA_n p c hc) k2
  rw [xqb, a1, b1, c2_mk, xqb, c1]
  have e : fR (mnF (mdA A md) n sr cr (fun p => mdA A md p 4) (fun w => hro (mdA A md) o w n)) (2 ^ n) m 0 = fR (mnF A n sr cr (fun p => if inB md p = true then 0 else A p 4) (fun w => hro A o w n)) (2 ^ n) m 0 := by
    rw [mn_4 (B := A) (fun p c hc => mdA_n p c hc)]
    exact mn_eq n9 (fun p hp => mdA_4) (fun k hk => hro_4 (fun p c hc => mdA_n p c hc) n)
  refine ⟨y3, by rw [e], ⟨rr_a c2 (fun p c hp hc => ?_), c3⟩, fun c q1 q2 q3 q4 q5 => ?_, fun j j1 j2 j3 => ?_, fun j hj => ?_⟩
  · by_cases w : c = 4
    · subst w
      rw [mdA_4, inB_0 p (by omega), if_neg Bool.false_ne_true]
    · exact mdA_n p c w
  · rw [c4 c q2, b2.1 c q1 q3 q4 q5, a4 c q2]
  · rw [c4 162 (by decide), b2.2 j j1 j2 j3, a4 162 (by decide)]
  · rw [c5 j hj, b2.1 172 (by decide) (by decide) (by decide) (by decide), a5 j hj]
end
section
/-! one number of a pond set, on both sides; the mean of all of a hill, in three cells -/
noncomputable def MN (A : Nat → Nat → Int32) (n m : Nat) (sr cr : Nat → Int32) : Int64 := fR (mnF A n sr cr (fun p => A p 4) (fun w => hro A (-1) w n)) (2 ^ n) m 0
theorem mb_N {y : MM} {g : GG} {n m : Nat} {A : Nat → Nat → Int32} {sr cr : Nat → Int32} (h : RR y n m A sr cr) : ∃ y2, Fx_M_meanByX (-1) y g = (MN A n m sr cr, y2) ∧ FRM y2 y := mb_X (o := -1) h
/-- rains that a hill in cell t has -/
def RNS (x : MM) (t m : Nat) (sr cr : Nat → Int32) : Prop := x t 2 = iN m ∧ ∀ i, i < m → x (t + 2) i = sr i ∧ x (t + 3) i = cr i
theorem rns_L {x y : MM} {n m : Nat} (L : LDF x y n m) : RNS x 44 m (sR y) (cR y) := ⟨L.2.2.2.2.2.2.1, fun i hi => ⟨(L.2.2.2.2.2.2.2.2.1 i hi).1, (L.2.2.2.2.2.2.2.2.1 i hi).2.1⟩⟩
end
section
/-! what mending costs; best, spend, steps -/
def cst (A : Nat → Nat → Int32) (d s : Int32) : Nat → Int32
  | 0 => 0
  | p + 1 => cst A d s p + (if inB s p = true then d * A p 4 else 0)
theorem dm_L {x : MM} {g : GG} {n : Nat} {A : Nat → Nat → Int32} {d s : Int32} (h : HA x 44 n A) (n9 : n ≤ 9) (hd : x 48 0 = d) : ∀ (f p : Nat), n - p < f → p ≤ n → Fx_H_daysToMendX_L4 s 44 x g f (cst A d s p) (iN p) = cst A d s n := by
  intro f
  induction f with
  | zero => intro p h1; omega
  | succ f ih =>
    intro p h1 h2
    rw [Fx_H_daysToMendX_L4_s, h.1]
    by_cases q : n ≤ p
    · rw [if_pos ((iN_le (by omega) (by omega)).mpr q), show p = n by omega]
    · have k := ih (p + 1) (by omega) (by omega)
      have e : cst A d s (p + 1) = cst A d s p + (if inB s p = true then d * A p 4 else 0) := rfl
      rw [e] at k
      rw [if_neg (fun z => q ((iN_le (by omega) (by omega)).mp z)), xqb, isI, show hof x 44 (iN p) (4 : Int32) = A p 4 from ha_r (c := 4) h n9 (by omega) (by decide)]
      unfold Fx_H_daysToMendX_J36
      rw [iN_s, show x (44 + 4) 0 = d from hd]
      by_cases w : inB s p = true
      · rw [if_pos w] at k ⊢
        exact k
      · rw [if_neg w, Int32.add_zero] at k
        rw [if_neg w]
        exact k
theorem dm_X {x : MM} {g : GG} {n : Nat} {A : Nat → Nat → Int32} {d s : Int32} (h : HA x 44 n A) (n9 : n ≤ 9) (hd : x 48 0 = d) : Fx_H_daysToMendX s 44 x g = cst A d s n := by
  unfold Fx_H_daysToMendX
  have e10 : (9 - (0 : Int32).toInt).toNat + 1 = 10 := by decide
  rw [e10]
  exact dm_L h n9 hd 10 0 (by omega) (by omega)
theorem co2_L {y : MM} {g : GG} {n m : Nat} {A : Nat → Nat → Int32} {sr cr : Nat → Int32} {d s : Int32} (h : MRD y n m A sr cr) (hd : y 172 2 = d) : ∀ (f p : Nat), n - p < f → p ≤ n → Fx_M_costOfX_L4 s y g f (cst A d s p) (iN p) = cst A d s n := by
  have n9 := h.1.1
  intro f
  induction f with
  | zero => intro p h1; omega
  | succ f ih =>
    intro p h1 h2
    rw [Fx_M_costOfX_L4_s, h.1.2.2.1.1]
    by_cases q : n ≤ p
    · rw [if_pos ((iN_le (by omega) (by omega)).mpr q), show p = n by omega]
    · have k := ih (p + 1) (by omega) (by omega)
      have e : cst A d s (p + 1) = cst A d s p + (if inB s p = true then d * A p 4 else 0) := rfl
      rw [e] at k
      rw [if_neg (fun z => q ((iN_le (by omega) (by omega)).mp z)), xqb, hasI]
      unfold Fx_M_costOfX_J38
      rw [iN_s, hd]
      by_cases w : inB s p = true
      · rw [if_pos w] at k ⊢
        rw [xqb, iN_cl (by omega), h.2 p (by omega), Int32.mul_comm (A p 4)]
        exact k
      · rw [if_neg w] at k ⊢
        exact k
theorem co2_X {y : MM} {g : GG} {n m : Nat} {A : Nat → Nat → Int32} {sr cr : Nat → Int32} {d s : Int32} (h : MRD y n m A sr cr) (hd : y 172 2 = d) : Fx_M_costOfX s y g = cst A d s n := by
  unfold Fx_M_costOfX
  have n9 := h.1.1
  have e10 : (9 - (0 : Int32).toInt).toNat + 1 = 10 := by decide
  rw [e10]
  exact co2_L h hd 10 0 (by omega) (by omega)
/-- the mean with some mended -/
noncomputable def MDN (A : Nat → Nat → Int32) (n m : Nat) (sr cr : Nat → Int32) (s : Int32) : Int64 := fR (mnF A n sr cr (fun p => if inB s p = true then 0 else A p 4) (fun w => hro A (-1) w n)) (2 ^ n) m 0
theorem MDN_0 {A : Nat → Nat → Int32} {n m : Nat} {sr cr : Nat → Int32} (n9 : n ≤ 9) : MDN A n m sr cr 0 = MN A n m sr cr := by
  refine mn_eq n9 (fun p hp => ?_) (fun _ _ => rfl)
  rw [inB_0 p (by omega), if_neg Bool.false_ne_true]
theorem cmm_X {x : MM} {g : GG} {n m : Nat} {A : Nat → Nat → Int32} {sr cr ch : Nat → Int32} {s : Int32} (ok : OK x g n m A sr cr (iN (bset (wkF A) n)) ch) (aw : AWF n A) : ∃ g2, Fx_C_meanMendedX s x g = (MDN A n m sr cr s, g2) ∧ OK x g2 n m A sr cr (iN (bset (wkF A) n)) (chM A s 0) ∧ ∀ a, a ≠ 68 → g2 a = g a := by
  unfold Fx_C_meanMendedX
  have n9 := ok.1
  obtain ⟨g2, q1, q2, q3⟩ := ok_w (md := s) (wk := 0) ok
  refine ⟨g2, ?_, q2, q3⟩
  rw [xqb, q1, xqb, all_X q2.2.2.1.1 n9, xqb, cmn_eq (y := x) (g' := g) (o := -1) (ch2 := fun p => if inB s p = true then 0 else A p 4) q2 (sup_m n9 aw) (c := 2 ^ n - 1) (by have := Nat.two_pow_pos n; omega) (fun p hp => chM_m (by omega)) cnt_all]
  rfl
theorem mmm_X {y : MM} {g : GG} {n m : Nat} {A : Nat → Nat → Int32} {sr cr : Nat → Int32} {s d : Int32} (h : MRD y n m A sr cr) (hd : y 172 2 = d) : ∃ y2, Fx_M_meanMendedNX s (-1) y g = (MDN A n m sr cr s, y2) ∧ MRD y2 n m A sr cr ∧ y2 172 2 = d := by
  obtain ⟨y2, k1, k2, k3⟩ := mm_X (g := g) (md := s) (o := -1) h
  exact ⟨y2, k1, k2, (k3.2.2 2 (by decide)).trans hd⟩
/-- members of a set -/
def pcn (k : Nat) : Nat → Nat
  | 0 => 0
  | p + 1 => pcn k p + (if k.testBit p = true then 1 else 0)
theorem pcn_o : ∀ k, k < 512 → onesN (iN k) 9 = iN (pcn k 9) ∧ pcn k 9 ≤ 9 := by decide +kernel
theorem cm_Y {u v : MM} {g g' : GG} {hill plan ponds : Int32} (h : RLY u v) (b5 : Bd 0 2 (u 1 5)) (b7 : Bd 0 3 (u 1 7)) (hd : HD v) (pl : PL v) : ∃ b x y, (∀ limit most, Fx_P_canMendX hill plan ponds limit most u g = if b = true then (if limit < 0 then (false, x) else if most < limit then (false, x) else (true, x)) else (false, x)) ∧ (∀ left, Fx_M_canMendX hill plan ponds left (ms v 162 0 0) g' = if b = true then (if (decide (0 ≤ left) && decide (left ≤ 9999)) = true then (true, Fx_M_keepChancesX y g') else (false, y)) else (false, y)) ∧ (b = true → ∃ n m k, LDF x y n m ∧ k < 2 ^ n ∧ ponds = iN k ∧ pcn k 9 ≤ 5) := by
  obtain ⟨b, x, y, p1, p2, p3⟩ := lay_Y (g := g) (g' := g') (hill := hill) (plan := plan) h b5 b7 hd pl
  cases b
  · refine ⟨false, x, y, fun limit most => ?_, fun left => ?_, fun z => absurd z Bool.false_ne_true⟩
    · unfold Fx_P_canMendX
      rw [p1, c2_mk, if_neg Bool.false_ne_true, if_neg Bool.false_ne_true]
    · unfold Fx_M_canMendX
      rw [p2, c2_mk, if_neg Bool.false_ne_true, if_neg Bool.false_ne_true]
  obtain ⟨n, m, L⟩ := p3 rfl
  have p2' := p2_le L.1
  obtain ⟨s, s1, s2, s3⟩ := q_set (g := g) (g' := g') (s := ponds) L
  cases s
  · refine ⟨false, x, y, fun limit most => ?_, fun left => ?_, fun z => absurd z Bool.false_ne_true⟩
    · unfold Fx_P_canMendX
      rw [p1, c2_mk, if_pos rfl, xqb, s1, if_neg Bool.false_ne_true, if_neg Bool.false_ne_true]
    · unfold Fx_M_canMendX
      rw [p2, c2_mk, if_pos rfl, xqb, s2, if_neg Bool.false_ne_true, if_neg Bool.false_ne_true]
  obtain ⟨k, k1, k2⟩ := s3 rfl
  obtain ⟨o1, o2⟩ := pcn_o k (by omega)
  have hl : (5 : Int32) < iN (pcn k 9) ↔ 5 < pcn k 9 := iN_lt (a := 5) (by omega) (by omega)
  by_cases c : 5 < pcn k 9
  · refine ⟨false, x, y, fun limit most => ?_, fun left => ?_, fun z => absurd z Bool.false_ne_true⟩
    · unfold Fx_P_canMendX
      rw [p1, c2_mk, if_pos rfl, xqb, s1, if_pos rfl, xqb, k2, bc_e (v := x) k (by omega), o1, if_pos (hl.mpr c), if_neg Bool.false_ne_true]
    · unfold Fx_M_canMendX
      rw [p2, c2_mk, if_pos rfl, xqb, s2, if_pos rfl, k2, o1, if_pos (hl.mpr c), if_neg Bool.false_ne_true]
  · refine ⟨true, x, y, fun limit most => ?_, fun left => ?_, fun _ => ⟨n, m, k, L, k1, k2, by omega⟩⟩
    · unfold Fx_P_canMendX
      rw [p1, c2_mk, if_pos rfl, xqb, s1, if_pos rfl, xqb, k2, bc_e (v := x) k (by omega), o1, if_neg (fun z => c (hl.mp z)), if_pos rfl]
    · unfold Fx_M_canMendX
      rw [p2, c2_mk, if_pos rfl, xqb, s2, if_pos rfl, k2, o1, if_neg (fun z => c (hl.mp z)), if_pos rfl, xqb, in_X, xqb]
theorem lim_T {limit most : Int32} (h : 0 ≤ limit ∧ limit ≤ most) : ¬ limit < 0 ∧ ¬ most < limit := ⟨Int32.not_lt.mpr h.1, Int32.not_lt.mpr h.2⟩
/-- what was laid, both sides ready to mend -/
theorem md_R {x y : MM} {g g' : GG} {n m : Nat} (L : LDF x y n m) : ∃ y2, Fx_M_keepChancesX y g' = y2 ∧ MRD y2 n m (rwA y) (sR y) (cR y) ∧ y2 172 2 = y 172 2 := by
  obtain ⟨y2, r1, r2, r3⟩ := kc_X (g := g') (rr_L L)
  exact ⟨y2, r1, r2, by rw [r3 172 (by decide)]⟩
/-! best -/
/-- the class looks at what is laid, ready to mend -/
theorem lo_M {x y : MM} {g : GG} {n m : Nat} (L : LDF x y n m) : ∃ x6 g7, Fx_O_look_44X (-1) (Fx_H_weakX 44 x g) x g = (x6, g7) ∧ OK x6 g7 n m (rwA y) (sR y) (cR y) (iN (bset (wkF (rwA y)) n)) (chM (rwA y) 0 0) ∧ HA x6 44 n (rwA y) ∧ x6 48 0 = y 172 2 := by
  have n9 := L.1
  rw [wk_X L.2.2.2.1 n9]
  obtain ⟨x', g1, k1, k2, k3, k4⟩ := lk44_X (g := g) (mg := iN (bset (wkF (rwA y)) n)) (sr := sR y) (cr := cR y) L.2.2.2.1 n9 L.2.2.1 (rns_L L).1 (rns_L L).2
  exact ⟨x', g1, k1, k2, ha_c L.2.2.2.1 (k3 44 (by decide)) (k3 45 (by decide)), by rw [k3 48 (by decide)]; exact (L.2.2.2.2.2.2.2.2.2.1 0 (by decide)).1⟩
/-! spend -/
theorem spd_L {x6 : MM} {g' : GG} {n m P : Nat} {A : Nat → Nat → Int32} {sr cr : Nat → Int32} {d : Int32} {lim : Int64} (ha : HA x6 44 n A) (hx : x6 48 0 = d) (n9 : n ≤ 9) (aw : AWF n A) (hP : P < 512) : ∀ (f s : Nat) (g : GG) (y1 : MM) (few : Int32) (ch : Nat → Int32), P + 1 - s < f → s ≤ P + 1 → OK x6 g n m A sr cr (iN (bset (wkF A) n)) ch → MRD y1 n m A sr cr → y1 172 2 = d → (Fx_C_fewestDaysX_L29 (iN P) x6 lim f few (iN s) g).1 = (Fx_M_spendX_L46 (iN P) g' lim f few (iN s) y1).1 := by
  intro f
  induction f with
  | zero => intro s g y1 few ch h1; omega
  | succ f ih =>
    intro s g y1 few ch h1 h2 ok mr hd
    rw [Fx_C_fewestDaysX_L29_s, Fx_M_spendX_L46_s]
    by_cases q : P + 1 ≤ s
    · rw [if_pos ((iN_lt (by omega) (by omega)).mpr (by omega)), if_pos ((iN_lt (by omega) (by omega)).mpr (by omega))]
    · rw [if_neg (fun z => by have := (iN_lt (by omega) (by omega)).mp z; omega), if_neg (fun z => by have := (iN_lt (by omega) (by omega)).mp z; omega), xqb, dm_X ha n9 hx]
      unfold Fx_C_fewestDaysX_J85 Fx_M_spendX_J103
      rw [iN_s]
      obtain ⟨g2, q1, q2, q3⟩ := cmm_X (s := iN s) ok aw
      obtain ⟨y2, r1, r2, r3⟩ := mmm_X (g := g') (s := iN s) mr hd
      by_cases w : iN s &&& (iN P ^^^ (-1)) = 0
      · rw [if_pos w, if_pos w]
        by_cases c : few = -1
        · rw [if_pos c, if_pos c, q1, c2_mk, xqb, r1, c2_mk, xqb, Int64.mul_comm (100 : Int64)]
          by_cases l : 0 < lg_cmp (MDN A n m sr cr (iN s) * (100 : Int64)) lim
          · rw [if_pos l, if_pos l]
            exact ih (s + 1) g2 y2 few _ (by omega) (by omega) q2 r2 r3
          · rw [if_neg l, if_neg l, xqb, co2_X r2 r3]
            exact ih (s + 1) g2 y2 _ _ (by omega) (by omega) q2 r2 r3
        · rw [if_neg c, if_neg c, xqb, co2_X mr hd]
          by_cases e : few ≤ cst A d (iN s) n
          · rw [if_pos e, if_pos e]
            exact ih (s + 1) g y1 few ch (by omega) (by omega) ok mr hd
          · rw [if_neg e, if_neg e, q1, c2_mk, xqb, r1, c2_mk, xqb, Int64.mul_comm (100 : Int64)]
            by_cases l : 0 < lg_cmp (MDN A n m sr cr (iN s) * (100 : Int64)) lim
            · rw [if_pos l, if_pos l]
              exact ih (s + 1) g2 y2 few _ (by omega) (by omega) q2 r2 r3
            · rw [if_neg l, if_neg l, xqb, co2_X r2 r3]
              exact ih (s + 1) g2 y2 _ _ (by omega) (by omega) q2 r2 r3
      · rw [if_neg w, if_neg w]
        exact ih (s + 1) g y1 few ch (by omega) (by omega) ok mr hd
theorem R5_spend {u v u1 v2 : MM} {g g' g1 : GG} {hill plan ponds mm z w : Int32} (h : RLY u v) (b5 : Bd 0 2 (u 1 5)) (b7 : Bd 0 3 (u 1 7)) (hd : HD v) (pl : PL v) (e1 : (z, u1, g1) = Fx_P_spendX hill plan ponds mm u g) (e2 : (w, v2) = Fx_M_spendX hill plan ponds mm v g') : z = w := by
  obtain ⟨b, x, y, p1, p2, p3⟩ := cm_Y (g := g) (g' := g') (hill := hill) (plan := plan) (ponds := ponds) h b5 b7 hd pl
  unfold Fx_P_spendX at e1
  unfold Fx_M_spendX at e2
  rw [p1] at e1
  rw [xqb, p2] at e2
  cases b
  · rw [if_neg Bool.false_ne_true, c2_mk, if_neg Bool.false_ne_true] at e1 e2
    exact (congrArg Prod.fst e1).trans (congrArg Prod.fst e2).symm
  rw [if_pos rfl] at e1 e2
  rw [if_pos (show (decide ((0 : Int32) ≤ 0) && decide ((0 : Int32) ≤ 9999)) = true by decide), c2_mk, if_pos rfl, xqb, in_X] at e2
  by_cases hl : 0 ≤ mm ∧ mm ≤ 100
  rotate_left
  · have ef : ¬ (decide (0 ≤ mm) && decide (mm ≤ 100)) = true := fun z => by
      obtain ⟨z1, z2⟩ := (Bool.and_eq_true _ _).mp z
      exact hl ⟨of_decide_eq_true z1, of_decide_eq_true z2⟩
    rw [if_neg ef] at e2
    by_cases l1 : mm < 0
    · rw [if_pos l1, c2_mk, if_neg Bool.false_ne_true] at e1
      exact (congrArg Prod.fst e1).trans (congrArg Prod.fst e2).symm
    · have l2 : (100 : Int32) < mm := Int32.not_le.mp (fun z => hl ⟨Int32.not_lt.mp l1, z⟩)
      rw [if_neg l1, if_pos l2, c2_mk, if_neg Bool.false_ne_true] at e1
      exact (congrArg Prod.fst e1).trans (congrArg Prod.fst e2).symm
  obtain ⟨n, m, P, L, hP, eP, h5⟩ := p3 rfl
  obtain ⟨t1, t2⟩ := lim_T hl
  rw [if_neg t1, if_neg t2, c2_mk, if_pos rfl] at e1
  rw [decide_eq_true hl.1, decide_eq_true hl.2, if_pos (show (true && true) = true from rfl)] at e2
  have n9 := L.1
  have m4 := L.2.2.1
  have pn := p2_le n9
  have aw := L.2.2.2.2.2.1
  obtain ⟨x6, g7, k1, k2, k3, k4⟩ := lo_M (g := g) L
  obtain ⟨y2, r1, r2, r3⟩ := md_R (g := g) (g' := g') L
  obtain ⟨g8, q1, q2, q3⟩ := cmm_X (s := 0) k2 aw
  obtain ⟨y3, m1, m2⟩ := mb_N (g := g') r2.1
  have r2' : MRD y3 n m (rwA y) (sR y) (cR y) := ⟨rr_c r2.1 m2, fun p hp => by rw [m2.1 177 (by decide) (by decide) (by decide) (by decide)]; exact r2.2 p hp⟩
  have r3' : y3 172 2 = y 172 2 := by rw [m2.1 172 (by decide) (by decide) (by decide) (by decide)]; exact r3
  have e513 : (512 - (0 : Int32).toInt).toNat + 1 = 513 := by decide
  unfold Fx_C_fewestDaysX at e1
  rw [xqb, k1, c2_mk, q1, c2_mk, xqb, xqb, e513, eP, MDN_0 n9] at e1
  rw [r1, xqb, m1, c2_mk, xqb, e513, eP, Int64.mul_comm mm.toInt64] at e2
  have k := spd_L (g' := g') (lim := MN (rwA y) n m (sR y) (cR y) * mm.toInt64) k3 k4 n9 aw (show P < 512 by omega) 513 0 g8 y3 (-1) _ (by omega) (by omega) q2 r2' r3'
  have z1 : z = (Fx_C_fewestDaysX_L29 (iN P) x6 (MN (rwA y) n m (sR y) (cR y) * mm.toInt64) 513 (-1) (iN 0) g8).1 := by
    obtain ⟨R, hR⟩ : ∃ R, R = Fx_C_fewestDaysX_L29 (iN P) x6 (MN (rwA y) n m (sR y) (cR y) * mm.toInt64) 513 (-1) (iN 0) g8 := ⟨_, rfl⟩
    have e3 : (z, u1, g1) = xq_c3 R fun v14 u15 g16 => (v14, u15, g16) := by rw [hR]; exact e1
    rw [← hR]
    exact congrArg Prod.fst e3
  exact z1.trans (k.trans (congrArg Prod.fst e2).symm)
end
section
/-! means as numbers; rains that are all dry are as one of them -/
noncomputable def hN (A : Nat → Nat → Int32) (n : Nat) (st : Int32) (b : Nat) : Nat := (hro A (-1) (stN A n st (iN b) (-1) n).1 n).toNatClampNeg
/-! ponds filled -/
end
