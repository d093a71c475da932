section
/-! sets, weights, sums over storms -/
theorem inN : ∀ k, k < 512 → ∀ q, q < 9 → inB (iN k) q = k.testBit q := by decide +kernel
/-- the set of the first ponds that f tells -/
def bset (f : Nat → Bool) : Nat → Nat
  | 0 => 0
  | p + 1 => if f p = true then bset f p + 2 ^ p else bset f p
theorem bset_lt {f : Nat → Bool} : ∀ p, bset f p < 2 ^ p := by
  intro p
  induction p with
  | zero => exact (by decide : (0 : Nat) < 2 ^ 0)
  | succ p ih =>
    show (if f p = true then bset f p + 2 ^ p else bset f p) < 2 ^ (p + 1)
    rw [Nat.pow_succ]
    split <;> omega
theorem tb_add {k p q : Nat} (hk : k < 2 ^ p) (hq : q ≤ p) : (k + 2 ^ p).testBit q = if q = p then true else k.testBit q := by
  rw [Nat.add_comm]
  by_cases y : q = p
  · rw [if_pos y, y, Nat.testBit_two_pow_add_eq, Nat.testBit_lt_two_pow hk]
    rfl
  · rw [if_neg y, Nat.testBit_two_pow_add_gt (by omega)]
theorem bset_b {f : Nat → Bool} : ∀ p q, q < p → (bset f p).testBit q = f q := by
  intro p
  induction p with
  | zero => intro q h; omega
  | succ p ih =>
    intro q h
    show (if f p = true then bset f p + 2 ^ p else bset f p).testBit q = f q
    by_cases y : q = p
    · rw [y]
      by_cases w : f p = true
      · rw [if_pos w, tb_add (bset_lt p) (Nat.le_refl p), if_pos rfl, w]
      · rw [if_neg w, Nat.testBit_lt_two_pow (bset_lt p), (Bool.not_eq_true _).mp w]
    · by_cases w : f p = true
      · rw [if_pos w, tb_add (bset_lt p) (by omega), if_neg y]
        exact ih q (by omega)
      · rw [if_neg w]
        exact ih q (by omega)
theorem bset_or {f : Nat → Bool} {p : Nat} (hp : p < 9) : iN (bset f p) ||| bt p = iN (bset f p + 2 ^ p) := by
  have h3 := p2_le (p := p) (by omega)
  have h4 := bset_lt (f := f) p
  exact (bits9 p hp _ (by omega) h4).2.2
theorem iN_and {a b : Nat} (ha : a < 2 ^ 31) (hb : b < 2 ^ 31) : iN a &&& iN b = iN (a &&& b) := by
  refine Int32.toBitVec_inj.mp ?_
  rw [Int32.toBitVec_and]
  show BitVec.ofNat 32 a &&& BitVec.ofNat 32 b = BitVec.ofNat 32 (a &&& b)
  refine BitVec.eq_of_getLsbD_eq (fun i hi => ?_)
  rw [BitVec.getLsbD_and, BitVec.getLsbD_ofNat, BitVec.getLsbD_ofNat, BitVec.getLsbD_ofNat, Nat.testBit_and, decide_eq_true hi]
  rfl
/-- a set within another one -/
theorem sub_0 {b w n : Nat} (hb : b < 2 ^ n) (n9 : n ≤ 9) (h : ∀ p, p < n → b.testBit p = true → w.testBit p = true) : iN b &&& (iN w ^^^ (-1)) = 0 := by
  refine Int32.toBitVec_inj.mp ?_
  rw [Int32.toBitVec_and, Int32.toBitVec_xor]
  show BitVec.ofNat 32 b &&& (BitVec.ofNat 32 w ^^^ BitVec.allOnes 32) = BitVec.ofNat 32 0
  refine BitVec.eq_of_getLsbD_eq (fun i hi => ?_)
  rw [BitVec.getLsbD_and, BitVec.getLsbD_xor, BitVec.getLsbD_ofNat, BitVec.getLsbD_ofNat, BitVec.getLsbD_ofNat, BitVec.getLsbD_allOnes, decide_eq_true hi, Nat.zero_testBit]
  by_cases y : b.testBit i = true
  · have hn : i < n := by
      by_cases z : i < n
      · exact z
      · rw [Nat.testBit_lt_two_pow (Nat.lt_of_lt_of_le hb (Nat.pow_le_pow_right (by decide) (by omega)))] at y
        exact absurd y (by decide)
    rw [h i hn y, y]
    rfl
  · rw [(Bool.not_eq_true _).mp y]
    rfl
/-! weights -/
def fac (ch : Nat → Int32) (b p : Nat) : Int64 := (if b.testBit p = true then ch p else 10 - ch p).toInt64
def wB (ch : Nat → Int32) (b : Nat) : Nat → Int64
  | 0 => 1
  | p + 1 => wB ch b p * fac ch b p
def prB (ch : Nat → Int32) (b : Nat) (c : Int64) : Nat → Int64
  | 0 => c
  | p + 1 => prB ch b c p * fac ch b p
theorem prB_e {ch : Nat → Int32} {b : Nat} {c : Int64} : ∀ p, prB ch b c p = wB ch b p * c := by
  intro p
  induction p with
  | zero =>
    show c = 1 * c
    rw [Int64.one_mul]
  | succ p ih =>
    show prB ch b c p * fac ch b p = wB ch b p * fac ch b p * c
    rw [ih, Int64.mul_assoc, Int64.mul_assoc, Int64.mul_comm c]
theorem wB_c {ch ch2 : Nat → Int32} {b b2 : Nat} : ∀ p, (∀ q, q < p → ch q = ch2 q ∧ b.testBit q = b2.testBit q) → wB ch b p = wB ch2 b2 p := by
  intro p
  induction p with
  | zero => intro _; rfl
  | succ p ih =>
    intro h
    obtain ⟨h1, h2⟩ := h p (by omega)
    show wB ch b p * fac ch b p = wB ch2 b2 p * fac ch2 b2 p
    unfold fac
    rw [ih (fun q hq => h q (by omega)), h1, h2]
theorem wB_0 {ch : Nat → Int32} {b q : Nat} (hq : b.testBit q = true) (h0 : ch q = 0) : ∀ p, q < p → wB ch b p = 0 := by
  intro p
  induction p with
  | zero => intro h; omega
  | succ p ih =>
    intro h
    show wB ch b p * fac ch b p = 0
    by_cases y : q = p
    · subst y
      unfold fac
      rw [if_pos hq, h0]
      exact Int64.mul_zero
    · rw [ih (by omega)]
      exact Int64.zero_mul
/-! sums over storms -/
def fB {α : Type} (F : Nat → α → α) : Nat → α → α
  | 0, a => a
  | b + 1, a => F b (fB F b a)
def fR {α : Type} (F : Nat → Nat → α → α) (N : Nat) : Nat → α → α
  | 0, a => a
  | r + 1, a => fB (F r) N (fR F N r a)
theorem fB_c {α : Type} {F G : Nat → α → α} : ∀ (n : Nat) (a : α), (∀ b a, b < n → F b a = G b a) → fB F n a = fB G n a := by
  intro n
  induction n with
  | zero => intro a _; rfl
  | succ n ih =>
    intro a h
    show F n (fB F n a) = G n (fB G n a)
    rw [ih a (fun b a hb => h b a (by omega)), h n _ (by omega)]
theorem fR_c {α : Type} {F G : Nat → Nat → α → α} {N : Nat} : ∀ (m : Nat) (a : α), (∀ r b a, r < m → b < N → F r b a = G r b a) → fR F N m a = fR G N m a := by
  intro m
  induction m with
  | zero => intro a _; rfl
  | succ m ih =>
    intro a h
    show fB (F m) N (fR F N m a) = fB (G m) N (fR G N m a)
    rw [ih a (fun r b a hr hb => h r b a (by omega) hb)]
    exact fB_c N _ (fun b a hb => h m b a (by omega) hb)
/-! a storm does not hang on the chances -/
/-- harm of those that are counted -/
theorem hrm_and {A : Nat → Nat → Int32} {o : Int32} {k c n : Nat} (n9 : n ≤ 9) (hk : k < 2 ^ n) (hc : c < 2 ^ n) (h : ∀ p, p < n → (c.testBit p = true ↔ (o = -1 ∨ A p 6 = o))) : ∀ p, p ≤ n → hrm A (iN k &&& iN c) p = hro A o (iN k) p := by
  have h3 := p2_le n9
  intro p
  induction p with
  | zero => intro _; rfl
  | succ p ih =>
    intro hp
    have ea : iN k &&& iN c = iN (k &&& c) := iN_and (by omega) (by omega)
    have hl : k &&& c ≤ k := Nat.and_le_left
    show (if inB (iN k &&& iN c) p = true then hrm A (iN k &&& iN c) p + A p 5 else hrm A (iN k &&& iN c) p) = hro A o (iN k) p + (if inB (iN k) p = true ∧ (o = -1 ∨ A p 6 = o) then A p 5 else 0)
    rw [ih (by omega), ea, inN _ (by omega) p (by omega), inN k (by omega) p (by omega), Nat.testBit_and]
    have hh := h p (by omega)
    by_cases y1 : k.testBit p = true
    · by_cases y2 : c.testBit p = true
      · rw [y1, y2, if_pos (show (true && true) = true from rfl), if_pos ⟨rfl, hh.mp y2⟩]
      · rw [y1, (Bool.not_eq_true _).mp y2, if_neg (show ¬ (true && false) = true from Bool.false_ne_true), if_neg (fun z => y2 (hh.mpr z.2)), Int32.add_zero]
    · rw [(Bool.not_eq_true _).mp y1, Bool.false_and, if_neg Bool.false_ne_true, if_neg (fun z => Bool.false_ne_true z.1), Int32.add_zero]
end
section
/-! the class's weights, and what hangs on them -/
theorem zl_c {g : GG} {a b i : Nat} {x : Int64} (h : b ≠ a) : ml g a i x b = g b := if_neg h
theorem zl_i {g : GG} {a i j : Nat} {x : Int64} (h : j ≠ i) : ml g a i x a j = g a j := by
  unfold ml
  rw [if_pos rfl]
  unfold vp_updL
  rw [if_neg h]
theorem btE {p : Nat} (hp : p < 10) : bt p = iN (2 ^ p) := (all_e p hp).2.1
theorem we_I {ih : Int32 → GG → GG} {p : Nat} {ch : Nat → Int32} {c : Int32} (hp : p < 9) (hc : ch p = c) : ∀ (f s : Nat) (g : GG), 2 ^ p - s < f → s ≤ 2 ^ p → (∀ b, b < 2 ^ p → g 68 b = if b < s then wB ch b p * (10 - c).toInt64 else wB ch b p) → (∀ b, b < s → g 68 (b + 2 ^ p) = wB ch b p * c.toInt64) → ∃ g', Fx_O_weighX_L64 ih (iN p) c (bt p) f (iN s) g = ih (iN (p + 1)) g' ∧ (∀ b, b < 2 ^ (p + 1) → g' 68 b = wB ch b (p + 1)) ∧ ∀ a, a ≠ 68 → g' a = g a := by
  have h3 := p2_le (p := p) (by omega)
  intro f
  induction f with
  | zero => intro s g h; omega
  | succ f ih' =>
    intro s g h1 h2 k1 k2
    rw [Fx_O_weighX_L64_s, btE (by omega), iN_s]
    by_cases q : 2 ^ p ≤ s
    · rw [if_pos ((iN_le (by omega) (by omega)).mpr q)]
      refine ⟨g, rfl, fun b hb => ?_, fun _ _ => rfl⟩
      rw [Nat.pow_succ] at hb
      show g 68 b = wB ch b p * fac ch b p
      unfold fac
      by_cases y : b < 2 ^ p
      · rw [k1 b y, if_pos (by omega), Nat.testBit_lt_two_pow y, if_neg (by decide), hc]
      · obtain ⟨d, hd⟩ : ∃ d, b = d + 2 ^ p := ⟨b - 2 ^ p, by omega⟩
        have hd2 : d < 2 ^ p := by omega
        rw [hd, k2 d (by omega), tb_add hd2 (Nat.le_refl p), if_pos rfl, if_pos rfl, hc, wB_c (ch2 := ch) (b := d + 2 ^ p) (b2 := d) p (fun q hq => ⟨rfl, by rw [tb_add hd2 (by omega), if_neg (by omega)]⟩)]
    · have e1 : iN s ||| iN (2 ^ p) = iN (s + 2 ^ p) := by
        rw [← btE (p := p) (by omega)]
        exact (bits9 p hp s (by omega) (by omega)).2.2
      rw [if_neg (fun z => q ((iN_le (by omega) (by omega)).mp z)), xqb, xqb, xqb, xqb, xqb, xqb, xqb, xqb, e1, iN_cl (by omega), iN_cl (by omega), zl_i (j := s) (i := s + 2 ^ p) (by have := Nat.two_pow_pos p; omega), k1 s (by omega), if_neg (Nat.lt_irrefl s), iN_s]
      obtain ⟨g', g1, g2, g3⟩ := ih' (s + 1) (ml (ml g 68 (s + 2 ^ p) (wB ch s p * c.toInt64)) 68 s (wB ch s p * (10 - c).toInt64)) (by omega) (by omega) (fun b hb => by
        by_cases y : b = s
        · rw [y, ml_e, if_pos (by omega)]
        · rw [zl_i y, zl_i (by omega), k1 b hb]
          by_cases w : b < s
          · rw [if_pos w, if_pos (by omega)]
          · rw [if_neg w, if_neg (by omega)]) (fun b hb => by
        rw [zl_i (by omega)]
        by_cases y : b = s
        · rw [y, ml_e]
        · rw [zl_i (by omega)]
          exact k2 b (by omega))
      rw [btE (by omega)] at g1
      exact ⟨g', g1, g2, fun a ha => by rw [g3 a ha, zl_c ha, zl_c ha]⟩
/-- chances with some mended, some weaker -/
def chM (A : Nat → Nat → Int32) (mended weaker : Int32) (p : Nat) : Int32 := if inB mended p = true then 0 else A p 4 + (if inB weaker p = true then 1 else 0)
theorem we_L {u : MM} {n : Nat} {A : Nat → Nat → Int32} {md wk : Int32} (h : HA u 61 n A) (n9 : n ≤ 9) : ∀ (f p : Nat) (g : GG), n - p < f → p ≤ n → (∀ b, b < 2 ^ p → g 68 b = wB (chM A md wk) b p) → ∃ g', Fx_O_weighX_L9 md wk u f (iN p) g = g' ∧ (∀ b, b < 2 ^ n → g' 68 b = wB (chM A md wk) b n) ∧ ∀ a, a ≠ 68 → g' a = g a := by
  intro f
  induction f with
  | zero => intro p g h1; omega
  | succ f ih =>
    intro p g h1 h2 k
    rw [Fx_O_weighX_L9_s, h.1]
    by_cases q : n ≤ p
    · have e : p = n := by omega
      subst e
      rw [if_pos (Int32.le_refl _)]
      exact ⟨g, rfl, k, fun _ _ => rfl⟩
    · have hp : p < n := by omega
      rw [if_neg (fun z => q ((iN_le (by omega) (by omega)).mp z)), if_neg (show ¬ (9 : Int32) ≤ iN p from fun z => by have := (iN_le (a := 9) (by omega) (by omega)).mp z; omega), xqb, isI, heard_e, show hof u 61 (iN p) (4 : Int32) = A p 4 from ha_r (c := 4) h n9 hp (by decide)]
      have J : ∀ c : Int32, chM A md wk p = c → ∃ g', Fx_O_weighX_J53 (Fx_O_weighX_L9 md wk u f) u (iN p) g c = g' ∧ (∀ b, b < 2 ^ n → g' 68 b = wB (chM A md wk) b n) ∧ ∀ a, a ≠ 68 → g' a = g a := by
        intro c hc
        unfold Fx_O_weighX_J53
        have e257 : (256 - (0 : Int32).toInt).toNat + 1 = 257 := by decide
        have hpp : 2 ^ p ≤ 2 ^ 8 := Nat.pow_le_pow_right (by decide) (by omega)
        rw [xqb, b9I (by omega), e257]
        obtain ⟨g1, a1, a2, a3⟩ := we_I (ih := Fx_O_weighX_L9 md wk u f) (p := p) (ch := chM A md wk) (by omega) hc 257 0 g (by omega) (Nat.zero_le _) (fun b hb => by rw [if_neg (by omega)]; exact k b hb) (fun b hb => by omega)
        have a1' : Fx_O_weighX_L64 (Fx_O_weighX_L9 md wk u f) (iN p) c (bt p) 257 0 g = Fx_O_weighX_L9 md wk u f (iN (p + 1)) g1 := a1
        rw [a1']
        obtain ⟨g2, b1, b2, b3⟩ := ih (p + 1) g1 (by omega) (by omega) a2
        exact ⟨g2, b1, b2, fun a ha => (b3 a ha).trans (a3 a ha)⟩
      by_cases y : inB md p = true
      · rw [if_pos y]
        exact J 0 (by unfold chM; rw [if_pos y])
      · rw [if_neg y]
        exact J _ (by unfold chM; rw [if_neg y])
theorem we_X {u : MM} {g : GG} {n : Nat} {A : Nat → Nat → Int32} {md wk : Int32} (h : HA u 61 n A) (n9 : n ≤ 9) : ∃ g', Fx_O_weighX md wk u g = g' ∧ (∀ b, b < 2 ^ n → g' 68 b = wB (chM A md wk) b n) ∧ ∀ a, a ≠ 68 → g' a = g a := by
  unfold Fx_O_weighX
  have e10 : (9 - (0 : Int32).toInt).toNat + 1 = 10 := by decide
  rw [xqb, e10]
  obtain ⟨g', g1, g2, g3⟩ := we_L (md := md) (wk := wk) h n9 10 0 (ml g 68 0 1) (by omega) (by omega) (fun b hb => by
    have e : b = 0 := by rw [Nat.pow_zero] at hb; omega
    rw [e, ml_e]
    rfl)
  exact ⟨g', g1, g2, fun a ha => (g3 a ha).trans (zl_c ha)⟩
/-- the class's odds are ready: storms of banks within mg -/
def OK (x : MM) (g : GG) (n m : Nat) (A : Nat → Nat → Int32) (sr cr : Nat → Int32) (mg : Int32) (ch : Nat → Int32) : Prop := n ≤ 9 ∧ m ≤ 4 ∧ HA x 61 n A ∧ x 61 2 = iN m ∧ (∀ i, i < m → x 63 i = sr i ∧ x 64 i = cr i) ∧ (∀ s, s < 2 ^ n → x 67 s = hrm A (iN s) n) ∧ (∀ r b, r < m → b < 2 ^ n → iN b &&& (mg ^^^ (-1)) = 0 → x 66 (512 * r + b) = (stN A n (sr r) (iN b) (-1) n).1) ∧ ∀ b, b < 2 ^ n → g 68 b = wB ch b n
theorem stm_X {x : MM} {g : GG} {r b : Nat} (hr : r < 4) (hb : b < 512) : Fx_O_isStormX (iN r) (iN b) x g = true := by
  unfold Fx_O_isStormX
  rw [if_neg (show ¬ iN r < (0 : Int32) from fun z => by have := (iN_lt (b := 0) (by omega) (by omega)).mp z; omega), if_neg (show ¬ (4 : Int32) ≤ iN r from fun z => by have := (iN_le (a := 4) (by omega) (by omega)).mp z; omega), if_neg (show ¬ iN b < (0 : Int32) from fun z => by have := (iN_lt (b := 0) (by omega) (by omega)).mp z; omega), if_neg (show ¬ (512 : Int32) ≤ iN b from fun z => by have := (iN_le (a := 512) (by omega) (by omega)).mp z; omega)]
theorem par_X {x : MM} {g : GG} {n m r b : Nat} {A : Nat → Nat → Int32} {sr cr ch : Nat → Int32} {mg : Int32} (h : OK x g n m A sr cr mg ch) (hr : r < m) (hb : b < 2 ^ n) : Fx_O_partsX (iN r) (iN b) x g = wB ch b n * (cr r).toInt64 := by
  obtain ⟨n9, m4, ha, h1, h2, h3, h4, h5⟩ := h
  have p2 := p2_le n9
  unfold Fx_O_partsX Fx_H_chanceOfX
  rw [xqb, stm_X (by omega) (by omega), if_pos rfl, xqb, xqb, xqb, xqb, iN_cl (by omega), h5 b hb, if_neg (show ¬ iN r < (0 : Int32) from fun z => by have := (iN_lt (b := 0) (by omega) (by omega)).mp z; omega), h1, if_neg (fun z => by have := (iN_le (by omega) (by omega)).mp z; omega), xqb, iN_cl (by omega), show x (61 + 3) r = cr r from (h2 r hr).2]
theorem wen_X {x : MM} {g : GG} {n m r b : Nat} {A : Nat → Nat → Int32} {sr cr ch : Nat → Int32} {mg : Int32} (h : OK x g n m A sr cr mg ch) (hr : r < m) (hb : b < 2 ^ n) (hg : iN b &&& (mg ^^^ (-1)) = 0) : Fx_O_wentByX (iN r) (iN b) x g = (stN A n (sr r) (iN b) (-1) n).1 := by
  obtain ⟨n9, m4, ha, h1, h2, h3, h4, h5⟩ := h
  have p2 := p2_le n9
  unfold Fx_O_wentByX
  have e : ((iN r * 512) + iN b).toNatClampNeg = 512 * r + b := by
    show (iN r * iN 512 + iN b).toNatClampNeg = _
    rw [iN_m, iN_a, iN_cl (by omega)]
    omega
  rw [xqb, stm_X (by omega) (by omega), if_pos rfl, xqb, e]
  exact h4 r b hr hb hg
/-- banks of storms that have parts can go -/
def SUP (n : Nat) (mg : Int32) (ch : Nat → Int32) : Prop := ∀ b, b < 2 ^ n → ¬ wB ch b n = 0 → iN b &&& (mg ^^^ (-1)) = 0
theorem sup_p {n b : Nat} {mg : Int32} {ch : Nat → Int32} {c : Int64} (h : SUP n mg ch) (hb : b < 2 ^ n) (q : ¬ lg_cmp (wB ch b n * c) (0 : Int64) ≤ 0) : iN b &&& (mg ^^^ (-1)) = 0 := by
  refine h b hb (fun z => q ?_)
  rw [z, Int64.zero_mul]
  exact (lg_cmp_le _ _).mpr (Int64.le_refl _)
/-- a storm's part of a sum -/
noncomputable def mnF (A : Nat → Nat → Int32) (n : Nat) (sr cr ch : Nat → Int32) (H : Int32 → Int32) (r b : Nat) (a : Int64) : Int64 := if lg_cmp (wB ch b n * (cr r).toInt64) (0 : Int64) ≤ 0 then a else a + (wB ch b n * (cr r).toInt64) * (H (stN A n (sr r) (iN b) (-1) n).1).toInt64
theorem mnF_0 {A : Nat → Nat → Int32} {n r b : Nat} {sr cr ch : Nat → Int32} {H : Int32 → Int32} {a : Int64} (h : lg_cmp (wB ch b n * (cr r).toInt64) (0 : Int64) ≤ 0) : mnF A n sr cr ch H r b a = a := if_pos h
theorem mnF_1 {A : Nat → Nat → Int32} {n r b : Nat} {sr cr ch : Nat → Int32} {H : Int32 → Int32} {a : Int64} (h : ¬ lg_cmp (wB ch b n * (cr r).toInt64) (0 : Int64) ≤ 0) : mnF A n sr cr ch H r b a = a + (wB ch b n * (cr r).toInt64) * (H (stN A n (sr r) (iN b) (-1) n).1).toInt64 := if_neg h
theorem mo_I {x : MM} {g : GG} {n m r c : Nat} {A : Nat → Nat → Int32} {sr cr ch : Nat → Int32} {mg : Int32} {ih : Int64 → Int32 → Int64} (h : OK x g n m A sr cr mg ch) (su : SUP n mg ch) (hr : r < m) (hc : c < 2 ^ n) (a0 : Int64) : ∀ (f b : Nat), 2 ^ n - b < f → b ≤ 2 ^ n → Fx_O_meanOfX_L20 ih (iN c) x g (iN r) f (fB (mnF A n sr cr ch (fun w => hrm A (w &&& iN c) n) r) b a0) (iN b) = ih (fB (mnF A n sr cr ch (fun w => hrm A (w &&& iN c) n) r) (2 ^ n) a0) (iN (r + 1)) := by
  have n9 := h.1
  have p2 := p2_le n9
  have pp := Nat.two_pow_pos n
  intro f
  induction f with
  | zero => intro b h1; omega
  | succ f ihf =>
    intro b h1 h2
    rw [Fx_O_meanOfX_L20_s, all_X h.2.2.1.1 n9, xqb, iN_s]
    by_cases q : 2 ^ n ≤ b
    · rw [if_pos ((iN_lt (by omega) (by omega)).mpr (by omega)), show b = 2 ^ n by omega]
    · have hb : b < 2 ^ n := by omega
      have e : fB (mnF A n sr cr ch (fun w => hrm A (w &&& iN c) n) r) (b + 1) a0 = mnF A n sr cr ch (fun w => hrm A (w &&& iN c) n) r b (fB (mnF A n sr cr ch (fun w => hrm A (w &&& iN c) n) r) b a0) := rfl
      have k := ihf (b + 1) (by omega) (by omega)
      rw [e] at k
      rw [if_neg (fun z => by have := (iN_lt (by omega) (by omega)).mp z; omega), xqb, par_X h hr hb, xqb]
      unfold Fx_O_meanOfX_J73
      rw [iN_s]
      by_cases z : lg_cmp (wB ch b n * (cr r).toInt64) (0 : Int64) ≤ 0
      · rw [if_pos z]
        rw [mnF_0 z] at k
        exact k
      · have hg := sup_p su hb z
        obtain ⟨w, hw, ew⟩ := (st_sb (A := A) (n := n) (st := sr r) (bk := iN b) (kp := -1) n n9).1
        have el : w &&& c ≤ w := Nat.and_le_left
        rw [if_neg z, xqb, wen_X h hr hb hg, xqb, xqb, xqb, xqb, ew, iN_and (by omega) (by omega), iN_cl (by omega), h.2.2.2.2.2.1 _ (by omega)]
        rw [mnF_1 z, ew, iN_and (by omega) (by omega)] at k
        exact k
theorem mo_L {x : MM} {g : GG} {n m c : Nat} {A : Nat → Nat → Int32} {sr cr ch : Nat → Int32} {mg : Int32} (h : OK x g n m A sr cr mg ch) (su : SUP n mg ch) (hc : c < 2 ^ n) : ∀ (f r : Nat), m - r < f → r ≤ m → Fx_O_meanOfX_L5 (iN c) x g f (fR (mnF A n sr cr ch (fun w => hrm A (w &&& iN c) n)) (2 ^ n) r 0) (iN r) = fR (mnF A n sr cr ch (fun w => hrm A (w &&& iN c) n)) (2 ^ n) m 0 := by
  have m4 := h.2.1
  have p2 := p2_le h.1
  intro f
  induction f with
  | zero => intro r h1; omega
  | succ f ihf =>
    intro r h1 h2
    rw [Fx_O_meanOfX_L5_s, h.2.2.2.1]
    by_cases q : m ≤ r
    · rw [if_pos ((iN_le (by omega) (by omega)).mpr q), show r = m by omega]
    · have e513 : (512 - (0 : Int32).toInt).toNat + 1 = 513 := by decide
      rw [if_neg (fun z => q ((iN_le (by omega) (by omega)).mp z)), e513]
      have k := mo_I (ih := Fx_O_meanOfX_L5 (iN c) x g f) h su (show r < m by omega) hc (fR (mnF A n sr cr ch (fun w => hrm A (w &&& iN c) n)) (2 ^ n) r 0) 513 0 (by omega) (Nat.zero_le _)
      exact Eq.trans k (ihf (r + 1) (by omega) (by omega))
/-- the class's mean -/
theorem mo_X {x : MM} {g : GG} {n m c : Nat} {A : Nat → Nat → Int32} {sr cr ch : Nat → Int32} {mg : Int32} (h : OK x g n m A sr cr mg ch) (su : SUP n mg ch) (hc : c < 2 ^ n) : Fx_O_meanOfX (iN c) x g = fR (mnF A n sr cr ch (fun w => hrm A (w &&& iN c) n)) (2 ^ n) m 0 := by
  have m4 := h.2.1
  unfold Fx_O_meanOfX
  have e5 : (4 - (0 : Int32).toInt).toNat + 1 = 5 := by decide
  rw [e5]
  exact mo_L h su hc 5 0 (by omega) (by omega)
end
section
/-! all storms of the hill in cell 70: the class's look -/
theorem lh70_L {u2 : MM} {g : GG} {n : Nat} {A : Nat → Nat → Int32} {kp mg : Int32} (n9 : n ≤ 9) : ∀ (f s : Nat) (x : MM), 2 ^ n - s < f → s ≤ 2 ^ n → HA x 61 n A → (∀ t, t < s → x 67 t = hrm A (iN t) n) → ∃ y, Fx_O_look_70X_L11 kp mg g u2 f (iN s) x = Fx_O_look_70X_L56 kp mg g u2 5 (iN 0) y ∧ (∀ t, t < 2 ^ n → y 67 t = hrm A (iN t) n) ∧ ∀ c, c ≠ 67 → y c = x c := by
  have p2 := p2_le n9
  have pp := Nat.two_pow_pos n
  intro f
  induction f with
  | zero => intro s x h; omega
  | succ f ih =>
    intro s x h1 h2 ha k
    rw [Fx_O_look_70X_L11_s, all_X ha.1 n9, xqb]
    by_cases q : 2 ^ n ≤ s
    · have e5 : (4 - (0 : Int32).toInt).toNat + 1 = 5 := by decide
      rw [if_pos ((iN_lt (by omega) (by omega)).mpr (by omega)), e5]
      exact ⟨x, rfl, fun t ht => k t (by omega), fun _ _ => rfl⟩
    · rw [if_neg (fun z => by have := (iN_lt (by omega) (by omega)).mp z; omega), if_neg (show ¬ (512 : Int32) ≤ iN s from fun z => by have := (iN_le (a := 512) (by omega) (by omega)).mp z; omega), hm_X ha n9, xqb, xqb, iN_cl (by omega), iN_s]
      obtain ⟨y, y1, y2, y3⟩ := ih (s + 1) (ms x 67 s (hrm A (iN s) n)) (by omega) (by omega) (ha_c ha (ms_c1 (by decide)) (ms_c1 (by decide))) (fun t ht => by
        by_cases w : t = s
        · rw [w, ms_e1]
        · rw [ms_i1 w]; exact k t (by omega))
      exact ⟨y, y1, y2, fun c hc => (y3 c hc).trans (ms_c1 hc)⟩
/-- which storms are known -/
def KN70 (x : MM) (A : Nat → Nat → Int32) (n : Nat) (sr : Nat → Int32) (mg : Int32) (R B : Nat) : Prop := ∀ r b, b < 2 ^ n → r < R ∨ (r = R ∧ b < B) → iN b &&& (mg ^^^ (-1)) = 0 → x 66 (512 * r + b) = (stN A n (sr r) (iN b) (-1) n).1
theorem lb70_L {ih : Int32 → MM → MM × GG} {g : GG} {n m r : Nat} {A : Nat → Nat → Int32} {sr : Nat → Int32} {mg : Int32} (n9 : n ≤ 9) (m4 : m ≤ 4) (hr : r < m) : ∀ (f b : Nat) (x : MM), 2 ^ n - b < f → b ≤ 2 ^ n → HA x 61 n A → x 61 2 = iN m → x 63 r = sr r → KN70 x A n sr mg r b → ∃ y, Fx_O_look_70X_L77 ih (-1) mg g (iN r) f (iN b) x = ih (iN (r + 1)) y ∧ KN70 y A n sr mg (r + 1) 0 ∧ ∀ c, c < 58 ∨ 60 < c → c ≠ 66 → y c = x c := by
  have p2 := p2_le n9
  have pp := Nat.two_pow_pos n
  intro f
  induction f with
  | zero => intro b x h; omega
  | succ f ihf =>
    intro b x h1 h2 ha hm hs k
    rw [Fx_O_look_70X_L77_s, all_X ha.1 n9, xqb, iN_s]
    by_cases q : 2 ^ n ≤ b
    · rw [if_pos ((iN_lt (by omega) (by omega)).mpr (by omega))]
      refine ⟨x, rfl, fun r' b' hb' ho hg => ?_, fun _ _ _ => rfl⟩
      exact k r' b' hb' (by omega) hg
    · unfold Fx_O_look_70X_J150
      rw [if_neg (fun z => by have := (iN_lt (by omega) (by omega)).mp z; omega), if_neg (show ¬ (512 : Int32) ≤ iN b from fun z => by have := (iN_le (a := 512) (by omega) (by omega)).mp z; omega), iN_s]
      by_cases y : iN b &&& (mg ^^^ (-1)) = 0
      · have es : Fx_H_stepsOfX (iN r) 61 x g = sr r := by
          unfold Fx_H_stepsOfX
          rw [if_neg (show ¬ iN r < (0 : Int32) from fun z => by have := (iN_lt (b := 0) (by omega) (by omega)).mp z; omega), hm, if_neg (fun z => by have := (iN_le (by omega) (by omega)).mp z; omega), xqb, iN_cl (by omega)]
          exact hs
        obtain ⟨y1, a0, a1, a2, a3, a4⟩ := rn58_X (g := g) (st := sr r) (bk := iN b) (kp := -1) ha (by decide) n9
        have ei : ((iN r * 512) + iN b).toNatClampNeg = 512 * r + b := by
          show (iN r * iN 512 + iN b).toNatClampNeg = _
          rw [iN_m, iN_a, iN_cl (by omega)]
          omega
        rw [if_pos y, xqb, es, xqb, a0, xqb, ei, a1.1]
        obtain ⟨z, z1, z2, z3⟩ := ihf (b + 1) (ms y1 66 (512 * r + b) (stN A n (sr r) (iN b) (-1) n).1) (by omega) (by omega) (ha_c ha ((ms_c1 (by decide)).trans (a3 61 (by decide))) ((ms_c1 (by decide)).trans (a3 62 (by decide)))) (by rw [ms_c1 (by decide), a3 61 (by decide)]; exact hm) (by rw [ms_c1 (by decide), a3 63 (by decide)]; exact hs) (fun r' b' hb' ho hg => by
          by_cases w : 512 * r' + b' = 512 * r + b
          · have w1 : r' = r := by omega
            have w2 : b' = b := by omega
            rw [w1, w2, ms_e1]
          · rw [ms_i1 w, a3 66 (by decide)]
            refine k r' b' hb' ?_ hg
            by_cases v : r' = r
            · have : b' ≠ b := fun e => w (by rw [v, e])
              omega
            · omega)
        exact ⟨z, z1, z2, fun c c1 c2 => by rw [z3 c c1 c2, ms_c1 c2, a3 c c1]⟩
      · rw [if_neg y]
        exact ihf (b + 1) x (by omega) (by omega) ha hm hs (fun r' b' hb' ho hg => by
          by_cases w : r' = r ∧ b' = b
          · rw [w.2] at hg
            exact absurd hg y
          · exact k r' b' hb' (by omega) hg)
theorem lr70_L {g : GG} {u2 : MM} {n m : Nat} {A : Nat → Nat → Int32} {sr : Nat → Int32} {mg : Int32} (n9 : n ≤ 9) (m4 : m ≤ 4) (h2m : u2 61 2 = iN m) : ∀ (f r : Nat) (x : MM), m - r < f → r ≤ m → HA x 61 n A → x 61 2 = iN m → (∀ i, i < m → x 63 i = sr i) → KN70 x A n sr mg r 0 → ∃ y, Fx_O_look_70X_L56 (-1) mg g u2 f (iN r) x = (y, Fx_O_weighX 0 0 y g) ∧ KN70 y A n sr mg m 0 ∧ ∀ c, c < 58 ∨ 60 < c → c ≠ 66 → y c = x c := by
  intro f
  induction f with
  | zero => intro r x h; omega
  | succ f ih =>
    intro r x h1 h2 ha hm hs k
    rw [Fx_O_look_70X_L56_s, h2m]
    by_cases q : m ≤ r
    · have e : r = m := by omega
      subst e
      rw [if_pos (Int32.le_refl _), xqb]
      exact ⟨x, rfl, k, fun _ _ _ => rfl⟩
    · have e513 : (512 - (0 : Int32).toInt).toNat + 1 = 513 := by decide
      have p2 := p2_le n9
      rw [if_neg (fun z => q ((iN_le (by omega) (by omega)).mp z)), if_neg (show ¬ (4 : Int32) ≤ iN r from fun z => by have := (iN_le (a := 4) (by omega) (by omega)).mp z; omega), e513]
      obtain ⟨y, y1, y2, y3⟩ := lb70_L (ih := Fx_O_look_70X_L56 (-1) mg g u2 f) (g := g) n9 m4 (show r < m by omega) 513 0 x (by omega) (Nat.zero_le _) ha hm (hs r (by omega)) k
      have y1' : Fx_O_look_70X_L77 (Fx_O_look_70X_L56 (-1) mg g u2 f) (-1) mg g (iN r) 513 0 x = Fx_O_look_70X_L56 (-1) mg g u2 f (iN (r + 1)) y := y1
      rw [y1']
      obtain ⟨z, z1, z2, z3⟩ := ih (r + 1) y (by omega) (by omega) (ha_c ha (y3 61 (by decide) (by decide)) (y3 62 (by decide) (by decide))) (by rw [y3 61 (by decide) (by decide)]; exact hm) (fun i hi => by rw [y3 63 (by decide) (by decide)]; exact hs i hi) y2
      exact ⟨z, z1, z2, fun c c1 c2 => (z3 c c1 c2).trans (y3 c c1 c2)⟩
/-- the class's look -/
theorem lk70_X {x : MM} {g : GG} {n m : Nat} {A : Nat → Nat → Int32} {sr cr : Nat → Int32} {mg : Int32} (h0 : HA x 70 n A) (n9 : n ≤ 9) (m4 : m ≤ 4) (hm : x 70 2 = iN m) (hs : ∀ i, i < m → x (70 + 2) i = sr i ∧ x (70 + 3) i = cr i) : ∃ y g', Fx_O_look_70X (-1) mg x g = (y, g') ∧ OK y g' n m A sr cr mg (chM A 0 0) ∧ (∀ c, c < 58 ∨ 67 < c → y c = x c) ∧ ∀ a, a ≠ 68 → g' a = g a := by
  have p2 := p2_le n9
  unfold Fx_O_look_70X
  obtain ⟨x1, hx1⟩ : ∃ x1, x1 = Fx_H_copyX 61 70 x g := ⟨_, rfl⟩
  have cp := hcB (u := x) (g := g) (t := 61) (f := 70) (by omega)
  have hx1' : x1 = Fx_H_copyBX 61 70 x g := hx1
  rw [← hx1'] at cp
  obtain ⟨⟨p0, p2', p3', p4', p5', p6'⟩, pc'⟩ := cp
  have e513 : (512 - (0 : Int32).toInt).toNat + 1 = 513 := by decide
  rw [xqb, ← hx1, e513]
  have ha1 : HA x1 61 n A := ⟨p0.trans h0.1, fun p c hp hc => (p3' (16 * p + c) (by omega)).trans (h0.2 p c hp hc)⟩
  have pp := Nat.two_pow_pos n
  obtain ⟨y, y1, y2, y3⟩ := lh70_L (u2 := x1) (g := g) (kp := -1) (mg := mg) n9 513 0 x1 (by omega) (Nat.zero_le _) ha1 (fun t ht => by omega)
  have y1' : Fx_O_look_70X_L11 (-1) mg g x1 513 0 x1 = Fx_O_look_70X_L56 (-1) mg g x1 5 (iN 0) y := y1
  rw [y1']
  have hay : HA y 61 n A := ha_c ha1 (y3 61 (by decide)) (y3 62 (by decide))
  have hm1 : x1 61 2 = iN m := p2'.trans hm
  have hs1 : ∀ i, i < m → x1 63 i = sr i := fun i hi => (p4' i (by omega)).trans (hs i hi).1
  have hc1 : ∀ i, i < m → x1 64 i = cr i := fun i hi => (p5' i (by omega)).trans (hs i hi).2
  obtain ⟨z, z1, z2, z3⟩ := lr70_L (g := g) (mg := mg) (sr := sr) n9 m4 hm1 5 0 y (by omega) (by omega) hay (by rw [y3 61 (by decide)]; exact hm1) (fun i hi => by rw [y3 63 (by decide)]; exact hs1 i hi) (fun r b hb ho hg => by omega)
  rw [z1]
  have haz : HA z 61 n A := ha_c hay (z3 61 (by decide) (by decide)) (z3 62 (by decide) (by decide))
  obtain ⟨g', g1, g2, g3⟩ := we_X (g := g) (md := 0) (wk := 0) haz n9
  refine ⟨z, g', by rw [g1], ⟨n9, m4, haz, ?_, fun i hi => ⟨?_, ?_⟩, fun s hs' => ?_, fun r b hr hb hg => z2 r b hb (Or.inl hr) hg, g2⟩, fun c hc => ?_, g3⟩
  · rw [z3 61 (by decide) (by decide), y3 61 (by decide)]; exact hm1
  · rw [z3 63 (by decide) (by decide), y3 63 (by decide)]; exact hs1 i hi
  · rw [z3 64 (by decide) (by decide), y3 64 (by decide)]; exact hc1 i hi
  · rw [z3 67 (by decide) (by decide)]; exact y2 s hs'
  · rw [z3 c (by omega) (by omega), y3 c (by omega), pc' c (by omega)]
end
section
/-! weak banks, owners; the class looks -/
def wkF (A : Nat → Nat → Int32) (p : Nat) : Bool := decide (¬ A p 4 ≤ 0)
theorem wk_L {x : MM} {g : GG} {t n : Nat} {A : Nat → Nat → Int32} (h : HA x t n A) (n9 : n ≤ 9) : ∀ (f p : Nat), n - p < f → p ≤ n → Fx_H_weakX_L4 t x g f (iN (bset (wkF A) p)) (iN p) = iN (bset (wkF A) n) := by
  intro f
  induction f with
  | zero => intro p h1; omega
  | succ f ih =>
    intro p h1 h2
    rw [Fx_H_weakX_L4_s, h.1]
    by_cases q : n ≤ p
    · rw [if_pos ((iN_le (by omega) (by omega)).mpr q), show p = n by omega]
    · have e : bset (wkF A) (p + 1) = if wkF A p = true then bset (wkF A) p + 2 ^ p else bset (wkF A) p := rfl
      have k := ih (p + 1) (by omega) (by omega)
      rw [if_neg (fun z => q ((iN_le (by omega) (by omega)).mp z)), show hof x t (iN p) (4 : Int32) = A p 4 from ha_r (c := 4) h n9 (by omega) (by decide)]
      unfold Fx_H_weakX_J28
      rw [iN_s]
      by_cases y : A p 4 ≤ 0
      · rw [if_neg (show ¬ wkF A p = true from fun z => (of_decide_eq_true z) y)] at e
        rw [if_pos y, ← e]
        exact k
      · rw [if_pos (show wkF A p = true from decide_eq_true y)] at e
        rw [if_neg y, xqb, b9I (by omega), bset_or (by omega), ← e]
        exact k
theorem wk_X {x : MM} {g : GG} {t n : Nat} {A : Nat → Nat → Int32} (h : HA x t n A) (n9 : n ≤ 9) : Fx_H_weakX t x g = iN (bset (wkF A) n) := by
  unfold Fx_H_weakX
  have e : (9 - (0 : Int32).toInt).toNat + 1 = 10 := by decide
  rw [e]
  exact wk_L h n9 10 0 (by omega) (by omega)
theorem chM_m {A : Nat → Nat → Int32} {md : Int32} {p : Nat} (hp : p < 9) : chM A md 0 p = if inB md p = true then 0 else A p 4 := by
  unfold chM
  rw [inB_0 p hp, if_neg Bool.false_ne_true, Int32.add_zero]
theorem chM_0 {A : Nat → Nat → Int32} {p : Nat} (hp : p < 9) : chM A 0 0 p = A p 4 := by
  rw [chM_m hp, inB_0 p hp, if_neg Bool.false_ne_true]
theorem sup_w {A : Nat → Nat → Int32} {ch : Nat → Int32} {n : Nat} (n9 : n ≤ 9) (h : ∀ p, p < n → A p 4 ≤ 0 → ch p = 0) : SUP n (iN (bset (wkF A) n)) ch := by
  intro b hb q
  refine sub_0 hb n9 (fun p hp y => ?_)
  rw [bset_b n p hp]
  by_cases z : A p 4 ≤ 0
  · exact absurd (wB_0 y (h p hp z) n hp) q
  · exact decide_eq_true z
theorem sup_m {A : Nat → Nat → Int32} {n : Nat} {md : Int32} (n9 : n ≤ 9) (aw : AWF n A) : SUP n (iN (bset (wkF A) n)) (chM A md 0) := by
  refine sup_w n9 (fun p hp y => ?_)
  have b4 : Bd 0 10 (A p 4) := (aw p hp).1 4 (by decide)
  have y1 := Int32.le_iff_toInt_le.mp y
  have l0 : (0 : Int32).toInt = 0 := rfl
  have e : A p 4 = 0 := Int32.toInt_inj.mp (by have := b4.1; omega)
  rw [chM_m (by omega), e]
  split <;> rfl
def sR (y : MM) (i : Nat) : Int32 := y 172 (5 + 2 * i)
def cR (y : MM) (i : Nat) : Int32 := y 172 (6 + 2 * i)
/-! the reference's sums -/
/-- the reference is ready for storms -/
def RR (y : MM) (n m : Nat) (A : Nat → Nat → Int32) (sr cr : Nat → Int32) : Prop := n ≤ 9 ∧ m ≤ 4 ∧ RMA y n A ∧ AWF n A ∧ y 162 26 = -1 ∧ y 162 27 = 0 ∧ y 172 1 = iN m ∧ ∀ i, i < m → y 172 (5 + 2 * i) = sr i ∧ y 172 (6 + 2 * i) = cr i ∧ Bd 0 9 (sr i)
def FRM (y' y : MM) : Prop := (∀ c, c ≠ 162 → c ≠ 173 → c ≠ 174 → c ≠ 175 → y' c = y c) ∧ ∀ j, j ≠ 31 → j ≠ 32 → j ≠ 33 → y' 162 j = y 162 j
theorem frm_0 {y : MM} : FRM y y := ⟨fun _ _ _ _ _ => rfl, fun _ _ _ _ => rfl⟩
theorem frm_t {a b c : MM} (h1 : FRM a b) (h2 : FRM b c) : FRM a c := ⟨fun i i1 i2 i3 i4 => (h1.1 i i1 i2 i3 i4).trans (h2.1 i i1 i2 i3 i4), fun j j1 j2 j3 => (h1.2 j j1 j2 j3).trans (h2.2 j j1 j2 j3)⟩
theorem rr_L {x y : MM} {n m : Nat} (L : LDF x y n m) : RR y n m (rwA y) (sR y) (cR y) := ⟨L.1, L.2.2.1, L.2.2.2.2.1, L.2.2.2.2.2.1, L.2.2.2.2.2.2.2.2.2.2.2.1, L.2.2.2.2.2.2.2.2.2.2.2.2.1, L.2.2.2.2.2.2.2.1, fun i hi => ⟨rfl, rfl, (L.2.2.2.2.2.2.2.2.1 i hi).2.2.1⟩⟩
end
section
/-! answers: mean, joint, mended, helps, alone -/
theorem mn_eq {A : Nat → Nat → Int32} {n m : Nat} {sr cr ch ch2 : Nat → Int32} {H H2 : Int32 → Int32} (n9 : n ≤ 9) (hch : ∀ p, p < n → ch p = ch2 p) (hH : ∀ k, k < 2 ^ n → H (iN k) = H2 (iN k)) : fR (mnF A n sr cr ch H) (2 ^ n) m 0 = fR (mnF A n sr cr ch2 H2) (2 ^ n) m 0 := by
  refine fR_c m 0 (fun r b a hr hb => ?_)
  obtain ⟨w, hw, ew⟩ := (st_sb (A := A) (n := n) (st := sr r) (bk := iN b) (kp := -1) n n9).1
  unfold mnF
  rw [wB_c (ch2 := ch2) (b2 := b) n (fun q hq => ⟨hch q hq, rfl⟩), ew, hH w hw]
theorem cnt_all {A : Nat → Nat → Int32} {n : Nat} : ∀ p, p < n → ((2 ^ n - 1).testBit p = true ↔ ((-1 : Int32) = -1 ∨ A p 6 = -1)) := fun p hp => ⟨fun _ => Or.inl rfl, fun _ => by rw [Nat.testBit_two_pow_sub_one]; exact decide_eq_true hp⟩
/-- the class's mean of those counted is the reference's of an owner -/
theorem cmn_eq {x y : MM} {g g' : GG} {n m c : Nat} {A : Nat → Nat → Int32} {sr cr ch ch2 : Nat → Int32} {mg o : Int32} (h : OK x g n m A sr cr mg ch) (su : SUP n mg ch) (hc : c < 2 ^ n) (hch : ∀ p, p < n → ch p = ch2 p) (hcn : ∀ p, p < n → (c.testBit p = true ↔ (o = -1 ∨ A p 6 = o))) : Fx_O_meanOfX (iN c) x g = fR (mnF A n sr cr ch2 (fun w => hro A o w n)) (2 ^ n) m 0 := by
  rw [mo_X h su hc]
  exact mn_eq h.1 hch (fun k hk => hrm_and h.1 hk hc hcn n (Nat.le_refl _))
/-! chances kept and mended, of the reference -/
end
section
/-! sums over storms as numbers; likely, given -/
def wN (c : Nat → Nat) (b : Nat) : Nat → Nat
  | 0 => 1
  | p + 1 => wN c b p * (if b.testBit p = true then c p else 10 - c p)
theorem wB_n {ch : Nat → Int32} {c : Nat → Nat} {b : Nat} : ∀ p, (∀ q, q < p → ch q = iN (c q) ∧ c q ≤ 10) → wB ch b p = zN (wN c b p) ∧ wN c b p ≤ 10 ^ p := by
  intro p
  induction p with
  | zero => intro _; exact ⟨rfl, Nat.le_refl _⟩
  | succ p ih =>
    intro h
    obtain ⟨i1, i2⟩ := ih (fun q hq => h q (by omega))
    obtain ⟨h1, h2⟩ := h p (by omega)
    have hf : fac ch b p = zN (if b.testBit p = true then c p else 10 - c p) := by
      unfold fac
      rw [h1]
      by_cases t : b.testBit p = true
      · rw [if_pos t, if_pos t, iN_l (by omega)]
      · rw [if_neg t, if_neg t, show (10 : Int32) - iN (c p) = iN (10 - c p) from iN_sub (a := 10) h2, iN_l (by omega)]
    refine ⟨?_, ?_⟩
    · show wB ch b p * fac ch b p = _
      rw [i1, hf, zN_m]
      rfl
    · show wN c b p * (if b.testBit p = true then c p else 10 - c p) ≤ 10 ^ (p + 1)
      rw [Nat.pow_succ]
      exact Nat.mul_le_mul i2 (by split <;> omega)
def sN (G : Nat → Nat) : Nat → Nat
  | 0 => 0
  | b + 1 => sN G b + G b
theorem sN_c {G H : Nat → Nat} : ∀ n, (∀ b, b < n → G b = H b) → sN G n = sN H n := by
  intro n
  induction n with
  | zero => intro _; rfl
  | succ n ih =>
    intro h
    show sN G n + G n = sN H n + H n
    rw [ih (fun b hb => h b (by omega)), h n (by omega)]
theorem sN_m {G : Nat → Nat} {k : Nat} : ∀ n, sN (fun b => G b * k) n = sN G n * k := by
  intro n
  induction n with
  | zero => exact (Nat.zero_mul k).symm
  | succ n ih =>
    show sN (fun b => G b * k) n + G n * k = (sN G n + G n) * k
    rw [ih, Nat.add_mul]
theorem fB_z {F : Nat → Int64 → Int64} {G : Nat → Nat} : ∀ n a, (∀ b, b < n → ∀ a, F b (zN a) = zN (a + G b)) → fB F n (zN a) = zN (a + sN G n) := by
  intro n
  induction n with
  | zero => intro a _; rfl
  | succ n ih =>
    intro a h
    show F n (fB F n (zN a)) = zN (a + (sN G n + G n))
    rw [ih a (fun b hb => h b (by omega)), h n (by omega), Nat.add_assoc]
theorem fR_z {F : Nat → Nat → Int64 → Int64} {G : Nat → Nat → Nat} {N : Nat} : ∀ m a, (∀ r b, r < m → b < N → ∀ a, F r b (zN a) = zN (a + G r b)) → fR F N m (zN a) = zN (a + sN (fun r => sN (G r) N) m) := by
  intro m
  induction m with
  | zero => intro a _; rfl
  | succ m ih =>
    intro a h
    show fB (F m) N (fR F N m (zN a)) = zN (a + (sN (fun r => sN (G r) N) m + sN (G m) N))
    rw [ih a (fun r b hr hb => h r b (by omega) hb), fB_z N _ (fun b hb => h m b (by omega) hb), Nat.add_assoc]
/-- a storm's parts, a number -/
theorem pa_z {ch cr : Nat → Int32} {c cn : Nat → Nat} {n m r b : Nat} (n9 : n ≤ 9) (hc : ∀ q, q < n → ch q = iN (c q) ∧ c q ≤ 10) (hr : ∀ r, r < m → cr r = iN (cn r) ∧ cn r ≤ 100) (h : r < m) : wB ch b n * (cr r).toInt64 = zN (wN c b n * cn r) ∧ wN c b n * cn r ≤ 100000000000 := by
  obtain ⟨a1, a2⟩ := wB_n (b := b) n hc
  obtain ⟨b1, b2⟩ := hr r h
  have hp : 10 ^ n ≤ 10 ^ 9 := Nat.pow_le_pow_right (by decide) n9
  have hm : wN c b n * cn r ≤ 10 ^ 9 * 100 := Nat.mul_le_mul (Nat.le_trans a2 hp) b2
  exact ⟨by rw [a1, b1, iN_l (by omega), zN_m], hm⟩
/-- the chances of a hill, as numbers -/
def cN (y : MM) (i : Nat) : Nat := (cR y i).toNatClampNeg
def kA (A : Nat → Nat → Int32) (p : Nat) : Nat := (A p 4).toNatClampNeg
theorem kA_s {A : Nat → Nat → Int32} {n : Nat} (aw : AWF n A) : ∀ q, q < n → A q 4 = iN (kA A q) ∧ kA A q ≤ 10 := fun q hq => by
  obtain ⟨k, hk, h1⟩ := iN_ex (hi := 10) (show Bd 0 10 (A q 4) from (aw q hq).1 4 (by decide))
  have e : kA A q = k := by
    unfold kA
    rw [hk, iN_cl (by omega)]
  rw [e]
  exact ⟨hk, h1⟩
theorem cN_s {x y : MM} {n m : Nat} (L : LDF x y n m) : (∀ r, r < m → cR y r = iN (cN y r) ∧ cN y r ≤ 100) ∧ sN (cN y) m = 100 := by
  have hr : ∀ r, r < m → cR y r = iN (cN y r) ∧ cN y r ≤ 100 := fun r hr => by
    obtain ⟨k, hk, h1⟩ := iN_ex (hi := 100) (show Bd 0 100 (cR y r) from (L.2.2.2.2.2.2.2.2.1 r hr).2.2.2)
    have e : cN y r = k := by
      unfold cN
      rw [hk, iN_cl (by omega)]
    rw [e]
    exact ⟨hk, h1⟩
  refine ⟨hr, ?_⟩
  have m1 := L.2.1
  have m4 := L.2.2.1
  have e1 := L.2.2.2.2.2.2.2.1
  have hs := L.2.2.2.2.2.2.2.2.2.2.1
  have e100 : (100 : Int32) = iN 100 := rfl
  unfold sm at hs
  rw [e1] at hs
  rcases (show m = 1 ∨ m = 2 ∨ m = 3 ∨ m = 4 by omega) with w | w | w | w
  · subst w
    have a0 : y 172 6 = iN (cN y 0) := (hr 0 (by omega)).1
    rw [if_pos (by decide), a0, Int32.zero_add, e100] at hs
    have b0 := (hr 0 (by omega)).2
    have := (iN_eq (by omega) (by omega)).mp hs
    show 0 + cN y 0 = 100
    omega
  · subst w
    have a0 : y 172 6 = iN (cN y 0) := (hr 0 (by omega)).1
    have a1 : y 172 8 = iN (cN y 1) := (hr 1 (by omega)).1
    rw [if_neg (by decide), if_pos (by decide), a0, a1, Int32.zero_add, iN_a, e100] at hs
    have b0 := (hr 0 (by omega)).2
    have b1 := (hr 1 (by omega)).2
    have := (iN_eq (by omega) (by omega)).mp hs
    show 0 + cN y 0 + cN y 1 = 100
    omega
  · subst w
    have a0 : y 172 6 = iN (cN y 0) := (hr 0 (by omega)).1
    have a1 : y 172 8 = iN (cN y 1) := (hr 1 (by omega)).1
    have a2 : y 172 10 = iN (cN y 2) := (hr 2 (by omega)).1
    rw [if_neg (by decide), if_neg (by decide), if_pos (by decide), a0, a1, a2, Int32.zero_add, iN_a, iN_a, e100] at hs
    have b0 := (hr 0 (by omega)).2
    have b1 := (hr 1 (by omega)).2
    have b2 := (hr 2 (by omega)).2
    have := (iN_eq (by omega) (by omega)).mp hs
    show 0 + cN y 0 + cN y 1 + cN y 2 = 100
    omega
  · subst w
    have a0 : y 172 6 = iN (cN y 0) := (hr 0 (by omega)).1
    have a1 : y 172 8 = iN (cN y 1) := (hr 1 (by omega)).1
    have a2 : y 172 10 = iN (cN y 2) := (hr 2 (by omega)).1
    have a3 : y 172 12 = iN (cN y 3) := (hr 3 (by omega)).1
    rw [if_neg (by decide), if_neg (by decide), if_neg (by decide), a0, a1, a2, a3, Int32.zero_add, iN_a, iN_a, iN_a, e100] at hs
    have b0 := (hr 0 (by omega)).2
    have b1 := (hr 1 (by omega)).2
    have b2 := (hr 2 (by omega)).2
    have b3 := (hr 3 (by omega)).2
    have := (iN_eq (by omega) (by omega)).mp hs
    show 0 + cN y 0 + cN y 1 + cN y 2 + cN y 3 = 100
    omega
end
section
/-! worst, flood, deep -/
theorem hrm_b {A : Nat → Nat → Int32} {n : Nat} {s : Int32} (aw : AWF n A) (n9 : n ≤ 9) : ∀ p, p ≤ n → ∃ k, hrm A s p = iN k ∧ k ≤ 999 * p := by
  intro p
  induction p with
  | zero => intro _; exact ⟨0, rfl, by omega⟩
  | succ p ih =>
    intro hp
    obtain ⟨k, h1, h2⟩ := ih (by omega)
    obtain ⟨j, j1, j2⟩ := iN_ex (hi := 999) (show Bd 0 999 (A p 5) from (aw p (by omega)).1 5 (by decide))
    by_cases y : inB s p = true
    · refine ⟨k + j, ?_, by omega⟩
      show (if inB s p = true then hrm A s p + A p 5 else hrm A s p) = _
      rw [if_pos y, h1, j1, iN_a]
    · refine ⟨k, ?_, by omega⟩
      show (if inB s p = true then hrm A s p + A p 5 else hrm A s p) = _
      rw [if_neg y, h1]
/-! flood -/
/-! deep -/
end
section
/-! one number of a pond set, on both sides; the mean of all of a hill, in three cells -/
def upA (A : Nat → Nat → Int32) (p c : Nat) (z : Int32) (q d : Nat) : Int32 := if q = p ∧ d = c then z else A q d
theorem aw_u {A : Nat → Nat → Int32} {n p c : Nat} {z : Int32} (h : AWF n A) (b : Bd (cLo c) (cHi c) z) (l : c = 8 ∨ c = 9 → LK n p z) : AWF n (upA A p c z) := by
  intro q hq
  obtain ⟨a1, a2, a3⟩ := h q hq
  refine ⟨fun d hd => ?_, ?_, ?_⟩
  · unfold upA
    by_cases y : q = p ∧ d = c
    · rw [if_pos y, y.2]; exact b
    · rw [if_neg y]; exact a1 d hd
  · unfold upA
    by_cases y : q = p ∧ 8 = c
    · rw [if_pos y, y.1]; exact l (Or.inl y.2.symm)
    · rw [if_neg y]; exact a2
  · unfold upA
    by_cases y : q = p ∧ 9 = c
    · rw [if_pos y, y.1]; exact l (Or.inr y.2.symm)
    · rw [if_neg y]; exact a3
theorem ha_s {x : MM} {t n p c : Nat} {A : Nat → Nat → Int32} {z : Int32} (h : HA x t n A) (hc : c < 16) : HA (ms x (t + 1) (16 * p + c) z) t n (upA A p c z) := by
  refine ⟨by rw [ms_c1 (by omega)]; exact h.1, fun q d hq hd => ?_⟩
  unfold upA
  by_cases y : q = p ∧ d = c
  · rw [if_pos y, y.1, y.2, ms_e1]
  · rw [if_neg y, ms_i1 (fun e => y ⟨by omega, by omega⟩)]
    exact h.2 q d hq hd
theorem ha_e {x : MM} {t n : Nat} {A B : Nat → Nat → Int32} (h : HA x t n A) (e : ∀ p c, p < n → c < 16 → A p c = B p c) : HA x t n B := ⟨h.1, fun p c hp hc => (h.2 p c hp hc).trans (e p c hp hc)⟩
theorem putE {u : MM} {g : GG} {t q c : Nat} {z : Int32} (hq : q < 9) (hc : c < 16) : Fx_H_putX (iN q) (iN c) z t u g = ms u (t + 1) (16 * q + c) z := by
  unfold Fx_H_putX
  rw [if_neg (show ¬ iN q < (0 : Int32) from fun q => by have := (iN_lt (b := 0) (by omega) (by omega)).mp q; omega), if_neg (show ¬ (9 : Int32) ≤ iN q from fun q => by have := (iN_le (a := 9) (by omega) (by omega)).mp q; omega), if_neg (show ¬ iN c < (0 : Int32) from fun q => by have := (iN_lt (b := 0) (by omega) (by omega)).mp q; omega), if_neg (show ¬ (16 : Int32) ≤ iN c from fun q => by have := (iN_le (a := 16) (by omega) (by omega)).mp q; omega)]
  have e : ((iN q * 16) + iN c).toNatClampNeg = 16 * q + c := by
    show (iN q * iN 16 + iN c).toNatClampNeg = _
    rw [iN_m, iN_a, iN_cl (by omega)]
    omega
  rw [e]
  rfl
noncomputable def MN (A : Nat → Nat → Int32) (n m : Nat) (sr cr : Nat → Int32) : Int64 := fR (mnF A n sr cr (fun p => A p 4) (fun w => hro A (-1) w n)) (2 ^ n) m 0
/-- rains that a hill in cell t has -/
def RNS (x : MM) (t m : Nat) (sr cr : Nat → Int32) : Prop := x t 2 = iN m ∧ ∀ i, i < m → x (t + 2) i = sr i ∧ x (t + 3) i = cr i
theorem rns_L {x y : MM} {n m : Nat} (L : LDF x y n m) : RNS x 44 m (sR y) (cR y) := ⟨L.2.2.2.2.2.2.1, fun i hi => ⟨(L.2.2.2.2.2.2.2.2.1 i hi).1, (L.2.2.2.2.2.2.2.2.1 i hi).2.1⟩⟩
theorem rns_c {x x' : MM} {t m : Nat} {sr cr : Nat → Int32} (h : RNS x t m sr cr) (e0 : x' t = x t) (e2 : x' (t + 2) = x (t + 2)) (e3 : x' (t + 3) = x (t + 3)) : RNS x' t m sr cr := by
  unfold RNS
  rw [e0, e2, e3]
  exact h
/-- a hill copied from cell 44 -/
theorem cph_X {x : MM} {g : GG} {t n m : Nat} {A : Nat → Nat → Int32} {sr cr : Nat → Int32} (h : HA x 44 n A) (r : RNS x 44 m sr cr) (n9 : n ≤ 9) (m4 : m ≤ 4) (d : 48 < t) : ∃ x', Fx_H_copyX t 44 x g = x' ∧ HA x' t n A ∧ RNS x' t m sr cr ∧ ∀ c, c < t ∨ t + 4 < c → x' c = x c := by
  obtain ⟨x1, hx1⟩ : ∃ x1, x1 = Fx_H_copyX t 44 x g := ⟨_, rfl⟩
  have cp := hcB (u := x) (g := g) (t := t) (f := 44) (by omega)
  have hx1' : x1 = Fx_H_copyBX t 44 x g := hx1
  rw [← hx1'] at cp
  obtain ⟨⟨p0, p2', p3', p4', p5', p6'⟩, pc'⟩ := cp
  exact ⟨x1, hx1.symm, ⟨p0.trans h.1, fun p c hp hc => (p3' (16 * p + c) (by omega)).trans (h.2 p c hp hc)⟩, ⟨p2'.trans r.1, fun i hi => ⟨(p4' i (by omega)).trans (r.2 i hi).1, (p5' i (by omega)).trans (r.2 i hi).2⟩⟩, pc'⟩
end
section
/-! the mean of all, of a hill in three cells -/
theorem wm70_X {x : MM} {g : GG} {n m : Nat} {A : Nat → Nat → Int32} {sr cr : Nat → Int32} (h0 : HA x 70 n A) (n9 : n ≤ 9) (m4 : m ≤ 4) (aw : AWF n A) (hr : RNS x 70 m sr cr) : ∃ x' g', Fx_O_wholeMean_70X (-1) x g = (MN A n m sr cr, x', g') ∧ (∀ c, c < 58 ∨ 67 < c → x' c = x c) ∧ ∀ a, a ≠ 68 → g' a = g a := by
  unfold Fx_O_wholeMean_70X
  obtain ⟨x', g', k1, k2, k3, k4⟩ := lk70_X (g := g) (mg := iN (bset (wkF A) n)) h0 n9 m4 hr.1 hr.2
  rw [xqb, wk_X h0 n9, k1, c2_mk, xqb, all_X k2.2.2.1.1 n9, xqb, cmn_eq (y := x) (g' := g) (o := -1) (ch2 := fun p => A p 4) k2 (sup_m (md := 0) n9 aw) (c := 2 ^ n - 1) (by have := Nat.two_pow_pos n; omega) (fun p hp => chM_0 (by omega)) cnt_all]
  exact ⟨x', g', rfl, k3, k4⟩
end
section
/-! what mending costs; best, spend, steps -/
/-- members of a set -/
def pcn (k : Nat) : Nat → Nat
  | 0 => 0
  | p + 1 => pcn k p + (if k.testBit p = true then 1 else 0)
theorem pcn_o : ∀ k, k < 512 → onesN (iN k) 9 = iN (pcn k 9) ∧ pcn k 9 ≤ 9 := by decide +kernel
/-! best -/
/-! spend -/
end
section
/-! steps -/
theorem iN_or {a b : Nat} : iN a ||| iN b = iN (a ||| b) := by
  refine Int32.toBitVec_inj.mp ?_
  rw [Int32.toBitVec_or]
  show BitVec.ofNat 32 a ||| BitVec.ofNat 32 b = BitVec.ofNat 32 (a ||| b)
  refine BitVec.eq_of_getLsbD_eq (fun i hi => ?_)
  rw [BitVec.getLsbD_or, BitVec.getLsbD_ofNat, BitVec.getLsbD_ofNat, BitVec.getLsbD_ofNat, Nat.testBit_or, decide_eq_true hi]
  rfl
end
section
/-! upon -/
theorem or_b {s q : Nat} (i : Nat) : (s ||| 2 ^ q).testBit i = true ↔ (s.testBit i = true ∨ i = q) := by
  rw [Nat.testBit_or, Bool.or_eq_true, Nat.testBit_two_pow]
  exact ⟨fun z => z.imp_right (fun w => (of_decide_eq_true w).symm), fun z => z.imp_right (fun w => decide_eq_true w.symm)⟩
/-! the reference's passes -/
end
section
/-! years -/
theorem rem_X {V k : Nat} (hV : V < 65536) (hk2 : k ≤ 1000) : iN V - iN V / iN k * iN k = iN (V % k) := by
  have hd : V / k * k ≤ V := Nat.div_mul_le_self V k
  have d : iN V / iN k = iN (V / k) := (Int32.ofNat_div (by omega) (by omega)).symm
  rw [d, iN_m, iN_sub hd]
  congr 1
  have := Nat.div_add_mod V k
  rw [Nat.mul_comm] at this
  omega
end
section
/-! means as numbers; rains that are all dry are as one of them -/
theorem hro_h {A : Nat → Nat → Int32} {n : Nat} {s : Int32} (aw : AWF n A) (n9 : n ≤ 9) : ∃ k, hro A (-1) s n = iN k ∧ k ≤ 9999 := by
  obtain ⟨k, h1, h2⟩ := hrm_b (s := s) aw n9 n (Nat.le_refl _)
  exact ⟨k, by rw [hro_all]; exact h1, by omega⟩
noncomputable def hN (A : Nat → Nat → Int32) (n : Nat) (st : Int32) (b : Nat) : Nat := (hro A (-1) (stN A n st (iN b) (-1) n).1 n).toNatClampNeg
theorem mn_z {A : Nat → Nat → Int32} {ch sr cr : Nat → Int32} {c cn : Nat → Nat} {n m : Nat} (n9 : n ≤ 9) (aw : AWF n A) (hc : ∀ q, q < n → ch q = iN (c q) ∧ c q ≤ 10) (hr : ∀ r, r < m → cr r = iN (cn r) ∧ cn r ≤ 100) : fR (mnF A n sr cr ch (fun w => hro A (-1) w n)) (2 ^ n) m 0 = zN (sN (fun r => sN (fun b => wN c b n * cn r * hN A n (sr r) b) (2 ^ n)) m) := by
  have e0 : (0 : Int64) = zN 0 := rfl
  have k := fR_z (F := mnF A n sr cr ch (fun w => hro A (-1) w n)) (G := fun r b => wN c b n * cn r * hN A n (sr r) b) (N := 2 ^ n) m 0 (fun r b h1 h2 a => by
    obtain ⟨p1, p2⟩ := pa_z (b := b) n9 hc hr h1
    by_cases z : lg_cmp (wB ch b n * (cr r).toInt64) (0 : Int64) ≤ 0
    · have z2 := (lg_cmp_le _ _).mp z
      rw [p1, e0] at z2
      have z3 := (zN_le (by omega) (by omega)).mp z2
      rw [mnF_0 z, show wN c b n * cn r = 0 by omega, Nat.zero_mul]
      rfl
    · obtain ⟨j, j1, j2⟩ := hro_h (s := (stN A n (sr r) (iN b) (-1) n).1) aw n9
      have ej : hN A n (sr r) b = j := by
        unfold hN
        rw [j1, iN_cl (by omega)]
      rw [mnF_1 z, p1, ej]
      rw [j1, iN_l (by omega), zN_m, zN_a])
  rw [Nat.zero_add] at k
  exact k
/-- all rains dry: as one of them with all their chances -/
theorem dry_1 {A : Nat → Nat → Int32} {cr : Nat → Int32} {cn : Nat → Nat} {n m : Nat} (n9 : n ≤ 9) (aw : AWF n A) (hr : ∀ r, r < m → cr r = iN (cn r) ∧ cn r ≤ 100) (hs : sN cn m = 100) : MN A n m (fun _ => 0) cr = MN A n 1 (fun _ => 0) (fun _ => 100) := by
  have kc := kA_s aw
  have a := mn_z (A := A) (ch := fun p => A p 4) (sr := fun _ => 0) (c := kA A) (m := m) n9 aw kc hr
  have b := mn_z (A := A) (ch := fun p => A p 4) (sr := fun _ => 0) (cr := fun _ => 100) (c := kA A) (cn := fun _ => 100) (m := 1) n9 aw kc (fun _ _ => ⟨rfl, Nat.le_refl _⟩)
  have T : ∀ k : Nat, sN (fun b => wN (kA A) b n * k * hN A n 0 b) (2 ^ n) = sN (fun b => wN (kA A) b n * hN A n 0 b) (2 ^ n) * k := fun k => by
    rw [← sN_m]
    exact sN_c _ (fun b _ => Nat.mul_right_comm _ _ _)
  have ea : sN (fun r => sN (fun b => wN (kA A) b n * cn r * hN A n 0 b) (2 ^ n)) m = 100 * sN (fun b => wN (kA A) b n * hN A n 0 b) (2 ^ n) := by
    rw [sN_c (H := fun r => cn r * sN (fun b => wN (kA A) b n * hN A n 0 b) (2 ^ n)) m (fun r _ => by
      show sN (fun b => wN (kA A) b n * cn r * hN A n 0 b) (2 ^ n) = cn r * sN (fun b => wN (kA A) b n * hN A n 0 b) (2 ^ n)
      rw [T (cn r), Nat.mul_comm]), sN_m, hs]
  have eb : sN (fun r => sN (fun b => wN (kA A) b n * 100 * hN A n 0 b) (2 ^ n)) 1 = 100 * sN (fun b => wN (kA A) b n * hN A n 0 b) (2 ^ n) := by
    show 0 + sN (fun b => wN (kA A) b n * 100 * hN A n 0 b) (2 ^ n) = _
    rw [T 100, Nat.zero_add, Nat.mul_comm]
  rw [ea] at a
  rw [eb] at b
  exact a.trans b.symm
/-! ponds filled -/
def FA (A : Nat → Nat → Int32) (S : Nat) (p c : Nat) : Int32 := if c = 1 ∧ S.testBit p = true then A p 0 else A p c
theorem FA_n {A : Nat → Nat → Int32} {S p c : Nat} (h : ¬ c = 1) : FA A S p c = A p c := if_neg (fun z => h z.1)
theorem FA_0 {A : Nat → Nat → Int32} (p c : Nat) : FA A 0 p c = A p c := if_neg (fun z => by rw [Nat.zero_testBit] at z; exact absurd z.2 (by decide))
theorem FA_u {A : Nat → Nat → Int32} {S v : Nat} (p c : Nat) : upA (FA A S) v 1 (A v 0) p c = FA A (S ||| 2 ^ v) p c := by
  unfold upA FA
  by_cases y : p = v ∧ c = 1
  · rw [if_pos y, if_pos ⟨y.2, (or_b p).mpr (Or.inr y.1)⟩, y.1]
  · rw [if_neg y]
    by_cases z : c = 1 ∧ S.testBit p = true
    · rw [if_pos z, if_pos ⟨z.1, (or_b p).mpr (Or.inl z.2)⟩]
    · rw [if_neg z, if_neg (fun w => by
        rcases (or_b p).mp w.2 with q | q
        · exact z ⟨w.1, q⟩
        · exact y ⟨q, w.1⟩)]
theorem aw_F {A : Nat → Nat → Int32} {n S : Nat} (h : AWF n A) : AWF n (FA A S) := by
  intro p hp
  obtain ⟨a1, a2, a3⟩ := h p hp
  refine ⟨fun c hc => ?_, by rw [FA_n (by decide)]; exact a2, by rw [FA_n (by decide)]; exact a3⟩
  by_cases y : c = 1
  · subst y
    unfold FA
    split
    · exact (show Bd 0 24 (A p 0) from a1 0 (by decide))
    · exact a1 1 hc
  · rw [FA_n y]; exact a1 c hc
/-- the mean of a dry hill with some ponds filled -/
noncomputable def DM (A : Nat → Nat → Int32) (n S : Nat) : Int64 := MN (FA A S) n 1 (fun _ => 0) (fun _ => 100)
end
section
/-! the reference's mean while all rains are dry (dry49.py) -/
def RRD (y : MM) (n m : Nat) (A : Nat → Nat → Int32) (sr cr : Nat → Int32) : Prop := n ≤ 9 ∧ m ≤ 4 ∧ RMA y n A ∧ AWF n A ∧ y 162 26 = -1 ∧ y 162 27 = 1 ∧ y 172 1 = iN m ∧ ∀ i, i < m → y 172 (5 + 2 * i) = sr i ∧ y 172 (6 + 2 * i) = cr i ∧ Bd 0 9 (sr i)
theorem rr_cD {y y' : MM} {n m : Nat} {A : Nat → Nat → Int32} {sr cr : Nat → Int32} (h : RRD y n m A sr cr) (f : FRM y' y) : RRD y' n m A sr cr := by
  obtain ⟨n9, m4, ma, aw, h26, h27, h1, hr⟩ := h
  have e172 : y' 172 = y 172 := f.1 172 (by decide) (by decide) (by decide) (by decide)
  refine ⟨n9, m4, ma_c ma (f.2 22 (by decide) (by decide) (by decide)) e172, aw, ?_, ?_, ?_, ?_⟩
  · rw [f.2 26 (by decide) (by decide) (by decide)]; exact h26
  · rw [f.2 27 (by decide) (by decide) (by decide)]; exact h27
  · rw [e172]; exact h1
  · rw [e172]; exact hr
theorem pr_LD {y : MM} {g : GG} {n m b : Nat} {A : Nat → Nat → Int32} {sr cr : Nat → Int32} {c : Int64} (h : RRD y n m A sr cr) (hb : b < 2 ^ n) : ∀ (f p : Nat), n - p < f → p ≤ n → Fx_M_partsOfX_L17 (iN b) y g f (prB (fun p => A p 4) b c p) (iN p) = prB (fun p => A p 4) b c n := by
  have n9 := h.1
  have p2 := p2_le n9
  intro f
  induction f with
  | zero => intro p h1; omega
  | succ f ih =>
    intro p h1 h2
    rw [Fx_M_partsOfX_L17_s, h.2.2.1.1]
    by_cases q : n ≤ p
    · rw [if_pos ((iN_le (by omega) (by omega)).mpr q), show p = n by omega]
    · have k := ih (p + 1) (by omega) (by omega)
      have e : prB (fun p => A p 4) b c (p + 1) = prB (fun p => A p 4) b c p * (if b.testBit p = true then A p 4 else 10 - A p 4).toInt64 := rfl
      rw [e] at k
      rw [if_neg (fun z => q ((iN_le (by omega) (by omega)).mp z)), xqb, hasI, inN b (by omega) p (by omega), show mof y (iN p) (4 : Int32) = A p 4 from ma_r (c := 4) h.2.2.1 n9 (by omega) (by decide)]
      unfold Fx_M_partsOfX_J58
      rw [iN_s]
      by_cases t : b.testBit p = true
      · rw [if_pos t] at k ⊢
        rw [xqb, xqb]
        exact k
      · rw [if_neg t] at k ⊢
        rw [xqb, xqb]
        exact k
theorem pr_XD {y : MM} {g : GG} {n m r b : Nat} {A : Nat → Nat → Int32} {sr cr : Nat → Int32} (h : RRD y n m A sr cr) (hr : r < m) (hb : b < 2 ^ n) : Fx_M_partsOfX (iN r) (iN b) y g = wB (fun p => A p 4) b n * (cr r).toInt64 := by
  unfold Fx_M_partsOfX
  have n9 := h.1
  have m4 := h.2.1
  have e : (((5 : Int32) + ((2 : Int32) * iN r)) + 1).toNatClampNeg = 6 + 2 * r := by
    show ((iN 5 + iN 2 * iN r) + iN 1).toNatClampNeg = _
    rw [iN_m, iN_a, iN_a, iN_cl (by omega)]
    omega
  have e10 : (9 - (0 : Int32).toInt).toNat + 1 = 10 := by decide
  rw [xqb, xqb, e, (h.2.2.2.2.2.2.2 r hr).2.1, e10, ← prB_e]
  exact pr_LD h hb 10 0 (by omega) (by omega)
theorem sto_XD {y : MM} {g : GG} {n m r : Nat} {A : Nat → Nat → Int32} {sr cr : Nat → Int32} {bk : Int32} (h : RRD y n m A sr cr) (hr : r < m) : ∃ y1, Fx_M_blowX (Fx_M_stepsOfX (iN r) y g) bk y g = y1 ∧ RS y1 (stN A n 0 bk (-1) n) n n ∧ FRM y1 y := by
  obtain ⟨n9, m4, ma, aw, h26, h27, h1, hs⟩ := h
  obtain ⟨r1, r2, r3⟩ := hs r hr
  have es : Fx_M_stepsOfX (iN r) y g = 0 := by
    unfold Fx_M_stepsOfX
    rw [h27, if_neg (show ¬ (1 : Int32) = 0 by decide)]
  rw [es]
  obtain ⟨y1, b0, b1, b2, b3⟩ := rbl_X (g := g) (bk := bk) ma n9 aw h26 (show Bd 0 9 (0 : Int32) by decide)
  exact ⟨y1, b0, b1, b2, b3⟩
theorem mb_ID {u y : MM} {g : GG} {n m r : Nat} {A : Nat → Nat → Int32} {sr cr : Nat → Int32} {o : Int32} {ih : Int64 → Int32 → MM → Int64 × MM} (h22 : u 162 22 = iN n) (hr : r < m) (a0 : Int64) (h0 : RRD y n m A sr cr) : ∀ (f b : Nat) (y1 : MM), 2 ^ n - b < f → b ≤ 2 ^ n → FRM y1 y → ∃ y2, Fx_M_meanByX_L19 ih o u g (iN r) f (fB (mnF A n (fun _ => 0) cr (fun p => A p 4) (fun w => hro A o w n) r) b a0) (iN b) y1 = ih (fB (mnF A n (fun _ => 0) cr (fun p => A p 4) (fun w => hro A o w n) r) (2 ^ n) a0) (iN (r + 1)) y2 ∧ FRM y2 y := by
  have n9 := h0.1
  have p2 := p2_le n9
  have pp := Nat.two_pow_pos n
  intro f
  induction f with
  | zero => intro b y1 h1; omega
  | succ f ihf =>
    intro b y1 h1 h2 fr
    have h := rr_cD h0 fr
    rw [Fx_M_meanByX_L19_s, h22, (all_e n (by omega)).2.1, iN_s]
    by_cases q : 2 ^ n ≤ b
    · rw [if_pos ((iN_le (by omega) (by omega)).mpr q), show b = 2 ^ n by omega]
      exact ⟨y1, rfl, fr⟩
    · have hb : b < 2 ^ n := by omega
      have e : fB (mnF A n (fun _ => 0) cr (fun p => A p 4) (fun w => hro A o w n) r) (b + 1) a0 = mnF A n (fun _ => 0) cr (fun p => A p 4) (fun w => hro A o w n) r b (fB (mnF A n (fun _ => 0) cr (fun p => A p 4) (fun w => hro A o w n) r) b a0) := rfl
      rw [if_neg (fun z => q ((iN_le (by omega) (by omega)).mp z)), xqb, pr_XD h hr hb]
      unfold Fx_M_meanByX_J71
      rw [iN_s]
      by_cases z : lg_cmp (wB (fun p => A p 4) b n * (cr r).toInt64) (0 : Int64) ≤ 0
      · obtain ⟨y2, k1, k2⟩ := ihf (b + 1) y1 (by omega) (by omega) fr
        rw [e] at k1
        rw [mnF_0 z] at k1
        rw [if_pos z]
        exact ⟨y2, k1, k2⟩
      · obtain ⟨y3, s1, s2, s3⟩ := sto_XD (g := g) (bk := iN b) h hr
        obtain ⟨y2, k1, k2⟩ := ihf (b + 1) y3 (by omega) (by omega) (frm_t s3 fr)
        rw [e] at k1
        rw [mnF_1 z] at k1
        rw [if_neg z]
        have hh := ho_X (g := g) (o := o) (rr_cD h s3).2.2.1 n9
        rw [s2.1] at hh
        rw [xqb, s1, xqb, hh, xqb, xqb, xqb]
        exact ⟨y2, k1, k2⟩
theorem mb_LD {u : MM} {g : GG} {n m : Nat} {A : Nat → Nat → Int32} {sr cr : Nat → Int32} {o : Int32} (h0 : RRD u n m A sr cr) : ∀ (f r : Nat) (y1 : MM), m - r < f → r ≤ m → FRM y1 u → ∃ y2, Fx_M_meanByX_L5 o u g f (fR (mnF A n (fun _ => 0) cr (fun p => A p 4) (fun w => hro A o w n)) (2 ^ n) r 0) (iN r) y1 = (fR (mnF A n (fun _ => 0) cr (fun p => A p 4) (fun w => hro A o w n)) (2 ^ n) m 0, y2) ∧ FRM y2 u := by
  have m4 := h0.2.1
  have p2 := p2_le h0.1
  intro f
  induction f with
  | zero => intro r y1 h1; omega
  | succ f ihf =>
    intro r y1 h1 h2 fr
    rw [Fx_M_meanByX_L5_s, h0.2.2.2.2.2.2.1]
    by_cases q : m ≤ r
    · rw [if_pos ((iN_le (by omega) (by omega)).mpr q), show r = m by omega]
      exact ⟨y1, rfl, fr⟩
    · have e513 : (512 - (0 : Int32).toInt).toNat + 1 = 513 := by decide
      rw [if_neg (fun z => q ((iN_le (by omega) (by omega)).mp z)), e513]
      obtain ⟨y3, k1, k2⟩ := mb_ID (ih := Fx_M_meanByX_L5 o u g f) (g := g) (o := o) h0.2.2.1.1 (show r < m by omega) (fR (mnF A n (fun _ => 0) cr (fun p => A p 4) (fun w => hro A o w n)) (2 ^ n) r 0) h0 513 0 y1 (by omega) (Nat.zero_le _) fr
      obtain ⟨y2, j1, j2⟩ := ihf (r + 1) y3 (by omega) (by omega) k2
      exact ⟨y2, Eq.trans k1 j1, j2⟩
theorem mb_XD {y : MM} {g : GG} {n m : Nat} {A : Nat → Nat → Int32} {sr cr : Nat → Int32} {o : Int32} (h0 : RRD y n m A sr cr) : ∃ y2, Fx_M_meanByX o y g = (fR (mnF A n (fun _ => 0) cr (fun p => A p 4) (fun w => hro A o w n)) (2 ^ n) m 0, y2) ∧ FRM y2 y := by
  have m4 := h0.2.1
  unfold Fx_M_meanByX
  have e5 : (4 - (0 : Int32).toInt).toNat + 1 = 5 := by decide
  rw [e5]
  exact mb_LD h0 5 0 y (by omega) (by omega) frm_0
end
section
/-! the reference fills, one after the other, and takes it back -/
theorem rr_sD {y : MM} {n m p c : Nat} {A : Nat → Nat → Int32} {sr cr : Nat → Int32} {z : Int32} (h : RRD y n m A sr cr) (hc : c < 16) (b : Bd (cLo c) (cHi c) z) (l : c = 8 ∨ c = 9 → LK n p z) : RRD (ms y 172 (13 + 16 * p + c) z) n m (upA A p c z) sr cr := by
  obtain ⟨n9, m4, ma, aw, h26, h27, h1, hr⟩ := h
  refine ⟨n9, m4, ⟨by rw [ms_c1 (by decide)]; exact ma.1, fun q d hq hd => ?_⟩, aw_u aw b l, by rw [ms_c1 (by decide)]; exact h26, by rw [ms_c1 (by decide)]; exact h27, by rw [ms_i1 (by omega)]; exact h1, fun i hi => ?_⟩
  · unfold upA
    by_cases y : q = p ∧ d = c
    · rw [if_pos y, y.1, y.2, ms_e1]
    · rw [if_neg y, ms_i1 (fun e => y ⟨by omega, by omega⟩)]
      exact ma.2 q d hq hd
  · rw [ms_i1 (by omega), ms_i1 (by omega)]
    exact hr i hi
theorem rr_aD {y : MM} {n m : Nat} {A B : Nat → Nat → Int32} {sr cr : Nat → Int32} (h : RRD y n m A sr cr) (e : ∀ p c, p < n → c < 16 → A p c = B p c) : RRD y n m B sr cr := by
  obtain ⟨n9, m4, ma, aw, h26, h27, h1, hr⟩ := h
  refine ⟨n9, m4, ⟨ma.1, fun p c hp hc => (ma.2 p c hp hc).trans (e p c hp hc)⟩, fun p hp => ?_, h26, h27, h1, hr⟩
  obtain ⟨a1, a2, a3⟩ := aw p hp
  exact ⟨fun c hc => by rw [← e p c hp hc]; exact a1 c hc, by rw [← e p 8 hp (by decide)]; exact a2, by rw [← e p 9 hp (by decide)]; exact a3⟩
/-- the first k of an order, as a set -/
def PS (o : Nat → Nat) : Nat → Nat
  | 0 => 0
  | k + 1 => PS o k ||| 2 ^ o k
/-- MAY of an order, its first k -/
noncomputable def MAV (A : Nat → Nat → Int32) (n : Nat) (o : Nat → Nat) : Nat → Int64
  | 0 => 0
  | k + 1 => MAV A n o k + DM A n (PS o (k + 1))
/-- what filling leaves alone -/
def FRL (y' y : MM) (n : Nat) : Prop := (∀ a, a ≠ 162 → a ≠ 172 → a ≠ 173 → a ≠ 174 → a ≠ 175 → y' a = y a) ∧ (∀ j, j ≠ 31 → j ≠ 32 → j ≠ 33 → y' 162 j = y 162 j) ∧ ∀ j, (∀ q, q < n → j ≠ 13 + 16 * q + 1) → y' 172 j = y 172 j
theorem fl_2 {u : MM} {g : GG} {n m c : Nat} {A : Nat → Nat → Int32} {sr cr : Nat → Int32} {cn : Nat → Nat} {o : Nat → Nat} (aw : AWF n A) (hr : ∀ r, r < m → cr r = iN (cn r) ∧ cn r ≤ 100) (hs : sN cn m = 100) (ho : ∀ i, i < c → o i < n) (c4 : c ≤ 4) : ∀ (f k : Nat) (y : MM), c - k < f → k ≤ c → RRD y n m (FA A (PS o k)) sr cr → (∀ i, i < c → y 179 i = iN (o i)) → ∃ y', Fx_M_fillAllX_L38 (iN c) u g f (MAV A n o k) (iN k) y = Fx_M_fillAllX_L90 u g (MAV A n o c) 10 0 (ms y' 162 27 0) ∧ RRD y' n m (FA A (PS o c)) sr cr ∧ FRL y' y n := by
  intro f
  induction f with
  | zero => intro k y h1; omega
  | succ f ih =>
    intro k y h1 h2 rr h179
    have n9 := rr.1
    rw [Fx_M_fillAllX_L38_s]
    by_cases q : c ≤ k
    · have e10 : (9 - (0 : Int32).toInt).toNat + 1 = 10 := by decide
      have e : k = c := by omega
      subst e
      rw [if_pos (Int32.le_refl _), xqb, e10]
      exact ⟨y, rfl, rr, fun _ _ _ _ _ _ => rfl, fun _ _ _ _ => rfl, fun _ _ => rfl⟩
    have hk : o k < n := ho k (by omega)
    have m0 : mof y (iN (o k)) (0 : Int32) = A (o k) 0 := (ma_r (c := 0) rr.2.2.1 n9 hk (by decide)).trans (FA_n (by decide))
    have sE : ∀ z : Int32, Fx_M_setX (iN (o k)) (1 : Int32) z y g = ms y 172 (13 + 16 * o k + 1) z := fun z => msE (c := 1) (by omega) (by decide)
    have bz : Bd (cLo 1) (cHi 1) (A (o k) 0) := (show Bd 0 24 (A (o k) 0) from (aw (o k) hk).1 0 (by decide))
    have r1 := rr_aD (rr_sD (p := o k) (c := 1) (z := A (o k) 0) rr (by decide) bz (fun z => by omega)) (fun p d _ _ => FA_u p d)
    obtain ⟨y2, b1, b2⟩ := mb_XD (g := g) (o := -1) r1
    have ed : fR (mnF (FA A (PS o k ||| 2 ^ o k)) n (fun _ => 0) cr (fun p => FA A (PS o k ||| 2 ^ o k) p 4) (fun w => hro (FA A (PS o k ||| 2 ^ o k)) (-1) w n)) (2 ^ n) m 0 = DM A n (PS o (k + 1)) := dry_1 n9 (aw_F aw) hr hs
    rw [ed] at b1
    have es : MAV A n o k + DM A n (PS o (k + 1)) = MAV A n o (k + 1) := rfl
    rw [if_neg (fun z => q ((iN_le (by omega) (by omega)).mp z)), xqb, iN_cl (by omega), h179 k (by omega), xqb, m0, xqb, sE, b1, c2_mk, xqb, iN_s, es]
    obtain ⟨y', k1, k2, k3, k4, k5⟩ := ih (k + 1) y2 (by omega) (by omega) (rr_cD r1 b2) (fun i hi => by
      rw [b2.1 179 (by decide) (by decide) (by decide) (by decide), ms_c1 (by decide)]
      exact h179 i hi)
    refine ⟨y', k1, k2, fun a a1 a2 a3 a4 a5 => ?_, fun j j1 j2 j3 => ?_, fun j hj => ?_⟩
    · rw [k3 a a1 a2 a3 a4 a5, b2.1 a a1 a3 a4 a5, ms_c1 a2]
    · rw [k4 j j1 j2 j3, b2.2 j j1 j2 j3, ms_c1 (by decide)]
    · rw [k5 j hj, b2.1 172 (by decide) (by decide) (by decide) (by decide), ms_i1 (hj (o k) hk)]
theorem fl_1 {u : MM} {g : GG} {n : Nat} {A : Nat → Nat → Int32} {s : Int64} (h22 : u 162 22 = iN n) (n9 : n ≤ 9) : ∀ (f p : Nat) (y : MM), n - p < f → p ≤ n → (∀ q, q < n → y 178 q = A q 1) → (∀ q, q < p → y 172 (13 + 16 * q + 1) = A q 1) → ∃ y', Fx_M_fillAllX_L90 u g s f (iN p) y = (s, y') ∧ (∀ c, c ≠ 172 → y' c = y c) ∧ (∀ j, (∀ q, q < n → j ≠ 13 + 16 * q + 1) → y' 172 j = y 172 j) ∧ ∀ q, q < n → y' 172 (13 + 16 * q + 1) = A q 1 := by
  intro f
  induction f with
  | zero => intro p y h1; omega
  | succ f ih =>
    intro p y h1 h2 h178 hd
    rw [Fx_M_fillAllX_L90_s, h22]
    by_cases q : n ≤ p
    · rw [if_pos ((iN_le (by omega) (by omega)).mpr q)]
      exact ⟨y, rfl, fun _ _ => rfl, fun _ _ => rfl, fun q hq => hd q (by omega)⟩
    have sE : ∀ z : Int32, Fx_M_setX (iN p) (1 : Int32) z y g = ms y 172 (13 + 16 * p + 1) z := fun z => msE (c := 1) (by omega) (by decide)
    rw [if_neg (fun z => q ((iN_le (by omega) (by omega)).mp z)), xqb, iN_cl (by omega), h178 p (by omega), xqb, sE, iN_s]
    obtain ⟨y', k1, k2, k3, k4⟩ := ih (p + 1) (ms y 172 (13 + 16 * p + 1) (A p 1)) (by omega) (by omega) (fun q hq => by rw [ms_c1 (by decide)]; exact h178 q hq) (fun q hq => by
      by_cases z : q = p
      · rw [z, ms_e1]
      · rw [ms_i1 (by omega)]; exact hd q (by omega))
    exact ⟨y', k1, fun c hc => (k2 c hc).trans (ms_c1 hc), fun j hj => (k3 j hj).trans (ms_i1 (hj p (by omega))), k4⟩
theorem fl_0 {u : MM} {g : GG} {n c : Nat} {A : Nat → Nat → Int32} (ma : RMA u n A) (n9 : n ≤ 9) : ∀ (f p : Nat) (y : MM), n - p < f → p ≤ n → (∀ q, q < p → y 178 q = A q 1) → (∀ a, a ≠ 178 → y a = u a) → ∃ y', Fx_M_fillAllX_L2 (iN c) u g f (iN p) y = Fx_M_fillAllX_L38 (iN c) u g 5 0 0 (ms y' 162 27 1) ∧ (∀ q, q < n → y' 178 q = A q 1) ∧ ∀ a, a ≠ 178 → y' a = u a := by
  intro f
  induction f with
  | zero => intro p y h1; omega
  | succ f ih =>
    intro p y h1 h2 hd hf
    rw [Fx_M_fillAllX_L2_s, ma.1]
    by_cases q : n ≤ p
    · have e5 : (4 - (0 : Int32).toInt).toNat + 1 = 5 := by decide
      rw [if_pos ((iN_le (by omega) (by omega)).mpr q), xqb, e5]
      exact ⟨y, rfl, fun q hq => hd q (by omega), hf⟩
    rw [if_neg (fun z => q ((iN_le (by omega) (by omega)).mp z)), xqb, iN_cl (by omega), iN_s, show mof u (iN p) (1 : Int32) = A p 1 from ma_r (c := 1) ma n9 (by omega) (by decide)]
    exact ih (p + 1) (ms y 178 p (A p 1)) (by omega) (by omega) (fun q hq => by
      by_cases z : q = p
      · rw [z, ms_e1]
      · rw [ms_i1 z]; exact hd q (by omega)) (fun a ha => (ms_c1 ha).trans (hf a ha))
/-- the reference's MAY of an order -/
theorem fa_X {y : MM} {g : GG} {n m c : Nat} {A : Nat → Nat → Int32} {sr cr : Nat → Int32} {cn : Nat → Nat} {o : Nat → Nat} (rr : RR y n m A sr cr) (hr : ∀ r, r < m → cr r = iN (cn r) ∧ cn r ≤ 100) (hs : sN cn m = 100) (ho : ∀ i, i < c → o i < n) (c4 : c ≤ 4) (h179 : ∀ i, i < c → y 179 i = iN (o i)) : ∃ y', Fx_M_fillAllX (iN c) y g = (MAV A n o c, y') ∧ RR y' n m A sr cr ∧ (∀ a, a ≠ 162 → a ≠ 172 → a ≠ 173 → a ≠ 174 → a ≠ 175 → a ≠ 178 → y' a = y a) := by
  obtain ⟨n9, m4, ma, aw, h26, h27, h1, hR⟩ := rr
  have e10 : (9 - (0 : Int32).toInt).toNat + 1 = 10 := by decide
  unfold Fx_M_fillAllX
  rw [e10]
  obtain ⟨y1, a1, a2, a3⟩ := fl_0 (g := g) (c := c) ma n9 10 0 y (by omega) (by omega) (fun q hq => by omega) (fun _ _ => rfl)
  have c162 := a3 162 (by decide)
  have c172 := a3 172 (by decide)
  have rd : RRD (ms y1 162 27 1) n m (FA A (PS o 0)) sr cr := by
    refine rr_aD (A := A) ⟨n9, m4, ma_c ma ((ms_i1 (by decide)).trans (congrFun c162 22)) ((ms_c1 (by decide)).trans c172), aw, ?_, ms_e1, ?_, fun i hi => ?_⟩ (fun p d _ _ => (FA_0 p d).symm)
    · rw [ms_i1 (by decide), c162]; exact h26
    · rw [ms_c1 (by decide), c172]; exact h1
    · rw [ms_c1 (by decide), c172]; exact hR i hi
  obtain ⟨y2, b1, b2, b3, b4, b5⟩ := fl_2 (u := y) (g := g) aw hr hs ho c4 5 0 (ms y1 162 27 1) (by omega) (by omega) rd (fun i hi => by rw [ms_c1 (by decide), a3 179 (by decide)]; exact h179 i hi)
  obtain ⟨y3, d1, d2, d3, d4⟩ := fl_1 (g := g) (A := A) (s := MAV A n o c) ma.1 n9 10 0 (ms y2 162 27 0) (by omega) (by omega) (fun q hq => by
    rw [ms_c1 (by decide), b3 178 (by decide) (by decide) (by decide) (by decide) (by decide), ms_c1 (by decide)]
    exact a2 q hq) (fun q hq => by omega)
  refine ⟨y3, Eq.trans a1 (Eq.trans b1 d1), ?_, fun a q1 q2 q3 q4 q5 q6 => ?_⟩
  · obtain ⟨-, -, ma2, -, k26, -, k1, kR⟩ := b2
    have lo : ∀ j, j < 13 → y3 172 j = y2 172 j := fun j hj => (d3 j (fun q hq => by omega)).trans (congrFun (ms_c1 (by decide)) j)
    refine ⟨n9, m4, ⟨?_, fun p d hp hd => ?_⟩, aw, ?_, ?_, ?_, fun i hi => ?_⟩
    · rw [d2 162 (by decide), ms_i1 (by decide)]; exact ma2.1
    · by_cases z : d = 1
      · subst z; exact d4 p hp
      · rw [d3 _ (fun q hq => by omega), ms_c1 (by decide), ma2.2 p d hp hd]
        exact FA_n z
    · rw [d2 162 (by decide), ms_i1 (by decide)]; exact k26
    · rw [d2 162 (by decide), ms_e1]
    · rw [lo 1 (by decide)]; exact k1
    · rw [lo _ (by omega), lo _ (by omega)]; exact kR i hi
  · rw [d2 a q2, ms_c1 q1, b3 a q1 q2 q3 q4 q5, ms_c1 q1, a3 a q6]
end
section
/-! the class looks at what is filled -/
/-- the i-th member of a set, of its first p -/
def tf (P : Nat) : Nat → Nat → Nat
  | 0 => fun _ => 0
  | p + 1 => if P.testBit p = true then fun i => if i = pcn P p then p else tf P p i else tf P p
theorem tf_s1 {P p : Nat} (t : P.testBit p = true) : tf P (p + 1) = fun i => if i = pcn P p then p else tf P p i := if_pos t
theorem tf_s0 {P p : Nat} (t : ¬ P.testBit p = true) : tf P (p + 1) = tf P p := if_neg t
theorem pcn_s1 {P p : Nat} (t : P.testBit p = true) : pcn P (p + 1) = pcn P p + 1 := by
  show pcn P p + (if P.testBit p = true then 1 else 0) = _
  rw [if_pos t]
theorem pcn_s0 {P p : Nat} (t : ¬ P.testBit p = true) : pcn P (p + 1) = pcn P p := by
  show pcn P p + (if P.testBit p = true then 1 else 0) = _
  rw [if_neg t]
  rfl
theorem pcn_m {P p : Nat} : ∀ q, p ≤ q → pcn P p ≤ pcn P q := by
  intro q
  induction q with
  | zero => intro h; rw [show p = 0 by omega]; exact Nat.le_refl _
  | succ q ih =>
    intro h
    by_cases y : p = q + 1
    · rw [y]; exact Nat.le_refl _
    · exact Nat.le_trans (ih (by omega)) (Nat.le_add_right _ _)
theorem tf_1 {P : Nat} : ∀ p i, i < pcn P p → tf P p i < p ∧ P.testBit (tf P p i) = true := by
  intro p
  induction p with
  | zero => intro i h; exact absurd h (Nat.not_lt_zero i)
  | succ p ih =>
    intro i h
    by_cases t : P.testBit p = true
    · rw [pcn_s1 t] at h
      rw [tf_s1 t]
      dsimp only
      by_cases y : i = pcn P p
      · rw [if_pos y]; exact ⟨by omega, t⟩
      · rw [if_neg y]
        obtain ⟨a, b⟩ := ih i (by omega)
        exact ⟨by omega, b⟩
    · rw [pcn_s0 t] at h
      rw [tf_s0 t]
      obtain ⟨a, b⟩ := ih i h
      exact ⟨by omega, b⟩
theorem tf_2 {P : Nat} : ∀ p q, q < p → P.testBit q = true → ∃ i, i < pcn P p ∧ tf P p i = q := by
  intro p
  induction p with
  | zero => intro q h; omega
  | succ p ih =>
    intro q h hq
    by_cases t : P.testBit p = true
    · rw [pcn_s1 t, tf_s1 t]
      dsimp only
      by_cases y : q = p
      · exact ⟨pcn P p, by omega, by rw [if_pos rfl, y]⟩
      · obtain ⟨i, i1, i2⟩ := ih q (by omega) hq
        exact ⟨i, by omega, by rw [if_neg (by omega), i2]⟩
    · have hp : ¬ q = p := fun z => t (by rw [← z]; exact hq)
      rw [pcn_s0 t, tf_s0 t]
      exact ih q (by omega) hq
theorem tf_3 {P : Nat} : ∀ p i j, i < j → j < pcn P p → tf P p i < tf P p j := by
  intro p
  induction p with
  | zero => intro i j _ h; exact absurd h (Nat.not_lt_zero j)
  | succ p ih =>
    intro i j hij h
    by_cases t : P.testBit p = true
    · rw [pcn_s1 t] at h
      rw [tf_s1 t]
      dsimp only
      rw [if_neg (show ¬ i = pcn P p by omega)]
      by_cases y : j = pcn P p
      · rw [if_pos y]
        exact (tf_1 p i (by omega)).1
      · rw [if_neg y]
        exact ih i j hij (by omega)
    · rw [pcn_s0 t] at h
      rw [tf_s0 t]
      exact ih i j hij h
/-- the ponds that a mask over the members says -/
def MS (f : Nat → Nat) (F : Nat) : Nat → Nat
  | 0 => 0
  | k + 1 => if F.testBit k = true then MS f F k ||| 2 ^ f k else MS f F k
theorem lf_2 {ub : MM} {ihc : Int32 → MM → GG → MM × GG} {g : GG} {n F c : Nat} {A : Nat → Nat → Int32} {o : Nat → Nat} (aw : AWF n A) (n9 : n ≤ 9) (hb : ub 56 5 = iN c) (c4 : c ≤ 4) (hF : F < 16) (ho : ∀ i, i < c → o i < n) : ∀ (f k : Nat) (x : MM), c - k < f → k ≤ c → HA x 70 n (FA A (MS o F k)) → RNS x 70 1 (fun _ => 0) (fun _ => 100) → (∀ i, i < c → x 75 i = iN (o i)) → ∃ x' g', Fx_C_lookAtFilledX_L99 ihc ub (iN F) g f (iN k) x = ihc (iN (F + 1)) x' (ml g' 78 F (DM A n (MS o F c))) ∧ (∀ a, a ≠ 68 → g' a = g a) ∧ ∀ a, a < 58 ∨ 67 < a → a ≠ 71 → x' a = x a := by
  intro f
  induction f with
  | zero => intro k x h1; omega
  | succ f ih =>
    intro k x h1 h2 ha hr h75
    rw [Fx_C_lookAtFilledX_L99_s, hb]
    by_cases q : c ≤ k
    · have e : k = c := by omega
      subst e
      obtain ⟨x', g', k1, k2, k3⟩ := wm70_X (g := g) ha n9 (by omega) (aw_F aw) hr
      have k1' : Fx_O_wholeMean_70X (-1) x g = (DM A n (MS o F k), x', g') := k1
      rw [if_pos (Int32.le_refl _), k1', c3_mk, xqb, iN_cl (by omega), iN_s]
      exact ⟨x', g', rfl, k3, fun a ha' _ => k2 a ha'⟩
    unfold Fx_C_lookAtFilledX_J147
    rw [if_neg (fun z => q ((iN_le (by omega) (by omega)).mp z)), xqb, isI, inN F (by omega) k (by omega), iN_s]
    by_cases t : F.testBit k = true
    · have hk : o k < n := ho k (by omega)
      have e : MS o F (k + 1) = MS o F k ||| 2 ^ o k := if_pos t
      have h0 : hof x 70 (iN (o k)) (0 : Int32) = A (o k) 0 := (ha_r (c := 0) ha n9 hk (by decide)).trans (FA_n (by decide))
      have pu : Fx_H_putX (iN (o k)) (1 : Int32) (A (o k) 0) 70 x g = ms x (70 + 1) (16 * o k + 1) (A (o k) 0) := putE (c := 1) (by omega) (by decide)
      have ha2 : HA (ms x (70 + 1) (16 * o k + 1) (A (o k) 0)) 70 n (FA A (MS o F (k + 1))) := by
        rw [e]
        exact ha_e (ha_s (p := o k) (c := 1) (z := A (o k) 0) ha (by decide)) (fun p d _ _ => FA_u p d)
      rw [if_pos t, xqb, xqb, iN_cl (by omega), h75 k (by omega), h0, xqb, pu]
      obtain ⟨x', g', k1, k2, k3⟩ := ih (k + 1) (ms x (70 + 1) (16 * o k + 1) (A (o k) 0)) (by omega) (by omega) ha2 (rns_c hr (ms_c1 (by decide)) (ms_c1 (by decide)) (ms_c1 (by decide))) (fun i hi => by rw [ms_c1 (by decide)]; exact h75 i hi)
      exact ⟨x', g', k1, k2, fun a a1 a2 => (k3 a a1 a2).trans (ms_c1 (by omega))⟩
    · have e : MS o F (k + 1) = MS o F k := if_neg t
      rw [if_neg t]
      exact ih (k + 1) x (by omega) (by omega) (by rw [e]; exact ha) hr h75
theorem lf_1 {ub : MM} {n m c : Nat} {A : Nat → Nat → Int32} {sr cr : Nat → Int32} {o : Nat → Nat} (aw : AWF n A) (n9 : n ≤ 9) (m4 : m ≤ 4) (hb : ub 56 5 = iN c) (c4 : c ≤ 4) (ho : ∀ i, i < c → o i < n) : ∀ (f F : Nat) (x : MM) (g : GG), 2 ^ c - F < f → 1 ≤ F → F ≤ 2 ^ c → HA x 44 n A → RNS x 44 m sr cr → (∀ i, i < c → x 75 i = iN (o i)) → (∀ G, 1 ≤ G → G < F → g 78 G = DM A n (MS o G c)) → ∃ x' g', Fx_C_lookAtFilledX_L59 ub f (iN F) x g = (x', g') ∧ (∀ G, 1 ≤ G → G < 2 ^ c → g' 78 G = DM A n (MS o G c)) ∧ ∀ a, a < 58 ∨ 74 < a → x' a = x a := by
  have pc : 2 ^ c ≤ 2 ^ 4 := Nat.pow_le_pow_right (by decide) c4
  intro f
  induction f with
  | zero => intro F x g h1; omega
  | succ f ih =>
    intro F x g h1 h2 h3 ha hr h75 hd
    rw [Fx_C_lookAtFilledX_L59_s, hb, (all_e c (by omega)).2.1]
    by_cases q : 2 ^ c ≤ F
    · rw [if_pos ((iN_le (by omega) (by omega)).mpr q)]
      exact ⟨x, g, rfl, fun G g1 g2 => hd G g1 (by omega), fun _ _ => rfl⟩
    obtain ⟨x1, c1, c2, c3, cf⟩ := cph_X (g := g) (t := 70) ha hr n9 m4 (by decide)
    obtain ⟨x2, hx2⟩ : ∃ x2, x2 = ms (ms (ms (ms x1 70 2 0) 72 0 0) 73 0 100) 70 2 1 := ⟨_, rfl⟩
    have ad : Fx_H_addRainX 0 100 70 (ms x1 70 2 0) g = (true, x2) := by
      unfold Fx_H_addRainX
      rw [ms_e1, if_pos (show (0 : Int32) < 4 by decide), xqb, xqb, xqb, hx2]
      rfl
    have f2 : ∀ a, a ≠ 70 → a ≠ 72 → a ≠ 73 → x2 a = x1 a := fun a a1 a2 a3 => by rw [hx2, ms_c1 a1, ms_c1 a3, ms_c1 a2, ms_c1 a1]
    have ha2 : HA x2 70 n (FA A (MS o F 0)) := ⟨by rw [hx2, ms_i1 (by decide), ms_c1 (by decide), ms_c1 (by decide), ms_i1 (by decide)]; exact c2.1, fun p d hp hd' => by
      rw [f2 (70 + 1) (by decide) (by decide) (by decide), c2.2 p d hp hd']
      exact (FA_0 p d).symm⟩
    have hr2 : RNS x2 70 1 (fun _ => 0) (fun _ => 100) := ⟨by rw [hx2, ms_e1]; rfl, fun i hi => by
      have i0 : i = 0 := by omega
      subst i0
      refine ⟨?_, ?_⟩
      · show x2 72 0 = 0
        rw [hx2, ms_c1 (by decide), ms_c1 (by decide), ms_e1]
      · show x2 73 0 = 100
        rw [hx2, ms_c1 (by decide), ms_e1]⟩
    have e5 : (4 - (0 : Int32).toInt).toNat + 1 = 5 := by decide
    rw [if_neg (fun z => q ((iN_le (by omega) (by omega)).mp z)), xqb, c1, xqb, ad, c2_mk, e5]
    obtain ⟨x3, g3, k1, k2, k3⟩ := lf_2 (ihc := Fx_C_lookAtFilledX_L59 ub f) (g := g) (F := F) aw n9 hb c4 (by omega) ho 5 0 x2 (by omega) (by omega) ha2 hr2 (fun i hi => by rw [f2 75 (by decide) (by decide) (by decide), cf 75 (by decide)]; exact h75 i hi)
    have fr : ∀ a, a < 58 ∨ 74 < a → x3 a = x a := fun a ha' => by rw [k3 a (by omega) (by omega), f2 a (by omega) (by omega) (by omega), cf a (by omega)]
    obtain ⟨x', g', j1, j2, j3⟩ := ih (F + 1) x3 (ml g3 78 F (DM A n (MS o F c))) (by omega) (by omega) (by omega) (ha_c ha (fr 44 (by decide)) (fr 45 (by decide))) (rns_c hr (fr 44 (by decide)) (fr 46 (by decide)) (fr 47 (by decide))) (fun i hi => by rw [fr 75 (by decide)]; exact h75 i hi) (fun G g1 g2 => by
      by_cases y : G = F
      · rw [y, ml_e]
      · rw [zl_i y, k2 78 (by decide)]
        exact hd G g1 (by omega))
    exact ⟨x', g', Eq.trans k1 j1, j2, fun a ha' => (j3 a ha').trans (fr a ha')⟩
theorem lf_0 {u : MM} {g : GG} {n P : Nat} (h44 : u 44 0 = iN n) (n9 : n ≤ 9) (hP : P < 512) (h4 : pcn P n ≤ 4) : ∀ (f p : Nat) (x : MM), n - p < f → p ≤ n → x 56 5 = iN (pcn P p) → (∀ i, i < pcn P p → x 75 i = iN (tf P p i)) → (∀ a, a ≠ 56 → a ≠ 75 → x a = u a) → ∃ x', Fx_C_lookAtFilledX_L7 (iN P) u g f (iN p) x = Fx_C_lookAtFilledX_L59 x' 16 1 x' g ∧ x' 56 5 = iN (pcn P n) ∧ (∀ i, i < pcn P n → x' 75 i = iN (tf P n i)) ∧ ∀ a, a ≠ 56 → a ≠ 75 → x' a = u a := by
  intro f
  induction f with
  | zero => intro p x h1; omega
  | succ f ih =>
    intro p x h1 h2 h5 h75 hf
    rw [Fx_C_lookAtFilledX_L7_s, h44]
    by_cases q : n ≤ p
    · have e : p = n := by omega
      subst e
      have e16 : (16 - (1 : Int32).toInt).toNat + 1 = 16 := by decide
      rw [if_pos (Int32.le_refl _), e16]
      exact ⟨x, rfl, h5, h75, hf⟩
    unfold Fx_C_lookAtFilledX_J51
    rw [if_neg (fun z => q ((iN_le (by omega) (by omega)).mp z)), xqb, isI, inN P hP p (by omega), iN_s]
    by_cases t : P.testBit p = true
    · have e1 := pcn_s1 t
      have e2 : pcn P (p + 1) ≤ pcn P n := pcn_m n (by omega)
      rw [if_pos t, h5, if_neg (show ¬ (4 : Int32) ≤ iN (pcn P p) from fun z => by have := (iN_le (a := 4) (by omega) (by omega)).mp z; omega), xqb, xqb, iN_cl (by omega), iN_s]
      refine ih (p + 1) _ (by omega) (by omega) (by rw [ms_e1, e1]) (fun i hi => ?_) (fun a a1 a2 => by rw [ms_c1 a1, ms_c1 a2]; exact hf a a1 a2)
      rw [ms_c1 (by decide), tf_s1 t]
      dsimp only
      by_cases y : i = pcn P p
      · rw [if_pos y, y, ms_e1]
      · rw [if_neg y, ms_i1 y]
        exact h75 i (by omega)
    · rw [if_neg t]
      exact ih (p + 1) x (by omega) (by omega) (by rw [pcn_s0 t]; exact h5) (fun i hi => by
        rw [pcn_s0 t] at hi
        rw [tf_s0 t]
        exact h75 i hi) hf
/-- what the class knows of the ponds to fill -/
def LKF (x : MM) (g : GG) (A : Nat → Nat → Int32) (n P c : Nat) : Prop := x 56 5 = iN c ∧ (∀ i, i < c → x 75 i = iN (tf P n i)) ∧ ∀ F, 1 ≤ F → F < 2 ^ c → g 78 F = DM A n (MS (tf P n) F c)
theorem lf_X {x : MM} {g : GG} {n m P : Nat} {A : Nat → Nat → Int32} {sr cr : Nat → Int32} (ha : HA x 44 n A) (hr : RNS x 44 m sr cr) (aw : AWF n A) (n9 : n ≤ 9) (m4 : m ≤ 4) (hP : P < 512) (h4 : pcn P n ≤ 4) : ∃ x' g', Fx_C_lookAtFilledX (iN P) x g = (x', g') ∧ LKF x' g' A n P (pcn P n) := by
  unfold Fx_C_lookAtFilledX
  have e10 : (9 - (0 : Int32).toInt).toNat + 1 = 10 := by decide
  rw [xqb, e10]
  obtain ⟨x1, a1, a2, a3, a4⟩ := lf_0 (g := g) ha.1 n9 hP h4 10 0 (ms x 56 5 0) (by omega) (by omega) ms_e1 (fun i hi => absurd hi (Nat.not_lt_zero i)) (fun a ha' _ => ms_c1 ha')
  obtain ⟨x', g', b1, b2, b3⟩ := lf_1 (ub := x1) (c := pcn P n) (o := tf P n) aw n9 m4 a2 h4 (fun i hi => (tf_1 n i hi).1) 16 1 x1 g (by have : 2 ^ pcn P n ≤ 2 ^ 4 := Nat.pow_le_pow_right (by decide) h4; omega) (by omega) (Nat.one_le_two_pow) (ha_c ha (a4 44 (by decide) (by decide)) (a4 45 (by decide) (by decide))) (rns_c hr (a4 44 (by decide) (by decide)) (a4 46 (by decide) (by decide)) (a4 47 (by decide) (by decide))) a3 (fun G g1 g2 => by omega)
  exact ⟨x', g', Eq.trans a1 b1, by rw [b3 56 (by decide)]; exact a2, fun i hi => by rw [b3 75 (by decide)]; exact a3 i hi, b2⟩
end
section
/-! orders by codes: the class -/
theorem nat_x {a b : Nat} (h : ∀ i, a.testBit i = true ↔ b.testBit i = true) : a = b := by
  refine Nat.eq_of_testBit_eq (fun i => ?_)
  have k := h i
  cases t : a.testBit i
  · cases s : b.testBit i
    · rfl
    · exact absurd (k.mpr s) (by rw [t]; exact Bool.false_ne_true)
  · exact (k.mp t).symm
theorem PS_b {o : Nat → Nat} : ∀ k i, (PS o k).testBit i = true ↔ ∃ j, j < k ∧ o j = i := by
  intro k
  induction k with
  | zero =>
    intro i
    show (0 : Nat).testBit i = true ↔ _
    rw [Nat.zero_testBit]
    exact ⟨fun z => absurd z Bool.false_ne_true, fun ⟨j, j1, _⟩ => absurd j1 (Nat.not_lt_zero j)⟩
  | succ k ih =>
    intro i
    show (PS o k ||| 2 ^ o k).testBit i = true ↔ _
    rw [or_b, ih i]
    refine ⟨fun z => ?_, fun ⟨j, j1, j2⟩ => ?_⟩
    · rcases z with ⟨j, j1, j2⟩ | z
      · exact ⟨j, by omega, j2⟩
      · exact ⟨k, by omega, z.symm⟩
    · by_cases y : j = k
      · subst y; exact Or.inr j2.symm
      · exact Or.inl ⟨j, by omega, j2⟩
theorem PS_lt {o : Nat → Nat} {d : Nat} : ∀ k, (∀ j, j < k → o j < d) → PS o k < 2 ^ d := by
  intro k
  induction k with
  | zero => intro _; exact Nat.two_pow_pos d
  | succ k ih =>
    intro h
    exact Nat.or_lt_two_pow (ih (fun j hj => h j (by omega))) (Nat.pow_lt_pow_right (by decide) (h k (by omega)))
theorem MS_b {f : Nat → Nat} {F : Nat} : ∀ k i, (MS f F k).testBit i = true ↔ ∃ j, j < k ∧ F.testBit j = true ∧ f j = i := by
  intro k
  induction k with
  | zero =>
    intro i
    show (0 : Nat).testBit i = true ↔ _
    rw [Nat.zero_testBit]
    exact ⟨fun z => absurd z Bool.false_ne_true, fun ⟨j, j1, _⟩ => absurd j1 (Nat.not_lt_zero j)⟩
  | succ k ih =>
    intro i
    by_cases t : F.testBit k = true
    · rw [show MS f F (k + 1) = MS f F k ||| 2 ^ f k from if_pos t, or_b, ih i]
      refine ⟨fun z => ?_, fun ⟨j, j1, j2, j3⟩ => ?_⟩
      · rcases z with ⟨j, j1, j2, j3⟩ | z
        · exact ⟨j, by omega, j2, j3⟩
        · exact ⟨k, by omega, t, z.symm⟩
      · by_cases y : j = k
        · subst y; exact Or.inr j3.symm
        · exact Or.inl ⟨j, by omega, j2, j3⟩
    · rw [show MS f F (k + 1) = MS f F k from if_neg t, ih i]
      refine ⟨fun ⟨j, j1, j2, j3⟩ => ⟨j, by omega, j2, j3⟩, fun ⟨j, j1, j2, j3⟩ => ?_⟩
      by_cases y : j = k
      · subst y; exact absurd j2 t
      · exact ⟨j, by omega, j2, j3⟩
/-- a code's digits -/
def dg (c C k : Nat) : Nat := C / 4 ^ (c - 1 - k) % 4
theorem dg_4 {c C k : Nat} : dg c C k < 4 := Nat.mod_lt _ (by omega)
theorem dg_E : ∀ c, c < 5 → ∀ k, k < c → ∀ C, C < 256 → ((iN C >>> (((2 : Int32) * ((iN c - 1) - iN k)) &&& 31)) &&& 3) = iN (C / 4 ^ (c - 1 - k) % 4) := by decide +kernel
theorem b3I {p : Nat} {u : MM} {g : GG} (hp : p < 10) : Fx_bit3X (iN p) u g = iN (2 ^ p) := by
  unfold Fx_bit3X
  rw [if_pos (show (0 : Int32) ≤ iN p from (iN_le (a := 0) (by omega) (by omega)).mpr (by omega))]
  exact (all_e p hp).2.1
theorem tk_C {u : MM} {g : GG} {c C : Nat} (h5 : u 56 5 = iN c) (c4 : c ≤ 4) (hC : C < 256) : ∀ (f k : Nat) (x : MM), c - k < f → k ≤ c → (∀ i, i < k → x 77 i = iN (dg c C i)) → (∀ a, a ≠ 77 → x a = u a) → ∃ x', Fx_C_takeOrderX_L4 (iN C) u g f (iN (PS (dg c C) k)) (iN k) x = (decide (PS (dg c C) c = 2 ^ c - 1), x') ∧ (∀ i, i < c → x' 77 i = iN (dg c C i)) ∧ ∀ a, a ≠ 77 → x' a = u a := by
  have p16 : ∀ k, PS (dg c C) k < 2 ^ 4 := fun k => PS_lt k (fun j _ => dg_4)
  have pc : 2 ^ c ≤ 2 ^ 4 := Nat.pow_le_pow_right (by decide) c4
  intro f
  induction f with
  | zero => intro k x h1; omega
  | succ f ih =>
    intro k x h1 h2 h77 hf
    rw [Fx_C_takeOrderX_L4_s, h5]
    by_cases q : c ≤ k
    · have e : k = c := by omega
      subst e
      have pk := p16 k
      rw [if_pos (Int32.le_refl _), (all_e k (by omega)).1]
      refine ⟨x, ?_, h77, hf⟩
      by_cases z : PS (dg k C) k = 2 ^ k - 1
      · rw [if_pos (by rw [z]), decide_eq_true z]
      · rw [if_neg (fun w => z ((iN_eq (by omega) (by omega)).mp w)), decide_eq_false z]
    have e : PS (dg c C) (k + 1) = PS (dg c C) k ||| 2 ^ dg c C k := rfl
    have hd : ((iN C >>> (((2 : Int32) * ((iN c - 1) - iN k)) &&& 31)) &&& 3) = iN (dg c C k) := dg_E c (by omega) k (by omega) C hC
    have d4 := dg_4 (c := c) (C := C) (k := k)
    rw [if_neg (fun z => q ((iN_le (by omega) (by omega)).mp z)), hd, xqb, iN_cl (by omega), xqb, ms_e1, xqb, b3I (by omega), iN_or, ← e, iN_s]
    exact ih (k + 1) (ms x 77 k (iN (dg c C k))) (by omega) (by omega) (fun i hi => by
      by_cases y : i = k
      · rw [y, ms_e1]
      · rw [ms_i1 y]; exact h77 i (by omega)) (fun a ha => (ms_c1 ha).trans (hf a ha))
theorem tk_X {u : MM} {g : GG} {c C : Nat} (h5 : u 56 5 = iN c) (c4 : c ≤ 4) (hC : C < 256) : ∃ x', Fx_C_takeOrderX (iN C) u g = (decide (PS (dg c C) c = 2 ^ c - 1), x') ∧ (∀ i, i < c → x' 77 i = iN (dg c C i)) ∧ ∀ a, a ≠ 77 → x' a = u a := by
  unfold Fx_C_takeOrderX
  have e5 : (4 - (0 : Int32).toInt).toNat + 1 = 5 := by decide
  rw [e5]
  exact tk_C h5 c4 hC 5 0 u (by omega) (by omega) (fun i hi => absurd hi (Nat.not_lt_zero i)) (fun _ _ => rfl)
/-- the mask of the first k is the set of the ponds that it says -/
theorem MS_PS {f o : Nat → Nat} {c k : Nat} (h : ∀ j, j < k → o j < c) : MS f (PS o k) c = PS (fun i => f (o i)) k := nat_x (fun i => by
  rw [MS_b, PS_b]
  refine ⟨fun ⟨j, j1, j2, j3⟩ => ?_, fun ⟨j, j1, j2⟩ => ⟨o j, h j j1, (PS_b k (o j)).mpr ⟨j, j1, rfl⟩, j2⟩⟩
  obtain ⟨l, l1, l2⟩ := (PS_b k j).mp j2
  exact ⟨l, l1, by rw [l2]; exact j3⟩)
theorem my_L {x : MM} {g : GG} {n P c : Nat} {A : Nat → Nat → Int32} {o : Nat → Nat} (K : LKF x g A n P c) (c4 : c ≤ 4) (ho : ∀ j, j < c → o j < c) (h77 : ∀ i, i < c → x 77 i = iN (o i)) : ∀ (f k : Nat), c - k < f → k ≤ c → Fx_C_mayOfTriedX_L7 x g f (MAV A n (fun i => tf P n (o i)) k) (iN (PS o k)) (iN k) = MAV A n (fun i => tf P n (o i)) c := by
  have pc : 2 ^ c ≤ 2 ^ 4 := Nat.pow_le_pow_right (by decide) c4
  intro f
  induction f with
  | zero => intro k h1; omega
  | succ f ih =>
    intro k h1 h2
    rw [Fx_C_mayOfTriedX_L7_s, K.1]
    by_cases q : c ≤ k
    · rw [if_pos ((iN_le (by omega) (by omega)).mpr q), show k = c by omega]
    have ok := ho k (by omega)
    have e : PS o (k + 1) = PS o k ||| 2 ^ o k := rfl
    have lt : PS o (k + 1) < 2 ^ c := PS_lt (k + 1) (fun j hj => ho j (by omega))
    have ge : 1 ≤ PS o (k + 1) := by
      by_cases z : PS o (k + 1) = 0
      · have b := (PS_b (o := o) (k + 1) (o k)).mpr ⟨k, by omega, rfl⟩
        rw [z, Nat.zero_testBit] at b
        exact absurd b Bool.false_ne_true
      · omega
    have hg := K.2.2 (PS o (k + 1)) ge lt
    rw [MS_PS (fun j hj => ho j (by omega))] at hg
    have es : MAV A n (fun i => tf P n (o i)) k + DM A n (PS (fun i => tf P n (o i)) (k + 1)) = MAV A n (fun i => tf P n (o i)) (k + 1) := rfl
    rw [if_neg (fun z => q ((iN_le (by omega) (by omega)).mp z)), xqb, iN_cl (by omega), h77 k (by omega), xqb, b3I (by omega), iN_or, ← e, xqb, iN_cl (by omega), hg, xqb, es, iN_s]
    exact ih (k + 1) (by omega) (by omega)
theorem my_X {x : MM} {g : GG} {n P c : Nat} {A : Nat → Nat → Int32} {o : Nat → Nat} (K : LKF x g A n P c) (c4 : c ≤ 4) (ho : ∀ j, j < c → o j < c) (h77 : ∀ i, i < c → x 77 i = iN (o i)) : Fx_C_mayOfTriedX x g = MAV A n (fun i => tf P n (o i)) c := by
  unfold Fx_C_mayOfTriedX
  have e5 : (4 - (0 : Int32).toInt).toNat + 1 = 5 := by decide
  rw [e5]
  exact my_L K c4 ho h77 5 0 (by omega) (by omega)
end
section
/-! the first of the least, by codes; the class finds it -/
def BST (V : Nat → Prop) (M : Nat → Int64) (C b : Nat) : Prop := b < C ∧ V b ∧ ∀ D, D < C → V D → M b ≤ M D ∧ (D < b → M b < M D)
theorem bst_0 {V : Nat → Prop} {M : Nat → Int64} {C : Nat} (h : ∀ D, D < C → ¬ V D) (v : V C) : BST V M (C + 1) C := ⟨by omega, v, fun D d1 d2 => by
  have e : D = C := by
    by_cases y : D < C
    · exact absurd d2 (h D y)
    · omega
  subst e
  exact ⟨Int64.le_refl _, fun z => by omega⟩⟩
theorem bst_k {V : Nat → Prop} {M : Nat → Int64} {C b : Nat} (h : BST V M C b) (v : V C → M b ≤ M C) : BST V M (C + 1) b := by
  obtain ⟨h1, h2, h3⟩ := h
  refine ⟨by omega, h2, fun D d1 d2 => ?_⟩
  by_cases y : D < C
  · exact h3 D y d2
  · have e : D = C := by omega
    subst e
    exact ⟨v d2, fun z => by omega⟩
theorem bst_n {V : Nat → Prop} {M : Nat → Int64} {C b : Nat} (h : BST V M C b) (v : V C) (l : M C < M b) : BST V M (C + 1) C := by
  obtain ⟨h1, h2, h3⟩ := h
  refine ⟨by omega, v, fun D d1 d2 => ?_⟩
  by_cases y : D < C
  · have k := (h3 D y d2).1
    have k1 := Int64.le_iff_toInt_le.mp k
    have k2 := Int64.lt_iff_toInt_lt.mp l
    exact ⟨Int64.le_iff_toInt_le.mpr (by omega), fun _ => Int64.lt_iff_toInt_lt.mpr (by omega)⟩
  · have e : D = C := by omega
    subst e
    exact ⟨Int64.le_refl _, fun z => by omega⟩
theorem lg_ge {a b : Int64} : 0 ≤ lg_cmp a b ↔ ¬ a < b := by
  rw [← Int32.not_lt]
  exact ⟨fun z w => z ((lg_cmp_lt _ _).mpr w), fun z w => z ((lg_cmp_lt _ _).mp w)⟩
def VC (c C : Nat) : Prop := PS (dg c C) c = 2 ^ c - 1
noncomputable def MCV (A : Nat → Nat → Int32) (n P c C : Nat) : Int64 := MAV A n (fun i => tf P n (dg c C i)) c
theorem vc_d {c C : Nat} (h : VC c C) : ∀ j, j < c → dg c C j < c := fun j hj => by
  have b := (PS_b (o := dg c C) c (dg c C j)).mpr ⟨j, hj, rfl⟩
  rw [show PS (dg c C) c = 2 ^ c - 1 from h, Nat.testBit_two_pow_sub_one] at b
  exact of_decide_eq_true b
theorem vc_e : ∀ c, 1 ≤ c → c ≤ 4 → ∃ C, C < 4 ^ c ∧ VC c C := by
  intro c h1 h4
  rcases (show c = 1 ∨ c = 2 ∨ c = 3 ∨ c = 4 by omega) with e | e | e | e <;> subst e
  · exact ⟨0, by decide, by unfold VC; decide⟩
  · exact ⟨1, by decide, by unfold VC; decide⟩
  · exact ⟨6, by decide, by unfold VC; decide⟩
  · exact ⟨27, by decide, by unfold VC; decide⟩
def STC (x : MM) (g : GG) (fd : Int32) (A : Nat → Nat → Int32) (n P c C : Nat) : Prop := LKF x g A n P c ∧ ((fd = 0 ∧ ∀ D, D < C → ¬ VC c D) ∨ (fd = 1 ∧ ∃ b, BST (VC c) (MCV A n P c) C b ∧ g 56 4 = MCV A n P c b ∧ ∀ i, i < c → x 76 i = iN (dg c b i)))
theorem pw4 : ∀ c, c < 5 → (1 : Int32) <<< (((2 : Int32) * iN c) &&& 31) = iN (4 ^ c) := by decide +kernel
theorem lkf_c {x x' : MM} {g g' : GG} {A : Nat → Nat → Int32} {n P c : Nat} (h : LKF x g A n P c) (e1 : x' 56 = x 56) (e2 : x' 75 = x 75) (e3 : g' 78 = g 78) : LKF x' g' A n P c := by
  unfold LKF
  rw [e1, e2, e3]
  exact h
theorem fo_C {u0 : MM} {A : Nat → Nat → Int32} {n P c : Nat} (h5 : u0 56 5 = iN c) (c4 : c ≤ 4) : ∀ (f C : Nat) (fd : Int32) (x : MM) (g : GG), 4 ^ c - C < f → C ≤ 4 ^ c → STC x g fd A n P c C → ∃ x' g' fd', Fx_C_findOrderX_L13 u0 f fd (iN C) x g = (x', g') ∧ STC x' g' fd' A n P c (4 ^ c) := by
  have pc : 4 ^ c ≤ 4 ^ 4 := Nat.pow_le_pow_right (by decide) c4
  intro f
  induction f with
  | zero => intro C fd x g h1; omega
  | succ f ih =>
    intro C fd x g h1 h2 hS
    by_cases q : 4 ^ c ≤ C
    · have e : C = 4 ^ c := by omega
      subst e
      refine ⟨x, g, fd, ?_, hS⟩
      rw [Fx_C_findOrderX_L13_s, h5, pw4 c (by omega), if_pos (Int32.le_refl _)]
    obtain ⟨K, hS⟩ := hS
    obtain ⟨x1, t1, t2, t3⟩ := tk_X (g := g) (C := C) K.1 c4 (by omega)
    have K1 : LKF x1 g A n P c := lkf_c K (t3 56 (by decide)) (t3 75 (by decide)) rfl
    have nle : ¬ iN (4 ^ c) ≤ iN C := fun z => q ((iN_le (by omega) (by omega)).mp z)
    by_cases v : VC c C
    · have hv : decide (PS (dg c C) c = 2 ^ c - 1) = true := decide_eq_true v
      have mv := my_X (g := g) K1 c4 (vc_d v) t2
      have mv' : Fx_C_mayOfTriedX x1 g = MCV A n P c C := mv
      obtain ⟨x2, hx2⟩ : ∃ x2, x2 = mr x1 76 (va_cpy (x1 77) (x1 76) 0 0 4) := ⟨_, rfl⟩
      have f2 : ∀ a, a ≠ 76 → x2 a = x1 a := fun a ha => by rw [hx2, mr_c1 ha]
      have f76 : ∀ i, i < c → x2 76 i = iN (dg c C i) := fun i hi => by
        rw [hx2, mr_a1, va_cpy, if_pos ⟨by omega, by omega⟩, ← t2 i hi]
        exact congrArg (x1 77) (by omega)
      have K2 : LKF x2 (ml g 56 4 (MCV A n P c C)) A n P c := lkf_c K1 (f2 56 (by decide)) (f2 75 (by decide)) (zl_c (by decide))
      rcases hS with ⟨s1, s2⟩ | ⟨s1, b, s2, s3, s4⟩
      · have e : Fx_C_findOrderX_L13 u0 (f + 1) fd (iN C) x g = Fx_C_findOrderX_L13 u0 f 1 (iN (C + 1)) x2 (ml g 56 4 (MCV A n P c C)) := by
          rw [Fx_C_findOrderX_L13_s, h5, pw4 c (by omega), if_neg nle, t1, c2_mk, if_pos hv, xqb, mv', if_pos s1, xqb, xqb, ← hx2]
          unfold Fx_C_findOrderX_J68
          rw [iN_s]
        rw [e]
        exact ih (C + 1) 1 x2 _ (by omega) (by omega) ⟨K2, Or.inr ⟨rfl, C, bst_0 s2 v, ml_e, f76⟩⟩
      · have nf : ¬ fd = 0 := by rw [s1]; decide
        by_cases l : 0 ≤ lg_cmp (MCV A n P c C) (MCV A n P c b)
        · have e : Fx_C_findOrderX_L13 u0 (f + 1) fd (iN C) x g = Fx_C_findOrderX_L13 u0 f fd (iN (C + 1)) x1 g := by
            rw [Fx_C_findOrderX_L13_s, h5, pw4 c (by omega), if_neg nle, t1, c2_mk, if_pos hv, xqb, mv', if_neg nf, xqb, s3, if_pos l]
            unfold Fx_C_findOrderX_J68
            rw [iN_s]
          have le : MCV A n P c b ≤ MCV A n P c C := by
            have l1 : ¬ (MCV A n P c C).toInt < (MCV A n P c b).toInt := fun z => (lg_ge.mp l) (Int64.lt_iff_toInt_lt.mpr z)
            exact Int64.le_iff_toInt_le.mpr (by omega)
          rw [e]
          exact ih (C + 1) fd x1 g (by omega) (by omega) ⟨K1, Or.inr ⟨s1, b, bst_k s2 (fun _ => le), s3, fun i hi => by rw [t3 76 (by decide)]; exact s4 i hi⟩⟩
        · have e : Fx_C_findOrderX_L13 u0 (f + 1) fd (iN C) x g = Fx_C_findOrderX_L13 u0 f 1 (iN (C + 1)) x2 (ml g 56 4 (MCV A n P c C)) := by
            rw [Fx_C_findOrderX_L13_s, h5, pw4 c (by omega), if_neg nle, t1, c2_mk, if_pos hv, xqb, mv', if_neg nf, xqb, s3, if_neg l, xqb, xqb, ← hx2]
            unfold Fx_C_findOrderX_J68
            rw [iN_s]
          have lt : MCV A n P c C < MCV A n P c b := Classical.byContradiction (fun z => l (lg_ge.mpr z))
          rw [e]
          exact ih (C + 1) 1 x2 _ (by omega) (by omega) ⟨K2, Or.inr ⟨rfl, C, bst_n s2 v lt, ml_e, f76⟩⟩
    · have hv : decide (PS (dg c C) c = 2 ^ c - 1) = false := decide_eq_false v
      have e : Fx_C_findOrderX_L13 u0 (f + 1) fd (iN C) x g = Fx_C_findOrderX_L13 u0 f fd (iN (C + 1)) x1 g := by
        rw [Fx_C_findOrderX_L13_s, h5, pw4 c (by omega), if_neg nle, t1, c2_mk, hv, if_neg Bool.false_ne_true]
        unfold Fx_C_findOrderX_J68
        rw [iN_s]
      rw [e]
      refine ih (C + 1) fd x1 g (by omega) (by omega) ⟨K1, ?_⟩
      rcases hS with ⟨s1, s2⟩ | ⟨s1, b, s2, s3, s4⟩
      · exact Or.inl ⟨s1, fun D hD => by
          by_cases y : D = C
          · rw [y]; exact v
          · exact s2 D (by omega)⟩
      · exact Or.inr ⟨s1, b, bst_k s2 (fun w => absurd w v), s3, fun i hi => by rw [t3 76 (by decide)]; exact s4 i hi⟩
/-- the class's ORDER and its MAY -/
theorem fo_X {x : MM} {g : GG} {A : Nat → Nat → Int32} {n P c : Nat} (K : LKF x g A n P c) (c1 : 1 ≤ c) (c4 : c ≤ 4) : ∃ x' g' b, Fx_C_findOrderX x g = (x', g') ∧ LKF x' g' A n P c ∧ BST (VC c) (MCV A n P c) (4 ^ c) b ∧ g' 56 4 = MCV A n P c b ∧ ∀ i, i < c → x' 76 i = iN (dg c b i) := by
  have pc : 4 ^ c ≤ 4 ^ 4 := Nat.pow_le_pow_right (by decide) c4
  unfold Fx_C_findOrderX
  have e257 : (256 - (0 : Int32).toInt).toNat + 1 = 257 := by decide
  rw [e257]
  obtain ⟨x', g', fd', k1, K', k2⟩ := fo_C K.1 c4 257 0 0 x g (by omega) (Nat.zero_le _) ⟨K, Or.inl ⟨rfl, fun D hD => absurd hD (Nat.not_lt_zero D)⟩⟩
  rcases k2 with ⟨s1, s2⟩ | ⟨s1, b, s2, s3, s4⟩
  · obtain ⟨C, v1, v2⟩ := vc_e c c1 c4
    exact absurd v2 (s2 C v1)
  · exact ⟨x', g', b, k1, K', s2, s3, s4⟩
end
section
/-! orders by codes: the reference -/
def rg (R k : Nat) : Nat := R / 9 ^ (3 - k) % 9
theorem rg_9 {R k : Nat} : rg R k < 9 := Nat.mod_lt _ (by omega)
def VR (P c R : Nat) : Prop := (∀ j, c ≤ j → j < 4 → rg R j = 0) ∧ PS (rg R) c = P
theorem vr_n {P c R n : Nat} (h : VR P c R) (hP : P < 2 ^ n) : ∀ j, j < c → rg R j < n := fun j hj => by
  have b := (PS_b (o := rg R) c (rg R j)).mpr ⟨j, hj, rfl⟩
  rw [h.2] at b
  by_cases z : rg R j < n
  · exact z
  · rw [Nat.testBit_lt_two_pow (Nat.lt_of_lt_of_le hP (Nat.pow_le_pow_right (by decide) (by omega)))] at b
    exact absurd b Bool.false_ne_true
/-- the digits, from the last one -/
theorem fr_L {ih : Int32 → Int32 → MM → GG → MM × GG} {gg : GG} {P c R : Nat} {fd : Int32} (c4 : c ≤ 4) (hon : onesN (iN P) 9 = iN c) (hR : R < 6561) : ∀ (f t s : Nat) (y : MM), t < f → t ≤ 4 → s < 2 ^ 9 → (∀ i, s.testBit i = true ↔ ∃ j, t ≤ j ∧ j < c ∧ rg R j = i) → (∀ j, t ≤ j → c ≤ j → j < 4 → rg R j = 0) → (∀ j, t ≤ j → j < c → y 179 j = iN (rg R j)) → ∃ S y', Fx_M_findOrderX_L28 ih (iN P) fd (iN R) gg f (iN (R / 9 ^ (4 - t))) (iN s) (iN t - 1) y = Fx_M_findOrderX_J100 ih (iN P) fd (iN R) gg S y' ∧ (∀ a, a ≠ 179 → y' a = y a) ∧ ((S = -1 ∧ ∃ j, c ≤ j ∧ j < 4 ∧ ¬ rg R j = 0) ∨ (S = iN (PS (rg R) c) ∧ (∀ j, c ≤ j → j < 4 → rg R j = 0) ∧ ∀ j, j < c → y' 179 j = iN (rg R j))) := by
  intro f
  induction f with
  | zero => intro t s y h1; omega
  | succ f ihf =>
    intro t s y h1 h2 hs hb hz hy
    by_cases t0 : t = 0
    · subst t0
      refine ⟨iN s, y, ?_, fun _ _ => rfl, Or.inr ⟨?_, fun j j1 j2 => hz j (Nat.zero_le _) j1 j2, fun j hj => hy j (Nat.zero_le _) hj⟩⟩
      · rw [Fx_M_findOrderX_L28_s, if_pos (show iN 0 - 1 < (0 : Int32) by decide)]
      · have e : s = PS (rg R) c := nat_x (fun i => by
          rw [hb i, PS_b]
          exact ⟨fun ⟨j, _, j2, j3⟩ => ⟨j, j2, j3⟩, fun ⟨j, j2, j3⟩ => ⟨j, Nat.zero_le _, j2, j3⟩⟩)
        rw [e]
    obtain ⟨k, rfl⟩ : ∃ k, t = k + 1 := ⟨t - 1, by omega⟩
    have e1 : iN (k + 1) - 1 = iN k := iN_sub (a := k + 1) (b := 1) (by omega)
    have e2 : iN k + (-1) = iN k - 1 := (Int32.sub_eq_add_neg _ _).symm
    have ek : 4 - (k + 1) = 3 - k := by omega
    have hw : R / 9 ^ (3 - k) ≤ R := Nat.div_le_self _ _
    have er : iN (R / 9 ^ (3 - k)) - iN (R / 9 ^ (3 - k)) / 9 * 9 = iN (rg R k) := rem_X (V := R / 9 ^ (3 - k)) (k := 9) (by omega) (by omega)
    have ed : iN (R / 9 ^ (3 - k)) / 9 = iN (R / 9 ^ (4 - k)) := by
      have d : iN (R / 9 ^ (3 - k)) / iN 9 = iN (R / 9 ^ (3 - k) / 9) := (Int32.ofNat_div (by omega) (by omega)).symm
      have p : 9 ^ (4 - k) = 9 ^ (3 - k) * 9 := by rw [← Nat.pow_succ]; congr 1; omega
      rw [p, ← Nat.div_div_eq_div_mul]
      exact d
    have ns : ∀ a : Nat, a < 2 ^ 9 → ¬ iN a = -1 := fun a ha z => by
      have z1 := congrArg Int32.toInt z
      rw [iN_ti (by omega)] at z1
      have : (-1 : Int32).toInt = -1 := rfl
      omega
    have nk : ¬ iN k < (0 : Int32) := fun z => by have := (iN_lt (b := 0) (by omega) (by omega)).mp z; omega
    rw [ek, e1]
    by_cases ck : c ≤ k
    · by_cases z : rg R k = 0
      · have e : Fx_M_findOrderX_L28 ih (iN P) fd (iN R) gg (f + 1) (iN (R / 9 ^ (3 - k))) (iN s) (iN k) y = Fx_M_findOrderX_L28 ih (iN P) fd (iN R) gg f (iN (R / 9 ^ (4 - k))) (iN s) (iN k - 1) y := by
          rw [Fx_M_findOrderX_L28_s, if_neg nk, hon, if_pos ((iN_le (by omega) (by omega)).mpr ck), er, if_pos (show iN (rg R k) ≤ (0 : Int32) by rw [z]; decide)]
          unfold Fx_M_findOrderX_J85
          rw [if_neg (ns s hs), ed, e2]
        rw [e]
        refine ihf k s y (by omega) (by omega) hs (fun i => ?_) (fun j j1 j2 j3 => ?_) (fun j j1 j2 => hy j (by omega) j2)
        · rw [hb i]
          exact ⟨fun ⟨j, j1, j2, j3⟩ => ⟨j, by omega, j2, j3⟩, fun ⟨j, j1, j2, j3⟩ => ⟨j, by omega, j2, j3⟩⟩
        · by_cases w : j = k
          · rw [w]; exact z
          · exact hz j (by omega) j2 j3
      · refine ⟨-1, y, ?_, fun _ _ => rfl, Or.inl ⟨rfl, k, ck, by omega, z⟩⟩
        have r9 := rg_9 (R := R) (k := k)
        rw [Fx_M_findOrderX_L28_s, if_neg nk, hon, if_pos ((iN_le (by omega) (by omega)).mpr ck), er, if_neg (show ¬ iN (rg R k) ≤ (0 : Int32) from fun w => by have := (iN_le (b := 0) (by omega) (by omega)).mp w; omega)]
        unfold Fx_M_findOrderX_J85
        rw [if_pos rfl]
    · have r9 := rg_9 (R := R) (k := k)
      have hs2 : s ||| 2 ^ rg R k < 2 ^ 9 := Nat.or_lt_two_pow hs (Nat.pow_lt_pow_right (by decide) r9)
      have eb : (1 : Int32) <<< (iN (rg R k) &&& 31) = iN (2 ^ rg R k) := (all_e (rg R k) (by omega)).2.1
      have e : Fx_M_findOrderX_L28 ih (iN P) fd (iN R) gg (f + 1) (iN (R / 9 ^ (3 - k))) (iN s) (iN k) y = Fx_M_findOrderX_L28 ih (iN P) fd (iN R) gg f (iN (R / 9 ^ (4 - k))) (iN (s ||| 2 ^ rg R k)) (iN k - 1) (ms y 179 k (iN (rg R k))) := by
        rw [Fx_M_findOrderX_L28_s, if_neg nk, hon, if_neg (fun w => ck ((iN_le (by omega) (by omega)).mp w)), er, xqb, eb, iN_or, iN_cl (by omega)]
        unfold Fx_M_findOrderX_J85
        rw [if_neg (ns _ hs2), ed, e2]
      rw [e]
      obtain ⟨S, y', a1, a2, a3⟩ := ihf k (s ||| 2 ^ rg R k) (ms y 179 k (iN (rg R k))) (by omega) (by omega) hs2 (fun i => by
        rw [or_b, hb i]
        refine ⟨fun z => ?_, fun ⟨j, j1, j2, j3⟩ => ?_⟩
        · rcases z with ⟨j, j1, j2, j3⟩ | z
          · exact ⟨j, by omega, j2, j3⟩
          · exact ⟨k, by omega, by omega, z.symm⟩
        · by_cases w : j = k
          · subst w; exact Or.inr j3.symm
          · exact Or.inl ⟨j, by omega, j2, j3⟩) (fun j j1 j2 j3 => hz j (by omega) j2 j3) (fun j j1 j2 => by
        by_cases w : j = k
        · rw [w, ms_e1]
        · rw [ms_i1 w]; exact hy j (by omega) j2)
      exact ⟨S, y', a1, fun a ha => (a2 a ha).trans (ms_c1 ha), a3⟩
theorem cy_L {ih : Int32 → Int32 → MM → GG → MM × GG} {gg : GG} {P c R : Nat} (c4 : c ≤ 4) (hon : onesN (iN P) 9 = iN c) : ∀ (f k : Nat) (y : MM), c - k < f → k ≤ c → (∀ i, i < k → y 180 i = y 179 i) → ∃ y', Fx_M_findOrderX_L144 ih (iN P) (iN R) gg f (iN k) y = ih 1 (iN (R + 1)) y' gg ∧ (∀ i, i < c → y' 180 i = y 179 i) ∧ ∀ a, a ≠ 180 → y' a = y a := by
  intro f
  induction f with
  | zero => intro k y h1; omega
  | succ f ihf =>
    intro k y h1 h2 h
    rw [Fx_M_findOrderX_L144_s, hon]
    by_cases q : c ≤ k
    · unfold Fx_M_findOrderX_J173
      rw [if_pos ((iN_le (by omega) (by omega)).mpr q), iN_s]
      exact ⟨y, rfl, fun i hi => h i (by omega), fun _ _ => rfl⟩
    rw [if_neg (fun z => q ((iN_le (by omega) (by omega)).mp z)), xqb, xqb, iN_cl (by omega), iN_s]
    obtain ⟨y', a1, a2, a3⟩ := ihf (k + 1) (ms y 180 k (y 179 k)) (by omega) (by omega) (fun i hi => by
      rw [ms_c1 (a := 180) (b := 179) (by decide)]
      by_cases w : i = k
      · rw [w, ms_e1]
      · rw [ms_i1 w]; exact h i (by omega))
    exact ⟨y', a1, fun i hi => (a2 i hi).trans (congrFun (ms_c1 (by decide)) i), fun a ha => (a3 a ha).trans (ms_c1 ha)⟩
theorem cy_Lb {ih : Int32 → Int32 → MM → GG → MM × GG} {gg : GG} {P c R : Nat} (c4 : c ≤ 4) (hon : onesN (iN P) 9 = iN c) : ∀ (f k : Nat) (y : MM), c - k < f → k ≤ c → (∀ i, i < k → y 180 i = y 179 i) → ∃ y', Fx_M_findOrderX_L144b ih (iN P) (iN R) gg f (iN k) y = ih 1 (iN (R + 1)) y' gg ∧ (∀ i, i < c → y' 180 i = y 179 i) ∧ ∀ a, a ≠ 180 → y' a = y a := by
  intro f
  induction f with
  | zero => intro k y h1; omega
  | succ f ihf =>
    intro k y h1 h2 h
    rw [Fx_M_findOrderX_L144b_s, hon]
    by_cases q : c ≤ k
    · unfold Fx_M_findOrderX_J173
      rw [if_pos ((iN_le (by omega) (by omega)).mpr q), iN_s]
      exact ⟨y, rfl, fun i hi => h i (by omega), fun _ _ => rfl⟩
    rw [if_neg (fun z => q ((iN_le (by omega) (by omega)).mp z)), xqb, xqb, iN_cl (by omega), iN_s]
    obtain ⟨y', a1, a2, a3⟩ := ihf (k + 1) (ms y 180 k (y 179 k)) (by omega) (by omega) (fun i hi => by
      rw [ms_c1 (a := 180) (b := 179) (by decide)]
      by_cases w : i = k
      · rw [w, ms_e1]
      · rw [ms_i1 w]; exact h i (by omega))
    exact ⟨y', a1, fun i hi => (a2 i hi).trans (congrFun (ms_c1 (by decide)) i), fun a ha => (a3 a ha).trans (ms_c1 ha)⟩
end
section
/-! the reference finds the order -/
noncomputable def MRV (A : Nat → Nat → Int32) (n c R : Nat) : Int64 := MAV A n (rg R) c
theorem rr_2 {y y' : MM} {n m : Nat} {A : Nat → Nat → Int32} {sr cr : Nat → Int32} (h : RR y n m A sr cr) (e1 : y' 162 = y 162) (e2 : y' 172 = y 172) : RR y' n m A sr cr := by
  obtain ⟨n9, m4, ma, aw, h26, h27, h1, hr⟩ := h
  exact ⟨n9, m4, ma_c ma (congrFun e1 22) e2, aw, by rw [e1]; exact h26, by rw [e1]; exact h27, by rw [e2]; exact h1, by rw [e2]; exact hr⟩
def STR (y : MM) (g : GG) (fd : Int32) (A : Nat → Nat → Int32) (n m : Nat) (sr cr : Nat → Int32) (P c R : Nat) : Prop := RR y n m A sr cr ∧ ((fd = 0 ∧ ∀ D, D < R → ¬ VR P c D) ∨ (fd = 1 ∧ ∃ b, BST (VR P c) (MRV A n c) R b ∧ g 162 40 = MRV A n c b ∧ ∀ i, i < c → y 180 i = iN (rg b i)))
theorem str_n {y y' : MM} {g : GG} {fd : Int32} {A : Nat → Nat → Int32} {n m : Nat} {sr cr : Nat → Int32} {P c R : Nat} (h : STR y g fd A n m sr cr P c R) (v : ¬ VR P c R) (rr : RR y' n m A sr cr) (e : y' 180 = y 180) : STR y' g fd A n m sr cr P c (R + 1) := by
  refine ⟨rr, ?_⟩
  rcases h.2 with ⟨s1, s2⟩ | ⟨s1, b, s2, s3, s4⟩
  · exact Or.inl ⟨s1, fun D hD => by
      by_cases y : D = R
      · rw [y]; exact v
      · exact s2 D (by omega)⟩
  · exact Or.inr ⟨s1, b, bst_k s2 (fun w => absurd w v), s3, fun i hi => by rw [e]; exact s4 i hi⟩
theorem fo_R {A : Nat → Nat → Int32} {n m P c : Nat} {sr cr : Nat → Int32} {cn : Nat → Nat} (hr : ∀ r, r < m → cr r = iN (cn r) ∧ cn r ≤ 100) (hs : sN cn m = 100) (n9 : n ≤ 9) (hP : P < 2 ^ n) (c4 : c ≤ 4) (hon : onesN (iN P) 9 = iN c) : ∀ (f R : Nat) (fd : Int32) (y : MM) (g : GG), 6561 - R < f → R ≤ 6561 → STR y g fd A n m sr cr P c R → ∃ y' g' fd', Fx_M_findOrderX_L12 (iN P) f fd (iN R) y g = (y', g') ∧ STR y' g' fd' A n m sr cr P c 6561 := by
  have pn := p2_le n9
  intro f
  induction f with
  | zero => intro R fd y g h1; omega
  | succ f ih =>
    intro R fd y g h1 h2 hS
    by_cases q : 6561 ≤ R
    · have e : R = 6561 := by omega
      subst e
      refine ⟨y, g, fd, ?_, hS⟩
      rw [Fx_M_findOrderX_L12_s, if_pos (show (6561 : Int32) ≤ iN 6561 from Int32.le_refl _)]
    have nle : ¬ (6561 : Int32) ≤ iN R := fun z => q ((iN_le (a := 6561) (by omega) (by omega)).mp z)
    have e5 : ((3 : Int32).toInt - (-1)).toNat + 1 = 5 := by decide
    obtain ⟨S, y1, a1, a2, a3⟩ := fr_L (ih := Fx_M_findOrderX_L12 (iN P) f) (gg := g) (P := P) (fd := fd) c4 hon (show R < 6561 by omega) 5 4 0 y (by omega) (by omega) (by decide) (fun i => by
      rw [Nat.zero_testBit]
      exact ⟨fun z => absurd z Bool.false_ne_true, fun ⟨j, j1, j2, _⟩ => by omega⟩) (fun j j1 _ j3 => by omega) (fun j j1 j2 => by omega)
    have eR : R / 9 ^ (4 - 4) = R := by
      show R / 9 ^ 0 = R
      rw [Nat.pow_zero, Nat.div_one]
    rw [eR] at a1
    have a1' : Fx_M_findOrderX_L28 (Fx_M_findOrderX_L12 (iN P) f) (iN P) fd (iN R) g 5 (iN R) 0 3 y = Fx_M_findOrderX_J100 (Fx_M_findOrderX_L12 (iN P) f) (iN P) fd (iN R) g S y1 := a1
    have st : Fx_M_findOrderX_L12 (iN P) (f + 1) fd (iN R) y g = Fx_M_findOrderX_J100 (Fx_M_findOrderX_L12 (iN P) f) (iN P) fd (iN R) g S y1 := by
      rw [Fx_M_findOrderX_L12_s, if_neg nle, e5, a1']
    have rr1 := rr_2 hS.1 (a2 162 (by decide)) (a2 172 (by decide))
    have skip : ¬ S = iN P → ¬ VR P c R → ∃ y' g' fd', Fx_M_findOrderX_L12 (iN P) (f + 1) fd (iN R) y g = (y', g') ∧ STR y' g' fd' A n m sr cr P c 6561 := fun ne nv => by
      have e : Fx_M_findOrderX_L12 (iN P) (f + 1) fd (iN R) y g = Fx_M_findOrderX_L12 (iN P) f fd (iN (R + 1)) y1 g := by
        rw [st]
        unfold Fx_M_findOrderX_J100 Fx_M_findOrderX_J173
        rw [if_neg ne, iN_s]
      rw [e]
      exact ih (R + 1) fd y1 g (by omega) (by omega) (str_n hS nv rr1 (a2 180 (by decide)))
    rcases a3 with ⟨s1, j, j1, j2, j3⟩ | ⟨s1, z1, h179⟩
    · refine skip (fun z => ?_) (fun v => j3 (v.1 j j1 j2))
      rw [s1] at z
      have z1 := congrArg Int32.toInt z
      rw [iN_ti (by omega)] at z1
      have : (-1 : Int32).toInt = -1 := rfl
      omega
    by_cases eP : PS (rg R) c = P
    case neg =>
      have b9 : PS (rg R) c < 2 ^ 9 := PS_lt c (fun _ _ => rg_9)
      refine skip (fun z => eP ?_) (fun v => eP v.2)
      rw [s1] at z
      exact (iN_eq (by omega) (by omega)).mp z
    have v : VR P c R := ⟨z1, eP⟩
    obtain ⟨y2, f1, f2, f3⟩ := fa_X (g := g) (o := rg R) rr1 hr hs (vr_n v hP) c4 h179
    have f1' : Fx_M_fillAllX (iN c) y1 g = (MRV A n c R, y2) := f1
    have y2179 : y2 179 = y1 179 := f3 179 (by decide) (by decide) (by decide) (by decide) (by decide) (by decide)
    have y2180 : y2 180 = y 180 := (f3 180 (by decide) (by decide) (by decide) (by decide) (by decide) (by decide)).trans (a2 180 (by decide))
    have e5' : (4 - (0 : Int32).toInt).toNat + 1 = 5 := by decide
    obtain ⟨y3, b1, b2, b3⟩ := cy_L (ih := Fx_M_findOrderX_L12 (iN P) f) (gg := ml g 162 40 (MRV A n c R)) (P := P) (R := R) c4 hon 5 0 y2 (by omega) (by omega) (fun i hi => absurd hi (Nat.not_lt_zero i))
    obtain ⟨y4, d1, d2, d3⟩ := cy_Lb (ih := Fx_M_findOrderX_L12 (iN P) f) (gg := ml g 162 40 (MRV A n c R)) (P := P) (R := R) c4 hon 5 0 y2 (by omega) (by omega) (fun i hi => absurd hi (Nat.not_lt_zero i))
    have b1' : Fx_M_findOrderX_L144 (Fx_M_findOrderX_L12 (iN P) f) (iN P) (iN R) (ml g 162 40 (MRV A n c R)) 5 0 y2 = Fx_M_findOrderX_L12 (iN P) f 1 (iN (R + 1)) y3 (ml g 162 40 (MRV A n c R)) := b1
    have d1' : Fx_M_findOrderX_L144b (Fx_M_findOrderX_L12 (iN P) f) (iN P) (iN R) (ml g 162 40 (MRV A n c R)) 5 0 y2 = Fx_M_findOrderX_L12 (iN P) f 1 (iN (R + 1)) y4 (ml g 162 40 (MRV A n c R)) := d1
    rcases hS.2 with ⟨s2, s3⟩ | ⟨s2, b, s3, s4, s5⟩
    · have e : Fx_M_findOrderX_L12 (iN P) (f + 1) fd (iN R) y g = Fx_M_findOrderX_L12 (iN P) f 1 (iN (R + 1)) y3 (ml g 162 40 (MRV A n c R)) := by
        rw [st]
        unfold Fx_M_findOrderX_J100
        rw [if_pos (by rw [s1, eP]), hon, f1', c2_mk, if_pos s2, xqb, e5', b1']
      rw [e]
      exact ih (R + 1) 1 y3 _ (by omega) (by omega) ⟨rr_2 f2 (b3 162 (by decide)) (b3 172 (by decide)), Or.inr ⟨rfl, R, bst_0 s3 v, ml_e, fun i hi => by rw [b2 i hi, y2179]; exact h179 i hi⟩⟩
    · have nf : ¬ fd = 0 := by rw [s2]; decide
      by_cases l : 0 ≤ lg_cmp (MRV A n c R) (MRV A n c b)
      · have e : Fx_M_findOrderX_L12 (iN P) (f + 1) fd (iN R) y g = Fx_M_findOrderX_L12 (iN P) f fd (iN (R + 1)) y2 g := by
          rw [st]
          unfold Fx_M_findOrderX_J100 Fx_M_findOrderX_J173
          rw [if_pos (by rw [s1, eP]), hon, f1', c2_mk, if_neg nf, xqb, s4, if_pos l, iN_s]
        have le : MRV A n c b ≤ MRV A n c R := by
          have l1 : ¬ (MRV A n c R).toInt < (MRV A n c b).toInt := fun z => (lg_ge.mp l) (Int64.lt_iff_toInt_lt.mpr z)
          exact Int64.le_iff_toInt_le.mpr (by omega)
        rw [e]
        exact ih (R + 1) fd y2 g (by omega) (by omega) ⟨f2, Or.inr ⟨s2, b, bst_k s3 (fun _ => le), s4, fun i hi => by rw [y2180]; exact s5 i hi⟩⟩
      · have e : Fx_M_findOrderX_L12 (iN P) (f + 1) fd (iN R) y g = Fx_M_findOrderX_L12 (iN P) f 1 (iN (R + 1)) y4 (ml g 162 40 (MRV A n c R)) := by
          rw [st]
          unfold Fx_M_findOrderX_J100
          rw [if_pos (by rw [s1, eP]), hon, f1', c2_mk, if_neg nf, xqb, s4, if_neg l, xqb, e5', d1']
        have lt : MRV A n c R < MRV A n c b := Classical.byContradiction (fun z => l (lg_ge.mpr z))
        rw [e]
        exact ih (R + 1) 1 y4 _ (by omega) (by omega) ⟨rr_2 f2 (d3 162 (by decide)) (d3 172 (by decide)), Or.inr ⟨rfl, R, bst_n s3 v lt, ml_e, fun i hi => by rw [d2 i hi, y2179]; exact h179 i hi⟩⟩
end
section
/-! both find the same order -/
/-- a reference's code of an order, a class's code of digits -/
def rcd (c : Nat) (o : Nat → Nat) : Nat := (if 0 < c then o 0 else 0) * 729 + (if 1 < c then o 1 else 0) * 81 + (if 2 < c then o 2 else 0) * 9 + (if 3 < c then o 3 else 0)
def ccd (c : Nat) (d : Nat → Nat) : Nat := (if 0 < c then d 0 * 4 ^ (c - 1) else 0) + (if 1 < c then d 1 * 4 ^ (c - 2) else 0) + (if 2 < c then d 2 * 4 ^ (c - 3) else 0) + (if 3 < c then d 3 * 4 ^ (c - 4) else 0)
theorem rcd_g {c : Nat} {o : Nat → Nat} (c4 : c ≤ 4) (h : ∀ j, j < c → o j < 9) : rcd c o < 6561 ∧ (∀ j, j < c → rg (rcd c o) j = o j) ∧ ∀ j, c ≤ j → j < 4 → rg (rcd c o) j = 0 := by
  have e0 : (if 0 < c then o 0 else 0) < 9 := by split; exact h 0 (by omega); omega
  have e1 : (if 1 < c then o 1 else 0) < 9 := by split; exact h 1 (by omega); omega
  have e2 : (if 2 < c then o 2 else 0) < 9 := by split; exact h 2 (by omega); omega
  have e3 : (if 3 < c then o 3 else 0) < 9 := by split; exact h 3 (by omega); omega
  have r0 : rg (rcd c o) 0 = if 0 < c then o 0 else 0 := by
    show rcd c o / 729 % 9 = _
    unfold rcd
    omega
  have r1 : rg (rcd c o) 1 = if 1 < c then o 1 else 0 := by
    show rcd c o / 81 % 9 = _
    unfold rcd
    omega
  have r2 : rg (rcd c o) 2 = if 2 < c then o 2 else 0 := by
    show rcd c o / 9 % 9 = _
    unfold rcd
    omega
  have r3 : rg (rcd c o) 3 = if 3 < c then o 3 else 0 := by
    show rcd c o / 1 % 9 = _
    unfold rcd
    omega
  refine ⟨by unfold rcd; omega, fun j hj => ?_, fun j h1 h2 => ?_⟩
  · rcases (show j = 0 ∨ j = 1 ∨ j = 2 ∨ j = 3 by omega) with e | e | e | e <;> subst e
    · rw [r0, if_pos hj]
    · rw [r1, if_pos hj]
    · rw [r2, if_pos hj]
    · rw [r3, if_pos hj]
  · rcases (show j = 0 ∨ j = 1 ∨ j = 2 ∨ j = 3 by omega) with e | e | e | e <;> subst e
    · rw [r0, if_neg (by omega)]
    · rw [r1, if_neg (by omega)]
    · rw [r2, if_neg (by omega)]
    · rw [r3, if_neg (by omega)]
theorem ccd_g {c : Nat} {d : Nat → Nat} (c1 : 1 ≤ c) (c4 : c ≤ 4) (h : ∀ j, j < c → d j < 4) : ccd c d < 4 ^ c ∧ ∀ j, j < c → dg c (ccd c d) j = d j := by
  rcases (show c = 1 ∨ c = 2 ∨ c = 3 ∨ c = 4 by omega) with e | e | e | e <;> subst e
  · have h0 := h 0 (by decide)
    have ec : ccd 1 d = d 0 := by
      show d 0 * 1 + 0 + 0 + 0 = _
      omega
    rw [ec]
    refine ⟨by omega, fun j hj => ?_⟩
    have e : j = 0 := by omega
    subst e
    show d 0 / 1 % 4 = d 0
    omega
  · have h0 := h 0 (by decide)
    have h1 := h 1 (by decide)
    have ec : ccd 2 d = d 0 * 4 + d 1 := by
      show d 0 * 4 + d 1 * 1 + 0 + 0 = _
      omega
    rw [ec]
    refine ⟨by omega, fun j hj => ?_⟩
    rcases (show j = 0 ∨ j = 1 by omega) with e | e <;> subst e
    · show (d 0 * 4 + d 1) / 4 % 4 = d 0
      omega
    · show (d 0 * 4 + d 1) / 1 % 4 = d 1
      omega
  · have h0 := h 0 (by decide)
    have h1 := h 1 (by decide)
    have h2 := h 2 (by decide)
    have ec : ccd 3 d = d 0 * 16 + d 1 * 4 + d 2 := by
      show d 0 * 16 + d 1 * 4 + d 2 * 1 + 0 = _
      omega
    rw [ec]
    refine ⟨by omega, fun j hj => ?_⟩
    rcases (show j = 0 ∨ j = 1 ∨ j = 2 by omega) with e | e | e <;> subst e
    · show (d 0 * 16 + d 1 * 4 + d 2) / 16 % 4 = d 0
      omega
    · show (d 0 * 16 + d 1 * 4 + d 2) / 4 % 4 = d 1
      omega
    · show (d 0 * 16 + d 1 * 4 + d 2) / 1 % 4 = d 2
      omega
  · have h0 := h 0 (by decide)
    have h1 := h 1 (by decide)
    have h2 := h 2 (by decide)
    have h3 := h 3 (by decide)
    have ec : ccd 4 d = d 0 * 64 + d 1 * 16 + d 2 * 4 + d 3 := by
      show d 0 * 64 + d 1 * 16 + d 2 * 4 + d 3 * 1 = _
      omega
    rw [ec]
    refine ⟨by omega, fun j hj => ?_⟩
    rcases (show j = 0 ∨ j = 1 ∨ j = 2 ∨ j = 3 by omega) with e | e | e | e <;> subst e
    · show (d 0 * 64 + d 1 * 16 + d 2 * 4 + d 3) / 64 % 4 = d 0
      omega
    · show (d 0 * 64 + d 1 * 16 + d 2 * 4 + d 3) / 16 % 4 = d 1
      omega
    · show (d 0 * 64 + d 1 * 16 + d 2 * 4 + d 3) / 4 % 4 = d 2
      omega
    · show (d 0 * 64 + d 1 * 16 + d 2 * 4 + d 3) / 1 % 4 = d 3
      omega
theorem lex4 {d0 d1 d2 d3 f0 f1 f2 f3 r0 r1 r2 r3 s0 s1 s2 s3 : Nat} (bd1 : d1 < 4) (bd2 : d2 < 4) (bd3 : d3 < 4) (bf1 : f1 < 4) (bf2 : f2 < 4) (bf3 : f3 < 4) (br1 : r1 < 9) (br2 : r2 < 9) (br3 : r3 < 9) (h0 : (d0 < f0 → r0 < s0) ∧ (d0 = f0 → r0 = s0)) (h1 : (d1 < f1 → r1 < s1) ∧ (d1 = f1 → r1 = s1)) (h2 : (d2 < f2 → r2 < s2) ∧ (d2 = f2 → r2 = s2)) (h3 : (d3 < f3 → r3 < s3) ∧ (d3 = f3 → r3 = s3)) (l : d0 * 64 + d1 * 16 + d2 * 4 + d3 < f0 * 64 + f1 * 16 + f2 * 4 + f3) : r0 * 729 + r1 * 81 + r2 * 9 + r3 < s0 * 729 + s1 * 81 + s2 * 9 + s3 := by
  rcases Nat.lt_trichotomy d0 f0 with q | q | q
  · have k := h0.1 q
    clear h0 h1 h2 h3 l
    omega
  · have k := h0.2 q
    clear h0
    rcases Nat.lt_trichotomy d1 f1 with q1 | q1 | q1
    · have k1 := h1.1 q1
      clear h1 h2 h3 l
      omega
    · have k1 := h1.2 q1
      clear h1
      rcases Nat.lt_trichotomy d2 f2 with q2 | q2 | q2
      · have k2 := h2.1 q2
        clear h2 h3 l
        omega
      · have k2 := h2.2 q2
        clear h2
        rcases Nat.lt_trichotomy d3 f3 with q3 | q3 | q3
        · have k3 := h3.1 q3
          clear h3 l
          omega
        · omega
        · clear h3
          omega
      · clear h2 h3
        omega
    · clear h1 h2 h3
      omega
  · clear h0 h1 h2 h3
    omega
theorem rg_s {R : Nat} (h : R < 6561) : rg R 0 * 729 + rg R 1 * 81 + rg R 2 * 9 + rg R 3 = R := by
  show R / 729 % 9 * 729 + R / 81 % 9 * 81 + R / 9 % 9 * 9 + R / 1 % 9 = R
  omega
theorem nil4 {r s : Nat} (h : r = 0) (h' : s = 0) : (0 < 0 → r < s) ∧ (0 = 0 → r = s) := ⟨fun z => absurd z (Nat.lt_irrefl 0), fun _ => h.trans h'.symm⟩
/-- codes rise alike: C by digits of c places -/
theorem rise {c C C' R R' : Nat} (c1 : 1 ≤ c) (c4 : c ≤ 4) (hC : C < 4 ^ c) (hC' : C' < 4 ^ c) (hR : R < 6561) (hR' : R' < 6561) (z : ∀ j, c ≤ j → j < 4 → rg R j = 0) (z' : ∀ j, c ≤ j → j < 4 → rg R' j = 0) (h : ∀ j, j < c → (dg c C j < dg c C' j → rg R j < rg R' j) ∧ (dg c C j = dg c C' j → rg R j = rg R' j)) (l : C < C') : R < R' := by
  rw [← rg_s hR, ← rg_s hR']
  rcases (show c = 1 ∨ c = 2 ∨ c = 3 ∨ c = 4 by omega) with e | e | e | e <;> subst e
  · have e1 : dg 1 C 0 = C := by show C / 1 % 4 = C; omega
    have e2 : dg 1 C' 0 = C' := by show C' / 1 % 4 = C'; omega
    exact lex4 (d0 := dg 1 C 0) (f0 := dg 1 C' 0) (d1 := 0) (d2 := 0) (d3 := 0) (f1 := 0) (f2 := 0) (f3 := 0) (by decide) (by decide) (by decide) (by decide) (by decide) (by decide) rg_9 rg_9 rg_9 (h 0 (by decide)) (nil4 (z 1 (by decide) (by decide)) (z' 1 (by decide) (by decide))) (nil4 (z 2 (by decide) (by decide)) (z' 2 (by decide) (by decide))) (nil4 (z 3 (by decide) (by decide)) (z' 3 (by decide) (by decide))) (by rw [e1, e2]; omega)
  · have e1 : dg 2 C 0 * 4 + dg 2 C 1 = C := by show C / 4 % 4 * 4 + C / 1 % 4 = C; omega
    have e2 : dg 2 C' 0 * 4 + dg 2 C' 1 = C' := by show C' / 4 % 4 * 4 + C' / 1 % 4 = C'; omega
    exact lex4 (d0 := dg 2 C 0) (f0 := dg 2 C' 0) (d1 := dg 2 C 1) (f1 := dg 2 C' 1) (d2 := 0) (d3 := 0) (f2 := 0) (f3 := 0) dg_4 (by decide) (by decide) dg_4 (by decide) (by decide) rg_9 rg_9 rg_9 (h 0 (by decide)) (h 1 (by decide)) (nil4 (z 2 (by decide) (by decide)) (z' 2 (by decide) (by decide))) (nil4 (z 3 (by decide) (by decide)) (z' 3 (by decide) (by decide))) (by omega)
  · have e1 : dg 3 C 0 * 16 + dg 3 C 1 * 4 + dg 3 C 2 = C := by show C / 16 % 4 * 16 + C / 4 % 4 * 4 + C / 1 % 4 = C; omega
    have e2 : dg 3 C' 0 * 16 + dg 3 C' 1 * 4 + dg 3 C' 2 = C' := by show C' / 16 % 4 * 16 + C' / 4 % 4 * 4 + C' / 1 % 4 = C'; omega
    exact lex4 (d0 := dg 3 C 0) (f0 := dg 3 C' 0) (d1 := dg 3 C 1) (f1 := dg 3 C' 1) (d2 := dg 3 C 2) (f2 := dg 3 C' 2) (d3 := 0) (f3 := 0) dg_4 dg_4 (by decide) dg_4 dg_4 (by decide) rg_9 rg_9 rg_9 (h 0 (by decide)) (h 1 (by decide)) (h 2 (by decide)) (nil4 (z 3 (by decide) (by decide)) (z' 3 (by decide) (by decide))) (by omega)
  · have e1 : dg 4 C 0 * 64 + dg 4 C 1 * 16 + dg 4 C 2 * 4 + dg 4 C 3 = C := by show C / 64 % 4 * 64 + C / 16 % 4 * 16 + C / 4 % 4 * 4 + C / 1 % 4 = C; omega
    have e2 : dg 4 C' 0 * 64 + dg 4 C' 1 * 16 + dg 4 C' 2 * 4 + dg 4 C' 3 = C' := by show C' / 64 % 4 * 64 + C' / 16 % 4 * 16 + C' / 4 % 4 * 4 + C' / 1 % 4 = C'; omega
    exact lex4 dg_4 dg_4 dg_4 dg_4 dg_4 dg_4 rg_9 rg_9 rg_9 (h 0 (by decide)) (h 1 (by decide)) (h 2 (by decide)) (h 3 (by decide)) (by rw [e1, e2]; exact l)
theorem mav_c {A : Nat → Nat → Int32} {n : Nat} {o o' : Nat → Nat} : ∀ c, (∀ j, j < c → o j = o' j) → MAV A n o c = MAV A n o' c ∧ PS o c = PS o' c := by
  intro c
  induction c with
  | zero => intro _; exact ⟨rfl, rfl⟩
  | succ c ih =>
    intro h
    obtain ⟨i1, i2⟩ := ih (fun j hj => h j (by omega))
    have e : PS o (c + 1) = PS o' (c + 1) := by
      show PS o c ||| 2 ^ o c = PS o' c ||| 2 ^ o' c
      rw [i2, h c (by omega)]
    refine ⟨?_, e⟩
    show MAV A n o c + DM A n (PS o (c + 1)) = MAV A n o' c + DM A n (PS o' (c + 1))
    rw [i1, e]
/-- the class's code's order as the reference's code -/
theorem to_R {n P c C : Nat} (hP : P < 2 ^ n) (n9 : n ≤ 9) (hc : pcn P n = c) (c4 : c ≤ 4) (v : VC c C) : ∃ R, R < 6561 ∧ VR P c R ∧ ∀ j, j < c → rg R j = tf P n (dg c C j) := by
  have hd := vc_d v
  obtain ⟨r1, r2, r3⟩ := rcd_g (c := c) (o := fun i => tf P n (dg c C i)) c4 (fun j hj => by have := (tf_1 (P := P) n (dg c C j) (by rw [hc]; exact hd j hj)).1; omega)
  refine ⟨_, r1, ⟨r3, ?_⟩, r2⟩
  rw [(mav_c (A := fun _ _ => 0) (n := n) c r2).2]
  refine nat_x (fun i => ?_)
  rw [PS_b]
  refine ⟨fun ⟨j, j1, j2⟩ => ?_, fun hi => ?_⟩
  · rw [← j2]
    exact (tf_1 n (dg c C j) (by rw [hc]; exact hd j j1)).2
  · have hn : i < n := by
      by_cases z : i < n
      · exact z
      · rw [Nat.testBit_lt_two_pow (Nat.lt_of_lt_of_le hP (Nat.pow_le_pow_right (by decide) (by omega)))] at hi
        exact absurd hi Bool.false_ne_true
    obtain ⟨k, k1, k2⟩ := tf_2 n i hn hi
    have b : (PS (dg c C) c).testBit k = true := by
      rw [show PS (dg c C) c = 2 ^ c - 1 from v, Nat.testBit_two_pow_sub_one]
      exact decide_eq_true (by omega)
    obtain ⟨j, j1, j2⟩ := (PS_b c k).mp b
    exact ⟨j, j1, by show tf P n (dg c C j) = i; rw [j2]; exact k2⟩
/-- the reference's code's order as the class's code -/
theorem to_C {n P c R : Nat} (hP : P < 2 ^ n) (n9 : n ≤ 9) (hc : pcn P n = c) (c1 : 1 ≤ c) (c4 : c ≤ 4) (v : VR P c R) : ∃ C, C < 4 ^ c ∧ VC c C ∧ ∀ j, j < c → rg R j = tf P n (dg c C j) := by
  have hn := vr_n v hP
  have ex : ∀ j, ∃ i, j < c → i < c ∧ tf P n i = rg R j := fun j => by
    by_cases hj : j < c
    · have b : P.testBit (rg R j) = true := by
        have b := (PS_b (o := rg R) c (rg R j)).mpr ⟨j, hj, rfl⟩
        rw [v.2] at b
        exact b
      obtain ⟨i, i1, i2⟩ := tf_2 n (rg R j) (hn j hj) b
      exact ⟨i, fun _ => ⟨by omega, i2⟩⟩
    · exact ⟨0, fun z => absurd z hj⟩
  obtain ⟨d, hd⟩ := Classical.skolem.mp ex
  obtain ⟨q1, q2⟩ := ccd_g (c := c) (d := d) c1 c4 (fun j hj => by have := (hd j hj).1; omega)
  refine ⟨_, q1, ?_, fun j hj => by rw [q2 j hj]; exact (hd j hj).2.symm⟩
  unfold VC
  rw [(mav_c (A := fun _ _ => 0) (n := n) c q2).2]
  refine nat_x (fun i => ?_)
  rw [PS_b, Nat.testBit_two_pow_sub_one]
  refine ⟨fun ⟨j, j1, j2⟩ => decide_eq_true (by have := (hd j j1).1; omega), fun hi => ?_⟩
  have ic := of_decide_eq_true hi
  obtain ⟨t1, t2⟩ := tf_1 (P := P) n i (by omega)
  have t3 : (PS (rg R) c).testBit (tf P n i) = true := by rw [v.2]; exact t2
  obtain ⟨j, j1, j2⟩ := (PS_b c _).mp t3
  refine ⟨j, j1, ?_⟩
  have k := (hd j j1).2
  have kc := (hd j j1).1
  by_cases w : d j < i
  · have := tf_3 (P := P) n (d j) i w (by omega)
    omega
  · by_cases w2 : i < d j
    · have := tf_3 (P := P) n i (d j) w2 (by omega)
      omega
    · omega
theorem ord_eq {A : Nat → Nat → Int32} {n P c b r : Nat} (hP : P < 2 ^ n) (n9 : n ≤ 9) (hc : pcn P n = c) (c1 : 1 ≤ c) (c4 : c ≤ 4) (hb : BST (VC c) (MCV A n P c) (4 ^ c) b) (hr : BST (VR P c) (MRV A n c) 6561 r) : MCV A n P c b = MRV A n c r ∧ ∀ j, j < c → rg r j = tf P n (dg c b j) := by
  obtain ⟨b1, b2, b3⟩ := hb
  obtain ⟨r1, r2, r3⟩ := hr
  obtain ⟨R, R1, R2, R3⟩ := to_R hP n9 hc c4 b2
  obtain ⟨C, C1, C2, C3⟩ := to_C hP n9 hc c1 c4 r2
  have eR : MRV A n c R = MCV A n P c b := (mav_c c R3).1
  have eC : MRV A n c r = MCV A n P c C := (mav_c c C3).1
  have l1 := (b3 C C1 C2).1
  have l2 := (r3 R R1 R2).1
  rw [eR, eC] at l2
  have k1 := Int64.le_iff_toInt_le.mp l1
  have k2 := Int64.le_iff_toInt_le.mp l2
  have em : MCV A n P c b = MCV A n P c C := Int64.toInt_inj.mp (by omega)
  have hv : ∀ C', VC c C' → ∀ j, j < c → dg c C' j < c := fun C' h => vc_d h
  have ri : ∀ D D', VC c D → VC c D' → ∀ j, j < c → (dg c D j < dg c D' j → tf P n (dg c D j) < tf P n (dg c D' j)) ∧ (dg c D j = dg c D' j → tf P n (dg c D j) = tf P n (dg c D' j)) := fun D D' h h' j hj => ⟨fun z => tf_3 n _ _ z (by rw [hc]; exact vc_d h' j hj), fun z => by rw [z]⟩
  have eb : b = C := by
    by_cases w : C < b
    · have k := Int64.lt_iff_toInt_lt.mp ((b3 C C1 C2).2 w)
      omega
    · by_cases w2 : b < C
      · have l : R < r := rise c1 c4 b1 C1 R1 r1 R2.1 r2.1 (fun j hj => by rw [R3 j hj, C3 j hj]; exact ri b C b2 C2 j hj) w2
        have k := (r3 R R1 R2).2 l
        rw [eR, eC] at k
        have k3 := Int64.lt_iff_toInt_lt.mp k
        omega
      · omega
  subst eb
  exact ⟨eC.symm, C3⟩
end
section
/-! may, order -/
theorem pcn_0 : ∀ k, k < 512 → (pcn k 9 = 0 ↔ k = 0) := by decide +kernel
theorem pcn_n {P n : Nat} (hP : P < 2 ^ n) : ∀ p, n ≤ p → pcn P p = pcn P n := by
  intro p
  induction p with
  | zero => intro h; rw [show n = 0 by omega]
  | succ p ih =>
    intro h
    by_cases y : n = p + 1
    · rw [y]
    · rw [pcn_s0 (by rw [Nat.testBit_lt_two_pow (Nat.lt_of_lt_of_le hP (Nat.pow_le_pow_right (by decide) (by omega)))]; exact Bool.false_ne_true)]
      exact ih (by omega)
theorem rr_w {y : MM} {n m j : Nat} {A : Nat → Nat → Int32} {sr cr : Nat → Int32} {z : Int32} (h : RR y n m A sr cr) (j1 : 22 ≠ j) (j2 : 26 ≠ j) (j3 : 27 ≠ j) : RR (ms y 162 j z) n m A sr cr := by
  obtain ⟨n9, m4, ma, aw, h26, h27, h1, hr⟩ := h
  exact ⟨n9, m4, ma_c ma (ms_i1 j1) (ms_c1 (by decide)), aw, by rw [ms_i1 j2]; exact h26, by rw [ms_i1 j3]; exact h27, by rw [ms_c1 (by decide)]; exact h1, by rw [ms_c1 (by decide)]; exact hr⟩
theorem cf_Y {u v : MM} {g g' : GG} {hill plan ponds : Int32} (h : RLY u v) (b5 : Bd 0 2 (u 1 5)) (b7 : Bd 0 3 (u 1 7)) (hd : HD v) (pl : PL v) : ∃ b x y, Fx_P_canFillX hill plan ponds u g = (b, x) ∧ Fx_M_isFilledX hill plan ponds (ms v 162 0 0) g' = (b, y) ∧ (b = true → ∃ n m k, LDF x y n m ∧ k < 2 ^ n ∧ ponds = iN k ∧ 1 ≤ pcn k n ∧ pcn k n ≤ 4 ∧ onesN ponds 9 = iN (pcn k n)) := by
  obtain ⟨b, x, y, p1, p2, p3⟩ := lay_Y (g := g) (g' := g') (hill := hill) (plan := plan) h b5 b7 hd pl
  unfold Fx_P_canFillX Fx_M_isFilledX
  rw [p1, p2, c2_mk, c2_mk]
  cases b
  · rw [if_neg Bool.false_ne_true, if_neg Bool.false_ne_true]
    exact ⟨false, x, y, rfl, rfl, fun z => absurd z Bool.false_ne_true⟩
  obtain ⟨n, m, L⟩ := p3 rfl
  have n9 := L.1
  have pn := p2_le n9
  obtain ⟨s, s1, s2, s3⟩ := q_set (g := g) (g' := g') (s := ponds) L
  rw [if_pos rfl, if_pos rfl, xqb (x := Fx_H_hasSetX ponds 44 x g), s1, xqb (x := Fx_M_arePondsX ponds y g'), s2]
  cases s
  · rw [if_neg Bool.false_ne_true, if_neg Bool.false_ne_true]
    exact ⟨false, x, y, rfl, rfl, fun z => absurd z Bool.false_ne_true⟩
  obtain ⟨k, k1, k2⟩ := s3 rfl
  obtain ⟨o1, o2⟩ := pcn_o k (by omega)
  have k0 := pcn_0 k (by omega)
  have e9 := pcn_n k1 9 n9
  have ee : (decide ((1 : Int32) ≤ iN (pcn k 9)) && decide (iN (pcn k 9) ≤ (4 : Int32))) = (decide (1 ≤ pcn k 9) && decide (pcn k 9 ≤ 4)) := by
    have h1 : (1 : Int32) ≤ iN (pcn k 9) ↔ 1 ≤ pcn k 9 := iN_le (a := 1) (by omega) (by omega)
    have h2 : iN (pcn k 9) ≤ (4 : Int32) ↔ pcn k 9 ≤ 4 := iN_le (b := 4) (by omega) (by omega)
    rw [decide_eq_decide.mpr h1, decide_eq_decide.mpr h2]
  rw [if_pos rfl, if_pos rfl, xqb (x := Fx_M_inEX (onesN ponds 9) 1 4 y g'), in_X, k2, o1, ee]
  by_cases z : k = 0
  · have pz : pcn k 9 = 0 := k0.mpr z
    rw [if_pos (show iN k = 0 by rw [z]; rfl), pz, if_neg (show ¬ (decide (1 ≤ 0) && decide (0 ≤ 4)) = true by decide)]
    exact ⟨false, x, y, rfl, rfl, fun z => absurd z Bool.false_ne_true⟩
  have nz : ¬ pcn k 9 = 0 := fun w => z (k0.mp w)
  rw [if_neg (show ¬ iN k = 0 from fun w => z ((iN_eq (b := 0) (by omega) (by omega)).mp w)), xqb (x := Fx_bitCountX (iN k) x g), bc_e (v := x) k (by omega), o1, decide_eq_true (show 1 ≤ pcn k 9 by omega), Bool.true_and]
  have hl : (4 : Int32) < iN (pcn k 9) ↔ 4 < pcn k 9 := iN_lt (a := 4) (by omega) (by omega)
  by_cases w : pcn k 9 ≤ 4
  · rw [if_neg (fun q => by have := hl.mp q; omega), if_pos (decide_eq_true w)]
    exact ⟨true, x, y, rfl, rfl, fun _ => ⟨n, m, k, L, k1, rfl, by omega, by omega, by rw [e9]⟩⟩
  · rw [if_pos (hl.mpr (by omega)), if_neg (fun q => w (of_decide_eq_true q))]
    exact ⟨false, x, y, rfl, rfl, fun z => absurd z Bool.false_ne_true⟩
theorem rfo_X {y : MM} {g : GG} {A : Nat → Nat → Int32} {n m P c : Nat} {sr cr : Nat → Int32} {cn : Nat → Nat} (rr : RR y n m A sr cr) (hr : ∀ r, r < m → cr r = iN (cn r) ∧ cn r ≤ 100) (hs : sN cn m = 100) (hP : P < 2 ^ n) (hc : pcn P n = c) (c1 : 1 ≤ c) (c4 : c ≤ 4) (hon : onesN (iN P) 9 = iN c) : ∃ y' g' r, Fx_M_findOrderX (iN P) y g = (y', g') ∧ BST (VR P c) (MRV A n c) 6561 r ∧ g' 162 40 = MRV A n c r ∧ ∀ i, i < c → y' 180 i = iN (rg r i) := by
  have n9 := rr.1
  unfold Fx_M_findOrderX
  have e : (6561 - (0 : Int32).toInt).toNat + 1 = 6562 := by decide
  rw [xqb, e]
  obtain ⟨y', g', fd', k1, K', k2⟩ := fo_R hr hs n9 hP c4 hon 6562 0 0 (ms y 162 39 (onesN (iN P) 9)) g (by omega) (Nat.zero_le _) ⟨rr_w rr (by decide) (by decide) (by decide), Or.inl ⟨rfl, fun D hD => absurd hD (Nat.not_lt_zero D)⟩⟩
  rcases k2 with ⟨s1, s2⟩ | ⟨s1, b, s2, s3, s4⟩
  · obtain ⟨C, v1, v2⟩ := vc_e c c1 c4
    obtain ⟨R, R1, R2, -⟩ := to_R hP n9 hc c4 v2
    exact absurd R2 (s2 R R1)
  · exact ⟨y', g', b, k1, s2, s3, s4⟩
theorem R5_order {u v u1 v2 : MM} {g g' g1 g3 : GG} {hill plan ponds k z w : Int32} (h : RLY u v) (b5 : Bd 0 2 (u 1 5)) (b7 : Bd 0 3 (u 1 7)) (hd : HD v) (pl : PL v) (e1 : (z, u1, g1) = Fx_P_orderX hill plan ponds k u g) (e2 : (w, v2, g3) = Fx_M_orderX hill plan ponds k v g') : z = w := by
  obtain ⟨b, x, y, p1, p2, p3⟩ := cf_Y (g := g) (g' := g') (hill := hill) (plan := plan) (ponds := ponds) h b5 b7 hd pl
  unfold Fx_P_orderX at e1
  unfold Fx_M_orderX at e2
  rw [p1, c2_mk] at e1
  rw [xqb, p2, c2_mk] at e2
  cases b
  · rw [if_neg Bool.false_ne_true] at e1 e2
    exact (congrArg Prod.fst e1).trans (congrArg Prod.fst e2).symm
  obtain ⟨n, m, P, L, hP, eP, c1, c4, hon⟩ := p3 rfl
  rw [eP] at e1 e2 hon
  have n9 := L.1
  have pn := p2_le n9
  have aw := L.2.2.2.2.2.1
  have rr := rr_L L
  obtain ⟨hr, hs⟩ := cN_s L
  have l0 : (0 : Int32).toInt = 0 := rfl
  have ec : iN (pcn P n) - 1 = iN (pcn P n - 1) := iN_sub (a := pcn P n) (b := 1) c1
  have lc : (iN (pcn P n - 1)).toInt = ((pcn P n - 1 : Nat) : Int) := iN_ti (by omega)
  have lc2 : (iN (pcn P n)).toInt = ((pcn P n : Nat) : Int) := iN_ti (by omega)
  rw [if_pos rfl] at e1
  rw [if_pos rfl, xqb, in_X, hon, ec] at e2
  by_cases k0 : k.toInt < 0
  · rw [if_pos (ltI (by omega))] at e1
    rw [(Bool.not_eq_true _).mp (inF (v := k) (lo := 0) (hi := iN (pcn P n - 1)) (by omega)), if_neg Bool.false_ne_true] at e2
    exact (congrArg Prod.fst e1).trans (congrArg Prod.fst e2).symm
  rw [if_neg (nltI (by omega)), xqb, bc_e (v := x) P (by omega), hon] at e1
  by_cases kc : k.toInt < pcn P n
  rotate_left
  · rw [if_neg (nltI (by omega))] at e1
    rw [(Bool.not_eq_true _).mp (inF (v := k) (lo := 0) (hi := iN (pcn P n - 1)) (by omega)), if_neg Bool.false_ne_true] at e2
    exact (congrArg Prod.fst e1).trans (congrArg Prod.fst e2).symm
  obtain ⟨q, eq, q9⟩ := iN_ex (hi := 9) (show Bd 0 9 k from ⟨by omega, by omega⟩)
  have qc : q < pcn P n := by
    rw [eq, iN_ti (by omega)] at kc
    omega
  obtain ⟨x1, g2, k1, K⟩ := lf_X (g := g) L.2.2.2.1 (rns_L L) aw n9 L.2.2.1 (show P < 512 by omega) c4
  obtain ⟨x2, g4, bb, q1, K2, q3, q4, q5⟩ := fo_X K c1 c4
  obtain ⟨y2, g5, r, r1, r2, r3, r4⟩ := rfo_X (g := g') rr hr hs hP rfl c1 c4 hon
  have eo := (ord_eq hP n9 rfl c1 c4 q3 r2).2 q qc
  have dq := vc_d q3.2.1 q qc
  have fa : Fx_C_filledAtX (iN q) x2 g4 = iN (tf P n (dg (pcn P n) bb q)) := by
    unfold Fx_C_filledAtX
    rw [if_neg (show ¬ iN q < (0 : Int32) from fun z => by have := (iN_lt (b := 0) (by omega) (by omega)).mp z; omega), K2.1, if_neg (fun z => by have := (iN_le (by omega) (by omega)).mp z; omega), xqb, xqb, iN_cl (by omega), q5 q qc, iN_cl (by omega)]
    exact K2.2.1 _ dq
  rw [if_pos (ltI (by omega)), k1, c2_mk, q1, c2_mk, xqb, eq, fa] at e1
  rw [inT (by omega) (by omega), if_pos rfl, r1, c2_mk, xqb, eq, iN_cl (by omega), r4 q qc, eo] at e2
  exact (congrArg Prod.fst e1).trans (congrArg Prod.fst e2).symm
end
