section
/-! sets, weights, sums over storms -/
theorem inN : ∀ k, k < 512 → ∀ q, q < 9 → inB (iN k) q = k.testBit q := by decide +kernel
/-- the set of the first ponds that f tells -/
def bset (f : Nat → Bool) : Nat → Nat
  | 0 => 0
  | p + 1 => if f p = true then bset f p + 2 ^ p else bset f p
theorem bset_lt {f : Nat → Bool} : ∀ p, bset f p < 2 ^ p := by
  intro p
  induction p with
  | zero => exact (by decide : (0 : Nat) < 2 ^ 0)
  | succ p ih =>
    show (if f p = true then bset f p + 2 ^ p else bset f p) < 2 ^ (p + 1)
    rw [Nat.pow_succ]
    split <;> omega
theorem tb_add {k p q : Nat} (hk : k < 2 ^ p) (hq : q ≤ p) : (k + 2 ^ p).testBit q = if q = p then true else k.testBit q := by
  rw [Nat.add_comm]
  by_cases y : q = p
  · rw [if_pos y, y, Nat.testBit_two_pow_add_eq, Nat.testBit_lt_two_pow hk]
    rfl
  · rw [if_neg y, Nat.testBit_two_pow_add_gt (by omega)]
theorem bset_b {f : Nat → Bool} : ∀ p q, q < p → (bset f p).testBit q = f q := by
  intro p
  induction p with
  | zero => intro q h; omega
  | succ p ih =>
    intro q h
    show (if f p = true then bset f p + 2 ^ p else bset f p).testBit q = f q
    by_cases y : q = p
    · rw [y]
      by_cases w : f p = true
      · rw [if_pos w, tb_add (bset_lt p) (Nat.le_refl p), if_pos rfl, w]
      · rw [if_neg w, Nat.testBit_lt_two_pow (bset_lt p), (Bool.not_eq_true _).mp w]
    · by_cases w : f p = true
      · rw [if_pos w, tb_add (bset_lt p) (by omega), if_neg y]
        exact ih q (by omega)
      · rw [if_neg w]
        exact ih q (by omega)
theorem bset_or {f : Nat → Bool} {p : Nat} (hp : p < 9) : iN (bset f p) ||| bt p = iN (bset f p + 2 ^ p) := by
  have h3 := p2_le (p := p) (by omega)
  have h4 := bset_lt (f := f) p
  exact (bits9 p hp _ (by omega) h4).2.2
/-- a set within another one -/
theorem sub_0 {b w n : Nat} (hb : b < 2 ^ n) (n9 : n ≤ 9) (h : ∀ p, p < n → b.testBit p = true → w.testBit p = true) : iN b &&& (iN w ^^^ (-1)) = 0 := by
  refine Int32.toBitVec_inj.mp ?_
  rw [Int32.toBitVec_and, Int32.toBitVec_xor]
  show BitVec.ofNat 32 b &&& (BitVec.ofNat 32 w ^^^ BitVec.allOnes 32) = BitVec.ofNat 32 0
  refine BitVec.eq_of_getLsbD_eq (fun i hi => ?_)
  rw [BitVec.getLsbD_and, BitVec.getLsbD_xor, BitVec.getLsbD_ofNat, BitVec.getLsbD_ofNat, BitVec.getLsbD_ofNat, BitVec.getLsbD_allOnes, decide_eq_true hi, Nat.zero_testBit]
  by_cases y : b.testBit i = true
  · have hn : i < n := by
      by_cases z : i < n
      · exact z
      · rw [Nat.testBit_lt_two_pow (Nat.lt_of_lt_of_le hb (Nat.pow_le_pow_right (by decide) (by omega)))] at y
        exact absurd y (by decide)
    rw [h i hn y, y]
    rfl
  · rw [(Bool.not_eq_true _).mp y]
    rfl
/-! weights -/
def fac (ch : Nat → Int32) (b p : Nat) : Int64 := (if b.testBit p = true then ch p else 10 - ch p).toInt64
def wB (ch : Nat → Int32) (b : Nat) : Nat → Int64
  | 0 => 1
  | p + 1 => wB ch b p * fac ch b p
def prB (ch : Nat → Int32) (b : Nat) (c : Int64) : Nat → Int64
  | 0 => c
  | p + 1 => prB ch b c p * fac ch b p
theorem prB_e {ch : Nat → Int32} {b : Nat} {c : Int64} : ∀ p, prB ch b c p = wB ch b p * c := by
  intro p
  induction p with
  | zero =>
    show c = 1 * c
    rw [Int64.one_mul]
  | succ p ih =>
    show prB ch b c p * fac ch b p = wB ch b p * fac ch b p * c
    rw [ih, Int64.mul_assoc, Int64.mul_assoc, Int64.mul_comm c]
theorem wB_c {ch ch2 : Nat → Int32} {b b2 : Nat} : ∀ p, (∀ q, q < p → ch q = ch2 q ∧ b.testBit q = b2.testBit q) → wB ch b p = wB ch2 b2 p := by
  intro p
  induction p with
  | zero => intro _; rfl
  | succ p ih =>
    intro h
    obtain ⟨h1, h2⟩ := h p (by omega)
    show wB ch b p * fac ch b p = wB ch2 b2 p * fac ch2 b2 p
    unfold fac
    rw [ih (fun q hq => h q (by omega)), h1, h2]
theorem wB_0 {ch : Nat → Int32} {b q : Nat} (hq : b.testBit q = true) (h0 : ch q = 0) : ∀ p, q < p → wB ch b p = 0 := by
  intro p
  induction p with
  | zero => intro h; omega
  | succ p ih =>
    intro h
    show wB ch b p * fac ch b p = 0
    by_cases y : q = p
    · subst y
      unfold fac
      rw [if_pos hq, h0]
      exact Int64.mul_zero
    · rw [ih (by omega)]
      exact Int64.zero_mul
/-! sums over storms -/
def fB {α : Type} (F : Nat → α → α) : Nat → α → α
  | 0, a => a
  | b + 1, a => F b (fB F b a)
def fR {α : Type} (F : Nat → Nat → α → α) (N : Nat) : Nat → α → α
  | 0, a => a
  | r + 1, a => fB (F r) N (fR F N r a)
theorem fB_c {α : Type} {F G : Nat → α → α} : ∀ (n : Nat) (a : α), (∀ b a, b < n → F b a = G b a) → fB F n a = fB G n a := by
  intro n
  induction n with
  | zero => intro a _; rfl
  | succ n ih =>
    intro a h
    show F n (fB F n a) = G n (fB G n a)
    rw [ih a (fun b a hb => h b a (by omega)), h n _ (by omega)]
theorem fR_c {α : Type} {F G : Nat → Nat → α → α} {N : Nat} : ∀ (m : Nat) (a : α), (∀ r b a, r < m → b < N → F r b a = G r b a) → fR F N m a = fR G N m a := by
  intro m
  induction m with
  | zero => intro a _; rfl
  | succ m ih =>
    intro a h
    show fB (F m) N (fR F N m a) = fB (G m) N (fR G N m a)
    rw [ih a (fun r b a hr hb => h r b a (by omega) hb)]
    exact fB_c N _ (fun b a hb => h m b a (by omega) hb)
/-! a storm does not hang on the chances -/
end
section
/-! the class's weights, and what hangs on them -/
theorem zl_c {g : GG} {a b i : Nat} {x : Int64} (h : b ≠ a) : ml g a i x b = g b := if_neg h
theorem zl_i {g : GG} {a i j : Nat} {x : Int64} (h : j ≠ i) : ml g a i x a j = g a j := by
  unfold ml
  rw [if_pos rfl]
  unfold vp_updL
  rw [if_neg h]
theorem btE {p : Nat} (hp : p < 10) : bt p = iN (2 ^ p) := (all_e p hp).2.1
theorem we_I {ih : Int32 → GG → GG} {p : Nat} {ch : Nat → Int32} {c : Int32} (hp : p < 9) (hc : ch p = c) : ∀ (f s : Nat) (g : GG), 2 ^ p - s < f → s ≤ 2 ^ p → (∀ b, b < 2 ^ p → g 68 b = if b < s then wB ch b p * (10 - c).toInt64 else wB ch b p) → (∀ b, b < s → g 68 (b + 2 ^ p) = wB ch b p * c.toInt64) → ∃ g', Fx_O_weighX_L64 ih (iN p) c (bt p) f (iN s) g = ih (iN (p + 1)) g' ∧ (∀ b, b < 2 ^ (p + 1) → g' 68 b = wB ch b (p + 1)) ∧ ∀ a, a ≠ 68 → g' a = g a := by
  have h3 := p2_le (p := p) (by omega)
  intro f
  induction f with
  | zero => intro s g h; omega
  | succ f ih' =>
    intro s g h1 h2 k1 k2
    rw [Fx_O_weighX_L64_s, btE (by omega), iN_s]
    by_cases q : 2 ^ p ≤ s
    · rw [if_pos ((iN_le (by omega) (by omega)).mpr q)]
      refine ⟨g, rfl, fun b hb => ?_, fun _ _ => rfl⟩
      rw [Nat.pow_succ] at hb
      show g 68 b = wB ch b p * fac ch b p
      unfold fac
      by_cases y : b < 2 ^ p
      · rw [k1 b y, if_pos (by omega), Nat.testBit_lt_two_pow y, if_neg (by decide), hc]
      · obtain ⟨d, hd⟩ : ∃ d, b = d + 2 ^ p := ⟨b - 2 ^ p, by omega⟩
        have hd2 : d < 2 ^ p := by omega
        rw [hd, k2 d (by omega), tb_add hd2 (Nat.le_refl p), if_pos rfl, if_pos rfl, hc, wB_c (ch2 := ch) (b := d + 2 ^ p) (b2 := d) p (fun q hq => ⟨rfl, by rw [tb_add hd2 (by omega), if_neg (by omega)]⟩)]
    · have e1 : iN s ||| iN (2 ^ p) = iN (s + 2 ^ p) := by
        rw [← btE (p := p) (by omega)]
        exact (bits9 p hp s (by omega) (by omega)).2.2
      rw [if_neg (fun z => q ((iN_le (by omega) (by omega)).mp z)), xqb, xqb, xqb, xqb, xqb, xqb, xqb, xqb, e1, iN_cl (by omega), iN_cl (by omega), zl_i (j := s) (i := s + 2 ^ p) (by have := Nat.two_pow_pos p; omega), k1 s (by omega), if_neg (Nat.lt_irrefl s), iN_s]
      obtain ⟨g', g1, g2, g3⟩ := ih' (s + 1) (ml (ml g 68 (s + 2 ^ p) (wB ch s p * c.toInt64)) 68 s (wB ch s p * (10 - c).toInt64)) (by omega) (by omega) (fun b hb => by
        by_cases y : b = s
        · rw [y, ml_e, if_pos (by omega)]
        · rw [zl_i y, zl_i (by omega), k1 b hb]
          by_cases w : b < s
          · rw [if_pos w, if_pos (by omega)]
          · rw [if_neg w, if_neg (by omega)]) (fun b hb => by
        rw [zl_i (by omega)]
        by_cases y : b = s
        · rw [y, ml_e]
        · rw [zl_i (by omega)]
          exact k2 b (by omega))
      rw [btE (by omega)] at g1
      exact ⟨g', g1, g2, fun a ha => by rw [g3 a ha, zl_c ha, zl_c ha]⟩
/-- chances with some mended, some weaker -/
def chM (A : Nat → Nat → Int32) (mended weaker : Int32) (p : Nat) : Int32 := if inB mended p = true then 0 else A p 4 + (if inB weaker p = true then 1 else 0)
theorem we_L {u : MM} {n : Nat} {A : Nat → Nat → Int32} {md wk : Int32} (h : HA u 61 n A) (n9 : n ≤ 9) : ∀ (f p : Nat) (g : GG), n - p < f → p ≤ n → (∀ b, b < 2 ^ p → g 68 b = wB (chM A md wk) b p) → ∃ g', Fx_O_weighX_L9 md wk u f (iN p) g = g' ∧ (∀ b, b < 2 ^ n → g' 68 b = wB (chM A md wk) b n) ∧ ∀ a, a ≠ 68 → g' a = g a := by
  intro f
  induction f with
  | zero => intro p g h1; omega
  | succ f ih =>
    intro p g h1 h2 k
    rw [Fx_O_weighX_L9_s, h.1]
    by_cases q : n ≤ p
    · have e : p = n := by omega
      subst e
      rw [if_pos (Int32.le_refl _)]
      exact ⟨g, rfl, k, fun _ _ => rfl⟩
    · have hp : p < n := by omega
      rw [if_neg (fun z => q ((iN_le (by omega) (by omega)).mp z)), if_neg (show ¬ (9 : Int32) ≤ iN p from fun z => by have := (iN_le (a := 9) (by omega) (by omega)).mp z; omega), xqb, isI, heard_e, show hof u 61 (iN p) (4 : Int32) = A p 4 from ha_r (c := 4) h n9 hp (by decide)]
      have J : ∀ c : Int32, chM A md wk p = c → ∃ g', Fx_O_weighX_J53 (Fx_O_weighX_L9 md wk u f) u (iN p) g c = g' ∧ (∀ b, b < 2 ^ n → g' 68 b = wB (chM A md wk) b n) ∧ ∀ a, a ≠ 68 → g' a = g a := by
        intro c hc
        unfold Fx_O_weighX_J53
        have e257 : (256 - (0 : Int32).toInt).toNat + 1 = 257 := by decide
        have hpp : 2 ^ p ≤ 2 ^ 8 := Nat.pow_le_pow_right (by decide) (by omega)
        rw [xqb, b9I (by omega), e257]
        obtain ⟨g1, a1, a2, a3⟩ := we_I (ih := Fx_O_weighX_L9 md wk u f) (p := p) (ch := chM A md wk) (by omega) hc 257 0 g (by omega) (Nat.zero_le _) (fun b hb => by rw [if_neg (by omega)]; exact k b hb) (fun b hb => by omega)
        have a1' : Fx_O_weighX_L64 (Fx_O_weighX_L9 md wk u f) (iN p) c (bt p) 257 0 g = Fx_O_weighX_L9 md wk u f (iN (p + 1)) g1 := a1
        rw [a1']
        obtain ⟨g2, b1, b2, b3⟩ := ih (p + 1) g1 (by omega) (by omega) a2
        exact ⟨g2, b1, b2, fun a ha => (b3 a ha).trans (a3 a ha)⟩
      by_cases y : inB md p = true
      · rw [if_pos y]
        exact J 0 (by unfold chM; rw [if_pos y])
      · rw [if_neg y]
        exact J _ (by unfold chM; rw [if_neg y])
theorem we_X {u : MM} {g : GG} {n : Nat} {A : Nat → Nat → Int32} {md wk : Int32} (h : HA u 61 n A) (n9 : n ≤ 9) : ∃ g', Fx_O_weighX md wk u g = g' ∧ (∀ b, b < 2 ^ n → g' 68 b = wB (chM A md wk) b n) ∧ ∀ a, a ≠ 68 → g' a = g a := by
  unfold Fx_O_weighX
  have e10 : (9 - (0 : Int32).toInt).toNat + 1 = 10 := by decide
  rw [xqb, e10]
  obtain ⟨g', g1, g2, g3⟩ := we_L (md := md) (wk := wk) h n9 10 0 (ml g 68 0 1) (by omega) (by omega) (fun b hb => by
    have e : b = 0 := by rw [Nat.pow_zero] at hb; omega
    rw [e, ml_e]
    rfl)
  exact ⟨g', g1, g2, fun a ha => (g3 a ha).trans (zl_c ha)⟩
/-- the class's odds are ready: storms of banks within mg -/
def OK (x : MM) (g : GG) (n m : Nat) (A : Nat → Nat → Int32) (sr cr : Nat → Int32) (mg : Int32) (ch : Nat → Int32) : Prop := n ≤ 9 ∧ m ≤ 4 ∧ HA x 61 n A ∧ x 61 2 = iN m ∧ (∀ i, i < m → x 63 i = sr i ∧ x 64 i = cr i) ∧ (∀ s, s < 2 ^ n → x 67 s = hrm A (iN s) n) ∧ (∀ r b, r < m → b < 2 ^ n → iN b &&& (mg ^^^ (-1)) = 0 → x 66 (512 * r + b) = (stN A n (sr r) (iN b) (-1) n).1) ∧ ∀ b, b < 2 ^ n → g 68 b = wB ch b n
theorem stm_X {x : MM} {g : GG} {r b : Nat} (hr : r < 4) (hb : b < 512) : Fx_O_isStormX (iN r) (iN b) x g = true := by
  unfold Fx_O_isStormX
  rw [if_neg (show ¬ iN r < (0 : Int32) from fun z => by have := (iN_lt (b := 0) (by omega) (by omega)).mp z; omega), if_neg (show ¬ (4 : Int32) ≤ iN r from fun z => by have := (iN_le (a := 4) (by omega) (by omega)).mp z; omega), if_neg (show ¬ iN b < (0 : Int32) from fun z => by have := (iN_lt (b := 0) (by omega) (by omega)).mp z; omega), if_neg (show ¬ (512 : Int32) ≤ iN b from fun z => by have := (iN_le (a := 512) (by omega) (by omega)).mp z; omega)]
theorem par_X {x : MM} {g : GG} {n m r b : Nat} {A : Nat → Nat → Int32} {sr cr ch : Nat → Int32} {mg : Int32} (h : OK x g n m A sr cr mg ch) (hr : r < m) (hb : b < 2 ^ n) : Fx_O_partsX (iN r) (iN b) x g = wB ch b n * (cr r).toInt64 := by
  obtain ⟨n9, m4, ha, h1, h2, h3, h4, h5⟩ := h
  have p2 := p2_le n9
  unfold Fx_O_partsX Fx_H_chanceOfX
  rw [xqb, stm_X (by omega) (by omega), if_pos rfl, xqb, xqb, xqb, xqb, iN_cl (by omega), h5 b hb, if_neg (show ¬ iN r < (0 : Int32) from fun z => by have := (iN_lt (b := 0) (by omega) (by omega)).mp z; omega), h1, if_neg (fun z => by have := (iN_le (by omega) (by omega)).mp z; omega), xqb, iN_cl (by omega), show x (61 + 3) r = cr r from (h2 r hr).2]
theorem wen_X {x : MM} {g : GG} {n m r b : Nat} {A : Nat → Nat → Int32} {sr cr ch : Nat → Int32} {mg : Int32} (h : OK x g n m A sr cr mg ch) (hr : r < m) (hb : b < 2 ^ n) (hg : iN b &&& (mg ^^^ (-1)) = 0) : Fx_O_wentByX (iN r) (iN b) x g = (stN A n (sr r) (iN b) (-1) n).1 := by
  obtain ⟨n9, m4, ha, h1, h2, h3, h4, h5⟩ := h
  have p2 := p2_le n9
  unfold Fx_O_wentByX
  have e : ((iN r * 512) + iN b).toNatClampNeg = 512 * r + b := by
    show (iN r * iN 512 + iN b).toNatClampNeg = _
    rw [iN_m, iN_a, iN_cl (by omega)]
    omega
  rw [xqb, stm_X (by omega) (by omega), if_pos rfl, xqb, e]
  exact h4 r b hr hb hg
/-- banks of storms that have parts can go -/
def SUP (n : Nat) (mg : Int32) (ch : Nat → Int32) : Prop := ∀ b, b < 2 ^ n → ¬ wB ch b n = 0 → iN b &&& (mg ^^^ (-1)) = 0
theorem sup_p {n b : Nat} {mg : Int32} {ch : Nat → Int32} {c : Int64} (h : SUP n mg ch) (hb : b < 2 ^ n) (q : ¬ lg_cmp (wB ch b n * c) (0 : Int64) ≤ 0) : iN b &&& (mg ^^^ (-1)) = 0 := by
  refine h b hb (fun z => q ?_)
  rw [z, Int64.zero_mul]
  exact (lg_cmp_le _ _).mpr (Int64.le_refl _)
end
section
/-! all storms of the hill in cell 44: the class's look -/
theorem lh44_L {u2 : MM} {g : GG} {n : Nat} {A : Nat → Nat → Int32} {kp mg : Int32} (n9 : n ≤ 9) : ∀ (f s : Nat) (x : MM), 2 ^ n - s < f → s ≤ 2 ^ n → HA x 61 n A → (∀ t, t < s → x 67 t = hrm A (iN t) n) → ∃ y, Fx_O_look_44X_L11 kp mg g u2 f (iN s) x = Fx_O_look_44X_L56 kp mg g u2 5 (iN 0) y ∧ (∀ t, t < 2 ^ n → y 67 t = hrm A (iN t) n) ∧ ∀ c, c ≠ 67 → y c = x c := by
  have p2 := p2_le n9
  have pp := Nat.two_pow_pos n
  intro f
  induction f with
  | zero => intro s x h; omega
  | succ f ih =>
    intro s x h1 h2 ha k
    rw [Fx_O_look_44X_L11_s, all_X ha.1 n9, xqb]
    by_cases q : 2 ^ n ≤ s
    · have e5 : (4 - (0 : Int32).toInt).toNat + 1 = 5 := by decide
      rw [if_pos ((iN_lt (by omega) (by omega)).mpr (by omega)), e5]
      exact ⟨x, rfl, fun t ht => k t (by omega), fun _ _ => rfl⟩
    · rw [if_neg (fun z => by have := (iN_lt (by omega) (by omega)).mp z; omega), if_neg (show ¬ (512 : Int32) ≤ iN s from fun z => by have := (iN_le (a := 512) (by omega) (by omega)).mp z; omega), hm_X ha n9, xqb, xqb, iN_cl (by omega), iN_s]
      obtain ⟨y, y1, y2, y3⟩ := ih (s + 1) (ms x 67 s (hrm A (iN s) n)) (by omega) (by omega) (ha_c ha (ms_c1 (by decide)) (ms_c1 (by decide))) (fun t ht => by
        by_cases w : t = s
        · rw [w, ms_e1]
        · rw [ms_i1 w]; exact k t (by omega))
      exact ⟨y, y1, y2, fun c hc => (y3 c hc).trans (ms_c1 hc)⟩
/-- which storms are known -/
def KN44 (x : MM) (A : Nat → Nat → Int32) (n : Nat) (sr : Nat → Int32) (mg : Int32) (R B : Nat) : Prop := ∀ r b, b < 2 ^ n → r < R ∨ (r = R ∧ b < B) → iN b &&& (mg ^^^ (-1)) = 0 → x 66 (512 * r + b) = (stN A n (sr r) (iN b) (-1) n).1
theorem lb44_L {ih : Int32 → MM → MM × GG} {g : GG} {n m r : Nat} {A : Nat → Nat → Int32} {sr : Nat → Int32} {mg : Int32} (n9 : n ≤ 9) (m4 : m ≤ 4) (hr : r < m) : ∀ (f b : Nat) (x : MM), 2 ^ n - b < f → b ≤ 2 ^ n → HA x 61 n A → x 61 2 = iN m → x 63 r = sr r → KN44 x A n sr mg r b → ∃ y, Fx_O_look_44X_L77 ih (-1) mg g (iN r) f (iN b) x = ih (iN (r + 1)) y ∧ KN44 y A n sr mg (r + 1) 0 ∧ ∀ c, c < 58 ∨ 60 < c → c ≠ 66 → y c = x c := by
  have p2 := p2_le n9
  have pp := Nat.two_pow_pos n
  intro f
  induction f with
  | zero => intro b x h; omega
  | succ f ihf =>
    intro b x h1 h2 ha hm hs k
    rw [Fx_O_look_44X_L77_s, all_X ha.1 n9, xqb, iN_s]
    by_cases q : 2 ^ n ≤ b
    · rw [if_pos ((iN_lt (by omega) (by omega)).mpr (by omega))]
      refine ⟨x, rfl, fun r' b' hb' ho hg => ?_, fun _ _ _ => rfl⟩
      exact k r' b' hb' (by omega) hg
    · unfold Fx_O_look_44X_J150
      rw [if_neg (fun z => by have := (iN_lt (by omega) (by omega)).mp z; omega), if_neg (show ¬ (512 : Int32) ≤ iN b from fun z => by have := (iN_le (a := 512) (by omega) (by omega)).mp z; omega), iN_s]
      by_cases y : iN b &&& (mg ^^^ (-1)) = 0
      · have es : Fx_H_stepsOfX (iN r) 61 x g = sr r := by
          unfold Fx_H_stepsOfX
          rw [if_neg (show ¬ iN r < (0 : Int32) from fun z => by have := (iN_lt (b := 0) (by omega) (by omega)).mp z; omega), hm, if_neg (fun z => by have := (iN_le (by omega) (by omega)).mp z; omega), xqb, iN_cl (by omega)]
          exact hs
        obtain ⟨y1, a0, a1, a2, a3, a4⟩ := rn58_X (g := g) (st := sr r) (bk := iN b) (kp := -1) ha (by decide) n9
        have ei : ((iN r * 512) + iN b).toNatClampNeg = 512 * r + b := by
          show (iN r * iN 512 + iN b).toNatClampNeg = _
          rw [iN_m, iN_a, iN_cl (by omega)]
          omega
        rw [if_pos y, xqb, es, xqb, a0, xqb, ei, a1.1]
        obtain ⟨z, z1, z2, z3⟩ := ihf (b + 1) (ms y1 66 (512 * r + b) (stN A n (sr r) (iN b) (-1) n).1) (by omega) (by omega) (ha_c ha ((ms_c1 (by decide)).trans (a3 61 (by decide))) ((ms_c1 (by decide)).trans (a3 62 (by decide)))) (by rw [ms_c1 (by decide), a3 61 (by decide)]; exact hm) (by rw [ms_c1 (by decide), a3 63 (by decide)]; exact hs) (fun r' b' hb' ho hg => by
          by_cases w : 512 * r' + b' = 512 * r + b
          · have w1 : r' = r := by omega
            have w2 : b' = b := by omega
            rw [w1, w2, ms_e1]
          · rw [ms_i1 w, a3 66 (by decide)]
            refine k r' b' hb' ?_ hg
            by_cases v : r' = r
            · have : b' ≠ b := fun e => w (by rw [v, e])
              omega
            · omega)
        exact ⟨z, z1, z2, fun c c1 c2 => by rw [z3 c c1 c2, ms_c1 c2, a3 c c1]⟩
      · rw [if_neg y]
        exact ihf (b + 1) x (by omega) (by omega) ha hm hs (fun r' b' hb' ho hg => by
          by_cases w : r' = r ∧ b' = b
          · rw [w.2] at hg
            exact absurd hg y
          · exact k r' b' hb' (by omega) hg)
theorem lr44_L {g : GG} {u2 : MM} {n m : Nat} {A : Nat → Nat → Int32} {sr : Nat → Int32} {mg : Int32} (n9 : n ≤ 9) (m4 : m ≤ 4) (h2m : u2 61 2 = iN m) : ∀ (f r : Nat) (x : MM), m - r < f → r ≤ m → HA x 61 n A → x 61 2 = iN m → (∀ i, i < m → x 63 i = sr i) → KN44 x A n sr mg r 0 → ∃ y, Fx_O_look_44X_L56 (-1) mg g u2 f (iN r) x = (y, Fx_O_weighX 0 0 y g) ∧ KN44 y A n sr mg m 0 ∧ ∀ c, c < 58 ∨ 60 < c → c ≠ 66 → y c = x c := by
  intro f
  induction f with
  | zero => intro r x h; omega
  | succ f ih =>
    intro r x h1 h2 ha hm hs k
    rw [Fx_O_look_44X_L56_s, h2m]
    by_cases q : m ≤ r
    · have e : r = m := by omega
      subst e
      rw [if_pos (Int32.le_refl _), xqb]
      exact ⟨x, rfl, k, fun _ _ _ => rfl⟩
    · have e513 : (512 - (0 : Int32).toInt).toNat + 1 = 513 := by decide
      have p2 := p2_le n9
      rw [if_neg (fun z => q ((iN_le (by omega) (by omega)).mp z)), if_neg (show ¬ (4 : Int32) ≤ iN r from fun z => by have := (iN_le (a := 4) (by omega) (by omega)).mp z; omega), e513]
      obtain ⟨y, y1, y2, y3⟩ := lb44_L (ih := Fx_O_look_44X_L56 (-1) mg g u2 f) (g := g) n9 m4 (show r < m by omega) 513 0 x (by omega) (Nat.zero_le _) ha hm (hs r (by omega)) k
      have y1' : Fx_O_look_44X_L77 (Fx_O_look_44X_L56 (-1) mg g u2 f) (-1) mg g (iN r) 513 0 x = Fx_O_look_44X_L56 (-1) mg g u2 f (iN (r + 1)) y := y1
      rw [y1']
      obtain ⟨z, z1, z2, z3⟩ := ih (r + 1) y (by omega) (by omega) (ha_c ha (y3 61 (by decide) (by decide)) (y3 62 (by decide) (by decide))) (by rw [y3 61 (by decide) (by decide)]; exact hm) (fun i hi => by rw [y3 63 (by decide) (by decide)]; exact hs i hi) y2
      exact ⟨z, z1, z2, fun c c1 c2 => (z3 c c1 c2).trans (y3 c c1 c2)⟩
/-- the class's look -/
theorem lk44_X {x : MM} {g : GG} {n m : Nat} {A : Nat → Nat → Int32} {sr cr : Nat → Int32} {mg : Int32} (h0 : HA x 44 n A) (n9 : n ≤ 9) (m4 : m ≤ 4) (hm : x 44 2 = iN m) (hs : ∀ i, i < m → x (44 + 2) i = sr i ∧ x (44 + 3) i = cr i) : ∃ y g', Fx_O_look_44X (-1) mg x g = (y, g') ∧ OK y g' n m A sr cr mg (chM A 0 0) ∧ (∀ c, c < 58 ∨ 67 < c → y c = x c) ∧ ∀ a, a ≠ 68 → g' a = g a := by
  have p2 := p2_le n9
  unfold Fx_O_look_44X
  obtain ⟨x1, hx1⟩ : ∃ x1, x1 = Fx_H_copyX 61 44 x g := ⟨_, rfl⟩
  have cp := hcB (u := x) (g := g) (t := 61) (f := 44) (by omega)
  have hx1' : x1 = Fx_H_copyBX 61 44 x g := hx1
  rw [← hx1'] at cp
  obtain ⟨⟨p0, p2', p3', p4', p5', p6'⟩, pc'⟩ := cp
  have e513 : (512 - (0 : Int32).toInt).toNat + 1 = 513 := by decide
  rw [xqb, ← hx1, e513]
  have ha1 : HA x1 61 n A := ⟨p0.trans h0.1, fun p c hp hc => (p3' (16 * p + c) (by omega)).trans (h0.2 p c hp hc)⟩
  have pp := Nat.two_pow_pos n
  obtain ⟨y, y1, y2, y3⟩ := lh44_L (u2 := x1) (g := g) (kp := -1) (mg := mg) n9 513 0 x1 (by omega) (Nat.zero_le _) ha1 (fun t ht => by omega)
  have y1' : Fx_O_look_44X_L11 (-1) mg g x1 513 0 x1 = Fx_O_look_44X_L56 (-1) mg g x1 5 (iN 0) y := y1
  rw [y1']
  have hay : HA y 61 n A := ha_c ha1 (y3 61 (by decide)) (y3 62 (by decide))
  have hm1 : x1 61 2 = iN m := p2'.trans hm
  have hs1 : ∀ i, i < m → x1 63 i = sr i := fun i hi => (p4' i (by omega)).trans (hs i hi).1
  have hc1 : ∀ i, i < m → x1 64 i = cr i := fun i hi => (p5' i (by omega)).trans (hs i hi).2
  obtain ⟨z, z1, z2, z3⟩ := lr44_L (g := g) (mg := mg) (sr := sr) n9 m4 hm1 5 0 y (by omega) (by omega) hay (by rw [y3 61 (by decide)]; exact hm1) (fun i hi => by rw [y3 63 (by decide)]; exact hs1 i hi) (fun r b hb ho hg => by omega)
  rw [z1]
  have haz : HA z 61 n A := ha_c hay (z3 61 (by decide) (by decide)) (z3 62 (by decide) (by decide))
  obtain ⟨g', g1, g2, g3⟩ := we_X (g := g) (md := 0) (wk := 0) haz n9
  refine ⟨z, g', by rw [g1], ⟨n9, m4, haz, ?_, fun i hi => ⟨?_, ?_⟩, fun s hs' => ?_, fun r b hr hb hg => z2 r b hb (Or.inl hr) hg, g2⟩, fun c hc => ?_, g3⟩
  · rw [z3 61 (by decide) (by decide), y3 61 (by decide)]; exact hm1
  · rw [z3 63 (by decide) (by decide), y3 63 (by decide)]; exact hs1 i hi
  · rw [z3 64 (by decide) (by decide), y3 64 (by decide)]; exact hc1 i hi
  · rw [z3 67 (by decide) (by decide)]; exact y2 s hs'
  · rw [z3 c (by omega) (by omega), y3 c (by omega), pc' c (by omega)]
end
section
/-! weak banks, owners; the class looks -/
def wkF (A : Nat → Nat → Int32) (p : Nat) : Bool := decide (¬ A p 4 ≤ 0)
theorem wk_L {x : MM} {g : GG} {t n : Nat} {A : Nat → Nat → Int32} (h : HA x t n A) (n9 : n ≤ 9) : ∀ (f p : Nat), n - p < f → p ≤ n → Fx_H_weakX_L4 t x g f (iN (bset (wkF A) p)) (iN p) = iN (bset (wkF A) n) := by
  intro f
  induction f with
  | zero => intro p h1; omega
  | succ f ih =>
    intro p h1 h2
    rw [Fx_H_weakX_L4_s, h.1]
    by_cases q : n ≤ p
    · rw [if_pos ((iN_le (by omega) (by omega)).mpr q), show p = n by omega]
    · have e : bset (wkF A) (p + 1) = if wkF A p = true then bset (wkF A) p + 2 ^ p else bset (wkF A) p := rfl
      have k := ih (p + 1) (by omega) (by omega)
      rw [if_neg (fun z => q ((iN_le (by omega) (by omega)).mp z)), show hof x t (iN p) (4 : Int32) = A p 4 from ha_r (c := 4) h n9 (by omega) (by decide)]
      unfold Fx_H_weakX_J28
      rw [iN_s]
      by_cases y : A p 4 ≤ 0
      · rw [if_neg (show ¬ wkF A p = true from fun z => (of_decide_eq_true z) y)] at e
        rw [if_pos y, ← e]
        exact k
      · rw [if_pos (show wkF A p = true from decide_eq_true y)] at e
        rw [if_neg y, xqb, b9I (by omega), bset_or (by omega), ← e]
        exact k
theorem wk_X {x : MM} {g : GG} {t n : Nat} {A : Nat → Nat → Int32} (h : HA x t n A) (n9 : n ≤ 9) : Fx_H_weakX t x g = iN (bset (wkF A) n) := by
  unfold Fx_H_weakX
  have e : (9 - (0 : Int32).toInt).toNat + 1 = 10 := by decide
  rw [e]
  exact wk_L h n9 10 0 (by omega) (by omega)
theorem chM_m {A : Nat → Nat → Int32} {md : Int32} {p : Nat} (hp : p < 9) : chM A md 0 p = if inB md p = true then 0 else A p 4 := by
  unfold chM
  rw [inB_0 p hp, if_neg Bool.false_ne_true, Int32.add_zero]
theorem chM_0 {A : Nat → Nat → Int32} {p : Nat} (hp : p < 9) : chM A 0 0 p = A p 4 := by
  rw [chM_m hp, inB_0 p hp, if_neg Bool.false_ne_true]
theorem sup_w {A : Nat → Nat → Int32} {ch : Nat → Int32} {n : Nat} (n9 : n ≤ 9) (h : ∀ p, p < n → A p 4 ≤ 0 → ch p = 0) : SUP n (iN (bset (wkF A) n)) ch := by
  intro b hb q
  refine sub_0 hb n9 (fun p hp y => ?_)
  rw [bset_b n p hp]
  by_cases z : A p 4 ≤ 0
  · exact absurd (wB_0 y (h p hp z) n hp) q
  · exact decide_eq_true z
theorem sup_m {A : Nat → Nat → Int32} {n : Nat} {md : Int32} (n9 : n ≤ 9) (aw : AWF n A) : SUP n (iN (bset (wkF A) n)) (chM A md 0) := by
  refine sup_w n9 (fun p hp y => ?_)
  have b4 : Bd 0 10 (A p 4) := (aw p hp).1 4 (by decide)
  have y1 := Int32.le_iff_toInt_le.mp y
  have l0 : (0 : Int32).toInt = 0 := rfl
  have e : A p 4 = 0 := Int32.toInt_inj.mp (by have := b4.1; omega)
  rw [chM_m (by omega), e]
  split <;> rfl
def sR (y : MM) (i : Nat) : Int32 := y 172 (5 + 2 * i)
def cR (y : MM) (i : Nat) : Int32 := y 172 (6 + 2 * i)
/-- the class has looked at what is laid -/
def LKD (x' : MM) (g1 : GG) (y : MM) (n m : Nat) : Prop := OK x' g1 n m (rwA y) (sR y) (cR y) (iN (bset (wkF (rwA y)) n)) (chM (rwA y) 0 0) ∧ LDF x' y n m
theorem lo_Y {x y : MM} {g : GG} {n m : Nat} (L : LDF x y n m) : ∃ x' g1, Fx_O_look_44X (-1) (Fx_H_weakX 44 x g) x g = (x', g1) ∧ LKD x' g1 y n m ∧ ∀ a, a ≠ 68 → g1 a = g a := by
  have n9 := L.1
  rw [wk_X L.2.2.2.1 n9]
  obtain ⟨x', g1, k1, k2, k3, k4⟩ := lk44_X (g := g) (mg := iN (bset (wkF (rwA y)) n)) (sr := sR y) (cr := cR y) L.2.2.2.1 n9 L.2.2.1 L.2.2.2.2.2.2.1 (fun i hi => ⟨(L.2.2.2.2.2.2.2.2.1 i hi).1, (L.2.2.2.2.2.2.2.2.1 i hi).2.1⟩)
  exact ⟨x', g1, k1, ⟨k2, ldf_c L (fun c c1 c2 => k3 c (by omega)) rfl (fun _ _ _ => rfl)⟩, k4⟩
theorem looks_F {u x : MM} {g : GG} {hill plan : Int32} (p1 : Fx_P_laysX hill plan u g = (false, x)) : Fx_P_looksX hill plan u g = (false, x, g) := by
  unfold Fx_P_looksX
  rw [p1]
  rfl
theorem looks_T {u x y : MM} {g : GG} {n m : Nat} {hill plan : Int32} (p1 : Fx_P_laysX hill plan u g = (true, x)) (L : LDF x y n m) : ∃ x' g1, Fx_P_looksX hill plan u g = (true, x', g1) ∧ LKD x' g1 y n m ∧ ∀ a, a ≠ 68 → g1 a = g a := by
  unfold Fx_P_looksX
  rw [p1, c2_mk, if_pos rfl, xqb]
  obtain ⟨x', g1, k1, k2, k3⟩ := lo_Y (g := g) L
  rw [k1, c2_mk]
  exact ⟨x', g1, rfl, k2, k3⟩
/-! the reference's sums -/
/-- the reference is ready for storms -/
def RR (y : MM) (n m : Nat) (A : Nat → Nat → Int32) (sr cr : Nat → Int32) : Prop := n ≤ 9 ∧ m ≤ 4 ∧ RMA y n A ∧ AWF n A ∧ y 162 26 = -1 ∧ y 162 27 = 0 ∧ y 172 1 = iN m ∧ ∀ i, i < m → y 172 (5 + 2 * i) = sr i ∧ y 172 (6 + 2 * i) = cr i ∧ Bd 0 9 (sr i)
def FRM (y' y : MM) : Prop := (∀ c, c ≠ 162 → c ≠ 173 → c ≠ 174 → c ≠ 175 → y' c = y c) ∧ ∀ j, j ≠ 31 → j ≠ 32 → j ≠ 33 → y' 162 j = y 162 j
theorem frm_0 {y : MM} : FRM y y := ⟨fun _ _ _ _ _ => rfl, fun _ _ _ _ => rfl⟩
theorem frm_t {a b c : MM} (h1 : FRM a b) (h2 : FRM b c) : FRM a c := ⟨fun i i1 i2 i3 i4 => (h1.1 i i1 i2 i3 i4).trans (h2.1 i i1 i2 i3 i4), fun j j1 j2 j3 => (h1.2 j j1 j2 j3).trans (h2.2 j j1 j2 j3)⟩
theorem rr_c {y y' : MM} {n m : Nat} {A : Nat → Nat → Int32} {sr cr : Nat → Int32} (h : RR y n m A sr cr) (f : FRM y' y) : RR y' n m A sr cr := by
  obtain ⟨n9, m4, ma, aw, h26, h27, h1, hr⟩ := h
  have e172 : y' 172 = y 172 := f.1 172 (by decide) (by decide) (by decide) (by decide)
  refine ⟨n9, m4, ma_c ma (f.2 22 (by decide) (by decide) (by decide)) e172, aw, ?_, ?_, ?_, ?_⟩
  · rw [f.2 26 (by decide) (by decide) (by decide)]; exact h26
  · rw [f.2 27 (by decide) (by decide) (by decide)]; exact h27
  · rw [e172]; exact h1
  · rw [e172]; exact hr
theorem rr_L {x y : MM} {n m : Nat} (L : LDF x y n m) : RR y n m (rwA y) (sR y) (cR y) := ⟨L.1, L.2.2.1, L.2.2.2.2.1, L.2.2.2.2.2.1, L.2.2.2.2.2.2.2.2.2.2.2.1, L.2.2.2.2.2.2.2.2.2.2.2.2.1, L.2.2.2.2.2.2.2.1, fun i hi => ⟨rfl, rfl, (L.2.2.2.2.2.2.2.2.1 i hi).2.2.1⟩⟩
theorem pr_L {y : MM} {g : GG} {n m b : Nat} {A : Nat → Nat → Int32} {sr cr : Nat → Int32} {c : Int64} (h : RR y n m A sr cr) (hb : b < 2 ^ n) : ∀ (f p : Nat), n - p < f → p ≤ n → Fx_M_partsOfX_L17 (iN b) y g f (prB (fun p => A p 4) b c p) (iN p) = prB (fun p => A p 4) b c n := by
  have n9 := h.1
  have p2 := p2_le n9
  intro f
  induction f with
  | zero => intro p h1; omega
  | succ f ih =>
    intro p h1 h2
    rw [Fx_M_partsOfX_L17_s, h.2.2.1.1]
    by_cases q : n ≤ p
    · rw [if_pos ((iN_le (by omega) (by omega)).mpr q), show p = n by omega]
    · have k := ih (p + 1) (by omega) (by omega)
      have e : prB (fun p => A p 4) b c (p + 1) = prB (fun p => A p 4) b c p * (if b.testBit p = true then A p 4 else 10 - A p 4).toInt64 := rfl
      rw [e] at k
      rw [if_neg (fun z => q ((iN_le (by omega) (by omega)).mp z)), xqb, hasI, inN b (by omega) p (by omega), show mof y (iN p) (4 : Int32) = A p 4 from ma_r (c := 4) h.2.2.1 n9 (by omega) (by decide)]
      unfold Fx_M_partsOfX_J58
      rw [iN_s]
      by_cases t : b.testBit p = true
      · rw [if_pos t] at k ⊢
        rw [xqb, xqb]
        exact k
      · rw [if_neg t] at k ⊢
        rw [xqb, xqb]
        exact k
theorem pr_X {y : MM} {g : GG} {n m r b : Nat} {A : Nat → Nat → Int32} {sr cr : Nat → Int32} (h : RR y n m A sr cr) (hr : r < m) (hb : b < 2 ^ n) : Fx_M_partsOfX (iN r) (iN b) y g = wB (fun p => A p 4) b n * (cr r).toInt64 := by
  unfold Fx_M_partsOfX
  have n9 := h.1
  have m4 := h.2.1
  have e : (((5 : Int32) + ((2 : Int32) * iN r)) + 1).toNatClampNeg = 6 + 2 * r := by
    show ((iN 5 + iN 2 * iN r) + iN 1).toNatClampNeg = _
    rw [iN_m, iN_a, iN_a, iN_cl (by omega)]
    omega
  have e10 : (9 - (0 : Int32).toInt).toNat + 1 = 10 := by decide
  rw [xqb, xqb, e, (h.2.2.2.2.2.2.2 r hr).2.1, e10, ← prB_e]
  exact pr_L h hb 10 0 (by omega) (by omega)
/-- a storm of the reference, ready for the next one -/
theorem sto_X {y : MM} {g : GG} {n m r : Nat} {A : Nat → Nat → Int32} {sr cr : Nat → Int32} {bk : Int32} (h : RR y n m A sr cr) (hr : r < m) : ∃ y1, Fx_M_blowX (Fx_M_stepsOfX (iN r) y g) bk y g = y1 ∧ RS y1 (stN A n (sr r) bk (-1) n) n n ∧ FRM y1 y := by
  obtain ⟨n9, m4, ma, aw, h26, h27, h1, hs⟩ := h
  obtain ⟨r1, r2, r3⟩ := hs r hr
  have es : Fx_M_stepsOfX (iN r) y g = sr r := by
    unfold Fx_M_stepsOfX
    have e : ((5 : Int32) + ((2 : Int32) * iN r)).toNatClampNeg = 5 + 2 * r := by
      show (iN 5 + iN 2 * iN r).toNatClampNeg = _
      rw [iN_m, iN_a, iN_cl (by omega)]
    rw [h27, if_pos rfl, xqb, e]
    exact r1
  rw [es]
  obtain ⟨y1, b0, b1, b2, b3⟩ := rbl_X (g := g) (bk := bk) ma n9 aw h26 r3
  exact ⟨y1, b0, b1, b2, b3⟩
end
section
/-! sums over storms as numbers; likely, given -/
def wN (c : Nat → Nat) (b : Nat) : Nat → Nat
  | 0 => 1
  | p + 1 => wN c b p * (if b.testBit p = true then c p else 10 - c p)
theorem wB_n {ch : Nat → Int32} {c : Nat → Nat} {b : Nat} : ∀ p, (∀ q, q < p → ch q = iN (c q) ∧ c q ≤ 10) → wB ch b p = zN (wN c b p) ∧ wN c b p ≤ 10 ^ p := by
  intro p
  induction p with
  | zero => intro _; exact ⟨rfl, Nat.le_refl _⟩
  | succ p ih =>
    intro h
    obtain ⟨i1, i2⟩ := ih (fun q hq => h q (by omega))
    obtain ⟨h1, h2⟩ := h p (by omega)
    have hf : fac ch b p = zN (if b.testBit p = true then c p else 10 - c p) := by
      unfold fac
      rw [h1]
      by_cases t : b.testBit p = true
      · rw [if_pos t, if_pos t, iN_l (by omega)]
      · rw [if_neg t, if_neg t, show (10 : Int32) - iN (c p) = iN (10 - c p) from iN_sub (a := 10) h2, iN_l (by omega)]
    refine ⟨?_, ?_⟩
    · show wB ch b p * fac ch b p = _
      rw [i1, hf, zN_m]
      rfl
    · show wN c b p * (if b.testBit p = true then c p else 10 - c p) ≤ 10 ^ (p + 1)
      rw [Nat.pow_succ]
      exact Nat.mul_le_mul i2 (by split <;> omega)
theorem wN_c {c : Nat → Nat} {b d : Nat} : ∀ p, (∀ q, q < p → b.testBit q = d.testBit q) → wN c b p = wN c d p := by
  intro p
  induction p with
  | zero => intro _; rfl
  | succ p ih =>
    intro h
    show wN c b p * (if b.testBit p = true then c p else 10 - c p) = wN c d p * (if d.testBit p = true then c p else 10 - c p)
    rw [ih (fun q hq => h q (by omega)), h p (by omega)]
def sN (G : Nat → Nat) : Nat → Nat
  | 0 => 0
  | b + 1 => sN G b + G b
theorem sN_c {G H : Nat → Nat} : ∀ n, (∀ b, b < n → G b = H b) → sN G n = sN H n := by
  intro n
  induction n with
  | zero => intro _; rfl
  | succ n ih =>
    intro h
    show sN G n + G n = sN H n + H n
    rw [ih (fun b hb => h b (by omega)), h n (by omega)]
theorem sN_m {G : Nat → Nat} {k : Nat} : ∀ n, sN (fun b => G b * k) n = sN G n * k := by
  intro n
  induction n with
  | zero => exact (Nat.zero_mul k).symm
  | succ n ih =>
    show sN (fun b => G b * k) n + G n * k = (sN G n + G n) * k
    rw [ih, Nat.add_mul]
theorem sN_a {G : Nat → Nat} {m : Nat} : ∀ n, sN G (m + n) = sN G m + sN (fun b => G (b + m)) n := by
  intro n
  induction n with
  | zero => rfl
  | succ n ih =>
    show sN G (m + n) + G (m + n) = sN G m + (sN (fun b => G (b + m)) n + G (n + m))
    rw [ih, Nat.add_comm m n, Nat.add_assoc]
theorem wN_s {c : Nat → Nat} : ∀ n, (∀ q, q < n → c q ≤ 10) → sN (fun b => wN c b n) (2 ^ n) = 10 ^ n := by
  intro n
  induction n with
  | zero => intro _; rfl
  | succ n ih =>
    intro h
    have k := ih (fun q hq => h q (by omega))
    have h1 := h n (by omega)
    have e2 : (2 : Nat) ^ (n + 1) = 2 ^ n + 2 ^ n := by rw [Nat.pow_succ]; omega
    have a : sN (fun b => wN c b (n + 1)) (2 ^ n) = 10 ^ n * (10 - c n) := by
      rw [sN_c (H := fun b => wN c b n * (10 - c n)) (2 ^ n) (fun b hb => by
        show wN c b n * (if b.testBit n = true then c n else 10 - c n) = _
        rw [Nat.testBit_lt_two_pow hb, if_neg Bool.false_ne_true]), sN_m (G := fun b => wN c b n), k]
    have b : sN (fun b => wN c (b + 2 ^ n) (n + 1)) (2 ^ n) = 10 ^ n * c n := by
      rw [sN_c (H := fun b => wN c b n * c n) (2 ^ n) (fun b hb => by
        show wN c (b + 2 ^ n) n * (if (b + 2 ^ n).testBit n = true then c n else 10 - c n) = _
        rw [tb_add hb (Nat.le_refl n), if_pos rfl, if_pos rfl, wN_c (d := b) n (fun q hq => by rw [tb_add hb (by omega), if_neg (by omega)])]), sN_m (G := fun b => wN c b n), k]
    rw [e2, sN_a, a, b, ← Nat.mul_add, Nat.pow_succ]
    congr 1
    omega
/-- a storm's parts, a number -/
theorem pa_z {ch cr : Nat → Int32} {c cn : Nat → Nat} {n m r b : Nat} (n9 : n ≤ 9) (hc : ∀ q, q < n → ch q = iN (c q) ∧ c q ≤ 10) (hr : ∀ r, r < m → cr r = iN (cn r) ∧ cn r ≤ 100) (h : r < m) : wB ch b n * (cr r).toInt64 = zN (wN c b n * cn r) ∧ wN c b n * cn r ≤ 100000000000 := by
  obtain ⟨a1, a2⟩ := wB_n (b := b) n hc
  obtain ⟨b1, b2⟩ := hr r h
  have hp : 10 ^ n ≤ 10 ^ 9 := Nat.pow_le_pow_right (by decide) n9
  have hm : wN c b n * cn r ≤ 10 ^ 9 * 100 := Nat.mul_le_mul (Nat.le_trans a2 hp) b2
  exact ⟨by rw [a1, b1, iN_l (by omega), zN_m], hm⟩
noncomputable def ptN (A : Nat → Nat → Int32) (n : Nat) (sr : Nat → Int32) (cn c : Nat → Nat) (s : Int32) (r b : Nat) : Nat := if (stN A n (sr r) (iN b) (-1) n).1 &&& s = s then wN c b n * cn r else 0
theorem pt_all {A : Nat → Nat → Int32} {sr : Nat → Int32} {c cn : Nat → Nat} {n m : Nat} (hc : ∀ q, q < n → c q ≤ 10) (hs : sN cn m = 100) : sN (fun r => sN (ptN A n sr cn c 0 r) (2 ^ n)) m = 100 * 10 ^ n := by
  have a : ∀ r, sN (fun b => wN c b n * cn r) (2 ^ n) = cn r * 10 ^ n := fun r => by rw [sN_m (G := fun b => wN c b n), wN_s n hc, Nat.mul_comm]
  have k : sN (fun r => sN (ptN A n sr cn c 0 r) (2 ^ n)) m = sN (fun r => cn r * 10 ^ n) m := sN_c m (fun r hr => by
    rw [← a r]
    refine sN_c _ (fun b hb => ?_)
    unfold ptN
    rw [if_pos Int32.and_zero])
  rw [k, sN_m, hs]
/-- the chances of a hill, as numbers -/
def cN (y : MM) (i : Nat) : Nat := (cR y i).toNatClampNeg
def kA (A : Nat → Nat → Int32) (p : Nat) : Nat := (A p 4).toNatClampNeg
theorem kA_s {A : Nat → Nat → Int32} {n : Nat} (aw : AWF n A) : ∀ q, q < n → A q 4 = iN (kA A q) ∧ kA A q ≤ 10 := fun q hq => by
  obtain ⟨k, hk, h1⟩ := iN_ex (hi := 10) (show Bd 0 10 (A q 4) from (aw q hq).1 4 (by decide))
  have e : kA A q = k := by
    unfold kA
    rw [hk, iN_cl (by omega)]
  rw [e]
  exact ⟨hk, h1⟩
theorem cN_s {x y : MM} {n m : Nat} (L : LDF x y n m) : (∀ r, r < m → cR y r = iN (cN y r) ∧ cN y r ≤ 100) ∧ sN (cN y) m = 100 := by
  have hr : ∀ r, r < m → cR y r = iN (cN y r) ∧ cN y r ≤ 100 := fun r hr => by
    obtain ⟨k, hk, h1⟩ := iN_ex (hi := 100) (show Bd 0 100 (cR y r) from (L.2.2.2.2.2.2.2.2.1 r hr).2.2.2)
    have e : cN y r = k := by
      unfold cN
      rw [hk, iN_cl (by omega)]
    rw [e]
    exact ⟨hk, h1⟩
  refine ⟨hr, ?_⟩
  have m1 := L.2.1
  have m4 := L.2.2.1
  have e1 := L.2.2.2.2.2.2.2.1
  have hs := L.2.2.2.2.2.2.2.2.2.2.1
  have e100 : (100 : Int32) = iN 100 := rfl
  unfold sm at hs
  rw [e1] at hs
  rcases (show m = 1 ∨ m = 2 ∨ m = 3 ∨ m = 4 by omega) with w | w | w | w
  · subst w
    have a0 : y 172 6 = iN (cN y 0) := (hr 0 (by omega)).1
    rw [if_pos (by decide), a0, Int32.zero_add, e100] at hs
    have b0 := (hr 0 (by omega)).2
    have := (iN_eq (by omega) (by omega)).mp hs
    show 0 + cN y 0 = 100
    omega
  · subst w
    have a0 : y 172 6 = iN (cN y 0) := (hr 0 (by omega)).1
    have a1 : y 172 8 = iN (cN y 1) := (hr 1 (by omega)).1
    rw [if_neg (by decide), if_pos (by decide), a0, a1, Int32.zero_add, iN_a, e100] at hs
    have b0 := (hr 0 (by omega)).2
    have b1 := (hr 1 (by omega)).2
    have := (iN_eq (by omega) (by omega)).mp hs
    show 0 + cN y 0 + cN y 1 = 100
    omega
  · subst w
    have a0 : y 172 6 = iN (cN y 0) := (hr 0 (by omega)).1
    have a1 : y 172 8 = iN (cN y 1) := (hr 1 (by omega)).1
    have a2 : y 172 10 = iN (cN y 2) := (hr 2 (by omega)).1
    rw [if_neg (by decide), if_neg (by decide), if_pos (by decide), a0, a1, a2, Int32.zero_add, iN_a, iN_a, e100] at hs
    have b0 := (hr 0 (by omega)).2
    have b1 := (hr 1 (by omega)).2
    have b2 := (hr 2 (by omega)).2
    have := (iN_eq (by omega) (by omega)).mp hs
    show 0 + cN y 0 + cN y 1 + cN y 2 = 100
    omega
  · subst w
    have a0 : y 172 6 = iN (cN y 0) := (hr 0 (by omega)).1
    have a1 : y 172 8 = iN (cN y 1) := (hr 1 (by omega)).1
    have a2 : y 172 10 = iN (cN y 2) := (hr 2 (by omega)).1
    have a3 : y 172 12 = iN (cN y 3) := (hr 3 (by omega)).1
    rw [if_neg (by decide), if_neg (by decide), if_neg (by decide), a0, a1, a2, a3, Int32.zero_add, iN_a, iN_a, iN_a, e100] at hs
    have b0 := (hr 0 (by omega)).2
    have b1 := (hr 1 (by omega)).2
    have b2 := (hr 2 (by omega)).2
    have b3 := (hr 3 (by omega)).2
    have := (iN_eq (by omega) (by omega)).mp hs
    show 0 + cN y 0 + cN y 1 + cN y 2 + cN y 3 = 100
    omega
end
section
/-! worst, flood, deep -/
theorem fB_i {α : Type} {F : Nat → α → α} {P : α → Prop} : ∀ (n : Nat) (a : α), (∀ b a, b < n → P a → P (F b a)) → P a → P (fB F n a) := by
  intro n
  induction n with
  | zero => intro a _ h; exact h
  | succ n ih => intro a h p; exact h n _ (by omega) (ih a (fun b a hb => h b a (by omega)) p)
theorem fR_i {α : Type} {F : Nat → Nat → α → α} {N : Nat} {P : α → Prop} : ∀ (m : Nat) (a : α), (∀ r b a, r < m → b < N → P a → P (F r b a)) → P a → P (fR F N m a) := by
  intro m
  induction m with
  | zero => intro a _ h; exact h
  | succ m ih => intro a h p; exact fB_i N _ (fun b a hb => h m b a (by omega) hb) (ih a (fun r b a hr hb => h r b a (by omega) hb) p)
theorem fB_v {α : Type} {F : Nat → α → α} {P V : α → Prop} {b0 : Nat} : ∀ (n : Nat) (a : α), (∀ b a, b < n → P a → P (F b a)) → (∀ b a, b < n → V a → V (F b a)) → (∀ a, P a → V (F b0 a)) → b0 < n → P a → V (fB F n a) := by
  intro n
  induction n with
  | zero => intro a _ _ _ h; omega
  | succ n ih =>
    intro a h1 h2 h3 h p
    by_cases y : b0 = n
    · subst y
      exact h3 _ (fB_i b0 a (fun b a hb => h1 b a (by omega)) p)
    · exact h2 n _ (by omega) (ih a (fun b a hb => h1 b a (by omega)) (fun b a hb => h2 b a (by omega)) h3 (by omega) p)
theorem fR_v {α : Type} {F : Nat → Nat → α → α} {N : Nat} {P V : α → Prop} {r0 b0 : Nat} : ∀ (m : Nat) (a : α), (∀ r b a, r < m → b < N → P a → P (F r b a)) → (∀ r b a, r < m → b < N → V a → V (F r b a)) → (∀ a, P a → V (F r0 b0 a)) → r0 < m → b0 < N → P a → V (fR F N m a) := by
  intro m
  induction m with
  | zero => intro a _ _ _ h; omega
  | succ m ih =>
    intro a h1 h2 h3 hr hb p
    by_cases y : r0 = m
    · subst y
      exact fB_v N _ (fun b a hb => h1 r0 b a (by omega) hb) (fun b a hb => h2 r0 b a (by omega) hb) h3 hb (fR_i r0 a (fun r b a hr hb => h1 r b a (by omega) hb) p)
    · exact fB_i N _ (fun b a hb => h2 m b a (by omega) hb) (ih a (fun r b a hr hb => h1 r b a (by omega) hb) (fun r b a hr hb => h2 r b a (by omega) hb) h3 (by omega) hb p)
theorem sN_0 {G : Nat → Nat} : ∀ n, ¬ sN G n = 0 → ∃ b, b < n ∧ ¬ G b = 0 := by
  intro n
  induction n with
  | zero => intro h; exact absurd rfl h
  | succ n ih =>
    intro h
    by_cases y : G n = 0
    · obtain ⟨b, b1, b2⟩ := ih (fun z => h (by show sN G n + G n = 0; omega))
      exact ⟨b, by omega, b2⟩
    · exact ⟨n, by omega, y⟩
/-- a storm that has parts -/
theorem some_s {x y : MM} {n m : Nat} (L : LDF x y n m) : ∃ r b, r < m ∧ b < 2 ^ n ∧ ¬ lg_cmp (wB (fun p => rwA y p 4) b n * (cR y r).toInt64) (0 : Int64) ≤ 0 := by
  have n9 := L.1
  have e := pt_all (A := rwA y) (sr := sR y) (fun q hq => (kA_s L.2.2.2.2.2.1 q hq).2) (cN_s L).2
  have p10 := Nat.pow_pos (n := n) (show 0 < 10 by decide)
  obtain ⟨r, hr, r1⟩ := sN_0 (G := fun r => sN (ptN (rwA y) n (sR y) (cN y) (kA (rwA y)) 0 r) (2 ^ n)) m (by rw [e]; omega)
  obtain ⟨b, hb, b1⟩ := sN_0 (G := ptN (rwA y) n (sR y) (cN y) (kA (rwA y)) 0 r) (2 ^ n) r1
  obtain ⟨k1, k2⟩ := pa_z (b := b) n9 (kA_s L.2.2.2.2.2.1) (cN_s L).1 hr
  unfold ptN at b1
  rw [if_pos Int32.and_zero] at b1
  have e0 : (0 : Int64) = zN 0 := rfl
  refine ⟨r, b, hr, hb, fun z => b1 ?_⟩
  have z1 := (lg_cmp_le _ _).mp z
  rw [k1, e0] at z1
  have := (zN_le (by omega) (by omega)).mp z1
  omega
theorem hrm_b {A : Nat → Nat → Int32} {n : Nat} {s : Int32} (aw : AWF n A) (n9 : n ≤ 9) : ∀ p, p ≤ n → ∃ k, hrm A s p = iN k ∧ k ≤ 999 * p := by
  intro p
  induction p with
  | zero => intro _; exact ⟨0, rfl, by omega⟩
  | succ p ih =>
    intro hp
    obtain ⟨k, h1, h2⟩ := ih (by omega)
    obtain ⟨j, j1, j2⟩ := iN_ex (hi := 999) (show Bd 0 999 (A p 5) from (aw p (by omega)).1 5 (by decide))
    by_cases y : inB s p = true
    · refine ⟨k + j, ?_, by omega⟩
      show (if inB s p = true then hrm A s p + A p 5 else hrm A s p) = _
      rw [if_pos y, h1, j1, iN_a]
    · refine ⟨k, ?_, by omega⟩
      show (if inB s p = true then hrm A s p + A p 5 else hrm A s p) = _
      rw [if_neg y, h1]
abbrev TT : Type := Int32 × Int32 × Int32
noncomputable def woF (A : Nat → Nat → Int32) (n : Nat) (sr cr ch : Nat → Int32) (r b : Nat) (s : TT) : TT := if lg_cmp (wB ch b n * (cr r).toInt64) (0 : Int64) ≤ 0 then s else if hrm A (stN A n (sr r) (iN b) (-1) n).1 n ≤ s.2.2 then s else (iN r, iN b, hrm A (stN A n (sr r) (iN b) (-1) n).1 n)
theorem woF_0 {A : Nat → Nat → Int32} {n r b : Nat} {sr cr ch : Nat → Int32} {s : TT} (h : lg_cmp (wB ch b n * (cr r).toInt64) (0 : Int64) ≤ 0) : woF A n sr cr ch r b s = s := if_pos h
theorem woF_1 {A : Nat → Nat → Int32} {n r b : Nat} {sr cr ch : Nat → Int32} {s : TT} (h : ¬ lg_cmp (wB ch b n * (cr r).toInt64) (0 : Int64) ≤ 0) : woF A n sr cr ch r b s = if hrm A (stN A n (sr r) (iN b) (-1) n).1 n ≤ s.2.2 then s else (iN r, iN b, hrm A (stN A n (sr r) (iN b) (-1) n).1 n) := if_neg h
theorem wo_I {x : MM} {g : GG} {n m r : Nat} {A : Nat → Nat → Int32} {sr cr ch : Nat → Int32} {mg : Int32} {ih : Int32 → Int32 → Int32 → Int32 → Int64} (h : OK x g n m A sr cr mg ch) (su : SUP n mg ch) (hr : r < m) (a0 : TT) : ∀ (f b : Nat), 2 ^ n - b < f → b ≤ 2 ^ n → Fx_O_worstToldX_L25 ih x g (iN r) f (fB (woF A n sr cr ch r) b a0).1 (fB (woF A n sr cr ch r) b a0).2.1 (fB (woF A n sr cr ch r) b a0).2.2 (iN b) = ih (fB (woF A n sr cr ch r) (2 ^ n) a0).1 (fB (woF A n sr cr ch r) (2 ^ n) a0).2.1 (fB (woF A n sr cr ch r) (2 ^ n) a0).2.2 (iN (r + 1)) := by
  have n9 := h.1
  have p2 := p2_le n9
  have pp := Nat.two_pow_pos n
  intro f
  induction f with
  | zero => intro b h1; omega
  | succ f ihf =>
    intro b h1 h2
    rw [Fx_O_worstToldX_L25_s, all_X h.2.2.1.1 n9, xqb, iN_s]
    by_cases q : 2 ^ n ≤ b
    · rw [if_pos ((iN_lt (by omega) (by omega)).mpr (by omega)), show b = 2 ^ n by omega]
    · have hb : b < 2 ^ n := by omega
      have e : fB (woF A n sr cr ch r) (b + 1) a0 = woF A n sr cr ch r b (fB (woF A n sr cr ch r) b a0) := rfl
      have k := ihf (b + 1) (by omega) (by omega)
      rw [e] at k
      obtain ⟨S, hS⟩ : ∃ S, S = fB (woF A n sr cr ch r) b a0 := ⟨_, rfl⟩
      rw [← hS] at k ⊢
      rw [if_neg (fun z => by have := (iN_lt (by omega) (by omega)).mp z; omega), xqb, par_X h hr hb]
      unfold Fx_O_worstToldX_J89
      rw [iN_s]
      by_cases z : lg_cmp (wB ch b n * (cr r).toInt64) (0 : Int64) ≤ 0
      · rw [woF_0 z] at k
        rw [if_pos z]
        exact k
      · have hg := sup_p su hb z
        obtain ⟨w, hw, ew⟩ := (st_sb (A := A) (n := n) (st := sr r) (bk := iN b) (kp := -1) n n9).1
        rw [woF_1 z, ew] at k
        rw [if_neg z, wen_X h hr hb hg, ew, xqb, iN_cl (by omega), h.2.2.2.2.2.1 _ hw, xqb, xqb, xqb]
        by_cases y : hrm A (iN w) n ≤ S.2.2
        · rw [if_pos y] at k ⊢
          exact k
        · rw [if_neg y] at k ⊢
          rw [iN_cl (by omega), h.2.2.2.2.2.1 _ hw]
          exact k
noncomputable def woE (x : MM) (g : GG) (what : Int32) (s : TT) : Int64 := if what = 0 then s.1.toInt64 else if what = 1 then s.2.1.toInt64 else if what = 2 then s.2.2.toInt64 else if what = 3 then (if s.1 = -1 then -1 else Fx_O_partsX s.1 s.2.1 x g) else -1
theorem wo_L {x : MM} {g : GG} {n m : Nat} {A : Nat → Nat → Int32} {sr cr ch : Nat → Int32} {mg what : Int32} (h : OK x g n m A sr cr mg ch) (su : SUP n mg ch) : ∀ (f r : Nat), m - r < f → r ≤ m → Fx_O_worstToldX_L10 what x g f (fR (woF A n sr cr ch) (2 ^ n) r (-1, 0, -1)).1 (fR (woF A n sr cr ch) (2 ^ n) r (-1, 0, -1)).2.1 (fR (woF A n sr cr ch) (2 ^ n) r (-1, 0, -1)).2.2 (iN r) = woE x g what (fR (woF A n sr cr ch) (2 ^ n) m (-1, 0, -1)) := by
  have m4 := h.2.1
  have p2 := p2_le h.1
  intro f
  induction f with
  | zero => intro r h1; omega
  | succ f ihf =>
    intro r h1 h2
    rw [Fx_O_worstToldX_L10_s, h.2.2.2.1]
    by_cases q : m ≤ r
    · rw [if_pos ((iN_le (by omega) (by omega)).mpr q), show r = m by omega]
      unfold woE
      rw [xqb, xqb, xqb, xqb]
    · have e513 : (512 - (0 : Int32).toInt).toNat + 1 = 513 := by decide
      rw [if_neg (fun z => q ((iN_le (by omega) (by omega)).mp z)), e513]
      have k := wo_I (ih := Fx_O_worstToldX_L10 what x g f) h su (show r < m by omega) (fR (woF A n sr cr ch) (2 ^ n) r (-1, 0, -1)) 513 0 (by omega) (Nat.zero_le _)
      exact Eq.trans k (ihf (r + 1) (by omega) (by omega))
theorem wr_I {u y : MM} {g : GG} {n m r : Nat} {A : Nat → Nat → Int32} {sr cr : Nat → Int32} {ih : Int32 → Int32 → Int32 → Int32 → MM → Int64 × MM} (h22 : u 162 22 = iN n) (hr : r < m) (a0 : TT) (h0 : RR y n m A sr cr) : ∀ (f b : Nat) (y1 : MM), 2 ^ n - b < f → b ≤ 2 ^ n → FRM y1 y → ∃ y2, Fx_M_worstX_L53 ih g u (iN r) f (fB (woF A n sr cr (fun p => A p 4) r) b a0).1 (fB (woF A n sr cr (fun p => A p 4) r) b a0).2.1 (fB (woF A n sr cr (fun p => A p 4) r) b a0).2.2 (iN b) y1 = ih (fB (woF A n sr cr (fun p => A p 4) r) (2 ^ n) a0).1 (fB (woF A n sr cr (fun p => A p 4) r) (2 ^ n) a0).2.1 (fB (woF A n sr cr (fun p => A p 4) r) (2 ^ n) a0).2.2 (iN (r + 1)) y2 ∧ FRM y2 y := by
  have n9 := h0.1
  have p2 := p2_le n9
  have pp := Nat.two_pow_pos n
  intro f
  induction f with
  | zero => intro b y1 h1; omega
  | succ f ihf =>
    intro b y1 h1 h2 fr
    have h := rr_c h0 fr
    rw [Fx_M_worstX_L53_s, h22, (all_e n (by omega)).2.1, iN_s]
    by_cases q : 2 ^ n ≤ b
    · rw [if_pos ((iN_le (by omega) (by omega)).mpr q), show b = 2 ^ n by omega]
      exact ⟨y1, rfl, fr⟩
    · have hb : b < 2 ^ n := by omega
      have e : fB (woF A n sr cr (fun p => A p 4) r) (b + 1) a0 = woF A n sr cr (fun p => A p 4) r b (fB (woF A n sr cr (fun p => A p 4) r) b a0) := rfl
      have K := ihf (b + 1)
      rw [e] at K
      obtain ⟨S, hS⟩ : ∃ S, S = fB (woF A n sr cr (fun p => A p 4) r) b a0 := ⟨_, rfl⟩
      rw [← hS] at K ⊢
      rw [if_neg (fun z => q ((iN_le (by omega) (by omega)).mp z)), xqb, pr_X h hr hb]
      unfold Fx_M_worstX_J114
      rw [iN_s]
      by_cases z : lg_cmp (wB (fun p => A p 4) b n * (cr r).toInt64) (0 : Int64) ≤ 0
      · obtain ⟨y2, k1, k2⟩ := K y1 (by omega) (by omega) fr
        rw [woF_0 z] at k1
        rw [if_pos z]
        exact ⟨y2, k1, k2⟩
      · obtain ⟨y3, s1, s2, s3⟩ := sto_X (g := g) (bk := iN b) h hr
        obtain ⟨y2, k1, k2⟩ := K y3 (by omega) (by omega) (frm_t s3 fr)
        have hh := ho_X (g := g) (o := -1) (rr_c h s3).2.2.1 n9
        rw [s2.1, hro_all] at hh
        rw [woF_1 z] at k1
        rw [if_neg z, xqb, xqb, s1, hh, xqb, xqb]
        by_cases w : hrm A (stN A n (sr r) (iN b) (-1) n).1 n ≤ S.2.2
        · rw [if_pos w] at k1 ⊢
          exact ⟨y2, k1, k2⟩
        · rw [if_neg w] at k1 ⊢
          exact ⟨y2, k1, k2⟩
theorem wr_L {u : MM} {g : GG} {n m : Nat} {A : Nat → Nat → Int32} {sr cr : Nat → Int32} {what : Int32} (h0 : RR u n m A sr cr) : ∀ (f r : Nat) (y1 : MM), m - r < f → r ≤ m → FRM y1 u → ∃ y2, Fx_M_worstX_L39 what g u f (fR (woF A n sr cr (fun p => A p 4)) (2 ^ n) r (-1, 0, -1)).1 (fR (woF A n sr cr (fun p => A p 4)) (2 ^ n) r (-1, 0, -1)).2.1 (fR (woF A n sr cr (fun p => A p 4)) (2 ^ n) r (-1, 0, -1)).2.2 (iN r) y1 = (if what = 0 then (fR (woF A n sr cr (fun p => A p 4)) (2 ^ n) m (-1, 0, -1)).1.toInt64 else if what = 1 then (fR (woF A n sr cr (fun p => A p 4)) (2 ^ n) m (-1, 0, -1)).2.1.toInt64 else if what = 2 then (fR (woF A n sr cr (fun p => A p 4)) (2 ^ n) m (-1, 0, -1)).2.2.toInt64 else Fx_M_partsOfX (fR (woF A n sr cr (fun p => A p 4)) (2 ^ n) m (-1, 0, -1)).1 (fR (woF A n sr cr (fun p => A p 4)) (2 ^ n) m (-1, 0, -1)).2.1 y2 g, y2) ∧ FRM y2 u := by
  have m4 := h0.2.1
  have p2 := p2_le h0.1
  intro f
  induction f with
  | zero => intro r y1 h1; omega
  | succ f ihf =>
    intro r y1 h1 h2 fr
    rw [Fx_M_worstX_L39_s, h0.2.2.2.2.2.2.1]
    by_cases q : m ≤ r
    · rw [if_pos ((iN_le (by omega) (by omega)).mpr q), show r = m by omega]
      refine ⟨y1, ?_, fr⟩
      rw [xqb, xqb, xqb, xqb]
      split
      · rfl
      · split
        · rfl
        · split <;> rfl
    · have e513 : (512 - (0 : Int32).toInt).toNat + 1 = 513 := by decide
      rw [if_neg (fun z => q ((iN_le (by omega) (by omega)).mp z)), e513]
      obtain ⟨y3, k1, k2⟩ := wr_I (ih := Fx_M_worstX_L39 what g u f) (g := g) h0.2.2.1.1 (show r < m by omega) (fR (woF A n sr cr (fun p => A p 4)) (2 ^ n) r (-1, 0, -1)) h0 513 0 y1 (by omega) (Nat.zero_le _) fr
      obtain ⟨y2, j1, j2⟩ := ihf (r + 1) y3 (by omega) (by omega) k2
      exact ⟨y2, Eq.trans k1 j1, j2⟩
/-- the worst storm is one -/
theorem wo_V {x y : MM} {n m : Nat} (L : LDF x y n m) : ∃ r b, r < m ∧ b < 2 ^ n ∧ (fR (woF (rwA y) n (sR y) (cR y) (fun p => rwA y p 4)) (2 ^ n) m (-1, 0, -1)).1 = iN r ∧ (fR (woF (rwA y) n (sR y) (cR y) (fun p => rwA y p 4)) (2 ^ n) m (-1, 0, -1)).2.1 = iN b := by
  have n9 := L.1
  have aw := L.2.2.2.2.2.1
  obtain ⟨r0, b0, hr0, hb0, h0⟩ := some_s L
  have hV := fR_v (F := woF (rwA y) n (sR y) (cR y) (fun p => rwA y p 4)) (N := 2 ^ n) (P := fun s : TT => s = (-1, 0, -1) ∨ ∃ r b, r < m ∧ b < 2 ^ n ∧ s.1 = iN r ∧ s.2.1 = iN b) (V := fun s : TT => ∃ r b, r < m ∧ b < 2 ^ n ∧ s.1 = iN r ∧ s.2.1 = iN b) (r0 := r0) (b0 := b0) m (-1, 0, -1) (fun r b a hr hb p => by
    unfold woF
    split
    · exact p
    · split
      · exact p
      · exact Or.inr ⟨r, b, hr, hb, rfl, rfl⟩) (fun r b a hr hb p => by
    unfold woF
    split
    · exact p
    · split
      · exact p
      · exact ⟨r, b, hr, hb, rfl, rfl⟩) (fun a p => by
    rw [woF_1 h0]
    by_cases w : hrm (rwA y) (stN (rwA y) n (sR y r0) (iN b0) (-1) n).1 n ≤ a.2.2
    · rw [if_pos w]
      rcases p with p | p
      · rw [p] at w
        obtain ⟨k, k1, k2⟩ := hrm_b (s := (stN (rwA y) n (sR y r0) (iN b0) (-1) n).1) aw n9 n (Nat.le_refl _)
        have w1 := Int32.le_iff_toInt_le.mp w
        rw [k1, iN_ti (by omega)] at w1
        have : (-1 : Int32).toInt = -1 := rfl
        have w2 : (k : Int) ≤ (-1 : Int32).toInt := w1
        omega
      · exact p
    · rw [if_neg w]
      exact ⟨r0, b0, hr0, hb0, rfl, rfl⟩) hr0 hb0 (Or.inl rfl)
  exact hV
theorem wo_eq {A : Nat → Nat → Int32} {n m : Nat} {sr cr ch ch2 : Nat → Int32} {a : TT} (hch : ∀ p, p < n → ch p = ch2 p) : fR (woF A n sr cr ch) (2 ^ n) m a = fR (woF A n sr cr ch2) (2 ^ n) m a := by
  refine fR_c m a (fun r b a hr hb => ?_)
  unfold woF
  rw [wB_c (ch2 := ch2) (b2 := b) n (fun q hq => ⟨hch q hq, rfl⟩)]
theorem R5_worst {u v u1 v2 : MM} {g g' g1 : GG} {hill plan what : Int32} {z w : Int64} (h : RLY u v) (b5 : Bd 0 2 (u 1 5)) (b7 : Bd 0 3 (u 1 7)) (hd : HD v) (pl : PL v) (e1 : (z, u1, g1) = Fx_P_worstX hill plan what u g) (e2 : (w, v2) = Fx_M_worstX hill plan what v g') : z = w := by
  obtain ⟨b, x, y, p1, p2, p3⟩ := lay_Y (g := g) (g' := g') (hill := hill) (plan := plan) h b5 b7 hd pl
  unfold Fx_P_worstX at e1
  unfold Fx_M_worstX at e2
  rw [xqb, p2, c2_mk] at e2
  cases b
  · rw [looks_F p1, c3_mk, if_neg Bool.false_ne_true] at e1
    rw [if_neg Bool.false_ne_true] at e2
    exact (congrArg Prod.fst e1).trans (congrArg Prod.fst e2).symm
  obtain ⟨n, m, L⟩ := p3 rfl
  obtain ⟨x', g2, k1, K, k3⟩ := looks_T (g := g) p1 L
  rw [k1, c3_mk, if_pos rfl] at e1
  rw [if_pos rfl] at e2
  have n9 := L.1
  have m4 := L.2.2.1
  have rr := rr_L L
  have su := sup_m (md := 0) n9 L.2.2.2.2.2.1
  have e5 : (4 - (0 : Int32).toInt).toNat + 1 = 5 := by decide
  have hch : ∀ p, p < n → chM (rwA y) 0 0 p = rwA y p 4 := fun p hp => chM_0 (by omega)
  unfold Fx_O_worstToldX at e1
  have c1 := wo_L (what := what) K.1 su 5 0 (by omega) (by omega)
  have c1' : Fx_O_worstToldX_L10 what x' g2 5 (-1) 0 (-1) 0 = woE x' g2 what (fR (woF (rwA y) n (sR y) (cR y) (chM (rwA y) 0 0)) (2 ^ n) m (-1, 0, -1)) := c1
  rw [xqb, e5, c1', wo_eq hch] at e1
  obtain ⟨r, b, hr, hb, s1, s2⟩ := wo_V L
  obtain ⟨S, hS⟩ : ∃ S, S = fR (woF (rwA y) n (sR y) (cR y) (fun p => rwA y p 4)) (2 ^ n) m (-1, 0, -1) := ⟨_, rfl⟩
  rw [← hS] at s1 s2 e1
  rw [xqb, in_X] at e2
  have z1 : z = woE x' g2 what S := congrArg Prod.fst e1
  rw [z1]
  unfold woE
  have l0 : (0 : Int32).toInt = 0 := rfl
  have l1 : (1 : Int32).toInt = 1 := rfl
  have l2 : (2 : Int32).toInt = 2 := rfl
  have l3 : (3 : Int32).toInt = 3 := rfl
  by_cases hw : 0 ≤ what.toInt ∧ what.toInt ≤ 3
  · obtain ⟨y2, d1, d2⟩ := wr_L (g := g') (what := what) rr 5 0 y (by omega) (by omega) frm_0
    have d1' : Fx_M_worstX_L39 what g' y 5 (-1) 0 (-1) 0 y = (if what = 0 then S.1.toInt64 else if what = 1 then S.2.1.toInt64 else if what = 2 then S.2.2.toInt64 else Fx_M_partsOfX S.1 S.2.1 y2 g', y2) := by rw [hS]; exact d1
    rw [inT (by omega) (by omega), if_pos rfl, e5, d1'] at e2
    have w1 := congrArg Prod.fst e2
    dsimp only at w1
    rw [w1]
    by_cases c0 : what = 0
    · rw [if_pos c0, if_pos c0]
    by_cases c1 : what = 1
    · rw [if_neg c0, if_neg c0, if_pos c1, if_pos c1]
    by_cases c2 : what = 2
    · rw [if_neg c0, if_neg c0, if_neg c1, if_neg c1, if_pos c2, if_pos c2]
    have c3 : what = 3 := by
      refine Int32.toInt_inj.mp ?_
      have d0 : ¬ what.toInt = 0 := fun q => c0 (Int32.toInt_inj.mp q)
      have d1 : ¬ what.toInt = 1 := fun q => c1 (Int32.toInt_inj.mp q)
      have d2 : ¬ what.toInt = 2 := fun q => c2 (Int32.toInt_inj.mp q)
      omega
    have nr : ¬ iN r = -1 := fun q => by
      have q1 := congrArg Int32.toInt q
      rw [iN_ti (by omega)] at q1
      have : (-1 : Int32).toInt = -1 := rfl
      omega
    rw [if_neg c0, if_neg c0, if_neg c1, if_neg c1, if_neg c2, if_neg c2, if_pos c3, s1, s2, if_neg nr, par_X K.1 hr hb, pr_X (rr_c rr d2) hr hb, wB_c (ch2 := fun p => rwA y p 4) (b2 := b) n (fun q hq => ⟨hch q hq, rfl⟩)]
  · have c0 : ¬ what = 0 := fun q => hw (by rw [q]; decide)
    have c1 : ¬ what = 1 := fun q => hw (by rw [q]; decide)
    have c2 : ¬ what = 2 := fun q => hw (by rw [q]; decide)
    have c3 : ¬ what = 3 := fun q => hw (by rw [q]; decide)
    rw [(Bool.not_eq_true _).mp (inF (v := what) (lo := 0) (hi := 3) (by omega)), if_neg Bool.false_ne_true] at e2
    rw [if_neg c0, if_neg c1, if_neg c2, if_neg c3]
    exact (congrArg Prod.fst e2).symm
/-! flood -/
/-! deep -/
end
section
/-! means as numbers; rains that are all dry are as one of them -/
noncomputable def hN (A : Nat → Nat → Int32) (n : Nat) (st : Int32) (b : Nat) : Nat := (hro A (-1) (stN A n st (iN b) (-1) n).1 n).toNatClampNeg
/-! ponds filled -/
end
