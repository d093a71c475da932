section
/-! sets, weights, sums over storms -/
theorem inN : ∀ k, k < 512 → ∀ q, q < 9 → inB (iN k) q = k.testBit q := by decide +kernel
/-- the set of the first ponds that f tells -/
def bset (f : Nat → Bool) : Nat → Nat
  | 0 => 0
  | p + 1 => if f p = true then bset f p + 2 ^ p else bset f p
theorem bset_lt {f : Nat → Bool} : ∀ p, bset f p < 2 ^ p := by
  intro p
  induction p with
  | zero => exact (by decide : (0 : Nat) < 2 ^ 0)
  | succ p ih =>
    show (if f p = true then bset f p + 2 ^ p else bset f p) < 2 ^ (p + 1)
    rw [Nat.pow_succ]
    split <;> omega
theorem tb_add {k p q : Nat} (hk : k < 2 ^ p) (hq : q ≤ p) : (k + 2 ^ p).testBit q = if q = p then true else k.testBit q := by
  rw [Nat.add_comm]
  by_cases y : q = p
  · rw [if_pos y, y, Nat.testBit_two_pow_add_eq, Nat.testBit_lt_two_pow hk]
    rfl
  · rw [if_neg y, Nat.testBit_two_pow_add_gt (by omega)]
theorem bset_or {f : Nat → Bool} {p : Nat} (hp : p < 9) : iN (bset f p) ||| bt p = iN (bset f p + 2 ^ p) := by
  have h3 := p2_le (p := p) (by omega)
  have h4 := bset_lt (f := f) p
  exact (bits9 p hp _ (by omega) h4).2.2
/-! weights -/
def fac (ch : Nat → Int32) (b p : Nat) : Int64 := (if b.testBit p = true then ch p else 10 - ch p).toInt64
def wB (ch : Nat → Int32) (b : Nat) : Nat → Int64
  | 0 => 1
  | p + 1 => wB ch b p * fac ch b p
def prB (ch : Nat → Int32) (b : Nat) (c : Int64) : Nat → Int64
  | 0 => c
  | p + 1 => prB ch b c p * fac ch b p
theorem prB_e {ch : Nat → Int32} {b : Nat} {c : Int64} : ∀ p, prB ch b c p = wB ch b p * c := by
  intro p
  induction p with
  | zero =>
    show c = 1 * c
    rw [Int64.one_mul]
  | succ p ih =>
    show prB ch b c p * fac ch b p = wB ch b p * fac ch b p * c
    rw [ih, Int64.mul_assoc, Int64.mul_assoc, Int64.mul_comm c]
theorem wB_c {ch ch2 : Nat → Int32} {b b2 : Nat} : ∀ p, (∀ q, q < p → ch q = ch2 q ∧ b.testBit q = b2.testBit q) → wB ch b p = wB ch2 b2 p := by
  intro p
  induction p with
  | zero => intro _; rfl
  | succ p ih =>
    intro h
    obtain ⟨h1, h2⟩ := h p (by omega)
    show wB ch b p * fac ch b p = wB ch2 b2 p * fac ch2 b2 p
    unfold fac
    rw [ih (fun q hq => h q (by omega)), h1, h2]
/-! sums over storms -/
def fB {α : Type} (F : Nat → α → α) : Nat → α → α
  | 0, a => a
  | b + 1, a => F b (fB F b a)
def fR {α : Type} (F : Nat → Nat → α → α) (N : Nat) : Nat → α → α
  | 0, a => a
  | r + 1, a => fB (F r) N (fR F N r a)
theorem fB_c {α : Type} {F G : Nat → α → α} : ∀ (n : Nat) (a : α), (∀ b a, b < n → F b a = G b a) → fB F n a = fB G n a := by
  intro n
  induction n with
  | zero => intro a _; rfl
  | succ n ih =>
    intro a h
    show F n (fB F n a) = G n (fB G n a)
    rw [ih a (fun b a hb => h b a (by omega)), h n _ (by omega)]
theorem fR_c {α : Type} {F G : Nat → Nat → α → α} {N : Nat} : ∀ (m : Nat) (a : α), (∀ r b a, r < m → b < N → F r b a = G r b a) → fR F N m a = fR G N m a := by
  intro m
  induction m with
  | zero => intro a _; rfl
  | succ m ih =>
    intro a h
    show fB (F m) N (fR F N m a) = fB (G m) N (fR G N m a)
    rw [ih a (fun r b a hr hb => h r b a (by omega) hb)]
    exact fB_c N _ (fun b a hb => h m b a (by omega) hb)
/-! a storm does not hang on the chances -/
end
section
/-! the class's weights, and what hangs on them -/
theorem zl_c {g : GG} {a b i : Nat} {x : Int64} (h : b ≠ a) : ml g a i x b = g b := if_neg h
theorem zl_i {g : GG} {a i j : Nat} {x : Int64} (h : j ≠ i) : ml g a i x a j = g a j := by
  unfold ml
  rw [if_pos rfl]
  unfold vp_updL
  rw [if_neg h]
theorem btE {p : Nat} (hp : p < 10) : bt p = iN (2 ^ p) := (all_e p hp).2.1
theorem we_I {ih : Int32 → GG → GG} {p : Nat} {ch : Nat → Int32} {c : Int32} (hp : p < 9) (hc : ch p = c) : ∀ (f s : Nat) (g : GG), 2 ^ p - s < f → s ≤ 2 ^ p → (∀ b, b < 2 ^ p → g 68 b = if b < s then wB ch b p * (10 - c).toInt64 else wB ch b p) → (∀ b, b < s → g 68 (b + 2 ^ p) = wB ch b p * c.toInt64) → ∃ g', Fx_O_weighX_L64 ih (iN p) c (bt p) f (iN s) g = ih (iN (p + 1)) g' ∧ (∀ b, b < 2 ^ (p + 1) → g' 68 b = wB ch b (p + 1)) ∧ ∀ a, a ≠ 68 → g' a = g a := by
  have h3 := p2_le (p := p) (by omega)
  intro f
  induction f with
  | zero => intro s g h; omega
  | succ f ih' =>
    intro s g h1 h2 k1 k2
    rw [Fx_O_weighX_L64_s, btE (by omega), iN_s]
    by_cases q : 2 ^ p ≤ s
    · rw [if_pos ((iN_le (by omega) (by omega)).mpr q)]
      refine ⟨g, rfl, fun b hb => ?_, fun _ _ => rfl⟩
      rw [Nat.pow_succ] at hb
      show g 68 b = wB ch b p * fac ch b p
      unfold fac
      by_cases y : b < 2 ^ p
      · rw [k1 b y, if_pos (by omega), Nat.testBit_lt_two_pow y, if_neg (by decide), hc]
      · obtain ⟨d, hd⟩ : ∃ d, b = d + 2 ^ p := ⟨b - 2 ^ p, by omega⟩
        have hd2 : d < 2 ^ p := by omega
        rw [hd, k2 d (by omega), tb_add hd2 (Nat.le_refl p), if_pos rfl, if_pos rfl, hc, wB_c (ch2 := ch) (b := d + 2 ^ p) (b2 := d) p (fun q hq => ⟨rfl, by rw [tb_add hd2 (by omega), if_neg (by omega)]⟩)]
    · have e1 : iN s ||| iN (2 ^ p) = iN (s + 2 ^ p) := by
        rw [← btE (p := p) (by omega)]
        exact (bits9 p hp s (by omega) (by omega)).2.2
      rw [if_neg (fun z => q ((iN_le (by omega) (by omega)).mp z)), xqb, xqb, xqb, xqb, xqb, xqb, xqb, xqb, e1, iN_cl (by omega), iN_cl (by omega), zl_i (j := s) (i := s + 2 ^ p) (by have := Nat.two_pow_pos p; omega), k1 s (by omega), if_neg (Nat.lt_irrefl s), iN_s]
      obtain ⟨g', g1, g2, g3⟩ := ih' (s + 1) (ml (ml g 68 (s + 2 ^ p) (wB ch s p * c.toInt64)) 68 s (wB ch s p * (10 - c).toInt64)) (by omega) (by omega) (fun b hb => by
        by_cases y : b = s
        · rw [y, ml_e, if_pos (by omega)]
        · rw [zl_i y, zl_i (by omega), k1 b hb]
          by_cases w : b < s
          · rw [if_pos w, if_pos (by omega)]
          · rw [if_neg w, if_neg (by omega)]) (fun b hb => by
        rw [zl_i (by omega)]
        by_cases y : b = s
        · rw [y, ml_e]
        · rw [zl_i (by omega)]
          exact k2 b (by omega))
      rw [btE (by omega)] at g1
      exact ⟨g', g1, g2, fun a ha => by rw [g3 a ha, zl_c ha, zl_c ha]⟩
/-- chances with some mended, some weaker -/
def chM (A : Nat → Nat → Int32) (mended weaker : Int32) (p : Nat) : Int32 := if inB mended p = true then 0 else A p 4 + (if inB weaker p = true then 1 else 0)
theorem we_L {u : MM} {n : Nat} {A : Nat → Nat → Int32} {md wk : Int32} (h : HA u 61 n A) (n9 : n ≤ 9) : ∀ (f p : Nat) (g : GG), n - p < f → p ≤ n → (∀ b, b < 2 ^ p → g 68 b = wB (chM A md wk) b p) → ∃ g', Fx_O_weighX_L9 md wk u f (iN p) g = g' ∧ (∀ b, b < 2 ^ n → g' 68 b = wB (chM A md wk) b n) ∧ ∀ a, a ≠ 68 → g' a = g a := by
  intro f
  induction f with
  | zero => intro p g h1; omega
  | succ f ih =>
    intro p g h1 h2 k
    rw [Fx_O_weighX_L9_s, h.1]
    by_cases q : n ≤ p
    · have e : p = n := by omega
      subst e
      rw [if_pos (Int32.le_refl _)]
      exact ⟨g, rfl, k, fun _ _ => rfl⟩
    · have hp : p < n := by omega
      rw [if_neg (fun z => q ((iN_le (by omega) (by omega)).mp z)), if_neg (show ¬ (9 : Int32) ≤ iN p from fun z => by have := (iN_le (a := 9) (by omega) (by omega)).mp z; omega), xqb, isI, heard_e, show hof u 61 (iN p) (4 : Int32) = A p 4 from ha_r (c := 4) h n9 hp (by decide)]
      have J : ∀ c : Int32, chM A md wk p = c → ∃ g', Fx_O_weighX_J53 (Fx_O_weighX_L9 md wk u f) u (iN p) g c = g' ∧ (∀ b, b < 2 ^ n → g' 68 b = wB (chM A md wk) b n) ∧ ∀ a, a ≠ 68 → g' a = g a := by
        intro c hc
        unfold Fx_O_weighX_J53
        have e257 : (256 - (0 : Int32).toInt).toNat + 1 = 257 := by decide
        have hpp : 2 ^ p ≤ 2 ^ 8 := Nat.pow_le_pow_right (by decide) (by omega)
        rw [xqb, b9I (by omega), e257]
        obtain ⟨g1, a1, a2, a3⟩ := we_I (ih := Fx_O_weighX_L9 md wk u f) (p := p) (ch := chM A md wk) (by omega) hc 257 0 g (by omega) (Nat.zero_le _) (fun b hb => by rw [if_neg (by omega)]; exact k b hb) (fun b hb => by omega)
        have a1' : Fx_O_weighX_L64 (Fx_O_weighX_L9 md wk u f) (iN p) c (bt p) 257 0 g = Fx_O_weighX_L9 md wk u f (iN (p + 1)) g1 := a1
        rw [a1']
        obtain ⟨g2, b1, b2, b3⟩ := ih (p + 1) g1 (by omega) (by omega) a2
        exact ⟨g2, b1, b2, fun a ha => (b3 a ha).trans (a3 a ha)⟩
      by_cases y : inB md p = true
      · rw [if_pos y]
        exact J 0 (by unfold chM; rw [if_pos y])
      · rw [if_neg y]
        exact J _ (by unfold chM; rw [if_neg y])
theorem we_X {u : MM} {g : GG} {n : Nat} {A : Nat → Nat → Int32} {md wk : Int32} (h : HA u 61 n A) (n9 : n ≤ 9) : ∃ g', Fx_O_weighX md wk u g = g' ∧ (∀ b, b < 2 ^ n → g' 68 b = wB (chM A md wk) b n) ∧ ∀ a, a ≠ 68 → g' a = g a := by
  unfold Fx_O_weighX
  have e10 : (9 - (0 : Int32).toInt).toNat + 1 = 10 := by decide
  rw [xqb, e10]
  obtain ⟨g', g1, g2, g3⟩ := we_L (md := md) (wk := wk) h n9 10 0 (ml g 68 0 1) (by omega) (by omega) (fun b hb => by
    have e : b = 0 := by rw [Nat.pow_zero] at hb; omega
    rw [e, ml_e]
    rfl)
  exact ⟨g', g1, g2, fun a ha => (g3 a ha).trans (zl_c ha)⟩
/-- the class's odds are ready: storms of banks within mg -/
def OK (x : MM) (g : GG) (n m : Nat) (A : Nat → Nat → Int32) (sr cr : Nat → Int32) (mg : Int32) (ch : Nat → Int32) : Prop := n ≤ 9 ∧ m ≤ 4 ∧ HA x 61 n A ∧ x 61 2 = iN m ∧ (∀ i, i < m → x 63 i = sr i ∧ x 64 i = cr i) ∧ (∀ s, s < 2 ^ n → x 67 s = hrm A (iN s) n) ∧ (∀ r b, r < m → b < 2 ^ n → iN b &&& (mg ^^^ (-1)) = 0 → x 66 (512 * r + b) = (stN A n (sr r) (iN b) (-1) n).1) ∧ ∀ b, b < 2 ^ n → g 68 b = wB ch b n
theorem stm_X {x : MM} {g : GG} {r b : Nat} (hr : r < 4) (hb : b < 512) : Fx_O_isStormX (iN r) (iN b) x g = true := by
  unfold Fx_O_isStormX
  rw [if_neg (show ¬ iN r < (0 : Int32) from fun z => by have := (iN_lt (b := 0) (by omega) (by omega)).mp z; omega), if_neg (show ¬ (4 : Int32) ≤ iN r from fun z => by have := (iN_le (a := 4) (by omega) (by omega)).mp z; omega), if_neg (show ¬ iN b < (0 : Int32) from fun z => by have := (iN_lt (b := 0) (by omega) (by omega)).mp z; omega), if_neg (show ¬ (512 : Int32) ≤ iN b from fun z => by have := (iN_le (a := 512) (by omega) (by omega)).mp z; omega)]
theorem par_X {x : MM} {g : GG} {n m r b : Nat} {A : Nat → Nat → Int32} {sr cr ch : Nat → Int32} {mg : Int32} (h : OK x g n m A sr cr mg ch) (hr : r < m) (hb : b < 2 ^ n) : Fx_O_partsX (iN r) (iN b) x g = wB ch b n * (cr r).toInt64 := by
  obtain ⟨n9, m4, ha, h1, h2, h3, h4, h5⟩ := h
  have p2 := p2_le n9
  unfold Fx_O_partsX Fx_H_chanceOfX
  rw [xqb, stm_X (by omega) (by omega), if_pos rfl, xqb, xqb, xqb, xqb, iN_cl (by omega), h5 b hb, if_neg (show ¬ iN r < (0 : Int32) from fun z => by have := (iN_lt (b := 0) (by omega) (by omega)).mp z; omega), h1, if_neg (fun z => by have := (iN_le (by omega) (by omega)).mp z; omega), xqb, iN_cl (by omega), show x (61 + 3) r = cr r from (h2 r hr).2]
end
section
/-! all storms of the hill in cell 44: the class's look -/
theorem lh44_L {u2 : MM} {g : GG} {n : Nat} {A : Nat → Nat → Int32} {kp mg : Int32} (n9 : n ≤ 9) : ∀ (f s : Nat) (x : MM), 2 ^ n - s < f → s ≤ 2 ^ n → HA x 61 n A → (∀ t, t < s → x 67 t = hrm A (iN t) n) → ∃ y, Fx_O_look_44X_L11 kp mg g u2 f (iN s) x = Fx_O_look_44X_L56 kp mg g u2 5 (iN 0) y ∧ (∀ t, t < 2 ^ n → y 67 t = hrm A (iN t) n) ∧ ∀ c, c ≠ 67 → y c = x c := by
  have p2 := p2_le n9
  have pp := Nat.two_pow_pos n
  intro f
  induction f with
  | zero => intro s x h; omega
  | succ f ih =>
    intro s x h1 h2 ha k
    rw [Fx_O_look_44X_L11_s, all_X ha.1 n9, xqb]
    by_cases q : 2 ^ n ≤ s
    · have e5 : (4 - (0 : Int32).toInt).toNat + 1 = 5 := by decide
      rw [if_pos ((iN_lt (by omega) (by omega)).mpr (by omega)), e5]
      exact ⟨x, rfl, fun t ht => k t (by omega), fun _ _ => rfl⟩
    · rw [if_neg (fun z => by have := (iN_lt (by omega) (by omega)).mp z; omega), if_neg (show ¬ (512 : Int32) ≤ iN s from fun z => by have := (iN_le (a := 512) (by omega) (by omega)).mp z; omega), hm_X ha n9, xqb, xqb, iN_cl (by omega), iN_s]
      obtain ⟨y, y1, y2, y3⟩ := ih (s + 1) (ms x 67 s (hrm A (iN s) n)) (by omega) (by omega) (ha_c ha (ms_c1 (by decide)) (ms_c1 (by decide))) (fun t ht => by
        by_cases w : t = s
        · rw [w, ms_e1]
        · rw [ms_i1 w]; exact k t (by omega))
      exact ⟨y, y1, y2, fun c hc => (y3 c hc).trans (ms_c1 hc)⟩
/-- which storms are known -/
def KN44 (x : MM) (A : Nat → Nat → Int32) (n : Nat) (sr : Nat → Int32) (mg : Int32) (R B : Nat) : Prop := ∀ r b, b < 2 ^ n → r < R ∨ (r = R ∧ b < B) → iN b &&& (mg ^^^ (-1)) = 0 → x 66 (512 * r + b) = (stN A n (sr r) (iN b) (-1) n).1
theorem lb44_L {ih : Int32 → MM → MM × GG} {g : GG} {n m r : Nat} {A : Nat → Nat → Int32} {sr : Nat → Int32} {mg : Int32} (n9 : n ≤ 9) (m4 : m ≤ 4) (hr : r < m) : ∀ (f b : Nat) (x : MM), 2 ^ n - b < f → b ≤ 2 ^ n → HA x 61 n A → x 61 2 = iN m → x 63 r = sr r → KN44 x A n sr mg r b → ∃ y, Fx_O_look_44X_L77 ih (-1) mg g (iN r) f (iN b) x = ih (iN (r + 1)) y ∧ KN44 y A n sr mg (r + 1) 0 ∧ ∀ c, c < 58 ∨ 60 < c → c ≠ 66 → y c = x c := by
  have p2 := p2_le n9
  have pp := Nat.two_pow_pos n
  intro f
  induction f with
  | zero => intro b x h; omega
  | succ f ihf =>
    intro b x h1 h2 ha hm hs k
    rw [Fx_O_look_44X_L77_s, all_X ha.1 n9, xqb, iN_s]
    by_cases q : 2 ^ n ≤ b
    · rw [if_pos ((iN_lt (by omega) (by omega)).mpr (by omega))]
      refine ⟨x, rfl, fun r' b' hb' ho hg => ?_, fun _ _ _ => rfl⟩
      exact k r' b' hb' (by omega) hg
    · unfold Fx_O_look_44X_J150
      rw [if_neg (fun z => by have := (iN_lt (by omega) (by omega)).mp z; omega), if_neg (show ¬ (512 : Int32) ≤ iN b from fun z => by have := (iN_le (a := 512) (by omega) (by omega)).mp z; omega), iN_s]
      by_cases y : iN b &&& (mg ^^^ (-1)) = 0
      · have es : Fx_H_stepsOfX (iN r) 61 x g = sr r := by
          unfold Fx_H_stepsOfX
          rw [if_neg (show ¬ iN r < (0 : Int32) from fun z => by have := (iN_lt (b := 0) (by omega) (by omega)).mp z; omega), hm, if_neg (fun z => by have := (iN_le (by omega) (by omega)).mp z; omega), xqb, iN_cl (by omega)]
          exact hs
        obtain ⟨y1, a0, a1, a2, a3, a4⟩ := rn58_X (g := g) (st := sr r) (bk := iN b) (kp := -1) ha (by decide) n9
        have ei : ((iN r * 512) + iN b).toNatClampNeg = 512 * r + b := by
          show (iN r * iN 512 + iN b).toNatClampNeg = _
          rw [iN_m, iN_a, iN_cl (by omega)]
          omega
        rw [if_pos y, xqb, es, xqb, a0, xqb, ei, a1.1]
        obtain ⟨z, z1, z2, z3⟩ := ihf (b + 1) (ms y1 66 (512 * r + b) (stN A n (sr r) (iN b) (-1) n).1) (by omega) (by omega) (ha_c ha ((ms_c1 (by decide)).trans (a3 61 (by decide))) ((ms_c1 (by decide)).trans (a3 62 (by decide)))) (by rw [ms_c1 (by decide), a3 61 (by decide)]; exact hm) (by rw [ms_c1 (by decide), a3 63 (by decide)]; exact hs) (fun r' b' hb' ho hg => by
          by_cases w : 512 * r' + b' = 512 * r + b
          · have w1 : r' = r := by omega
            have w2 : b' = b := by omega
            rw [w1, w2, ms_e1]
          · rw [ms_i1 w, a3 66 (by decide)]
            refine k r' b' hb' ?_ hg
            by_cases v : r' = r
            · have : b' ≠ b := fun e => w (by rw [v, e])
              omega
            · omega)
        exact ⟨z, z1, z2, fun c c1 c2 => by rw [z3 c c1 c2, ms_c1 c2, a3 c c1]⟩
      · rw [if_neg y]
        exact ihf (b + 1) x (by omega) (by omega) ha hm hs (fun r' b' hb' ho hg => by
          by_cases w : r' = r ∧ b' = b
          · rw [w.2] at hg
            exact absurd hg y
          · exact k r' b' hb' (by omega) hg)
theorem lr44_L {g : GG} {u2 : MM} {n m : Nat} {A : Nat → Nat → Int32} {sr : Nat → Int32} {mg : Int32} (n9 : n ≤ 9) (m4 : m ≤ 4) (h2m : u2 61 2 = iN m) : ∀ (f r : Nat) (x : MM), m - r < f → r ≤ m → HA x 61 n A → x 61 2 = iN m → (∀ i, i < m → x 63 i = sr i) → KN44 x A n sr mg r 0 → ∃ y, Fx_O_look_44X_L56 (-1) mg g u2 f (iN r) x = (y, Fx_O_weighX 0 0 y g) ∧ KN44 y A n sr mg m 0 ∧ ∀ c, c < 58 ∨ 60 < c → c ≠ 66 → y c = x c := by
  intro f
  induction f with
  | zero => intro r x h; omega
  | succ f ih =>
    intro r x h1 h2 ha hm hs k
    rw [Fx_O_look_44X_L56_s, h2m]
    by_cases q : m ≤ r
    · have e : r = m := by omega
      subst e
      rw [if_pos (Int32.le_refl _), xqb]
      exact ⟨x, rfl, k, fun _ _ _ => rfl⟩
    · have e513 : (512 - (0 : Int32).toInt).toNat + 1 = 513 := by decide
      have p2 := p2_le n9
      rw [if_neg (fun z => q ((iN_le (by omega) (by omega)).mp z)), if_neg (show ¬ (4 : Int32) ≤ iN r from fun z => by have := (iN_le (a := 4) (by omega) (by omega)).mp z; omega), e513]
      obtain ⟨y, y1, y2, y3⟩ := lb44_L (ih := Fx_O_look_44X_L56 (-1) mg g u2 f) (g := g) n9 m4 (show r < m by omega) 513 0 x (by omega) (Nat.zero_le _) ha hm (hs r (by omega)) k
      have y1' : Fx_O_look_44X_L77 (Fx_O_look_44X_L56 (-1) mg g u2 f) (-1) mg g (iN r) 513 0 x = Fx_O_look_44X_L56 (-1) mg g u2 f (iN (r + 1)) y := y1
      rw [y1']
      obtain ⟨z, z1, z2, z3⟩ := ih (r + 1) y (by omega) (by omega) (ha_c ha (y3 61 (by decide) (by decide)) (y3 62 (by decide) (by decide))) (by rw [y3 61 (by decide) (by decide)]; exact hm) (fun i hi => by rw [y3 63 (by decide) (by decide)]; exact hs i hi) y2
      exact ⟨z, z1, z2, fun c c1 c2 => (z3 c c1 c2).trans (y3 c c1 c2)⟩
/-- the class's look -/
theorem lk44_X {x : MM} {g : GG} {n m : Nat} {A : Nat → Nat → Int32} {sr cr : Nat → Int32} {mg : Int32} (h0 : HA x 44 n A) (n9 : n ≤ 9) (m4 : m ≤ 4) (hm : x 44 2 = iN m) (hs : ∀ i, i < m → x (44 + 2) i = sr i ∧ x (44 + 3) i = cr i) : ∃ y g', Fx_O_look_44X (-1) mg x g = (y, g') ∧ OK y g' n m A sr cr mg (chM A 0 0) ∧ (∀ c, c < 58 ∨ 67 < c → y c = x c) ∧ ∀ a, a ≠ 68 → g' a = g a := by
  have p2 := p2_le n9
  unfold Fx_O_look_44X
  obtain ⟨x1, hx1⟩ : ∃ x1, x1 = Fx_H_copyX 61 44 x g := ⟨_, rfl⟩
  have cp := hcB (u := x) (g := g) (t := 61) (f := 44) (by omega)
  have hx1' : x1 = Fx_H_copyBX 61 44 x g := hx1
  rw [← hx1'] at cp
  obtain ⟨⟨p0, p2', p3', p4', p5', p6'⟩, pc'⟩ := cp
  have e513 : (512 - (0 : Int32).toInt).toNat + 1 = 513 := by decide
  rw [xqb, ← hx1, e513]
  have ha1 : HA x1 61 n A := ⟨p0.trans h0.1, fun p c hp hc => (p3' (16 * p + c) (by omega)).trans (h0.2 p c hp hc)⟩
  have pp := Nat.two_pow_pos n
  obtain ⟨y, y1, y2, y3⟩ := lh44_L (u2 := x1) (g := g) (kp := -1) (mg := mg) n9 513 0 x1 (by omega) (Nat.zero_le _) ha1 (fun t ht => by omega)
  have y1' : Fx_O_look_44X_L11 (-1) mg g x1 513 0 x1 = Fx_O_look_44X_L56 (-1) mg g x1 5 (iN 0) y := y1
  rw [y1']
  have hay : HA y 61 n A := ha_c ha1 (y3 61 (by decide)) (y3 62 (by decide))
  have hm1 : x1 61 2 = iN m := p2'.trans hm
  have hs1 : ∀ i, i < m → x1 63 i = sr i := fun i hi => (p4' i (by omega)).trans (hs i hi).1
  have hc1 : ∀ i, i < m → x1 64 i = cr i := fun i hi => (p5' i (by omega)).trans (hs i hi).2
  obtain ⟨z, z1, z2, z3⟩ := lr44_L (g := g) (mg := mg) (sr := sr) n9 m4 hm1 5 0 y (by omega) (by omega) hay (by rw [y3 61 (by decide)]; exact hm1) (fun i hi => by rw [y3 63 (by decide)]; exact hs1 i hi) (fun r b hb ho hg => by omega)
  rw [z1]
  have haz : HA z 61 n A := ha_c hay (z3 61 (by decide) (by decide)) (z3 62 (by decide) (by decide))
  obtain ⟨g', g1, g2, g3⟩ := we_X (g := g) (md := 0) (wk := 0) haz n9
  refine ⟨z, g', by rw [g1], ⟨n9, m4, haz, ?_, fun i hi => ⟨?_, ?_⟩, fun s hs' => ?_, fun r b hr hb hg => z2 r b hb (Or.inl hr) hg, g2⟩, fun c hc => ?_, g3⟩
  · rw [z3 61 (by decide) (by decide), y3 61 (by decide)]; exact hm1
  · rw [z3 63 (by decide) (by decide), y3 63 (by decide)]; exact hs1 i hi
  · rw [z3 64 (by decide) (by decide), y3 64 (by decide)]; exact hc1 i hi
  · rw [z3 67 (by decide) (by decide)]; exact y2 s hs'
  · rw [z3 c (by omega) (by omega), y3 c (by omega), pc' c (by omega)]
end
section
/-! weak banks, owners; the class looks -/
def wkF (A : Nat → Nat → Int32) (p : Nat) : Bool := decide (¬ A p 4 ≤ 0)
theorem wk_L {x : MM} {g : GG} {t n : Nat} {A : Nat → Nat → Int32} (h : HA x t n A) (n9 : n ≤ 9) : ∀ (f p : Nat), n - p < f → p ≤ n → Fx_H_weakX_L4 t x g f (iN (bset (wkF A) p)) (iN p) = iN (bset (wkF A) n) := by
  intro f
  induction f with
  | zero => intro p h1; omega
  | succ f ih =>
    intro p h1 h2
    rw [Fx_H_weakX_L4_s, h.1]
    by_cases q : n ≤ p
    · rw [if_pos ((iN_le (by omega) (by omega)).mpr q), show p = n by omega]
    · have e : bset (wkF A) (p + 1) = if wkF A p = true then bset (wkF A) p + 2 ^ p else bset (wkF A) p := rfl
      have k := ih (p + 1) (by omega) (by omega)
      rw [if_neg (fun z => q ((iN_le (by omega) (by omega)).mp z)), show hof x t (iN p) (4 : Int32) = A p 4 from ha_r (c := 4) h n9 (by omega) (by decide)]
      unfold Fx_H_weakX_J28
      rw [iN_s]
      by_cases y : A p 4 ≤ 0
      · rw [if_neg (show ¬ wkF A p = true from fun z => (of_decide_eq_true z) y)] at e
        rw [if_pos y, ← e]
        exact k
      · rw [if_pos (show wkF A p = true from decide_eq_true y)] at e
        rw [if_neg y, xqb, b9I (by omega), bset_or (by omega), ← e]
        exact k
theorem wk_X {x : MM} {g : GG} {t n : Nat} {A : Nat → Nat → Int32} (h : HA x t n A) (n9 : n ≤ 9) : Fx_H_weakX t x g = iN (bset (wkF A) n) := by
  unfold Fx_H_weakX
  have e : (9 - (0 : Int32).toInt).toNat + 1 = 10 := by decide
  rw [e]
  exact wk_L h n9 10 0 (by omega) (by omega)
theorem chM_m {A : Nat → Nat → Int32} {md : Int32} {p : Nat} (hp : p < 9) : chM A md 0 p = if inB md p = true then 0 else A p 4 := by
  unfold chM
  rw [inB_0 p hp, if_neg Bool.false_ne_true, Int32.add_zero]
theorem chM_0 {A : Nat → Nat → Int32} {p : Nat} (hp : p < 9) : chM A 0 0 p = A p 4 := by
  rw [chM_m hp, inB_0 p hp, if_neg Bool.false_ne_true]
def sR (y : MM) (i : Nat) : Int32 := y 172 (5 + 2 * i)
def cR (y : MM) (i : Nat) : Int32 := y 172 (6 + 2 * i)
/-- the class has looked at what is laid -/
def LKD (x' : MM) (g1 : GG) (y : MM) (n m : Nat) : Prop := OK x' g1 n m (rwA y) (sR y) (cR y) (iN (bset (wkF (rwA y)) n)) (chM (rwA y) 0 0) ∧ LDF x' y n m
theorem lo_Y {x y : MM} {g : GG} {n m : Nat} (L : LDF x y n m) : ∃ x' g1, Fx_O_look_44X (-1) (Fx_H_weakX 44 x g) x g = (x', g1) ∧ LKD x' g1 y n m ∧ ∀ a, a ≠ 68 → g1 a = g a := by
  have n9 := L.1
  rw [wk_X L.2.2.2.1 n9]
  obtain ⟨x', g1, k1, k2, k3, k4⟩ := lk44_X (g := g) (mg := iN (bset (wkF (rwA y)) n)) (sr := sR y) (cr := cR y) L.2.2.2.1 n9 L.2.2.1 L.2.2.2.2.2.2.1 (fun i hi => ⟨(L.2.2.2.2.2.2.2.2.1 i hi).1, (L.2.2.2.2.2.2.2.2.1 i hi).2.1⟩)
  exact ⟨x', g1, k1, ⟨k2, ldf_c L (fun c c1 c2 => k3 c (by omega)) rfl (fun _ _ _ => rfl)⟩, k4⟩
theorem looks_F {u x : MM} {g : GG} {hill plan : Int32} (p1 : Fx_P_laysX hill plan u g = (false, x)) : Fx_P_looksX hill plan u g = (false, x, g) := by
  unfold Fx_P_looksX
  rw [p1]
  rfl
theorem looks_T {u x y : MM} {g : GG} {n m : Nat} {hill plan : Int32} (p1 : Fx_P_laysX hill plan u g = (true, x)) (L : LDF x y n m) : ∃ x' g1, Fx_P_looksX hill plan u g = (true, x', g1) ∧ LKD x' g1 y n m ∧ ∀ a, a ≠ 68 → g1 a = g a := by
  unfold Fx_P_looksX
  rw [p1, c2_mk, if_pos rfl, xqb]
  obtain ⟨x', g1, k1, k2, k3⟩ := lo_Y (g := g) L
  rw [k1, c2_mk]
  exact ⟨x', g1, rfl, k2, k3⟩
/-! the reference's sums -/
/-- the reference is ready for storms -/
def RR (y : MM) (n m : Nat) (A : Nat → Nat → Int32) (sr cr : Nat → Int32) : Prop := n ≤ 9 ∧ m ≤ 4 ∧ RMA y n A ∧ AWF n A ∧ y 162 26 = -1 ∧ y 162 27 = 0 ∧ y 172 1 = iN m ∧ ∀ i, i < m → y 172 (5 + 2 * i) = sr i ∧ y 172 (6 + 2 * i) = cr i ∧ Bd 0 9 (sr i)
def FRM (y' y : MM) : Prop := (∀ c, c ≠ 162 → c ≠ 173 → c ≠ 174 → c ≠ 175 → y' c = y c) ∧ ∀ j, j ≠ 31 → j ≠ 32 → j ≠ 33 → y' 162 j = y 162 j
theorem frm_0 {y : MM} : FRM y y := ⟨fun _ _ _ _ _ => rfl, fun _ _ _ _ => rfl⟩
theorem frm_t {a b c : MM} (h1 : FRM a b) (h2 : FRM b c) : FRM a c := ⟨fun i i1 i2 i3 i4 => (h1.1 i i1 i2 i3 i4).trans (h2.1 i i1 i2 i3 i4), fun j j1 j2 j3 => (h1.2 j j1 j2 j3).trans (h2.2 j j1 j2 j3)⟩
theorem rr_c {y y' : MM} {n m : Nat} {A : Nat → Nat → Int32} {sr cr : Nat → Int32} (h : RR y n m A sr cr) (f : FRM y' y) : RR y' n m A sr cr := by
  obtain ⟨n9, m4, ma, aw, h26, h27, h1, hr⟩ := h
  have e172 : y' 172 = y 172 := f.1 172 (by decide) (by decide) (by decide) (by decide)
  refine ⟨n9, m4, ma_c ma (f.2 22 (by decide) (by decide) (by decide)) e172, aw, ?_, ?_, ?_, ?_⟩
  · rw [f.2 26 (by decide) (by decide) (by decide)]; exact h26
  · rw [f.2 27 (by decide) (by decide) (by decide)]; exact h27
  · rw [e172]; exact h1
  · rw [e172]; exact hr
theorem rr_L {x y : MM} {n m : Nat} (L : LDF x y n m) : RR y n m (rwA y) (sR y) (cR y) := ⟨L.1, L.2.2.1, L.2.2.2.2.1, L.2.2.2.2.2.1, L.2.2.2.2.2.2.2.2.2.2.2.1, L.2.2.2.2.2.2.2.2.2.2.2.2.1, L.2.2.2.2.2.2.2.1, fun i hi => ⟨rfl, rfl, (L.2.2.2.2.2.2.2.2.1 i hi).2.2.1⟩⟩
theorem pr_L {y : MM} {g : GG} {n m b : Nat} {A : Nat → Nat → Int32} {sr cr : Nat → Int32} {c : Int64} (h : RR y n m A sr cr) (hb : b < 2 ^ n) : ∀ (f p : Nat), n - p < f → p ≤ n → Fx_M_partsOfX_L17 (iN b) y g f (prB (fun p => A p 4) b c p) (iN p) = prB (fun p => A p 4) b c n := by
  have n9 := h.1
  have p2 := p2_le n9
  intro f
  induction f with
  | zero => intro p h1; omega
  | succ f ih =>
    intro p h1 h2
    rw [Fx_M_partsOfX_L17_s, h.2.2.1.1]
    by_cases q : n ≤ p
    · rw [if_pos ((iN_le (by omega) (by omega)).mpr q), show p = n by omega]
    · have k := ih (p + 1) (by omega) (by omega)
      have e : prB (fun p => A p 4) b c (p + 1) = prB (fun p => A p 4) b c p * (if b.testBit p = true then A p 4 else 10 - A p 4).toInt64 := rfl
      rw [e] at k
      rw [if_neg (fun z => q ((iN_le (by omega) (by omega)).mp z)), xqb, hasI, inN b (by omega) p (by omega), show mof y (iN p) (4 : Int32) = A p 4 from ma_r (c := 4) h.2.2.1 n9 (by omega) (by decide)]
      unfold Fx_M_partsOfX_J58
      rw [iN_s]
      by_cases t : b.testBit p = true
      · rw [if_pos t] at k ⊢
        rw [xqb, xqb]
        exact k
      · rw [if_neg t] at k ⊢
        rw [xqb, xqb]
        exact k
theorem pr_X {y : MM} {g : GG} {n m r b : Nat} {A : Nat → Nat → Int32} {sr cr : Nat → Int32} (h : RR y n m A sr cr) (hr : r < m) (hb : b < 2 ^ n) : Fx_M_partsOfX (iN r) (iN b) y g = wB (fun p => A p 4) b n * (cr r).toInt64 := by
  unfold Fx_M_partsOfX
  have n9 := h.1
  have m4 := h.2.1
  have e : (((5 : Int32) + ((2 : Int32) * iN r)) + 1).toNatClampNeg = 6 + 2 * r := by
    show ((iN 5 + iN 2 * iN r) + iN 1).toNatClampNeg = _
    rw [iN_m, iN_a, iN_a, iN_cl (by omega)]
    omega
  have e10 : (9 - (0 : Int32).toInt).toNat + 1 = 10 := by decide
  rw [xqb, xqb, e, (h.2.2.2.2.2.2.2 r hr).2.1, e10, ← prB_e]
  exact pr_L h hb 10 0 (by omega) (by omega)
/-- a storm of the reference, ready for the next one -/
theorem sto_X {y : MM} {g : GG} {n m r : Nat} {A : Nat → Nat → Int32} {sr cr : Nat → Int32} {bk : Int32} (h : RR y n m A sr cr) (hr : r < m) : ∃ y1, Fx_M_blowX (Fx_M_stepsOfX (iN r) y g) bk y g = y1 ∧ RS y1 (stN A n (sr r) bk (-1) n) n n ∧ FRM y1 y := by
  obtain ⟨n9, m4, ma, aw, h26, h27, h1, hs⟩ := h
  obtain ⟨r1, r2, r3⟩ := hs r hr
  have es : Fx_M_stepsOfX (iN r) y g = sr r := by
    unfold Fx_M_stepsOfX
    have e : ((5 : Int32) + ((2 : Int32) * iN r)).toNatClampNeg = 5 + 2 * r := by
      show (iN 5 + iN 2 * iN r).toNatClampNeg = _
      rw [iN_m, iN_a, iN_cl (by omega)]
    rw [h27, if_pos rfl, xqb, e]
    exact r1
  rw [es]
  obtain ⟨y1, b0, b1, b2, b3⟩ := rbl_X (g := g) (bk := bk) ma n9 aw h26 r3
  exact ⟨y1, b0, b1, b2, b3⟩
end
section
/-! worst, flood, deep -/
/-! flood -/
theorem ok_c {x y : MM} {g : GG} {n m : Nat} {A : Nat → Nat → Int32} {sr cr ch : Nat → Int32} {mg : Int32} (h : OK x g n m A sr cr mg ch) (hc : ∀ c, 60 < c → y c = x c) : OK y g n m A sr cr mg ch := by
  obtain ⟨n9, m4, ha, h1, h2, h3, h4, h5⟩ := h
  refine ⟨n9, m4, ha_c ha (hc 61 (by decide)) (hc 62 (by decide)), ?_, fun i hi => ?_, fun s hs => ?_, fun r b hr hb hg => ?_, h5⟩
  · rw [hc 61 (by decide)]; exact h1
  · rw [hc 63 (by decide), hc 64 (by decide)]; exact h2 i hi
  · rw [hc 67 (by decide)]; exact h3 s hs
  · rw [hc 66 (by decide)]; exact h4 r b hr hb hg
theorem sp61_X {x : MM} {g : GG} {n m r : Nat} {A : Nat → Nat → Int32} {sr cr ch : Nat → Int32} {mg : Int32} (h : OK x g n m A sr cr mg ch) (hr : r < m) : Fx_H_stepsOfX (iN r) 61 x g = sr r := by
  obtain ⟨n9, m4, ha, h1, h2, h3, h4, h5⟩ := h
  unfold Fx_H_stepsOfX
  rw [if_neg (show ¬ iN r < (0 : Int32) from fun z => by have := (iN_lt (b := 0) (by omega) (by omega)).mp z; omega), h1, if_neg (fun z => by have := (iN_le (by omega) (by omega)).mp z; omega), xqb, iN_cl (by omega)]
  exact (h2 r hr).1
noncomputable def flF (A : Nat → Nat → Int32) (n : Nat) (sr cr ch : Nat → Int32) (r b : Nat) (a : Int32) : Int32 := if lg_cmp (wB ch b n * (cr r).toInt64) (0 : Int64) ≤ 0 then a else if a < (stN A n (sr r) (iN b) (-1) n).2.2.1 then (stN A n (sr r) (iN b) (-1) n).2.2.1 else a
theorem flF_0 {A : Nat → Nat → Int32} {n r b : Nat} {sr cr ch : Nat → Int32} {a : Int32} (h : lg_cmp (wB ch b n * (cr r).toInt64) (0 : Int64) ≤ 0) : flF A n sr cr ch r b a = a := if_pos h
theorem flF_1 {A : Nat → Nat → Int32} {n r b : Nat} {sr cr ch : Nat → Int32} {a : Int32} (h : ¬ lg_cmp (wB ch b n * (cr r).toInt64) (0 : Int64) ≤ 0) : flF A n sr cr ch r b a = if a < (stN A n (sr r) (iN b) (-1) n).2.2.1 then (stN A n (sr r) (iN b) (-1) n).2.2.1 else a := if_neg h
theorem fl_I {g : GG} {n m r : Nat} {A : Nat → Nat → Int32} {sr cr ch : Nat → Int32} {mg : Int32} {ih : Int32 → Int32 → MM → Int32 × MM} (hr : r < m) (a0 : Int32) : ∀ (f b : Nat) (x : MM), 2 ^ n - b < f → b ≤ 2 ^ n → OK x g n m A sr cr mg ch → ∃ x', Fx_O_mostInBrookX_L17 ih g (iN r) f (fB (flF A n sr cr ch r) b a0) (iN b) x = ih (fB (flF A n sr cr ch r) (2 ^ n) a0) (iN (r + 1)) x' ∧ OK x' g n m A sr cr mg ch := by
  intro f
  induction f with
  | zero => intro b x h1; omega
  | succ f ihf =>
    intro b x h1 h2 h
    have n9 := h.1
    have p2 := p2_le n9
    have pp := Nat.two_pow_pos n
    rw [Fx_O_mostInBrookX_L17_s, all_X h.2.2.1.1 n9, xqb, iN_s]
    by_cases q : 2 ^ n ≤ b
    · rw [if_pos ((iN_lt (by omega) (by omega)).mpr (by omega)), show b = 2 ^ n by omega]
      exact ⟨x, rfl, h⟩
    · have hb : b < 2 ^ n := by omega
      have e : fB (flF A n sr cr ch r) (b + 1) a0 = flF A n sr cr ch r b (fB (flF A n sr cr ch r) b a0) := rfl
      rw [if_neg (fun z => by have := (iN_lt (by omega) (by omega)).mp z; omega), xqb, par_X h hr hb]
      unfold Fx_O_mostInBrookX_J72
      rw [iN_s]
      by_cases z : lg_cmp (wB ch b n * (cr r).toInt64) (0 : Int64) ≤ 0
      · obtain ⟨x', k1, k2⟩ := ihf (b + 1) x (by omega) (by omega) h
        rw [e, flF_0 z] at k1
        rw [if_pos z]
        exact ⟨x', k1, k2⟩
      · obtain ⟨y1, a0', a1, a2, a3, a4⟩ := rn58_X (g := g) (st := sr r) (bk := iN b) (kp := -1) h.2.2.1 (by decide) n9
        obtain ⟨x', k1, k2⟩ := ihf (b + 1) y1 (by omega) (by omega) (ok_c h (fun c hc => a3 c (Or.inr hc)))
        rw [e, flF_1 z] at k1
        rw [if_neg z, xqb, sp61_X h hr, xqb, a0', xqb, a1.2.2.1]
        exact ⟨x', k1, k2⟩
theorem fl_L {u : MM} {g : GG} {n m : Nat} {A : Nat → Nat → Int32} {sr cr ch : Nat → Int32} {mg : Int32} (h2m : u 61 2 = iN m) : ∀ (f r : Nat) (x : MM), m - r < f → r ≤ m → OK x g n m A sr cr mg ch → ∃ x', Fx_O_mostInBrookX_L4 u g f (fR (flF A n sr cr ch) (2 ^ n) r 0) (iN r) x = (fR (flF A n sr cr ch) (2 ^ n) m 0, x') := by
  intro f
  induction f with
  | zero => intro r x h1; omega
  | succ f ihf =>
    intro r x h1 h2 h
    have m4 := h.2.1
    have p2 := p2_le h.1
    rw [Fx_O_mostInBrookX_L4_s, h2m]
    by_cases q : m ≤ r
    · rw [if_pos ((iN_le (by omega) (by omega)).mpr q), show r = m by omega]
      exact ⟨x, rfl⟩
    · have e513 : (512 - (0 : Int32).toInt).toNat + 1 = 513 := by decide
      rw [if_neg (fun z => q ((iN_le (by omega) (by omega)).mp z)), e513]
      obtain ⟨x1, k1, k2⟩ := fl_I (ih := Fx_O_mostInBrookX_L4 u g f) (show r < m by omega) (fR (flF A n sr cr ch) (2 ^ n) r 0) 513 0 x (by omega) (Nat.zero_le _) h
      obtain ⟨x', j1⟩ := ihf (r + 1) x1 (by omega) (by omega) k2
      exact ⟨x', Eq.trans k1 j1⟩
theorem mx_le {a b : Int32} : (if b ≤ a then a else b) = if a < b then b else a := by
  by_cases q : b ≤ a
  · rw [if_pos q, if_neg (fun z => by
      have z1 := Int32.lt_iff_toInt_lt.mp z
      have z2 := Int32.le_iff_toInt_le.mp q
      omega)]
  · rw [if_neg q, if_pos (by
      refine Int32.lt_iff_toInt_lt.mpr ?_
      have : ¬ b.toInt ≤ a.toInt := fun z => q (Int32.le_iff_toInt_le.mpr z)
      omega)]
theorem fm_I {u y : MM} {g : GG} {n m r : Nat} {A : Nat → Nat → Int32} {sr cr : Nat → Int32} {ih : Int32 → Int32 → MM → Int32 × MM} (h22 : u 162 22 = iN n) (hr : r < m) (a0 : Int32) (h0 : RR y n m A sr cr) : ∀ (f b : Nat) (y1 : MM), 2 ^ n - b < f → b ≤ 2 ^ n → FRM y1 y → ∃ y2, Fx_M_floodX_L35 ih g u (iN r) f (fB (flF A n sr cr (fun p => A p 4) r) b a0) (iN b) y1 = ih (fB (flF A n sr cr (fun p => A p 4) r) (2 ^ n) a0) (iN (r + 1)) y2 ∧ FRM y2 y := by
  have n9 := h0.1
  have p2 := p2_le n9
  have pp := Nat.two_pow_pos n
  intro f
  induction f with
  | zero => intro b y1 h1; omega
  | succ f ihf =>
    intro b y1 h1 h2 fr
    have h := rr_c h0 fr
    rw [Fx_M_floodX_L35_s, h22, (all_e n (by omega)).2.1, iN_s]
    by_cases q : 2 ^ n ≤ b
    · rw [if_pos ((iN_le (by omega) (by omega)).mpr q), show b = 2 ^ n by omega]
      exact ⟨y1, rfl, fr⟩
    · have hb : b < 2 ^ n := by omega
      have e : fB (flF A n sr cr (fun p => A p 4) r) (b + 1) a0 = flF A n sr cr (fun p => A p 4) r b (fB (flF A n sr cr (fun p => A p 4) r) b a0) := rfl
      rw [if_neg (fun z => q ((iN_le (by omega) (by omega)).mp z)), xqb, pr_X h hr hb]
      unfold Fx_M_floodX_J87 Fx_M_floodX_J88
      rw [iN_s]
      by_cases z : lg_cmp (wB (fun p => A p 4) b n * (cr r).toInt64) (0 : Int64) ≤ 0
      · obtain ⟨y2, k1, k2⟩ := ihf (b + 1) y1 (by omega) (by omega) fr
        rw [e, flF_0 z] at k1
        rw [if_pos z]
        exact ⟨y2, k1, k2⟩
      · obtain ⟨y3, s1, s2, s3⟩ := sto_X (g := g) (bk := iN b) h hr
        obtain ⟨y2, k1, k2⟩ := ihf (b + 1) y3 (by omega) (by omega) (frm_t s3 fr)
        rw [e, flF_1 z, ← mx_le] at k1
        rw [if_neg z, xqb, xqb, s1, s2.2.2.1]
        by_cases w : (stN A n (sr r) (iN b) (-1) n).2.2.1 ≤ fB (flF A n sr cr (fun p => A p 4) r) b a0
        · rw [if_pos w] at k1 ⊢
          exact ⟨y2, k1, k2⟩
        · rw [if_neg w] at k1 ⊢
          exact ⟨y2, k1, k2⟩
theorem fm_L {u : MM} {g : GG} {n m : Nat} {A : Nat → Nat → Int32} {sr cr : Nat → Int32} (h0 : RR u n m A sr cr) : ∀ (f r : Nat) (y1 : MM), m - r < f → r ≤ m → FRM y1 u → ∃ y2, Fx_M_floodX_L21 g u f (fR (flF A n sr cr (fun p => A p 4)) (2 ^ n) r 0) (iN r) y1 = (fR (flF A n sr cr (fun p => A p 4)) (2 ^ n) m 0, y2) := by
  have m4 := h0.2.1
  have p2 := p2_le h0.1
  intro f
  induction f with
  | zero => intro r y1 h1; omega
  | succ f ihf =>
    intro r y1 h1 h2 fr
    rw [Fx_M_floodX_L21_s, h0.2.2.2.2.2.2.1]
    by_cases q : m ≤ r
    · rw [if_pos ((iN_le (by omega) (by omega)).mpr q), show r = m by omega]
      exact ⟨y1, rfl⟩
    · have e513 : (512 - (0 : Int32).toInt).toNat + 1 = 513 := by decide
      rw [if_neg (fun z => q ((iN_le (by omega) (by omega)).mp z)), e513]
      obtain ⟨y3, k1, k2⟩ := fm_I (ih := Fx_M_floodX_L21 g u f) (g := g) h0.2.2.1.1 (show r < m by omega) (fR (flF A n sr cr (fun p => A p 4)) (2 ^ n) r 0) h0 513 0 y1 (by omega) (Nat.zero_le _) fr
      obtain ⟨y2, j1⟩ := ihf (r + 1) y3 (by omega) (by omega) k2
      exact ⟨y2, Eq.trans k1 j1⟩
theorem fl_eq {A : Nat → Nat → Int32} {n m : Nat} {sr cr ch ch2 : Nat → Int32} {a : Int32} (hch : ∀ p, p < n → ch p = ch2 p) : fR (flF A n sr cr ch) (2 ^ n) m a = fR (flF A n sr cr ch2) (2 ^ n) m a := by
  refine fR_c m a (fun r b a hr hb => ?_)
  unfold flF
  rw [wB_c (ch2 := ch2) (b2 := b) n (fun q hq => ⟨hch q hq, rfl⟩)]
theorem R5_flood {u v u1 v2 : MM} {g g' g1 : GG} {hill plan z w : Int32} (h : RLY u v) (b5 : Bd 0 2 (u 1 5)) (b7 : Bd 0 3 (u 1 7)) (hd : HD v) (pl : PL v) (e1 : (z, u1, g1) = Fx_P_floodX hill plan u g) (e2 : (w, v2) = Fx_M_floodX hill plan v g') : z = w := by
  obtain ⟨b, x, y, p1, p2, p3⟩ := lay_Y (g := g) (g' := g') (hill := hill) (plan := plan) h b5 b7 hd pl
  unfold Fx_P_floodX at e1
  unfold Fx_M_floodX at e2
  rw [xqb, p2, c2_mk] at e2
  cases b
  · rw [looks_F p1, c3_mk, if_neg Bool.false_ne_true] at e1
    rw [if_neg Bool.false_ne_true] at e2
    exact (congrArg Prod.fst e1).trans (congrArg Prod.fst e2).symm
  obtain ⟨n, m, L⟩ := p3 rfl
  obtain ⟨x', g2, k1, K, k3⟩ := looks_T (g := g) p1 L
  rw [k1, c3_mk, if_pos rfl] at e1
  rw [if_pos rfl] at e2
  have n9 := L.1
  have m4 := L.2.2.1
  have rr := rr_L L
  have e5 : (4 - (0 : Int32).toInt).toNat + 1 = 5 := by decide
  unfold Fx_O_mostInBrookX at e1
  obtain ⟨x2, c1⟩ := fl_L K.1.2.2.2.1 5 0 x' (by omega) (by omega) K.1
  have c1' : Fx_O_mostInBrookX_L4 x' g2 5 0 0 x' = (fR (flF (rwA y) n (sR y) (cR y) (chM (rwA y) 0 0)) (2 ^ n) m 0, x2) := c1
  rw [e5, c1', c2_mk, fl_eq (ch2 := fun p => rwA y p 4) (fun p hp => chM_0 (by omega))] at e1
  obtain ⟨y2, d1⟩ := fm_L (g := g') rr 5 0 y (by omega) (by omega) frm_0
  have d1' : Fx_M_floodX_L21 g' y 5 0 0 y = (fR (flF (rwA y) n (sR y) (cR y) (fun p => rwA y p 4)) (2 ^ n) m 0, y2) := d1
  rw [e5, d1'] at e2
  exact (congrArg Prod.fst e1).trans (congrArg Prod.fst e2).symm
/-! deep -/
end
section
/-! means as numbers; rains that are all dry are as one of them -/
noncomputable def hN (A : Nat → Nat → Int32) (n : Nat) (st : Int32) (b : Nat) : Nat := (hro A (-1) (stN A n st (iN b) (-1) n).1 n).toNatClampNeg
/-! ponds filled -/
end
