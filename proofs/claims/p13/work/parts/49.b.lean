/-! the class's weights, and what hangs on them -/
theorem zl_c {g : GG} {a b i : Nat} {x : Int64} (h : b ≠ a) : ml g a i x b = g b := if_neg h
theorem zl_i {g : GG} {a i j : Nat} {x : Int64} (h : j ≠ i) : ml g a i x a j = g a j := by
  unfold ml
  rw [if_pos rfl]
  unfold vp_updL
  rw [if_neg h]
theorem btE {p : Nat} (hp : p < 10) : bt p = iN (2 ^ p) := (all_e p hp).2.1
theorem we_I {ih : Int32 → GG → GG} {p : Nat} {ch : Nat → Int32} {c : Int32} (hp : p < 9) (hc : ch p = c) : ∀ (f s : Nat) (g : GG), 2 ^ p - s < f → s ≤ 2 ^ p → (∀ b, b < 2 ^ p → g 68 b = if b < s then wB ch b p * (10 - c).toInt64 else wB ch b p) → (∀ b, b < s → g 68 (b + 2 ^ p) = wB ch b p * c.toInt64) → ∃ g', Fx_O_weighX_L64 ih (iN p) c (bt p) f (iN s) g = ih (iN (p + 1)) g' ∧ (∀ b, b < 2 ^ (p + 1) → g' 68 b = wB ch b (p + 1)) ∧ ∀ a, a ≠ 68 → g' a = g a := by
  have h3 := p2_le (p := p) (by omega)
  intro f
  induction f with
  | zero => intro s g h; omega
  | succ f ih' =>
    intro s g h1 h2 k1 k2
    rw [Fx_O_weighX_L64_s, btE (by omega), iN_s]
    by_cases q : 2 ^ p ≤ s
    · rw [if_pos ((iN_le (by omega) (by omega)).mpr q)]
      refine ⟨g, rfl, fun b hb => ?_, fun _ _ => rfl⟩
      rw [Nat.pow_succ] at hb
      show g 68 b = wB ch b p * fac ch b p
      unfold fac
      by_cases y : b < 2 ^ p
      · rw [k1 b y, if_pos (by omega), Nat.testBit_lt_two_pow y, if_neg (by decide), hc]
      · obtain ⟨d, hd⟩ : ∃ d, b = d + 2 ^ p := ⟨b - 2 ^ p, by omega⟩
        have hd2 : d < 2 ^ p := by omega
        rw [hd, k2 d (by omega), tb_add hd2 (Nat.le_refl p), if_pos rfl, if_pos rfl, hc, wB_c (ch2 := ch) (b := d + 2 ^ p) (b2 := d) p (fun q hq => ⟨rfl, by rw [tb_add hd2 (by omega), if_neg (by omega)]⟩)]
    · have e1 : iN s ||| iN (2 ^ p) = iN (s + 2 ^ p) := by
        rw [← btE (p := p) (by omega)]
        exact (bits9 p hp s (by omega) (by omega)).2.2
      rw [if_neg (fun z => q ((iN_le (by omega) (by omega)).mp z)), xqb, xqb, xqb, xqb, xqb, xqb, xqb, xqb, e1, iN_cl (by omega), iN_cl (by omega), zl_i (j := s) (i := s + 2 ^ p) (by have := Nat.two_pow_pos p; omega), k1 s (by omega), if_neg (Nat.lt_irrefl s), iN_s]
      obtain ⟨g', g1, g2, g3⟩ := ih' (s + 1) (ml (ml g 68 (s + 2 ^ p) (wB ch s p * c.toInt64)) 68 s (wB ch s p * (10 - c).toInt64)) (by omega) (by omega) (fun b hb => by
        by_cases y : b = s
        · rw [y, ml_e, if_pos (by omega)]
        · rw [zl_i y, zl_i (by omega), k1 b hb]
          by_cases w : b < s
          · rw [if_pos w, if_pos (by omega)]
          · rw [if_neg w, if_neg (by omega)]) (fun b hb => by
        rw [zl_i (by omega)]
        by_cases y : b = s
        · rw [y, ml_e]
        · rw [zl_i (by omega)]
          exact k2 b (by omega))
      rw [btE (by omega)] at g1
      exact ⟨g', g1, g2, fun a ha => by rw [g3 a ha, zl_c ha, zl_c ha]⟩
/-- chances with some mended, some weaker -/
def chM (A : Nat → Nat → Int32) (mended weaker : Int32) (p : Nat) : Int32 := if inB mended p = true then 0 else A p 4 + (if inB weaker p = true then 1 else 0)
theorem we_L {u : MM} {n : Nat} {A : Nat → Nat → Int32} {md wk : Int32} (h : HA u 61 n A) (n9 : n ≤ 9) : ∀ (f p : Nat) (g : GG), n - p < f → p ≤ n → (∀ b, b < 2 ^ p → g 68 b = wB (chM A md wk) b p) → ∃ g', Fx_O_weighX_L9 md wk u f (iN p) g = g' ∧ (∀ b, b < 2 ^ n → g' 68 b = wB (chM A md wk) b n) ∧ ∀ a, a ≠ 68 → g' a = g a := by
  intro f
  induction f with
  | zero => intro p g h1; omega
  | succ f ih =>
    intro p g h1 h2 k
    rw [Fx_O_weighX_L9_s, h.1]
    by_cases q : n ≤ p
    · have e : p = n := by omega
      subst e
      rw [if_pos (Int32.le_refl _)]
      exact ⟨g, rfl, k, fun _ _ => rfl⟩
    · have hp : p < n := by omega
      rw [if_neg (fun z => q ((iN_le (by omega) (by omega)).mp z)), if_neg (show ¬ (9 : Int32) ≤ iN p from fun z => by have := (iN_le (a := 9) (by omega) (by omega)).mp z; omega), xqb, isI, heard_e, show hof u 61 (iN p) (4 : Int32) = A p 4 from ha_r (c := 4) h n9 hp (by decide)]
      have J : ∀ c : Int32, chM A md wk p = c → ∃ g', Fx_O_weighX_J53 (Fx_O_weighX_L9 md wk u f) u (iN p) g c = g' ∧ (∀ b, b < 2 ^ n → g' 68 b = wB (chM A md wk) b n) ∧ ∀ a, a ≠ 68 → g' a = g a := by
        intro c hc
        unfold Fx_O_weighX_J53
        have e257 : (256 - (0 : Int32).toInt).toNat + 1 = 257 := by decide
        have hpp : 2 ^ p ≤ 2 ^ 8 := Nat.pow_le_pow_right (by decide) (by omega)
        rw [xqb, b9I (by omega), e257]
        obtain ⟨g1, a1, a2, a3⟩ := we_I (ih := Fx_O_weighX_L9 md wk u f) (p := p) (ch := chM A md wk) (by omega) hc 257 0 g (by omega) (Nat.zero_le _) (fun b hb => by rw [if_neg (by omega)]; exact k b hb) (fun b hb => by omega)
        have a1' : Fx_O_weighX_L64 (Fx_O_weighX_L9 md wk u f) (iN p) c (bt p) 257 0 g = Fx_O_weighX_L9 md wk u f (iN (p + 1)) g1 := a1
        rw [a1']
        obtain ⟨g2, b1, b2, b3⟩ := ih (p + 1) g1 (by omega) (by omega) a2
        exact ⟨g2, b1, b2, fun a ha => (b3 a ha).trans (a3 a ha)⟩
      by_cases y : inB md p = true
      · rw [if_pos y]
        exact J 0 (by unfold chM; rw [if_pos y])
      · rw [if_neg y]
        exact J _ (by unfold chM; rw [if_neg y])
theorem we_X {u : MM} {g : GG} {n : Nat} {A : Nat → Nat → Int32} {md wk : Int32} (h : HA u 61 n A) (n9 : n ≤ 9) : ∃ g', Fx_O_weighX md wk u g = g' ∧ (∀ b, b < 2 ^ n → g' 68 b = wB (chM A md wk) b n) ∧ ∀ a, a ≠ 68 → g' a = g a := by
  unfold Fx_O_weighX
  have e10 : (9 - (0 : Int32).toInt).toNat + 1 = 10 := by decide
  rw [xqb, e10]
  obtain ⟨g', g1, g2, g3⟩ := we_L (md := md) (wk := wk) h n9 10 0 (ml g 68 0 1) (by omega) (by omega) (fun b hb => by
    have e : b = 0 := by rw [Nat.pow_zero] at hb; omega
    rw [e, ml_e]
    rfl)
  exact ⟨g', g1, g2, fun a ha => (g3 a ha).trans (zl_c ha)⟩
/-- the class's odds are ready: storms of banks within mg -/
def OK (x : MM) (g : GG) (n m : Nat) (A : Nat → Nat → Int32) (sr cr : Nat → Int32) (mg : Int32) (ch : Nat → Int32) : Prop := n ≤ 9 ∧ m ≤ 4 ∧ HA x 61 n A ∧ x 61 2 = iN m ∧ (∀ i, i < m → x 63 i = sr i ∧ x 64 i = cr i) ∧ (∀ s, s < 2 ^ n → x 67 s = hrm A (iN s) n) ∧ (∀ r b, r < m → b < 2 ^ n → iN b &&& (mg ^^^ (-1)) = 0 → x 66 (512 * r + b) = (stN A n (sr r) (iN b) (-1) n).1) ∧ ∀ b, b < 2 ^ n → g 68 b = wB ch b n
theorem stm_X {x : MM} {g : GG} {r b : Nat} (hr : r < 4) (hb : b < 512) : Fx_O_isStormX (iN r) (iN b) x g = true := by
  unfold Fx_O_isStormX
  rw [if_neg (show ¬ iN r < (0 : Int32) from fun z => by have := (iN_lt (b := 0) (by omega) (by omega)).mp z; omega), if_neg (show ¬ (4 : Int32) ≤ iN r from fun z => by have := (iN_le (a := 4) (by omega) (by omega)).mp z; omega), if_neg (show ¬ iN b < (0 : Int32) from fun z => by have := (iN_lt (b := 0) (by omega) (by omega)).mp z; omega), if_neg (show ¬ (512 : Int32) ≤ iN b from fun z => by have := (iN_le (a := 512) (by omega) (by omega)).mp z; omega)]
theorem par_X {x : MM} {g : GG} {n m r b : Nat} {A : Nat → Nat → Int32} {sr cr ch : Nat → Int32} {mg : Int32} (h : OK x g n m A sr cr mg ch) (hr : r < m) (hb : b < 2 ^ n) : Fx_O_partsX (iN r) (iN b) x g = wB ch b n * (cr r).toInt64 := by
  obtain ⟨n9, m4, ha, h1, h2, h3, h4, h5⟩ := h
  have p2 := p2_le n9
  unfold Fx_O_partsX Fx_H_chanceOfX
  rw [xqb, stm_X (by omega) (by omega), if_pos rfl, xqb, xqb, xqb, xqb, iN_cl (by omega), h5 b hb, if_neg (show ¬ iN r < (0 : Int32) from fun z => by have := (iN_lt (b := 0) (by omega) (by omega)).mp z; omega), h1, if_neg (fun z => by have := (iN_le (by omega) (by omega)).mp z; omega), xqb, iN_cl (by omega), show x (61 + 3) r = cr r from (h2 r hr).2]
theorem wen_X {x : MM} {g : GG} {n m r b : Nat} {A : Nat → Nat → Int32} {sr cr ch : Nat → Int32} {mg : Int32} (h : OK x g n m A sr cr mg ch) (hr : r < m) (hb : b < 2 ^ n) (hg : iN b &&& (mg ^^^ (-1)) = 0) : Fx_O_wentByX (iN r) (iN b) x g = (stN A n (sr r) (iN b) (-1) n).1 := by
  obtain ⟨n9, m4, ha, h1, h2, h3, h4, h5⟩ := h
  have p2 := p2_le n9
  unfold Fx_O_wentByX
  have e : ((iN r * 512) + iN b).toNatClampNeg = 512 * r + b := by
    show (iN r * iN 512 + iN b).toNatClampNeg = _
    rw [iN_m, iN_a, iN_cl (by omega)]
    omega
  rw [xqb, stm_X (by omega) (by omega), if_pos rfl, xqb, e]
  exact h4 r b hr hb hg
/-- banks of storms that have parts can go -/
def SUP (n : Nat) (mg : Int32) (ch : Nat → Int32) : Prop := ∀ b, b < 2 ^ n → ¬ wB ch b n = 0 → iN b &&& (mg ^^^ (-1)) = 0
theorem sup_p {n b : Nat} {mg : Int32} {ch : Nat → Int32} {c : Int64} (h : SUP n mg ch) (hb : b < 2 ^ n) (q : ¬ lg_cmp (wB ch b n * c) (0 : Int64) ≤ 0) : iN b &&& (mg ^^^ (-1)) = 0 := by
  refine h b hb (fun z => q ?_)
  rw [z, Int64.zero_mul]
  exact (lg_cmp_le _ _).mpr (Int64.le_refl _)
