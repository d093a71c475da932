/-! the class looks at what is filled -/
/-- the i-th member of a set, of its first p -/
def tf (P : Nat) : Nat → Nat → Nat
  | 0 => fun _ => 0
  | p + 1 => if P.testBit p = true then fun i => if i = pcn P p then p else tf P p i else tf P p
theorem tf_s1 {P p : Nat} (t : P.testBit p = true) : tf P (p + 1) = fun i => if i = pcn P p then p else tf P p i := if_pos t
theorem tf_s0 {P p : Nat} (t : ¬ P.testBit p = true) : tf P (p + 1) = tf P p := if_neg t
theorem pcn_s1 {P p : Nat} (t : P.testBit p = true) : pcn P (p + 1) = pcn P p + 1 := by
  show pcn P p + (if P.testBit p = true then 1 else 0) = _
  rw [if_pos t]
theorem pcn_s0 {P p : Nat} (t : ¬ P.testBit p = true) : pcn P (p + 1) = pcn P p := by
  show pcn P p + (if P.testBit p = true then 1 else 0) = _
  rw [if_neg t]
  rfl
theorem pcn_m {P p : Nat} : ∀ q, p ≤ q → pcn P p ≤ pcn P q := by
  intro q
  induction q with
  | zero => intro h; rw [show p = 0 by omega]; exact Nat.le_refl _
  | succ q ih =>
    intro h
    by_cases y : p = q + 1
    · rw [y]; exact Nat.le_refl _
    · exact Nat.le_trans (ih (by omega)) (Nat.le_add_right _ _)
theorem tf_1 {P : Nat} : ∀ p i, i < pcn P p → tf P p i < p ∧ P.testBit (tf P p i) = true := by
  intro p
  induction p with
  | zero => intro i h; exact absurd h (Nat.not_lt_zero i)
  | succ p ih =>
    intro i h
    by_cases t : P.testBit p = true
    · rw [pcn_s1 t] at h
      rw [tf_s1 t]
      dsimp only
      by_cases y : i = pcn P p
      · rw [if_pos y]; exact ⟨by omega, t⟩
      · rw [if_neg y]
        obtain ⟨a, b⟩ := ih i (by omega)
        exact ⟨by omega, b⟩
    · rw [pcn_s0 t] at h
      rw [tf_s0 t]
      obtain ⟨a, b⟩ := ih i h
      exact ⟨by omega, b⟩
theorem tf_2 {P : Nat} : ∀ p q, q < p → P.testBit q = true → ∃ i, i < pcn P p ∧ tf P p i = q := by
  intro p
  induction p with
  | zero => intro q h; omega
  | succ p ih =>
    intro q h hq
    by_cases t : P.testBit p = true
    · rw [pcn_s1 t, tf_s1 t]
      dsimp only
      by_cases y : q = p
      · exact ⟨pcn P p, by omega, by rw [if_pos rfl, y]⟩
      · obtain ⟨i, i1, i2⟩ := ih q (by omega) hq
        exact ⟨i, by omega, by rw [if_neg (by omega), i2]⟩
    · have hp : ¬ q = p := fun z => t (by rw [← z]; exact hq)
      rw [pcn_s0 t, tf_s0 t]
      exact ih q (by omega) hq
theorem tf_3 {P : Nat} : ∀ p i j, i < j → j < pcn P p → tf P p i < tf P p j := by
  intro p
  induction p with
  | zero => intro i j _ h; exact absurd h (Nat.not_lt_zero j)
  | succ p ih =>
    intro i j hij h
    by_cases t : P.testBit p = true
    · rw [pcn_s1 t] at h
      rw [tf_s1 t]
      dsimp only
      rw [if_neg (show ¬ i = pcn P p by omega)]
      by_cases y : j = pcn P p
      · rw [if_pos y]
        exact (tf_1 p i (by omega)).1
      · rw [if_neg y]
        exact ih i j hij (by omega)
    · rw [pcn_s0 t] at h
      rw [tf_s0 t]
      exact ih i j hij h
/-- the ponds that a mask over the members says -/
def MS (f : Nat → Nat) (F : Nat) : Nat → Nat
  | 0 => 0
  | k + 1 => if F.testBit k = true then MS f F k ||| 2 ^ f k else MS f F k
theorem lf_2 {ub : MM} {ihc : Int32 → MM → GG → MM × GG} {g : GG} {n F c : Nat} {A : Nat → Nat → Int32} {o : Nat → Nat} (aw : AWF n A) (n9 : n ≤ 9) (hb : ub 56 5 = iN c) (c4 : c ≤ 4) (hF : F < 16) (ho : ∀ i, i < c → o i < n) : ∀ (f k : Nat) (x : MM), c - k < f → k ≤ c → HA x 70 n (FA A (MS o F k)) → RNS x 70 1 (fun _ => 0) (fun _ => 100) → (∀ i, i < c → x 75 i = iN (o i)) → ∃ x' g', Fx_C_lookAtFilledX_L99 ihc ub (iN F) g f (iN k) x = ihc (iN (F + 1)) x' (ml g' 78 F (DM A n (MS o F c))) ∧ (∀ a, a ≠ 68 → g' a = g a) ∧ ∀ a, a < 58 ∨ 67 < a → a ≠ 71 → x' a = x a := by
  intro f
  induction f with
  | zero => intro k x h1; omega
  | succ f ih =>
    intro k x h1 h2 ha hr h75
    rw [Fx_C_lookAtFilledX_L99_s, hb]
    by_cases q : c ≤ k
    · have e : k = c := by omega
      subst e
      obtain ⟨x', g', k1, k2, k3⟩ := wm70_X (g := g) ha n9 (by omega) (aw_F aw) hr
      have k1' : Fx_O_wholeMean_70X (-1) x g = (DM A n (MS o F k), x', g') := k1
      rw [if_pos (Int32.le_refl _), k1', c3_mk, xqb, iN_cl (by omega), iN_s]
      exact ⟨x', g', rfl, k3, fun a ha' _ => k2 a ha'⟩
    unfold Fx_C_lookAtFilledX_J147
    rw [if_neg (fun z => q ((iN_le (by omega) (by omega)).mp z)), xqb, isI, inN F (by omega) k (by omega), iN_s]
    by_cases t : F.testBit k = true
    · have hk : o k < n := ho k (by omega)
      have e : MS o F (k + 1) = MS o F k ||| 2 ^ o k := if_pos t
      have h0 : hof x 70 (iN (o k)) (0 : Int32) = A (o k) 0 := (ha_r (c := 0) ha n9 hk (by decide)).trans (FA_n (by decide))
      have pu : Fx_H_putX (iN (o k)) (1 : Int32) (A (o k) 0) 70 x g = ms x (70 + 1) (16 * o k + 1) (A (o k) 0) := putE (c := 1) (by omega) (by decide)
      have ha2 : HA (ms x (70 + 1) (16 * o k + 1) (A (o k) 0)) 70 n (FA A (MS o F (k + 1))) := by
        rw [e]
        exact ha_e (ha_s (p := o k) (c := 1) (z := A (o k) 0) ha (by decide)) (fun p d _ _ => FA_u p d)
      rw [if_pos t, xqb, xqb, iN_cl (by omega), h75 k (by omega), h0, xqb, pu]
      obtain ⟨x', g', k1, k2, k3⟩ := ih (k + 1) (ms x (70 + 1) (16 * o k + 1) (A (o k) 0)) (by omega) (by omega) ha2 (rns_c hr (ms_c1 (by decide)) (ms_c1 (by decide)) (ms_c1 (by decide))) (fun i hi => by rw [ms_c1 (by decide)]; exact h75 i hi)
      exact ⟨x', g', k1, k2, fun a a1 a2 => (k3 a a1 a2).trans (ms_c1 (by omega))⟩
    · have e : MS o F (k + 1) = MS o F k := if_neg t
      rw [if_neg t]
      exact ih (k + 1) x (by omega) (by omega) (by rw [e]; exact ha) hr h75
theorem lf_1 {ub : MM} {n m c : Nat} {A : Nat → Nat → Int32} {sr cr : Nat → Int32} {o : Nat → Nat} (aw : AWF n A) (n9 : n ≤ 9) (m4 : m ≤ 4) (hb : ub 56 5 = iN c) (c4 : c ≤ 4) (ho : ∀ i, i < c → o i < n) : ∀ (f F : Nat) (x : MM) (g : GG), 2 ^ c - F < f → 1 ≤ F → F ≤ 2 ^ c → HA x 44 n A → RNS x 44 m sr cr → (∀ i, i < c → x 75 i = iN (o i)) → (∀ G, 1 ≤ G → G < F → g 78 G = DM A n (MS o G c)) → ∃ x' g', Fx_C_lookAtFilledX_L59 ub f (iN F) x g = (x', g') ∧ (∀ G, 1 ≤ G → G < 2 ^ c → g' 78 G = DM A n (MS o G c)) ∧ ∀ a, a < 58 ∨ 74 < a → x' a = x a := by
  have pc : 2 ^ c ≤ 2 ^ 4 := Nat.pow_le_pow_right (by decide) c4
  intro f
  induction f with
  | zero => intro F x g h1; omega
  | succ f ih =>
    intro F x g h1 h2 h3 ha hr h75 hd
    rw [Fx_C_lookAtFilledX_L59_s, hb, (all_e c (by omega)).2.1]
    by_cases q : 2 ^ c ≤ F
    · rw [if_pos ((iN_le (by omega) (by omega)).mpr q)]
      exact ⟨x, g, rfl, fun G g1 g2 => hd G g1 (by omega), fun _ _ => rfl⟩
    obtain ⟨x1, c1, c2, c3, cf⟩ := cph_X (g := g) (t := 70) ha hr n9 m4 (by decide)
    obtain ⟨x2, hx2⟩ : ∃ x2, x2 = ms (ms (ms (ms x1 70 2 0) 72 0 0) 73 0 100) 70 2 1 := ⟨_, rfl⟩
    have ad : Fx_H_addRainX 0 100 70 (ms x1 70 2 0) g = (true, x2) := by
      unfold Fx_H_addRainX
      rw [ms_e1, if_pos (show (0 : Int32) < 4 by decide), xqb, xqb, xqb, hx2]
      rfl
    have f2 : ∀ a, a ≠ 70 → a ≠ 72 → a ≠ 73 → x2 a = x1 a := fun a a1 a2 a3 => by rw [hx2, ms_c1 a1, ms_c1 a3, ms_c1 a2, ms_c1 a1]
    have ha2 : HA x2 70 n (FA A (MS o F 0)) := ⟨by rw [hx2, ms_i1 (by decide), ms_c1 (by decide), ms_c1 (by decide), ms_i1 (by decide)]; exact c2.1, fun p d hp hd' => by
      rw [f2 (70 + 1) (by decide) (by decide) (by decide), c2.2 p d hp hd']
      exact (FA_0 p d).symm⟩
    have hr2 : RNS x2 70 1 (fun _ => 0) (fun _ => 100) := ⟨by rw [hx2, ms_e1]; rfl, fun i hi => by
      have i0 : i = 0 := by omega
      subst i0
      refine ⟨?_, ?_⟩
      · show x2 72 0 = 0
        rw [hx2, ms_c1 (by decide), ms_c1 (by decide), ms_e1]
      · show x2 73 0 = 100
        rw [hx2, ms_c1 (by decide), ms_e1]⟩
    have e5 : (4 - (0 : Int32).toInt).toNat + 1 = 5 := by decide
    rw [if_neg (fun z => q ((iN_le (by omega) (by omega)).mp z)), xqb, c1, xqb, ad, c2_mk, e5]
    obtain ⟨x3, g3, k1, k2, k3⟩ := lf_2 (ihc := Fx_C_lookAtFilledX_L59 ub f) (g := g) (F := F) aw n9 hb c4 (by omega) ho 5 0 x2 (by omega) (by omega) ha2 hr2 (fun i hi => by rw [f2 75 (by decide) (by decide) (by decide), cf 75 (by decide)]; exact h75 i hi)
    have fr : ∀ a, a < 58 ∨ 74 < a → x3 a = x a := fun a ha' => by rw [k3 a (by omega) (by omega), f2 a (by omega) (by omega) (by omega), cf a (by omega)]
    obtain ⟨x', g', j1, j2, j3⟩ := ih (F + 1) x3 (ml g3 78 F (DM A n (MS o F c))) (by omega) (by omega) (by omega) (ha_c ha (fr 44 (by decide)) (fr 45 (by decide))) (rns_c hr (fr 44 (by decide)) (fr 46 (by decide)) (fr 47 (by decide))) (fun i hi => by rw [fr 75 (by decide)]; exact h75 i hi) (fun G g1 g2 => by
      by_cases y : G = F
      · rw [y, ml_e]
      · rw [zl_i y, k2 78 (by decide)]
        exact hd G g1 (by omega))
    exact ⟨x', g', Eq.trans k1 j1, j2, fun a ha' => (j3 a ha').trans (fr a ha')⟩
theorem lf_0 {u : MM} {g : GG} {n P : Nat} (h44 : u 44 0 = iN n) (n9 : n ≤ 9) (hP : P < 512) (h4 : pcn P n ≤ 4) : ∀ (f p : Nat) (x : MM), n - p < f → p ≤ n → x 56 5 = iN (pcn P p) → (∀ i, i < pcn P p → x 75 i = iN (tf P p i)) → (∀ a, a ≠ 56 → a ≠ 75 → x a = u a) → ∃ x', Fx_C_lookAtFilledX_L7 (iN P) u g f (iN p) x = Fx_C_lookAtFilledX_L59 x' 16 1 x' g ∧ x' 56 5 = iN (pcn P n) ∧ (∀ i, i < pcn P n → x' 75 i = iN (tf P n i)) ∧ ∀ a, a ≠ 56 → a ≠ 75 → x' a = u a := by
  intro f
  induction f with
  | zero => intro p x h1; omega
  | succ f ih =>
    intro p x h1 h2 h5 h75 hf
    rw [Fx_C_lookAtFilledX_L7_s, h44]
    by_cases q : n ≤ p
    · have e : p = n := by omega
      subst e
      have e16 : (16 - (1 : Int32).toInt).toNat + 1 = 16 := by decide
      rw [if_pos (Int32.le_refl _), e16]
      exact ⟨x, rfl, h5, h75, hf⟩
    unfold Fx_C_lookAtFilledX_J51
    rw [if_neg (fun z => q ((iN_le (by omega) (by omega)).mp z)), xqb, isI, inN P hP p (by omega), iN_s]
    by_cases t : P.testBit p = true
    · have e1 := pcn_s1 t
      have e2 : pcn P (p + 1) ≤ pcn P n := pcn_m n (by omega)
      rw [if_pos t, h5, if_neg (show ¬ (4 : Int32) ≤ iN (pcn P p) from fun z => by have := (iN_le (a := 4) (by omega) (by omega)).mp z; omega), xqb, xqb, iN_cl (by omega), iN_s]
      refine ih (p + 1) _ (by omega) (by omega) (by rw [ms_e1, e1]) (fun i hi => ?_) (fun a a1 a2 => by rw [ms_c1 a1, ms_c1 a2]; exact hf a a1 a2)
      rw [ms_c1 (by decide), tf_s1 t]
      dsimp only
      by_cases y : i = pcn P p
      · rw [if_pos y, y, ms_e1]
      · rw [if_neg y, ms_i1 y]
        exact h75 i (by omega)
    · rw [if_neg t]
      exact ih (p + 1) x (by omega) (by omega) (by rw [pcn_s0 t]; exact h5) (fun i hi => by
        rw [pcn_s0 t] at hi
        rw [tf_s0 t]
        exact h75 i hi) hf
/-- what the class knows of the ponds to fill -/
def LKF (x : MM) (g : GG) (A : Nat → Nat → Int32) (n P c : Nat) : Prop := x 56 5 = iN c ∧ (∀ i, i < c → x 75 i = iN (tf P n i)) ∧ ∀ F, 1 ≤ F → F < 2 ^ c → g 78 F = DM A n (MS (tf P n) F c)
theorem lf_X {x : MM} {g : GG} {n m P : Nat} {A : Nat → Nat → Int32} {sr cr : Nat → Int32} (ha : HA x 44 n A) (hr : RNS x 44 m sr cr) (aw : AWF n A) (n9 : n ≤ 9) (m4 : m ≤ 4) (hP : P < 512) (h4 : pcn P n ≤ 4) : ∃ x' g', Fx_C_lookAtFilledX (iN P) x g = (x', g') ∧ LKF x' g' A n P (pcn P n) := by
  unfold Fx_C_lookAtFilledX
  have e10 : (9 - (0 : Int32).toInt).toNat + 1 = 10 := by decide
  rw [xqb, e10]
  obtain ⟨x1, a1, a2, a3, a4⟩ := lf_0 (g := g) ha.1 n9 hP h4 10 0 (ms x 56 5 0) (by omega) (by omega) ms_e1 (fun i hi => absurd hi (Nat.not_lt_zero i)) (fun a ha' _ => ms_c1 ha')
  obtain ⟨x', g', b1, b2, b3⟩ := lf_1 (ub := x1) (c := pcn P n) (o := tf P n) aw n9 m4 a2 h4 (fun i hi => (tf_1 n i hi).1) 16 1 x1 g (by have : 2 ^ pcn P n ≤ 2 ^ 4 := Nat.pow_le_pow_right (by decide) h4; omega) (by omega) (Nat.one_le_two_pow) (ha_c ha (a4 44 (by decide) (by decide)) (a4 45 (by decide) (by decide))) (rns_c hr (a4 44 (by decide) (by decide)) (a4 46 (by decide) (by decide)) (a4 47 (by decide) (by decide))) a3 (fun G g1 g2 => by omega)
  exact ⟨x', g', Eq.trans a1 b1, by rw [b3 56 (by decide)]; exact a2, fun i hi => by rw [b3 75 (by decide)]; exact a3 i hi, b2⟩
