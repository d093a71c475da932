/-! all storms of the hill in cell 44: the class's look -/
theorem lh44_L {u2 : MM} {g : GG} {n : Nat} {A : Nat → Nat → Int32} {kp mg : Int32} (n9 : n ≤ 9) : ∀ (f s : Nat) (x : MM), 2 ^ n - s < f → s ≤ 2 ^ n → HA x 61 n A → (∀ t, t < s → x 67 t = hrm A (iN t) n) → ∃ y, Fx_O_look_44X_L11 kp mg g u2 f (iN s) x = Fx_O_look_44X_L56 kp mg g u2 5 (iN 0) y ∧ (∀ t, t < 2 ^ n → y 67 t = hrm A (iN t) n) ∧ ∀ c, c ≠ 67 → y c = x c := by
  have p2 := p2_le n9
  have pp := Nat.two_pow_pos n
  intro f
  induction f with
  | zero => intro s x h; omega
  | succ f ih =>
    intro s x h1 h2 ha k
    rw [Fx_O_look_44X_L11_s, all_X ha.1 n9, xqb]
    by_cases q : 2 ^ n ≤ s
    · have e5 : (4 - (0 : Int32).toInt).toNat + 1 = 5 := by decide
      rw [if_pos ((iN_lt (by omega) (by omega)).mpr (by omega)), e5]
      exact ⟨x, rfl, fun t ht => k t (by omega), fun _ _ => rfl⟩
    · rw [if_neg (fun z => by have := (iN_lt (by omega) (by omega)).mp z; omega), if_neg (show ¬ (512 : Int32) ≤ iN s from fun z => by have := (iN_le (a := 512) (by omega) (by omega)).mp z; omega), hm_X ha n9, xqb, xqb, iN_cl (by omega), iN_s]
      obtain ⟨y, y1, y2, y3⟩ := ih (s + 1) (ms x 67 s (hrm A (iN s) n)) (by omega) (by omega) (ha_c ha (ms_c1 (by decide)) (ms_c1 (by decide))) (fun t ht => by
        by_cases w : t = s
        · rw [w, ms_e1]
        · rw [ms_i1 w]; exact k t (by omega))
      exact ⟨y, y1, y2, fun c hc => (y3 c hc).trans (ms_c1 hc)⟩
/-- which storms are known -/
def KN44 (x : MM) (A : Nat → Nat → Int32) (n : Nat) (sr : Nat → Int32) (mg : Int32) (R B : Nat) : Prop := ∀ r b, b < 2 ^ n → r < R ∨ (r = R ∧ b < B) → iN b &&& (mg ^^^ (-1)) = 0 → x 66 (512 * r + b) = (stN A n (sr r) (iN b) (-1) n).1
theorem lb44_L {ih : Int32 → MM → MM × GG} {g : GG} {n m r : Nat} {A : Nat → Nat → Int32} {sr : Nat → Int32} {mg : Int32} (n9 : n ≤ 9) (m4 : m ≤ 4) (hr : r < m) : ∀ (f b : Nat) (x : MM), 2 ^ n - b < f → b ≤ 2 ^ n → HA x 61 n A → x 61 2 = iN m → x 63 r = sr r → KN44 x A n sr mg r b → ∃ y, Fx_O_look_44X_L77 ih (-1) mg g (iN r) f (iN b) x = ih (iN (r + 1)) y ∧ KN44 y A n sr mg (r + 1) 0 ∧ ∀ c, c < 58 ∨ 60 < c → c ≠ 66 → y c = x c := by
  have p2 := p2_le n9
  have pp := Nat.two_pow_pos n
  intro f
  induction f with
  | zero => intro b x h; omega
  | succ f ihf =>
    intro b x h1 h2 ha hm hs k
    rw [Fx_O_look_44X_L77_s, all_X ha.1 n9, xqb, iN_s]
    by_cases q : 2 ^ n ≤ b
    · rw [if_pos ((iN_lt (by omega) (by omega)).mpr (by omega))]
      refine ⟨x, rfl, fun r' b' hb' ho hg => ?_, fun _ _ _ => rfl⟩
      exact k r' b' hb' (by omega) hg
    · unfold Fx_O_look_44X_J150
      rw [if_neg (fun z => by have := (iN_lt (by omega) (by omega)).mp z; omega), if_neg (show ¬ (512 : Int32) ≤ iN b from fun z => by have := (iN_le (a := 512) (by omega) (by omega)).mp z; omega), iN_s]
      by_cases y : iN b &&& (mg ^^^ (-1)) = 0
      · have es : Fx_H_stepsOfX (iN r) 61 x g = sr r := by
          unfold Fx_H_stepsOfX
          rw [if_neg (show ¬ iN r < (0 : Int32) from fun z => by have := (iN_lt (b := 0) (by omega) (by omega)).mp z; omega), hm, if_neg (fun z => by have := (iN_le (by omega) (by omega)).mp z; omega), xqb, iN_cl (by omega)]
          exact hs
        obtain ⟨y1, a0, a1, a2, a3, a4⟩ := rn58_X (g := g) (st := sr r) (bk := iN b) (kp := -1) ha (by decide) n9
        have ei : ((iN r * 512) + iN b).toNatClampNeg = 512 * r + b := by
          show (iN r * iN 512 + iN b).toNatClampNeg = _
          rw [iN_m, iN_a, iN_cl (by omega)]
          omega
        rw [if_pos y, xqb, es, xqb, a0, xqb, ei, a1.1]
        obtain ⟨z, z1, z2, z3⟩ := ihf (b + 1) (ms y1 66 (512 * r + b) (stN A n (sr r) (iN b) (-1) n).1) (by omega) (by omega) (ha_c ha ((ms_c1 (by decide)).trans (a3 61 (by decide))) ((ms_c1 (by decide)).trans (a3 62 (by decide)))) (by rw [ms_c1 (by decide), a3 61 (by decide)]; exact hm) (by rw [ms_c1 (by decide), a3 63 (by decide)]; exact hs) (fun r' b' hb' ho hg => by
          by_cases w : 512 * r' + b' = 512 * r + b
          · have w1 : r' = r := by omega
            have w2 : b' = b := by omega
            rw [w1, w2, ms_e1]
          · rw [ms_i1 w, a3 66 (by decide)]
            refine k r' b' hb' ?_ hg
            by_cases v : r' = r
            · have : b' ≠ b := fun e => w (by rw [v, e])
              omega
            · omega)
        exact ⟨z, z1, z2, fun c c1 c2 => by rw [z3 c c1 c2, ms_c1 c2, a3 c c1]⟩
      · rw [if_neg y]
        exact ihf (b + 1) x (by omega) (by omega) ha hm hs (fun r' b' hb' ho hg => by
          by_cases w : r' = r ∧ b' = b
          · rw [w.2] at hg
            exact absurd hg y
          · exact k r' b' hb' (by omega) hg)
theorem lr44_L {g : GG} {u2 : MM} {n m : Nat} {A : Nat → Nat → Int32} {sr : Nat → Int32} {mg : Int32} (n9 : n ≤ 9) (m4 : m ≤ 4) (h2m : u2 61 2 = iN m) : ∀ (f r : Nat) (x : MM), m - r < f → r ≤ m → HA x 61 n A → x 61 2 = iN m → (∀ i, i < m → x 63 i = sr i) → KN44 x A n sr mg r 0 → ∃ y, Fx_O_look_44X_L56 (-1) mg g u2 f (iN r) x = (y, Fx_O_weighX 0 0 y g) ∧ KN44 y A n sr mg m 0 ∧ ∀ c, c < 58 ∨ 60 < c → c ≠ 66 → y c = x c := by
  intro f
  induction f with
  | zero => intro r x h; omega
  | succ f ih =>
    intro r x h1 h2 ha hm hs k
    rw [Fx_O_look_44X_L56_s, h2m]
    by_cases q : m ≤ r
    · have e : r = m := by omega
      subst e
      rw [if_pos (Int32.le_refl _), xqb]
      exact ⟨x, rfl, k, fun _ _ _ => rfl⟩
    · have e513 : (512 - (0 : Int32).toInt).toNat + 1 = 513 := by decide
      have p2 := p2_le n9
      rw [if_neg (fun z => q ((iN_le (by omega) (by omega)).mp z)), if_neg (show ¬ (4 : Int32) ≤ iN r from fun z => by have := (iN_le (a := 4) (by omega) (by omega)).mp z; omega), e513]
      obtain ⟨y, y1, y2, y3⟩ := lb44_L (ih := Fx_O_look_44X_L56 (-1) mg g u2 f) (g := g) n9 m4 (show r < m by omega) 513 0 x (by omega) (Nat.zero_le _) ha hm (hs r (by omega)) k
      have y1' : Fx_O_look_44X_L77 (Fx_O_look_44X_L56 (-1) mg g u2 f) (-1) mg g (iN r) 513 0 x = Fx_O_look_44X_L56 (-1) mg g u2 f (iN (r + 1)) y := y1
      rw [y1']
      obtain ⟨z, z1, z2, z3⟩ := ih (r + 1) y (by omega) (by omega) (ha_c ha (y3 61 (by decide) (by decide)) (y3 62 (by decide) (by decide))) (by rw [y3 61 (by decide) (by decide)]; exact hm) (fun i hi => by rw [y3 63 (by decide) (by decide)]; exact hs i hi) y2
      exact ⟨z, z1, z2, fun c c1 c2 => (z3 c c1 c2).trans (y3 c c1 c2)⟩
/-- the class's look -/
theorem lk44_X {x : MM} {g : GG} {n m : Nat} {A : Nat → Nat → Int32} {sr cr : Nat → Int32} {mg : Int32} (h0 : HA x 44 n A) (n9 : n ≤ 9) (m4 : m ≤ 4) (hm : x 44 2 = iN m) (hs : ∀ i, i < m → x (44 + 2) i = sr i ∧ x (44 + 3) i = cr i) : ∃ y g', Fx_O_look_44X (-1) mg x g = (y, g') ∧ OK y g' n m A sr cr mg (chM A 0 0) ∧ (∀ c, c < 58 ∨ 67 < c → y c = x c) ∧ ∀ a, a ≠ 68 → g' a = g a := by
  have p2 := p2_le n9
  unfold Fx_O_look_44X
  obtain ⟨x1, hx1⟩ : ∃ x1, x1 = Fx_H_copyX 61 44 x g := ⟨_, rfl⟩
  have cp := hcB (u := x) (g := g) (t := 61) (f := 44) (by omega)
  have hx1' : x1 = Fx_H_copyBX 61 44 x g := hx1
  rw [← hx1'] at cp
  obtain ⟨⟨p0, p2', p3', p4', p5', p6'⟩, pc'⟩ := cp
  have e513 : (512 - (0 : Int32).toInt).toNat + 1 = 513 := by decide
  rw [xqb, ← hx1, e513]
  have ha1 : HA x1 61 n A := ⟨p0.trans h0.1, fun p c hp hc => (p3' (16 * p + c) (by omega)).trans (h0.2 p c hp hc)⟩
  have pp := Nat.two_pow_pos n
  obtain ⟨y, y1, y2, y3⟩ := lh44_L (u2 := x1) (g := g) (kp := -1) (mg := mg) n9 513 0 x1 (by omega) (Nat.zero_le _) ha1 (fun t ht => by omega)
  have y1' : Fx_O_look_44X_L11 (-1) mg g x1 513 0 x1 = Fx_O_look_44X_L56 (-1) mg g x1 5 (iN 0) y := y1
  rw [y1']
  have hay : HA y 61 n A := ha_c ha1 (y3 61 (by decide)) (y3 62 (by decide))
  have hm1 : x1 61 2 = iN m := p2'.trans hm
  have hs1 : ∀ i, i < m → x1 63 i = sr i := fun i hi => (p4' i (by omega)).trans (hs i hi).1
  have hc1 : ∀ i, i < m → x1 64 i = cr i := fun i hi => (p5' i (by omega)).trans (hs i hi).2
  obtain ⟨z, z1, z2, z3⟩ := lr44_L (g := g) (mg := mg) (sr := sr) n9 m4 hm1 5 0 y (by omega) (by omega) hay (by rw [y3 61 (by decide)]; exact hm1) (fun i hi => by rw [y3 63 (by decide)]; exact hs1 i hi) (fun r b hb ho hg => by omega)
  rw [z1]
  have haz : HA z 61 n A := ha_c hay (z3 61 (by decide) (by decide)) (z3 62 (by decide) (by decide))
  obtain ⟨g', g1, g2, g3⟩ := we_X (g := g) (md := 0) (wk := 0) haz n9
  refine ⟨z, g', by rw [g1], ⟨n9, m4, haz, ?_, fun i hi => ⟨?_, ?_⟩, fun s hs' => ?_, fun r b hr hb hg => z2 r b hb (Or.inl hr) hg, g2⟩, fun c hc => ?_, g3⟩
  · rw [z3 61 (by decide) (by decide), y3 61 (by decide)]; exact hm1
  · rw [z3 63 (by decide) (by decide), y3 63 (by decide)]; exact hs1 i hi
  · rw [z3 64 (by decide) (by decide), y3 64 (by decide)]; exact hc1 i hi
  · rw [z3 67 (by decide) (by decide)]; exact y2 s hs'
  · rw [z3 c (by omega) (by omega), y3 c (by omega), pc' c (by omega)]
