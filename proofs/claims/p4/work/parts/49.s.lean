/-! the reference fills, one after the other, and takes it back -/
theorem rr_sD {y : MM} {n m p c : Nat} {A : Nat → Nat → Int32} {sr cr : Nat → Int32} {z : Int32} (h : RRD y n m A sr cr) (hc : c < 16) (b : Bd (cLo c) (cHi c) z) (l : c = 8 ∨ c = 9 → LK n p z) : RRD (ms y 172 (13 + 16 * p + c) z) n m (upA A p c z) sr cr := by
  obtain ⟨n9, m4, ma, aw, h26, h27, h1, hr⟩ := h
  refine ⟨n9, m4, ⟨by rw [ms_c1 (by decide)]; exact ma.1, fun q d hq hd => ?_⟩, aw_u aw b l, by rw [ms_c1 (by decide)]; exact h26, by rw [ms_c1 (by decide)]; exact h27, by rw [ms_i1 (by omega)]; exact h1, fun i hi => ?_⟩
  · unfold upA
    by_cases y : q = p ∧ d = c
    · rw [if_pos y, y.1, y.2, ms_e1]
    · rw [if_neg y, ms_i1 (fun e => y ⟨by omega, by omega⟩)]
      exact ma.2 q d hq hd
  · rw [ms_i1 (by omega), ms_i1 (by omega)]
    exact hr i hi
theorem rr_aD {y : MM} {n m : Nat} {A B : Nat → Nat → Int32} {sr cr : Nat → Int32} (h : RRD y n m A sr cr) (e : ∀ p c, p < n → c < 16 → A p c = B p c) : RRD y n m B sr cr := by
  obtain ⟨n9, m4, ma, aw, h26, h27, h1, hr⟩ := h
  refine ⟨n9, m4, ⟨ma.1, fun p c hp hc => (ma.2 p c hp hc).trans (e p c hp hc)⟩, fun p hp => ?_, h26, h27, h1, hr⟩
  obtain ⟨a1, a2, a3⟩ := aw p hp
  exact ⟨fun c hc => by rw [← e p c hp hc]; exact a1 c hc, by rw [← e p 8 hp (by decide)]; exact a2, by rw [← e p 9 hp (by decide)]; exact a3⟩
/-- the first k of an order, as a set -/
def PS (o : Nat → Nat) : Nat → Nat
  | 0 => 0
  | k + 1 => PS o k ||| 2 ^ o k
/-- MAY of an order, its first k -/
noncomputable def MAV (A : Nat → Nat → Int32) (n : Nat) (o : Nat → Nat) : Nat → Int64
  | 0 => 0
  | k + 1 => MAV A n o k + DM A n (PS o (k + 1))
/-- what filling leaves alone -/
def FRL (y' y : MM) (n : Nat) : Prop := (∀ a, a ≠ 162 → a ≠ 172 → a ≠ 173 → a ≠ 174 → a ≠ 175 → y' a = y a) ∧ (∀ j, j ≠ 31 → j ≠ 32 → j ≠ 33 → y' 162 j = y 162 j) ∧ ∀ j, (∀ q, q < n → j ≠ 13 + 16 * q + 1) → y' 172 j = y 172 j
theorem fl_2 {u : MM} {g : GG} {n m c : Nat} {A : Nat → Nat → Int32} {sr cr : Nat → Int32} {cn : Nat → Nat} {o : Nat → Nat} (aw : AWF n A) (hr : ∀ r, r < m → cr r = iN (cn r) ∧ cn r ≤ 100) (hs : sN cn m = 100) (ho : ∀ i, i < c → o i < n) (c4 : c ≤ 4) : ∀ (f k : Nat) (y : MM), c - k < f → k ≤ c → RRD y n m (FA A (PS o k)) sr cr → (∀ i, i < c → y 179 i = iN (o i)) → ∃ y', Fx_M_fillAllX_L38 (iN c) u g f (MAV A n o k) (iN k) y = Fx_M_fillAllX_L90 u g (MAV A n o c) 10 0 (ms y' 162 27 0) ∧ RRD y' n m (FA A (PS o c)) sr cr ∧ FRL y' y n := by
  intro f
  induction f with
  | zero => intro k y h1; omega
  | succ f ih =>
    intro k y h1 h2 rr h179
    have n9 := rr.1
    rw [Fx_M_fillAllX_L38_s]
    by_cases q : c ≤ k
    · have e10 : (9 - (0 : Int32).toInt).toNat + 1 = 10 := by decide
      have e : k = c := by omega
      subst e
      rw [if_pos (Int32.le_refl _), xqb, e10]
      exact ⟨y, rfl, rr, fun _ _ _ _ _ _ => rfl, fun _ _ _ _ => rfl, fun _ _ => rfl⟩
    have hk : o k < n := ho k (by omega)
    have m0 : mof y (iN (o k)) (0 : Int32) = A (o k) 0 := (ma_r (c := 0) rr.2.2.1 n9 hk (by decide)).trans (FA_n (by decide))
    have sE : ∀ z : Int32, Fx_M_setX (iN (o k)) (1 : Int32) z y g = ms y 172 (13 + 16 * o k + 1) z := fun z => msE (c := 1) (by omega) (by decide)
    have bz : Bd (cLo 1) (cHi 1) (A (o k) 0) := (show Bd 0 24 (A (o k) 0) from (aw (o k) hk).1 0 (by decide))
    have r1 := rr_aD (rr_sD (p := o k) (c := 1) (z := A (o k) 0) rr (by decide) bz (fun z => by omega)) (fun p d _ _ => FA_u p d)
    obtain ⟨y2, b1, b2⟩ := mb_XD (g := g) (o := -1) r1
    have ed : fR (mnF (FA A (PS o k ||| 2 ^ o k)) n (fun _ => 0) cr (fun p => FA A (PS o k ||| 2 ^ o k) p 4) (fun w => hro (FA A (PS o k ||| 2 ^ o k)) (-1) w n)) (2 ^ n) m 0 = DM A n (PS o (k + 1)) := dry_1 n9 (aw_F aw) hr hs
    rw [ed] at b1
    have es : MAV A n o k + DM A n (PS o (k + 1)) = MAV A n o (k + 1) := rfl
    rw [if_neg (fun z => q ((iN_le (by omega) (by omega)).mp z)), xqb, iN_cl (by omega), h179 k (by omega), xqb, m0, xqb, sE, b1, c2_mk, xqb, iN_s, es]
    obtain ⟨y', k1, k2, k3, k4, k5⟩ := ih (k + 1) y2 (by omega) (by omega) (rr_cD r1 b2) (fun i hi => by
      rw [b2.1 179 (by decide) (by decide) (by decide) (by decide), ms_c1 (by decide)]
      exact h179 i hi)
    refine ⟨y', k1, k2, fun a a1 a2 a3 a4 a5 => ?_, fun j j1 j2 j3 => ?_, fun j hj => ?_⟩
    · rw [k3 a a1 a2 a3 a4 a5, b2.1 a a1 a3 a4 a5, ms_c1 a2]
    · rw [k4 j j1 j2 j3, b2.2 j j1 j2 j3, ms_c1 (by decide)]
    · rw [k5 j hj, b2.1 172 (by decide) (by decide) (by decide) (by decide), ms_i1 (hj (o k) hk)]
theorem fl_1 {u : MM} {g : GG} {n : Nat} {A : Nat → Nat → Int32} {s : Int64} (h22 : u 162 22 = iN n) (n9 : n ≤ 9) : ∀ (f p : Nat) (y : MM), n - p < f → p ≤ n → (∀ q, q < n → y 178 q = A q 1) → (∀ q, q < p → y 172 (13 + 16 * q + 1) = A q 1) → ∃ y', Fx_M_fillAllX_L90 u g s f (iN p) y = (s, y') ∧ (∀ c, c ≠ 172 → y' c = y c) ∧ (∀ j, (∀ q, q < n → j ≠ 13 + 16 * q + 1) → y' 172 j = y 172 j) ∧ ∀ q, q < n → y' 172 (13 + 16 * q + 1) = A q 1 := by
  intro f
  induction f with
  | zero => intro p y h1; omega
  | succ f ih =>
    intro p y h1 h2 h178 hd
    rw [Fx_M_fillAllX_L90_s, h22]
    by_cases q : n ≤ p
    · rw [if_pos ((iN_le (by omega) (by omega)).mpr q)]
      exact ⟨y, rfl, fun _ _ => rfl, fun _ _ => rfl, fun q hq => hd q (by omega)⟩
    have sE : ∀ z : Int32, Fx_M_setX (iN p) (1 : Int32) z y g = ms y 172 (13 + 16 * p + 1) z := fun z => msE (c := 1) (by omega) (by decide)
    rw [if_neg (fun z => q ((iN_le (by omega) (by omega)).mp z)), xqb, iN_cl (by omega), h178 p (by omega), xqb, sE, iN_s]
    obtain ⟨y', k1, k2, k3, k4⟩ := ih (p + 1) (ms y 172 (13 + 16 * p + 1) (A p 1)) (by omega) (by omega) (fun q hq => by rw [ms_c1 (by decide)]; exact h178 q hq) (fun q hq => by
      by_cases z : q = p
      · rw [z, ms_e1]
      · rw [ms_i1 (by omega)]; exact hd q (by omega))
    exact ⟨y', k1, fun c hc => (k2 c hc).trans (ms_c1 hc), fun j hj => (k3 j hj).trans (ms_i1 (hj p (by omega))), k4⟩
theorem fl_0 {u : MM} {g : GG} {n c : Nat} {A : Nat → Nat → Int32} (ma : RMA u n A) (n9 : n ≤ 9) : ∀ (f p : Nat) (y : MM), n - p < f → p ≤ n → (∀ q, q < p → y 178 q = A q 1) → (∀ a, a ≠ 178 → y a = u a) → ∃ y', Fx_M_fillAllX_L2 (iN c) u g f (iN p) y = Fx_M_fillAllX_L38 (iN c) u g 5 0 0 (ms y' 162 27 1) ∧ (∀ q, q < n → y' 178 q = A q 1) ∧ ∀ a, a ≠ 178 → y' a = u a := by
  intro f
  induction f with
  | zero => intro p y h1; omega
  | succ f ih =>
    intro p y h1 h2 hd hf
    rw [Fx_M_fillAllX_L2_s, ma.1]
    by_cases q : n ≤ p
    · have e5 : (4 - (0 : Int32).toInt).toNat + 1 = 5 := by decide
      rw [if_pos ((iN_le (by omega) (by omega)).mpr q), xqb, e5]
      exact ⟨y, rfl, fun q hq => hd q (by omega), hf⟩
    rw [if_neg (fun z => q ((iN_le (by omega) (by omega)).mp z)), xqb, iN_cl (by omega), iN_s, show mof u (iN p) (1 : Int32) = A p 1 from ma_r (c := 1) ma n9 (by omega) (by decide)]
    exact ih (p + 1) (ms y 178 p (A p 1)) (by omega) (by omega) (fun q hq => by
      by_cases z : q = p
      · rw [z, ms_e1]
      · rw [ms_i1 z]; exact hd q (by omega)) (fun a ha => (ms_c1 ha).trans (hf a ha))
/-- the reference's MAY of an order -/
theorem fa_X {y : MM} {g : GG} {n m c : Nat} {A : Nat → Nat → Int32} {sr cr : Nat → Int32} {cn : Nat → Nat} {o : Nat → Nat} (rr : RR y n m A sr cr) (hr : ∀ r, r < m → cr r = iN (cn r) ∧ cn r ≤ 100) (hs : sN cn m = 100) (ho : ∀ i, i < c → o i < n) (c4 : c ≤ 4) (h179 : ∀ i, i < c → y 179 i = iN (o i)) : ∃ y', Fx_M_fillAllX (iN c) y g = (MAV A n o c, y') ∧ RR y' n m A sr cr ∧ (∀ a, a ≠ 162 → a ≠ 172 → a ≠ 173 → a ≠ 174 → a ≠ 175 → a ≠ 178 → y' a = y a) := by
  obtain ⟨n9, m4, ma, aw, h26, h27, h1, hR⟩ := rr
  have e10 : (9 - (0 : Int32).toInt).toNat + 1 = 10 := by decide
  unfold Fx_M_fillAllX
  rw [e10]
  obtain ⟨y1, a1, a2, a3⟩ := fl_0 (g := g) (c := c) ma n9 10 0 y (by omega) (by omega) (fun q hq => by omega) (fun _ _ => rfl)
  have c162 := a3 162 (by decide)
  have c172 := a3 172 (by decide)
  have rd : RRD (ms y1 162 27 1) n m (FA A (PS o 0)) sr cr := by
    refine rr_aD (A := A) ⟨n9, m4, ma_c ma ((ms_i1 (by decide)).trans (congrFun c162 22)) ((ms_c1 (by decide)).trans c172), aw, ?_, ms_e1, ?_, fun i hi => ?_⟩ (fun p d _ _ => (FA_0 p d).symm)
    · rw [ms_i1 (by decide), c162]; exact h26
    · rw [ms_c1 (by decide), c172]; exact h1
    · rw [ms_c1 (by decide), c172]; exact hR i hi
  obtain ⟨y2, b1, b2, b3, b4, b5⟩ := fl_2 (u := y) (g := g) aw hr hs ho c4 5 0 (ms y1 162 27 1) (by omega) (by omega) rd (fun i hi => by rw [ms_c1 (by decide), a3 179 (by decide)]; exact h179 i hi)
  obtain ⟨y3, d1, d2, d3, d4⟩ := fl_1 (g := g) (A := A) (s := MAV A n o c) ma.1 n9 10 0 (ms y2 162 27 0) (by omega) (by omega) (fun q hq => by
    rw [ms_c1 (by decide), b3 178 (by decide) (by decide) (by decide) (by decide) (by decide), ms_c1 (by decide)]
    exact a2 q hq) (fun q hq => by omega)
  refine ⟨y3, Eq.trans a1 (Eq.trans b1 d1), ?_, fun a q1 q2 q3 q4 q5 q6 => ?_⟩
  · obtain ⟨-, -, ma2, -, k26, -, k1, kR⟩ := b2
    have lo : ∀ j, j < 13 → y3 172 j = y2 172 j := fun j hj => (d3 j (fun q hq => by omega)).trans (congrFun (ms_c1 (by decide)) j)
    refine ⟨n9, m4, ⟨?_, fun p d hp hd => ?_⟩, aw, ?_, ?_, ?_, fun i hi => ?_⟩
    · rw [d2 162 (by decide), ms_i1 (by decide)]; exact ma2.1
    · by_cases z : d = 1
      · subst z; exact d4 p hp
      · rw [d3 _ (fun q hq => by omega), ms_c1 (by decide), ma2.2 p d hp hd]
        exact FA_n z
    · rw [d2 162 (by decide), ms_i1 (by decide)]; exact k26
    · rw [d2 162 (by decide), ms_e1]
    · rw [lo 1 (by decide)]; exact k1
    · rw [lo _ (by omega), lo _ (by omega)]; exact kR i hi
  · rw [d2 a q2, ms_c1 q1, b3 a q1 q2 q3 q4 q5, ms_c1 q1, a3 a q6]
