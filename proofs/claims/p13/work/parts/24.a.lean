/-! the reference's reader: the row that is read -/
theorem ixne {i : Int32} {lo hi : Int} {c : Nat} (b : Bd lo hi i) (h : (c : Int) < lo ∨ (0 ≤ lo ∧ hi < c)) : c ≠ i.toNatClampNeg := by
  have e : i.toNatClampNeg = i.toInt.toNat := rfl
  obtain ⟨b1, b2⟩ := b
  rw [e]
  omega
def RH (u : Nat → Nat → Int32) : Prop := AB u 170 (-1) 999 ∧ Bd 0 9 (u 170 0) ∧ Bd 0 4 (u 170 1) ∧ (∀ p, p < 9 → Bd (-1) 8 (u 170 (21 + 16 * p)) ∧ Bd (-1) 8 (u 170 (22 + 16 * p))) ∧ Bd 0 999 (u 170 6) ∧ Bd 0 999 (u 170 8) ∧ Bd 0 999 (u 170 10) ∧ Bd 0 999 (u 170 12)
theorem rh_c {u u2 : Nat → Nat → Int32} (e : u2 170 = u 170) (h : RH u) : RH u2 := by
  obtain ⟨h0, h1⟩ := h
  refine ⟨ab_c e h0, ?_⟩
  rw [e]
  exact h1
theorem rh_g {u u2 : Nat → Nat → Int32} {k : Nat} {v : Int32} (e : u2 = ms u 170 k v) (bv : Bd (-1) 999 v) (h0 : k = 0 → Bd 0 9 v) (h1 : k = 1 → Bd 0 4 v) (hd : ∀ p, p < 9 → (k = 21 + 16 * p ∨ k = 22 + 16 * p) → Bd (-1) 8 v) (hr : (k = 6 ∨ k = 8 ∨ k = 10 ∨ k = 12) → Bd 0 999 v) (h : RH u) : RH u2 := by
  obtain ⟨a0, a1, a2, a3, a6, a8, a10, a12⟩ := h
  have R : ∀ j, u2 170 j = if j = k then v else u 170 j := fun j => by rw [ms_a e]; rfl
  refine ⟨ab_s e a0 bv, ?_, ?_, fun p hp => ⟨?_, ?_⟩, ?_, ?_, ?_, ?_⟩ <;> rw [R] <;> split
  · rename_i q; exact h0 q.symm
  · exact a1
  · rename_i q; exact h1 q.symm
  · exact a2
  · rename_i q; exact hd p hp (Or.inl q.symm)
  · exact (a3 p hp).1
  · rename_i q; exact hd p hp (Or.inr q.symm)
  · exact (a3 p hp).2
  · rename_i q; exact hr (by omega)
  · exact a6
  · rename_i q; exact hr (by omega)
  · exact a8
  · rename_i q; exact hr (by omega)
  · exact a10
  · rename_i q; exact hr (by omega)
  · exact a12
theorem rh_0 {u u2 : Nat → Nat → Int32} {v : Int32} (e : u2 = ms u 170 0 v) (b : Bd 0 9 v) (h : RH u) : RH u2 :=
  rh_g e (bd_w b (by decide)) (fun _ => b) (fun q => by omega) (fun p _ q => by omega) (fun q => by omega) h
theorem rh_1 {u u2 : Nat → Nat → Int32} {v : Int32} (e : u2 = ms u 170 1 v) (b : Bd 0 4 v) (h : RH u) : RH u2 :=
  rh_g e (bd_w b (by decide)) (fun q => by omega) (fun _ => b) (fun p _ q => by omega) (fun q => by omega) h
theorem rh_rc {u u2 : Nat → Nat → Int32} {k : Nat} {v : Int32} (e : u2 = ms u 170 k v) (hk : 5 ≤ k ∧ k ≤ 12) (b : Bd 0 999 v) (h : RH u) : RH u2 :=
  rh_g e (bd_w b (by decide)) (fun q => by omega) (fun q => by omega) (fun p _ q => by omega) (fun _ => b) h
theorem nk {k : Int32} {lo hi : Int} (b : Bd lo hi k) (h : 0 ≤ lo) : lo ≤ (k.toNatClampNeg : Int) ∧ (k.toNatClampNeg : Int) ≤ hi := by
  have e : k.toNatClampNeg = k.toInt.toNat := rfl
  obtain ⟨b1, b2⟩ := b
  rw [e]
  omega
theorem rh_d {u u2 : Nat → Nat → Int32} {k v : Int32} (e : u2 = ms u 170 k.toNatClampNeg v) (bk : Bd 2 4 k) (b : Bd (-1) 999 v) (h : RH u) : RH u2 := by
  have q := nk bk (by decide)
  exact rh_g e b (fun _ => by omega) (fun _ => by omega) (fun p _ _ => by omega) (fun _ => by omega) h
theorem rh_r {u u2 : Nat → Nat → Int32} {k v : Int32} (e : u2 = ms u 170 k.toNatClampNeg v) (bk : Bd 5 12 k) (b : Bd 0 999 v) (h : RH u) : RH u2 := by
  have q := nk bk (by decide)
  exact rh_rc e (by omega) b h
theorem rh_p {u u2 : Nat → Nat → Int32} {p c v : Int32} (e : u2 = ms u 170 (13 + 16 * p + c).toNatClampNeg v) (bp : Bd 0 8 p) (bc : Bd 0 15 c) (b : Bd (-1) 999 v) (h8 : (c.toInt = 8 ∨ c.toInt = 9) → Bd (-1) 8 v) (h : RH u) : RH u2 := by
  rw [mix bp bc] at e
  obtain ⟨p1, p2⟩ := bp; obtain ⟨c1, c2⟩ := bc
  exact rh_g e b (fun _ => by omega) (fun _ => by omega) (fun q _ hq => h8 (by omega)) (fun _ => by omega) h
theorem rh_p1 {u u2 : Nat → Nat → Int32} {p c v : Int32} (e : u2 = ms u 170 (13 + 16 * p + c + 1).toNatClampNeg v) (bp : Bd 0 8 p) (bc : Bd 0 15 (c + 1)) (b : Bd (-1) 999 v) (h8 : ((c + 1).toInt = 8 ∨ (c + 1).toInt = 9) → Bd (-1) 8 v) (h : RH u) : RH u2 := by
  rw [Int32.add_assoc] at e
  exact rh_p e bp bc b h8 h
theorem bd_n89 {c : Int32} {lo hi : Int} {P : Prop} (b : Bd lo hi c) (r : hi < 8 ∨ 9 < lo) : (c.toInt = 8 ∨ c.toInt = 9) → P := by
  obtain ⟨b1, b2⟩ := b
  intro h
  exfalso
  omega
theorem ne_n89 {c : Int32} {P : Prop} (h8 : ¬ c = 8) (h9 : ¬ c = 9) : (c.toInt = 8 ∨ c.toInt = 9) → P := by
  intro h
  rcases h with h | h
  · exact absurd (Int32.toInt_inj.mp h) h8
  · exact absurd (Int32.toInt_inj.mp h) h9
def RP (u : Nat → Nat → Int32) : Prop := AB u 170 (-1) 999 ∧ Bd 0 12 (u 170 0) ∧ ∀ i, i < 12 → (u 170 (1 + 3 * i) = 4 ∨ Bd 0 999 (u 170 (3 + 3 * i))) ∧ Bd 0 999 (u 170 (2 + 3 * i))
theorem rp_c {u u2 : Nat → Nat → Int32} (e : u2 170 = u 170) (h : RP u) : RP u2 := by
  obtain ⟨h0, h1⟩ := h
  refine ⟨ab_c e h0, ?_⟩
  rw [e]
  exact h1
theorem ix3 {k c : Int32} {C : Nat} (bk : Bd 0 11 k) (hc : c.toInt = C) (hC : C ≤ 3) : (c + 3 * k).toNatClampNeg = C + 3 * k.toInt.toNat := by
  have e3 : (3 : Int32).toInt = 3 := rfl
  obtain ⟨k1, k2⟩ := bk
  have h2 : (3 * k).toInt = 3 * k.toInt := by rw [Int32.toInt_mul, e3, bmod (by omega) (by omega)]
  have h3 : (c + 3 * k).toInt = C + 3 * k.toInt := by rw [ti_add (by omega) (by omega), h2, hc]
  have h4 : (c + 3 * k).toNatClampNeg = (c + 3 * k).toInt.toNat := rfl
  rw [h4, h3]
  omega
theorem rp_add {u u1 u2 u3 u4 : Nat → Nat → Int32} {k w a b n : Int32} (e1 : u1 = ms u 170 (1 + 3 * k).toNatClampNeg w) (e2 : u2 = ms u1 170 (2 + 3 * k).toNatClampNeg a) (e3 : u3 = ms u2 170 (3 + 3 * k).toNatClampNeg b) (e4 : u4 = ms u3 170 0 n) (bk : Bd 0 11 k) (bw : Bd (-1) 999 w) (ba : Bd 0 999 a) (bb : Bd (-1) 999 b) (hw : w = 4 ∨ Bd 0 999 b) (bn : Bd 0 12 n) (h : RP u) : RP u4 := by
  rw [ix3 (C := 1) bk rfl (by decide)] at e1
  rw [ix3 (C := 2) bk rfl (by decide)] at e2
  rw [ix3 (C := 3) bk rfl (by decide)] at e3
  obtain ⟨k1, k2⟩ := bk
  obtain ⟨a0, a1, a2⟩ := h
  have R4 : ∀ j, u4 170 j = if j = 0 then n else u3 170 j := fun j => by rw [ms_a e4]; rfl
  have R3 : ∀ j, u3 170 j = if j = 3 + 3 * k.toInt.toNat then b else u2 170 j := fun j => by rw [ms_a e3]; rfl
  have R2 : ∀ j, u2 170 j = if j = 2 + 3 * k.toInt.toNat then a else u1 170 j := fun j => by rw [ms_a e2]; rfl
  have R1 : ∀ j, u1 170 j = if j = 1 + 3 * k.toInt.toNat then w else u 170 j := fun j => by rw [ms_a e1]; rfl
  refine ⟨ab_s e4 (ab_s e3 (ab_s e2 (ab_s e1 a0 bw) (bd_w ba (by decide))) bb) (bd_w bn (by decide)), by rw [R4, if_pos rfl]; exact bn, fun i hi => ?_⟩
  by_cases q : i = k.toInt.toNat
  · subst q
    have x1 : u4 170 (1 + 3 * k.toInt.toNat) = w := by rw [R4, if_neg (by omega), R3, if_neg (by omega), R2, if_neg (by omega), R1, if_pos rfl]
    have x2 : u4 170 (2 + 3 * k.toInt.toNat) = a := by rw [R4, if_neg (by omega), R3, if_neg (by omega), R2, if_pos rfl]
    have x3 : u4 170 (3 + 3 * k.toInt.toNat) = b := by rw [R4, if_neg (by omega), R3, if_pos rfl]
    rw [x1, x2, x3]
    exact ⟨hw, ba⟩
  · have x1 : u4 170 (1 + 3 * i) = u 170 (1 + 3 * i) := by rw [R4, if_neg (by omega), R3, if_neg (by omega), R2, if_neg (by omega), R1, if_neg (by omega)]
    have x2 : u4 170 (2 + 3 * i) = u 170 (2 + 3 * i) := by rw [R4, if_neg (by omega), R3, if_neg (by omega), R2, if_neg (by omega), R1, if_neg (by omega)]
    have x3 : u4 170 (3 + 3 * i) = u 170 (3 + 3 * i) := by rw [R4, if_neg (by omega), R3, if_neg (by omega), R2, if_neg (by omega), R1, if_neg (by omega)]
    rw [x1, x2, x3]
    exact a2 i hi
def RZ (u : Nat → Nat → Int32) : Prop := AB u 170 (-1) 999 ∧ ∀ j, j < 157 → Bd 0 1 (u 170 j)
theorem rz_h {u : Nat → Nat → Int32} (h : RZ u) : RH u := by
  obtain ⟨h0, h1⟩ := h
  exact ⟨h0, bd_w (h1 0 (by decide)) (by decide), bd_w (h1 1 (by decide)) (by decide), fun p hp => ⟨bd_w (h1 _ (by omega)) (by decide), bd_w (h1 _ (by omega)) (by decide)⟩, bd_w (h1 6 (by decide)) (by decide), bd_w (h1 8 (by decide)) (by decide), bd_w (h1 10 (by decide)) (by decide), bd_w (h1 12 (by decide)) (by decide)⟩
theorem rz_p {u : Nat → Nat → Int32} (h : RZ u) : RP u := by
  obtain ⟨h0, h1⟩ := h
  exact ⟨h0, bd_w (h1 0 (by decide)) (by decide), fun i hi => ⟨Or.inr (bd_w (h1 _ (by omega)) (by decide)), bd_w (h1 _ (by omega)) (by decide)⟩⟩
def ZI (u : Nat → Nat → Int32) (k : Int32) : Prop := ∀ j : Nat, (j : Int) < k.toInt → Bd 0 1 (u 170 j)
theorem zi_0 {u : Nat → Nat → Int32} : ZI u 0 := by
  intro j hj
  have : (0 : Int32).toInt = 0 := rfl
  omega
theorem zi_s {u u2 : Nat → Nat → Int32} {k v : Int32} (e : u2 = ms u 170 k.toNatClampNeg v) (bk : Bd 0 156 k) (bv : Bd 0 1 v) (h : ZI u k) : ZI u2 (k + 1) := by
  intro j hj
  have e1 : (1 : Int32).toInt = 1 := rfl
  have h1 : (k + 1).toInt = k.toInt + 1 := by rw [ti_add (by have := bk.1; have := bk.2; omega) (by have := bk.1; have := bk.2; omega), e1]
  have h2 : k.toNatClampNeg = k.toInt.toNat := rfl
  by_cases q : j = k.toNatClampNeg
  · rw [q, ms_e e]; exact bv
  · rw [ms_i e q]
    refine h j ?_
    have := bk.1
    omega
theorem zi_e {u : Nat → Nat → Int32} {k : Int32} (h : ZI u k) (bk : Bd 157 157 k) (ha : AB u 170 (-1) 999) : RZ u := ⟨ha, fun j hj => h j (by have := bk.1; omega)⟩
theorem rcf_t {u u2 : Nat → Nat → Int32} (e : u2 170 = u 170) (h : RCf (u 170)) : RCf (u2 170) := by rw [e]; exact h
theorem rcf_0 {f : Nat → Int32} (e1 : f 1 = 1) (e6 : f 6 = 100) (b8 : Bd 0 999 (f 8)) (b10 : Bd 0 999 (f 10)) (b12 : Bd 0 999 (f 12)) : RCf f := by
  unfold RCf
  rw [e1, e6]
  exact ⟨by decide, by decide, b8, b10, b12, Or.inl (by decide)⟩
theorem s100 : (100 : Int32).toInt = 100 := rfl
theorem rcf_1 {f : Nat → Int32} (b1 : Bd 1 1 (f 1)) (b6 : Bd 0 999 (f 6)) (b8 : Bd 0 999 (f 8)) (b10 : Bd 0 999 (f 10)) (b12 : Bd 0 999 (f 12)) (e : 0 + f 6 = 100) : RCf f := by
  rw [Int32.zero_add] at e
  have := s100
  have := congrArg Int32.toInt e
  exact ⟨bd_w b1 (by decide), b6, b8, b10, b12, Or.inl ⟨by have := b1.1; have := b1.2; omega, by omega⟩⟩
theorem rcf_2 {f : Nat → Int32} (b1 : Bd 2 2 (f 1)) (b6 : Bd 0 999 (f 6)) (b8 : Bd 0 999 (f 8)) (b10 : Bd 0 999 (f 10)) (b12 : Bd 0 999 (f 12)) (e : 0 + f 6 + f 8 = 100) : RCf f := by
  rw [Int32.zero_add] at e
  have := s100
  have q := congrArg Int32.toInt e
  rw [ti_add (by have := b6.1; have := b6.2; have := b8.1; have := b8.2; omega) (by have := b6.1; have := b6.2; have := b8.1; have := b8.2; omega)] at q
  exact ⟨bd_w b1 (by decide), b6, b8, b10, b12, Or.inr (Or.inl ⟨by have := b1.1; have := b1.2; omega, by omega⟩)⟩
theorem rcf_3 {f : Nat → Int32} (b1 : Bd 3 3 (f 1)) (b6 : Bd 0 999 (f 6)) (b8 : Bd 0 999 (f 8)) (b10 : Bd 0 999 (f 10)) (b12 : Bd 0 999 (f 12)) (e : 0 + f 6 + f 8 + f 10 = 100) : RCf f := by
  rw [Int32.zero_add] at e
  have := s100
  have q := congrArg Int32.toInt e
  have x := b6.1; have x2 := b6.2; have x3 := b8.1; have x4 := b8.2; have x5 := b10.1; have x6 := b10.2
  have y1 : (f 6 + f 8).toInt = (f 6).toInt + (f 8).toInt := ti_add (by omega) (by omega)
  rw [ti_add (by omega) (by omega), y1] at q
  exact ⟨bd_w b1 (by decide), b6, b8, b10, b12, Or.inr (Or.inr (Or.inl ⟨by have := b1.1; have := b1.2; omega, by omega⟩))⟩
theorem rcf_4 {f : Nat → Int32} (b1 : Bd 4 4 (f 1)) (b6 : Bd 0 999 (f 6)) (b8 : Bd 0 999 (f 8)) (b10 : Bd 0 999 (f 10)) (b12 : Bd 0 999 (f 12)) (e : 0 + f 6 + f 8 + f 10 + f 12 = 100) : RCf f := by
  rw [Int32.zero_add] at e
  have := s100
  have q := congrArg Int32.toInt e
  have x := b6.1; have x2 := b6.2; have x3 := b8.1; have x4 := b8.2; have x5 := b10.1; have x6 := b10.2; have x7 := b12.1; have x8 := b12.2
  have y1 : (f 6 + f 8).toInt = (f 6).toInt + (f 8).toInt := ti_add (by omega) (by omega)
  have y2 : (f 6 + f 8 + f 10).toInt = (f 6).toInt + (f 8).toInt + (f 10).toInt := by rw [ti_add (by omega) (by omega), y1]
  rw [ti_add (by omega) (by omega), y2] at q
  exact ⟨bd_w b1 (by decide), b6, b8, b10, b12, Or.inr (Or.inr (Or.inr ⟨by have := b1.1; have := b1.2; omega, by omega⟩))⟩
theorem nr_t {g1 g2 r1 r2 low high : Int32} (e1 : g2 = g1) (e2 : r2 = r1) (h : g1 = 0 ∨ (low ≤ r1 ∧ r1 ≤ high)) : g2 = 0 ∨ (low ≤ r2 ∧ r2 ≤ high) := by subst e1; subst e2; exact h
theorem nf_t {g1 g2 g3 : Int32} (e1 : g2 = g1) (h : g1 = 0 ∨ g1 = g3) : g2 = 0 ∨ g2 = g3 := by subst e1; exact h
theorem mu_gv {a b s c t : Int32} {n : Nat} (h1 : GV a b s) (e : s = 4) (h2 : GV b c t) (bc : Bd 0 600 c) (m : (600 - a.toInt).toNat < n + 1) : (600 - c.toInt).toNat < n := by
  have x2 := Int32.le_iff_toInt_le.mp h2.1
  have := bc.2
  rcases h1.2 with h | h
  · have x1 := Int32.lt_iff_toInt_lt.mp h
    omega
  · rw [e] at h
    exact absurd h (by decide)
/-- a row copied into an array of rows of n -/
def CRI (u2 u : Nat → Nat → Int32) (a n K i : Nat) : Prop := ∀ j, u2 a j = if n * K ≤ j ∧ j < n * K + i then u 170 (j - n * K) else u a j
theorem cri_0 {u2 u : Nat → Nat → Int32} {a n K : Nat} (e : u2 a = u a) : CRI u2 u a n K 0 := by
  intro j
  rw [if_neg (by omega), e]
theorem cri_s {u3 u2 u : Nat → Nat → Int32} {a n : Nat} {N t k v : Int32} (h : CRI u2 u a n t.toInt.toNat k.toInt.toNat) (hN : N.toInt = n) (hn : n ≤ 600) (bt : Bd 0 3 t) (bk : Bd 0 600 k) (e : u3 = ms u2 a (N * t + k).toNatClampNeg v) (ev : v = u 170 k.toNatClampNeg) : CRI u3 u a n t.toInt.toNat (k + 1).toInt.toNat := by
  rw [mv_ix hN hn bt bk] at e
  have e1 : (1 : Int32).toInt = 1 := rfl
  have h3 : k.toNatClampNeg = k.toInt.toNat := rfl
  have h2 : (k + 1).toInt.toNat = k.toInt.toNat + 1 := by
    rw [ti_add (by have := bk.1; have := bk.2; omega) (by have := bk.1; have := bk.2; omega), e1]
    have := bk.1
    omega
  rw [h2]
  intro j
  by_cases q : j = n * t.toInt.toNat + k.toInt.toNat
  · rw [q, ms_e e, ev, if_pos (by omega), h3, Nat.add_sub_cancel_left]
  · rw [ms_i e q, h]
    by_cases q2 : n * t.toInt.toNat ≤ j ∧ j < n * t.toInt.toNat + k.toInt.toNat
    · rw [if_pos q2, if_pos (by omega)]
    · rw [if_neg q2, if_neg (by omega)]
theorem cri_e {u2 u : Nat → Nat → Int32} {a n K : Nat} {k : Int32} {lo hi : Int} (h : CRI u2 u a n K k.toInt.toNat) (bk : Bd lo hi k) (r : lo = n ∧ hi = n) : CRI u2 u a n K n := by
  have h2 : k.toInt.toNat = n := by have := bk.1; have := bk.2; omega
  rw [h2] at h
  exact h
theorem hr_at {u2 u : Nat → Nat → Int32} {K : Nat} (h : CRI u2 u 168 157 K 157) {s k : Nat} (hk : k < 157) : u2 168 (157 * s + k) = if s = K then u 170 k else u 168 (157 * s + k) := by
  rw [h]
  by_cases q : s = K
  · subst q
    rw [if_pos (by omega), if_pos rfl, Nat.add_sub_cancel_left]
  · rw [if_neg (by omega), if_neg q]
theorem hd_cr {u2 u : Nat → Nat → Int32} {K : Nat} (h : CRI u2 u 168 157 K 157) (r : RH u) (d : HD u) : HD u2 := by
  intro s hs
  have z0 := hr_at h (s := s) (k := 0) (by decide)
  rw [Nat.add_zero] at z0
  have z1 := hr_at h (s := s) (k := 1) (by decide)
  rw [z0, z1]
  obtain ⟨-, r0, r1, r2, -⟩ := r
  obtain ⟨d0, d1, d2⟩ := d s hs
  by_cases q : s = K
  · rw [if_pos q, if_pos q]
    refine ⟨r0, fun p hp => ?_, r1⟩
    rw [hr_at h (by omega), hr_at h (by omega), if_pos q, if_pos q]
    exact r2 p hp
  · rw [if_neg q, if_neg q]
    refine ⟨d0, fun p hp => ?_, d2⟩
    rw [hr_at h (by omega), hr_at h (by omega), if_neg q, if_neg q]
    exact d1 p hp
theorem hc_cr {u2 u v : Nat → Nat → Int32} {K : Nat} (h : CRI u2 u 168 157 K 157) (hK : K < 2) (e : u2 167 = u 167) (e8 : u 168 = v 168) (rc : RCf (u 170)) (hc : HC v) (h7 : ∀ j, j ≠ 0 → u 167 j = v 167 j) (hm : ∀ i : Nat, (i : Int) < (u 167 0).toInt → i ≠ K → (i : Int) < (v 167 0).toInt) : HC u2 := by
  intro j hj i hi hl
  rw [e] at hl
  by_cases q : 2 * j + i = K
  · refine rcf_e ?_ ?_ ?_ ?_ ?_ rc <;> (show u2 168 (157 * (2 * j + i) + _) = _) <;> rw [hr_at h (by decide), if_pos q]
  · have hc2 := hc j hj i hi (by
      by_cases q0 : j = 0
      · subst q0
        exact hm i hl (by omega)
      · rw [h7 (2 * j) (by omega)] at hl
        exact hl)
    refine rcf_e ?_ ?_ ?_ ?_ ?_ hc2 <;> (show u2 168 (157 * (2 * j + i) + _) = v 168 (157 * (2 * j + i) + _)) <;> rw [hr_at h (by decide), if_neg q, e8]
theorem hm_new {v n : Int32} (e : v = n + 1) (bn : Bd 0 2 n) : ∀ i : Nat, (i : Int) < v.toInt → i ≠ n.toInt.toNat → (i : Int) < n.toInt := by
  intro i h1 h2
  have e1 : (1 : Int32).toInt = 1 := rfl
  have := bn.1; have := bn.2
  rw [e, ti_add (by omega) (by omega), e1] at h1
  omega
theorem hm_old {v n : Int32} {K : Nat} (e : v = n + 0) : ∀ i : Nat, (i : Int) < v.toInt → i ≠ K → (i : Int) < n.toInt := by
  intro i h1 h2
  rw [e, Int32.add_zero] at h1
  exact h1
theorem pr_at {u2 u : Nat → Nat → Int32} {K : Nat} (h : CRI u2 u 169 37 K 37) {s k : Nat} (hk : k < 37) : u2 169 (37 * s + k) = if s = K then u 170 k else u 169 (37 * s + k) := by
  rw [h]
  by_cases q : s = K
  · subst q
    rw [if_pos (by omega), if_pos rfl, Nat.add_sub_cancel_left]
  · rw [if_neg (by omega), if_neg q]
theorem pl_cr {u2 u : Nat → Nat → Int32} {K : Nat} (h : CRI u2 u 169 37 K 37) (r : RP u) (d : PL u) : PL u2 := by
  intro s hs
  have z0 := pr_at h (s := s) (k := 0) (by decide)
  rw [Nat.add_zero] at z0
  rw [z0]
  obtain ⟨-, r0, r1⟩ := r
  obtain ⟨d0, d1⟩ := d s hs
  by_cases q : s = K
  · rw [if_pos q]
    refine ⟨r0, fun i hi => ?_⟩
    rw [pr_at h (by omega), pr_at h (by omega), pr_at h (by omega), if_pos q, if_pos q, if_pos q]
    exact r1 i hi
  · rw [if_neg q]
    refine ⟨d0, fun i hi => ?_⟩
    rw [pr_at h (by omega), pr_at h (by omega), pr_at h (by omega), if_neg q, if_neg q, if_neg q]
    exact d1 i hi
theorem my_s0 {u u2 : Nat → Nat → Int32} {v : Int32} (e : u2 = ms u 167 0 v) (b : Bd 0 2 v) (h : MY u) : MY u2 := by
  intro j hj
  have R : ∀ i, u2 167 i = if i = 0 then v else u 167 i := fun i => by rw [ms_a e]; rfl
  refine ⟨?_, ?_⟩ <;> rw [R] <;> split
  · exact b
  · exact (h j hj).1
  · omega
  · exact (h j hj).2
theorem my_s1 {u u2 : Nat → Nat → Int32} {v : Int32} (e : u2 = ms u 167 1 v) (b : Bd 0 3 v) (h : MY u) : MY u2 := by
  intro j hj
  have R : ∀ i, u2 167 i = if i = 1 then v else u 167 i := fun i => by rw [ms_a e]; rfl
  refine ⟨?_, ?_⟩ <;> rw [R] <;> split
  · omega
  · exact (h j hj).1
  · exact b
  · exact (h j hj).2
theorem hc_s1 {u u2 : Nat → Nat → Int32} {v : Int32} (e : u2 = ms u 167 1 v) (h : HC u) : HC u2 := by
  have R : ∀ i, u2 167 i = if i = 1 then v else u 167 i := fun i => by rw [ms_a e]; rfl
  have e8 : u2 168 = u 168 := ms_c e (by decide)
  intro j hj i hi hl
  rw [R, if_neg (by omega)] at hl
  rw [e8]
  exact h j hj i hi hl
