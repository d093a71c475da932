/-! one number of a pond set, on both sides; the mean of all of a hill, in three cells -/
def upA (A : Nat → Nat → Int32) (p c : Nat) (z : Int32) (q d : Nat) : Int32 := if q = p ∧ d = c then z else A q d
theorem upA_n {A : Nat → Nat → Int32} {p c q d : Nat} {z : Int32} (h : d ≠ c) : upA A p c z q d = A q d := if_neg (fun y => h y.2)
theorem upA_b {A : Nat → Nat → Int32} {p c : Nat} {z : Int32} (q d : Nat) : upA (upA A p c z) p c (A p c) q d = A q d := by
  unfold upA
  by_cases y : q = p ∧ d = c
  · rw [if_pos y, y.1, y.2]
  · rw [if_neg y, if_neg y]
theorem upA_2 {A : Nat → Nat → Int32} {p c : Nat} {z w : Int32} (q d : Nat) : upA (upA A p c z) p c w q d = upA A p c w q d := by
  unfold upA
  by_cases y : q = p ∧ d = c
  · rw [if_pos y, if_pos y]
  · rw [if_neg y, if_neg y, if_neg y]
theorem aw_u {A : Nat → Nat → Int32} {n p c : Nat} {z : Int32} (h : AWF n A) (b : Bd (cLo c) (cHi c) z) (l : c = 8 ∨ c = 9 → LK n p z) : AWF n (upA A p c z) := by
  intro q hq
  obtain ⟨a1, a2, a3⟩ := h q hq
  refine ⟨fun d hd => ?_, ?_, ?_⟩
  · unfold upA
    by_cases y : q = p ∧ d = c
    · rw [if_pos y, y.2]; exact b
    · rw [if_neg y]; exact a1 d hd
  · unfold upA
    by_cases y : q = p ∧ 8 = c
    · rw [if_pos y, y.1]; exact l (Or.inl y.2.symm)
    · rw [if_neg y]; exact a2
  · unfold upA
    by_cases y : q = p ∧ 9 = c
    · rw [if_pos y, y.1]; exact l (Or.inr y.2.symm)
    · rw [if_neg y]; exact a3
theorem rr_s {y : MM} {n m p c : Nat} {A : Nat → Nat → Int32} {sr cr : Nat → Int32} {z : Int32} (h : RR y n m A sr cr) (hc : c < 16) (b : Bd (cLo c) (cHi c) z) (l : c = 8 ∨ c = 9 → LK n p z) : RR (ms y 172 (13 + 16 * p + c) z) n m (upA A p c z) sr cr := by
  obtain ⟨n9, m4, ma, aw, h26, h27, h1, hr⟩ := h
  refine ⟨n9, m4, ⟨by rw [ms_c1 (by decide)]; exact ma.1, fun q d hq hd => ?_⟩, aw_u aw b l, by rw [ms_c1 (by decide)]; exact h26, by rw [ms_c1 (by decide)]; exact h27, by rw [ms_i1 (by omega)]; exact h1, fun i hi => ?_⟩
  · unfold upA
    by_cases y : q = p ∧ d = c
    · rw [if_pos y, y.1, y.2, ms_e1]
    · rw [if_neg y, ms_i1 (fun e => y ⟨by omega, by omega⟩)]
      exact ma.2 q d hq hd
  · rw [ms_i1 (by omega), ms_i1 (by omega)]
    exact hr i hi
theorem ha_s {x : MM} {t n p c : Nat} {A : Nat → Nat → Int32} {z : Int32} (h : HA x t n A) (hc : c < 16) : HA (ms x (t + 1) (16 * p + c) z) t n (upA A p c z) := by
  refine ⟨by rw [ms_c1 (by omega)]; exact h.1, fun q d hq hd => ?_⟩
  unfold upA
  by_cases y : q = p ∧ d = c
  · rw [if_pos y, y.1, y.2, ms_e1]
  · rw [if_neg y, ms_i1 (fun e => y ⟨by omega, by omega⟩)]
    exact h.2 q d hq hd
theorem ha_e {x : MM} {t n : Nat} {A B : Nat → Nat → Int32} (h : HA x t n A) (e : ∀ p c, p < n → c < 16 → A p c = B p c) : HA x t n B := ⟨h.1, fun p c hp hc => (h.2 p c hp hc).trans (e p c hp hc)⟩
theorem putE {u : MM} {g : GG} {t q c : Nat} {z : Int32} (hq : q < 9) (hc : c < 16) : Fx_H_putX (iN q) (iN c) z t u g = ms u (t + 1) (16 * q + c) z := by
  unfold Fx_H_putX
  rw [if_neg (show ¬ iN q < (0 : Int32) from fun q => by have := (iN_lt (b := 0) (by omega) (by omega)).mp q; omega), if_neg (show ¬ (9 : Int32) ≤ iN q from fun q => by have := (iN_le (a := 9) (by omega) (by omega)).mp q; omega), if_neg (show ¬ iN c < (0 : Int32) from fun q => by have := (iN_lt (b := 0) (by omega) (by omega)).mp q; omega), if_neg (show ¬ (16 : Int32) ≤ iN c from fun q => by have := (iN_le (a := 16) (by omega) (by omega)).mp q; omega)]
  have e : ((iN q * 16) + iN c).toNatClampNeg = 16 * q + c := by
    show (iN q * iN 16 + iN c).toNatClampNeg = _
    rw [iN_m, iN_a, iN_cl (by omega)]
    omega
  rw [e]
  rfl
/-- the reference's mean, when a number that is no chance was set -/
theorem mb_e {A B : Nat → Nat → Int32} {n m : Nat} {sr cr : Nat → Int32} {ch : Nat → Int32} (h : ∀ p c, c ≠ 4 → A p c = B p c) : fR (mnF A n sr cr ch (fun w => hro A (-1) w n)) (2 ^ n) m 0 = fR (mnF B n sr cr ch (fun w => hro B (-1) w n)) (2 ^ n) m 0 := by
  rw [mn_4 (B := B) h]
  refine fR_c m 0 (fun r b a hr hb => ?_)
  unfold mnF
  dsimp only
  rw [hro_4 (B := B) h n]
noncomputable def MN (A : Nat → Nat → Int32) (n m : Nat) (sr cr : Nat → Int32) : Int64 := fR (mnF A n sr cr (fun p => A p 4) (fun w => hro A (-1) w n)) (2 ^ n) m 0
theorem mb_N {y : MM} {g : GG} {n m : Nat} {A : Nat → Nat → Int32} {sr cr : Nat → Int32} (h : RR y n m A sr cr) : ∃ y2, Fx_M_meanByX (-1) y g = (MN A n m sr cr, y2) ∧ FRM y2 y := mb_X (o := -1) h
/-- rains that a hill in cell t has -/
def RNS (x : MM) (t m : Nat) (sr cr : Nat → Int32) : Prop := x t 2 = iN m ∧ ∀ i, i < m → x (t + 2) i = sr i ∧ x (t + 3) i = cr i
theorem rns_L {x y : MM} {n m : Nat} (L : LDF x y n m) : RNS x 44 m (sR y) (cR y) := ⟨L.2.2.2.2.2.2.1, fun i hi => ⟨(L.2.2.2.2.2.2.2.2.1 i hi).1, (L.2.2.2.2.2.2.2.2.1 i hi).2.1⟩⟩
theorem rns_c {x x' : MM} {t m : Nat} {sr cr : Nat → Int32} (h : RNS x t m sr cr) (e0 : x' t = x t) (e2 : x' (t + 2) = x (t + 2)) (e3 : x' (t + 3) = x (t + 3)) : RNS x' t m sr cr := by
  unfold RNS
  rw [e0, e2, e3]
  exact h
/-- a hill copied from cell 44 -/
theorem cph_X {x : MM} {g : GG} {t n m : Nat} {A : Nat → Nat → Int32} {sr cr : Nat → Int32} (h : HA x 44 n A) (r : RNS x 44 m sr cr) (n9 : n ≤ 9) (m4 : m ≤ 4) (d : 48 < t) : ∃ x', Fx_H_copyX t 44 x g = x' ∧ HA x' t n A ∧ RNS x' t m sr cr ∧ ∀ c, c < t ∨ t + 4 < c → x' c = x c := by
  obtain ⟨x1, hx1⟩ : ∃ x1, x1 = Fx_H_copyX t 44 x g := ⟨_, rfl⟩
  have cp := hcB (u := x) (g := g) (t := t) (f := 44) (by omega)
  have hx1' : x1 = Fx_H_copyBX t 44 x g := hx1
  rw [← hx1'] at cp
  obtain ⟨⟨p0, p2', p3', p4', p5', p6'⟩, pc'⟩ := cp
  exact ⟨x1, hx1.symm, ⟨p0.trans h.1, fun p c hp hc => (p3' (16 * p + c) (by omega)).trans (h.2 p c hp hc)⟩, ⟨p2'.trans r.1, fun i hi => ⟨(p4' i (by omega)).trans (r.2 i hi).1, (p5' i (by omega)).trans (r.2 i hi).2⟩⟩, pc'⟩
