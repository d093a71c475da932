/-! a plan on a hill, on both sides -/
/-- the class's ground (cell 44 on) is the row in the reference's cell 172 -/
def GRW (u v : MM) : Prop := u 44 0 = v 172 0 ∧ u 44 2 = v 172 1 ∧ (∀ i, i < 3 → u 48 i = v 172 (2 + i)) ∧ (∀ i, i < 4 → i < (v 172 1).toInt.toNat → u 46 i = v 172 (5 + 2 * i) ∧ u 47 i = v 172 (6 + 2 * i)) ∧ ∀ p c, p < 9 → c < 16 → p < (v 172 0).toInt.toNat → u 45 (16 * p + c) = v 172 (13 + 16 * p + c)
/-- and what has been done there -/
def SIT (u v : MM) : Prop := GRW u v ∧ v 162 22 = v 172 0 ∧ u 43 1 = v 162 23 ∧ u 43 2 = v 162 24 ∧ u 43 3 = v 162 25 ∧ v 162 26 = -1 ∧ v 162 27 = 0
theorem sit_put {u v : MM} {q c : Nat} {z : Int32} (h : SIT u v) (hc : c < 16) : SIT (ms u 45 (16 * q + c) z) (ms v 172 (13 + 16 * q + c) z) := by
  obtain ⟨⟨g0, g1, g2, g3, g4⟩, s1, s2, s3, s4, s5, s6⟩ := h
  refine ⟨⟨?_, ?_, fun i hi => ?_, fun i hi hl => ?_, fun p d hp hd hl => ?_⟩, ?_, ?_, ?_, ?_, ?_, ?_⟩
  · rw [ms_c1 (by decide), ms_i1 (by omega)]; exact g0
  · rw [ms_c1 (by decide), ms_i1 (by omega)]; exact g1
  · rw [ms_c1 (by decide), ms_i1 (by omega)]; exact g2 i hi
  · rw [ms_i1 (by omega)] at hl
    rw [ms_c1 (a := 45) (b := 46) (by decide), ms_c1 (a := 45) (b := 47) (by decide), ms_i1 (by omega), ms_i1 (by omega)]
    exact g3 i hi hl
  · rw [ms_i1 (by omega)] at hl
    by_cases y : 16 * p + d = 16 * q + c
    · rw [y, show 13 + 16 * p + d = 13 + 16 * q + c by omega, ms_e1, ms_e1]
    · rw [ms_i1 y, ms_i1 (by omega)]
      exact g4 p d hp hd hl
  · rw [ms_c1 (by decide), ms_i1 (by omega)]; exact s1
  · rw [ms_c1 (by decide), ms_c1 (by decide)]; exact s2
  · rw [ms_c1 (by decide), ms_c1 (by decide)]; exact s3
  · rw [ms_c1 (by decide), ms_c1 (by decide)]; exact s4
  · rw [ms_c1 (by decide)]; exact s5
  · rw [ms_c1 (by decide)]; exact s6
theorem grw_c {u v x y : MM} (h : GRW u v) (e4 : x 44 = u 44) (e5 : x 45 = u 45) (e6 : x 46 = u 46) (e7 : x 47 = u 47) (e8 : x 48 = u 48) (e : y 172 = v 172) : GRW x y := by
  unfold GRW
  rw [e4, e5, e6, e7, e8, e]
  exact h
theorem sit_day {u v : MM} {a b : Int32} (h : SIT u v) (e : a = b) : SIT (ms u 43 2 a) (ms v 162 24 b) := by
  obtain ⟨hg, s1, s2, s3, s4, s5, s6⟩ := h
  refine ⟨grw_c hg (ms_c1 (by decide)) (ms_c1 (by decide)) (ms_c1 (by decide)) (ms_c1 (by decide)) (ms_c1 (by decide)) (ms_c1 (by decide)), ?_, by rw [ms_i1 (by decide), ms_i1 (by decide)]; exact s2, by rw [ms_e1, ms_e1]; exact e, by rw [ms_i1 (by decide), ms_i1 (by decide)]; exact s4, ?_, ?_⟩
  · rw [ms_i1 (by decide), ms_c1 (by decide)]; exact s1
  · rw [ms_i1 (by decide)]; exact s5
  · rw [ms_i1 (by decide)]; exact s6
theorem sit_los {u v : MM} {a b : Int32} (h : SIT u v) (e : a = b) : SIT (ms u 43 3 a) (ms v 162 25 b) := by
  obtain ⟨hg, s1, s2, s3, s4, s5, s6⟩ := h
  refine ⟨grw_c hg (ms_c1 (by decide)) (ms_c1 (by decide)) (ms_c1 (by decide)) (ms_c1 (by decide)) (ms_c1 (by decide)) (ms_c1 (by decide)), ?_, by rw [ms_i1 (by decide), ms_i1 (by decide)]; exact s2, by rw [ms_i1 (by decide), ms_i1 (by decide)]; exact s3, by rw [ms_e1, ms_e1]; exact e, ?_, ?_⟩
  · rw [ms_i1 (by decide), ms_c1 (by decide)]; exact s1
  · rw [ms_i1 (by decide)]; exact s5
  · rw [ms_i1 (by decide)]; exact s6
theorem sit_don {u v : MM} {a b : Int32} (h : SIT u v) (e : a = b) : SIT (ms u 43 1 a) (ms v 162 23 b) := by
  obtain ⟨hg, s1, s2, s3, s4, s5, s6⟩ := h
  refine ⟨grw_c hg (ms_c1 (by decide)) (ms_c1 (by decide)) (ms_c1 (by decide)) (ms_c1 (by decide)) (ms_c1 (by decide)) (ms_c1 (by decide)), ?_, by rw [ms_e1, ms_e1]; exact e, by rw [ms_i1 (by decide), ms_i1 (by decide)]; exact s3, by rw [ms_i1 (by decide), ms_i1 (by decide)]; exact s4, ?_, ?_⟩
  · rw [ms_i1 (by decide), ms_c1 (by decide)]; exact s1
  · rw [ms_i1 (by decide)]; exact s5
  · rw [ms_i1 (by decide)]; exact s6
theorem hofE {u : MM} {t q c : Nat} (hq : q < 9) (hc : c < 16) : hof u t (iN q) (iN c) = u (t + 1) (16 * q + c) := by
  unfold hof
  rw [if_neg]
  · have e : ((iN q * 16) + iN c).toNatClampNeg = 16 * q + c := by
      show (iN q * iN 16 + iN c).toNatClampNeg = _
      rw [iN_m, iN_a, iN_cl (by omega)]
      omega
    exact congrArg (u (t + 1)) e
  · intro z
    rcases z with z | z | z | z
    · have := (iN_lt (b := 0) (by omega) (by omega)).mp z; omega
    · have := (iN_le (a := 9) (by omega) (by omega)).mp z; omega
    · have := (iN_lt (b := 0) (by omega) (by omega)).mp z; omega
    · have := (iN_le (a := 16) (by omega) (by omega)).mp z; omega
theorem mofI {q c : Nat} (hq : q < 9) (hc : c < 16) : (((13 : Int32) + ((16 : Int32) * iN q)) + iN c).toNatClampNeg = 13 + 16 * q + c := by
  show (iN 13 + iN 16 * iN q + iN c).toNatClampNeg = _
  rw [iN_m, iN_a, iN_a, iN_cl (by omega)]
theorem mofE {v : MM} {q c : Nat} (hq : q < 9) (hc : c < 16) : mof v (iN q) (iN c) = v 172 (13 + 16 * q + c) := by
  unfold mof
  exact congrArg (v 172) (mofI hq hc)
theorem sit_of {u v : MM} {q c : Nat} (h : SIT u v) (hq : q < 9) (hc : c < 16) (hl : q < (v 172 0).toInt.toNat) : hof u 44 (iN q) (iN c) = mof v (iN q) (iN c) := by
  rw [hofE hq hc, mofE hq hc]
  exact h.1.2.2.2.2 q c hq hc hl
theorem puE {u : MM} {g : GG} {q c : Nat} {z : Int32} (hq : q < 9) (hc : c < 16) : Fx_H_putBX (iN q) (iN c) z 44 u g = ms u 45 (16 * q + c) z := by
  unfold Fx_H_putBX
  rw [if_neg (show ¬ iN q < (0 : Int32) from fun q => by have := (iN_lt (b := 0) (by omega) (by omega)).mp q; omega), if_neg (show ¬ (9 : Int32) ≤ iN q from fun q => by have := (iN_le (a := 9) (by omega) (by omega)).mp q; omega), if_neg (show ¬ iN c < (0 : Int32) from fun q => by have := (iN_lt (b := 0) (by omega) (by omega)).mp q; omega), if_neg (show ¬ (16 : Int32) ≤ iN c from fun q => by have := (iN_le (a := 16) (by omega) (by omega)).mp q; omega)]
  have e : ((iN q * 16) + iN c).toNatClampNeg = 16 * q + c := by
    show (iN q * iN 16 + iN c).toNatClampNeg = _
    rw [iN_m, iN_a, iN_cl (by omega)]
    omega
  rw [e]
  rfl
theorem msE {v : MM} {g : GG} {q c : Nat} {z : Int32} (hq : q < 9) (hc : c < 16) : Fx_M_setX (iN q) (iN c) z v g = ms v 172 (13 + 16 * q + c) z := by
  unfold Fx_M_setX
  rw [xqb, mofI hq hc]
theorem ms_cm {u : MM} {a i j : Nat} {x y : Int32} (h : i ≠ j) : ms (ms u a i x) a j y = ms (ms u a j y) a i x := by
  funext b
  by_cases q : b = a
  · subst q
    rw [ms_a1, ms_a1, ms_a1, ms_a1]
    funext k
    unfold upd
    by_cases q1 : k = j
    · rw [if_pos q1, if_neg (by omega), if_pos q1]
    · rw [if_neg q1, if_neg q1]
  · rw [ms_c1 q, ms_c1 q, ms_c1 q, ms_c1 q]
/-- what a work leaves alone -/
def LFT (x u : MM) : Prop := (∀ c, c ≠ 43 → c ≠ 45 → x c = u c) ∧ ∀ j, j ≠ 2 → j ≠ 3 → x 43 j = u 43 j
def RFT (y v : MM) : Prop := (∀ c, c ≠ 162 → c ≠ 172 → y c = v c) ∧ (∀ j, j ≠ 24 → j ≠ 25 → y 162 j = v 162 j) ∧ ∀ j, j < 13 → y 172 j = v 172 j
theorem lft_0 {u : MM} : LFT u u := ⟨fun _ _ _ => rfl, fun _ _ _ => rfl⟩
theorem rft_0 {v : MM} : RFT v v := ⟨fun _ _ _ => rfl, fun _ _ _ => rfl, fun _ _ => rfl⟩
theorem lft_p {u : MM} {x : MM} {i : Nat} {z : Int32} (h : LFT x u) : LFT (ms x 45 i z) u := ⟨fun c c1 c2 => (ms_c1 c2).trans (h.1 c c1 c2), fun j j1 j2 => (congrFun (ms_c1 (by decide)) j).trans (h.2 j j1 j2)⟩
theorem lft_d {u : MM} {x : MM} {i : Nat} {z : Int32} (hi : i = 2 ∨ i = 3) (h : LFT x u) : LFT (ms x 43 i z) u := ⟨fun c c1 c2 => (ms_c1 c1).trans (h.1 c c1 c2), fun j j1 j2 => (ms_i1 (by omega)).trans (h.2 j j1 j2)⟩
theorem rft_p {v y : MM} {i : Nat} {z : Int32} (hi : 13 ≤ i) (h : RFT y v) : RFT (ms y 172 i z) v := ⟨fun c c1 c2 => (ms_c1 c2).trans (h.1 c c1 c2), fun j j1 j2 => (congrFun (ms_c1 (by decide)) j).trans (h.2.1 j j1 j2), fun j hj => (ms_i1 (by omega)).trans (h.2.2 j hj)⟩
theorem rft_d {v y : MM} {i : Nat} {z : Int32} (hi : i = 24 ∨ i = 25) (h : RFT y v) : RFT (ms y 162 i z) v := ⟨fun c c1 c2 => (ms_c1 c1).trans (h.1 c c1 c2), fun j j1 j2 => (ms_i1 (by omega)).trans (h.2.1 j j1 j2), fun j hj => (congrFun (ms_c1 (by decide)) j).trans (h.2.2 j hj)⟩
/-- a step's two answers -/
def STP (a b : Bool × MM) (u v : MM) : Prop := a.1 = b.1 ∧ SIT a.2 b.2 ∧ LFT a.2 u ∧ RFT b.2 v
theorem stp_f {u v : MM} (h : SIT u v) : STP (false, u) (false, v) u v := ⟨rfl, h, lft_0, rft_0⟩
theorem hs_ps {u : MM} {g : GG} {x : Int32} {n : Nat} (hu : u 44 0 = iN n) (hn : n ≤ 9) (b0 : 0 ≤ x.toInt) : Fx_H_hasX x 44 u g = decide (x.toInt < n) := by
  have l0 : (0 : Int32).toInt = 0 := rfl
  unfold Fx_H_hasX
  rw [if_neg (nltI (by omega)), hu]
  by_cases q : x.toInt < n
  · rw [if_neg (nleI (by rw [iN_ti (by omega)]; exact q)), decide_eq_true q]
  · rw [if_pos (leI (by rw [iN_ti (by omega)]; omega)), decide_eq_false q]
/-- taken out -/
theorem out_X {u v : MM} {g g' : GG} {q : Nat} (h : SIT u v) (hq : q < 9) (hl : q < (v 172 0).toInt.toNat) : STP (xq_lt (ms u 43 3 ((u 43 3) + ((hof u 44 (iN q) (7 : Int32)) * (hof u 44 (iN q) (1 : Int32))))) fun x => xq_lt (Fx_H_takeOutBX (iN q) 44 x g) fun x2 => (true, x2)) (xq_lt (ms v 162 25 ((v 162 25) + ((mof v (iN q) (1 : Int32)) * (mof v (iN q) (7 : Int32))))) fun y => xq_lt (Fx_M_setX (iN q) (1 : Int32) (0 : Int32) y g') fun y2 => xq_lt (Fx_M_setX (iN q) (0 : Int32) (0 : Int32) y2 g') fun y3 => xq_lt (Fx_M_setX (iN q) (4 : Int32) (0 : Int32) y3 g') fun y4 => xq_lt (Fx_M_setX (iN q) (15 : Int32) (1 : Int32) y4 g') fun y5 => (true, y5)) u v := by
  rw [xqb, xqb, xqb, xqb, xqb, xqb, xqb]
  unfold Fx_H_takeOutBX
  rw [xqb, xqb, xqb, xqb]
  have h7 := sit_of (c := 7) h hq (by decide) hl
  have h1 := sit_of (c := 1) h hq (by decide) hl
  have e : (u 43 3) + ((hof u 44 (iN q) (7 : Int32)) * (hof u 44 (iN q) (1 : Int32))) = (v 162 25) + ((mof v (iN q) (1 : Int32)) * (mof v (iN q) (7 : Int32))) := by
    rw [show hof u 44 (iN q) (7 : Int32) = mof v (iN q) (7 : Int32) from h7, show hof u 44 (iN q) (1 : Int32) = mof v (iN q) (1 : Int32) from h1, h.2.2.2.2.1, Int32.mul_comm]
  have s0 := sit_los h e
  rw [show ∀ (x : MM) (z : Int32), Fx_H_putBX (iN q) (15 : Int32) z 44 x g = ms x 45 (16 * q + 15) z from fun x z => puE (c := 15) hq (by decide), show ∀ (x : MM) (z : Int32), Fx_H_putBX (iN q) (1 : Int32) z 44 x g = ms x 45 (16 * q + 1) z from fun x z => puE (c := 1) hq (by decide), show ∀ (x : MM) (z : Int32), Fx_H_putBX (iN q) (0 : Int32) z 44 x g = ms x 45 (16 * q + 0) z from fun x z => puE (c := 0) hq (by decide), show ∀ (x : MM) (z : Int32), Fx_H_putBX (iN q) (4 : Int32) z 44 x g = ms x 45 (16 * q + 4) z from fun x z => puE (c := 4) hq (by decide)]
  rw [show ∀ (x : MM) (z : Int32), Fx_M_setX (iN q) (15 : Int32) z x g' = ms x 172 (13 + 16 * q + 15) z from fun x z => msE (c := 15) hq (by decide), show ∀ (x : MM) (z : Int32), Fx_M_setX (iN q) (1 : Int32) z x g' = ms x 172 (13 + 16 * q + 1) z from fun x z => msE (c := 1) hq (by decide), show ∀ (x : MM) (z : Int32), Fx_M_setX (iN q) (0 : Int32) z x g' = ms x 172 (13 + 16 * q + 0) z from fun x z => msE (c := 0) hq (by decide), show ∀ (x : MM) (z : Int32), Fx_M_setX (iN q) (4 : Int32) z x g' = ms x 172 (13 + 16 * q + 4) z from fun x z => msE (c := 4) hq (by decide)]
  rw [ms_cm (a := 172) (i := 13 + 16 * q + 4) (j := 13 + 16 * q + 15) (by omega), ms_cm (a := 172) (i := 13 + 16 * q + 0) (j := 13 + 16 * q + 15) (by omega), ms_cm (a := 172) (i := 13 + 16 * q + 1) (j := 13 + 16 * q + 15) (by omega)]
  exact ⟨rfl, sit_put (sit_put (sit_put (sit_put s0 (by decide)) (by decide)) (by decide)) (by decide), lft_p (lft_p (lft_p (lft_p (lft_d (Or.inr rfl) lft_0)))), rft_p (by omega) (rft_p (by omega) (rft_p (by omega) (rft_p (by omega) (rft_d (Or.inr rfl) rft_0))))⟩
/-- the gate of every work -/
theorem gate_X {u v : MM} {g : GG} {p : Int32} {A B : Bool × MM} (h : SIT u v) (b9 : Bd 0 9 (v 172 0)) (bp : Bd 0 999 p) (K : ∀ q, q < 9 → p = iN q → q < (v 172 0).toInt.toNat → STP A B u v) : STP (xq_lt (Fx_H_hasX p 44 u g) fun t => if t = true then (xq_lt (Fx_H_isOutX p 44 u g) fun t2 => if t2 = true then (false, u) else A) else (false, u)) (if v 162 22 ≤ p then (false, v) else if mof v p (15 : Int32) = 1 then (false, v) else B) u v := by
  obtain ⟨n, hn, n9⟩ := iN_ex (hi := 9) b9
  obtain ⟨q, hq, q999⟩ := iN_ex (hi := 999) bp
  have un : u 44 0 = iN n := h.1.1.trans hn
  have vn : v 162 22 = iN n := h.2.1.trans hn
  have tq : p.toInt = q := by rw [hq, iN_ti (by omega)]
  rw [xqb, hs_ps un n9 (by omega), vn]
  by_cases c : q < n
  rotate_left
  · rw [decide_eq_false (show ¬ p.toInt < n by omega), if_neg (by decide), if_pos (leI (by rw [iN_ti (by omega)]; omega))]
    exact stp_f h
  have q9 : q < 9 := by omega
  have ql : q < (v 172 0).toInt.toNat := by rw [hn, iN_ti (by omega)]; omega
  rw [decide_eq_true (show p.toInt < n by omega), if_pos rfl, if_neg (nleI (by rw [iN_ti (by omega)]; omega)), xqb]
  have eo : Fx_H_isOutX p 44 u g = decide (mof v p (15 : Int32) = 1) := by
    unfold Fx_H_isOutX
    rw [hq, show hof u 44 (iN q) (15 : Int32) = mof v (iN q) (15 : Int32) from sit_of h q9 (by decide) ql]
    by_cases y : mof v (iN q) (15 : Int32) = 1
    · rw [if_pos y, decide_eq_true y]
    · rw [if_neg y, decide_eq_false y]
  rw [eo]
  by_cases y : mof v p (15 : Int32) = 1
  · rw [decide_eq_true y, if_pos rfl, if_pos y]
    exact stp_f h
  · rw [decide_eq_false y, if_neg (by decide), if_neg y]
    exact K q q9 hq ql
theorem xqc_id {α β : Type} {P : α × β} : (xq_c2 P fun t z => (t, z)) = P := rfl
/-- a work on both sides -/
theorem st_X {u v : MM} {g g' : GG} {kind p much : Int32} (h : SIT u v) (b9 : Bd 0 9 (v 172 0)) (bp : Bd 0 999 p) (bm : kind = 4 ∨ Bd 0 999 much) : STP (Fx_Si_buildsX kind p much u g) (Fx_M_doesX kind p much v g') u v := by
  have hs := h
  obtain ⟨⟨g0, g1, g2, g3, g4⟩, s1, s2, s3, s4, s5, s6⟩ := h
  unfold Fx_Si_buildsX Fx_M_doesX
  by_cases k4 : kind = 4
  · rw [if_pos k4, if_pos k4]
    refine gate_X hs b9 bp (fun q q9 hq ql => ?_)
    rw [k4, if_neg (by decide), if_neg (by decide), if_neg (by decide), if_neg (by decide), if_neg (by decide), if_neg (by decide), if_neg (by decide), if_neg (by decide), hq]
    exact out_X hs q9 ql
  rw [if_neg k4, if_neg k4]
  have bm2 := bm.resolve_left k4
  refine gate_X hs b9 bp (fun q q9 hq ql => ?_)
  rw [hq]
  have so : ∀ c, c < 16 → hof u 44 (iN q) (iN c) = mof v (iN q) (iN c) := fun c hc => sit_of hs q9 hc ql
  by_cases k0 : kind = 0
  · rw [if_pos k0, if_pos k0, xqc_id]
    unfold Fx_Si_mendsX
    rw [show hof u 44 (iN q) (4 : Int32) = mof v (iN q) (4 : Int32) from so 4 (by decide)]
    by_cases y : much ≤ mof v (iN q) (4 : Int32)
    rotate_left
    · rw [if_neg y, if_neg y]
      exact stp_f hs
    rw [if_pos y, if_pos y, xqb, xqb, xqb, xqb, show ∀ z : Int32, Fx_H_putBX (iN q) (4 : Int32) z 44 u g = ms u 45 (16 * q + 4) z from fun z => puE (c := 4) q9 (by decide), show ∀ z : Int32, Fx_M_setX (iN q) (4 : Int32) z v g' = ms v 172 (13 + 16 * q + 4) z from fun z => msE (c := 4) q9 (by decide), ms_i1 (a := 172) (show (2 : Nat) ≠ 13 + 16 * q + 4 by omega)]
    exact ⟨rfl, sit_day (sit_put hs (by decide)) (by rw [s3, Int32.mul_comm, show u 48 0 = v 172 2 from g2 0 (by decide)]), lft_d (Or.inl rfl) (lft_p lft_0), rft_d (Or.inl rfl) (rft_p (by omega) rft_0)⟩
  by_cases k1 : kind = 1
  · rw [if_neg k0, if_pos k1, if_neg k0, if_pos k1, xqc_id]
    unfold Fx_Si_lowersX
    rw [show hof u 44 (iN q) (1 : Int32) = mof v (iN q) (1 : Int32) from so 1 (by decide)]
    by_cases y : much ≤ mof v (iN q) (1 : Int32)
    rotate_left
    · rw [if_neg y, if_neg y]
      exact stp_f hs
    rw [if_pos y, if_pos y, xqb, xqb, xqb, xqb, show ∀ z : Int32, Fx_H_putBX (iN q) (1 : Int32) z 44 u g = ms u 45 (16 * q + 1) z from fun z => puE (c := 1) q9 (by decide), show ∀ z : Int32, Fx_M_setX (iN q) (1 : Int32) z v g' = ms v 172 (13 + 16 * q + 1) z from fun z => msE (c := 1) q9 (by decide)]
    have sp := sit_put (q := q) (c := 1) (z := mof v (iN q) (1 : Int32) - much) hs (by decide)
    have h7 := sit_of (q := q) (c := 7) sp q9 (by decide) (by rw [ms_i1 (by omega)]; exact ql)
    exact ⟨rfl, sit_los sp (by rw [show hof (ms u 45 (16 * q + 1) (mof v (iN q) (1 : Int32) - much)) 44 (iN q) (7 : Int32) = mof (ms v 172 (13 + 16 * q + 1) (mof v (iN q) (1 : Int32) - much)) (iN q) (7 : Int32) from h7, s4, Int32.mul_comm]), lft_d (Or.inr rfl) (lft_p lft_0), rft_d (Or.inr rfl) (rft_p (by omega) rft_0)⟩
  by_cases k2 : kind = 2
  · rw [if_neg k0, if_neg k1, if_pos k2, if_neg k0, if_neg k1, if_pos k2, xqc_id]
    unfold Fx_Si_widensX
    rw [show hof u 44 (iN q) (3 : Int32) = mof v (iN q) (3 : Int32) from so 3 (by decide)]
    by_cases y : mof v (iN q) (3 : Int32) + much ≤ 24
    rotate_left
    · rw [if_neg y, if_neg y]
      exact stp_f hs
    rw [if_pos y, if_pos y, xqb, xqb, xqb, xqb, show ∀ z : Int32, Fx_H_putBX (iN q) (3 : Int32) z 44 u g = ms u 45 (16 * q + 3) z from fun z => puE (c := 3) q9 (by decide), show ∀ z : Int32, Fx_M_setX (iN q) (3 : Int32) z v g' = ms v 172 (13 + 16 * q + 3) z from fun z => msE (c := 3) q9 (by decide), ms_i1 (a := 172) (show (3 : Nat) ≠ 13 + 16 * q + 3 by omega)]
    exact ⟨rfl, sit_day (sit_put hs (by decide)) (by rw [s3, Int32.mul_comm, show u 48 1 = v 172 3 from g2 1 (by decide)]), lft_d (Or.inl rfl) (lft_p lft_0), rft_d (Or.inl rfl) (rft_p (by omega) rft_0)⟩
  by_cases k3 : kind = 3
  · rw [if_neg k0, if_neg k1, if_neg k2, if_pos k3, if_neg k0, if_neg k1, if_neg k2, if_pos k3, xqc_id]
    unfold Fx_Si_leadsX
    obtain ⟨n, hn, n9⟩ := iN_ex (hi := 9) b9
    obtain ⟨r, hr, r999⟩ := iN_ex (hi := 999) bm2
    have tr : much.toInt = r := by rw [hr, iN_ti (by omega)]
    have qn : q < n := by rw [hn, iN_ti (by omega)] at ql; omega
    have l1 : (1 : Int32).toInt = 1 := rfl
    have tq1 : (iN q + 1).toInt = q + 1 := by rw [iN_s, iN_ti (by omega)]; omega
    have tn1 : (v 162 22 - 1).toInt = (n : Int) - 1 := by rw [s1, hn, ti_sub (by rw [iN_ti (by omega)]; omega) (by rw [iN_ti (by omega)]; omega), iN_ti (by omega), l1]
    rw [xqb, hs_ps (g0.trans hn) n9 (by omega), in_X, xqb (x := (decide (iN q + 1 ≤ much) && decide (much ≤ v 162 22 - 1)))]
    by_cases y : r < n ∧ q < r
    · rw [decide_eq_true (show much.toInt < n by omega), if_pos rfl, if_pos (ltI (by rw [iN_ti (by omega)]; omega)), if_pos (inT (by omega) (by omega)), xqb, xqb, xqb, xqb, show ∀ z : Int32, Fx_H_putBX (iN q) (8 : Int32) z 44 u g = ms u 45 (16 * q + 8) z from fun z => puE (c := 8) q9 (by decide), show ∀ z : Int32, Fx_M_setX (iN q) (8 : Int32) z v g' = ms v 172 (13 + 16 * q + 8) z from fun z => msE (c := 8) q9 (by decide), ms_i1 (a := 172) (show (4 : Nat) ≠ 13 + 16 * q + 8 by omega)]
      exact ⟨rfl, sit_day (sit_put hs (by decide)) (by rw [s3, show u 48 2 = v 172 4 from g2 2 (by decide)]), lft_d (Or.inl rfl) (lft_p lft_0), rft_d (Or.inl rfl) (rft_p (by omega) rft_0)⟩
    · rw [if_neg (inF (by omega))]
      by_cases z : r < n
      · rw [decide_eq_true (show much.toInt < n by omega), if_pos rfl, if_neg (nltI (by rw [iN_ti (by omega)]; omega))]
        exact stp_f hs
      · rw [decide_eq_false (show ¬ much.toInt < n by omega), if_neg (by decide)]
        exact stp_f hs
  rw [if_neg k0, if_neg k1, if_neg k2, if_neg k3, if_neg k0, if_neg k1, if_neg k2, if_neg k3]
  exact out_X hs q9 ql
