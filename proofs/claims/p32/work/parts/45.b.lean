section
/-! the works of a plan, one by one -/
theorem xqc2 {α β γ : Type} {P : α × β} {K : α → β → γ} : xq_c2 P K = K P.1 P.2 := rfl
/-- what the works of plan k (of the class in cell W) are, on both sides -/
def WKS (x y : MM) (W k m : Nat) : Prop := y 169 (37 * k) = iN m ∧ m ≤ 12 ∧ (∀ i, i < m → x (W + 1) i = y 169 (37 * k + (1 + 3 * i)) ∧ x (W + 2) i = y 169 (37 * k + (2 + 3 * i)) ∧ x (W + 3) i = y 169 (37 * k + (3 + 3 * i))) ∧ ∀ i, i < 12 → (y 169 (37 * k + (1 + 3 * i)) = 4 ∨ Bd 0 999 (y 169 (37 * k + (3 + 3 * i)))) ∧ Bd 0 999 (y 169 (37 * k + (2 + 3 * i)))
theorem wks_c {x y x2 y2 : MM} {W k m : Nat} (h : WKS x y W k m) (e1 : x2 (W + 1) = x (W + 1)) (e2 : x2 (W + 2) = x (W + 2)) (e3 : x2 (W + 3) = x (W + 3)) (e : y2 169 = y 169) : WKS x2 y2 W k m := by
  unfold WKS
  rw [e1, e2, e3, e]
  exact h
theorem wi_1 {k i : Nat} (hk : k ≤ 12) (hi : i ≤ 12) : ((((37 : Int32) * iN k) + 1) + ((3 : Int32) * iN i)).toNatClampNeg = 37 * k + (1 + 3 * i) := by
  show (((iN 37 * iN k) + iN 1) + (iN 3 * iN i)).toNatClampNeg = _
  rw [iN_m, iN_m, iN_a, iN_a, iN_cl (by omega)]
  omega
theorem wi_2 {k i : Nat} (hk : k ≤ 12) (hi : i ≤ 12) : (((((37 : Int32) * iN k) + 1) + ((3 : Int32) * iN i)) + 1).toNatClampNeg = 37 * k + (2 + 3 * i) := by
  show ((((iN 37 * iN k) + iN 1) + (iN 3 * iN i)) + iN 1).toNatClampNeg = _
  rw [iN_m, iN_m, iN_a, iN_a, iN_a, iN_cl (by omega)]
  omega
theorem wi_3 {k i : Nat} (hk : k ≤ 12) (hi : i ≤ 12) : (((((37 : Int32) * iN k) + 1) + ((3 : Int32) * iN i)) + 2).toNatClampNeg = 37 * k + (3 + 3 * i) := by
  show ((((iN 37 * iN k) + iN 1) + (iN 3 * iN i)) + iN 2).toNatClampNeg = _
  rw [iN_m, iN_m, iN_a, iN_a, iN_a, iN_cl (by omega)]
  omega
theorem wi_0 {k : Nat} (hk : k ≤ 12) : ((37 : Int32) * iN k).toNatClampNeg = 37 * k := by
  show (iN 37 * iN k).toNatClampNeg = _
  rw [iN_m, iN_cl (by omega)]
theorem hwf_u {q c : Nat} {z : Int32} {R : Nat → Int32} (h : HWF R) (hc : c < 16) (b : Bd (cLo c) (cHi c) z) (l : ∀ n, n ≤ 9 → R 0 = iN n → c = 8 ∨ c = 9 → LK n q z) : HWF (upd R (13 + 16 * q + c) z) := by
  have u : ∀ j, j < 13 → upd R (13 + 16 * q + c) z j = R j := fun j hj => if_neg (by omega)
  refine ⟨hwp_u h.1 hc b l, ?_, ?_⟩
  · rw [u 1 (by decide)]; exact h.2.1
  · have h3 := h.2.2
    unfold sm at h3 ⊢
    rw [u 1 (by decide), u 6 (by decide), u 8 (by decide), u 10 (by decide), u 12 (by decide)]
    exact h3
theorem hwf_o {q : Nat} {v : MM} {g : GG} {x : Int32} (h : HWF (v 172)) (hq : q < 9) : HWF ((xq_lt (ms v 162 25 x) fun y => xq_lt (Fx_M_setX (iN q) (1 : Int32) (0 : Int32) y g) fun y2 => xq_lt (Fx_M_setX (iN q) (0 : Int32) (0 : Int32) y2 g) fun y3 => xq_lt (Fx_M_setX (iN q) (4 : Int32) (0 : Int32) y3 g) fun y4 => xq_lt (Fx_M_setX (iN q) (15 : Int32) (1 : Int32) y4 g) fun y5 => (true, y5)).2 172) := by
  rw [xqb, xqb, xqb, xqb, xqb]
  have s1 : ∀ (y : MM) (z : Int32), Fx_M_setX (iN q) (1 : Int32) z y g = ms y 172 (13 + 16 * q + 1) z := fun y z => msE (c := 1) hq (by decide)
  have s0 : ∀ (y : MM) (z : Int32), Fx_M_setX (iN q) (0 : Int32) z y g = ms y 172 (13 + 16 * q + 0) z := fun y z => msE (c := 0) hq (by decide)
  have s4 : ∀ (y : MM) (z : Int32), Fx_M_setX (iN q) (4 : Int32) z y g = ms y 172 (13 + 16 * q + 4) z := fun y z => msE (c := 4) hq (by decide)
  have s15 : ∀ (y : MM) (z : Int32), Fx_M_setX (iN q) (15 : Int32) z y g = ms y 172 (13 + 16 * q + 15) z := fun y z => msE (c := 15) hq (by decide)
  rw [s1, s0, s4, s15]
  show HWF (ms (ms (ms (ms (ms v 162 25 x) 172 (13 + 16 * q + 1) 0) 172 (13 + 16 * q + 0) 0) 172 (13 + 16 * q + 4) 0) 172 (13 + 16 * q + 15) 1 172)
  rw [ms_a1, ms_a1, ms_a1, ms_a1, ms_c1 (by decide)]
  exact hwf_u (hwf_u (hwf_u (hwf_u h (by decide) (show Bd 0 24 (0 : Int32) by decide) (fun _ _ _ y => by omega)) (by decide) (show Bd 0 24 (0 : Int32) by decide) (fun _ _ _ y => by omega)) (by decide) (show Bd 0 10 (0 : Int32) by decide) (fun _ _ _ y => by omega)) (by decide) (show Bd 0 1 (1 : Int32) by decide) (fun _ _ _ y => by omega)
theorem snd_ms {b : Bool} {u : MM} {a i c : Nat} {z : Int32} (h : c ≠ a) : ((b, ms u a i z) : Bool × MM).2 c = u c := ms_c1 h
/-- a work keeps the hill in order -/
theorem do_W {v : MM} {g : GG} {kind p much : Int32} (h : HWF (v 172)) (e22 : v 162 22 = v 172 0) (bp : Bd 0 999 p) (bm : kind = 4 ∨ Bd 0 999 much) : HWF ((Fx_M_doesX kind p much v g).2 172) := by
  obtain ⟨n, m, n9, m4, f0, f1, hr, hd, hp⟩ := h.1
  obtain ⟨q, hq, q999⟩ := iN_ex (hi := 999) bp
  have gate : ∀ B : Bool × MM, (q < n → HWF (B.2 172)) → HWF ((if v 162 22 ≤ p then (false, v) else if mof v p (15 : Int32) = 1 then (false, v) else B).2 172) := by
    intro B k
    by_cases c : v 162 22 ≤ p
    · rw [if_pos c]; exact h
    · rw [if_neg c]
      by_cases y : mof v p (15 : Int32) = 1
      · rw [if_pos y]; exact h
      · rw [if_neg y]
        refine k ?_
        have c1 := Int32.lt_iff_toInt_lt.mp (i_nle c)
        rw [hq, e22, f0, iN_ti (by omega), iN_ti (by omega)] at c1
        omega
  have rd : q < n → ∀ c, c < 16 → mof v (iN q) (iN c) = v 172 (13 + 16 * q + c) := fun hl c hc => mofE (by omega) hc
  unfold Fx_M_doesX
  by_cases k4 : kind = 4
  · rw [if_pos k4]
    refine gate _ (fun hl => ?_)
    rw [k4, if_neg (by decide), if_neg (by decide), if_neg (by decide), if_neg (by decide), hq]
    exact hwf_o h (by omega)
  rw [if_neg k4]
  have bm2 := bm.resolve_left k4
  have m1 := bm2.1
  refine gate _ (fun hl => ?_)
  obtain ⟨p1, p2, p3⟩ := hp q hl
  rw [hq]
  by_cases k0 : kind = 0
  · rw [if_pos k0, show mof v (iN q) (4 : Int32) = v 172 (13 + 16 * q + 4) from rd hl 4 (by decide)]
    by_cases y : much ≤ v 172 (13 + 16 * q + 4)
    · have b4 : Bd 0 10 (v 172 (13 + 16 * q + 4)) := p1 4 (by decide)
      have y1 := Int32.le_iff_toInt_le.mp y
      have b1 := b4.1
      have b2 := b4.2
      have s := ti_sub (u := v 172 (13 + 16 * q + 4)) (v := much) (by omega) (by omega)
      rw [if_pos y, xqb, xqb, show ∀ z : Int32, Fx_M_setX (iN q) (4 : Int32) z v g = ms v 172 (13 + 16 * q + 4) z from fun z => msE (c := 4) (by omega) (by decide)]
      rw [snd_ms (by decide), ms_a1]
      exact hwf_u h (by decide) (show Bd 0 10 _ from ⟨by omega, by omega⟩) (fun _ _ _ y => by omega)
    · rw [if_neg y]; exact h
  rw [if_neg k0]
  by_cases k1 : kind = 1
  · rw [if_pos k1, show mof v (iN q) (1 : Int32) = v 172 (13 + 16 * q + 1) from rd hl 1 (by decide)]
    by_cases y : much ≤ v 172 (13 + 16 * q + 1)
    · have b4 : Bd 0 24 (v 172 (13 + 16 * q + 1)) := p1 1 (by decide)
      have y1 := Int32.le_iff_toInt_le.mp y
      have b1 := b4.1
      have b2 := b4.2
      have s := ti_sub (u := v 172 (13 + 16 * q + 1)) (v := much) (by omega) (by omega)
      rw [if_pos y, xqb, xqb, show ∀ z : Int32, Fx_M_setX (iN q) (1 : Int32) z v g = ms v 172 (13 + 16 * q + 1) z from fun z => msE (c := 1) (by omega) (by decide)]
      rw [snd_ms (by decide), ms_a1]
      exact hwf_u h (by decide) (show Bd 0 24 _ from ⟨by omega, by omega⟩) (fun _ _ _ y => by omega)
    · rw [if_neg y]; exact h
  rw [if_neg k1]
  by_cases k2 : kind = 2
  · rw [if_pos k2, show mof v (iN q) (3 : Int32) = v 172 (13 + 16 * q + 3) from rd hl 3 (by decide)]
    by_cases y : v 172 (13 + 16 * q + 3) + much ≤ 24
    · have b4 : Bd 0 24 (v 172 (13 + 16 * q + 3)) := p1 3 (by decide)
      have y1 := Int32.le_iff_toInt_le.mp y
      have b1 := b4.1
      have b2 := b4.2
      have m2 := bm2.2
      have s := ti_add (u := v 172 (13 + 16 * q + 3)) (v := much) (by omega) (by omega)
      have e24 : (24 : Int32).toInt = 24 := rfl
      rw [if_pos y, xqb, xqb, show ∀ z : Int32, Fx_M_setX (iN q) (3 : Int32) z v g = ms v 172 (13 + 16 * q + 3) z from fun z => msE (c := 3) (by omega) (by decide)]
      rw [snd_ms (by decide), ms_a1]
      exact hwf_u h (by decide) (show Bd 0 24 _ from ⟨by omega, by omega⟩) (fun _ _ _ y => by omega)
    · rw [if_neg y]; exact h
  rw [if_neg k2]
  by_cases k3 : kind = 3
  · rw [if_pos k3, xqb, in_X, e22, f0]
    obtain ⟨r, hr', r999⟩ := iN_ex (hi := 999) bm2
    have tr : much.toInt = r := by rw [hr', iN_ti (by omega)]
    have l1 : (1 : Int32).toInt = 1 := rfl
    have tq1 : (iN q + 1).toInt = q + 1 := by rw [iN_s, iN_ti (by omega)]; omega
    have tn1 : (iN n - 1).toInt = (n : Int) - 1 := by rw [ti_sub (by rw [iN_ti (by omega)]; omega) (by rw [iN_ti (by omega)]; omega), iN_ti (by omega), l1]
    by_cases y : r < n ∧ q < r
    · rw [if_pos (inT (by omega) (by omega)), xqb, xqb, show ∀ z : Int32, Fx_M_setX (iN q) (8 : Int32) z v g = ms v 172 (13 + 16 * q + 8) z from fun z => msE (c := 8) (by omega) (by decide)]
      rw [snd_ms (by decide), ms_a1]
      refine hwf_u h (by decide) (show Bd (-1) 8 _ from ⟨by omega, by omega⟩) (fun n' n9' e0 _ => ?_)
      have en : n' = n := (iN_eq (by omega) (by omega)).mp (e0.symm.trans f0)
      exact Or.inr ⟨r, y.2, by omega, hr'⟩
    · rw [if_neg (inF (by omega))]
      exact h
  rw [if_neg k3]
  exact hwf_o h (by omega)
theorem ly_5_15 {u : MM} {g g' : GG} {k m : Nat} (hu : u 15 0 = iN m) (hk : k ≤ 12) : ∀ (r f1 f2 w : Nat) (x y : MM), m - w ≤ r → w ≤ m → r < f1 → r < f2 → SIT x y → y 162 23 = iN w → Bd 0 9 (y 172 0) → WKS x y 15 k m → HWF (y 172) → ∃ x2 y2, Fx_Si_lay_5_15X_L25 u g f1 (iN w) x = x2 ∧ Fx_M_layX_L102 (iN k) g' f2 1 y = (true, y2) ∧ SIT x2 y2 ∧ (∀ c, c ≠ 43 → c ≠ 45 → x2 c = x c) ∧ (∀ c, c ≠ 162 → c ≠ 172 → y2 c = y c) ∧ y2 172 0 = y 172 0 ∧ HWF (y2 172) := by
  intro r
  induction r with
  | zero =>
    intro f1 f2 w x y hr hw h1 h2 hs h23 b9 hW hF
    obtain ⟨f1, rfl⟩ : ∃ f, f1 = f + 1 := ⟨f1 - 1, by omega⟩
    obtain ⟨f2, rfl⟩ : ∃ f, f2 = f + 1 := ⟨f2 - 1, by omega⟩
    have e : w = m := by omega
    subst e
    refine ⟨x, y, ?_, ?_, hs, fun _ _ _ => rfl, fun _ _ _ => rfl, rfl, hF⟩
    · rw [Fx_Si_lay_5_15X_L25_s, hu, if_pos (Int32.le_refl _)]
    · rw [Fx_M_layX_L102_s, if_neg (by decide), xqb, wi_0 hk, hW.1, h23, if_pos (Int32.le_refl _)]
      rfl
  | succ r ih =>
    intro f1 f2 w x y hr hw h1 h2 hs h23 b9 hW hF
    obtain ⟨f1, rfl⟩ : ∃ f, f1 = f + 1 := ⟨f1 - 1, by omega⟩
    obtain ⟨f2, rfl⟩ : ∃ f, f2 = f + 1 := ⟨f2 - 1, by omega⟩
    have m12 := hW.2.1
    by_cases e : w = m
    · subst e
      refine ⟨x, y, ?_, ?_, hs, fun _ _ _ => rfl, fun _ _ _ => rfl, rfl, hF⟩
      · rw [Fx_Si_lay_5_15X_L25_s, hu, if_pos (Int32.le_refl _)]
      · rw [Fx_M_layX_L102_s, if_neg (by decide), xqb, wi_0 hk, hW.1, h23, if_pos (Int32.le_refl _)]
        rfl
    have nle : ¬ iN m ≤ iN w := fun q => by have := (iN_le (by omega) (by omega)).mp q; omega
    obtain ⟨a1, a2, a3⟩ := hW.2.2.1 w (by omega)
    obtain ⟨b1, b2⟩ := hW.2.2.2 w (by omega)
    have st := st_X (g := g) (g' := g') (kind := y 169 (37 * k + (1 + 3 * w))) (p := y 169 (37 * k + (2 + 3 * w))) (much := y 169 (37 * k + (3 + 3 * w))) hs b9 b2 b1
    rw [Fx_M_layX_L102_s, if_neg (show ¬ (1 : Int32) = 0 by decide), xqb, wi_0 hk, hW.1, h23, if_neg nle, xqb, xqb, xqb, wi_1 hk (by omega), wi_2 hk (by omega), wi_3 hk (by omega), xqc2]
    rw [Fx_Si_lay_5_15X_L25_s, hu, if_neg nle, iN_cl (by omega), xqb, xqb, xqb, a1, a2, a3, xqc2]
    obtain ⟨A, hA⟩ : ∃ A, A = Fx_Si_buildsX (y 169 (37 * k + (1 + 3 * w))) (y 169 (37 * k + (2 + 3 * w))) (y 169 (37 * k + (3 + 3 * w))) x g := ⟨_, rfl⟩
    obtain ⟨B, hB⟩ : ∃ B, B = Fx_M_doesX (y 169 (37 * k + (1 + 3 * w))) (y 169 (37 * k + (2 + 3 * w))) (y 169 (37 * k + (3 + 3 * w))) y g' := ⟨_, rfl⟩
    have dW := do_W (g := g') hF hs.2.1 b2 b1
    rw [← hA, ← hB] at st
    rw [← hB] at dW
    rw [← hA, ← hB]
    obtain ⟨s1, s2, ⟨l1, l2⟩, ⟨r1, r2, r3⟩⟩ := st
    rw [s1]
    by_cases t : B.1 = true
    · rw [if_pos t, if_pos t, xqb, xqb, t, iN_s]
      have x1 : x 43 1 = iN w := hs.2.2.1.trans h23
      have sd : SIT (ms A.2 43 1 (x 43 1 + 1)) (ms B.2 162 23 (iN (w + 1))) := sit_don s2 (by rw [x1, iN_s])
      obtain ⟨x2, y2, p1, p2, p3, p4, p5, p6, p7⟩ := ih f1 f2 (w + 1) _ _ (by omega) (by omega) (by omega) (by omega) sd (by rw [ms_e1]) (by rw [ms_c1 (by decide), r3 0 (by decide)]; exact b9) (wks_c hW (by rw [ms_c1 (by decide)]; exact l1 _ (by decide) (by decide)) (by rw [ms_c1 (by decide)]; exact l1 _ (by decide) (by decide)) (by rw [ms_c1 (by decide)]; exact l1 _ (by decide) (by decide)) (by rw [ms_c1 (by decide)]; exact r1 169 (by decide) (by decide))) (by rw [ms_c1 (by decide)]; exact dW)
      exact ⟨x2, y2, p1, p2, p3, fun c c1 c2 => by rw [p4 c c1 c2, ms_c1 c1, l1 c c1 c2], fun c c1 c2 => by rw [p5 c c1 c2, ms_c1 c1, r1 c c1 c2], by rw [p6, ms_c1 (by decide), r3 0 (by decide)], p7⟩
    · rw [if_neg t, if_neg t, xqb]
      have e0 : iN w + 0 = B.2 162 23 := by rw [Int32.add_zero, r2 23 (by decide) (by decide), h23]
      rw [e0, ms_self]
      exact ⟨A.2, B.2, rfl, rfl, s2, l1, r1, r3 0 (by decide), dW⟩
theorem ly_5_19 {u : MM} {g g' : GG} {k m : Nat} (hu : u 19 0 = iN m) (hk : k ≤ 12) : ∀ (r f1 f2 w : Nat) (x y : MM), m - w ≤ r → w ≤ m → r < f1 → r < f2 → SIT x y → y 162 23 = iN w → Bd 0 9 (y 172 0) → WKS x y 19 k m → HWF (y 172) → ∃ x2 y2, Fx_Si_lay_5_19X_L25 u g f1 (iN w) x = x2 ∧ Fx_M_layX_L102 (iN k) g' f2 1 y = (true, y2) ∧ SIT x2 y2 ∧ (∀ c, c ≠ 43 → c ≠ 45 → x2 c = x c) ∧ (∀ c, c ≠ 162 → c ≠ 172 → y2 c = y c) ∧ y2 172 0 = y 172 0 ∧ HWF (y2 172) := by
  intro r
  induction r with
  | zero =>
    intro f1 f2 w x y hr hw h1 h2 hs h23 b9 hW hF
    obtain ⟨f1, rfl⟩ : ∃ f, f1 = f + 1 := ⟨f1 - 1, by omega⟩
    obtain ⟨f2, rfl⟩ : ∃ f, f2 = f + 1 := ⟨f2 - 1, by omega⟩
    have e : w = m := by omega
    subst e
    refine ⟨x, y, ?_, ?_, hs, fun _ _ _ => rfl, fun _ _ _ => rfl, rfl, hF⟩
    · rw [Fx_Si_lay_5_19X_L25_s, hu, if_pos (Int32.le_refl _)]
    · rw [Fx_M_layX_L102_s, if_neg (by decide), xqb, wi_0 hk, hW.1, h23, if_pos (Int32.le_refl _)]
      rfl
  | succ r ih =>
    intro f1 f2 w x y hr hw h1 h2 hs h23 b9 hW hF
    obtain ⟨f1, rfl⟩ : ∃ f, f1 = f + 1 := ⟨f1 - 1, by omega⟩
    obtain ⟨f2, rfl⟩ : ∃ f, f2 = f + 1 := ⟨f2 - 1, by omega⟩
    have m12 := hW.2.1
    by_cases e : w = m
    · subst e
      refine ⟨x, y, ?_, ?_, hs, fun _ _ _ => rfl, fun _ _ _ => rfl, rfl, hF⟩
      · rw [Fx_Si_lay_5_19X_L25_s, hu, if_pos (Int32.le_refl _)]
      · rw [Fx_M_layX_L102_s, if_neg (by decide), xqb, wi_0 hk, hW.1, h23, if_pos (Int32.le_refl _)]
        rfl
    have nle : ¬ iN m ≤ iN w := fun q => by have := (iN_le (by omega) (by omega)).mp q; omega
    obtain ⟨a1, a2, a3⟩ := hW.2.2.1 w (by omega)
    obtain ⟨b1, b2⟩ := hW.2.2.2 w (by omega)
    have st := st_X (g := g) (g' := g') (kind := y 169 (37 * k + (1 + 3 * w))) (p := y 169 (37 * k + (2 + 3 * w))) (much := y 169 (37 * k + (3 + 3 * w))) hs b9 b2 b1
    rw [Fx_M_layX_L102_s, if_neg (show ¬ (1 : Int32) = 0 by decide), xqb, wi_0 hk, hW.1, h23, if_neg nle, xqb, xqb, xqb, wi_1 hk (by omega), wi_2 hk (by omega), wi_3 hk (by omega), xqc2]
    rw [Fx_Si_lay_5_19X_L25_s, hu, if_neg nle, iN_cl (by omega), xqb, xqb, xqb, a1, a2, a3, xqc2]
    obtain ⟨A, hA⟩ : ∃ A, A = Fx_Si_buildsX (y 169 (37 * k + (1 + 3 * w))) (y 169 (37 * k + (2 + 3 * w))) (y 169 (37 * k + (3 + 3 * w))) x g := ⟨_, rfl⟩
    obtain ⟨B, hB⟩ : ∃ B, B = Fx_M_doesX (y 169 (37 * k + (1 + 3 * w))) (y 169 (37 * k + (2 + 3 * w))) (y 169 (37 * k + (3 + 3 * w))) y g' := ⟨_, rfl⟩
    have dW := do_W (g := g') hF hs.2.1 b2 b1
    rw [← hA, ← hB] at st
    rw [← hB] at dW
    rw [← hA, ← hB]
    obtain ⟨s1, s2, ⟨l1, l2⟩, ⟨r1, r2, r3⟩⟩ := st
    rw [s1]
    by_cases t : B.1 = true
    · rw [if_pos t, if_pos t, xqb, xqb, t, iN_s]
      have x1 : x 43 1 = iN w := hs.2.2.1.trans h23
      have sd : SIT (ms A.2 43 1 (x 43 1 + 1)) (ms B.2 162 23 (iN (w + 1))) := sit_don s2 (by rw [x1, iN_s])
      obtain ⟨x2, y2, p1, p2, p3, p4, p5, p6, p7⟩ := ih f1 f2 (w + 1) _ _ (by omega) (by omega) (by omega) (by omega) sd (by rw [ms_e1]) (by rw [ms_c1 (by decide), r3 0 (by decide)]; exact b9) (wks_c hW (by rw [ms_c1 (by decide)]; exact l1 _ (by decide) (by decide)) (by rw [ms_c1 (by decide)]; exact l1 _ (by decide) (by decide)) (by rw [ms_c1 (by decide)]; exact l1 _ (by decide) (by decide)) (by rw [ms_c1 (by decide)]; exact r1 169 (by decide) (by decide))) (by rw [ms_c1 (by decide)]; exact dW)
      exact ⟨x2, y2, p1, p2, p3, fun c c1 c2 => by rw [p4 c c1 c2, ms_c1 c1, l1 c c1 c2], fun c c1 c2 => by rw [p5 c c1 c2, ms_c1 c1, r1 c c1 c2], by rw [p6, ms_c1 (by decide), r3 0 (by decide)], p7⟩
    · rw [if_neg t, if_neg t, xqb]
      have e0 : iN w + 0 = B.2 162 23 := by rw [Int32.add_zero, r2 23 (by decide) (by decide), h23]
      rw [e0, ms_self]
      exact ⟨A.2, B.2, rfl, rfl, s2, l1, r1, r3 0 (by decide), dW⟩
theorem ly_5_23 {u : MM} {g g' : GG} {k m : Nat} (hu : u 23 0 = iN m) (hk : k ≤ 12) : ∀ (r f1 f2 w : Nat) (x y : MM), m - w ≤ r → w ≤ m → r < f1 → r < f2 → SIT x y → y 162 23 = iN w → Bd 0 9 (y 172 0) → WKS x y 23 k m → HWF (y 172) → ∃ x2 y2, Fx_Si_lay_5_23X_L25 u g f1 (iN w) x = x2 ∧ Fx_M_layX_L102 (iN k) g' f2 1 y = (true, y2) ∧ SIT x2 y2 ∧ (∀ c, c ≠ 43 → c ≠ 45 → x2 c = x c) ∧ (∀ c, c ≠ 162 → c ≠ 172 → y2 c = y c) ∧ y2 172 0 = y 172 0 ∧ HWF (y2 172) := by
  intro r
  induction r with
  | zero =>
    intro f1 f2 w x y hr hw h1 h2 hs h23 b9 hW hF
    obtain ⟨f1, rfl⟩ : ∃ f, f1 = f + 1 := ⟨f1 - 1, by omega⟩
    obtain ⟨f2, rfl⟩ : ∃ f, f2 = f + 1 := ⟨f2 - 1, by omega⟩
    have e : w = m := by omega
    subst e
    refine ⟨x, y, ?_, ?_, hs, fun _ _ _ => rfl, fun _ _ _ => rfl, rfl, hF⟩
    · rw [Fx_Si_lay_5_23X_L25_s, hu, if_pos (Int32.le_refl _)]
    · rw [Fx_M_layX_L102_s, if_neg (by decide), xqb, wi_0 hk, hW.1, h23, if_pos (Int32.le_refl _)]
      rfl
  | succ r ih =>
    intro f1 f2 w x y hr hw h1 h2 hs h23 b9 hW hF
    obtain ⟨f1, rfl⟩ : ∃ f, f1 = f + 1 := ⟨f1 - 1, by omega⟩
    obtain ⟨f2, rfl⟩ : ∃ f, f2 = f + 1 := ⟨f2 - 1, by omega⟩
    have m12 := hW.2.1
    by_cases e : w = m
    · subst e
      refine ⟨x, y, ?_, ?_, hs, fun _ _ _ => rfl, fun _ _ _ => rfl, rfl, hF⟩
      · rw [Fx_Si_lay_5_23X_L25_s, hu, if_pos (Int32.le_refl _)]
      · rw [Fx_M_layX_L102_s, if_neg (by decide), xqb, wi_0 hk, hW.1, h23, if_pos (Int32.le_refl _)]
        rfl
    have nle : ¬ iN m ≤ iN w := fun q => by have := (iN_le (by omega) (by omega)).mp q; omega
    obtain ⟨a1, a2, a3⟩ := hW.2.2.1 w (by omega)
    obtain ⟨b1, b2⟩ := hW.2.2.2 w (by omega)
    have st := st_X (g := g) (g' := g') (kind := y 169 (37 * k + (1 + 3 * w))) (p := y 169 (37 * k + (2 + 3 * w))) (much := y 169 (37 * k + (3 + 3 * w))) hs b9 b2 b1
    rw [Fx_M_layX_L102_s, if_neg (show ¬ (1 : Int32) = 0 by decide), xqb, wi_0 hk, hW.1, h23, if_neg nle, xqb, xqb, xqb, wi_1 hk (by omega), wi_2 hk (by omega), wi_3 hk (by omega), xqc2]
    rw [Fx_Si_lay_5_23X_L25_s, hu, if_neg nle, iN_cl (by omega), xqb, xqb, xqb, a1, a2, a3, xqc2]
    obtain ⟨A, hA⟩ : ∃ A, A = Fx_Si_buildsX (y 169 (37 * k + (1 + 3 * w))) (y 169 (37 * k + (2 + 3 * w))) (y 169 (37 * k + (3 + 3 * w))) x g := ⟨_, rfl⟩
    obtain ⟨B, hB⟩ : ∃ B, B = Fx_M_doesX (y 169 (37 * k + (1 + 3 * w))) (y 169 (37 * k + (2 + 3 * w))) (y 169 (37 * k + (3 + 3 * w))) y g' := ⟨_, rfl⟩
    have dW := do_W (g := g') hF hs.2.1 b2 b1
    rw [← hA, ← hB] at st
    rw [← hB] at dW
    rw [← hA, ← hB]
    obtain ⟨s1, s2, ⟨l1, l2⟩, ⟨r1, r2, r3⟩⟩ := st
    rw [s1]
    by_cases t : B.1 = true
    · rw [if_pos t, if_pos t, xqb, xqb, t, iN_s]
      have x1 : x 43 1 = iN w := hs.2.2.1.trans h23
      have sd : SIT (ms A.2 43 1 (x 43 1 + 1)) (ms B.2 162 23 (iN (w + 1))) := sit_don s2 (by rw [x1, iN_s])
      obtain ⟨x2, y2, p1, p2, p3, p4, p5, p6, p7⟩ := ih f1 f2 (w + 1) _ _ (by omega) (by omega) (by omega) (by omega) sd (by rw [ms_e1]) (by rw [ms_c1 (by decide), r3 0 (by decide)]; exact b9) (wks_c hW (by rw [ms_c1 (by decide)]; exact l1 _ (by decide) (by decide)) (by rw [ms_c1 (by decide)]; exact l1 _ (by decide) (by decide)) (by rw [ms_c1 (by decide)]; exact l1 _ (by decide) (by decide)) (by rw [ms_c1 (by decide)]; exact r1 169 (by decide) (by decide))) (by rw [ms_c1 (by decide)]; exact dW)
      exact ⟨x2, y2, p1, p2, p3, fun c c1 c2 => by rw [p4 c c1 c2, ms_c1 c1, l1 c c1 c2], fun c c1 c2 => by rw [p5 c c1 c2, ms_c1 c1, r1 c c1 c2], by rw [p6, ms_c1 (by decide), r3 0 (by decide)], p7⟩
    · rw [if_neg t, if_neg t, xqb]
      have e0 : iN w + 0 = B.2 162 23 := by rw [Int32.add_zero, r2 23 (by decide) (by decide), h23]
      rw [e0, ms_self]
      exact ⟨A.2, B.2, rfl, rfl, s2, l1, r1, r3 0 (by decide), dW⟩
theorem ly_10_15 {u : MM} {g g' : GG} {k m : Nat} (hu : u 15 0 = iN m) (hk : k ≤ 12) : ∀ (r f1 f2 w : Nat) (x y : MM), m - w ≤ r → w ≤ m → r < f1 → r < f2 → SIT x y → y 162 23 = iN w → Bd 0 9 (y 172 0) → WKS x y 15 k m → HWF (y 172) → ∃ x2 y2, Fx_Si_lay_10_15X_L25 u g f1 (iN w) x = x2 ∧ Fx_M_layX_L102 (iN k) g' f2 1 y = (true, y2) ∧ SIT x2 y2 ∧ (∀ c, c ≠ 43 → c ≠ 45 → x2 c = x c) ∧ (∀ c, c ≠ 162 → c ≠ 172 → y2 c = y c) ∧ y2 172 0 = y 172 0 ∧ HWF (y2 172) := by
  intro r
  induction r with
  | zero =>
    intro f1 f2 w x y hr hw h1 h2 hs h23 b9 hW hF
    obtain ⟨f1, rfl⟩ : ∃ f, f1 = f + 1 := ⟨f1 - 1, by omega⟩
    obtain ⟨f2, rfl⟩ : ∃ f, f2 = f + 1 := ⟨f2 - 1, by omega⟩
    have e : w = m := by omega
    subst e
    refine ⟨x, y, ?_, ?_, hs, fun _ _ _ => rfl, fun _ _ _ => rfl, rfl, hF⟩
    · rw [Fx_Si_lay_10_15X_L25_s, hu, if_pos (Int32.le_refl _)]
    · rw [Fx_M_layX_L102_s, if_neg (by decide), xqb, wi_0 hk, hW.1, h23, if_pos (Int32.le_refl _)]
      rfl
  | succ r ih =>
    intro f1 f2 w x y hr hw h1 h2 hs h23 b9 hW hF
    obtain ⟨f1, rfl⟩ : ∃ f, f1 = f + 1 := ⟨f1 - 1, by omega⟩
    obtain ⟨f2, rfl⟩ : ∃ f, f2 = f + 1 := ⟨f2 - 1, by omega⟩
    have m12 := hW.2.1
    by_cases e : w = m
    · subst e
      refine ⟨x, y, ?_, ?_, hs, fun _ _ _ => rfl, fun _ _ _ => rfl, rfl, hF⟩
      · rw [Fx_Si_lay_10_15X_L25_s, hu, if_pos (Int32.le_refl _)]
      · rw [Fx_M_layX_L102_s, if_neg (by decide), xqb, wi_0 hk, hW.1, h23, if_pos (Int32.le_refl _)]
        rfl
    have nle : ¬ iN m ≤ iN w := fun q => by have := (iN_le (by omega) (by omega)).mp q; omega
    obtain ⟨a1, a2, a3⟩ := hW.2.2.1 w (by omega)
    obtain ⟨b1, b2⟩ := hW.2.2.2 w (by omega)
    have st := st_X (g := g) (g' := g') (kind := y 169 (37 * k + (1 + 3 * w))) (p := y 169 (37 * k + (2 + 3 * w))) (much := y 169 (37 * k + (3 + 3 * w))) hs b9 b2 b1
    rw [Fx_M_layX_L102_s, if_neg (show ¬ (1 : Int32) = 0 by decide), xqb, wi_0 hk, hW.1, h23, if_neg nle, xqb, xqb, xqb, wi_1 hk (by omega), wi_2 hk (by omega), wi_3 hk (by omega), xqc2]
    rw [Fx_Si_lay_10_15X_L25_s, hu, if_neg nle, iN_cl (by omega), xqb, xqb, xqb, a1, a2, a3, xqc2]
    obtain ⟨A, hA⟩ : ∃ A, A = Fx_Si_buildsX (y 169 (37 * k + (1 + 3 * w))) (y 169 (37 * k + (2 + 3 * w))) (y 169 (37 * k + (3 + 3 * w))) x g := ⟨_, rfl⟩
    obtain ⟨B, hB⟩ : ∃ B, B = Fx_M_doesX (y 169 (37 * k + (1 + 3 * w))) (y 169 (37 * k + (2 + 3 * w))) (y 169 (37 * k + (3 + 3 * w))) y g' := ⟨_, rfl⟩
    have dW := do_W (g := g') hF hs.2.1 b2 b1
    rw [← hA, ← hB] at st
    rw [← hB] at dW
    rw [← hA, ← hB]
    obtain ⟨s1, s2, ⟨l1, l2⟩, ⟨r1, r2, r3⟩⟩ := st
    rw [s1]
    by_cases t : B.1 = true
    · rw [if_pos t, if_pos t, xqb, xqb, t, iN_s]
      have x1 : x 43 1 = iN w := hs.2.2.1.trans h23
      have sd : SIT (ms A.2 43 1 (x 43 1 + 1)) (ms B.2 162 23 (iN (w + 1))) := sit_don s2 (by rw [x1, iN_s])
      obtain ⟨x2, y2, p1, p2, p3, p4, p5, p6, p7⟩ := ih f1 f2 (w + 1) _ _ (by omega) (by omega) (by omega) (by omega) sd (by rw [ms_e1]) (by rw [ms_c1 (by decide), r3 0 (by decide)]; exact b9) (wks_c hW (by rw [ms_c1 (by decide)]; exact l1 _ (by decide) (by decide)) (by rw [ms_c1 (by decide)]; exact l1 _ (by decide) (by decide)) (by rw [ms_c1 (by decide)]; exact l1 _ (by decide) (by decide)) (by rw [ms_c1 (by decide)]; exact r1 169 (by decide) (by decide))) (by rw [ms_c1 (by decide)]; exact dW)
      exact ⟨x2, y2, p1, p2, p3, fun c c1 c2 => by rw [p4 c c1 c2, ms_c1 c1, l1 c c1 c2], fun c c1 c2 => by rw [p5 c c1 c2, ms_c1 c1, r1 c c1 c2], by rw [p6, ms_c1 (by decide), r3 0 (by decide)], p7⟩
    · rw [if_neg t, if_neg t, xqb]
      have e0 : iN w + 0 = B.2 162 23 := by rw [Int32.add_zero, r2 23 (by decide) (by decide), h23]
      rw [e0, ms_self]
      exact ⟨A.2, B.2, rfl, rfl, s2, l1, r1, r3 0 (by decide), dW⟩
theorem ly_10_19 {u : MM} {g g' : GG} {k m : Nat} (hu : u 19 0 = iN m) (hk : k ≤ 12) : ∀ (r f1 f2 w : Nat) (x y : MM), m - w ≤ r → w ≤ m → r < f1 → r < f2 → SIT x y → y 162 23 = iN w → Bd 0 9 (y 172 0) → WKS x y 19 k m → HWF (y 172) → ∃ x2 y2, Fx_Si_lay_10_19X_L25 u g f1 (iN w) x = x2 ∧ Fx_M_layX_L102 (iN k) g' f2 1 y = (true, y2) ∧ SIT x2 y2 ∧ (∀ c, c ≠ 43 → c ≠ 45 → x2 c = x c) ∧ (∀ c, c ≠ 162 → c ≠ 172 → y2 c = y c) ∧ y2 172 0 = y 172 0 ∧ HWF (y2 172) := by
  intro r
  induction r with
  | zero =>
    intro f1 f2 w x y hr hw h1 h2 hs h23 b9 hW hF
    obtain ⟨f1, rfl⟩ : ∃ f, f1 = f + 1 := ⟨f1 - 1, by omega⟩
    obtain ⟨f2, rfl⟩ : ∃ f, f2 = f + 1 := ⟨f2 - 1, by omega⟩
    have e : w = m := by omega
    subst e
    refine ⟨x, y, ?_, ?_, hs, fun _ _ _ => rfl, fun _ _ _ => rfl, rfl, hF⟩
    · rw [Fx_Si_lay_10_19X_L25_s, hu, if_pos (Int32.le_refl _)]
    · rw [Fx_M_layX_L102_s, if_neg (by decide), xqb, wi_0 hk, hW.1, h23, if_pos (Int32.le_refl _)]
      rfl
  | succ r ih =>
    intro f1 f2 w x y hr hw h1 h2 hs h23 b9 hW hF
    obtain ⟨f1, rfl⟩ : ∃ f, f1 = f + 1 := ⟨f1 - 1, by omega⟩
    obtain ⟨f2, rfl⟩ : ∃ f, f2 = f + 1 := ⟨f2 - 1, by omega⟩
    have m12 := hW.2.1
    by_cases e : w = m
    · subst e
      refine ⟨x, y, ?_, ?_, hs, fun _ _ _ => rfl, fun _ _ _ => rfl, rfl, hF⟩
      · rw [Fx_Si_lay_10_19X_L25_s, hu, if_pos (Int32.le_refl _)]
      · rw [Fx_M_layX_L102_s, if_neg (by decide), xqb, wi_0 hk, hW.1, h23, if_pos (Int32.le_refl _)]
        rfl
    have nle : ¬ iN m ≤ iN w := fun q => by have := (iN_le (by omega) (by omega)).mp q; omega
    obtain ⟨a1, a2, a3⟩ := hW.2.2.1 w (by omega)
    obtain ⟨b1, b2⟩ := hW.2.2.2 w (by omega)
    have st := st_X (g := g) (g' := g') (kind := y 169 (37 * k + (1 + 3 * w))) (p := y 169 (37 * k + (2 + 3 * w))) (much := y 169 (37 * k + (3 + 3 * w))) hs b9 b2 b1
    rw [Fx_M_layX_L102_s, if_neg (show ¬ (1 : Int32) = 0 by decide), xqb, wi_0 hk, hW.1, h23, if_neg nle, xqb, xqb, xqb, wi_1 hk (by omega), wi_2 hk (by omega), wi_3 hk (by omega), xqc2]
    rw [Fx_Si_lay_10_19X_L25_s, hu, if_neg nle, iN_cl (by omega), xqb, xqb, xqb, a1, a2, a3, xqc2]
    obtain ⟨A, hA⟩ : ∃ A, A = Fx_Si_buildsX (y 169 (37 * k + (1 + 3 * w))) (y 169 (37 * k + (2 + 3 * w))) (y 169 (37 * k + (3 + 3 * w))) x g := ⟨_, rfl⟩
    obtain ⟨B, hB⟩ : ∃ B, B = Fx_M_doesX (y 169 (37 * k + (1 + 3 * w))) (y 169 (37 * k + (2 + 3 * w))) (y 169 (37 * k + (3 + 3 * w))) y g' := ⟨_, rfl⟩
    have dW := do_W (g := g') hF hs.2.1 b2 b1
    rw [← hA, ← hB] at st
    rw [← hB] at dW
    rw [← hA, ← hB]
    obtain ⟨s1, s2, ⟨l1, l2⟩, ⟨r1, r2, r3⟩⟩ := st
    rw [s1]
    by_cases t : B.1 = true
    · rw [if_pos t, if_pos t, xqb, xqb, t, iN_s]
      have x1 : x 43 1 = iN w := hs.2.2.1.trans h23
      have sd : SIT (ms A.2 43 1 (x 43 1 + 1)) (ms B.2 162 23 (iN (w + 1))) := sit_don s2 (by rw [x1, iN_s])
      obtain ⟨x2, y2, p1, p2, p3, p4, p5, p6, p7⟩ := ih f1 f2 (w + 1) _ _ (by omega) (by omega) (by omega) (by omega) sd (by rw [ms_e1]) (by rw [ms_c1 (by decide), r3 0 (by decide)]; exact b9) (wks_c hW (by rw [ms_c1 (by decide)]; exact l1 _ (by decide) (by decide)) (by rw [ms_c1 (by decide)]; exact l1 _ (by decide) (by decide)) (by rw [ms_c1 (by decide)]; exact l1 _ (by decide) (by decide)) (by rw [ms_c1 (by decide)]; exact r1 169 (by decide) (by decide))) (by rw [ms_c1 (by decide)]; exact dW)
      exact ⟨x2, y2, p1, p2, p3, fun c c1 c2 => by rw [p4 c c1 c2, ms_c1 c1, l1 c c1 c2], fun c c1 c2 => by rw [p5 c c1 c2, ms_c1 c1, r1 c c1 c2], by rw [p6, ms_c1 (by decide), r3 0 (by decide)], p7⟩
    · rw [if_neg t, if_neg t, xqb]
      have e0 : iN w + 0 = B.2 162 23 := by rw [Int32.add_zero, r2 23 (by decide) (by decide), h23]
      rw [e0, ms_self]
      exact ⟨A.2, B.2, rfl, rfl, s2, l1, r1, r3 0 (by decide), dW⟩
theorem ly_10_23 {u : MM} {g g' : GG} {k m : Nat} (hu : u 23 0 = iN m) (hk : k ≤ 12) : ∀ (r f1 f2 w : Nat) (x y : MM), m - w ≤ r → w ≤ m → r < f1 → r < f2 → SIT x y → y 162 23 = iN w → Bd 0 9 (y 172 0) → WKS x y 23 k m → HWF (y 172) → ∃ x2 y2, Fx_Si_lay_10_23X_L25 u g f1 (iN w) x = x2 ∧ Fx_M_layX_L102 (iN k) g' f2 1 y = (true, y2) ∧ SIT x2 y2 ∧ (∀ c, c ≠ 43 → c ≠ 45 → x2 c = x c) ∧ (∀ c, c ≠ 162 → c ≠ 172 → y2 c = y c) ∧ y2 172 0 = y 172 0 ∧ HWF (y2 172) := by
  intro r
  induction r with
  | zero =>
    intro f1 f2 w x y hr hw h1 h2 hs h23 b9 hW hF
    obtain ⟨f1, rfl⟩ : ∃ f, f1 = f + 1 := ⟨f1 - 1, by omega⟩
    obtain ⟨f2, rfl⟩ : ∃ f, f2 = f + 1 := ⟨f2 - 1, by omega⟩
    have e : w = m := by omega
    subst e
    refine ⟨x, y, ?_, ?_, hs, fun _ _ _ => rfl, fun _ _ _ => rfl, rfl, hF⟩
    · rw [Fx_Si_lay_10_23X_L25_s, hu, if_pos (Int32.le_refl _)]
    · rw [Fx_M_layX_L102_s, if_neg (by decide), xqb, wi_0 hk, hW.1, h23, if_pos (Int32.le_refl _)]
      rfl
  | succ r ih =>
    intro f1 f2 w x y hr hw h1 h2 hs h23 b9 hW hF
    obtain ⟨f1, rfl⟩ : ∃ f, f1 = f + 1 := ⟨f1 - 1, by omega⟩
    obtain ⟨f2, rfl⟩ : ∃ f, f2 = f + 1 := ⟨f2 - 1, by omega⟩
    have m12 := hW.2.1
    by_cases e : w = m
    · subst e
      refine ⟨x, y, ?_, ?_, hs, fun _ _ _ => rfl, fun _ _ _ => rfl, rfl, hF⟩
      · rw [Fx_Si_lay_10_23X_L25_s, hu, if_pos (Int32.le_refl _)]
      · rw [Fx_M_layX_L102_s, if_neg (by decide), xqb, wi_0 hk, hW.1, h23, if_pos (Int32.le_refl _)]
        rfl
    have nle : ¬ iN m ≤ iN w := fun q => by have := (iN_le (by omega) (by omega)).mp q; omega
    obtain ⟨a1, a2, a3⟩ := hW.2.2.1 w (by omega)
    obtain ⟨b1, b2⟩ := hW.2.2.2 w (by omega)
    have st := st_X (g := g) (g' := g') (kind := y 169 (37 * k + (1 + 3 * w))) (p := y 169 (37 * k + (2 + 3 * w))) (much := y 169 (37 * k + (3 + 3 * w))) hs b9 b2 b1
    rw [Fx_M_layX_L102_s, if_neg (show ¬ (1 : Int32) = 0 by decide), xqb, wi_0 hk, hW.1, h23, if_neg nle, xqb, xqb, xqb, wi_1 hk (by omega), wi_2 hk (by omega), wi_3 hk (by omega), xqc2]
    rw [Fx_Si_lay_10_23X_L25_s, hu, if_neg nle, iN_cl (by omega), xqb, xqb, xqb, a1, a2, a3, xqc2]
    obtain ⟨A, hA⟩ : ∃ A, A = Fx_Si_buildsX (y 169 (37 * k + (1 + 3 * w))) (y 169 (37 * k + (2 + 3 * w))) (y 169 (37 * k + (3 + 3 * w))) x g := ⟨_, rfl⟩
    obtain ⟨B, hB⟩ : ∃ B, B = Fx_M_doesX (y 169 (37 * k + (1 + 3 * w))) (y 169 (37 * k + (2 + 3 * w))) (y 169 (37 * k + (3 + 3 * w))) y g' := ⟨_, rfl⟩
    have dW := do_W (g := g') hF hs.2.1 b2 b1
    rw [← hA, ← hB] at st
    rw [← hB] at dW
    rw [← hA, ← hB]
    obtain ⟨s1, s2, ⟨l1, l2⟩, ⟨r1, r2, r3⟩⟩ := st
    rw [s1]
    by_cases t : B.1 = true
    · rw [if_pos t, if_pos t, xqb, xqb, t, iN_s]
      have x1 : x 43 1 = iN w := hs.2.2.1.trans h23
      have sd : SIT (ms A.2 43 1 (x 43 1 + 1)) (ms B.2 162 23 (iN (w + 1))) := sit_don s2 (by rw [x1, iN_s])
      obtain ⟨x2, y2, p1, p2, p3, p4, p5, p6, p7⟩ := ih f1 f2 (w + 1) _ _ (by omega) (by omega) (by omega) (by omega) sd (by rw [ms_e1]) (by rw [ms_c1 (by decide), r3 0 (by decide)]; exact b9) (wks_c hW (by rw [ms_c1 (by decide)]; exact l1 _ (by decide) (by decide)) (by rw [ms_c1 (by decide)]; exact l1 _ (by decide) (by decide)) (by rw [ms_c1 (by decide)]; exact l1 _ (by decide) (by decide)) (by rw [ms_c1 (by decide)]; exact r1 169 (by decide) (by decide))) (by rw [ms_c1 (by decide)]; exact dW)
      exact ⟨x2, y2, p1, p2, p3, fun c c1 c2 => by rw [p4 c c1 c2, ms_c1 c1, l1 c c1 c2], fun c c1 c2 => by rw [p5 c c1 c2, ms_c1 c1, r1 c c1 c2], by rw [p6, ms_c1 (by decide), r3 0 (by decide)], p7⟩
    · rw [if_neg t, if_neg t, xqb]
      have e0 : iN w + 0 = B.2 162 23 := by rw [Int32.add_zero, r2 23 (by decide) (by decide), h23]
      rw [e0, ms_self]
      exact ⟨A.2, B.2, rfl, rfl, s2, l1, r1, r3 0 (by decide), dW⟩
end
section
/-! a plan laid on a hill, on both sides; pond -/
/-- what the reference's lay sets behind the row -/
def finL (x : MM) : MM := ms (ms (ms (ms (ms (ms x 162 22 (x 172 0)) 162 23 0) 162 24 0) 162 25 0) 162 26 (-1)) 162 27 0
theorem fin_c {x : MM} {c : Nat} (h : c ≠ 162) : finL x c = x c := by
  unfold finL
  rw [ms_c1 h, ms_c1 h, ms_c1 h, ms_c1 h, ms_c1 h, ms_c1 h]
theorem lc_a {h : Nat} (hh : h ≤ 3) : ∀ (n i : Nat) (w : MM), 157 - i < n → i ≤ 157 → ∃ x, Fx_M_layX_L25 (iN h) (-1) n (iN i) w = (true, finL x) ∧ (∀ c, c ≠ 172 → x c = w c) ∧ ∀ j, x 172 j = if i ≤ j ∧ j < 157 then w 168 (157 * h + j) else w 172 j := by
  intro n
  induction n with
  | zero => intro i w q; omega
  | succ n ih =>
    intro i w q hi
    rw [Fx_M_layX_L25_s]
    by_cases c : 157 ≤ i
    · rw [if_pos (show (157 : Int32) ≤ iN i from (iN_le (a := 157) (by omega) (by omega)).mpr c), xqb, xqb, xqb, xqb, xqb, xqb, if_pos rfl]
      refine ⟨w, rfl, fun _ _ => rfl, fun j => ?_⟩
      rw [if_neg (by omega)]
    · rw [if_neg (show ¬ (157 : Int32) ≤ iN i from fun q => c ((iN_le (a := 157) (by omega) (by omega)).mp q)), iN_s, xqb, xqb]
      have q1 : (((157 : Int32) * iN h) + iN i).toNatClampNeg = 157 * h + i := fr_ix (N := 157) hh (by omega) (by omega)
      rw [q1, iN_cl (by omega)]
      obtain ⟨x, x1, x2, x3⟩ := ih (i + 1) (ms w 172 i (w 168 (157 * h + i))) (by omega) (by omega)
      refine ⟨x, x1, fun c hc => (x2 c hc).trans (ms_c1 hc), fun j => ?_⟩
      rw [x3 j, ms_c1 (by decide)]
      by_cases z : j = i
      · rw [if_neg (by omega), z, ms_e1, if_pos (by omega)]
      · rw [ms_i1 z]
        by_cases z2 : i ≤ j ∧ j < 157
        · rw [if_pos (by omega), if_pos z2]
        · rw [if_neg (by omega), if_neg z2]
theorem lc_b {h : Nat} {plan : Int32} {g : GG} (hh : h ≤ 3) (hp : ¬ plan = -1) : ∀ (n i : Nat) (w : MM), 157 - i < n → i ≤ 157 → ∃ x, Fx_M_layX_L25b (iN h) plan g n (iN i) w = Fx_M_layX_L102 plan g 13 1 (finL x) ∧ (∀ c, c ≠ 172 → x c = w c) ∧ ∀ j, x 172 j = if i ≤ j ∧ j < 157 then w 168 (157 * h + j) else w 172 j := by
  intro n
  induction n with
  | zero => intro i w q; omega
  | succ n ih =>
    intro i w q hi
    rw [Fx_M_layX_L25b_s]
    by_cases c : 157 ≤ i
    · rw [if_pos (show (157 : Int32) ≤ iN i from (iN_le (a := 157) (by omega) (by omega)).mpr c), xqb, xqb, xqb, xqb, xqb, xqb, if_neg hp]
      refine ⟨w, ?_, fun _ _ => rfl, fun j => ?_⟩
      · have e : (finL w) 162 23 = 0 := rfl
        have e2 : (12 - (finL w 162 23).toInt).toNat + 1 = 13 := by rw [e]; rfl
        show Fx_M_layX_L102 plan g ((12 - (finL w 162 23).toInt).toNat + 1) 1 (finL w) = _
        rw [e2]
      · rw [if_neg (by omega)]
    · rw [if_neg (show ¬ (157 : Int32) ≤ iN i from fun q => c ((iN_le (a := 157) (by omega) (by omega)).mp q)), iN_s, xqb, xqb]
      have q1 : (((157 : Int32) * iN h) + iN i).toNatClampNeg = 157 * h + i := fr_ix (N := 157) hh (by omega) (by omega)
      rw [q1, iN_cl (by omega)]
      obtain ⟨x, x1, x2, x3⟩ := ih (i + 1) (ms w 172 i (w 168 (157 * h + i))) (by omega) (by omega)
      refine ⟨x, x1, fun c hc => (x2 c hc).trans (ms_c1 hc), fun j => ?_⟩
      rw [x3 j, ms_c1 (by decide)]
      by_cases z : j = i
      · rw [if_neg (by omega), z, ms_e1, if_pos (by omega)]
      · rw [ms_i1 z]
        by_cases z2 : i ≤ j ∧ j < 157
        · rw [if_pos (by omega), if_pos z2]
        · rw [if_neg (by omega), if_neg z2]
/-- the class's ground at the start -/
def sit0 (c : MM) : MM := ms (ms (ms c 43 1 0) 43 2 0) 43 3 0
theorem sit0_c {x : MM} {c : Nat} (h : c ≠ 43) : sit0 x c = x c := by
  unfold sit0
  rw [ms_c1 h, ms_c1 h, ms_c1 h]
theorem sit_0 {u v c x : MM} {t k : Nat} (h : HRW u v t 0 k) (hc : HCP c u 44 t) (hx : ∀ j, j < 157 → x 172 j = v 168 (157 * k + j)) : SIT (sit0 c) (finL x) := by
  obtain ⟨h0, h1, h2, h3, h4⟩ := h
  obtain ⟨c0, c1, c2, c3, c4, c5⟩ := hc
  have R : ∀ {o : Nat}, v 168 (314 * 0 + (157 * k + o)) = v 168 (157 * k + o) := fun {o} => congrArg (v 168) (by omega)
  have x0 := hx 0 (by decide)
  have x1 := hx 1 (by decide)
  refine ⟨⟨?_, ?_, fun i hi => ?_, fun i hi hl => ?_, fun p d hp hd hl => ?_⟩, rfl, rfl, rfl, rfl, rfl, rfl⟩
  · rw [sit0_c (by decide), fin_c (by decide), c0, h0, x0]; exact R
  · rw [sit0_c (by decide), fin_c (by decide), c1, h1, x1]; exact R
  · rw [sit0_c (by decide), fin_c (by decide), hx _ (by omega)]
    exact (c5 i hi).trans ((h2 i hi).trans R)
  · rw [fin_c (by decide), x1, ← R] at hl
    obtain ⟨a, b⟩ := h3 i hi hl
    rw [sit0_c (by decide), sit0_c (by decide), fin_c (by decide), hx _ (by omega), hx _ (by omega)]
    exact ⟨(c3 i hi).trans (a.trans R), (c4 i hi).trans (b.trans R)⟩
  · rw [fin_c (by decide), x0, ← R] at hl
    rw [sit0_c (by decide), fin_c (by decide), hx _ (by omega)]
    exact (c2 (16 * p + d) (by omega)).trans ((h4 p d hp hd hl).trans R)
theorem lz_5 {u : MM} {g : GG} (h : u 49 0 = 0) : Fx_Si_lay_5_49X u g = sit0 (Fx_H_copyBX 44 5 u g) := by
  unfold Fx_Si_lay_5_49X
  rw [xqb, xqb, xqb, xqb]
  have e : (12 - (0 : Int32).toInt).toNat + 1 = 12 + 1 := by decide
  rw [e, Fx_Si_lay_5_49X_L25_s, h, if_pos (by decide)]
  rfl
theorem lz_10 {u : MM} {g : GG} (h : u 49 0 = 0) : Fx_Si_lay_10_49X u g = sit0 (Fx_H_copyBX 44 10 u g) := by
  unfold Fx_Si_lay_10_49X
  rw [xqb, xqb, xqb, xqb]
  have e : (12 - (0 : Int32).toInt).toNat + 1 = 12 + 1 := by decide
  rw [e, Fx_Si_lay_10_49X_L25_s, h, if_pos (by decide)]
  rfl
theorem lz_5_15 {u : MM} {g : GG} : Fx_Si_lay_5_15X u g = Fx_Si_lay_5_15X_L25 u g 13 (iN 0) (sit0 (Fx_H_copyBX 44 5 u g)) := by
  unfold Fx_Si_lay_5_15X
  rw [xqb, xqb, xqb, xqb]
  have e : (12 - (0 : Int32).toInt).toNat + 1 = 13 := by decide
  rw [e]
  rfl
theorem lz_5_19 {u : MM} {g : GG} : Fx_Si_lay_5_19X u g = Fx_Si_lay_5_19X_L25 u g 13 (iN 0) (sit0 (Fx_H_copyBX 44 5 u g)) := by
  unfold Fx_Si_lay_5_19X
  rw [xqb, xqb, xqb, xqb]
  have e : (12 - (0 : Int32).toInt).toNat + 1 = 13 := by decide
  rw [e]
  rfl
theorem lz_5_23 {u : MM} {g : GG} : Fx_Si_lay_5_23X u g = Fx_Si_lay_5_23X_L25 u g 13 (iN 0) (sit0 (Fx_H_copyBX 44 5 u g)) := by
  unfold Fx_Si_lay_5_23X
  rw [xqb, xqb, xqb, xqb]
  have e : (12 - (0 : Int32).toInt).toNat + 1 = 13 := by decide
  rw [e]
  rfl
theorem lz_10_15 {u : MM} {g : GG} : Fx_Si_lay_10_15X u g = Fx_Si_lay_10_15X_L25 u g 13 (iN 0) (sit0 (Fx_H_copyBX 44 10 u g)) := by
  unfold Fx_Si_lay_10_15X
  rw [xqb, xqb, xqb, xqb]
  have e : (12 - (0 : Int32).toInt).toNat + 1 = 13 := by decide
  rw [e]
  rfl
theorem lz_10_19 {u : MM} {g : GG} : Fx_Si_lay_10_19X u g = Fx_Si_lay_10_19X_L25 u g 13 (iN 0) (sit0 (Fx_H_copyBX 44 10 u g)) := by
  unfold Fx_Si_lay_10_19X
  rw [xqb, xqb, xqb, xqb]
  have e : (12 - (0 : Int32).toInt).toNat + 1 = 13 := by decide
  rw [e]
  rfl
theorem lz_10_23 {u : MM} {g : GG} : Fx_Si_lay_10_23X u g = Fx_Si_lay_10_23X_L25 u g 13 (iN 0) (sit0 (Fx_H_copyBX 44 10 u g)) := by
  unfold Fx_Si_lay_10_23X
  rw [xqb, xqb, xqb, xqb]
  have e : (12 - (0 : Int32).toInt).toNat + 1 = 13 := by decide
  rw [e]
  rfl
/-- a plan laid on a hill: both say the same, and what lies there is the same -/
theorem lay_X {u v : MM} {g g' : GG} {hill plan : Int32} (h : RLX u v) (b5 : Bd 0 2 (u 1 5)) (b7 : Bd 0 3 (u 1 7)) (hd : HD v) (pl : PL v) (wf : WFA v) (h49 : u 49 0 = 0) : (Fx_P_laysX hill plan u g).1 = (Fx_M_layX hill plan v g').1 ∧ ((Fx_P_laysX hill plan u g).1 = true → SIT (Fx_P_laysX hill plan u g).2 (Fx_M_layX hill plan v g').2 ∧ HWF ((Fx_M_layX hill plan v g').2 172)) := by
  obtain ⟨t0, t1, t2, t3, t5, t7, th, tw⟩ := h.1
  obtain ⟨n, hn, n2⟩ := iN_ex (hi := 2) b5
  obtain ⟨n', hn', n3⟩ := iN_ex (hi := 3) b7
  have v5 : v 167 0 = iN n := t5.symm.trans hn
  have v7 : v 167 1 = iN n' := t7.symm.trans hn'
  have no : ∀ {a : Bool × MM} {b : Bool × MM}, a.1 = false → b.1 = false → a.1 = b.1 ∧ (a.1 = true → SIT a.2 b.2 ∧ HWF (b.2 172)) := fun ha hb => ⟨ha.trans hb.symm, fun q => by rw [ha] at q; exact absurd q (by decide)⟩
  unfold Fx_P_laysX Fx_M_layX
  rw [xqb (x := Fx_T_hasHillX hill u g), xqb (x := Fx_M_isHillX hill v g'), ih_X, v5]
  rcases nb_cl (x := hill) (c := u 1 5) hn (by omega) with ⟨k, k1, k2, k3, k4, k5⟩ | ⟨k3, k5⟩
  rotate_left
  · rw [hn] at k5
    rw [hs_f k3, if_neg (by decide), if_neg k5]
    exact no rfl rfl
  rw [hn] at k5
  rw [hs_t k3 k4, if_pos rfl, if_pos k5]
  have hr := th k (by omega) (by rw [hn, iN_ti (by omega)]; omega)
  have bk : Bd 0 9 (v 168 (157 * k)) := (hd k (by omega)).1
  have f158 : (157 - (0 : Int32).toInt).toNat + 1 = 158 := by decide
  have hw := wf 0 (by decide) k (by omega) (show k < (v 167 0).toInt.toNat by rw [v5, iN_ti (by omega)]; omega)
  by_cases p1 : plan = -1
  · rw [if_pos p1, if_pos p1, if_pos p1, if_pos p1, f158, k2, p1]
    obtain ⟨x, x1, x2, x3⟩ := lc_a (h := k) (by omega) 158 0 v (by omega) (by omega)
    have x1' : Fx_M_layX_L25 (iN k) (-1) 158 0 v = (true, finL x) := x1
    rw [x1']
    have hx : ∀ j, j < 157 → x 172 j = v 168 (157 * k + j) := fun j hj => by rw [x3 j, if_pos (by omega)]
    have hF : HWF (finL x 172) := hwf_c (fun j hj => by rw [fin_c (by decide), hx j hj]; exact congrArg (v 168) (by omega)) hw
    rcases (show k = 0 ∨ k = 1 by omega) with q | q <;> subst q
    · rw [if_pos (by decide), xqb, lz_5 h49]
      exact ⟨rfl, fun _ => ⟨sit_0 hr (hcB (u := u) (g := g) (t := 44) (f := 5) (by omega)).1 hx, hF⟩⟩
    · rw [if_neg (by decide), xqb, lz_10 h49]
      exact ⟨rfl, fun _ => ⟨sit_0 hr (hcB (u := u) (g := g) (t := 44) (f := 10) (by omega)).1 hx, hF⟩⟩
  simp only [if_neg p1]
  rw [xqb (x := Fx_T_hasPlanX plan u g), xqb (x := Fx_M_isPlanX plan v g'), ip_X, v7]
  rcases nb_cl (x := plan) (c := u 1 7) hn' (by omega) with ⟨j, j1, j2, j3, j4, j5⟩ | ⟨j3, j5⟩
  rotate_left
  · rw [hn'] at j5
    rw [ps_f j3, if_neg (by decide), if_neg j5]
    exact no rfl rfl
  rw [hn'] at j5
  rw [ps_t j3 j4, if_pos rfl, if_pos j5, f158, k2]
  obtain ⟨x, x1, x2, x3⟩ := lc_b (h := k) (plan := plan) (g := g') (by omega) p1 158 0 v (by omega) (by omega)
  have x1' : Fx_M_layX_L25b (iN k) plan g' 158 0 v = Fx_M_layX_L102 plan g' 13 1 (finL x) := x1
  rw [x1', j2]
  have hx : ∀ j, j < 157 → x 172 j = v 168 (157 * k + j) := fun j hj => by rw [x3 j, if_pos (by omega)]
  have b9 : Bd 0 9 (finL x 172 0) := by rw [fin_c (by decide), hx 0 (by decide)]; exact bk
  have hF : HWF (finL x 172) := hwf_c (fun j hj => by rw [fin_c (by decide), hx j hj]; exact congrArg (v 168) (by omega)) hw
  have x9 : finL x 169 = v 169 := by rw [fin_c (by decide), x2 169 (by decide)]
  have f23 : finL x 162 23 = iN 0 := rfl
  obtain ⟨w0, w1⟩ := tw j (by omega) (by rw [hn', iN_ti (by omega)]; omega)
  have bm := pl j (by omega)
  obtain ⟨m, hm, m12⟩ := iN_ex (hi := 12) bm.1
  have R : ∀ {o : Nat}, v 169 (111 * 0 + (37 * j + o)) = v 169 (37 * j + o) := fun {o} => congrArg (v 169) (by omega)
  have um : u (15 + 4 * j) 0 = iN m := w0.trans (R.trans hm)
  have wk : ∀ i, i < m → u (15 + 4 * j + 1) i = v 169 (37 * j + (1 + 3 * i)) ∧ u (15 + 4 * j + 2) i = v 169 (37 * j + (2 + 3 * i)) ∧ u (15 + 4 * j + 3) i = v 169 (37 * j + (3 + 3 * i)) := by
    intro i hi
    obtain ⟨a, b, d⟩ := w1 i (by omega) (by rw [show v 169 (111 * 0 + (37 * j + 0)) = iN m from R.trans hm, iN_ti (by omega)]; omega)
    exact ⟨a.trans R, b.trans R, d.trans R⟩
  rcases (show k = 0 ∨ k = 1 by omega) with q | q <;> subst q
  · rcases (show j = 0 ∨ j = 1 ∨ j = 2 by omega) with y | y | y <;> subst y
    · rw [if_pos (show iN 0 = 0 by decide)]
      rw [if_pos (by decide)]
      have hc := hcB (u := u) (g := g) (t := 44) (f := 5) (by omega)
      have W1 : WKS (sit0 (Fx_H_copyBX 44 5 u g)) (finL x) 15 0 m := by
        refine ⟨by rw [x9]; exact hm, m12, fun i hi => ?_, fun i hi => by rw [x9]; exact bm.2 i hi⟩
        rw [x9, sit0_c (by decide), sit0_c (by decide), sit0_c (by decide), hc.2 _ (by decide), hc.2 _ (by decide), hc.2 _ (by decide)]
        exact wk i hi
      obtain ⟨x2', y2, e1, e2, e3, e4, e5, e6, e7⟩ := ly_5_15 (u := u) (g := g) (g' := g') (k := 0) (m := m) um (by omega) m 13 13 0 (sit0 (Fx_H_copyBX 44 5 u g)) (finL x) (by omega) (by omega) (by omega) (by omega) (sit_0 hr hc.1 hx) f23 b9 W1 hF
      rw [xqb, lz_5_15, e1, show Fx_M_layX_L102 (iN 0) g' 13 1 (finL x) = (true, y2) from e2]
      exact ⟨rfl, fun _ => ⟨e3, e7⟩⟩
    · rw [if_pos (show iN 0 = 0 by decide)]
      rw [if_neg (by decide), if_pos (by decide)]
      have hc := hcB (u := u) (g := g) (t := 44) (f := 5) (by omega)
      have W1 : WKS (sit0 (Fx_H_copyBX 44 5 u g)) (finL x) 19 1 m := by
        refine ⟨by rw [x9]; exact hm, m12, fun i hi => ?_, fun i hi => by rw [x9]; exact bm.2 i hi⟩
        rw [x9, sit0_c (by decide), sit0_c (by decide), sit0_c (by decide), hc.2 _ (by decide), hc.2 _ (by decide), hc.2 _ (by decide)]
        exact wk i hi
      obtain ⟨x2', y2, e1, e2, e3, e4, e5, e6, e7⟩ := ly_5_19 (u := u) (g := g) (g' := g') (k := 1) (m := m) um (by omega) m 13 13 0 (sit0 (Fx_H_copyBX 44 5 u g)) (finL x) (by omega) (by omega) (by omega) (by omega) (sit_0 hr hc.1 hx) f23 b9 W1 hF
      rw [xqb, lz_5_19, e1, show Fx_M_layX_L102 (iN 1) g' 13 1 (finL x) = (true, y2) from e2]
      exact ⟨rfl, fun _ => ⟨e3, e7⟩⟩
    · rw [if_pos (show iN 0 = 0 by decide)]
      rw [if_neg (by decide), if_neg (by decide)]
      have hc := hcB (u := u) (g := g) (t := 44) (f := 5) (by omega)
      have W1 : WKS (sit0 (Fx_H_copyBX 44 5 u g)) (finL x) 23 2 m := by
        refine ⟨by rw [x9]; exact hm, m12, fun i hi => ?_, fun i hi => by rw [x9]; exact bm.2 i hi⟩
        rw [x9, sit0_c (by decide), sit0_c (by decide), sit0_c (by decide), hc.2 _ (by decide), hc.2 _ (by decide), hc.2 _ (by decide)]
        exact wk i hi
      obtain ⟨x2', y2, e1, e2, e3, e4, e5, e6, e7⟩ := ly_5_23 (u := u) (g := g) (g' := g') (k := 2) (m := m) um (by omega) m 13 13 0 (sit0 (Fx_H_copyBX 44 5 u g)) (finL x) (by omega) (by omega) (by omega) (by omega) (sit_0 hr hc.1 hx) f23 b9 W1 hF
      rw [xqb, lz_5_23, e1, show Fx_M_layX_L102 (iN 2) g' 13 1 (finL x) = (true, y2) from e2]
      exact ⟨rfl, fun _ => ⟨e3, e7⟩⟩
  · rcases (show j = 0 ∨ j = 1 ∨ j = 2 by omega) with y | y | y <;> subst y
    · rw [if_neg (show ¬ iN 1 = 0 by decide)]
      rw [if_pos (by decide)]
      have hc := hcB (u := u) (g := g) (t := 44) (f := 10) (by omega)
      have W1 : WKS (sit0 (Fx_H_copyBX 44 10 u g)) (finL x) 15 0 m := by
        refine ⟨by rw [x9]; exact hm, m12, fun i hi => ?_, fun i hi => by rw [x9]; exact bm.2 i hi⟩
        rw [x9, sit0_c (by decide), sit0_c (by decide), sit0_c (by decide), hc.2 _ (by decide), hc.2 _ (by decide), hc.2 _ (by decide)]
        exact wk i hi
      obtain ⟨x2', y2, e1, e2, e3, e4, e5, e6, e7⟩ := ly_10_15 (u := u) (g := g) (g' := g') (k := 0) (m := m) um (by omega) m 13 13 0 (sit0 (Fx_H_copyBX 44 10 u g)) (finL x) (by omega) (by omega) (by omega) (by omega) (sit_0 hr hc.1 hx) f23 b9 W1 hF
      rw [xqb, lz_10_15, e1, show Fx_M_layX_L102 (iN 0) g' 13 1 (finL x) = (true, y2) from e2]
      exact ⟨rfl, fun _ => ⟨e3, e7⟩⟩
    · rw [if_neg (show ¬ iN 1 = 0 by decide)]
      rw [if_neg (by decide), if_pos (by decide)]
      have hc := hcB (u := u) (g := g) (t := 44) (f := 10) (by omega)
      have W1 : WKS (sit0 (Fx_H_copyBX 44 10 u g)) (finL x) 19 1 m := by
        refine ⟨by rw [x9]; exact hm, m12, fun i hi => ?_, fun i hi => by rw [x9]; exact bm.2 i hi⟩
        rw [x9, sit0_c (by decide), sit0_c (by decide), sit0_c (by decide), hc.2 _ (by decide), hc.2 _ (by decide), hc.2 _ (by decide)]
        exact wk i hi
      obtain ⟨x2', y2, e1, e2, e3, e4, e5, e6, e7⟩ := ly_10_19 (u := u) (g := g) (g' := g') (k := 1) (m := m) um (by omega) m 13 13 0 (sit0 (Fx_H_copyBX 44 10 u g)) (finL x) (by omega) (by omega) (by omega) (by omega) (sit_0 hr hc.1 hx) f23 b9 W1 hF
      rw [xqb, lz_10_19, e1, show Fx_M_layX_L102 (iN 1) g' 13 1 (finL x) = (true, y2) from e2]
      exact ⟨rfl, fun _ => ⟨e3, e7⟩⟩
    · rw [if_neg (show ¬ iN 1 = 0 by decide)]
      rw [if_neg (by decide), if_neg (by decide)]
      have hc := hcB (u := u) (g := g) (t := 44) (f := 10) (by omega)
      have W1 : WKS (sit0 (Fx_H_copyBX 44 10 u g)) (finL x) 23 2 m := by
        refine ⟨by rw [x9]; exact hm, m12, fun i hi => ?_, fun i hi => by rw [x9]; exact bm.2 i hi⟩
        rw [x9, sit0_c (by decide), sit0_c (by decide), sit0_c (by decide), hc.2 _ (by decide), hc.2 _ (by decide), hc.2 _ (by decide)]
        exact wk i hi
      obtain ⟨x2', y2, e1, e2, e3, e4, e5, e6, e7⟩ := ly_10_23 (u := u) (g := g) (g' := g') (k := 2) (m := m) um (by omega) m 13 13 0 (sit0 (Fx_H_copyBX 44 10 u g)) (finL x) (by omega) (by omega) (by omega) (by omega) (sit_0 hr hc.1 hx) f23 b9 W1 hF
      rw [xqb, lz_10_23, e1, show Fx_M_layX_L102 (iN 2) g' 13 1 (finL x) = (true, y2) from e2]
      exact ⟨rfl, fun _ => ⟨e3, e7⟩⟩
end
section
/-! a storm, pond by pond: what it is, and what the class does -/
/-- pond q is in the set -/
def inB (s : Int32) (q : Nat) : Bool := decide (((s >>> (iN q &&& 31)) &&& 1) = 1)
def bt (p : Nat) : Int32 := 1 <<< (iN p &&& 31)
theorem isI {s : Int32} {q : Nat} {u : MM} {g : GG} : Fx_isInX s (iN q) u g = inB s q := by
  unfold Fx_isInX inB
  by_cases h : ((s >>> (iN q &&& 31)) &&& 1) = 1
  · rw [if_pos h, decide_eq_true h]
  · rw [if_neg h, decide_eq_false h]
theorem b9I {p : Nat} {u : MM} {g : GG} (hp : p ≤ 1000) : Fx_bit9X (iN p) u g = bt p := by
  unfold Fx_bit9X bt
  rw [if_pos (show (0 : Int32) ≤ iN p from (iN_le (a := 0) (by omega) (by omega)).mpr (Nat.zero_le _))]
/-- is there such a pond -/
def hasB (n : Nat) (x : Int32) : Bool := if x < 0 then false else if iN n ≤ x then false else true
def HRS (A : Nat → Nat → Int32) (w : Int32) (p : Nat) : Prop := ¬ A p 12 = -1 ∧ ∃ q, q < p ∧ inB w q = true ∧ (A q 8 = iN p ∨ A q 9 = iN p) ∧ ¬ A q 11 < A p 12
noncomputable def hrB (A : Nat → Nat → Int32) (w : Int32) (p : Nat) : Bool := @decide (HRS A w p) (Classical.propDecidable _)
def wat (A : Nat → Nat → Int32) (st : Int32) (h : Bool) (p : Nat) (c : Int32) : Int32 := c + (st * A p 2 + (if h = true then 0 else A p 1))
def gos (A : Nat → Nat → Int32) (bk kp : Int32) (p : Nat) (w : Int32) : Bool := if iN p = kp then false else if A p 15 = 1 then false else if inB bk p = true then true else if w - A p 0 ≤ A p 3 then false else true
def lef (A : Nat → Nat → Int32) (kp : Int32) (h go : Bool) (p : Nat) (w : Int32) : Int32 := (if iN p = kp then 0 else if go = true then w else if A p 15 = 1 then w else if 0 < w - A p 0 then w - A p 0 else 0) + (if h = true then A p 1 else 0)
def trn (A : Nat → Nat → Int32) (n p : Nat) (l : Int32) : Int32 := if hasB n (A p 9) = true then (l * A p 10) / 10 else 0
def pA (A : Nat → Nat → Int32) (n p : Nat) (l : Int32) (W : Nat → Int32) : Nat → Int32 := if hasB n (A p 9) = true then upd W (A p 9).toNatClampNeg (W (A p 9).toNatClampNeg + (l * A p 10) / 10) else W
def pW (A : Nat → Nat → Int32) (n p : Nat) (l : Int32) (W : Nat → Int32) : Nat → Int32 := if hasB n (A p 8) = true then upd (pA A n p l W) (A p 8).toNatClampNeg (pA A n p l W (A p 8).toNatClampNeg + (l - trn A n p l)) else pA A n p l W
def pB (A : Nat → Nat → Int32) (n p : Nat) (l b : Int32) : Int32 := if hasB n (A p 8) = true then b else b + (l - trn A n p l)
abbrev ST : Type := Int32 × Int32 × Int32 × (Nat → Int32) × (Nat → Int32)
def stq (A : Nat → Nat → Int32) (n : Nat) (kp : Int32) (p : Nat) (s : ST) (h go : Bool) (w : Int32) : ST := (if go = true then s.1 ||| bt p else s.1, if h = true then s.2.1 ||| bt p else s.2.1, pB A n p (lef A kp h go p w) s.2.2.1, pW A n p (lef A kp h go p w) (upd s.2.2.2.1 p w), upd s.2.2.2.2 p (lef A kp h go p w))
noncomputable def stp (A : Nat → Nat → Int32) (n : Nat) (st bk kp : Int32) (p : Nat) (s : ST) : ST := stq A n kp p s (hrB A s.1 p) (gos A bk kp p (wat A st (hrB A s.1 p) p (s.2.2.2.1 p))) (wat A st (hrB A s.1 p) p (s.2.2.2.1 p))
/-- a storm's first p ponds -/
noncomputable def stN (A : Nat → Nat → Int32) (n : Nat) (st bk kp : Int32) : Nat → ST
  | 0 => (0, 0, 0, fun _ => 0, fun _ => 0)
  | p + 1 => stp A n st bk kp p (stN A n st bk kp p)
/-- harm of a set, the first p ponds -/
def hrm (A : Nat → Nat → Int32) (s : Int32) : Nat → Int32
  | 0 => 0
  | p + 1 => if inB s p = true then hrm A s p + A p 5 else hrm A s p
theorem p2_le {p : Nat} (h : p ≤ 9) : 2 ^ p ≤ 512 := Nat.le_trans (Nat.pow_le_pow_right (by decide) h) (by decide)
/-- reads of the class's hill in cell t -/
def HA (u : MM) (t n : Nat) (A : Nat → Nat → Int32) : Prop := u t 0 = iN n ∧ ∀ p c, p < n → c < 16 → u (t + 1) (16 * p + c) = A p c
theorem ha_r {u : MM} {t n p c : Nat} {A : Nat → Nat → Int32} (h : HA u t n A) (n9 : n ≤ 9) (hp : p < n) (hc : c < 16) : hof u t (iN p) (iN c) = A p c := by
  rw [hofE (by omega) hc]
  exact h.2 p c hp hc
end
section
/-! the reference's storm -/
/-- reads of the reference's row -/
def RMA (v : MM) (n : Nat) (A : Nat → Nat → Int32) : Prop := v 162 22 = iN n ∧ ∀ p c, p < n → c < 16 → v 172 (13 + 16 * p + c) = A p c
theorem ma_r {v : MM} {n p c : Nat} {A : Nat → Nat → Int32} (h : RMA v n A) (n9 : n ≤ 9) (hp : p < n) (hc : c < 16) : mof v (iN p) (iN c) = A p c := by
  rw [mofE (by omega) hc]
  exact h.2 p c hp hc
/-- the ponds are in order -/
def AWF (n : Nat) (A : Nat → Nat → Int32) : Prop := ∀ p, p < n → (∀ c, c < 16 → Bd (cLo c) (cHi c) (A p c)) ∧ LK n p (A p 8) ∧ LK n p (A p 9)
theorem hasI {s : Int32} {q : Nat} {u : MM} {g : GG} : Fx_M_hasX s (iN q) u g = inB s q := by
  unfold Fx_M_hasX inB
  by_cases h : ((s >>> (iN q &&& 31)) &&& 1) = 1
  · rw [if_pos h, decide_eq_true h]
  · rw [if_neg h, decide_eq_false h]
end
section
/-! the reference's storm, all of it -/
/-- harm, as the reference adds it -/
def hro (A : Nat → Nat → Int32) (o s : Int32) : Nat → Int32
  | 0 => 0
  | p + 1 => hro A o s p + (if inB s p = true ∧ (o = -1 ∨ A p 6 = o) then A p 5 else 0)
end
