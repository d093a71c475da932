section
/-! the works of a plan, one by one -/
theorem xqc2 {α β γ : Type} {P : α × β} {K : α → β → γ} : xq_c2 P K = K P.1 P.2 := rfl
/-- what the works of plan k (of the class in cell W) are, on both sides -/
def WKS (x y : MM) (W k m : Nat) : Prop := y 169 (37 * k) = iN m ∧ m ≤ 12 ∧ (∀ i, i < m → x (W + 1) i = y 169 (37 * k + (1 + 3 * i)) ∧ x (W + 2) i = y 169 (37 * k + (2 + 3 * i)) ∧ x (W + 3) i = y 169 (37 * k + (3 + 3 * i))) ∧ ∀ i, i < 12 → (y 169 (37 * k + (1 + 3 * i)) = 4 ∨ Bd 0 999 (y 169 (37 * k + (3 + 3 * i)))) ∧ Bd 0 999 (y 169 (37 * k + (2 + 3 * i)))
theorem wks_c {x y x2 y2 : MM} {W k m : Nat} (h : WKS x y W k m) (e1 : x2 (W + 1) = x (W + 1)) (e2 : x2 (W + 2) = x (W + 2)) (e3 : x2 (W + 3) = x (W + 3)) (e : y2 169 = y 169) : WKS x2 y2 W k m := by
  unfold WKS
  rw [e1, e2, e3, e]
  exact h
theorem wi_1 {k i : Nat} (hk : k ≤ 12) (hi : i ≤ 12) : ((((37 : Int32) * iN k) + 1) + ((3 : Int32) * iN i)).toNatClampNeg = 37 * k + (1 + 3 * i) := by
  show (((iN 37 * iN k) + iN 1) + (iN 3 * iN i)).toNatClampNeg = _
  rw [iN_m, iN_m, iN_a, iN_a, iN_cl (by omega)]
  omega
theorem wi_2 {k i : Nat} (hk : k ≤ 12) (hi : i ≤ 12) : (((((37 : Int32) * iN k) + 1) + ((3 : Int32) * iN i)) + 1).toNatClampNeg = 37 * k + (2 + 3 * i) := by
  show ((((iN 37 * iN k) + iN 1) + (iN 3 * iN i)) + iN 1).toNatClampNeg = _
  rw [iN_m, iN_m, iN_a, iN_a, iN_a, iN_cl (by omega)]
  omega
theorem wi_3 {k i : Nat} (hk : k ≤ 12) (hi : i ≤ 12) : (((((37 : Int32) * iN k) + 1) + ((3 : Int32) * iN i)) + 2).toNatClampNeg = 37 * k + (3 + 3 * i) := by
  show ((((iN 37 * iN k) + iN 1) + (iN 3 * iN i)) + iN 2).toNatClampNeg = _
  rw [iN_m, iN_m, iN_a, iN_a, iN_a, iN_cl (by omega)]
  omega
theorem wi_0 {k : Nat} (hk : k ≤ 12) : ((37 : Int32) * iN k).toNatClampNeg = 37 * k := by
  show (iN 37 * iN k).toNatClampNeg = _
  rw [iN_m, iN_cl (by omega)]
theorem hwf_u {q c : Nat} {z : Int32} {R : Nat → Int32} (h : HWF R) (hc : c < 16) (b : Bd (cLo c) (cHi c) z) (l : ∀ n, n ≤ 9 → R 0 = iN n → c = 8 ∨ c = 9 → LK n q z) : HWF (upd R (13 + 16 * q + c) z) := by
  have u : ∀ j, j < 13 → upd R (13 + 16 * q + c) z j = R j := fun j hj => if_neg (by omega)
  refine ⟨hwp_u h.1 hc b l, ?_, ?_⟩
  · rw [u 1 (by decide)]; exact h.2.1
  · have h3 := h.2.2
    unfold sm at h3 ⊢
    rw [u 1 (by decide), u 6 (by decide), u 8 (by decide), u 10 (by decide), u 12 (by decide)]
    exact h3
theorem hwf_o {q : Nat} {v : MM} {g : GG} {x : Int32} (h : HWF (v 172)) (hq : q < 9) : HWF ((xq_lt (ms v 162 25 x) fun y => xq_lt (Fx_M_setX (iN q) (1 : Int32) (0 : Int32) y g) fun y2 => xq_lt (Fx_M_setX (iN q) (0 : Int32) (0 : Int32) y2 g) fun y3 => xq_lt (Fx_M_setX (iN q) (4 : Int32) (0 : Int32) y3 g) fun y4 => xq_lt (Fx_M_setX (iN q) (15 : Int32) (1 : Int32) y4 g) fun y5 => (true, y5)).2 172) := by
  rw [xqb, xqb, xqb, xqb, xqb]
  have s1 : ∀ (y : MM) (z : Int32), Fx_M_setX (iN q) (1 : Int32) z y g = ms y 172 (13 + 16 * q + 1) z := fun y z => msE (c := 1) hq (by decide)
  have s0 : ∀ (y : MM) (z : Int32), Fx_M_setX (iN q) (0 : Int32) z y g = ms y 172 (13 + 16 * q + 0) z := fun y z => msE (c := 0) hq (by decide)
  have s4 : ∀ (y : MM) (z : Int32), Fx_M_setX (iN q) (4 : Int32) z y g = ms y 172 (13 + 16 * q + 4) z := fun y z => msE (c := 4) hq (by decide)
  have s15 : ∀ (y : MM) (z : Int32), Fx_M_setX (iN q) (15 : Int32) z y g = ms y 172 (13 + 16 * q + 15) z := fun y z => msE (c := 15) hq (by decide)
  rw [s1, s0, s4, s15]
  show HWF (ms (ms (ms (ms (ms v 162 25 x) 172 (13 + 16 * q + 1) 0) 172 (13 + 16 * q + 0) 0) 172 (13 + 16 * q + 4) 0) 172 (13 + 16 * q + 15) 1 172)
  rw [ms_a1, ms_a1, ms_a1, ms_a1, ms_c1 (by decide)]
  exact hwf_u (hwf_u (hwf_u (hwf_u h (by decide) (show Bd 0 24 (0 : Int32) by decide) (fun _ _ _ y => by omega)) (by decide) (show Bd 0 24 (0 : Int32) by decide) (fun _ _ _ y => by omega)) (by decide) (show Bd 0 10 (0 : Int32) by decide) (fun _ _ _ y => by omega)) (by decide) (show Bd 0 1 (1 : Int32) by decide) (fun _ _ _ y => by omega)
theorem snd_ms {b : Bool} {u : MM} {a i c : Nat} {z : Int32} (h : c ≠ a) : ((b, ms u a i z) : Bool × MM).2 c = u c := ms_c1 h
/-- a work keeps the hill in order -/
theorem do_W {v : MM} {g : GG} {kind p much : Int32} (h : HWF (v 172)) (e22 : v 162 22 = v 172 0) (bp : Bd 0 999 p) (bm : kind = 4 ∨ Bd 0 999 much) : HWF ((Fx_M_doesX kind p much v g).2 172) := by
  obtain ⟨n, m, n9, m4, f0, f1, hr, hd, hp⟩ := h.1
  obtain ⟨q, hq, q999⟩ := iN_ex (hi := 999) bp
  have gate : ∀ B : Bool × MM, (q < n → HWF (B.2 172)) → HWF ((if v 162 22 ≤ p then (false, v) else if mof v p (15 : Int32) = 1 then (false, v) else B).2 172) := by
    intro B k
    by_cases c : v 162 22 ≤ p
    · rw [if_pos c]; exact h
    · rw [if_neg c]
      by_cases y : mof v p (15 : Int32) = 1
      · rw [if_pos y]; exact h
      · rw [if_neg y]
        refine k ?_
        have c1 := Int32.lt_iff_toInt_lt.mp (i_nle c)
        rw [hq, e22, f0, iN_ti (by omega), iN_ti (by omega)] at c1
        omega
  have rd : q < n → ∀ c, c < 16 → mof v (iN q) (iN c) = v 172 (13 + 16 * q + c) := fun hl c hc => mofE (by omega) hc
  unfold Fx_M_doesX
  by_cases k4 : kind = 4
  · rw [if_pos k4]
    refine gate _ (fun hl => ?_)
    rw [k4, if_neg (by decide), if_neg (by decide), if_neg (by decide), if_neg (by decide), hq]
    exact hwf_o h (by omega)
  rw [if_neg k4]
  have bm2 := bm.resolve_left k4
  have m1 := bm2.1
  refine gate _ (fun hl => ?_)
  obtain ⟨p1, p2, p3⟩ := hp q hl
  rw [hq]
  by_cases k0 : kind = 0
  · rw [if_pos k0, show mof v (iN q) (4 : Int32) = v 172 (13 + 16 * q + 4) from rd hl 4 (by decide)]
    by_cases y : much ≤ v 172 (13 + 16 * q + 4)
    · have b4 : Bd 0 10 (v 172 (13 + 16 * q + 4)) := p1 4 (by decide)
      have y1 := Int32.le_iff_toInt_le.mp y
      have b1 := b4.1
      have b2 := b4.2
      have s := ti_sub (u := v 172 (13 + 16 * q + 4)) (v := much) (by omega) (by omega)
      rw [if_pos y, xqb, xqb, show ∀ z : Int32, Fx_M_setX (iN q) (4 : Int32) z v g = ms v 172 (13 + 16 * q + 4) z from fun z => msE (c := 4) (by omega) (by decide)]
      rw [snd_ms (by decide), ms_a1]
      exact hwf_u h (by decide) (show Bd 0 10 _ from ⟨by omega, by omega⟩) (fun _ _ _ y => by omega)
    · rw [if_neg y]; exact h
  rw [if_neg k0]
  by_cases k1 : kind = 1
  · rw [if_pos k1, show mof v (iN q) (1 : Int32) = v 172 (13 + 16 * q + 1) from rd hl 1 (by decide)]
    by_cases y : much ≤ v 172 (13 + 16 * q + 1)
    · have b4 : Bd 0 24 (v 172 (13 + 16 * q + 1)) := p1 1 (by decide)
      have y1 := Int32.le_iff_toInt_le.mp y
      have b1 := b4.1
      have b2 := b4.2
      have s := ti_sub (u := v 172 (13 + 16 * q + 1)) (v := much) (by omega) (by omega)
      rw [if_pos y, xqb, xqb, show ∀ z : Int32, Fx_M_setX (iN q) (1 : Int32) z v g = ms v 172 (13 + 16 * q + 1) z from fun z => msE (c := 1) (by omega) (by decide)]
      rw [snd_ms (by decide), ms_a1]
      exact hwf_u h (by decide) (show Bd 0 24 _ from ⟨by omega, by omega⟩) (fun _ _ _ y => by omega)
    · rw [if_neg y]; exact h
  rw [if_neg k1]
  by_cases k2 : kind = 2
  · rw [if_pos k2, show mof v (iN q) (3 : Int32) = v 172 (13 + 16 * q + 3) from rd hl 3 (by decide)]
    by_cases y : v 172 (13 + 16 * q + 3) + much ≤ 24
    · have b4 : Bd 0 24 (v 172 (13 + 16 * q + 3)) := p1 3 (by decide)
      have y1 := Int32.le_iff_toInt_le.mp y
      have b1 := b4.1
      have b2 := b4.2
      have m2 := bm2.2
      have s := ti_add (u := v 172 (13 + 16 * q + 3)) (v := much) (by omega) (by omega)
      have e24 : (24 : Int32).toInt = 24 := rfl
      rw [if_pos y, xqb, xqb, show ∀ z : Int32, Fx_M_setX (iN q) (3 : Int32) z v g = ms v 172 (13 + 16 * q + 3) z from fun z => msE (c := 3) (by omega) (by decide)]
      rw [snd_ms (by decide), ms_a1]
      exact hwf_u h (by decide) (show Bd 0 24 _ from ⟨by omega, by omega⟩) (fun _ _ _ y => by omega)
    · rw [if_neg y]; exact h
  rw [if_neg k2]
  by_cases k3 : kind = 3
  · rw [if_pos k3, xqb, in_X, e22, f0]
    obtain ⟨r, hr', r999⟩ := iN_ex (hi := 999) bm2
    have tr : much.toInt = r := by rw [hr', iN_ti (by omega)]
    have l1 : (1 : Int32).toInt = 1 := rfl
    have tq1 : (iN q + 1).toInt = q + 1 := by rw [iN_s, iN_ti (by omega)]; omega
    have tn1 : (iN n - 1).toInt = (n : Int) - 1 := by rw [ti_sub (by rw [iN_ti (by omega)]; omega) (by rw [iN_ti (by omega)]; omega), iN_ti (by omega), l1]
    by_cases y : r < n ∧ q < r
    · rw [if_pos (inT (by omega) (by omega)), xqb, xqb, show ∀ z : Int32, Fx_M_setX (iN q) (8 : Int32) z v g = ms v 172 (13 + 16 * q + 8) z from fun z => msE (c := 8) (by omega) (by decide)]
      rw [snd_ms (by decide), ms_a1]
      refine hwf_u h (by decide) (show Bd (-1) 8 _ from ⟨by omega, by omega⟩) (fun n' n9' e0 _ => ?_)
      have en : n' = n := (iN_eq (by omega) (by omega)).mp (e0.symm.trans f0)
      exact Or.inr ⟨r, y.2, by omega, hr'⟩
    · rw [if_neg (inF (by omega))]
      exact h
  rw [if_neg k3]
  exact hwf_o h (by omega)
theorem ly_5_15 {u : MM} {g g' : GG} {k m : Nat} (hu : u 15 0 = iN m) (hk : k ≤ 12) : ∀ (r f1 f2 w : Nat) (x y : MM), m - w ≤ r → w ≤ m → r < f1 → r < f2 → SIT x y → y 162 23 = iN w → Bd 0 9 (y 172 0) → WKS x y 15 k m → HWF (y 172) → ∃ x2 y2, Fx_Si_lay_5_15X_L25 u g f1 (iN w) x = x2 ∧ Fx_M_layX_L102 (iN k) g' f2 1 y = (true, y2) ∧ SIT x2 y2 ∧ (∀ c, c ≠ 43 → c ≠ 45 → x2 c = x c) ∧ (∀ c, c ≠ 162 → c ≠ 172 → y2 c = y c) ∧ y2 172 0 = y 172 0 ∧ HWF (y2 172) := by
  intro r
  induction r with
  | zero =>
    intro f1 f2 w x y hr hw h1 h2 hs h23 b9 hW hF
    obtain ⟨f1, rfl⟩ : ∃ f, f1 = f + 1 := ⟨f1 - 1, by omega⟩
    obtain ⟨f2, rfl⟩ : ∃ f, f2 = f + 1 := ⟨f2 - 1, by omega⟩
    have e : w = m := by omega
    subst e
    refine ⟨x, y, ?_, ?_, hs, fun _ _ _ => rfl, fun _ _ _ => rfl, rfl, hF⟩
    · rw [Fx_Si_lay_5_15X_L25_s, hu, if_pos (Int32.le_refl _)]
    · rw [Fx_M_layX_L102_s, if_neg (by decide), xqb, wi_0 hk, hW.1, h23, if_pos (Int32.le_refl _)]
      rfl
  | succ r ih =>
    intro f1 f2 w x y hr hw h1 h2 hs h23 b9 hW hF
    obtain ⟨f1, rfl⟩ : ∃ f, f1 = f + 1 := ⟨f1 - 1, by omega⟩
    obtain ⟨f2, rfl⟩ : ∃ f, f2 = f + 1 := ⟨f2 - 1, by omega⟩
    have m12 := hW.2.1
    by_cases e : w = m
    · subst e
      refine ⟨x, y, ?_, ?_, hs, fun _ _ _ => rfl, fun _ _ _ => rfl, rfl, hF⟩
      · rw [Fx_Si_lay_5_15X_L25_s, hu, if_pos (Int32.le_refl _)]
      · rw [Fx_M_layX_L102_s, if_neg (by decide), xqb, wi_0 hk, hW.1, h23, if_pos (Int32.le_refl _)]
        rfl
    have nle : ¬ iN m ≤ iN w := fun q => by have := (iN_le (by omega) (by omega)).mp q; omega
    obtain ⟨a1, a2, a3⟩ := hW.2.2.1 w (by omega)
    obtain ⟨b1, b2⟩ := hW.2.2.2 w (by omega)
    have st := st_X (g := g) (g' := g') (kind := y 169 (37 * k + (1 + 3 * w))) (p := y 169 (37 * k + (2 + 3 * w))) (much := y 169 (37 * k + (3 + 3 * w))) hs b9 b2 b1
    rw [Fx_M_layX_L102_s, if_neg (show ¬ (1 : Int32) = 0 by decide), xqb, wi_0 hk, hW.1, h23, if_neg nle, xqb, xqb, xqb, wi_1 hk (by omega), wi_2 hk (by omega), wi_3 hk (by omega), xqc2]
    rw [Fx_Si_lay_5_15X_L25_s, hu, if_neg nle, iN_cl (by omega), xqb, xqb, xqb, a1, a2, a3, xqc2]
    obtain ⟨A, hA⟩ : ∃ A, A = Fx_Si_buildsX (y 169 (37 * k + (1 + 3 * w))) (y 169 (37 * k + (2 + 3 * w))) (y 169 (37 * k + (3 + 3 * w))) x g := ⟨_, rfl⟩
    obtain ⟨B, hB⟩ : ∃ B, B = Fx_M_doesX (y 169 (37 * k + (1 + 3 * w))) (y 169 (37 * k + (2 + 3 * w))) (y 169 (37 * k + (3 + 3 * w))) y g' := ⟨_, rfl⟩
    have dW := do_W (g := g') hF hs.2.1 b2 b1
    rw [← hA, ← hB] at st
    rw [← hB] at dW
    rw [← hA, ← hB]
    obtain ⟨s1, s2, ⟨l1, l2⟩, ⟨r1, r2, r3⟩⟩ := st
    rw [s1]
    by_cases t : B.1 = true
    · rw [if_pos t, if_pos t, xqb, xqb, t, iN_s]
      have x1 : x 43 1 = iN w := hs.2.2.1.trans h23
      have sd : SIT (ms A.2 43 1 (x 43 1 + 1)) (ms B.2 162 23 (iN (w + 1))) := sit_don s2 (by rw [x1, iN_s])
      obtain ⟨x2, y2, p1, p2, p3, p4, p5, p6, p7⟩ := ih f1 f2 (w + 1) _ _ (by omega) (by omega) (by omega) (by omega) sd (by rw [ms_e1]) (by rw [ms_c1 (by decide), r3 0 (by decide)]; exact b9) (wks_c hW (by rw [ms_c1 (by decide)]; exact l1 _ (by decide) (by decide)) (by rw [ms_c1 (by decide)]; exact l1 _ (by decide) (by decide)) (by rw [ms_c1 (by decide)]; exact l1 _ (by decide) (by decide)) (by rw [ms_c1 (by decide)]; exact r1 169 (by decide) (by decide))) (by rw [ms_c1 (by decide)]; exact dW)
      exact ⟨x2, y2, p1, p2, p3, fun c c1 c2 => by rw [p4 c c1 c2, ms_c1 c1, l1 c c1 c2], fun c c1 c2 => by rw [p5 c c1 c2, ms_c1 c1, r1 c c1 c2], by rw [p6, ms_c1 (by decide), r3 0 (by decide)], p7⟩
    · rw [if_neg t, if_neg t, xqb]
      have e0 : iN w + 0 = B.2 162 23 := by rw [Int32.add_zero, r2 23 (by decide) (by decide), h23]
      rw [e0, ms_self]
      exact ⟨A.2, B.2, rfl, rfl, s2, l1, r1, r3 0 (by decide), dW⟩
theorem ly_5_19 {u : MM} {g g' : GG} {k m : Nat} (hu : u 19 0 = iN m) (hk : k ≤ 12) : ∀ (r f1 f2 w : Nat) (x y : MM), m - w ≤ r → w ≤ m → r < f1 → r < f2 → SIT x y → y 162 23 = iN w → Bd 0 9 (y 172 0) → WKS x y 19 k m → HWF (y 172) → ∃ x2 y2, Fx_Si_lay_5_19X_L25 u g f1 (iN w) x = x2 ∧ Fx_M_layX_L102 (iN k) g' f2 1 y = (true, y2) ∧ SIT x2 y2 ∧ (∀ c, c ≠ 43 → c ≠ 45 → x2 c = x c) ∧ (∀ c, c ≠ 162 → c ≠ 172 → y2 c = y c) ∧ y2 172 0 = y 172 0 ∧ HWF (y2 172) := by
  intro r
  induction r with
  | zero =>
    intro f1 f2 w x y hr hw h1 h2 hs h23 b9 hW hF
    obtain ⟨f1, rfl⟩ : ∃ f, f1 = f + 1 := ⟨f1 - 1, by omega⟩
    obtain ⟨f2, rfl⟩ : ∃ f, f2 = f + 1 := ⟨f2 - 1, by omega⟩
    have e : w = m := by omega
    subst e
    refine ⟨x, y, ?_, ?_, hs, fun _ _ _ => rfl, fun _ _ _ => rfl, rfl, hF⟩
    · rw [Fx_Si_lay_5_19X_L25_s, hu, if_pos (Int32.le_refl _)]
    · rw [Fx_M_layX_L102_s, if_neg (by decide), xqb, wi_0 hk, hW.1, h23, if_pos (Int32.le_refl _)]
      rfl
  | succ r ih =>
    intro f1 f2 w x y hr hw h1 h2 hs h23 b9 hW hF
    obtain ⟨f1, rfl⟩ : ∃ f, f1 = f + 1 := ⟨f1 - 1, by omega⟩
    obtain ⟨f2, rfl⟩ : ∃ f, f2 = f + 1 := ⟨f2 - 1, by omega⟩
    have m12 := hW.2.1
    by_cases e : w = m
    · subst e
      refine ⟨x, y, ?_, ?_, hs, fun _ _ _ => rfl, fun _ _ _ => rfl, rfl, hF⟩
      · rw [Fx_Si_lay_5_19X_L25_s, hu, if_pos (Int32.le_refl _)]
      · rw [Fx_M_layX_L102_s, if_neg (by decide), xqb, wi_0 hk, hW.1, h23, if_pos (Int32.le_refl _)]
        rfl
    have nle : ¬ iN m ≤ iN w := fun q => by have := (iN_le (by omega) (by omega)).mp q; omega
    obtain ⟨a1, a2, a3⟩ := hW.2.2.1 w (by omega)
    obtain ⟨b1, b2⟩ := hW.2.2.2 w (by omega)
    have st := st_X (g := g) (g' := g') (kind := y 169 (37 * k + (1 + 3 * w))) (p := y 169 (37 * k + (2 + 3 * w))) (much := y 169 (37 * k + (3 + 3 * w))) hs b9 b2 b1
    rw [Fx_M_layX_L102_s, if_neg (show ¬ (1 : Int32) = 0 by decide), xqb, wi_0 hk, hW.1, h23, if_neg nle, xqb, xqb, xqb, wi_1 hk (by omega), wi_2 hk (by omega), wi_3 hk (by omega), xqc2]
    rw [Fx_Si_lay_5_19X_L25_s, hu, if_neg nle, iN_cl (by omega), xqb, xqb, xqb, a1, a2, a3, xqc2]
    obtain ⟨A, hA⟩ : ∃ A, A = Fx_Si_buildsX (y 169 (37 * k + (1 + 3 * w))) (y 169 (37 * k + (2 + 3 * w))) (y 169 (37 * k + (3 + 3 * w))) x g := ⟨_, rfl⟩
    obtain ⟨B, hB⟩ : ∃ B, B = Fx_M_doesX (y 169 (37 * k + (1 + 3 * w))) (y 169 (37 * k + (2 + 3 * w))) (y 169 (37 * k + (3 + 3 * w))) y g' := ⟨_, rfl⟩
    have dW := do_W (g := g') hF hs.2.1 b2 b1
    rw [← hA, ← hB] at st
    rw [← hB] at dW
    rw [← hA, ← hB]
    obtain ⟨s1, s2, ⟨l1, l2⟩, ⟨r1, r2, r3⟩⟩ := st
    rw [s1]
    by_cases t : B.1 = true
    · rw [if_pos t, if_pos t, xqb, xqb, t, iN_s]
      have x1 : x 43 1 = iN w := hs.2.2.1.trans h23
      have sd : SIT (ms A.2 43 1 (x 43 1 + 1)) (ms B.2 162 23 (iN (w + 1))) := sit_don s2 (by rw [x1, iN_s])
      obtain ⟨x2, y2, p1, p2, p3, p4, p5, p6, p7⟩ := ih f1 f2 (w + 1) _ _ (by omega) (by omega) (by omega) (by omega) sd (by rw [ms_e1]) (by rw [ms_c1 (by decide), r3 0 (by decide)]; exact b9) (wks_c hW (by rw [ms_c1 (by decide)]; exact l1 _ (by decide) (by decide)) (by rw [ms_c1 (by decide)]; exact l1 _ (by decide) (by decide)) (by rw [ms_c1 (by decide)]; exact l1 _ (by decide) (by decide)) (by rw [ms_c1 (by decide)]; exact r1 169 (by decide) (by decide))) (by rw [ms_c1 (by decide)]; exact dW)
      exact ⟨x2, y2, p1, p2, p3, fun c c1 c2 => by rw [p4 c c1 c2, ms_c1 c1, l1 c c1 c2], fun c c1 c2 => by rw [p5 c c1 c2, ms_c1 c1, r1 c c1 c2], by rw [p6, ms_c1 (by decide), r3 0 (by decide)], p7⟩
    · rw [if_neg t, if_neg t, xqb]
      have e0 : iN w + 0 = B.2 162 23 := by rw [Int32.add_zero, r2 23 (by decide) (by decide), h23]
      rw [e0, ms_self]
      exact ⟨A.2, B.2, rfl, rfl, s2, l1, r1, r3 0 (by decide), dW⟩
theorem ly_5_23 {u : MM} {g g' : GG} {k m : Nat} (hu : u 23 0 = iN m) (hk : k ≤ 12) : ∀ (r f1 f2 w : Nat) (x y : MM), m - w ≤ r → w ≤ m → r < f1 → r < f2 → SIT x y → y 162 23 = iN w → Bd 0 9 (y 172 0) → WKS x y 23 k m → HWF (y 172) → ∃ x2 y2, Fx_Si_lay_5_23X_L25 u g f1 (iN w) x = x2 ∧ Fx_M_layX_L102 (iN k) g' f2 1 y = (true, y2) ∧ SIT x2 y2 ∧ (∀ c, c ≠ 43 → c ≠ 45 → x2 c = x c) ∧ (∀ c, c ≠ 162 → c ≠ 172 → y2 c = y c) ∧ y2 172 0 = y 172 0 ∧ HWF (y2 172) := by
  intro r
  induction r with
  | zero =>
    intro f1 f2 w x y hr hw h1 h2 hs h23 b9 hW hF
    obtain ⟨f1, rfl⟩ : ∃ f, f1 = f + 1 := ⟨f1 - 1, by omega⟩
    obtain ⟨f2, rfl⟩ : ∃ f, f2 = f + 1 := ⟨f2 - 1, by omega⟩
    have e : w = m := by omega
    subst e
    refine ⟨x, y, ?_, ?_, hs, fun _ _ _ => rfl, fun _ _ _ => rfl, rfl, hF⟩
    · rw [Fx_Si_lay_5_23X_L25_s, hu, if_pos (Int32.le_refl _)]
    · rw [Fx_M_layX_L102_s, if_neg (by decide), xqb, wi_0 hk, hW.1, h23, if_pos (Int32.le_refl _)]
      rfl
  | succ r ih =>
    intro f1 f2 w x y hr hw h1 h2 hs h23 b9 hW hF
    obtain ⟨f1, rfl⟩ : ∃ f, f1 = f + 1 := ⟨f1 - 1, by omega⟩
    obtain ⟨f2, rfl⟩ : ∃ f, f2 = f + 1 := ⟨f2 - 1, by omega⟩
    have m12 := hW.2.1
    by_cases e : w = m
    · subst e
      refine ⟨x, y, ?_, ?_, hs, fun _ _ _ => rfl, fun _ _ _ => rfl, rfl, hF⟩
      · rw [Fx_Si_lay_5_23X_L25_s, hu, if_pos (Int32.le_refl _)]
      · rw [Fx_M_layX_L102_s, if_neg (by decide), xqb, wi_0 hk, hW.1, h23, if_pos (Int32.le_refl _)]
        rfl
    have nle : ¬ iN m ≤ iN w := fun q => by have := (iN_le (by omega) (by omega)).mp q; omega
    obtain ⟨a1, a2, a3⟩ := hW.2.2.1 w (by omega)
    obtain ⟨b1, b2⟩ := hW.2.2.2 w (by omega)
    have st := st_X (g := g) (g' := g') (kind := y 169 (37 * k + (1 + 3 * w))) (p := y 169 (37 * k + (2 + 3 * w))) (much := y 169 (37 * k + (3 + 3 * w))) hs b9 b2 b1
    rw [Fx_M_layX_L102_s, if_neg (show ¬ (1 : Int32) = 0 by decide), xqb, wi_0 hk, hW.1, h23, if_neg nle, xqb, xqb, xqb, wi_1 hk (by omega), wi_2 hk (by omega), wi_3 hk (by omega), xqc2]
    rw [Fx_Si_lay_5_23X_L25_s, hu, if_neg nle, iN_cl (by omega), xqb, xqb, xqb, a1, a2, a3, xqc2]
    obtain ⟨A, hA⟩ : ∃ A, A = Fx_Si_buildsX (y 169 (37 * k + (1 + 3 * w))) (y 169 (37 * k + (2 + 3 * w))) (y 169 (37 * k + (3 + 3 * w))) x g := ⟨_, rfl⟩
    obtain ⟨B, hB⟩ : ∃ B, B = Fx_M_doesX (y 169 (37 * k + (1 + 3 * w))) (y 169 (37 * k + (2 + 3 * w))) (y 169 (37 * k + (3 + 3 * w))) y g' := ⟨_, rfl⟩
    have dW := do_W (g := g') hF hs.2.1 b2 b1
    rw [← hA, ← hB] at st
    rw [← hB] at dW
    rw [← hA, ← hB]
    obtain ⟨s1, s2, ⟨l1, l2⟩, ⟨r1, r2, r3⟩⟩ := st
    rw [s1]
    by_cases t : B.1 = true
    · rw [if_pos t, if_pos t, xqb, xqb, t, iN_s]
      have x1 : x 43 1 = iN w := hs.2.2.1.trans h23
      have sd : SIT (ms A.2 43 1 (x 43 1 + 1)) (ms B.2 162 23 (iN (w + 1))) := sit_don s2 (by rw [x1, iN_s])
      obtain ⟨x2, y2, p1, p2, p3, p4, p5, p6, p7⟩ := ih f1 f2 (w + 1) _ _ (by omega) (by omega) (by omega) (by omega) sd (by rw [ms_e1]) (by rw [ms_c1 (by decide), r3 0 (by decide)]; exact b9) (wks_c hW (by rw [ms_c1 (by decide)]; exact l1 _ (by decide) (by decide)) (by rw [ms_c1 (by decide)]; exact l1 _ (by decide) (by decide)) (by rw [ms_c1 (by decide)]; exact l1 _ (by decide) (by decide)) (by rw [ms_c1 (by decide)]; exact r1 169 (by decide) (by decide))) (by rw [ms_c1 (by decide)]; exact dW)
      exact ⟨x2, y2, p1, p2, p3, fun c c1 c2 => by rw [p4 c c1 c2, ms_c1 c1, l1 c c1 c2], fun c c1 c2 => by rw [p5 c c1 c2, ms_c1 c1, r1 c c1 c2], by rw [p6, ms_c1 (by decide), r3 0 (by decide)], p7⟩
    · rw [if_neg t, if_neg t, xqb]
      have e0 : iN w + 0 = B.2 162 23 := by rw [Int32.add_zero, r2 23 (by decide) (by decide), h23]
      rw [e0, ms_self]
      exact ⟨A.2, B.2, rfl, rfl, s2, l1, r1, r3 0 (by decide), dW⟩
theorem ly_10_15 {u : MM} {g g' : GG} {k m : Nat} (hu : u 15 0 = iN m) (hk : k ≤ 12) : ∀ (r f1 f2 w : Nat) (x y : MM), m - w ≤ r → w ≤ m → r < f1 → r < f2 → SIT x y → y 162 23 = iN w → Bd 0 9 (y 172 0) → WKS x y 15 k m → HWF (y 172) → ∃ x2 y2, Fx_Si_lay_10_15X_L25 u g f1 (iN w) x = x2 ∧ Fx_M_layX_L102 (iN k) g' f2 1 y = (true, y2) ∧ SIT x2 y2 ∧ (∀ c, c ≠ 43 → c ≠ 45 → x2 c = x c) ∧ (∀ c, c ≠ 162 → c ≠ 172 → y2 c = y c) ∧ y2 172 0 = y 172 0 ∧ HWF (y2 172) := by
  intro r
  induction r with
  | zero =>
    intro f1 f2 w x y hr hw h1 h2 hs h23 b9 hW hF
    obtain ⟨f1, rfl⟩ : ∃ f, f1 = f + 1 := ⟨f1 - 1, by omega⟩
    obtain ⟨f2, rfl⟩ : ∃ f, f2 = f + 1 := ⟨f2 - 1, by omega⟩
    have e : w = m := by omega
    subst e
    refine ⟨x, y, ?_, ?_, hs, fun _ _ _ => rfl, fun _ _ _ => rfl, rfl, hF⟩
    · rw [Fx_Si_lay_10_15X_L25_s, hu, if_pos (Int32.le_refl _)]
    · rw [Fx_M_layX_L102_s, if_neg (by decide), xqb, wi_0 hk, hW.1, h23, if_pos (Int32.le_refl _)]
      rfl
  | succ r ih =>
    intro f1 f2 w x y hr hw h1 h2 hs h23 b9 hW hF
    obtain ⟨f1, rfl⟩ : ∃ f, f1 = f + 1 := ⟨f1 - 1, by omega⟩
    obtain ⟨f2, rfl⟩ : ∃ f, f2 = f + 1 := ⟨f2 - 1, by omega⟩
    have m12 := hW.2.1
    by_cases e : w = m
    · subst e
      refine ⟨x, y, ?_, ?_, hs, fun _ _ _ => rfl, fun _ _ _ => rfl, rfl, hF⟩
      · rw [Fx_Si_lay_10_15X_L25_s, hu, if_pos (Int32.le_refl _)]
      · rw [Fx_M_layX_L102_s, if_neg (by decide), xqb, wi_0 hk, hW.1, h23, if_pos (Int32.le_refl _)]
        rfl
    have nle : ¬ iN m ≤ iN w := fun q => by have := (iN_le (by omega) (by omega)).mp q; omega
    obtain ⟨a1, a2, a3⟩ := hW.2.2.1 w (by omega)
    obtain ⟨b1, b2⟩ := hW.2.2.2 w (by omega)
    have st := st_X (g := g) (g' := g') (kind := y 169 (37 * k + (1 + 3 * w))) (p := y 169 (37 * k + (2 + 3 * w))) (much := y 169 (37 * k + (3 + 3 * w))) hs b9 b2 b1
    rw [Fx_M_layX_L102_s, if_neg (show ¬ (1 : Int32) = 0 by decide), xqb, wi_0 hk, hW.1, h23, if_neg nle, xqb, xqb, xqb, wi_1 hk (by omega), wi_2 hk (by omega), wi_3 hk (by omega), xqc2]
    rw [Fx_Si_lay_10_15X_L25_s, hu, if_neg nle, iN_cl (by omega), xqb, xqb, xqb, a1, a2, a3, xqc2]
    obtain ⟨A, hA⟩ : ∃ A, A = Fx_Si_buildsX (y 169 (37 * k + (1 + 3 * w))) (y 169 (37 * k + (2 + 3 * w))) (y 169 (37 * k + (3 + 3 * w))) x g := ⟨_, rfl⟩
    obtain ⟨B, hB⟩ : ∃ B, B = Fx_M_doesX (y 169 (37 * k + (1 + 3 * w))) (y 169 (37 * k + (2 + 3 * w))) (y 169 (37 * k + (3 + 3 * w))) y g' := ⟨_, rfl⟩
    have dW := do_W (g := g') hF hs.2.1 b2 b1
    rw [← hA, ← hB] at st
    rw [← hB] at dW
    rw [← hA, ← hB]
    obtain ⟨s1, s2, ⟨l1, l2⟩, ⟨r1, r2, r3⟩⟩ := st
    rw [s1]
    by_cases t : B.1 = true
    · rw [if_pos t, if_pos t, xqb, xqb, t, iN_s]
      have x1 : x 43 1 = iN w := hs.2.2.1.trans h23
      have sd : SIT (ms A.2 43 1 (x 43 1 + 1)) (ms B.2 162 23 (iN (w + 1))) := sit_don s2 (by rw [x1, iN_s])
      obtain ⟨x2, y2, p1, p2, p3, p4, p5, p6, p7⟩ := ih f1 f2 (w + 1) _ _ (by omega) (by omega) (by omega) (by omega) sd (by rw [ms_e1]) (by rw [ms_c1 (by decide), r3 0 (by decide)]; exact b9) (wks_c hW (by rw [ms_c1 (by decide)]; exact l1 _ (by decide) (by decide)) (by rw [ms_c1 (by decide)]; exact l1 _ (by decide) (by decide)) (by rw [ms_c1 (by decide)]; exact l1 _ (by decide) (by decide)) (by rw [ms_c1 (by decide)]; exact r1 169 (by decide) (by decide))) (by rw [ms_c1 (by decide)]; exact dW)
      exact ⟨x2, y2, p1, p2, p3, fun c c1 c2 => by rw [p4 c c1 c2, ms_c1 c1, l1 c c1 c2], fun c c1 c2 => by rw [p5 c c1 c2, ms_c1 c1, r1 c c1 c2], by rw [p6, ms_c1 (by decide), r3 0 (by decide)], p7⟩
    · rw [if_neg t, if_neg t, xqb]
      have e0 : iN w + 0 = B.2 162 23 := by rw [Int32.add_zero, r2 23 (by decide) (by decide), h23]
      rw [e0, ms_self]
      exact ⟨A.2, B.2, rfl, rfl, s2, l1, r1, r3 0 (by decide), dW⟩
theorem ly_10_19 {u : MM} {g g' : GG} {k m : Nat} (hu : u 19 0 = iN m) (hk : k ≤ 12) : ∀ (r f1 f2 w : Nat) (x y : MM), m - w ≤ r → w ≤ m → r < f1 → r < f2 → SIT x y → y 162 23 = iN w → Bd 0 9 (y 172 0) → WKS x y 19 k m → HWF (y 172) → ∃ x2 y2, Fx_Si_lay_10_19X_L25 u g f1 (iN w) x = x2 ∧ Fx_M_layX_L102 (iN k) g' f2 1 y = (true, y2) ∧ SIT x2 y2 ∧ (∀ c, c ≠ 43 → c ≠ 45 → x2 c = x c) ∧ (∀ c, c ≠ 162 → c ≠ 172 → y2 c = y c) ∧ y2 172 0 = y 172 0 ∧ HWF (y2 172) := by
  intro r
  induction r with
  | zero =>
    intro f1 f2 w x y hr hw h1 h2 hs h23 b9 hW hF
    obtain ⟨f1, rfl⟩ : ∃ f, f1 = f + 1 := ⟨f1 - 1, by omega⟩
    obtain ⟨f2, rfl⟩ : ∃ f, f2 = f + 1 := ⟨f2 - 1, by omega⟩
    have e : w = m := by omega
    subst e
    refine ⟨x, y, ?_, ?_, hs, fun _ _ _ => rfl, fun _ _ _ => rfl, rfl, hF⟩
    · rw [Fx_Si_lay_10_19X_L25_s, hu, if_pos (Int32.le_refl _)]
    · rw [Fx_M_layX_L102_s, if_neg (by decide), xqb, wi_0 hk, hW.1, h23, if_pos (Int32.le_refl _)]
      rfl
  | succ r ih =>
    intro f1 f2 w x y hr hw h1 h2 hs h23 b9 hW hF
    obtain ⟨f1, rfl⟩ : ∃ f, f1 = f + 1 := ⟨f1 - 1, by omega⟩
    obtain ⟨f2, rfl⟩ : ∃ f, f2 = f + 1 := ⟨f2 - 1, by omega⟩
    have m12 := hW.2.1
    by_cases e : w = m
    · subst e
      refine ⟨x, y, ?_, ?_, hs, fun _ _ _ => rfl, fun _ _ _ => rfl, rfl, hF⟩
      · rw [Fx_Si_lay_10_19X_L25_s, hu, if_pos (Int32.le_refl _)]
      · rw [Fx_M_layX_L102_s, if_neg (by decide), xqb, wi_0 hk, hW.1, h23, if_pos (Int32.le_refl _)]
        rfl
    have nle : ¬ iN m ≤ iN w := fun q => by have := (iN_le (by omega) (by omega)).mp q; omega
    obtain ⟨a1, a2, a3⟩ := hW.2.2.1 w (by omega)
    obtain ⟨b1, b2⟩ := hW.2.2.2 w (by omega)
    have st := st_X (g := g) (g' := g') (kind := y 169 (37 * k + (1 + 3 * w))) (p := y 169 (37 * k + (2 + 3 * w))) (much := y 169 (37 * k + (3 + 3 * w))) hs b9 b2 b1
    rw [Fx_M_layX_L102_s, if_neg (show ¬ (1 : Int32) = 0 by decide), xqb, wi_0 hk, hW.1, h23, if_neg nle, xqb, xqb, xqb, wi_1 hk (by omega), wi_2 hk (by omega), wi_3 hk (by omega), xqc2]
    rw [Fx_Si_lay_10_19X_L25_s, hu, if_neg nle, iN_cl (by omega), xqb, xqb, xqb, a1, a2, a3, xqc2]
    obtain ⟨A, hA⟩ : ∃ A, A = Fx_Si_buildsX (y 169 (37 * k + (1 + 3 * w))) (y 169 (37 * k + (2 + 3 * w))) (y 169 (37 * k + (3 + 3 * w))) x g := ⟨_, rfl⟩
    obtain ⟨B, hB⟩ : ∃ B, B = Fx_M_doesX (y 169 (37 * k + (1 + 3 * w))) (y 169 (37 * k + (2 + 3 * w))) (y 169 (37 * k + (3 + 3 * w))) y g' := ⟨_, rfl⟩
    have dW := do_W (g := g') hF hs.2.1 b2 b1
    rw [← hA, ← hB] at st
    rw [← hB] at dW
    rw [← hA, ← hB]
    obtain ⟨s1, s2, ⟨l1, l2⟩, ⟨r1, r2, r3⟩⟩ := st
    rw [s1]
    by_cases t : B.1 = true
    · rw [if_pos t, if_pos t, xqb, xqb, t, iN_s]
      have x1 : x 43 1 = iN w := hs.2.2.1.trans h23
      have sd : SIT (ms A.2 43 1 (x 43 1 + 1)) (ms B.2 162 23 (iN (w + 1))) := sit_don s2 (by rw [x1, iN_s])
      obtain ⟨x2, y2, p1, p2, p3, p4, p5, p6, p7⟩ := ih f1 f2 (w + 1) _ _ (by omega) (by omega) (by omega) (by omega) sd (by rw [ms_e1]) (by rw [ms_c1 (by decide), r3 0 (by decide)]; exact b9) (wks_c hW (by rw [ms_c1 (by decide)]; exact l1 _ (by decide) (by decide)) (by rw [ms_c1 (by decide)]; exact l1 _ (by decide) (by decide)) (by rw [ms_c1 (by decide)]; exact l1 _ (by decide) (by decide)) (by rw [ms_c1 (by decide)]; exact r1 169 (by decide) (by decide))) (by rw [ms_c1 (by decide)]; exact dW)
      exact ⟨x2, y2, p1, p2, p3, fun c c1 c2 => by rw [p4 c c1 c2, ms_c1 c1, l1 c c1 c2], fun c c1 c2 => by rw [p5 c c1 c2, ms_c1 c1, r1 c c1 c2], by rw [p6, ms_c1 (by decide), r3 0 (by decide)], p7⟩
    · rw [if_neg t, if_neg t, xqb]
      have e0 : iN w + 0 = B.2 162 23 := by rw [Int32.add_zero, r2 23 (by decide) (by decide), h23]
      rw [e0, ms_self]
      exact ⟨A.2, B.2, rfl, rfl, s2, l1, r1, r3 0 (by decide), dW⟩
theorem ly_10_23 {u : MM} {g g' : GG} {k m : Nat} (hu : u 23 0 = iN m) (hk : k ≤ 12) : ∀ (r f1 f2 w : Nat) (x y : MM), m - w ≤ r → w ≤ m → r < f1 → r < f2 → SIT x y → y 162 23 = iN w → Bd 0 9 (y 172 0) → WKS x y 23 k m → HWF (y 172) → ∃ x2 y2, Fx_Si_lay_10_23X_L25 u g f1 (iN w) x = x2 ∧ Fx_M_layX_L102 (iN k) g' f2 1 y = (true, y2) ∧ SIT x2 y2 ∧ (∀ c, c ≠ 43 → c ≠ 45 → x2 c = x c) ∧ (∀ c, c ≠ 162 → c ≠ 172 → y2 c = y c) ∧ y2 172 0 = y 172 0 ∧ HWF (y2 172) := by
  intro r
  induction r with
  | zero =>
    intro f1 f2 w x y hr hw h1 h2 hs h23 b9 hW hF
    obtain ⟨f1, rfl⟩ : ∃ f, f1 = f + 1 := ⟨f1 - 1, by omega⟩
    obtain ⟨f2, rfl⟩ : ∃ f, f2 = f + 1 := ⟨f2 - 1, by omega⟩
    have e : w = m := by omega
    subst e
    refine ⟨x, y, ?_, ?_, hs, fun _ _ _ => rfl, fun _ _ _ => rfl, rfl, hF⟩
    · rw [Fx_Si_lay_10_23X_L25_s, hu, if_pos (Int32.le_refl _)]
    · rw [Fx_M_layX_L102_s, if_neg (by decide), xqb, wi_0 hk, hW.1, h23, if_pos (Int32.le_refl _)]
      rfl
  | succ r ih =>
    intro f1 f2 w x y hr hw h1 h2 hs h23 b9 hW hF
    obtain ⟨f1, rfl⟩ : ∃ f, f1 = f + 1 := ⟨f1 - 1, by omega⟩
    obtain ⟨f2, rfl⟩ : ∃ f, f2 = f + 1 := ⟨f2 - 1, by omega⟩
    have m12 := hW.2.1
    by_cases e : w = m
    · subst e
      refine ⟨x, y, ?_, ?_, hs, fun _ _ _ => rfl, fun _ _ _ => rfl, rfl, hF⟩
      · rw [Fx_Si_lay_10_23X_L25_s, hu, if_pos (Int32.le_refl _)]
      · rw [Fx_M_layX_L102_s, if_neg (by decide), xqb, wi_0 hk, hW.1, h23, if_pos (Int32.le_refl _)]
        rfl
    have nle : ¬ iN m ≤ iN w := fun q => by have := (iN_le (by omega) (by omega)).mp q; omega
    obtain ⟨a1, a2, a3⟩ := hW.2.2.1 w (by omega)
    obtain ⟨b1, b2⟩ := hW.2.2.2 w (by omega)
    have st := st_X (g := g) (g' := g') (kind := y 169 (37 * k + (1 + 3 * w))) (p := y 169 (37 * k + (2 + 3 * w))) (much := y 169 (37 * k + (3 + 3 * w))) hs b9 b2 b1
    rw [Fx_M_layX_L102_s, if_neg (show ¬ (1 : Int32) = 0 by decide), xqb, wi_0 hk, hW.1, h23, if_neg nle, xqb, xqb, xqb, wi_1 hk (by omega), wi_2 hk (by omega), wi_3 hk (by omega), xqc2]
    rw [Fx_Si_lay_10_23X_L25_s, hu, if_neg nle, iN_cl (by omega), xqb, xqb, xqb, a1, a2, a3, xqc2]
    obtain ⟨A, hA⟩ : ∃ A, A = Fx_Si_buildsX (y 169 (37 * k + (1 + 3 * w))) (y 169 (37 * k + (2 + 3 * w))) (y 169 (37 * k + (3 + 3 * w))) x g := ⟨_, rfl⟩
    obtain ⟨B, hB⟩ : ∃ B, B = Fx_M_doesX (y 169 (37 * k + (1 + 3 * w))) (y 169 (37 * k + (2 + 3 * w))) (y 169 (37 * k + (3 + 3 * w))) y g' := ⟨_, rfl⟩
    have dW := do_W (g := g') hF hs.2.1 b2 b1
    rw [← hA, ← hB] at st
    rw [← hB] at dW
    rw [← hA, ← hB]
    obtain ⟨s1, s2, ⟨l1, l2⟩, ⟨r1, r2, r3⟩⟩ := st
    rw [s1]
    by_cases t : B.1 = true
    · rw [if_pos t, if_pos t, xqb, xqb, t, iN_s]
      have x1 : x 43 1 = iN w := hs.2.2.1.trans h23
      have sd : SIT (ms A.2 43 1 (x 43 1 + 1)) (ms B.2 162 23 (iN (w + 1))) := sit_don s2 (by rw [x1, iN_s])
      obtain ⟨x2, y2, p1, p2, p3, p4, p5, p6, p7⟩ := ih f1 f2 (w + 1) _ _ (by omega) (by omega) (by omega) (by omega) sd (by rw [ms_e1]) (by rw [ms_c1 (by decide), r3 0 (by decide)]; exact b9) (wks_c hW (by rw [ms_c1 (by decide)]; exact l1 _ (by decide) (by decide)) (by rw [ms_c1 (by decide)]; exact l1 _ (by decide) (by decide)) (by rw [ms_c1 (by decide)]; exact l1 _ (by decide) (by decide)) (by rw [ms_c1 (by decide)]; exact r1 169 (by decide) (by decide))) (by rw [ms_c1 (by decide)]; exact dW)
      exact ⟨x2, y2, p1, p2, p3, fun c c1 c2 => by rw [p4 c c1 c2, ms_c1 c1, l1 c c1 c2], fun c c1 c2 => by rw [p5 c c1 c2, ms_c1 c1, r1 c c1 c2], by rw [p6, ms_c1 (by decide), r3 0 (by decide)], p7⟩
    · rw [if_neg t, if_neg t, xqb]
      have e0 : iN w + 0 = B.2 162 23 := by rw [Int32.add_zero, r2 23 (by decide) (by decide), h23]
      rw [e0, ms_self]
      exact ⟨A.2, B.2, rfl, rfl, s2, l1, r1, r3 0 (by decide), dW⟩
end
section
/-! a plan laid on a hill, on both sides; pond -/
/-- what the reference's lay sets behind the row -/
def finL (x : MM) : MM := ms (ms (ms (ms (ms (ms x 162 22 (x 172 0)) 162 23 0) 162 24 0) 162 25 0) 162 26 (-1)) 162 27 0
theorem fin_c {x : MM} {c : Nat} (h : c ≠ 162) : finL x c = x c := by
  unfold finL
  rw [ms_c1 h, ms_c1 h, ms_c1 h, ms_c1 h, ms_c1 h, ms_c1 h]
theorem lc_a {h : Nat} (hh : h ≤ 3) : ∀ (n i : Nat) (w : MM), 157 - i < n → i ≤ 157 → ∃ x, Fx_M_layX_L25 (iN h) (-1) n (iN i) w = (true, finL x) ∧ (∀ c, c ≠ 172 → x c = w c) ∧ ∀ j, x 172 j = if i ≤ j ∧ j < 157 then w 168 (157 * h + j) else w 172 j := by
  intro n
  induction n with
  | zero => intro i w q; omega
  | succ n ih =>
    intro i w q hi
    rw [Fx_M_layX_L25_s]
    by_cases c : 157 ≤ i
    · rw [if_pos (show (157 : Int32) ≤ iN i from (iN_le (a := 157) (by omega) (by omega)).mpr c), xqb, xqb, xqb, xqb, xqb, xqb, if_pos rfl]
      refine ⟨w, rfl, fun _ _ => rfl, fun j => ?_⟩
      rw [if_neg (by omega)]
    · rw [if_neg (show ¬ (157 : Int32) ≤ iN i from fun q => c ((iN_le (a := 157) (by omega) (by omega)).mp q)), iN_s, xqb, xqb]
      have q1 : (((157 : Int32) * iN h) + iN i).toNatClampNeg = 157 * h + i := fr_ix (N := 157) hh (by omega) (by omega)
      rw [q1, iN_cl (by omega)]
      obtain ⟨x, x1, x2, x3⟩ := ih (i + 1) (ms w 172 i (w 168 (157 * h + i))) (by omega) (by omega)
      refine ⟨x, x1, fun c hc => (x2 c hc).trans (ms_c1 hc), fun j => ?_⟩
      rw [x3 j, ms_c1 (by decide)]
      by_cases z : j = i
      · rw [if_neg (by omega), z, ms_e1, if_pos (by omega)]
      · rw [ms_i1 z]
        by_cases z2 : i ≤ j ∧ j < 157
        · rw [if_pos (by omega), if_pos z2]
        · rw [if_neg (by omega), if_neg z2]
theorem lc_b {h : Nat} {plan : Int32} {g : GG} (hh : h ≤ 3) (hp : ¬ plan = -1) : ∀ (n i : Nat) (w : MM), 157 - i < n → i ≤ 157 → ∃ x, Fx_M_layX_L25b (iN h) plan g n (iN i) w = Fx_M_layX_L102 plan g 13 1 (finL x) ∧ (∀ c, c ≠ 172 → x c = w c) ∧ ∀ j, x 172 j = if i ≤ j ∧ j < 157 then w 168 (157 * h + j) else w 172 j := by
  intro n
  induction n with
  | zero => intro i w q; omega
  | succ n ih =>
    intro i w q hi
    rw [Fx_M_layX_L25b_s]
    by_cases c : 157 ≤ i
    · rw [if_pos (show (157 : Int32) ≤ iN i from (iN_le (a := 157) (by omega) (by omega)).mpr c), xqb, xqb, xqb, xqb, xqb, xqb, if_neg hp]
      refine ⟨w, ?_, fun _ _ => rfl, fun j => ?_⟩
      · have e : (finL w) 162 23 = 0 := rfl
        have e2 : (12 - (finL w 162 23).toInt).toNat + 1 = 13 := by rw [e]; rfl
        show Fx_M_layX_L102 plan g ((12 - (finL w 162 23).toInt).toNat + 1) 1 (finL w) = _
        rw [e2]
      · rw [if_neg (by omega)]
    · rw [if_neg (show ¬ (157 : Int32) ≤ iN i from fun q => c ((iN_le (a := 157) (by omega) (by omega)).mp q)), iN_s, xqb, xqb]
      have q1 : (((157 : Int32) * iN h) + iN i).toNatClampNeg = 157 * h + i := fr_ix (N := 157) hh (by omega) (by omega)
      rw [q1, iN_cl (by omega)]
      obtain ⟨x, x1, x2, x3⟩ := ih (i + 1) (ms w 172 i (w 168 (157 * h + i))) (by omega) (by omega)
      refine ⟨x, x1, fun c hc => (x2 c hc).trans (ms_c1 hc), fun j => ?_⟩
      rw [x3 j, ms_c1 (by decide)]
      by_cases z : j = i
      · rw [if_neg (by omega), z, ms_e1, if_pos (by omega)]
      · rw [ms_i1 z]
        by_cases z2 : i ≤ j ∧ j < 157
        · rw [if_pos (by omega), if_pos z2]
        · rw [if_neg (by omega), if_neg z2]
/-- the class's ground at the start -/
def sit0 (c : MM) : MM := ms (ms (ms c 43 1 0) 43 2 0) 43 3 0
theorem sit0_c {x : MM} {c : Nat} (h : c ≠ 43) : sit0 x c = x c := by
  unfold sit0
  rw [ms_c1 h, ms_c1 h, ms_c1 h]
theorem sit_0 {u v c x : MM} {t k : Nat} (h : HRW u v t 0 k) (hc : HCP c u 44 t) (hx : ∀ j, j < 157 → x 172 j = v 168 (157 * k + j)) : SIT (sit0 c) (finL x) := by
  obtain ⟨h0, h1, h2, h3, h4⟩ := h
  obtain ⟨c0, c1, c2, c3, c4, c5⟩ := hc
  have R : ∀ {o : Nat}, v 168 (314 * 0 + (157 * k + o)) = v 168 (157 * k + o) := fun {o} => congrArg (v 168) (by omega)
  have x0 := hx 0 (by decide)
  have x1 := hx 1 (by decide)
  refine ⟨⟨?_, ?_, fun i hi => ?_, fun i hi hl => ?_, fun p d hp hd hl => ?_⟩, rfl, rfl, rfl, rfl, rfl, rfl⟩
  · rw [sit0_c (by decide), fin_c (by decide), c0, h0, x0]; exact R
  · rw [sit0_c (by decide), fin_c (by decide), c1, h1, x1]; exact R
  · rw [sit0_c (by decide), fin_c (by decide), hx _ (by omega)]
    exact (c5 i hi).trans ((h2 i hi).trans R)
  · rw [fin_c (by decide), x1, ← R] at hl
    obtain ⟨a, b⟩ := h3 i hi hl
    rw [sit0_c (by decide), sit0_c (by decide), fin_c (by decide), hx _ (by omega), hx _ (by omega)]
    exact ⟨(c3 i hi).trans (a.trans R), (c4 i hi).trans (b.trans R)⟩
  · rw [fin_c (by decide), x0, ← R] at hl
    rw [sit0_c (by decide), fin_c (by decide), hx _ (by omega)]
    exact (c2 (16 * p + d) (by omega)).trans ((h4 p d hp hd hl).trans R)
theorem lz_5 {u : MM} {g : GG} (h : u 49 0 = 0) : Fx_Si_lay_5_49X u g = sit0 (Fx_H_copyBX 44 5 u g) := by
  unfold Fx_Si_lay_5_49X
  rw [xqb, xqb, xqb, xqb]
  have e : (12 - (0 : Int32).toInt).toNat + 1 = 12 + 1 := by decide
  rw [e, Fx_Si_lay_5_49X_L25_s, h, if_pos (by decide)]
  rfl
theorem lz_10 {u : MM} {g : GG} (h : u 49 0 = 0) : Fx_Si_lay_10_49X u g = sit0 (Fx_H_copyBX 44 10 u g) := by
  unfold Fx_Si_lay_10_49X
  rw [xqb, xqb, xqb, xqb]
  have e : (12 - (0 : Int32).toInt).toNat + 1 = 12 + 1 := by decide
  rw [e, Fx_Si_lay_10_49X_L25_s, h, if_pos (by decide)]
  rfl
theorem lz_5_15 {u : MM} {g : GG} : Fx_Si_lay_5_15X u g = Fx_Si_lay_5_15X_L25 u g 13 (iN 0) (sit0 (Fx_H_copyBX 44 5 u g)) := by
  unfold Fx_Si_lay_5_15X
  rw [xqb, xqb, xqb, xqb]
  have e : (12 - (0 : Int32).toInt).toNat + 1 = 13 := by decide
  rw [e]
  rfl
theorem lz_5_19 {u : MM} {g : GG} : Fx_Si_lay_5_19X u g = Fx_Si_lay_5_19X_L25 u g 13 (iN 0) (sit0 (Fx_H_copyBX 44 5 u g)) := by
  unfold Fx_Si_lay_5_19X
  rw [xqb, xqb, xqb, xqb]
  have e : (12 - (0 : Int32).toInt).toNat + 1 = 13 := by decide
  rw [e]
  rfl
theorem lz_5_23 {u : MM} {g : GG} : Fx_Si_lay_5_23X u g = Fx_Si_lay_5_23X_L25 u g 13 (iN 0) (sit0 (Fx_H_copyBX 44 5 u g)) := by
  unfold Fx_Si_lay_5_23X
  rw [xqb, xqb, xqb, xqb]
  have e : (12 - (0 : Int32).toInt).toNat + 1 = 13 := by decide
  rw [e]
  rfl
theorem lz_10_15 {u : MM} {g : GG} : Fx_Si_lay_10_15X u g = Fx_Si_lay_10_15X_L25 u g 13 (iN 0) (sit0 (Fx_H_copyBX 44 10 u g)) := by
  unfold Fx_Si_lay_10_15X
  rw [xqb, xqb, xqb, xqb]
  have e : (12 - (0 : Int32).toInt).toNat + 1 = 13 := by decide
  rw [e]
  rfl
theorem lz_10_19 {u : MM} {g : GG} : Fx_Si_lay_10_19X u g = Fx_Si_lay_10_19X_L25 u g 13 (iN 0) (sit0 (Fx_H_copyBX 44 10 u g)) := by
  unfold Fx_Si_lay_10_19X
  rw [xqb, xqb, xqb, xqb]
  have e : (12 - (0 : Int32).toInt).toNat + 1 = 13 := by decide
  rw [e]
  rfl
theorem lz_10_23 {u : MM} {g : GG} : Fx_Si_lay_10_23X u g = Fx_Si_lay_10_23X_L25 u g 13 (iN 0) (sit0 (Fx_H_copyBX 44 10 u g)) := by
  unfold Fx_Si_lay_10_23X
  rw [xqb, xqb, xqb, xqb]
  have e : (12 - (0 : Int32).toInt).toNat + 1 = 13 := by decide
  rw [e]
  rfl
/-- a plan laid on a hill: both say the same, and what lies there is the same -/
theorem lay_X {u v : MM} {g g' : GG} {hill plan : Int32} (h : RLX u v) (b5 : Bd 0 2 (u 1 5)) (b7 : Bd 0 3 (u 1 7)) (hd : HD v) (pl : PL v) (wf : WFA v) (h49 : u 49 0 = 0) : (Fx_P_laysX hill plan u g).1 = (Fx_M_layX hill plan v g').1 ∧ ((Fx_P_laysX hill plan u g).1 = true → SIT (Fx_P_laysX hill plan u g).2 (Fx_M_layX hill plan v g').2 ∧ HWF ((Fx_M_layX hill plan v g').2 172)) := by
  obtain ⟨t0, t1, t2, t3, t5, t7, th, tw⟩ := h.1
  obtain ⟨n, hn, n2⟩ := iN_ex (hi := 2) b5
  obtain ⟨n', hn', n3⟩ := iN_ex (hi := 3) b7
  have v5 : v 167 0 = iN n := t5.symm.trans hn
  have v7 : v 167 1 = iN n' := t7.symm.trans hn'
  have no : ∀ {a : Bool × MM} {b : Bool × MM}, a.1 = false → b.1 = false → a.1 = b.1 ∧ (a.1 = true → SIT a.2 b.2 ∧ HWF (b.2 172)) := fun ha hb => ⟨ha.trans hb.symm, fun q => by rw [ha] at q; exact absurd q (by decide)⟩
  unfold Fx_P_laysX Fx_M_layX
  rw [xqb (x := Fx_T_hasHillX hill u g), xqb (x := Fx_M_isHillX hill v g'), ih_X, v5]
  rcases nb_cl (x := hill) (c := u 1 5) hn (by omega) with ⟨k, k1, k2, k3, k4, k5⟩ | ⟨k3, k5⟩
  rotate_left
  · rw [hn] at k5
    rw [hs_f k3, if_neg (by decide), if_neg k5]
    exact no rfl rfl
  rw [hn] at k5
  rw [hs_t k3 k4, if_pos rfl, if_pos k5]
  have hr := th k (by omega) (by rw [hn, iN_ti (by omega)]; omega)
  have bk : Bd 0 9 (v 168 (157 * k)) := (hd k (by omega)).1
  have f158 : (157 - (0 : Int32).toInt).toNat + 1 = 158 := by decide
  have hw := wf 0 (by decide) k (by omega) (show k < (v 167 0).toInt.toNat by rw [v5, iN_ti (by omega)]; omega)
  by_cases p1 : plan = -1
  · rw [if_pos p1, if_pos p1, if_pos p1, if_pos p1, f158, k2, p1]
    obtain ⟨x, x1, x2, x3⟩ := lc_a (h := k) (by omega) 158 0 v (by omega) (by omega)
    have x1' : Fx_M_layX_L25 (iN k) (-1) 158 0 v = (true, finL x) := x1
    rw [x1']
    have hx : ∀ j, j < 157 → x 172 j = v 168 (157 * k + j) := fun j hj => by rw [x3 j, if_pos (by omega)]
    have hF : HWF (finL x 172) := hwf_c (fun j hj => by rw [fin_c (by decide), hx j hj]; exact congrArg (v 168) (by omega)) hw
    rcases (show k = 0 ∨ k = 1 by omega) with q | q <;> subst q
    · rw [if_pos (by decide), xqb, lz_5 h49]
      exact ⟨rfl, fun _ => ⟨sit_0 hr (hcB (u := u) (g := g) (t := 44) (f := 5) (by omega)).1 hx, hF⟩⟩
    · rw [if_neg (by decide), xqb, lz_10 h49]
      exact ⟨rfl, fun _ => ⟨sit_0 hr (hcB (u := u) (g := g) (t := 44) (f := 10) (by omega)).1 hx, hF⟩⟩
  simp only [if_neg p1]
  rw [xqb (x := Fx_T_hasPlanX plan u g), xqb (x := Fx_M_isPlanX plan v g'), ip_X, v7]
  rcases nb_cl (x := plan) (c := u 1 7) hn' (by omega) with ⟨j, j1, j2, j3, j4, j5⟩ | ⟨j3, j5⟩
  rotate_left
  · rw [hn'] at j5
    rw [ps_f j3, if_neg (by decide), if_neg j5]
    exact no rfl rfl
  rw [hn'] at j5
  rw [ps_t j3 j4, if_pos rfl, if_pos j5, f158, k2]
  obtain ⟨x, x1, x2, x3⟩ := lc_b (h := k) (plan := plan) (g := g') (by omega) p1 158 0 v (by omega) (by omega)
  have x1' : Fx_M_layX_L25b (iN k) plan g' 158 0 v = Fx_M_layX_L102 plan g' 13 1 (finL x) := x1
  rw [x1', j2]
  have hx : ∀ j, j < 157 → x 172 j = v 168 (157 * k + j) := fun j hj => by rw [x3 j, if_pos (by omega)]
  have b9 : Bd 0 9 (finL x 172 0) := by rw [fin_c (by decide), hx 0 (by decide)]; exact bk
  have hF : HWF (finL x 172) := hwf_c (fun j hj => by rw [fin_c (by decide), hx j hj]; exact congrArg (v 168) (by omega)) hw
  have x9 : finL x 169 = v 169 := by rw [fin_c (by decide), x2 169 (by decide)]
  have f23 : finL x 162 23 = iN 0 := rfl
  obtain ⟨w0, w1⟩ := tw j (by omega) (by rw [hn', iN_ti (by omega)]; omega)
  have bm := pl j (by omega)
  obtain ⟨m, hm, m12⟩ := iN_ex (hi := 12) bm.1
  have R : ∀ {o : Nat}, v 169 (111 * 0 + (37 * j + o)) = v 169 (37 * j + o) := fun {o} => congrArg (v 169) (by omega)
  have um : u (15 + 4 * j) 0 = iN m := w0.trans (R.trans hm)
  have wk : ∀ i, i < m → u (15 + 4 * j + 1) i = v 169 (37 * j + (1 + 3 * i)) ∧ u (15 + 4 * j + 2) i = v 169 (37 * j + (2 + 3 * i)) ∧ u (15 + 4 * j + 3) i = v 169 (37 * j + (3 + 3 * i)) := by
    intro i hi
    obtain ⟨a, b, d⟩ := w1 i (by omega) (by rw [show v 169 (111 * 0 + (37 * j + 0)) = iN m from R.trans hm, iN_ti (by omega)]; omega)
    exact ⟨a.trans R, b.trans R, d.trans R⟩
  rcases (show k = 0 ∨ k = 1 by omega) with q | q <;> subst q
  · rcases (show j = 0 ∨ j = 1 ∨ j = 2 by omega) with y | y | y <;> subst y
    · rw [if_pos (show iN 0 = 0 by decide)]
      rw [if_pos (by decide)]
      have hc := hcB (u := u) (g := g) (t := 44) (f := 5) (by omega)
      have W1 : WKS (sit0 (Fx_H_copyBX 44 5 u g)) (finL x) 15 0 m := by
        refine ⟨by rw [x9]; exact hm, m12, fun i hi => ?_, fun i hi => by rw [x9]; exact bm.2 i hi⟩
        rw [x9, sit0_c (by decide), sit0_c (by decide), sit0_c (by decide), hc.2 _ (by decide), hc.2 _ (by decide), hc.2 _ (by decide)]
        exact wk i hi
      obtain ⟨x2', y2, e1, e2, e3, e4, e5, e6, e7⟩ := ly_5_15 (u := u) (g := g) (g' := g') (k := 0) (m := m) um (by omega) m 13 13 0 (sit0 (Fx_H_copyBX 44 5 u g)) (finL x) (by omega) (by omega) (by omega) (by omega) (sit_0 hr hc.1 hx) f23 b9 W1 hF
      rw [xqb, lz_5_15, e1, show Fx_M_layX_L102 (iN 0) g' 13 1 (finL x) = (true, y2) from e2]
      exact ⟨rfl, fun _ => ⟨e3, e7⟩⟩
    · rw [if_pos (show iN 0 = 0 by decide)]
      rw [if_neg (by decide), if_pos (by decide)]
      have hc := hcB (u := u) (g := g) (t := 44) (f := 5) (by omega)
      have W1 : WKS (sit0 (Fx_H_copyBX 44 5 u g)) (finL x) 19 1 m := by
        refine ⟨by rw [x9]; exact hm, m12, fun i hi => ?_, fun i hi => by rw [x9]; exact bm.2 i hi⟩
        rw [x9, sit0_c (by decide), sit0_c (by decide), sit0_c (by decide), hc.2 _ (by decide), hc.2 _ (by decide), hc.2 _ (by decide)]
        exact wk i hi
      obtain ⟨x2', y2, e1, e2, e3, e4, e5, e6, e7⟩ := ly_5_19 (u := u) (g := g) (g' := g') (k := 1) (m := m) um (by omega) m 13 13 0 (sit0 (Fx_H_copyBX 44 5 u g)) (finL x) (by omega) (by omega) (by omega) (by omega) (sit_0 hr hc.1 hx) f23 b9 W1 hF
      rw [xqb, lz_5_19, e1, show Fx_M_layX_L102 (iN 1) g' 13 1 (finL x) = (true, y2) from e2]
      exact ⟨rfl, fun _ => ⟨e3, e7⟩⟩
    · rw [if_pos (show iN 0 = 0 by decide)]
      rw [if_neg (by decide), if_neg (by decide)]
      have hc := hcB (u := u) (g := g) (t := 44) (f := 5) (by omega)
      have W1 : WKS (sit0 (Fx_H_copyBX 44 5 u g)) (finL x) 23 2 m := by
        refine ⟨by rw [x9]; exact hm, m12, fun i hi => ?_, fun i hi => by rw [x9]; exact bm.2 i hi⟩
        rw [x9, sit0_c (by decide), sit0_c (by decide), sit0_c (by decide), hc.2 _ (by decide), hc.2 _ (by decide), hc.2 _ (by decide)]
        exact wk i hi
      obtain ⟨x2', y2, e1, e2, e3, e4, e5, e6, e7⟩ := ly_5_23 (u := u) (g := g) (g' := g') (k := 2) (m := m) um (by omega) m 13 13 0 (sit0 (Fx_H_copyBX 44 5 u g)) (finL x) (by omega) (by omega) (by omega) (by omega) (sit_0 hr hc.1 hx) f23 b9 W1 hF
      rw [xqb, lz_5_23, e1, show Fx_M_layX_L102 (iN 2) g' 13 1 (finL x) = (true, y2) from e2]
      exact ⟨rfl, fun _ => ⟨e3, e7⟩⟩
  · rcases (show j = 0 ∨ j = 1 ∨ j = 2 by omega) with y | y | y <;> subst y
    · rw [if_neg (show ¬ iN 1 = 0 by decide)]
      rw [if_pos (by decide)]
      have hc := hcB (u := u) (g := g) (t := 44) (f := 10) (by omega)
      have W1 : WKS (sit0 (Fx_H_copyBX 44 10 u g)) (finL x) 15 0 m := by
        refine ⟨by rw [x9]; exact hm, m12, fun i hi => ?_, fun i hi => by rw [x9]; exact bm.2 i hi⟩
        rw [x9, sit0_c (by decide), sit0_c (by decide), sit0_c (by decide), hc.2 _ (by decide), hc.2 _ (by decide), hc.2 _ (by decide)]
        exact wk i hi
      obtain ⟨x2', y2, e1, e2, e3, e4, e5, e6, e7⟩ := ly_10_15 (u := u) (g := g) (g' := g') (k := 0) (m := m) um (by omega) m 13 13 0 (sit0 (Fx_H_copyBX 44 10 u g)) (finL x) (by omega) (by omega) (by omega) (by omega) (sit_0 hr hc.1 hx) f23 b9 W1 hF
      rw [xqb, lz_10_15, e1, show Fx_M_layX_L102 (iN 0) g' 13 1 (finL x) = (true, y2) from e2]
      exact ⟨rfl, fun _ => ⟨e3, e7⟩⟩
    · rw [if_neg (show ¬ iN 1 = 0 by decide)]
      rw [if_neg (by decide), if_pos (by decide)]
      have hc := hcB (u := u) (g := g) (t := 44) (f := 10) (by omega)
      have W1 : WKS (sit0 (Fx_H_copyBX 44 10 u g)) (finL x) 19 1 m := by
        refine ⟨by rw [x9]; exact hm, m12, fun i hi => ?_, fun i hi => by rw [x9]; exact bm.2 i hi⟩
        rw [x9, sit0_c (by decide), sit0_c (by decide), sit0_c (by decide), hc.2 _ (by decide), hc.2 _ (by decide), hc.2 _ (by decide)]
        exact wk i hi
      obtain ⟨x2', y2, e1, e2, e3, e4, e5, e6, e7⟩ := ly_10_19 (u := u) (g := g) (g' := g') (k := 1) (m := m) um (by omega) m 13 13 0 (sit0 (Fx_H_copyBX 44 10 u g)) (finL x) (by omega) (by omega) (by omega) (by omega) (sit_0 hr hc.1 hx) f23 b9 W1 hF
      rw [xqb, lz_10_19, e1, show Fx_M_layX_L102 (iN 1) g' 13 1 (finL x) = (true, y2) from e2]
      exact ⟨rfl, fun _ => ⟨e3, e7⟩⟩
    · rw [if_neg (show ¬ iN 1 = 0 by decide)]
      rw [if_neg (by decide), if_neg (by decide)]
      have hc := hcB (u := u) (g := g) (t := 44) (f := 10) (by omega)
      have W1 : WKS (sit0 (Fx_H_copyBX 44 10 u g)) (finL x) 23 2 m := by
        refine ⟨by rw [x9]; exact hm, m12, fun i hi => ?_, fun i hi => by rw [x9]; exact bm.2 i hi⟩
        rw [x9, sit0_c (by decide), sit0_c (by decide), sit0_c (by decide), hc.2 _ (by decide), hc.2 _ (by decide), hc.2 _ (by decide)]
        exact wk i hi
      obtain ⟨x2', y2, e1, e2, e3, e4, e5, e6, e7⟩ := ly_10_23 (u := u) (g := g) (g' := g') (k := 2) (m := m) um (by omega) m 13 13 0 (sit0 (Fx_H_copyBX 44 10 u g)) (finL x) (by omega) (by omega) (by omega) (by omega) (sit_0 hr hc.1 hx) f23 b9 W1 hF
      rw [xqb, lz_10_23, e1, show Fx_M_layX_L102 (iN 2) g' 13 1 (finL x) = (true, y2) from e2]
      exact ⟨rfl, fun _ => ⟨e3, e7⟩⟩
end
section
/-! a storm, pond by pond: what it is, and what the class does -/
/-- pond q is in the set -/
def inB (s : Int32) (q : Nat) : Bool := decide (((s >>> (iN q &&& 31)) &&& 1) = 1)
def bt (p : Nat) : Int32 := 1 <<< (iN p &&& 31)
theorem isI {s : Int32} {q : Nat} {u : MM} {g : GG} : Fx_isInX s (iN q) u g = inB s q := by
  unfold Fx_isInX inB
  by_cases h : ((s >>> (iN q &&& 31)) &&& 1) = 1
  · rw [if_pos h, decide_eq_true h]
  · rw [if_neg h, decide_eq_false h]
theorem b9I {p : Nat} {u : MM} {g : GG} (hp : p ≤ 1000) : Fx_bit9X (iN p) u g = bt p := by
  unfold Fx_bit9X bt
  rw [if_pos (show (0 : Int32) ≤ iN p from (iN_le (a := 0) (by omega) (by omega)).mpr (Nat.zero_le _))]
/-- is there such a pond -/
def hasB (n : Nat) (x : Int32) : Bool := if x < 0 then false else if iN n ≤ x then false else true
def HRS (A : Nat → Nat → Int32) (w : Int32) (p : Nat) : Prop := ¬ A p 12 = -1 ∧ ∃ q, q < p ∧ inB w q = true ∧ (A q 8 = iN p ∨ A q 9 = iN p) ∧ ¬ A q 11 < A p 12
noncomputable def hrB (A : Nat → Nat → Int32) (w : Int32) (p : Nat) : Bool := @decide (HRS A w p) (Classical.propDecidable _)
def wat (A : Nat → Nat → Int32) (st : Int32) (h : Bool) (p : Nat) (c : Int32) : Int32 := c + (st * A p 2 + (if h = true then 0 else A p 1))
def gos (A : Nat → Nat → Int32) (bk kp : Int32) (p : Nat) (w : Int32) : Bool := if iN p = kp then false else if A p 15 = 1 then false else if inB bk p = true then true else if w - A p 0 ≤ A p 3 then false else true
def lef (A : Nat → Nat → Int32) (kp : Int32) (h go : Bool) (p : Nat) (w : Int32) : Int32 := (if iN p = kp then 0 else if go = true then w else if A p 15 = 1 then w else if 0 < w - A p 0 then w - A p 0 else 0) + (if h = true then A p 1 else 0)
def trn (A : Nat → Nat → Int32) (n p : Nat) (l : Int32) : Int32 := if hasB n (A p 9) = true then (l * A p 10) / 10 else 0
def pA (A : Nat → Nat → Int32) (n p : Nat) (l : Int32) (W : Nat → Int32) : Nat → Int32 := if hasB n (A p 9) = true then upd W (A p 9).toNatClampNeg (W (A p 9).toNatClampNeg + (l * A p 10) / 10) else W
def pW (A : Nat → Nat → Int32) (n p : Nat) (l : Int32) (W : Nat → Int32) : Nat → Int32 := if hasB n (A p 8) = true then upd (pA A n p l W) (A p 8).toNatClampNeg (pA A n p l W (A p 8).toNatClampNeg + (l - trn A n p l)) else pA A n p l W
def pB (A : Nat → Nat → Int32) (n p : Nat) (l b : Int32) : Int32 := if hasB n (A p 8) = true then b else b + (l - trn A n p l)
abbrev ST : Type := Int32 × Int32 × Int32 × (Nat → Int32) × (Nat → Int32)
def stq (A : Nat → Nat → Int32) (n : Nat) (kp : Int32) (p : Nat) (s : ST) (h go : Bool) (w : Int32) : ST := (if go = true then s.1 ||| bt p else s.1, if h = true then s.2.1 ||| bt p else s.2.1, pB A n p (lef A kp h go p w) s.2.2.1, pW A n p (lef A kp h go p w) (upd s.2.2.2.1 p w), upd s.2.2.2.2 p (lef A kp h go p w))
noncomputable def stp (A : Nat → Nat → Int32) (n : Nat) (st bk kp : Int32) (p : Nat) (s : ST) : ST := stq A n kp p s (hrB A s.1 p) (gos A bk kp p (wat A st (hrB A s.1 p) p (s.2.2.2.1 p))) (wat A st (hrB A s.1 p) p (s.2.2.2.1 p))
/-- a storm's first p ponds -/
noncomputable def stN (A : Nat → Nat → Int32) (n : Nat) (st bk kp : Int32) : Nat → ST
  | 0 => (0, 0, 0, fun _ => 0, fun _ => 0)
  | p + 1 => stp A n st bk kp p (stN A n st bk kp p)
/-- harm of a set, the first p ponds -/
def hrm (A : Nat → Nat → Int32) (s : Int32) : Nat → Int32
  | 0 => 0
  | p + 1 => if inB s p = true then hrm A s p + A p 5 else hrm A s p
theorem bits9 : ∀ p, p < 9 → ∀ k, k < 512 → k < 2 ^ p → inB (iN k) p = false ∧ inB (iN k ||| bt p) p = true ∧ iN k ||| bt p = iN (k + 2 ^ p) := by decide +kernel
theorem p2_le {p : Nat} (h : p ≤ 9) : 2 ^ p ≤ 512 := Nat.le_trans (Nat.pow_le_pow_right (by decide) h) (by decide)
/-- the set has ponds below p alone -/
def SB (s : Int32) (p : Nat) : Prop := ∃ k, k < 2 ^ p ∧ s = iN k
theorem sb_0 : SB 0 0 := ⟨0, by decide, rfl⟩
theorem sb_s {s : Int32} {p : Nat} (h : SB s p) : SB s (p + 1) := by
  obtain ⟨k, h1, h2⟩ := h
  exact ⟨k, Nat.lt_of_lt_of_le h1 (Nat.pow_le_pow_right (by decide) (by omega)), h2⟩
theorem sb_o {s : Int32} {p : Nat} (hp : p < 9) (h : SB s p) : SB (s ||| bt p) (p + 1) := by
  obtain ⟨k, h1, h2⟩ := h
  have h3 := p2_le (p := p) (by omega)
  refine ⟨k + 2 ^ p, by rw [Nat.pow_succ]; omega, ?_⟩
  rw [h2]
  exact (bits9 p hp k (by omega) h1).2.2
theorem sb_n {s : Int32} {p : Nat} (hp : p < 9) (h : SB s p) : inB s p = false := by
  obtain ⟨k, h1, h2⟩ := h
  have h3 := p2_le (p := p) (by omega)
  rw [h2]
  exact (bits9 p hp k (by omega) h1).1
theorem sb_y {s : Int32} {p : Nat} (hp : p < 9) (h : SB s p) : inB (s ||| bt p) p = true := by
  obtain ⟨k, h1, h2⟩ := h
  have h3 := p2_le (p := p) (by omega)
  rw [h2]
  exact (bits9 p hp k (by omega) h1).2.1
theorem st_sb {A : Nat → Nat → Int32} {n : Nat} {st bk kp : Int32} : ∀ p, p ≤ 9 → SB (stN A n st bk kp p).1 p ∧ SB (stN A n st bk kp p).2.1 p := by
  intro p
  induction p with
  | zero => intro _; exact ⟨sb_0, sb_0⟩
  | succ p ih =>
    intro hp
    obtain ⟨i1, i2⟩ := ih (by omega)
    have e : stN A n st bk kp (p + 1) = stp A n st bk kp p (stN A n st bk kp p) := rfl
    rw [e]
    unfold stp stq
    dsimp only
    refine ⟨?_, ?_⟩
    · split
      · exact sb_o (by omega) i1
      · exact sb_s i1
    · split
      · exact sb_o (by omega) i2
      · exact sb_s i2
/-- reads of the class's hill in cell t -/
def HA (u : MM) (t n : Nat) (A : Nat → Nat → Int32) : Prop := u t 0 = iN n ∧ ∀ p c, p < n → c < 16 → u (t + 1) (16 * p + c) = A p c
theorem ha_r {u : MM} {t n p c : Nat} {A : Nat → Nat → Int32} (h : HA u t n A) (n9 : n ≤ 9) (hp : p < n) (hc : c < 16) : hof u t (iN p) (iN c) = A p c := by
  rw [hofE (by omega) hc]
  exact h.2 p c hp hc
theorem ha_c {u x : MM} {t n : Nat} {A : Nat → Nat → Int32} (h : HA u t n A) (e0 : x t = u t) (e1 : x (t + 1) = u (t + 1)) : HA x t n A := by
  unfold HA
  rw [e0, e1]
  exact h
theorem hX_b {u : MM} {g : GG} {t n : Nat} {A : Nat → Nat → Int32} {x : Int32} (h : HA u t n A) : Fx_H_hasX x t u g = hasB n x := by
  unfold Fx_H_hasX hasB
  rw [h.1]
theorem hm_L {u : MM} {g : GG} {t n : Nat} {A : Nat → Nat → Int32} {s : Int32} (h : HA u t n A) (n9 : n ≤ 9) : ∀ (f p : Nat), n - p < f → p ≤ n → Fx_H_harmOfX_L4 s t u g f (hrm A s p) (iN p) = hrm A s n := by
  intro f
  induction f with
  | zero => intro p h1; omega
  | succ f ih =>
    intro p h1 h2
    rw [Fx_H_harmOfX_L4_s, h.1]
    by_cases q : n ≤ p
    · rw [if_pos ((iN_le (by omega) (by omega)).mpr q), show p = n by omega]
    · rw [if_neg (fun z => q ((iN_le (by omega) (by omega)).mp z)), xqb, isI]
      unfold Fx_H_harmOfX_J29
      rw [iN_s, show hof u t (iN p) (5 : Int32) = A p 5 from ha_r (c := 5) h n9 (by omega) (by decide)]
      have e : hrm A s (p + 1) = if inB s p = true then hrm A s p + A p 5 else hrm A s p := rfl
      by_cases z : inB s p = true
      · rw [if_pos z] at e ⊢
        rw [← e]
        exact ih (p + 1) (by omega) (by omega)
      · rw [if_neg z] at e ⊢
        rw [← e]
        exact ih (p + 1) (by omega) (by omega)
theorem hm_X {u : MM} {g : GG} {t n : Nat} {A : Nat → Nat → Int32} {s : Int32} (h : HA u t n A) (n9 : n ≤ 9) : Fx_H_harmOfX s t u g = hrm A s n := by
  unfold Fx_H_harmOfX
  have e : (9 - (0 : Int32).toInt).toNat + 1 = 10 := by decide
  rw [e]
  exact hm_L h n9 10 0 (by omega) (by omega)
theorem inB_0 : ∀ q, q < 9 → inB 0 q = false := by decide +kernel
theorem hasB_lt {n : Nat} {x : Int32} (n9 : n ≤ 9) (h : hasB n x = true) : x.toNatClampNeg < n := by
  unfold hasB at h
  by_cases a : x < 0
  · rw [if_pos a] at h; exact absurd h (by decide)
  · rw [if_neg a] at h
    by_cases b : iN n ≤ x
    · rw [if_pos b] at h; exact absurd h (by decide)
    · have b1 := Int32.lt_iff_toInt_lt.mp (i_nle b)
      have a1 := Int32.le_iff_toInt_le.mp (i_nlt a)
      rw [iN_ti (by omega)] at b1
      have h1 : x.toNatClampNeg = x.toInt.toNat := rfl
      have e0 : (0 : Int32).toInt = 0 := rfl
      omega
def cnd (b : Bool) (u : MM) (a i : Nat) (v : Int32) : MM := if b = true then ms u a i v else u
theorem cn_c {b : Bool} {u : MM} {a i c : Nat} {v : Int32} (h : c ≠ a) : cnd b u a i v c = u c := by
  unfold cnd
  split
  · exact ms_c1 h
  · rfl
theorem cn_i {b : Bool} {u : MM} {a i j : Nat} {v : Int32} (h : j ≠ i) : cnd b u a i v a j = u a j := by
  unfold cnd
  split
  · exact ms_i1 h
  · rfl
theorem cn_e {b : Bool} {u : MM} {a i : Nat} {v : Int32} : cnd b u a i v a i = if b = true then v else u a i := by
  unfold cnd
  split
  · exact ms_e1
  · rfl
end
section
/-! the class's storm in cell 58 -/
theorem hr58_L {u : MM} {g : GG} {t n p : Nat} {A : Nat → Nat → Int32} {w : Int32} (h : HA u t n A) (n9 : n ≤ 9) (hp : p < n) (hw : u 58 1 = w) (hg : ¬ A p 12 = -1) : ∀ (f q : Nat), p - q < f → q ≤ p → (Fx_S58_hearsX_L25 (iN p) t u g f (iN q) = true ↔ ∃ r, q ≤ r ∧ r < p ∧ inB w r = true ∧ (A r 8 = iN p ∨ A r 9 = iN p) ∧ ¬ A r 11 < A p 12) := by
  intro f
  induction f with
  | zero => intro q h1; omega
  | succ f ih =>
    intro q h1 h2
    rw [Fx_S58_hearsX_L25_s]
    by_cases c : p ≤ q
    · rw [if_pos ((iN_le (by omega) (by omega)).mpr c)]
      exact ⟨fun z => absurd z (by decide), fun z => by obtain ⟨r, r1, r2, -⟩ := z; omega⟩
    · rw [if_neg (fun z => c ((iN_le (by omega) (by omega)).mp z))]
      have k := ih (q + 1) (by omega) (by omega)
      rw [show hof u t (iN q) (8 : Int32) = A q 8 from ha_r (c := 8) h n9 (by omega) (by decide), show hof u t (iN q) (9 : Int32) = A q 9 from ha_r (c := 9) h n9 (by omega) (by decide)]
      have go : ∀ b : Int32, (b = 1 ∨ b = 0) → ((b = 1) ↔ (A q 8 = iN p ∨ A q 9 = iN p)) → (Fx_S58_hearsX_J60 (Fx_S58_hearsX_L25 (iN p) t u g f) (iN p) t u g (iN q) b = true ↔ ∃ r, q ≤ r ∧ r < p ∧ inB w r = true ∧ (A r 8 = iN p ∨ A r 9 = iN p) ∧ ¬ A r 11 < A p 12) := by
        intro b hb hl
        unfold Fx_S58_hearsX_J60
        have skip : ¬ (inB w q = true ∧ (A q 8 = iN p ∨ A q 9 = iN p) ∧ ¬ A q 11 < A p 12) → ((∃ r, q + 1 ≤ r ∧ r < p ∧ inB w r = true ∧ (A r 8 = iN p ∨ A r 9 = iN p) ∧ ¬ A r 11 < A p 12) ↔ ∃ r, q ≤ r ∧ r < p ∧ inB w r = true ∧ (A r 8 = iN p ∨ A r 9 = iN p) ∧ ¬ A r 11 < A p 12) := by
          intro no
          refine ⟨fun z => ?_, fun z => ?_⟩
          · obtain ⟨r, r1, r2⟩ := z
            exact ⟨r, by omega, r2⟩
          · obtain ⟨r, r1, r2, r3⟩ := z
            by_cases y : r = q
            · rw [y] at r3
              exact absurd r3 no
            · exact ⟨r, by omega, r2, r3⟩
        rw [iN_s]
        by_cases b0 : b = 0
        · rw [if_pos b0]
          refine k.trans (skip (fun z => ?_))
          have := hl.mpr z.2.1
          rw [b0] at this
          exact absurd this (by decide)
        · rw [if_neg b0, xqb, hw, isI]
          have l := hl.mp (hb.resolve_right b0)
          by_cases y : inB w q = true
          · rw [if_pos y, show hof u t (iN q) (11 : Int32) = A q 11 from ha_r (c := 11) h n9 (by omega) (by decide), show hof u t (iN p) (12 : Int32) = A p 12 from ha_r (c := 12) h n9 hp (by decide)]
            by_cases y2 : A q 11 < A p 12
            · rw [if_pos y2]
              exact k.trans (skip (fun z => z.2.2 y2))
            · rw [if_neg y2]
              exact ⟨fun _ => ⟨q, Nat.le_refl _, by omega, y, l, y2⟩, fun _ => rfl⟩
          · rw [if_neg y]
            exact k.trans (skip (fun z => y z.1))
      by_cases y8 : A q 8 = iN p
      · rw [if_pos y8]
        exact go 1 (Or.inl rfl) ⟨fun _ => Or.inl y8, fun _ => rfl⟩
      · rw [if_neg y8]
        by_cases y9 : A q 9 = iN p
        · rw [if_pos y9]
          exact go 1 (Or.inl rfl) ⟨fun _ => Or.inr y9, fun _ => rfl⟩
        · rw [if_neg y9]
          exact go 0 (Or.inr rfl) ⟨fun z => absurd z (by decide), fun z => absurd z (fun z => z.elim y8 y9)⟩
theorem hr58_X {u : MM} {g : GG} {t n p : Nat} {A : Nat → Nat → Int32} {w : Int32} (h : HA u t n A) (n9 : n ≤ 9) (hp : p < n) (hw : u 58 1 = w) : Fx_S58_hearsX (iN p) t u g = hrB A w p := by
  refine Bool.eq_iff_iff.mpr ?_
  have e : hrB A w p = true ↔ HRS A w p := by
    unfold hrB
    exact @decide_eq_true_iff _ (Classical.propDecidable _)
  refine Iff.trans ?_ e.symm
  unfold Fx_S58_hearsX HRS
  rw [show hof u t (iN p) (12 : Int32) = A p 12 from ha_r (c := 12) h n9 hp (by decide), hw]
  by_cases y : A p 12 = -1
  · rw [if_pos y]
    exact ⟨fun z => absurd z (by decide), fun z => absurd y z.1⟩
  · rw [if_neg y]
    by_cases w0 : w = 0
    · rw [if_pos w0]
      refine ⟨fun z => absurd z (by decide), fun z => ?_⟩
      obtain ⟨-, r, r1, r2, -⟩ := z
      rw [w0, inB_0 r (by omega)] at r2
      exact absurd r2 (by decide)
    · rw [if_neg w0]
      have f9 : (8 - (0 : Int32).toInt).toNat + 1 = 9 := by decide
      rw [f9]
      refine (hr58_L h n9 hp hw y 9 0 (by omega) (Nat.zero_le _)).trans ⟨fun z => ?_, fun z => ?_⟩
      · obtain ⟨r, r1, r2⟩ := z
        exact ⟨y, r, r2⟩
      · obtain ⟨-, r, r2⟩ := z
        exact ⟨r, Nat.zero_le _, r2⟩
/-- the class's memory behind the first p ponds -/
def CS58 (x : MM) (s : ST) (p : Nat) : Prop := x 58 1 = s.1 ∧ x 58 3 = s.2.1 ∧ x 58 4 = s.2.2.1 ∧ (∀ j, j < 9 → x 59 j = s.2.2.2.1 j) ∧ ∀ j, j < p → x 60 j = s.2.2.2.2 j
/-- what leaves pond p goes on -/
theorem pa58_X {u : MM} {g : GG} {t n p : Nat} {A : Nat → Nat → Int32} {l : Int32} {W : Nat → Int32} (ht : t + 1 < 58 ∨ 60 < t) (h : HA u t n A) (n9 : n ≤ 9) (hp : p < n) (hl : u 60 p = l) (hW : ∀ j, j < 9 → u 59 j = W j) : ∃ y, Fx_S58_passX (iN p) t u g = y ∧ (∀ j, j < 9 → y 59 j = pW A n p l W j) ∧ y 58 4 = pB A n p l (u 58 4) ∧ (∀ c, c ≠ 58 → c ≠ 59 → y c = u c) ∧ ∀ j, j ≠ 4 → y 58 j = u 58 j := by
  refine ⟨_, rfl, ?_⟩
  unfold Fx_S58_passX
  have r8 : hof u t (iN p) (8 : Int32) = A p 8 := ha_r (c := 8) h n9 hp (by decide)
  have r9 : hof u t (iN p) (9 : Int32) = A p 9 := ha_r (c := 9) h n9 hp (by decide)
  have r10 : hof u t (iN p) (10 : Int32) = A p 10 := ha_r (c := 10) h n9 hp (by decide)
  have cp : (iN p).toNatClampNeg = p := iN_cl (by omega)
  rw [r9, r10, xqb, hX_b h]
  have J : ∀ (x : MM) (tr : Int32), HA x t n A → x 60 = u 60 → (∀ j, j < 9 → x 59 j = pA A n p l W j) → (∀ c, c ≠ 59 → x c = u c) → tr = trn A n p l →
      (∀ j, j < 9 → Fx_S58_passX_J58 (iN p) t u g tr x 59 j = pW A n p l W j) ∧ Fx_S58_passX_J58 (iN p) t u g tr x 58 4 = pB A n p l (u 58 4) ∧ (∀ c, c ≠ 58 → c ≠ 59 → Fx_S58_passX_J58 (iN p) t u g tr x c = u c) ∧ ∀ j, j ≠ 4 → Fx_S58_passX_J58 (iN p) t u g tr x 58 j = u 58 j := by
    intro x tr hx xl xw xc e
    subst e
    unfold Fx_S58_passX_J58 pW pB
    rw [r8, xqb, hX_b hx]
    by_cases y : hasB n (A p 8) = true
    · have lt := hasB_lt n9 y
      rw [if_pos y, xqb, xqb, xqb, if_pos y, if_pos y, cp, xl, hl, xw _ (by omega)]
      refine ⟨fun j hj => ?_, ?_, fun c c1 c2 => ?_, fun j hj => ?_⟩
      · rw [ms_a1]
        unfold upd
        by_cases z : j = (A p 8).toNatClampNeg
        · rw [if_pos z, if_pos z]
        · rw [if_neg z, if_neg z]; exact xw j hj
      · rw [ms_c1 (by decide), xc 58 (by decide)]
      · rw [ms_c1 c2, xc c c2]
      · rw [ms_c1 (by decide), xc 58 (by decide)]
    · rw [if_neg y, xqb, xqb, if_neg y, if_neg y, cp, xl, hl]
      refine ⟨fun j hj => ?_, ?_, fun c c1 c2 => ?_, fun j hj => ?_⟩
      · rw [ms_c1 (by decide)]; exact xw j hj
      · rw [ms_e1]
      · rw [ms_c1 c1, xc c c2]
      · rw [ms_i1 hj, xc 58 (by decide)]
  by_cases y : hasB n (A p 9) = true
  · have lt := hasB_lt n9 y
    rw [if_pos y, xqb, xqb, xqb, cp, hl]
    refine J _ _ ?_ ?_ (fun j hj => ?_) (fun c hc => ms_c1 hc) ?_
    · exact ha_c h (ms_c1 (by omega)) (ms_c1 (by omega))
    · exact ms_c1 (by decide)
    · rw [ms_a1, hW _ (by omega)]
      unfold pA upd
      rw [if_pos y]
      by_cases z : j = (A p 9).toNatClampNeg
      · rw [if_pos z, if_pos z]
      · rw [if_neg z, if_neg z]; exact hW j hj
    · unfold trn
      rw [if_pos y]
  · rw [if_neg y]
    refine J _ _ h rfl (fun j hj => ?_) (fun _ _ => rfl) ?_
    · unfold pA
      rw [if_neg y]
      exact hW j hj
    · unfold trn
      rw [if_neg y]
theorem gs58_X {X : MM} {g : GG} {t n p : Nat} {A : Nat → Nat → Int32} {bk kp w : Int32} (h : HA X t n A) (n9 : n ≤ 9) (hp : p < n) (hw : X 59 p = w) (k : ¬ iN p = kp) : Fx_S58_goesX (iN p) bk t X g = gos A bk kp p w := by
  unfold Fx_S58_goesX gos
  rw [if_neg k, show hof X t (iN p) (15 : Int32) = A p 15 from ha_r (c := 15) h n9 hp (by decide), show hof X t (iN p) (0 : Int32) = A p 0 from ha_r (c := 0) h n9 hp (by decide), show hof X t (iN p) (3 : Int32) = A p 3 from ha_r (c := 3) h n9 hp (by decide), xqb, isI, xqb, iN_cl (by omega), hw]
theorem lv58_X {X : MM} {g : GG} {t n p : Nat} {A : Nat → Nat → Int32} {s w k : Int32} (h : HA X t n A) (n9 : n ≤ 9) (hp : p < n) (hw : X 59 p = w) (hs : X 58 1 = s) : Fx_S58_leavingX (iN p) k t X g = if k = 0 then (if inB s p = true then w else if A p 15 = 1 then w else if 0 < w - A p 0 then w - A p 0 else 0) else 0 := by
  unfold Fx_S58_leavingX
  rw [show hof X t (iN p) (15 : Int32) = A p 15 from ha_r (c := 15) h n9 hp (by decide), show hof X t (iN p) (0 : Int32) = A p 0 from ha_r (c := 0) h n9 hp (by decide), iN_cl (by omega), hw, hs, xqb, isI, xqb, xqb, xqb]
theorem jb58_X {ih : Int32 → MM → MM} {x X u0 : MM} {g : GG} {t n p : Nat} {A : Nat → Nat → Int32} {bk kp w s : Int32} {hr : Bool} (h : HA X t n A) (h0 : HA u0 t n A) (ht : t + 1 < 58 ∨ 60 < t) (n9 : n ≤ 9) (hp : p < n) (hw : X 59 p = w) (hs : X 58 1 = s) (hx : x 58 1 = s) (sb : SB s p) : Fx_S58_runX_J114 ih bk kp t u0 g (iN p) x hr X = ih (iN (p + 1)) (Fx_S58_passX (iN p) t (ms (cnd (gos A bk kp p w) X 58 1 (s ||| bt p)) 60 p (lef A kp hr (gos A bk kp p w) p w)) g) := by
  have p9 : p < 9 := by omega
  have J : ∀ (Y : MM) (k v : Int32), Fx_S58_leavingX (iN p) k t Y g = v → Fx_S58_runX_J168 ih t u0 g (iN p) hr Y k = ih (iN (p + 1)) (Fx_S58_passX (iN p) t (ms Y 60 p (v + (if hr = true then A p 1 else 0))) g) := by
    intro Y k v e
    unfold Fx_S58_runX_J168 Fx_S58_runX_J187
    rw [xqb, e, show hof u0 t (iN p) (1 : Int32) = A p 1 from ha_r (c := 1) h0 n9 hp (by decide), iN_s, iN_cl (by omega)]
    by_cases y : hr = true
    · rw [if_pos y, if_pos y, xqb, xqb]
    · rw [if_neg y, if_neg y, xqb, xqb]
  unfold Fx_S58_runX_J114 Fx_S58_runX_J146
  by_cases k : iN p = kp
  · rw [if_pos k, if_pos k, J X 1 0 ?_]
    · have e1 : gos A bk kp p w = false := by unfold gos; rw [if_pos k]
      rw [e1]
      unfold cnd lef
      rw [if_neg Bool.false_ne_true, if_pos k]
    · rw [lv58_X h n9 hp hw hs, if_neg (by decide)]
  · rw [if_neg k, xqb, gs58_X (kp := kp) h n9 hp hw k, hx]
    by_cases y : gos A bk kp p w = true
    · rw [if_pos y, xqb, b9I (by omega), xqb, if_neg k, J _ 0 w ?_]
      · rw [y]
        unfold cnd lef
        rw [if_pos rfl, if_neg k, if_pos rfl]
      · rw [lv58_X (s := s ||| bt p) (ha_c h (ms_c1 (by omega)) (ms_c1 (by omega))) n9 hp ((congrFun (ms_c1 (by decide)) p).trans hw) ms_e1, if_pos rfl, if_pos (sb_y p9 sb)]
    · rw [if_neg y, if_neg k, J _ 0 (if A p 15 = 1 then w else if 0 < w - A p 0 then w - A p 0 else 0) ?_]
      · rw [(Bool.not_eq_true _).mp y]
        unfold cnd lef
        rw [if_neg Bool.false_ne_true, if_neg k, if_neg Bool.false_ne_true]
      · rw [lv58_X h n9 hp hw hs, if_pos rfl, if_neg (by rw [sb_n p9 sb]; decide)]
/-- pond p of the storm -/
theorem bd58_X {ih : Int32 → MM → MM} {x u0 : MM} {g : GG} {t n p : Nat} {A : Nat → Nat → Int32} {st bk kp c : Int32} {hr : Bool} {S : ST} (h0 : HA u0 t n A) (ht : t + 1 < 58 ∨ 60 < t) (n9 : n ≤ 9) (hp : p < n) (hx : ∀ c, c < 58 ∨ 60 < c → x c = u0 c) (cs : CS58 x S p) (sb : SB S.1 p) (hc : S.2.2.2.1 p = c) : ∃ y, Fx_S58_runX_J92 ih st bk kp t u0 g (iN p) x hr c (if hr = true then 0 else A p 1) = ih (iN (p + 1)) y ∧ CS58 y (stq A n kp p S hr (gos A bk kp p (wat A st hr p c)) (wat A st hr p c)) (p + 1) ∧ (∀ c, c < 58 ∨ 60 < c → y c = u0 c) ∧ y 58 0 = x 58 0 := by
  have p9 : p < 9 := by omega
  obtain ⟨c1, c3, c4, cW, cL⟩ := cs
  obtain ⟨w, hw⟩ : ∃ w, w = wat A st hr p c := ⟨_, rfl⟩
  obtain ⟨go, hgo⟩ : ∃ go, go = gos A bk kp p w := ⟨_, rfl⟩
  obtain ⟨lv, hlv⟩ : ∃ lv, lv = lef A kp hr go p w := ⟨_, rfl⟩
  obtain ⟨X, hX⟩ : ∃ X, X = cnd hr (ms x 59 p w) 58 3 (S.2.1 ||| bt p) := ⟨_, rfl⟩
  obtain ⟨X4, hX4⟩ : ∃ X4, X4 = ms (cnd go X 58 1 (S.1 ||| bt p)) 60 p lv := ⟨_, rfl⟩
  have Xc : ∀ c, c ≠ 58 → c ≠ 59 → X c = x c := fun c q1 q2 => by rw [hX, cn_c q1, ms_c1 q2]
  have XW : X 59 = upd (x 59) p w := by rw [hX, cn_c (by decide), ms_a1]
  have X1 : ∀ j, j ≠ 3 → X 58 j = x 58 j := fun j hj => by rw [hX, cn_i hj, ms_c1 (by decide)]
  have X3 : X 58 3 = if hr = true then S.2.1 ||| bt p else S.2.1 := by rw [hX, cn_e, ms_c1 (by decide), c3]
  have hh : HA X t n A := ha_c h0 ((Xc t (by omega) (by omega)).trans (hx t (by omega))) ((Xc (t + 1) (by omega) (by omega)).trans (hx (t + 1) (by omega)))
  have e1 : Fx_S58_runX_J92 ih st bk kp t u0 g (iN p) x hr c (if hr = true then 0 else A p 1) = Fx_S58_runX_J114 ih bk kp t u0 g (iN p) x hr X := by
    unfold Fx_S58_runX_J92
    rw [xqb, show hof u0 t (iN p) (2 : Int32) = A p 2 from ha_r (c := 2) h0 n9 hp (by decide), iN_cl (by omega), show c + (st * A p 2 + (if hr = true then 0 else A p 1)) = w from hw.symm, c3, hX]
    unfold cnd
    by_cases y : hr = true
    · rw [if_pos y, if_pos y, xqb, b9I (by omega), xqb]
    · rw [if_neg y, if_neg y]
  rw [e1, jb58_X (w := w) (s := S.1) hh h0 ht n9 hp (by rw [XW]; exact if_pos rfl) ((X1 1 (by decide)).trans c1) c1 sb, ← hgo, ← hlv, ← hX4, ← hw, ← hgo]
  have Yc : ∀ c, c ≠ 58 → c ≠ 59 → c ≠ 60 → X4 c = x c := fun c q1 q2 q3 => by rw [hX4, ms_c1 q3, cn_c q1, Xc c q1 q2]
  have YW : ∀ j, j < 9 → X4 59 j = upd S.2.2.2.1 p w j := by
    intro j hj
    rw [hX4, ms_c1 (by decide), cn_c (by decide), XW]
    unfold upd
    by_cases y : j = p
    · rw [if_pos y, if_pos y]
    · rw [if_neg y, if_neg y]; exact cW j hj
  have YL : ∀ j, j < p + 1 → X4 60 j = upd S.2.2.2.2 p lv j := by
    intro j hj
    rw [hX4]
    unfold upd
    by_cases y : j = p
    · rw [if_pos y, y, ms_e1]
    · rw [if_neg y, ms_i1 y, cn_c (by decide), Xc 60 (by decide) (by decide)]; exact cL j (by omega)
  have Yj : ∀ j, j ≠ 1 → X4 58 j = X 58 j := fun j hj => by rw [hX4, ms_c1 (by decide), cn_i hj]
  have Y1 : X4 58 1 = if go = true then S.1 ||| bt p else S.1 := by rw [hX4, ms_c1 (by decide), cn_e, X1 1 (by decide), c1]
  have h4 : HA X4 t n A := ha_c h0 ((Yc t (by omega) (by omega) (by omega)).trans (hx t (by omega))) ((Yc (t + 1) (by omega) (by omega) (by omega)).trans (hx (t + 1) (by omega)))
  obtain ⟨y, y0, y1, y2, y3, y4⟩ := pa58_X (g := g) (l := lv) (W := upd S.2.2.2.1 p w) ht h4 n9 hp (by rw [hX4, ms_e1]) YW
  refine ⟨y, by rw [y0], ⟨?_, ?_, ?_, fun j hj => ?_, fun j hj => ?_⟩, fun c hc => ?_, ?_⟩
  · rw [y4 1 (by decide), Y1]; rfl
  · rw [y4 3 (by decide), Yj 3 (by decide), X3]; rfl
  · rw [y2, Yj 4 (by decide), X1 4 (by decide), c4, hlv]; rfl
  · rw [y1 j hj, hlv]; rfl
  · rw [y3 60 (by decide) (by decide), YL j hj, hlv]; rfl
  · rw [y3 c (by omega) (by omega), Yc c (by omega) (by omega) (by omega), hx c hc]
  · rw [y4 0 (by decide), Yj 0 (by decide), X1 0 (by decide)]
theorem rn58_L {u0 : MM} {g : GG} {t n : Nat} {A : Nat → Nat → Int32} {st bk kp z : Int32} (h0 : HA u0 t n A) (ht : t + 1 < 58 ∨ 60 < t) (n9 : n ≤ 9) : ∀ (f p : Nat) (x : MM), n - p < f → p ≤ n → (∀ c, c < 58 ∨ 60 < c → x c = u0 c) → CS58 x (stN A n st bk kp p) p → x 58 0 = z → ∃ y, Fx_S58_runX_L34 st bk kp t u0 g f (iN p) x = y ∧ CS58 y (stN A n st bk kp n) n ∧ y 58 2 = hrm A (stN A n st bk kp n).1 n ∧ (∀ c, c < 58 ∨ 60 < c → y c = u0 c) ∧ y 58 0 = z := by
  intro f
  induction f with
  | zero => intro p x h1; omega
  | succ f ih =>
    intro p x h1 h2 hx cs hz
    have hh : HA x t n A := ha_c h0 (hx t (by omega)) (hx (t + 1) (by omega))
    rw [Fx_S58_runX_L34_s, h0.1]
    by_cases q : n ≤ p
    · have e : p = n := by omega
      subst e
      obtain ⟨c1, c3, c4, cW, cL⟩ := cs
      rw [if_pos (Int32.le_refl _), xqb, hm_X hh n9, xqb]
      refine ⟨_, rfl, ⟨?_, ?_, ?_, fun j hj => ?_, fun j hj => ?_⟩, ?_, fun c hc => ?_, ?_⟩
      · rw [ms_i1 (by decide)]; exact c1
      · rw [ms_i1 (by decide)]; exact c3
      · rw [ms_i1 (by decide)]; exact c4
      · rw [ms_c1 (by decide)]; exact cW j hj
      · rw [ms_c1 (by decide)]; exact cL j hj
      · rw [ms_e1, c1]
      · rw [ms_c1 (by omega)]; exact hx c hc
      · rw [ms_i1 (by decide)]; exact hz
    · rw [if_neg (fun z => q ((iN_le (by omega) (by omega)).mp z)), if_neg (show ¬ (9 : Int32) ≤ iN p from fun z => by have := (iN_le (a := 9) (by omega) (by omega)).mp z; omega), xqb, hr58_X (w := (stN A n st bk kp p).1) hh n9 (by omega) cs.1, xqb, iN_cl (by omega), cs.2.2.2.1 p (by omega), show hof u0 t (iN p) (1 : Int32) = A p 1 from ha_r (c := 1) h0 n9 (by omega) (by decide)]
      obtain ⟨y, y1, y2, y3, y4⟩ := bd58_X (ih := Fx_S58_runX_L34 st bk kp t u0 g f) (g := g) (st := st) (bk := bk) (kp := kp) (hr := hrB A (stN A n st bk kp p).1 p) h0 ht n9 (show p < n by omega) hx cs (st_sb p (by omega)).1 rfl
      have e : ∀ b : Bool, b = hrB A (stN A n st bk kp p).1 p → (if b = true then Fx_S58_runX_J92 (Fx_S58_runX_L34 st bk kp t u0 g f) st bk kp t u0 g (iN p) x b ((stN A n st bk kp p).2.2.2.1 p) 0 else Fx_S58_runX_J92 (Fx_S58_runX_L34 st bk kp t u0 g f) st bk kp t u0 g (iN p) x b ((stN A n st bk kp p).2.2.2.1 p) (A p 1)) = Fx_S58_runX_L34 st bk kp t u0 g f (iN (p + 1)) y := by
        intro b hb
        rw [← y1, ← hb]
        by_cases w : b = true
        · rw [if_pos w, if_pos w]
        · rw [if_neg w, if_neg w]
      rw [e _ rfl]
      exact ih (p + 1) y (by omega) (by omega) y3 y2 (y4.trans hz)
theorem fi59_L {v : Int32} : ∀ (f i : Nat) (x : MM), 9 - i < f → i ≤ 9 → ∃ y, Fx_fill_59X_L5 v f (iN i) x = y ∧ (∀ j, y 59 j = if i ≤ j ∧ j < 9 then v else x 59 j) ∧ ∀ c, c ≠ 59 → y c = x c := by
  intro f
  induction f with
  | zero => intro i x h; omega
  | succ f ih =>
    intro i x h hi
    rw [Fx_fill_59X_L5_s]
    by_cases c : 9 ≤ i
    · rw [if_pos (show (9 : Int32) ≤ iN i from (iN_le (a := 9) (by omega) (by omega)).mpr c)]
      exact ⟨x, rfl, fun j => by rw [if_neg (by omega)], fun _ _ => rfl⟩
    · rw [if_neg (show ¬ (9 : Int32) ≤ iN i from fun q => c ((iN_le (a := 9) (by omega) (by omega)).mp q)), xqb, iN_s, iN_cl (by omega)]
      obtain ⟨y, y1, y2, y3⟩ := ih (i + 1) (ms x 59 i v) (by omega) (by omega)
      refine ⟨y, y1, fun j => ?_, fun c hc => (y3 c hc).trans (ms_c1 hc)⟩
      rw [y2 j]
      by_cases q : j = i
      · rw [if_neg (by omega), q, ms_e1, if_pos (by omega)]
      · rw [ms_i1 q]
        by_cases q2 : i ≤ j ∧ j < 9
        · rw [if_pos (by omega), if_pos q2]
        · rw [if_neg (by omega), if_neg q2]
/-- the class's storm -/
theorem rn58_X {u : MM} {g : GG} {t n : Nat} {A : Nat → Nat → Int32} {st bk kp : Int32} (h0 : HA u t n A) (ht : t + 1 < 58 ∨ 60 < t) (n9 : n ≤ 9) : ∃ y, Fx_S58_runX st bk kp t u g = y ∧ CS58 y (stN A n st bk kp n) n ∧ y 58 2 = hrm A (stN A n st bk kp n).1 n ∧ (∀ c, c < 58 ∨ 60 < c → y c = u c) ∧ y 58 0 = iN n := by
  unfold Fx_S58_runX Fx_fill_59X
  have e10 : (9 - (0 : Int32).toInt).toNat + 1 = 10 := by decide
  rw [xqb, xqb, xqb, xqb, xqb, e10, h0.1]
  obtain ⟨x, hx⟩ : ∃ x, x = ms (ms (ms (ms u 58 0 (iN n)) 58 1 0) 58 3 0) 58 4 0 := ⟨_, rfl⟩
  rw [← hx]
  obtain ⟨y, y1, y2, y3⟩ := fi59_L (v := 0) 10 0 x (by omega) (by omega)
  have y1' : Fx_fill_59X_L5 0 10 0 x = y := y1
  rw [y1']
  have yS : y 58 = x 58 := y3 58 (by decide)
  have xc : ∀ c, c ≠ 58 → x c = u c := fun c hc => by rw [hx, ms_c1 hc, ms_c1 hc, ms_c1 hc, ms_c1 hc]
  have e := rn58_L (u0 := u) (g := g) (st := st) (bk := bk) (kp := kp) (z := iN n) h0 ht n9 10 0 y (by omega) (by omega) (fun c hc => (y3 c (by omega)).trans (xc c (by omega))) ⟨by rw [yS, hx]; rfl, by rw [yS, hx]; rfl, by rw [yS, hx]; rfl, fun j hj => by rw [y2 j, if_pos ⟨Nat.zero_le _, hj⟩]; rfl, fun j hj => by omega⟩ (by rw [yS, hx]; rfl)
  exact e
end
section
/-! the reference's storm -/
/-- reads of the reference's row -/
def RMA (v : MM) (n : Nat) (A : Nat → Nat → Int32) : Prop := v 162 22 = iN n ∧ ∀ p c, p < n → c < 16 → v 172 (13 + 16 * p + c) = A p c
theorem ma_r {v : MM} {n p c : Nat} {A : Nat → Nat → Int32} (h : RMA v n A) (n9 : n ≤ 9) (hp : p < n) (hc : c < 16) : mof v (iN p) (iN c) = A p c := by
  rw [mofE (by omega) hc]
  exact h.2 p c hp hc
theorem ma_c {v y : MM} {n : Nat} {A : Nat → Nat → Int32} (h : RMA v n A) (e0 : y 162 22 = v 162 22) (e1 : y 172 = v 172) : RMA y n A := by
  unfold RMA
  rw [e0, e1]
  exact h
/-- the ponds are in order -/
def AWF (n : Nat) (A : Nat → Nat → Int32) : Prop := ∀ p, p < n → (∀ c, c < 16 → Bd (cLo c) (cHi c) (A p c)) ∧ LK n p (A p 8) ∧ LK n p (A p 9)
theorem hasI {s : Int32} {q : Nat} {u : MM} {g : GG} : Fx_M_hasX s (iN q) u g = inB s q := by
  unfold Fx_M_hasX inB
  by_cases h : ((s >>> (iN q &&& 31)) &&& 1) = 1
  · rw [if_pos h, decide_eq_true h]
  · rw [if_neg h, decide_eq_false h]
theorem mh_L {v : MM} {g : GG} {n p : Nat} {A : Nat → Nat → Int32} {w : Int32} (h : RMA v n A) (n9 : n ≤ 9) (hp : p < n) (hw : v 162 31 = w) : ∀ (f q : Nat), p - q < f → q ≤ p → (Fx_M_hearsX_L2 (iN p) v g f (iN q) = true ↔ ¬ A p 12 = -1 ∧ ∃ r, q ≤ r ∧ r < p ∧ inB w r = true ∧ (A r 8 = iN p ∨ A r 9 = iN p) ∧ ¬ A r 11 < A p 12) := by
  intro f
  induction f with
  | zero => intro q h1; omega
  | succ f ih =>
    intro q h1 h2
    rw [Fx_M_hearsX_L2_s]
    by_cases c : p ≤ q
    · rw [if_pos ((iN_le (by omega) (by omega)).mpr c)]
      exact ⟨fun z => absurd z (by decide), fun z => by obtain ⟨-, r, r1, r2, -⟩ := z; omega⟩
    · rw [if_neg (fun z => c ((iN_le (by omega) (by omega)).mp z)), show mof v (iN p) (12 : Int32) = A p 12 from ma_r (c := 12) h n9 hp (by decide)]
      by_cases g12 : A p 12 = -1
      · rw [if_pos g12]
        exact ⟨fun z => absurd z (by decide), fun z => absurd g12 z.1⟩
      have k := ih (q + 1) (by omega) (by omega)
      rw [if_neg g12, hw, xqb, hasI, iN_s, show mof v (iN q) (8 : Int32) = A q 8 from ma_r (c := 8) h n9 (by omega) (by decide), show mof v (iN q) (9 : Int32) = A q 9 from ma_r (c := 9) h n9 (by omega) (by decide), show mof v (iN q) (11 : Int32) = A q 11 from ma_r (c := 11) h n9 (by omega) (by decide)]
      have skip : ¬ (inB w q = true ∧ (A q 8 = iN p ∨ A q 9 = iN p) ∧ ¬ A q 11 < A p 12) → ((¬ A p 12 = -1 ∧ ∃ r, q + 1 ≤ r ∧ r < p ∧ inB w r = true ∧ (A r 8 = iN p ∨ A r 9 = iN p) ∧ ¬ A r 11 < A p 12) ↔ ¬ A p 12 = -1 ∧ ∃ r, q ≤ r ∧ r < p ∧ inB w r = true ∧ (A r 8 = iN p ∨ A r 9 = iN p) ∧ ¬ A r 11 < A p 12) := by
        intro no
        refine ⟨fun z => ?_, fun z => ?_⟩
        · obtain ⟨z0, r, r1, r2⟩ := z
          exact ⟨z0, r, by omega, r2⟩
        · obtain ⟨z0, r, r1, r2, r3⟩ := z
          by_cases y : r = q
          · rw [y] at r3
            exact absurd r3 no
          · exact ⟨z0, r, by omega, r2, r3⟩
      have yes : (A q 8 = iN p ∨ A q 9 = iN p) → inB w q = true → ((if A q 11 < A p 12 then Fx_M_hearsX_L2 (iN p) v g f (iN (q + 1)) else true) = true ↔ ¬ A p 12 = -1 ∧ ∃ r, q ≤ r ∧ r < p ∧ inB w r = true ∧ (A r 8 = iN p ∨ A r 9 = iN p) ∧ ¬ A r 11 < A p 12) := by
        intro l y
        by_cases y2 : A q 11 < A p 12
        · rw [if_pos y2]
          exact k.trans (skip (fun z => z.2.2 y2))
        · rw [if_neg y2]
          exact ⟨fun _ => ⟨g12, q, Nat.le_refl _, by omega, y, l, y2⟩, fun _ => rfl⟩
      by_cases y : inB w q = true
      · rw [if_pos y]
        by_cases y8 : A q 8 = iN p
        · rw [if_pos y8]
          exact yes (Or.inl y8) y
        · rw [if_neg y8]
          by_cases y9 : A q 9 = iN p
          · rw [if_pos y9]
            exact yes (Or.inr y9) y
          · rw [if_neg y9]
            exact k.trans (skip (fun z => z.2.1.elim y8 y9))
      · rw [if_neg y]
        exact k.trans (skip (fun z => y z.1))
theorem mh_X {v : MM} {g : GG} {n p : Nat} {A : Nat → Nat → Int32} {w : Int32} (h : RMA v n A) (n9 : n ≤ 9) (hp : p < n) (hw : v 162 31 = w) : Fx_M_hearsX (iN p) v g = hrB A w p := by
  refine Bool.eq_iff_iff.mpr ?_
  have e : hrB A w p = true ↔ HRS A w p := by
    unfold hrB
    exact @decide_eq_true_iff _ (Classical.propDecidable _)
  refine Iff.trans ?_ e.symm
  unfold Fx_M_hearsX HRS
  have f9 : (8 - (0 : Int32).toInt).toNat + 1 = 9 := by decide
  rw [f9]
  refine (mh_L h n9 hp hw 9 0 (by omega) (Nat.zero_le _)).trans ⟨fun z => ?_, fun z => ?_⟩
  · obtain ⟨y, r, r1, r2⟩ := z
    exact ⟨y, r, r2⟩
  · obtain ⟨y, r, r2⟩ := z
    exact ⟨y, r, Nat.zero_le _, r2⟩
theorem wt_e {c s l : Int32} {b : Bool} : ((l + s) + c) - (if b = true then l else 0) = c + (s + (if b = true then 0 else l)) := by
  cases b
  · show ((l + s) + c) - 0 = c + (s + l)
    rw [Int32.sub_zero, Int32.add_comm, Int32.add_comm l s]
  · show ((l + s) + c) - l = c + (s + 0)
    rw [Int32.add_zero, Int32.add_assoc, Int32.add_comm l, Int32.add_sub_cancel, Int32.add_comm]
/-- the numbers of pond p: what came, what it is filled with -/
theorem num_p {A : Nat → Nat → Int32} {n p : Nat} {st c : Int32} {hr : Bool} {M : Int} (aw : AWF n A) (hp : p < n) (bs : Bd 0 9 st) (bc : Bd 0 M c) (hM : M ≤ 1000000) :
    Bd 0 (M + 105) (wat A st hr p c) ∧ (hr = true → Bd 0 (M + 81) (wat A st hr p c)) ∧ Bd 0 24 (A p 0) ∧ Bd 0 24 (A p 1) ∧ Bd 0 24 (A p 3) ∧ (A p 15 = 0 ∨ A p 15 = 1) ∧ Bd 0 10 (A p 10) := by
  obtain ⟨a1, a2, a3⟩ := aw p hp
  have b0 : Bd 0 24 (A p 0) := a1 0 (by decide)
  have b1 : Bd 0 24 (A p 1) := a1 1 (by decide)
  have b2 : Bd 0 9 (A p 2) := a1 2 (by decide)
  have b3 : Bd 0 24 (A p 3) := a1 3 (by decide)
  have b15 : Bd 0 1 (A p 15) := a1 15 (by decide)
  have b10 : Bd 0 10 (A p 10) := a1 10 (by decide)
  have m : Bd 0 81 (st * A p 2) := bd_mul bs b2 (by omega)
  have c0 := bc.1
  have c1 := bc.2
  refine ⟨?_, fun h => ?_, b0, b1, b3, ?_, b10⟩
  · unfold wat
    cases hr
    · exact bd_add bc (bd_add (l := 0) (h := 105) m b1 (by omega)) (by omega)
    · exact bd_add bc (bd_add (l := 0) (h := 105) m (show Bd 0 24 (0 : Int32) from by decide) (by omega)) (by omega)
  · unfold wat
    rw [h]
    exact bd_add bc (bd_add (l := 0) (h := 81) m (show Bd 0 0 (0 : Int32) from by decide) (by omega)) (by omega)
  · obtain ⟨k, hk, k1⟩ := iN_ex (hi := 1) b15
    rcases (show k = 0 ∨ k = 1 by omega) with y | y
    · left; rw [hk, y]; rfl
    · right; rw [hk, y]; rfl
theorem ov_e {w H B : Int32} {M : Int} (bw : Bd 0 M w) (hM : M ≤ 1000000) (bH : Bd 0 24 H) (bB : Bd 0 24 B) : ((if w ≤ H then (0 : Int32) else w - H) ≤ B ↔ w - H ≤ B) ∧ (if w ≤ H then (0 : Int32) else w - H) = if 0 < w - H then w - H else 0 := by
  obtain ⟨w1, w2⟩ := bw
  obtain ⟨h1, h2⟩ := bH
  obtain ⟨q1, q2⟩ := bB
  have s : (w - H).toInt = w.toInt - H.toInt := ti_sub (by omega) (by omega)
  have z : (0 : Int32).toInt = 0 := rfl
  by_cases y : w.toInt ≤ H.toInt
  · rw [if_pos (leI y), if_neg (nltI (by omega))]
    exact ⟨⟨fun _ => leI (by omega), fun _ => leI (by omega)⟩, rfl⟩
  · rw [if_neg (nleI (by omega)), if_pos (ltI (by omega))]
    exact ⟨Iff.rfl, rfl⟩
theorem ms_2 {u : MM} {a i : Nat} {x : Int32} : ms (ms u a i x) a i (ms u a i x a i) = ms u a i x := by rw [ms_e1, ms_ms]
/-- pond p, as the reference passes it -/
theorem mp_X {v : MM} {g : GG} {n p : Nat} {A : Nat → Nat → Int32} {st bk c w hd : Int32} {M : Int} {b : Bool} (h : RMA v n A) (n9 : n ≤ 9) (hp : p < n) (aw : AWF n A) (k26 : v 162 26 = -1) (bs : Bd 0 9 st) (hc : v 174 p = c) (bc : Bd 0 M c) (hM : M ≤ 100000) (hw : v 162 31 = w) (hh : v 162 32 = hd) (hb : b = inB bk p) :
    ∃ y, Fx_M_passX (iN p) st (bI b) v g = y ∧ y 162 31 = (if gos A bk (-1) p (wat A st (hrB A w p) p c) = true then w ||| bt p else w) ∧ y 162 32 = (if hrB A w p = true then hd ||| bt p else hd) ∧ y 173 = upd (v 173) p (wat A st (hrB A w p) p c) ∧ y 175 = upd (v 175) p (lef A (-1) (hrB A w p) (gos A bk (-1) p (wat A st (hrB A w p) p c)) p (wat A st (hrB A w p) p c)) ∧ (∀ c, c ≠ 162 → c ≠ 173 → c ≠ 175 → y c = v c) ∧ ∀ j, j ≠ 31 → j ≠ 32 → y 162 j = v 162 j := by
  obtain ⟨hr, hhr⟩ : ∃ hr, hr = hrB A w p := ⟨_, rfl⟩
  obtain ⟨W, hW⟩ : ∃ W, W = wat A st hr p c := ⟨_, rfl⟩
  rw [← hhr, ← hW]
  obtain ⟨n1, n2, n3, n4, n5, n6, n7⟩ := num_p (hr := hr) aw hp bs bc (by omega)
  rw [← hW] at n1 n2
  have cp : (iN p).toNatClampNeg = p := iN_cl (by omega)
  have r : ∀ c, c < 16 → mof v (iN p) (iN c) = A p c := fun c hc => ma_r h n9 hp hc
  have pm : ¬ iN p = -1 := iN_nm (by omega)
  obtain ⟨o1, o2⟩ := ov_e n1 (by omega) n3 n5
  obtain ⟨ov, hov⟩ : ∃ ov, ov = if W ≤ A p 0 then (0 : Int32) else W - A p 0 := ⟨_, rfl⟩
  rw [← hov] at o1 o2
  obtain ⟨go, hgo⟩ : ∃ go, go = gos A bk (-1) p W := ⟨_, rfl⟩
  have eg : go = if A p 15 = 1 then false else if b = true then true else if ov ≤ A p 3 then false else true := by
    rw [hgo, hb]
    unfold gos
    rw [if_neg pm]
    by_cases y : W - A p 0 ≤ A p 3
    · rw [if_pos y, if_pos (o1.mpr y)]
    · rw [if_neg y, if_neg (fun z => y (o1.mp z))]
  have el : lef A (-1) hr go p W = (if go = true then W else if A p 15 = 1 then W else ov) + (if hr = true then A p 1 else 0) := by
    unfold lef
    rw [if_neg pm, ← o2]
  rw [← hgo]
  -- what is left behind the water
  have T : ∀ (X : MM) (w43 w47 : Int32), Fx_M_passX_J214 (iN p) v X w43 w47 = ms X 175 p (w43 + w47) := by
    intro X w43 w47
    unfold Fx_M_passX_J214 Fx_M_passX_J239
    rw [cp, xqb, k26, if_neg pm, xqb, xqb, ms_2]
  have T2 : ∀ (X : MM) (w43 : Int32), Fx_M_passX_J199 (iN p) v hr X w43 = ms X 175 p (w43 + (if hr = true then A p 1 else 0)) := by
    intro X w43
    unfold Fx_M_passX_J199
    rw [T, T, show mof v (iN p) (1 : Int32) = A p 1 from r 1 (by decide)]
    by_cases y : hr = true
    · rw [if_pos y, if_pos y]
    · rw [if_neg y, if_neg y]
  have T3 : ∀ X : MM, X 173 p = W → Fx_M_passX_J144 (iN p) v hr X ov (bI go) = ms (ms X 162 31 (if go = true then w ||| bt p else w)) 175 p ((if go = true then W else if A p 15 = 1 then W else ov) + (if hr = true then A p 1 else 0)) := by
    intro X hX
    unfold Fx_M_passX_J144 Fx_M_passX_J163
    rw [cp, hw, show mof v (iN p) (15 : Int32) = A p 15 from r 15 (by decide)]
    cases go
    · rw [if_pos (show bI false = 0 from rfl), xqb, if_pos (show bI false = 0 from rfl), Int32.or_zero, if_neg Bool.false_ne_true, if_neg Bool.false_ne_true, xqb, T2, T2, ms_c1 (by decide), hX]
      by_cases y : A p 15 = 1
      · rw [if_pos y, if_pos y]
      · rw [if_neg y, if_neg y]
    · rw [if_neg (show ¬ bI true = 0 by decide), xqb, if_neg (show ¬ bI true = 0 by decide), xqb, T2, ms_c1 (by decide), hX, if_pos rfl, if_pos rfl]
      rfl
  have T4 : ∀ X : MM, X 173 p = W → Fx_M_passX_J104 (iN p) (bI b) v hr X ov = Fx_M_passX_J144 (iN p) v hr X ov (bI go) := by
    intro X hX
    unfold Fx_M_passX_J104
    rw [show mof v (iN p) (15 : Int32) = A p 15 from r 15 (by decide), show mof v (iN p) (3 : Int32) = A p 3 from r 3 (by decide), k26, if_neg pm, eg]
    rcases n6 with y | y
    · rw [if_pos y, if_neg (show ¬ A p 15 = 1 by rw [y]; decide)]
      cases b
      · rw [if_pos (show bI false = 0 from rfl), if_neg Bool.false_ne_true]
        by_cases z : ov ≤ A p 3
        · rw [if_pos z, if_pos z]; rfl
        · rw [if_neg z, if_neg z]; rfl
      · rw [if_neg (show ¬ bI true = 0 by decide), if_pos rfl]; rfl
    · rw [if_neg (show ¬ A p 15 = 0 by rw [y]; decide), if_pos y]; rfl
  have e0 : Fx_M_passX (iN p) st (bI b) v g = ms (ms (ms (ms v 162 32 (if hr = true then hd ||| bt p else hd)) 173 p W) 162 31 (if go = true then w ||| bt p else w)) 175 p (lef A (-1) hr go p W) := by
    have J : Fx_M_passX (iN p) st (bI b) v g = Fx_M_passX_J104 (iN p) (bI b) v hr (ms (ms v 162 32 (if hr = true then hd ||| bt p else hd)) 173 p W) ov := by
      unfold Fx_M_passX Fx_M_passX_J24 Fx_M_passX_J70
      rw [mh_X h n9 hp hw, ← hhr, xqb, cp, hh, show mof v (iN p) (0 : Int32) = A p 0 from r 0 (by decide), show mof v (iN p) (1 : Int32) = A p 1 from r 1 (by decide), show mof v (iN p) (2 : Int32) = A p 2 from r 2 (by decide)]
      have fin : ∀ (X : MM), X 173 p = W → (xq_lt (X 173 p) fun v18 => if v18 ≤ A p 0 then Fx_M_passX_J104 (iN p) (bI b) v hr X 0 else (xq_lt (X 173 p) fun v67 => Fx_M_passX_J104 (iN p) (bI b) v hr X (v67 - A p 0))) = Fx_M_passX_J104 (iN p) (bI b) v hr X ov := by
        intro X hX
        rw [xqb, xqb, hX, hov]
        by_cases y : W ≤ A p 0
        · rw [if_pos y, if_pos y]
        · rw [if_neg y, if_neg y]
      have eW : ((A p 1 + st * A p 2) + c) - (if hr = true then A p 1 else 0) = W := wt_e.trans hW.symm
      by_cases y : hr = true
      · rw [if_pos y] at eW ⊢
        rw [xqb, xqb, if_pos y, if_pos y, ms_c1 (by decide), hc, xqb, eW]
        exact fin _ ms_e1
      · rw [if_neg y] at eW ⊢
        rw [xqb, xqb, if_neg y, if_neg y, Int32.or_zero, ms_c1 (by decide), hc, xqb, eW]
        exact fin _ ms_e1
    rw [J, T4 _ ms_e1, T3 _ ms_e1, el]
  refine ⟨_, e0, ?_, ?_, ?_, ?_, fun c c1 c2 c3 => ?_, fun j j1 j2 => ?_⟩
  · rw [ms_c1 (by decide), ms_e1]
  · rw [ms_c1 (by decide), ms_i1 (by decide), ms_c1 (by decide), ms_e1]
  · rw [ms_c1 (by decide), ms_c1 (by decide), ms_a1, ms_c1 (by decide)]
  · rw [ms_a1, ms_c1 (by decide), ms_c1 (by decide), ms_c1 (by decide)]
  · rw [ms_c1 c3, ms_c1 c1, ms_c1 c2, ms_c1 c1]
  · rw [ms_c1 (by decide), ms_i1 j1, ms_c1 (by decide), ms_i1 j2]
/-- the reference's memory behind the first p ponds -/
def RS (v : MM) (s : ST) (n p : Nat) : Prop := v 162 31 = s.1 ∧ v 162 32 = s.2.1 ∧ v 162 33 = s.2.2.1 ∧ (∀ j, p ≤ j → j < n → v 174 j = s.2.2.2.1 j) ∧ (∀ j, j < p → v 173 j = s.2.2.2.1 j) ∧ ∀ j, j < p → v 175 j = s.2.2.2.2 j
/-- what came is no more than -/
def BW (s : ST) (n p : Nat) : Prop := ∀ j, p ≤ j → j < n → Bd 0 (105 * ((2 ^ p : Nat) : Int) - 105) (s.2.2.2.1 j)
theorem lk_has {n p : Nat} {d : Int32} (h : LK n p d) (n9 : n ≤ 9) : (d = -1 ∧ hasB n d = false) ∨ ∃ q, p < q ∧ q < n ∧ d = iN q ∧ ¬ d = -1 ∧ hasB n d = true ∧ d.toNatClampNeg = q := by
  rcases h with h | ⟨q, h1, h2, h3⟩
  · exact Or.inl ⟨h, by rw [h]; rfl⟩
  · refine Or.inr ⟨q, h1, h2, h3, by rw [h3]; exact iN_nm (by omega), ?_, by rw [h3]; exact iN_cl (by omega)⟩
    unfold hasB
    rw [h3, if_neg (fun z => by have := (iN_lt (b := 0) (by omega) (by omega)).mp z; omega), if_neg (fun z => by have := (iN_le (by omega) (by omega)).mp z; omega)]
theorem lef_b {A : Nat → Nat → Int32} {n p : Nat} {st c : Int32} {hr go : Bool} {M : Int} (aw : AWF n A) (hp : p < n) (bs : Bd 0 9 st) (bc : Bd 0 M c) (hM : M ≤ 100000) : Bd 0 (M + 105) (lef A (-1) hr go p (wat A st hr p c)) := by
  obtain ⟨n1, n2, n3, n4, n5, n6, n7⟩ := num_p (hr := hr) aw hp bs bc (by omega)
  have z : (0 : Int32).toInt = 0 := rfl
  have low : ∀ K : Int, Bd 0 K (wat A st hr p c) → K ≤ 200000 → Bd 0 K (if iN p = -1 then (0 : Int32) else if go = true then wat A st hr p c else if A p 15 = 1 then wat A st hr p c else if 0 < wat A st hr p c - A p 0 then wat A st hr p c - A p 0 else 0) := by
    intro K bK hK
    have k1 := bK.1
    have k2 := bK.2
    have z0 : Bd 0 K (0 : Int32) := ⟨by omega, by omega⟩
    split
    · exact z0
    · split
      · exact bK
      · split
        · exact bK
        · split
          · rename_i q
            have q1 := Int32.lt_iff_toInt_lt.mp q
            have s := ti_sub (u := wat A st hr p c) (v := A p 0) (by have := n3.1; have := n3.2; omega) (by have := n3.1; have := n3.2; omega)
            exact ⟨by omega, by have := n3.1; omega⟩
          · exact z0
  unfold lef
  cases h : hr
  · rw [h] at low n1
    have l := low (M + 105) n1 (by omega)
    exact bd_add l (show Bd 0 0 (0 : Int32) by decide) (by omega)
  · rw [h] at low n2
    have l := low (M + 81) (n2 rfl) (by omega)
    exact bd_add l n4 (by omega)
theorem trn_b {A : Nat → Nat → Int32} {n p : Nat} {l : Int32} {K : Int} (aw : AWF n A) (hp : p < n) (bl : Bd 0 K l) (hK : K ≤ 1000000) : Bd 0 l.toInt (trn A n p l) := by
  have l1 := bl.1
  have l2 := bl.2
  have b10 : Bd 0 10 (A p 10) := (aw p hp).1 10 (by decide)
  have z : (0 : Int32).toInt = 0 := rfl
  have t10 : (10 : Int32).toInt = 10 := rfl
  unfold trn
  split
  · have m : Bd 0 (10 * l.toInt) (l * A p 10) := by
      have := bd_mul (u := l) (v := A p 10) (a := 0) (b := l.toInt) (c := 0) (e := 10) (l := 0) (h := 10 * l.toInt) ⟨l1, Int.le_refl _⟩ b10 (by omega)
      exact this
    exact bd_div m (by rw [t10]; omega)
  · exact ⟨by omega, by omega⟩
/-- what goes on from pond p -/
theorem pw_n {A : Nat → Nat → Int32} {n p : Nat} {l : Int32} {W : Nat → Int32} {M : Int} (n9 : n ≤ 9) (hp : p < n) (aw : AWF n A) (bl : Bd 0 (M + 105) l) (hM : M ≤ 100000) (hW : ∀ j, p < j → j < n → Bd 0 M (W j)) : (∀ j, j ≤ p → pW A n p l W j = W j) ∧ ∀ j, p < j → j < n → Bd 0 (2 * M + 105) (pW A n p l W j) := by
  obtain ⟨a1, l8, l9⟩ := aw p hp
  have tb := trn_b aw hp bl (by omega)
  have t1 := tb.1
  have t2 := tb.2
  have b1 := bl.1
  have b2 := bl.2
  have ts : (l - trn A n p l).toInt = l.toInt - (trn A n p l).toInt := ti_sub (by omega) (by omega)
  have z : (0 : Int32).toInt = 0 := rfl
  have pa : ∀ j, (p < j → j < n → (pA A n p l W j).toInt = (W j).toInt + (if j = (A p 9).toNatClampNeg ∧ hasB n (A p 9) = true then (trn A n p l).toInt else 0)) ∧ (j ≤ p → pA A n p l W j = W j) := by
    intro j
    unfold pA
    rcases lk_has l9 n9 with ⟨d1, d2⟩ | ⟨q, d1, d2, d3, d4, d5, d6⟩
    · rw [d2, if_neg (by decide)]
      refine ⟨fun _ _ => ?_, fun _ => rfl⟩
      rw [if_neg (fun q => absurd q.2 (by decide))]
      omega
    · have et : trn A n p l = (l * A p 10) / 10 := by unfold trn; rw [if_pos d5]
      rw [if_pos d5, d6, ← et]
      unfold upd
      refine ⟨fun j1 j2 => ?_, fun j1 => if_neg (by omega)⟩
      by_cases y : j = q
      · have w := hW q d1 d2
        have w1 := w.1
        have w2 := w.2
        rw [if_pos y, if_pos ⟨y, d5⟩, ti_add (by omega) (by omega), y]
      · rw [if_neg y, if_neg (fun z => y z.1)]
        omega
  unfold pW
  rcases lk_has l8 n9 with ⟨d1, d2⟩ | ⟨q, d1, d2, d3, d4, d5, d6⟩
  · rw [d2, if_neg (by decide)]
    refine ⟨fun j hj => (pa j).2 hj, fun j j1 j2 => ?_⟩
    have e := (pa j).1 j1 j2
    have w := hW j j1 j2
    have w1 := w.1
    have w2 := w.2
    rw [Bd, e]
    split <;> omega
  · rw [if_pos d5, d6]
    unfold upd
    refine ⟨fun j hj => ?_, fun j j1 j2 => ?_⟩
    · rw [if_neg (by omega)]
      exact (pa j).2 hj
    · have e := (pa j).1 j1 j2
      have w := hW j j1 j2
      have w1 := w.1
      have w2 := w.2
      by_cases y : j = q
      · rw [if_pos y, ← y]
        have ub : (pA A n p l W j).toInt ≤ M + (trn A n p l).toInt ∧ 0 ≤ (pA A n p l W j).toInt := by
          rw [e]
          split <;> omega
        rw [Bd, ti_add (by omega) (by omega), ts]
        omega
      · rw [if_neg y, Bd, e]
        split <;> omega
end
section
/-! the reference's storm, all of it -/
theorem p2_s {p : Nat} : ((2 ^ (p + 1) : Nat) : Int) = 2 * ((2 ^ p : Nat) : Int) := by rw [Nat.pow_succ]; omega
/-- a pond's step keeps the bounds -/
theorem bw_s {A : Nat → Nat → Int32} {n p : Nat} {st bk : Int32} {S : ST} (n9 : n ≤ 9) (hp : p < n) (aw : AWF n A) (bs : Bd 0 9 st) (h : BW S n p) : BW (stp A n st bk (-1) p S) n (p + 1) := by
  have h3 := p2_le (p := p) (by omega)
  have bc := h p (Nat.le_refl _) hp
  have bl := lef_b (hr := hrB A S.1 p) (go := gos A bk (-1) p (wat A st (hrB A S.1 p) p (S.2.2.2.1 p))) aw hp bs bc (by omega)
  have k := (pw_n (W := upd S.2.2.2.1 p (wat A st (hrB A S.1 p) p (S.2.2.2.1 p))) n9 hp aw bl (by omega) (fun j j1 j2 => by rw [show upd S.2.2.2.1 p (wat A st (hrB A S.1 p) p (S.2.2.2.1 p)) j = S.2.2.2.1 j from if_neg (by omega)]; exact h j (by omega) j2)).2
  intro j j1 j2
  refine bd_w (k j (by omega) j2) ⟨by omega, ?_⟩
  rw [p2_s]
  omega
theorem st_bw {A : Nat → Nat → Int32} {n : Nat} {st bk : Int32} (n9 : n ≤ 9) (aw : AWF n A) (bs : Bd 0 9 st) : ∀ p, p ≤ n → BW (stN A n st bk (-1) p) n p := by
  intro p
  induction p with
  | zero => intro _ j _ _; exact (show Bd 0 (105 * ((2 ^ 0 : Nat) : Int) - 105) (0 : Int32) by decide)
  | succ p ih => intro hp; exact bw_s n9 (by omega) aw bs (ih (by omega))
theorem bl_L {u : MM} {g : GG} {n : Nat} {A : Nat → Nat → Int32} {st bk : Int32} (h0 : RMA u n A) (n9 : n ≤ 9) (aw : AWF n A) (k26 : u 162 26 = -1) (bs : Bd 0 9 st) : ∀ (f p : Nat) (x : MM), n - p < f → p ≤ n → (∀ c, c ≠ 162 → c ≠ 173 → c ≠ 174 → c ≠ 175 → x c = u c) → (∀ j, j ≠ 31 → j ≠ 32 → j ≠ 33 → x 162 j = u 162 j) → RS x (stN A n st bk (-1) p) n p → ∃ y, Fx_M_blowX_L40 st bk u g f (iN p) x = y ∧ RS y (stN A n st bk (-1) n) n n ∧ (∀ c, c ≠ 162 → c ≠ 173 → c ≠ 174 → c ≠ 175 → y c = u c) ∧ ∀ j, j ≠ 31 → j ≠ 32 → j ≠ 33 → y 162 j = u 162 j := by
  intro f
  induction f with
  | zero => intro p x h1; omega
  | succ f ih =>
    intro p x h1 h2 hx hj rs
    rw [Fx_M_blowX_L40_s, h0.1]
    by_cases q : n ≤ p
    · have e : p = n := by omega
      subst e
      rw [if_pos (Int32.le_refl _)]
      exact ⟨x, rfl, rs, hx, hj⟩
    have hp : p < n := by omega
    have h3 := p2_le (p := p) (by omega)
    have bw := st_bw (bk := bk) n9 aw bs p h2
    obtain ⟨r1, r2, r3, r4, r5, r6⟩ := rs
    obtain ⟨S, hS⟩ : ∃ S, S = stN A n st bk (-1) p := ⟨_, rfl⟩
    rw [← hS] at r1 r2 r3 r4 r5 r6 bw
    have cp : (iN p).toNatClampNeg = p := iN_cl (by omega)
    have mx : RMA x n A := ma_c h0 (hj 22 (by decide) (by decide) (by decide)) (hx 172 (by decide) (by decide) (by decide) (by decide))
    obtain ⟨y, y0, y1, y2, y3, y4, y5, y6⟩ := mp_X (g := g) (st := st) (bk := bk) (b := inB bk p) mx n9 hp aw ((hj 26 (by decide) (by decide) (by decide)).trans k26) bs (r4 p (Nat.le_refl _) hp) (bw p (Nat.le_refl _) hp) (by omega) r1 r2 rfl
    obtain ⟨lv, hlv⟩ : ∃ lv, lv = lef A (-1) (hrB A S.1 p) (gos A bk (-1) p (wat A st (hrB A S.1 p) p (S.2.2.2.1 p))) p (wat A st (hrB A S.1 p) p (S.2.2.2.1 p)) := ⟨_, rfl⟩
    rw [← hlv] at y4
    obtain ⟨wt, hwt⟩ : ∃ wt, wt = wat A st (hrB A S.1 p) p (S.2.2.2.1 p) := ⟨_, rfl⟩
    rw [← hwt] at y1 y3
    have y174 : y 174 = x 174 := y5 174 (by decide) (by decide) (by decide)
    have y33 : y 162 33 = S.2.2.1 := (y6 33 (by decide) (by decide)).trans r3
    have x33 : x 162 33 = S.2.2.1 := r3
    have yl : y 175 p = lv := by rw [y4]; exact if_pos rfl
    obtain ⟨a1, l8, l9⟩ := aw p hp
    have s8 : mof u (iN p) (8 : Int32) = A p 8 := ma_r (c := 8) h0 n9 hp (by decide)
    have s9 : mof u (iN p) (9 : Int32) = A p 9 := ma_r (c := 9) h0 n9 hp (by decide)
    have s10 : mof u (iN p) (10 : Int32) = A p 10 := ma_r (c := 10) h0 n9 hp (by decide)
    -- what goes on
    have D : ∀ (X : MM), (∀ j, p < j → j < n → X 174 j = pA A n p lv S.2.2.2.1 j) → (∀ c, c ≠ 174 → X c = y c) → ∃ z, Fx_M_blowX_J121 (Fx_M_blowX_L40 st bk u g f) u (iN p) x (trn A n p lv) X = Fx_M_blowX_L40 st bk u g f (iN (p + 1)) z ∧ (∀ j, p < j → j < n → z 174 j = pW A n p lv S.2.2.2.1 j) ∧ (∀ c, c ≠ 162 → c ≠ 174 → z c = y c) ∧ (∀ j, j ≠ 33 → z 162 j = y 162 j) ∧ z 162 33 = pB A n p lv S.2.2.1 := by
      intro X hX hc
      unfold Fx_M_blowX_J121 Fx_M_blowX_J177 pW pB
      rw [s8, cp, iN_s, hc 175 (by decide), yl, x33]
      rcases lk_has l8 n9 with ⟨d1, d2⟩ | ⟨q, d1, d2, d3, d4, d5, d6⟩
      · rw [if_pos d1, xqb, xqb, d2, if_neg (by decide), if_neg (by decide)]
        refine ⟨_, rfl, fun j j1 j2 => ?_, fun c c1 c2 => ?_, fun j j1 => ?_, ?_⟩
        · rw [ms_c1 (by decide)]; exact hX j j1 j2
        · rw [ms_c1 c1, hc c c2]
        · rw [ms_i1 j1, hc 162 (by decide)]
        · rw [ms_e1]
      · rw [if_neg d4, xqb, xqb, xqb, d6, if_pos d5, if_pos d5, hX q d1 d2]
        refine ⟨_, rfl, fun j j1 j2 => ?_, fun c c1 c2 => ?_, fun j j1 => ?_, ?_⟩
        · rw [ms_a1]
          unfold upd
          by_cases w : j = q
          · rw [if_pos w, if_pos w]
          · rw [if_neg w, if_neg w]; exact hX j j1 j2
        · rw [ms_c1 c2, hc c c2]
        · rw [ms_c1 (by decide), hc 162 (by decide)]
        · rw [ms_c1 (by decide), hc 162 (by decide)]; exact y33
    have E : ∃ z, (if mof u (iN p) (9 : Int32) = ((-1) : Int32) then (Fx_M_blowX_J91 (Fx_M_blowX_L40 st bk u g f) u (iN p) x y (0 : Int32)) else (xq_lt (y 175 (iN p).toNatClampNeg) fun v637 => Fx_M_blowX_J91 (Fx_M_blowX_L40 st bk u g f) u (iN p) x y ((v637 * (mof u (iN p) (10 : Int32))) / 10))) = Fx_M_blowX_L40 st bk u g f (iN (p + 1)) z ∧ (∀ j, p < j → j < n → z 174 j = pW A n p lv S.2.2.2.1 j) ∧ (∀ c, c ≠ 162 → c ≠ 174 → z c = y c) ∧ (∀ j, j ≠ 33 → z 162 j = y 162 j) ∧ z 162 33 = pB A n p lv S.2.2.1 := by
      unfold Fx_M_blowX_J91
      rw [s9, s10, cp, yl]
      rcases lk_has l9 n9 with ⟨d1, d2⟩ | ⟨q, d1, d2, d3, d4, d5, d6⟩
      · have et : trn A n p lv = 0 := by unfold trn; rw [d2, if_neg (by decide)]
        rw [if_pos d1, if_pos d1, ← et]
        refine D y (fun j j1 j2 => ?_) (fun _ _ => rfl)
        unfold pA
        rw [d2, if_neg (by decide), y174]
        exact r4 j (by omega) j2
      · have et : trn A n p lv = (lv * A p 10) / 10 := by unfold trn; rw [if_pos d5]
        rw [if_neg d4, xqb, if_neg d4, xqb, xqb, d6, ← et, y174, r4 q (by omega) d2]
        refine D _ (fun j j1 j2 => ?_) (fun c hc => ms_c1 hc)
        rw [ms_a1, y174]
        unfold pA upd
        rw [if_pos d5, d6, ← et]
        by_cases w : j = q
        · rw [if_pos w, if_pos w]
        · rw [if_neg w, if_neg w]; exact r4 j (by omega) j2
    obtain ⟨z, z0, z1, z2, z3, z4⟩ := E
    rw [if_neg (fun w => q ((iN_le (by omega) (by omega)).mp w)), xqb, hasI, xqb, y0]
    have z0' : (if mof u (iN p) (9 : Int32) = ((-1) : Int32) then (Fx_M_blowX_J91 (Fx_M_blowX_L40 st bk u g f) u (iN p) x y (0 : Int32)) else (xq_lt (y 175 (iN p).toNatClampNeg) fun v637 => Fx_M_blowX_J91 (Fx_M_blowX_L40 st bk u g f) u (iN p) x y ((v637 * (mof u (iN p) (10 : Int32))) / 10))) = Fx_M_blowX_L40 st bk u g f (iN (p + 1)) z := z0
    rw [z0']
    have lo := (pw_n (l := lv) (W := upd S.2.2.2.1 p wt) (M := 105 * ((2 ^ p : Nat) : Int) - 105) n9 hp aw (by rw [hlv]; exact lef_b aw hp bs (bw p (Nat.le_refl _) hp) (by omega)) (by omega) (fun j j1 j2 => by rw [show upd S.2.2.2.1 p wt j = S.2.2.2.1 j from if_neg (by omega)]; exact bw j (by omega) j2)).1
    -- targets lie behind p
    have up : ∀ j, p < j → j < n → pW A n p lv (upd S.2.2.2.1 p wt) j = pW A n p lv S.2.2.2.1 j := by
      intro j j1 j2
      have ea : ∀ i, p < i → pA A n p lv (upd S.2.2.2.1 p wt) i = pA A n p lv S.2.2.2.1 i := by
        intro i i1
        unfold pA
        rcases lk_has l9 n9 with ⟨d1, d2⟩ | ⟨q, d1, d2, d3, d4, d5, d6⟩
        · rw [d2, if_neg (by decide), if_neg (by decide)]
          exact if_neg (by omega)
        · rw [if_pos d5, if_pos d5, d6]
          unfold upd
          by_cases w : i = q
          · rw [if_pos w, if_pos w, if_neg (by omega)]
          · rw [if_neg w, if_neg w, if_neg (by omega)]
      unfold pW
      rcases lk_has l8 n9 with ⟨d1, d2⟩ | ⟨q, d1, d2, d3, d4, d5, d6⟩
      · rw [d2, if_neg (by decide), if_neg (by decide)]
        exact ea j j1
      · rw [if_pos d5, if_pos d5, d6, ea q d1]
        unfold upd
        by_cases w : j = q
        · rw [if_pos w, if_pos w]
        · rw [if_neg w, if_neg w]; exact ea j j1
    have eS : stN A n st bk (-1) (p + 1) = stq A n (-1) p S (hrB A S.1 p) (gos A bk (-1) p wt) wt := by
      rw [hwt, hS]; rfl
    refine ih (p + 1) z (by omega) (by omega) (fun c c1 c2 c3 c4 => ?_) (fun j j1 j2 j3 => ?_) ?_
    · rw [z2 c c1 c3, y5 c c1 c2 c4, hx c c1 c2 c3 c4]
    · rw [z3 j j3, y6 j j1 j2, hj j j1 j2 j3]
    · rw [eS]
      unfold stq
      rw [hwt] at eS
      refine ⟨?_, ?_, ?_, fun j j1 j2 => ?_, fun j j1 => ?_, fun j j1 => ?_⟩
      · rw [z3 31 (by decide), y1, hwt]
      · rw [z3 32 (by decide), y2]
      · rw [z4, hwt, hlv]
      · rw [z1 j (by omega) j2, ← up j (by omega) j2, hwt, hlv]
      · show z 173 j = pW A n p (lef A (-1) (hrB A S.1 p) (gos A bk (-1) p wt) p wt) (upd S.2.2.2.1 p wt) j
        have el : lef A (-1) (hrB A S.1 p) (gos A bk (-1) p wt) p wt = lv := by rw [hlv, hwt]
        rw [el, lo j (by omega), z2 173 (by decide) (by decide), y3]
        unfold upd
        by_cases w : j = p
        · rw [if_pos w, if_pos w]
        · rw [if_neg w, if_neg w]; exact r5 j (by omega)
      · show z 175 j = upd S.2.2.2.2 p (lef A (-1) (hrB A S.1 p) (gos A bk (-1) p wt) p wt) j
        have el : lef A (-1) (hrB A S.1 p) (gos A bk (-1) p wt) p wt = lv := by rw [hlv, hwt]
        rw [el, z2 175 (by decide) (by decide), y4]
        unfold upd
        by_cases w : j = p
        · rw [if_pos w, if_pos w]
        · rw [if_neg w, if_neg w]; exact r6 j (by omega)
theorem bc_L {u : MM} {g : GG} {n : Nat} {st bk : Int32} (h : u 162 22 = iN n) (n9 : n ≤ 9) : ∀ (f i : Nat) (x : MM), n - i < f → i ≤ n → ∃ y, Fx_M_blowX_L17 st bk u g f (iN i) x = Fx_M_blowX_L40 st bk u g 10 (iN 0) y ∧ (∀ j, y 174 j = if i ≤ j ∧ j < n then 0 else x 174 j) ∧ ∀ c, c ≠ 174 → y c = x c := by
  intro f
  induction f with
  | zero => intro i x h1; omega
  | succ f ih =>
    intro i x h1 h2
    rw [Fx_M_blowX_L17_s, h]
    by_cases c : n ≤ i
    · rw [if_pos ((iN_le (by omega) (by omega)).mpr c)]
      have e10 : (9 - (0 : Int32).toInt).toNat + 1 = 10 := by decide
      rw [e10]
      exact ⟨x, rfl, fun j => by rw [if_neg (by omega)], fun _ _ => rfl⟩
    · rw [if_neg (fun q => c ((iN_le (by omega) (by omega)).mp q)), xqb, iN_s, iN_cl (by omega)]
      obtain ⟨y, y1, y2, y3⟩ := ih (i + 1) (ms x 174 i 0) (by omega) (by omega)
      refine ⟨y, y1, fun j => ?_, fun c hc => (y3 c hc).trans (ms_c1 hc)⟩
      rw [y2 j]
      by_cases q : j = i
      · rw [if_neg (by omega), q, ms_e1, if_pos (by omega)]
      · rw [ms_i1 q]
        by_cases q2 : i ≤ j ∧ j < n
        · rw [if_pos (by omega), if_pos q2]
        · rw [if_neg (by omega), if_neg q2]
/-- the reference's storm -/
theorem rbl_X {v : MM} {g : GG} {n : Nat} {A : Nat → Nat → Int32} {st bk : Int32} (h : RMA v n A) (n9 : n ≤ 9) (aw : AWF n A) (k26 : v 162 26 = -1) (bs : Bd 0 9 st) : ∃ y, Fx_M_blowX st bk v g = y ∧ RS y (stN A n st bk (-1) n) n n ∧ (∀ c, c ≠ 162 → c ≠ 173 → c ≠ 174 → c ≠ 175 → y c = v c) ∧ ∀ j, j ≠ 31 → j ≠ 32 → j ≠ 33 → y 162 j = v 162 j := by
  unfold Fx_M_blowX
  have e10 : (9 - (0 : Int32).toInt).toNat + 1 = 10 := by decide
  rw [xqb, xqb, xqb, e10]
  obtain ⟨x, hx⟩ : ∃ x, x = ms (ms (ms v 162 31 0) 162 32 0) 162 33 0 := ⟨_, rfl⟩
  rw [← hx]
  have xc : ∀ c, c ≠ 162 → x c = v c := fun c hc => by rw [hx, ms_c1 hc, ms_c1 hc, ms_c1 hc]
  have xj : ∀ j, j ≠ 31 → j ≠ 32 → j ≠ 33 → x 162 j = v 162 j := fun j j1 j2 j3 => by rw [hx, ms_i1 j3, ms_i1 j2, ms_i1 j1]
  obtain ⟨y, y1, y2, y3⟩ := bc_L (u := v) (g := g) (st := st) (bk := bk) h.1 n9 10 0 x (by omega) (by omega)
  have y1' : Fx_M_blowX_L17 st bk v g 10 0 x = Fx_M_blowX_L40 st bk v g 10 (iN 0) y := y1
  rw [y1']
  have y162 : y 162 = x 162 := y3 162 (by decide)
  exact bl_L h n9 aw k26 bs 10 0 y (by omega) (by omega) (fun c c1 c2 c3 c4 => (y3 c c3).trans (xc c c1)) (fun j j1 j2 j3 => by rw [y162]; exact xj j j1 j2 j3) ⟨by rw [y162, hx]; rfl, by rw [y162, hx]; rfl, by rw [y162, hx]; rfl, fun j j1 j2 => by rw [y2 j, if_pos ⟨Nat.zero_le _, j2⟩]; rfl, fun j hj => by omega, fun j hj => by omega⟩
/-- harm, as the reference adds it -/
def hro (A : Nat → Nat → Int32) (o s : Int32) : Nat → Int32
  | 0 => 0
  | p + 1 => hro A o s p + (if inB s p = true ∧ (o = -1 ∨ A p 6 = o) then A p 5 else 0)
theorem ho_L {v : MM} {g : GG} {n : Nat} {A : Nat → Nat → Int32} {o : Int32} (h : RMA v n A) (n9 : n ≤ 9) : ∀ (f p : Nat), n - p < f → p ≤ n → Fx_M_harmOfX_L4 o v g f (hro A o (v 162 31) p) (iN p) = hro A o (v 162 31) n := by
  intro f
  induction f with
  | zero => intro p h1; omega
  | succ f ih =>
    intro p h1 h2
    rw [Fx_M_harmOfX_L4_s, h.1]
    by_cases q : n ≤ p
    · rw [if_pos ((iN_le (by omega) (by omega)).mpr q), show p = n by omega]
    · rw [if_neg (fun z => q ((iN_le (by omega) (by omega)).mp z)), xqb, hasI]
      unfold Fx_M_harmOfX_J50
      rw [iN_s, show mof v (iN p) (5 : Int32) = A p 5 from ma_r (c := 5) h n9 (by omega) (by decide), show mof v (iN p) (6 : Int32) = A p 6 from ma_r (c := 6) h n9 (by omega) (by decide)]
      have e : hro A o (v 162 31) (p + 1) = hro A o (v 162 31) p + (if inB (v 162 31) p = true ∧ (o = -1 ∨ A p 6 = o) then A p 5 else 0) := rfl
      have k := ih (p + 1) (by omega) (by omega)
      rw [e] at k
      by_cases z : inB (v 162 31) p = true
      · rw [if_pos z]
        by_cases y : o = -1
        · rw [if_pos y]
          rw [if_pos ⟨z, Or.inl y⟩] at k
          exact k
        · rw [if_neg y]
          by_cases w : A p 6 = o
          · rw [if_pos w]
            rw [if_pos ⟨z, Or.inr w⟩] at k
            exact k
          · rw [if_neg w]
            rw [if_neg (fun t => t.2.elim y w)] at k
            exact k
      · rw [if_neg z]
        rw [if_neg (fun t => z t.1)] at k
        exact k
theorem ho_X {v : MM} {g : GG} {n : Nat} {A : Nat → Nat → Int32} {o : Int32} (h : RMA v n A) (n9 : n ≤ 9) : Fx_M_harmOfX o v g = hro A o (v 162 31) n := by
  unfold Fx_M_harmOfX
  have e : (9 - (0 : Int32).toInt).toNat + 1 = 10 := by decide
  rw [e]
  exact ho_L h n9 10 0 (by omega) (by omega)
end
