/-! the works of a plan, one by one -/
theorem xqc2 {α β γ : Type} {P : α × β} {K : α → β → γ} : xq_c2 P K = K P.1 P.2 := rfl
/-- what the works of plan k (of the class in cell W) are, on both sides -/
def WKS (x y : MM) (W k m : Nat) : Prop := y 169 (37 * k) = iN m ∧ m ≤ 12 ∧ (∀ i, i < m → x (W + 1) i = y 169 (37 * k + (1 + 3 * i)) ∧ x (W + 2) i = y 169 (37 * k + (2 + 3 * i)) ∧ x (W + 3) i = y 169 (37 * k + (3 + 3 * i))) ∧ ∀ i, i < 12 → (y 169 (37 * k + (1 + 3 * i)) = 4 ∨ Bd 0 999 (y 169 (37 * k + (3 + 3 * i)))) ∧ Bd 0 999 (y 169 (37 * k + (2 + 3 * i)))
theorem wks_c {x y x2 y2 : MM} {W k m : Nat} (h : WKS x y W k m) (e1 : x2 (W + 1) = x (W + 1)) (e2 : x2 (W + 2) = x (W + 2)) (e3 : x2 (W + 3) = x (W + 3)) (e : y2 169 = y 169) : WKS x2 y2 W k m := by
  unfold WKS
  rw [e1, e2, e3, e]
  exact h
theorem wi_1 {k i : Nat} (hk : k ≤ 12) (hi : i ≤ 12) : ((((37 : Int32) * iN k) + 1) + ((3 : Int32) * iN i)).toNatClampNeg = 37 * k + (1 + 3 * i) := by
  show (((iN 37 * iN k) + iN 1) + (iN 3 * iN i)).toNatClampNeg = _
  rw [iN_m, iN_m, iN_a, iN_a, iN_cl (by omega)]
  omega
theorem wi_2 {k i : Nat} (hk : k ≤ 12) (hi : i ≤ 12) : (((((37 : Int32) * iN k) + 1) + ((3 : Int32) * iN i)) + 1).toNatClampNeg = 37 * k + (2 + 3 * i) := by
  show ((((iN 37 * iN k) + iN 1) + (iN 3 * iN i)) + iN 1).toNatClampNeg = _
  rw [iN_m, iN_m, iN_a, iN_a, iN_a, iN_cl (by omega)]
  omega
theorem wi_3 {k i : Nat} (hk : k ≤ 12) (hi : i ≤ 12) : (((((37 : Int32) * iN k) + 1) + ((3 : Int32) * iN i)) + 2).toNatClampNeg = 37 * k + (3 + 3 * i) := by
  show ((((iN 37 * iN k) + iN 1) + (iN 3 * iN i)) + iN 2).toNatClampNeg = _
  rw [iN_m, iN_m, iN_a, iN_a, iN_a, iN_cl (by omega)]
  omega
theorem wi_0 {k : Nat} (hk : k ≤ 12) : ((37 : Int32) * iN k).toNatClampNeg = 37 * k := by
  show (iN 37 * iN k).toNatClampNeg = _
  rw [iN_m, iN_cl (by omega)]
theorem hwf_u {q c : Nat} {z : Int32} {R : Nat → Int32} (h : HWF R) (hc : c < 16) (b : Bd (cLo c) (cHi c) z) (l : ∀ n, n ≤ 9 → R 0 = iN n → c = 8 ∨ c = 9 → LK n q z) : HWF (upd R (13 + 16 * q + c) z) := by
  have u : ∀ j, j < 13 → upd R (13 + 16 * q + c) z j = R j := fun j hj => if_neg (by omega)
  refine ⟨hwp_u h.1 hc b l, ?_, ?_⟩
  · rw [u 1 (by decide)]; exact h.2.1
  · have h3 := h.2.2
    unfold sm at h3 ⊢
    rw [u 1 (by decide), u 6 (by decide), u 8 (by decide), u 10 (by decide), u 12 (by decide)]
    exact h3
theorem hwf_o {q : Nat} {v : MM} {g : GG} {x : Int32} (h : HWF (v 172)) (hq : q < 9) : HWF ((xq_lt (ms v 162 25 x) fun y => xq_lt (Fx_M_setX (iN q) (1 : Int32) (0 : Int32) y g) fun y2 => xq_lt (Fx_M_setX (iN q) (0 : Int32) (0 : Int32) y2 g) fun y3 => xq_lt (Fx_M_setX (iN q) (4 : Int32) (0 : Int32) y3 g) fun y4 => xq_lt (Fx_M_setX (iN q) (15 : Int32) (1 : Int32) y4 g) fun y5 => (true, y5)).2 172) := by
  rw [xqb, xqb, xqb, xqb, xqb]
  have s1 : ∀ (y : MM) (z : Int32), Fx_M_setX (iN q) (1 : Int32) z y g = ms y 172 (13 + 16 * q + 1) z := fun y z => msE (c := 1) hq (by decide)
  have s0 : ∀ (y : MM) (z : Int32), Fx_M_setX (iN q) (0 : Int32) z y g = ms y 172 (13 + 16 * q + 0) z := fun y z => msE (c := 0) hq (by decide)
  have s4 : ∀ (y : MM) (z : Int32), Fx_M_setX (iN q) (4 : Int32) z y g = ms y 172 (13 + 16 * q + 4) z := fun y z => msE (c := 4) hq (by decide)
  have s15 : ∀ (y : MM) (z : Int32), Fx_M_setX (iN q) (15 : Int32) z y g = ms y 172 (13 + 16 * q + 15) z := fun y z => msE (c := 15) hq (by decide)
  rw [s1, s0, s4, s15]
  show HWF (ms (ms (ms (ms (ms v 162 25 x) 172 (13 + 16 * q + 1) 0) 172 (13 + 16 * q + 0) 0) 172 (13 + 16 * q + 4) 0) 172 (13 + 16 * q + 15) 1 172)
  rw [ms_a1, ms_a1, ms_a1, ms_a1, ms_c1 (by decide)]
  exact hwf_u (hwf_u (hwf_u (hwf_u h (by decide) (show Bd 0 24 (0 : Int32) by decide) (fun _ _ _ y => by omega)) (by decide) (show Bd 0 24 (0 : Int32) by decide) (fun _ _ _ y => by omega)) (by decide) (show Bd 0 10 (0 : Int32) by decide) (fun _ _ _ y => by omega)) (by decide) (show Bd 0 1 (1 : Int32) by decide) (fun _ _ _ y => by omega)
theorem snd_ms {b : Bool} {u : MM} {a i c : Nat} {z : Int32} (h : c ≠ a) : ((b, ms u a i z) : Bool × MM).2 c = u c := ms_c1 h
/-- a work keeps the hill in order -/
theorem do_W {v : MM} {g : GG} {kind p much : Int32} (h : HWF (v 172)) (e22 : v 162 22 = v 172 0) (bp : Bd 0 999 p) (bm : kind = 4 ∨ Bd 0 999 much) : HWF ((Fx_M_doesX kind p much v g).2 172) := by
  obtain ⟨n, m, n9, m4, f0, f1, hr, hd, hp⟩ := h.1
  obtain ⟨q, hq, q999⟩ := iN_ex (hi := 999) bp
  have gate : ∀ B : Bool × MM, (q < n → HWF (B.2 172)) → HWF ((if v 162 22 ≤ p then (false, v) else if mof v p (15 : Int32) = 1 then (false, v) else B).2 172) := by
    intro B k
    by_cases c : v 162 22 ≤ p
    · rw [if_pos c]; exact h
    · rw [if_neg c]
      by_cases y : mof v p (15 : Int32) = 1
      · rw [if_pos y]; exact h
      · rw [if_neg y]
        refine k ?_
        have c1 := Int32.lt_iff_toInt_lt.mp (i_nle c)
        rw [hq, e22, f0, iN_ti (by omega), iN_ti (by omega)] at c1
        omega
  have rd : q < n → ∀ c, c < 16 → mof v (iN q) (iN c) = v 172 (13 + 16 * q + c) := fun hl c hc => mofE (by omega) hc
  unfold Fx_M_doesX
  by_cases k4 : kind = 4
  · rw [if_pos k4]
    refine gate _ (fun hl => ?_)
    rw [k4, if_neg (by decide), if_neg (by decide), if_neg (by decide), if_neg (by decide), hq]
    exact hwf_o h (by omega)
  rw [if_neg k4]
  have bm2 := bm.resolve_left k4
  have m1 := bm2.1
  refine gate _ (fun hl => ?_)
  obtain ⟨p1, p2, p3⟩ := hp q hl
  rw [hq]
  by_cases k0 : kind = 0
  · rw [if_pos k0, show mof v (iN q) (4 : Int32) = v 172 (13 + 16 * q + 4) from rd hl 4 (by decide)]
    by_cases y : much ≤ v 172 (13 + 16 * q + 4)
    · have b4 : Bd 0 10 (v 172 (13 + 16 * q + 4)) := p1 4 (by decide)
      have y1 := Int32.le_iff_toInt_le.mp y
      have b1 := b4.1
      have b2 := b4.2
      have s := ti_sub (u := v 172 (13 + 16 * q + 4)) (v := much) (by omega) (by omega)
      rw [if_pos y, xqb, xqb, show ∀ z : Int32, Fx_M_setX (iN q) (4 : Int32) z v g = ms v 172 (13 + 16 * q + 4) z from fun z => msE (c := 4) (by omega) (by decide)]
      rw [snd_ms (by decide), ms_a1]
      exact hwf_u h (by decide) (show Bd 0 10 _ from ⟨by omega, by omega⟩) (fun _ _ _ y => by omega)
    · rw [if_neg y]; exact h
  rw [if_neg k0]
  by_cases k1 : kind = 1
  · rw [if_pos k1, show mof v (iN q) (1 : Int32) = v 172 (13 + 16 * q + 1) from rd hl 1 (by decide)]
    by_cases y : much ≤ v 172 (13 + 16 * q + 1)
    · have b4 : Bd 0 24 (v 172 (13 + 16 * q + 1)) := p1 1 (by decide)
      have y1 := Int32.le_iff_toInt_le.mp y
      have b1 := b4.1
      have b2 := b4.2
      have s := ti_sub (u := v 172 (13 + 16 * q + 1)) (v := much) (by omega) (by omega)
      rw [if_pos y, xqb, xqb, show ∀ z : Int32, Fx_M_setX (iN q) (1 : Int32) z v g = ms v 172 (13 + 16 * q + 1) z from fun z => msE (c := 1) (by omega) (by decide)]
      rw [snd_ms (by decide), ms_a1]
      exact hwf_u h (by decide) (show Bd 0 24 _ from ⟨by omega, by omega⟩) (fun _ _ _ y => by omega)
    · rw [if_neg y]; exact h
  rw [if_neg k1]
  by_cases k2 : kind = 2
  · rw [if_pos k2, show mof v (iN q) (3 : Int32) = v 172 (13 + 16 * q + 3) from rd hl 3 (by decide)]
    by_cases y : v 172 (13 + 16 * q + 3) + much ≤ 24
    · have b4 : Bd 0 24 (v 172 (13 + 16 * q + 3)) := p1 3 (by decide)
      have y1 := Int32.le_iff_toInt_le.mp y
      have b1 := b4.1
      have b2 := b4.2
      have m2 := bm2.2
      have s := ti_add (u := v 172 (13 + 16 * q + 3)) (v := much) (by omega) (by omega)
      have e24 : (24 : Int32).toInt = 24 := rfl
      rw [if_pos y, xqb, xqb, show ∀ z : Int32, Fx_M_setX (iN q) (3 : Int32) z v g = ms v 172 (13 + 16 * q + 3) z from fun z => msE (c := 3) (by omega) (by decide)]
      rw [snd_ms (by decide), ms_a1]
      exact hwf_u h (by decide) (show Bd 0 24 _ from ⟨by omega, by omega⟩) (fun _ _ _ y => by omega)
    · rw [if_neg y]; exact h
  rw [if_neg k2]
  by_cases k3 : kind = 3
  · rw [if_pos k3, xqb, in_X, e22, f0]
    obtain ⟨r, hr', r999⟩ := iN_ex (hi := 999) bm2
    have tr : much.toInt = r := by rw [hr', iN_ti (by omega)]
    have l1 : (1 : Int32).toInt = 1 := rfl
    have tq1 : (iN q + 1).toInt = q + 1 := by rw [iN_s, iN_ti (by omega)]; omega
    have tn1 : (iN n - 1).toInt = (n : Int) - 1 := by rw [ti_sub (by rw [iN_ti (by omega)]; omega) (by rw [iN_ti (by omega)]; omega), iN_ti (by omega), l1]
    by_cases y : r < n ∧ q < r
    · rw [if_pos (inT (by omega) (by omega)), xqb, xqb, show ∀ z : Int32, Fx_M_setX (iN q) (8 : Int32) z v g = ms v 172 (13 + 16 * q + 8) z from fun z => msE (c := 8) (by omega) (by decide)]
      rw [snd_ms (by decide), ms_a1]
      refine hwf_u h (by decide) (show Bd (-1) 8 _ from ⟨by omega, by omega⟩) (fun n' n9' e0 _ => ?_)
      have en : n' = n := (iN_eq (by omega) (by omega)).mp (e0.symm.trans f0)
      exact Or.inr ⟨r, y.2, by omega, hr'⟩
    · rw [if_neg (inF (by omega))]
      exact h
  rw [if_neg k3]
  exact hwf_o h (by omega)
theorem ly_5_15 {u : MM} {g g' : GG} {k m : Nat} (hu : u 15 0 = iN m) (hk : k ≤ 12) : ∀ (r f1 f2 w : Nat) (x y : MM), m - w ≤ r → w ≤ m → r < f1 → r < f2 → SIT x y → y 162 23 = iN w → Bd 0 9 (y 172 0) → WKS x y 15 k m → HWF (y 172) → ∃ x2 y2, Fx_Si_lay_5_15X_L25 u g f1 (iN w) x = x2 ∧ Fx_M_layX_L102 (iN k) g' f2 1 y = (true, y2) ∧ SIT x2 y2 ∧ (∀ c, c ≠ 43 → c ≠ 45 → x2 c = x c) ∧ (∀ c, c ≠ 162 → c ≠ 172 → y2 c = y c) ∧ y2 172 0 = y 172 0 ∧ HWF (y2 172) := by
  intro r
  induction r with
  | zero =>
    intro f1 f2 w x y hr hw h1 h2 hs h23 b9 hW hF
    obtain ⟨f1, rfl⟩ : ∃ f, f1 = f + 1 := ⟨f1 - 1, by omega⟩
    obtain ⟨f2, rfl⟩ : ∃ f, f2 = f + 1 := ⟨f2 - 1, by omega⟩
    have e : w = m := by omega
    subst e
    refine ⟨x, y, ?_, ?_, hs, fun _ _ _ => rfl, fun _ _ _ => rfl, rfl, hF⟩
    · rw [Fx_Si_lay_5_15X_L25_s, hu, if_pos (Int32.le_refl _)]
    · rw [Fx_M_layX_L102_s, if_neg (by decide), xqb, wi_0 hk, hW.1, h23, if_pos (Int32.le_refl _)]
      rfl
  | succ r ih =>
    intro f1 f2 w x y hr hw h1 h2 hs h23 b9 hW hF
    obtain ⟨f1, rfl⟩ : ∃ f, f1 = f + 1 := ⟨f1 - 1, by omega⟩
    obtain ⟨f2, rfl⟩ : ∃ f, f2 = f + 1 := ⟨f2 - 1, by omega⟩
    have m12 := hW.2.1
    by_cases e : w = m
    · subst e
      refine ⟨x, y, ?_, ?_, hs, fun _ _ _ => rfl, fun _ _ _ => rfl, rfl, hF⟩
      · rw [Fx_Si_lay_5_15X_L25_s, hu, if_pos (Int32.le_refl _)]
      · rw [Fx_M_layX_L102_s, if_neg (by decide), xqb, wi_0 hk, hW.1, h23, if_pos (Int32.le_refl _)]
        rfl
    have nle : ¬ iN m ≤ iN w := fun q => by have := (iN_le (by omega) (by omega)).mp q; omega
    obtain ⟨a1, a2, a3⟩ := hW.2.2.1 w (by omega)
    obtain ⟨b1, b2⟩ := hW.2.2.2 w (by omega)
    have st := st_X (g := g) (g' := g') (kind := y 169 (37 * k + (1 + 3 * w))) (p := y 169 (37 * k + (2 + 3 * w))) (much := y 169 (37 * k + (3 + 3 * w))) hs b9 b2 b1
    rw [Fx_M_layX_L102_s, if_neg (show ¬ (1 : Int32) = 0 by decide), xqb, wi_0 hk, hW.1, h23, if_neg nle, xqb, xqb, xqb, wi_1 hk (by omega), wi_2 hk (by omega), wi_3 hk (by omega), xqc2]
    rw [Fx_Si_lay_5_15X_L25_s, hu, if_neg nle, iN_cl (by omega), xqb, xqb, xqb, a1, a2, a3, xqc2]
    obtain ⟨A, hA⟩ : ∃ A, A = Fx_Si_buildsX (y 169 (37 * k + (1 + 3 * w))) (y 169 (37 * k + (2 + 3 * w))) (y 169 (37 * k + (3 + 3 * w))) x g := ⟨_, rfl⟩
    obtain ⟨B, hB⟩ : ∃ B, B = Fx_M_doesX (y 169 (37 * k + (1 + 3 * w))) (y 169 (37 * k + (2 + 3 * w))) (y 169 (37 * k + (3 + 3 * w))) y g' := ⟨_, rfl⟩
    have dW := do_W (g := g') hF hs.2.1 b2 b1
    rw [← hA, ← hB] at st
    rw [← hB] at dW
    rw [← hA, ← hB]
    obtain ⟨s1, s2, ⟨l1, l2⟩, ⟨r1, r2, r3⟩⟩ := st
    rw [s1]
    by_cases t : B.1 = true
    · rw [if_pos t, if_pos t, xqb, xqb, t, iN_s]
      have x1 : x 43 1 = iN w := hs.2.2.1.trans h23
      have sd : SIT (ms A.2 43 1 (x 43 1 + 1)) (ms B.2 162 23 (iN (w + 1))) := sit_don s2 (by rw [x1, iN_s])
      obtain ⟨x2, y2, p1, p2, p3, p4, p5, p6, p7⟩ := ih f1 f2 (w + 1) _ _ (by omega) (by omega) (by omega) (by omega) sd (by rw [ms_e1]) (by rw [ms_c1 (by decide), r3 0 (by decide)]; exact b9) (wks_c hW (by rw [ms_c1 (by decide)]; exact l1 _ (by decide) (by decide)) (by rw [ms_c1 (by decide)]; exact l1 _ (by decide) (by decide)) (by rw [ms_c1 (by decide)]; exact l1 _ (by decide) (by decide)) (by rw [ms_c1 (by decide)]; exact r1 169 (by decide) (by decide))) (by rw [ms_c1 (by decide)]; exact dW)
      exact ⟨x2, y2, p1, p2, p3, fun c c1 c2 => by rw [p4 c c1 c2, ms_c1 c1, l1 c c1 c2], fun c c1 c2 => by rw [p5 c c1 c2, ms_c1 c1, r1 c c1 c2], by rw [p6, ms_c1 (by decide), r3 0 (by decide)], p7⟩
    · rw [if_neg t, if_neg t, xqb]
      have e0 : iN w + 0 = B.2 162 23 := by rw [Int32.add_zero, r2 23 (by decide) (by decide), h23]
      rw [e0, ms_self]
      exact ⟨A.2, B.2, rfl, rfl, s2, l1, r1, r3 0 (by decide), dW⟩
theorem ly_5_19 {u : MM} {g g' : GG} {k m : Nat} (hu : u 19 0 = iN m) (hk : k ≤ 12) : ∀ (r f1 f2 w : Nat) (x y : MM), m - w ≤ r → w ≤ m → r < f1 → r < f2 → SIT x y → y 162 23 = iN w → Bd 0 9 (y 172 0) → WKS x y 19 k m → HWF (y 172) → ∃ x2 y2, Fx_Si_lay_5_19X_L25 u g f1 (iN w) x = x2 ∧ Fx_M_layX_L102 (iN k) g' f2 1 y = (true, y2) ∧ SIT x2 y2 ∧ (∀ c, c ≠ 43 → c ≠ 45 → x2 c = x c) ∧ (∀ c, c ≠ 162 → c ≠ 172 → y2 c = y c) ∧ y2 172 0 = y 172 0 ∧ HWF (y2 172) := by
  intro r
  induction r with
  | zero =>
    intro f1 f2 w x y hr hw h1 h2 hs h23 b9 hW hF
    obtain ⟨f1, rfl⟩ : ∃ f, f1 = f + 1 := ⟨f1 - 1, by omega⟩
    obtain ⟨f2, rfl⟩ : ∃ f, f2 = f + 1 := ⟨f2 - 1, by omega⟩
    have e : w = m := by omega
    subst e
    refine ⟨x, y, ?_, ?_, hs, fun _ _ _ => rfl, fun _ _ _ => rfl, rfl, hF⟩
    · rw [Fx_Si_lay_5_19X_L25_s, hu, if_pos (Int32.le_refl _)]
    · rw [Fx_M_layX_L102_s, if_neg (by decide), xqb, wi_0 hk, hW.1, h23, if_pos (Int32.le_refl _)]
      rfl
  | succ r ih =>
    intro f1 f2 w x y hr hw h1 h2 hs h23 b9 hW hF
    obtain ⟨f1, rfl⟩ : ∃ f, f1 = f + 1 := ⟨f1 - 1, by omega⟩
    obtain ⟨f2, rfl⟩ : ∃ f, f2 = f + 1 := ⟨f2 - 1, by omega⟩
    have m12 := hW.2.1
    by_cases e : w = m
    · subst e
      refine ⟨x, y, ?_, ?_, hs, fun _ _ _ => rfl, fun _ _ _ => rfl, rfl, hF⟩
      · rw [Fx_Si_lay_5_19X_L25_s, hu, if_pos (Int32.le_refl _)]
      · rw [Fx_M_layX_L102_s, if_neg (by decide), xqb, wi_0 hk, hW.1, h23, if_pos (Int32.le_refl _)]
        rfl
    have nle : ¬ iN m ≤ iN w := fun q => by have := (iN_le (by omega) (by omega)).mp q; omega
    obtain ⟨a1, a2, a3⟩ := hW.2.2.1 w (by omega)
    obtain ⟨b1, b2⟩ := hW.2.2.2 w (by omega)
    have st := st_X (g := g) (g' := g') (kind := y 169 (37 * k + (1 + 3 * w))) (p := y 169 (37 * k + (2 + 3 * w))) (much := y 169 (37 * k + (3 + 3 * w))) hs b9 b2 b1
    rw [Fx_M_layX_L102_s, if_neg (show ¬ (1 : Int32) = 0 by decide), xqb, wi_0 hk, hW.1, h23, if_neg nle, xqb, xqb, xqb, wi_1 hk (by omega), wi_2 hk (by omega), wi_3 hk (by omega), xqc2]
    rw [Fx_Si_lay_5_19X_L25_s, hu, if_neg nle, iN_cl (by omega), xqb, xqb, xqb, a1, a2, a3, xqc2]
    obtain ⟨A, hA⟩ : ∃ A, A = Fx_Si_buildsX (y 169 (37 * k + (1 + 3 * w))) (y 169 (37 * k + (2 + 3 * w))) (y 169 (37 * k + (3 + 3 * w))) x g := ⟨_, rfl⟩
    obtain ⟨B, hB⟩ : ∃ B, B = Fx_M_doesX (y 169 (37 * k + (1 + 3 * w))) (y 169 (37 * k + (2 + 3 * w))) (y 169 (37 * k + (3 + 3 * w))) y g' := ⟨_, rfl⟩
    have dW := do_W (g := g') hF hs.2.1 b2 b1
    rw [← hA, ← hB] at st
    rw [← hB] at dW
    rw [← hA, ← hB]
    obtain ⟨s1, s2, ⟨l1, l2⟩, ⟨r1, r2, r3⟩⟩ := st
    rw [s1]
    by_cases t : B.1 = true
    · rw [if_pos t, if_pos t, xqb, xqb, t, iN_s]
      have x1 : x 43 1 = iN w := hs.2.2.1.trans h23
      have sd : SIT (ms A.2 43 1 (x 43 1 + 1)) (ms B.2 162 23 (iN (w + 1))) := sit_don s2 (by rw [x1, iN_s])
      obtain ⟨x2, y2, p1, p2, p3, p4, p5, p6, p7⟩ := ih f1 f2 (w + 1) _ _ (by omega) (by omega) (by omega) (by omega) sd (by rw [ms_e1]) (by rw [ms_c1 (by decide), r3 0 (by decide)]; exact b9) (wks_c hW (by rw [ms_c1 (by decide)]; exact l1 _ (by decide) (by decide)) (by rw [ms_c1 (by decide)]; exact l1 _ (by decide) (by decide)) (by rw [ms_c1 (by decide)]; exact l1 _ (by decide) (by decide)) (by rw [ms_c1 (by decide)]; exact r1 169 (by decide) (by decide))) (by rw [ms_c1 (by decide)]; exact dW)
      exact ⟨x2, y2, p1, p2, p3, fun c c1 c2 => by rw [p4 c c1 c2, ms_c1 c1, l1 c c1 c2], fun c c1 c2 => by rw [p5 c c1 c2, ms_c1 c1, r1 c c1 c2], by rw [p6, ms_c1 (by decide), r3 0 (by decide)], p7⟩
    · rw [if_neg t, if_neg t, xqb]
      have e0 : iN w + 0 = B.2 162 23 := by rw [Int32.add_zero, r2 23 (by decide) (by decide), h23]
      rw [e0, ms_self]
      exact ⟨A.2, B.2, rfl, rfl, s2, l1, r1, r3 0 (by decide), dW⟩
theorem ly_5_23 {u : MM} {g g' : GG} {k m : Nat} (hu : u 23 0 = iN m) (hk : k ≤ 12) : ∀ (r f1 f2 w : Nat) (x y : MM), m - w ≤ r → w ≤ m → r < f1 → r < f2 → SIT x y → y 162 23 = iN w → Bd 0 9 (y 172 0) → WKS x y 23 k m → HWF (y 172) → ∃ x2 y2, Fx_Si_lay_5_23X_L25 u g f1 (iN w) x = x2 ∧ Fx_M_layX_L102 (iN k) g' f2 1 y = (true, y2) ∧ SIT x2 y2 ∧ (∀ c, c ≠ 43 → c ≠ 45 → x2 c = x c) ∧ (∀ c, c ≠ 162 → c ≠ 172 → y2 c = y c) ∧ y2 172 0 = y 172 0 ∧ HWF (y2 172) := by
  intro r
  induction r with
  | zero =>
    intro f1 f2 w x y hr hw h1 h2 hs h23 b9 hW hF
    obtain ⟨f1, rfl⟩ : ∃ f, f1 = f + 1 := ⟨f1 - 1, by omega⟩
    obtain ⟨f2, rfl⟩ : ∃ f, f2 = f + 1 := ⟨f2 - 1, by omega⟩
    have e : w = m := by omega
    subst e
    refine ⟨x, y, ?_, ?_, hs, fun _ _ _ => rfl, fun _ _ _ => rfl, rfl, hF⟩
    · rw [Fx_Si_lay_5_23X_L25_s, hu, if_pos (Int32.le_refl _)]
    · rw [Fx_M_layX_L102_s, if_neg (by decide), xqb, wi_0 hk, hW.1, h23, if_pos (Int32.le_refl _)]
      rfl
  | succ r ih =>
    intro f1 f2 w x y hr hw h1 h2 hs h23 b9 hW hF
    obtain ⟨f1, rfl⟩ : ∃ f, f1 = f + 1 := ⟨f1 - 1, by omega⟩
    obtain ⟨f2, rfl⟩ : ∃ f, f2 = f + 1 := ⟨f2 - 1, by omega⟩
    have m12 := hW.2.1
    by_cases e : w = m
    · subst e
      refine ⟨x, y, ?_, ?_, hs, fun _ _ _ => rfl, fun _ _ _ => rfl, rfl, hF⟩
      · rw [Fx_Si_lay_5_23X_L25_s, hu, if_pos (Int32.le_refl _)]
      · rw [Fx_M_layX_L102_s, if_neg (by decide), xqb, wi_0 hk, hW.1, h23, if_pos (Int32.le_refl _)]
        rfl
    have nle : ¬ iN m ≤ iN w := fun q => by have := (iN_le (by omega) (by omega)).mp q; omega
    obtain ⟨a1, a2, a3⟩ := hW.2.2.1 w (by omega)
    obtain ⟨b1, b2⟩ := hW.2.2.2 w (by omega)
    have st := st_X (g := g) (g' := g') (kind := y 169 (37 * k + (1 + 3 * w))) (p := y 169 (37 * k + (2 + 3 * w))) (much := y 169 (37 * k + (3 + 3 * w))) hs b9 b2 b1
    rw [Fx_M_layX_L102_s, if_neg (show ¬ (1 : Int32) = 0 by decide), xqb, wi_0 hk, hW.1, h23, if_neg nle, xqb, xqb, xqb, wi_1 hk (by omega), wi_2 hk (by omega), wi_3 hk (by omega), xqc2]
    rw [Fx_Si_lay_5_23X_L25_s, hu, if_neg nle, iN_cl (by omega), xqb, xqb, xqb, a1, a2, a3, xqc2]
    obtain ⟨A, hA⟩ : ∃ A, A = Fx_Si_buildsX (y 169 (37 * k + (1 + 3 * w))) (y 169 (37 * k + (2 + 3 * w))) (y 169 (37 * k + (3 + 3 * w))) x g := ⟨_, rfl⟩
    obtain ⟨B, hB⟩ : ∃ B, B = Fx_M_doesX (y 169 (37 * k + (1 + 3 * w))) (y 169 (37 * k + (2 + 3 * w))) (y 169 (37 * k + (3 + 3 * w))) y g' := ⟨_, rfl⟩
    have dW := do_W (g := g') hF hs.2.1 b2 b1
    rw [← hA, ← hB] at st
    rw [← hB] at dW
    rw [← hA, ← hB]
    obtain ⟨s1, s2, ⟨l1, l2⟩, ⟨r1, r2, r3⟩⟩ := st
    rw [s1]
    by_cases t : B.1 = true
    · rw [if_pos t, if_pos t, xqb, xqb, t, iN_s]
      have x1 : x 43 1 = iN w := hs.2.2.1.trans h23
      have sd : SIT (ms A.2 43 1 (x 43 1 + 1)) (ms B.2 162 23 (iN (w + 1))) := sit_don s2 (by rw [x1, iN_s])
      obtain ⟨x2, y2, p1, p2, p3, p4, p5, p6, p7⟩ := ih f1 f2 (w + 1) _ _ (by omega) (by omega) (by omega) (by omega) sd (by rw [ms_e1]) (by rw [ms_c1 (by decide), r3 0 (by decide)]; exact b9) (wks_c hW (by rw [ms_c1 (by decide)]; exact l1 _ (by decide) (by decide)) (by rw [ms_c1 (by decide)]; exact l1 _ (by decide) (by decide)) (by rw [ms_c1 (by decide)]; exact l1 _ (by decide) (by decide)) (by rw [ms_c1 (by decide)]; exact r1 169 (by decide) (by decide))) (by rw [ms_c1 (by decide)]; exact dW)
      exact ⟨x2, y2, p1, p2, p3, fun c c1 c2 => by rw [p4 c c1 c2, ms_c1 c1, l1 c c1 c2], fun c c1 c2 => by rw [p5 c c1 c2, ms_c1 c1, r1 c c1 c2], by rw [p6, ms_c1 (by decide), r3 0 (by decide)], p7⟩
    · rw [if_neg t, if_neg t, xqb]
      have e0 : iN w + 0 = B.2 162 23 := by rw [Int32.add_zero, r2 23 (by decide) (by decide), h23]
      rw [e0, ms_self]
      exact ⟨A.2, B.2, rfl, rfl, s2, l1, r1, r3 0 (by decide), dW⟩
theorem ly_10_15 {u : MM} {g g' : GG} {k m : Nat} (hu : u 15 0 = iN m) (hk : k ≤ 12) : ∀ (r f1 f2 w : Nat) (x y : MM), m - w ≤ r → w ≤ m → r < f1 → r < f2 → SIT x y → y 162 23 = iN w → Bd 0 9 (y 172 0) → WKS x y 15 k m → HWF (y 172) → ∃ x2 y2, Fx_Si_lay_10_15X_L25 u g f1 (iN w) x = x2 ∧ Fx_M_layX_L102 (iN k) g' f2 1 y = (true, y2) ∧ SIT x2 y2 ∧ (∀ c, c ≠ 43 → c ≠ 45 → x2 c = x c) ∧ (∀ c, c ≠ 162 → c ≠ 172 → y2 c = y c) ∧ y2 172 0 = y 172 0 ∧ HWF (y2 172) := by
  intro r
  induction r with
  | zero =>
    intro f1 f2 w x y hr hw h1 h2 hs h23 b9 hW hF
    obtain ⟨f1, rfl⟩ : ∃ f, f1 = f + 1 := ⟨f1 - 1, by omega⟩
    obtain ⟨f2, rfl⟩ : ∃ f, f2 = f + 1 := ⟨f2 - 1, by omega⟩
    have e : w = m := by omega
    subst e
    refine ⟨x, y, ?_, ?_, hs, fun _ _ _ => rfl, fun _ _ _ => rfl, rfl, hF⟩
    · rw [Fx_Si_lay_10_15X_L25_s, hu, if_pos (Int32.le_refl _)]
    · rw [Fx_M_layX_L102_s, if_neg (by decide), xqb, wi_0 hk, hW.1, h23, if_pos (Int32.le_refl _)]
      rfl
  | succ r ih =>
    intro f1 f2 w x y hr hw h1 h2 hs h23 b9 hW hF
    obtain ⟨f1, rfl⟩ : ∃ f, f1 = f + 1 := ⟨f1 - 1, by omega⟩
    obtain ⟨f2, rfl⟩ : ∃ f, f2 = f + 1 := ⟨f2 - 1, by omega⟩
    have m12 := hW.2.1
    by_cases e : w = m
    · subst e
      refine ⟨x, y, ?_, ?_, hs, fun _ _ _ => rfl, fun _ _ _ => rfl, rfl, hF⟩
      · rw [Fx_Si_lay_10_15X_L25_s, hu, if_pos (Int32.le_refl _)]
      · rw [Fx_M_layX_L102_s, if_neg (by decide), xqb, wi_0 hk, hW.1, h23, if_pos (Int32.le_refl _)]
        rfl
    have nle : ¬ iN m ≤ iN w := fun q => by have := (iN_le (by omega) (by omega)).mp q; omega
    obtain ⟨a1, a2, a3⟩ := hW.2.2.1 w (by omega)
    obtain ⟨b1, b2⟩ := hW.2.2.2 w (by omega)
    have st := st_X (g := g) (g' := g') (kind := y 169 (37 * k + (1 + 3 * w))) (p := y 169 (37 * k + (2 + 3 * w))) (much := y 169 (37 * k + (3 + 3 * w))) hs b9 b2 b1
    rw [Fx_M_layX_L102_s, if_neg (show ¬ (1 : Int32) = 0 by decide), xqb, wi_0 hk, hW.1, h23, if_neg nle, xqb, xqb, xqb, wi_1 hk (by omega), wi_2 hk (by omega), wi_3 hk (by omega), xqc2]
    rw [Fx_Si_lay_10_15X_L25_s, hu, if_neg nle, iN_cl (by omega), xqb, xqb, xqb, a1, a2, a3, xqc2]
    obtain ⟨A, hA⟩ : ∃ A, A = Fx_Si_buildsX (y 169 (37 * k + (1 + 3 * w))) (y 169 (37 * k + (2 + 3 * w))) (y 169 (37 * k + (3 + 3 * w))) x g := ⟨_, rfl⟩
    obtain ⟨B, hB⟩ : ∃ B, B = Fx_M_doesX (y 169 (37 * k + (1 + 3 * w))) (y 169 (37 * k + (2 + 3 * w))) (y 169 (37 * k + (3 + 3 * w))) y g' := ⟨_, rfl⟩
    have dW := do_W (g := g') hF hs.2.1 b2 b1
    rw [← hA, ← hB] at st
    rw [← hB] at dW
    rw [← hA, ← hB]
    obtain ⟨s1, s2, ⟨l1, l2⟩, ⟨r1, r2, r3⟩⟩ := st
    rw [s1]
    by_cases t : B.1 = true
    · rw [if_pos t, if_pos t, xqb, xqb, t, iN_s]
      have x1 : x 43 1 = iN w := hs.2.2.1.trans h23
      have sd : SIT (ms A.2 43 1 (x 43 1 + 1)) (ms B.2 162 23 (iN (w + 1))) := sit_don s2 (by rw [x1, iN_s])
      obtain ⟨x2, y2, p1, p2, p3, p4, p5, p6, p7⟩ := ih f1 f2 (w + 1) _ _ (by omega) (by omega) (by omega) (by omega) sd (by rw [ms_e1]) (by rw [ms_c1 (by decide), r3 0 (by decide)]; exact b9) (wks_c hW (by rw [ms_c1 (by decide)]; exact l1 _ (by decide) (by decide)) (by rw [ms_c1 (by decide)]; exact l1 _ (by decide) (by decide)) (by rw [ms_c1 (by decide)]; exact l1 _ (by decide) (by decide)) (by rw [ms_c1 (by decide)]; exact r1 169 (by decide) (by decide))) (by rw [ms_c1 (by decide)]; exact dW)
      exact ⟨x2, y2, p1, p2, p3, fun c c1 c2 => by rw [p4 c c1 c2, ms_c1 c1, l1 c c1 c2], fun c c1 c2 => by rw [p5 c c1 c2, ms_c1 c1, r1 c c1 c2], by rw [p6, ms_c1 (by decide), r3 0 (by decide)], p7⟩
    · rw [if_neg t, if_neg t, xqb]
      have e0 : iN w + 0 = B.2 162 23 := by rw [Int32.add_zero, r2 23 (by decide) (by decide), h23]
      rw [e0, ms_self]
      exact ⟨A.2, B.2, rfl, rfl, s2, l1, r1, r3 0 (by decide), dW⟩
theorem ly_10_19 {u : MM} {g g' : GG} {k m : Nat} (hu : u 19 0 = iN m) (hk : k ≤ 12) : ∀ (r f1 f2 w : Nat) (x y : MM), m - w ≤ r → w ≤ m → r < f1 → r < f2 → SIT x y → y 162 23 = iN w → Bd 0 9 (y 172 0) → WKS x y 19 k m → HWF (y 172) → ∃ x2 y2, Fx_Si_lay_10_19X_L25 u g f1 (iN w) x = x2 ∧ Fx_M_layX_L102 (iN k) g' f2 1 y = (true, y2) ∧ SIT x2 y2 ∧ (∀ c, c ≠ 43 → c ≠ 45 → x2 c = x c) ∧ (∀ c, c ≠ 162 → c ≠ 172 → y2 c = y c) ∧ y2 172 0 = y 172 0 ∧ HWF (y2 172) := by
  intro r
  induction r with
  | zero =>
    intro f1 f2 w x y hr hw h1 h2 hs h23 b9 hW hF
    obtain ⟨f1, rfl⟩ : ∃ f, f1 = f + 1 := ⟨f1 - 1, by omega⟩
    obtain ⟨f2, rfl⟩ : ∃ f, f2 = f + 1 := ⟨f2 - 1, by omega⟩
    have e : w = m := by omega
    subst e
    refine ⟨x, y, ?_, ?_, hs, fun _ _ _ => rfl, fun _ _ _ => rfl, rfl, hF⟩
    · rw [Fx_Si_lay_10_19X_L25_s, hu, if_pos (Int32.le_refl _)]
    · rw [Fx_M_layX_L102_s, if_neg (by decide), xqb, wi_0 hk, hW.1, h23, if_pos (Int32.le_refl _)]
      rfl
  | succ r ih =>
    intro f1 f2 w x y hr hw h1 h2 hs h23 b9 hW hF
    obtain ⟨f1, rfl⟩ : ∃ f, f1 = f + 1 := ⟨f1 - 1, by omega⟩
    obtain ⟨f2, rfl⟩ : ∃ f, f2 = f + 1 := ⟨f2 - 1, by omega⟩
    have m12 := hW.2.1
    by_cases e : w = m
    · subst e
      refine ⟨x, y, ?_, ?_, hs, fun _ _ _ => rfl, fun _ _ _ => rfl, rfl, hF⟩
      · rw [Fx_Si_lay_10_19X_L25_s, hu, if_pos (Int32.le_refl _)]
      · rw [Fx_M_layX_L102_s, if_neg (by decide), xqb, wi_0 hk, hW.1, h23, if_pos (Int32.le_refl _)]
        rfl
    have nle : ¬ iN m ≤ iN w := fun q => by have := (iN_le (by omega) (by omega)).mp q; omega
    obtain ⟨a1, a2, a3⟩ := hW.2.2.1 w (by omega)
    obtain ⟨b1, b2⟩ := hW.2.2.2 w (by omega)
    have st := st_X (g := g) (g' := g') (kind := y 169 (37 * k + (1 + 3 * w))) (p := y 169 (37 * k + (2 + 3 * w))) (much := y 169 (37 * k + (3 + 3 * w))) hs b9 b2 b1
    rw [Fx_M_layX_L102_s, if_neg (show ¬ (1 : Int32) = 0 by decide), xqb, wi_0 hk, hW.1, h23, if_neg nle, xqb, xqb, xqb, wi_1 hk (by omega), wi_2 hk (by omega), wi_3 hk (by omega), xqc2]
    rw [Fx_Si_lay_10_19X_L25_s, hu, if_neg nle, iN_cl (by omega), xqb, xqb, xqb, a1, a2, a3, xqc2]
    obtain ⟨A, hA⟩ : ∃ A, A = Fx_Si_buildsX (y 169 (37 * k + (1 + 3 * w))) (y 169 (37 * k + (2 + 3 * w))) (y 169 (37 * k + (3 + 3 * w))) x g := ⟨_, rfl⟩
    obtain ⟨B, hB⟩ : ∃ B, B = Fx_M_doesX (y 169 (37 * k + (1 + 3 * w))) (y 169 (37 * k + (2 + 3 * w))) (y 169 (37 * k + (3 + 3 * w))) y g' := ⟨_, rfl⟩
    have dW := do_W (g := g') hF hs.2.1 b2 b1
    rw [← hA, ← hB] at st
    rw [← hB] at dW
    rw [← hA, ← hB]
    obtain ⟨s1, s2, ⟨l1, l2⟩, ⟨r1, r2, r3⟩⟩ := st
    rw [s1]
    by_cases t : B.1 = true
    · rw [if_pos t, if_pos t, xqb, xqb, t, iN_s]
      have x1 : x 43 1 = iN w := hs.2.2.1.trans h23
      have sd : SIT (ms A.2 43 1 (x 43 1 + 1)) (ms B.2 162 23 (iN (w + 1))) := sit_don s2 (by rw [x1, iN_s])
      obtain ⟨x2, y2, p1, p2, p3, p4, p5, p6, p7⟩ := ih f1 f2 (w + 1) _ _ (by omega) (by omega) (by omega) (by omega) sd (by rw [ms_e1]) (by rw [ms_c1 (by decide), r3 0 (by decide)]; exact b9) (wks_c hW (by rw [ms_c1 (by decide)]; exact l1 _ (by decide) (by decide)) (by rw [ms_c1 (by decide)]; exact l1 _ (by decide) (by decide)) (by rw [ms_c1 (by decide)]; exact l1 _ (by decide) (by decide)) (by rw [ms_c1 (by decide)]; exact r1 169 (by decide) (by decide))) (by rw [ms_c1 (by decide)]; exact dW)
      exact ⟨x2, y2, p1, p2, p3, fun c c1 c2 => by rw [p4 c c1 c2, ms_c1 c1, l1 c c1 c2], fun c c1 c2 => by rw [p5 c c1 c2, ms_c1 c1, r1 c c1 c2], by rw [p6, ms_c1 (by decide), r3 0 (by decide)], p7⟩
    · rw [if_neg t, if_neg t, xqb]
      have e0 : iN w + 0 = B.2 162 23 := by rw [Int32.add_zero, r2 23 (by decide) (by decide), h23]
      rw [e0, ms_self]
      exact ⟨A.2, B.2, rfl, rfl, s2, l1, r1, r3 0 (by decide), dW⟩
theorem ly_10_23 {u : MM} {g g' : GG} {k m : Nat} (hu : u 23 0 = iN m) (hk : k ≤ 12) : ∀ (r f1 f2 w : Nat) (x y : MM), m - w ≤ r → w ≤ m → r < f1 → r < f2 → SIT x y → y 162 23 = iN w → Bd 0 9 (y 172 0) → WKS x y 23 k m → HWF (y 172) → ∃ x2 y2, Fx_Si_lay_10_23X_L25 u g f1 (iN w) x = x2 ∧ Fx_M_layX_L102 (iN k) g' f2 1 y = (true, y2) ∧ SIT x2 y2 ∧ (∀ c, c ≠ 43 → c ≠ 45 → x2 c = x c) ∧ (∀ c, c ≠ 162 → c ≠ 172 → y2 c = y c) ∧ y2 172 0 = y 172 0 ∧ HWF (y2 172) := by
  intro r
  induction r with
  | zero =>
    intro f1 f2 w x y hr hw h1 h2 hs h23 b9 hW hF
    obtain ⟨f1, rfl⟩ : ∃ f, f1 = f + 1 := ⟨f1 - 1, by omega⟩
    obtain ⟨f2, rfl⟩ : ∃ f, f2 = f + 1 := ⟨f2 - 1, by omega⟩
    have e : w = m := by omega
    subst e
    refine ⟨x, y, ?_, ?_, hs, fun _ _ _ => rfl, fun _ _ _ => rfl, rfl, hF⟩
    · rw [Fx_Si_lay_10_23X_L25_s, hu, if_pos (Int32.le_refl _)]
    · rw [Fx_M_layX_L102_s, if_neg (by decide), xqb, wi_0 hk, hW.1, h23, if_pos (Int32.le_refl _)]
      rfl
  | succ r ih =>
    intro f1 f2 w x y hr hw h1 h2 hs h23 b9 hW hF
    obtain ⟨f1, rfl⟩ : ∃ f, f1 = f + 1 := ⟨f1 - 1, by omega⟩
    obtain ⟨f2, rfl⟩ : ∃ f, f2 = f + 1 := ⟨f2 - 1, by omega⟩
    have m12 := hW.2.1
    by_cases e : w = m
    · subst e
      refine ⟨x, y, ?_, ?_, hs, fun _ _ _ => rfl, fun _ _ _ => rfl, rfl, hF⟩
      · rw [Fx_Si_lay_10_23X_L25_s, hu, if_pos (Int32.le_refl _)]
      · rw [Fx_M_layX_L102_s, if_neg (by decide), xqb, wi_0 hk, hW.1, h23, if_pos (Int32.le_refl _)]
        rfl
    have nle : ¬ iN m ≤ iN w := fun q => by have := (iN_le (by omega) (by omega)).mp q; omega
    obtain ⟨a1, a2, a3⟩ := hW.2.2.1 w (by omega)
    obtain ⟨b1, b2⟩ := hW.2.2.2 w (by omega)
    have st := st_X (g := g) (g' := g') (kind := y 169 (37 * k + (1 + 3 * w))) (p := y 169 (37 * k + (2 + 3 * w))) (much := y 169 (37 * k + (3 + 3 * w))) hs b9 b2 b1
    rw [Fx_M_layX_L102_s, if_neg (show ¬ (1 : Int32) = 0 by decide), xqb, wi_0 hk, hW.1, h23, if_neg nle, xqb, xqb, xqb, wi_1 hk (by omega), wi_2 hk (by omega), wi_3 hk (by omega), xqc2]
    rw [Fx_Si_lay_10_23X_L25_s, hu, if_neg nle, iN_cl (by omega), xqb, xqb, xqb, a1, a2, a3, xqc2]
    obtain ⟨A, hA⟩ : ∃ A, A = Fx_Si_buildsX (y 169 (37 * k + (1 + 3 * w))) (y 169 (37 * k + (2 + 3 * w))) (y 169 (37 * k + (3 + 3 * w))) x g := ⟨_, rfl⟩
    obtain ⟨B, hB⟩ : ∃ B, B = Fx_M_doesX (y 169 (37 * k + (1 + 3 * w))) (y 169 (37 * k + (2 + 3 * w))) (y 169 (37 * k + (3 + 3 * w))) y g' := ⟨_, rfl⟩
    have dW := do_W (g := g') hF hs.2.1 b2 b1
    rw [← hA, ← hB] at st
    rw [← hB] at dW
    rw [← hA, ← hB]
    obtain ⟨s1, s2, ⟨l1, l2⟩, ⟨r1, r2, r3⟩⟩ := st
    rw [s1]
    by_cases t : B.1 = true
    · rw [if_pos t, if_pos t, xqb, xqb, t, iN_s]
      have x1 : x 43 1 = iN w := hs.2.2.1.trans h23
      have sd : SIT (ms A.2 43 1 (x 43 1 + 1)) (ms B.2 162 23 (iN (w + 1))) := sit_don s2 (by rw [x1, iN_s])
      obtain ⟨x2, y2, p1, p2, p3, p4, p5, p6, p7⟩ := ih f1 f2 (w + 1) _ _ (by omega) (by omega) (by omega) (by omega) sd (by rw [ms_e1]) (by rw [ms_c1 (by decide), r3 0 (by decide)]; exact b9) (wks_c hW (by rw [ms_c1 (by decide)]; exact l1 _ (by decide) (by decide)) (by rw [ms_c1 (by decide)]; exact l1 _ (by decide) (by decide)) (by rw [ms_c1 (by decide)]; exact l1 _ (by decide) (by decide)) (by rw [ms_c1 (by decide)]; exact r1 169 (by decide) (by decide))) (by rw [ms_c1 (by decide)]; exact dW)
      exact ⟨x2, y2, p1, p2, p3, fun c c1 c2 => by rw [p4 c c1 c2, ms_c1 c1, l1 c c1 c2], fun c c1 c2 => by rw [p5 c c1 c2, ms_c1 c1, r1 c c1 c2], by rw [p6, ms_c1 (by decide), r3 0 (by decide)], p7⟩
    · rw [if_neg t, if_neg t, xqb]
      have e0 : iN w + 0 = B.2 162 23 := by rw [Int32.add_zero, r2 23 (by decide) (by decide), h23]
      rw [e0, ms_self]
      exact ⟨A.2, B.2, rfl, rfl, s2, l1, r1, r3 0 (by decide), dW⟩
