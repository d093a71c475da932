/-! the class's storm in cell 58 -/
theorem hr58_L {u : MM} {g : GG} {t n p : Nat} {A : Nat → Nat → Int32} {w : Int32} (h : HA u t n A) (n9 : n ≤ 9) (hp : p < n) (hw : u 58 1 = w) (hg : ¬ A p 12 = -1) : ∀ (f q : Nat), p - q < f → q ≤ p → (Fx_S58_hearsX_L25 (iN p) t u g f (iN q) = true ↔ ∃ r, q ≤ r ∧ r < p ∧ inB w r = true ∧ (A r 8 = iN p ∨ A r 9 = iN p) ∧ ¬ A r 11 < A p 12) := by
  intro f
  induction f with
  | zero => intro q h1; omega
  | succ f ih =>
    intro q h1 h2
    rw [Fx_S58_hearsX_L25_s]
    by_cases c : p ≤ q
    · rw [if_pos ((iN_le (by omega) (by omega)).mpr c)]
      exact ⟨fun z => absurd z (by decide), fun z => by obtain ⟨r, r1, r2, -⟩ := z; omega⟩
    · rw [if_neg (fun z => c ((iN_le (by omega) (by omega)).mp z))]
      have k := ih (q + 1) (by omega) (by omega)
      rw [show hof u t (iN q) (8 : Int32) = A q 8 from ha_r (c := 8) h n9 (by omega) (by decide), show hof u t (iN q) (9 : Int32) = A q 9 from ha_r (c := 9) h n9 (by omega) (by decide)]
      have go : ∀ b : Int32, (b = 1 ∨ b = 0) → ((b = 1) ↔ (A q 8 = iN p ∨ A q 9 = iN p)) → (Fx_S58_hearsX_J60 (Fx_S58_hearsX_L25 (iN p) t u g f) (iN p) t u g (iN q) b = true ↔ ∃ r, q ≤ r ∧ r < p ∧ inB w r = true ∧ (A r 8 = iN p ∨ A r 9 = iN p) ∧ ¬ A r 11 < A p 12) := by
        intro b hb hl
        unfold Fx_S58_hearsX_J60
        have skip : ¬ (inB w q = true ∧ (A q 8 = iN p ∨ A q 9 = iN p) ∧ ¬ A q 11 < A p 12) → ((∃ r, q + 1 ≤ r ∧ r < p ∧ inB w r = true ∧ (A r 8 = iN p ∨ A r 9 = iN p) ∧ ¬ A r 11 < A p 12) ↔ ∃ r, q ≤ r ∧ r < p ∧ inB w r = true ∧ (A r 8 = iN p ∨ A r 9 = iN p) ∧ ¬ A r 11 < A p 12) := by
          intro no
          refine ⟨fun z => ?_, fun z => ?_⟩
          · obtain ⟨r, r1, r2⟩ := z
            exact ⟨r, by omega, r2⟩
          · obtain ⟨r, r1, r2, r3⟩ := z
            by_cases y : r = q
            · rw [y] at r3
              exact absurd r3 no
            · exact ⟨r, by omega, r2, r3⟩
        rw [iN_s]
        by_cases b0 : b = 0
        · rw [if_pos b0]
          refine k.trans (skip (fun z => ?_))
          have := hl.mpr z.2.1
          rw [b0] at this
          exact absurd this (by decide)
        · rw [if_neg b0, xqb, hw, isI]
          have l := hl.mp (hb.resolve_right b0)
          by_cases y : inB w q = true
          · rw [if_pos y, show hof u t (iN q) (11 : Int32) = A q 11 from ha_r (c := 11) h n9 (by omega) (by decide), show hof u t (iN p) (12 : Int32) = A p 12 from ha_r (c := 12) h n9 hp (by decide)]
            by_cases y2 : A q 11 < A p 12
            · rw [if_pos y2]
              exact k.trans (skip (fun z => z.2.2 y2))
            · rw [if_neg y2]
              exact ⟨fun _ => ⟨q, Nat.le_refl _, by omega, y, l, y2⟩, fun _ => rfl⟩
          · rw [if_neg y]
            exact k.trans (skip (fun z => y z.1))
      by_cases y8 : A q 8 = iN p
      · rw [if_pos y8]
        exact go 1 (Or.inl rfl) ⟨fun _ => Or.inl y8, fun _ => rfl⟩
      · rw [if_neg y8]
        by_cases y9 : A q 9 = iN p
        · rw [if_pos y9]
          exact go 1 (Or.inl rfl) ⟨fun _ => Or.inr y9, fun _ => rfl⟩
        · rw [if_neg y9]
          exact go 0 (Or.inr rfl) ⟨fun z => absurd z (by decide), fun z => absurd z (fun z => z.elim y8 y9)⟩
theorem hr58_X {u : MM} {g : GG} {t n p : Nat} {A : Nat → Nat → Int32} {w : Int32} (h : HA u t n A) (n9 : n ≤ 9) (hp : p < n) (hw : u 58 1 = w) : Fx_S58_hearsX (iN p) t u g = hrB A w p := by
  refine Bool.eq_iff_iff.mpr ?_
  have e : hrB A w p = true ↔ HRS A w p := by
    unfold hrB
    exact @decide_eq_true_iff _ (Classical.propDecidable _)
  refine Iff.trans ?_ e.symm
  unfold Fx_S58_hearsX HRS
  rw [show hof u t (iN p) (12 : Int32) = A p 12 from ha_r (c := 12) h n9 hp (by decide), hw]
  by_cases y : A p 12 = -1
  · rw [if_pos y]
    exact ⟨fun z => absurd z (by decide), fun z => absurd y z.1⟩
  · rw [if_neg y]
    by_cases w0 : w = 0
    · rw [if_pos w0]
      refine ⟨fun z => absurd z (by decide), fun z => ?_⟩
      obtain ⟨-, r, r1, r2, -⟩ := z
      rw [w0, inB_0 r (by omega)] at r2
      exact absurd r2 (by decide)
    · rw [if_neg w0]
      have f9 : (8 - (0 : Int32).toInt).toNat + 1 = 9 := by decide
      rw [f9]
      refine (hr58_L h n9 hp hw y 9 0 (by omega) (Nat.zero_le _)).trans ⟨fun z => ?_, fun z => ?_⟩
      · obtain ⟨r, r1, r2⟩ := z
        exact ⟨y, r, r2⟩
      · obtain ⟨-, r, r2⟩ := z
        exact ⟨r, Nat.zero_le _, r2⟩
/-- the class's memory behind the first p ponds -/
def CS58 (x : MM) (s : ST) (p : Nat) : Prop := x 58 1 = s.1 ∧ x 58 3 = s.2.1 ∧ x 58 4 = s.2.2.1 ∧ (∀ j, j < 9 → x 59 j = s.2.2.2.1 j) ∧ ∀ j, j < p → x 60 j = s.2.2.2.2 j
/-- what leaves pond p goes on -/
theorem pa58_X {u : MM} {g : GG} {t n p : Nat} {A : Nat → Nat → Int32} {l : Int32} {W : Nat → Int32} (ht : t + 1 < 58 ∨ 60 < t) (h : HA u t n A) (n9 : n ≤ 9) (hp : p < n) (hl : u 60 p = l) (hW : ∀ j, j < 9 → u 59 j = W j) : ∃ y, Fx_S58_passX (iN p) t u g = y ∧ (∀ j, j < 9 → y 59 j = pW A n p l W j) ∧ y 58 4 = pB A n p l (u 58 4) ∧ (∀ c, c ≠ 58 → c ≠ 59 → y c = u c) ∧ ∀ j, j ≠ 4 → y 58 j = u 58 j := by
  refine ⟨_, rfl, ?_⟩
  unfold Fx_S58_passX
  have r8 : hof u t (iN p) (8 : Int32) = A p 8 := ha_r (c := 8) h n9 hp (by decide)
  have r9 : hof u t (iN p) (9 : Int32) = A p 9 := ha_r (c := 9) h n9 hp (by decide)
  have r10 : hof u t (iN p) (10 : Int32) = A p 10 := ha_r (c := 10) h n9 hp (by decide)
  have cp : (iN p).toNatClampNeg = p := iN_cl (by omega)
  rw [r9, r10, xqb, hX_b h]
  have J : ∀ (x : MM) (tr : Int32), HA x t n A → x 60 = u 60 → (∀ j, j < 9 → x 59 j = pA A n p l W j) → (∀ c, c ≠ 59 → x c = u c) → tr = trn A n p l →
      (∀ j, j < 9 → Fx_S58_passX_J58 (iN p) t u g tr x 59 j = pW A n p l W j) ∧ Fx_S58_passX_J58 (iN p) t u g tr x 58 4 = pB A n p l (u 58 4) ∧ (∀ c, c ≠ 58 → c ≠ 59 → Fx_S58_passX_J58 (iN p) t u g tr x c = u c) ∧ ∀ j, j ≠ 4 → Fx_S58_passX_J58 (iN p) t u g tr x 58 j = u 58 j := by
    intro x tr hx xl xw xc e
    subst e
    unfold Fx_S58_passX_J58 pW pB
    rw [r8, xqb, hX_b hx]
    by_cases y : hasB n (A p 8) = true
    · have lt := hasB_lt n9 y
      rw [if_pos y, xqb, xqb, xqb, if_pos y, if_pos y, cp, xl, hl, xw _ (by omega)]
      refine ⟨fun j hj => ?_, ?_, fun c c1 c2 => ?_, fun j hj => ?_⟩
      · rw [ms_a1]
        unfold upd
        by_cases z : j = (A p 8).toNatClampNeg
        · rw [if_pos z, if_pos z]
        · rw [if_neg z, if_neg z]; exact xw j hj
      · rw [ms_c1 (by decide), xc 58 (by decide)]
      · rw [ms_c1 c2, xc c c2]
      · rw [ms_c1 (by decide), xc 58 (by decide)]
    · rw [if_neg y, xqb, xqb, if_neg y, if_neg y, cp, xl, hl]
      refine ⟨fun j hj => ?_, ?_, fun c c1 c2 => ?_, fun j hj => ?_⟩
      · rw [ms_c1 (by decide)]; exact xw j hj
      · rw [ms_e1]
      · rw [ms_c1 c1, xc c c2]
      · rw [ms_i1 hj, xc 58 (by decide)]
  by_cases y : hasB n (A p 9) = true
  · have lt := hasB_lt n9 y
    rw [if_pos y, xqb, xqb, xqb, cp, hl]
    refine J _ _ ?_ ?_ (fun j hj => ?_) (fun c hc => ms_c1 hc) ?_
    · exact ha_c h (ms_c1 (by omega)) (ms_c1 (by omega))
    · exact ms_c1 (by decide)
    · rw [ms_a1, hW _ (by omega)]
      unfold pA upd
      rw [if_pos y]
      by_cases z : j = (A p 9).toNatClampNeg
      · rw [if_pos z, if_pos z]
      · rw [if_neg z, if_neg z]; exact hW j hj
    · unfold trn
      rw [if_pos y]
  · rw [if_neg y]
    refine J _ _ h rfl (fun j hj => ?_) (fun _ _ => rfl) ?_
    · unfold pA
      rw [if_neg y]
      exact hW j hj
    · unfold trn
      rw [if_neg y]
theorem gs58_X {X : MM} {g : GG} {t n p : Nat} {A : Nat → Nat → Int32} {bk kp w : Int32} (h : HA X t n A) (n9 : n ≤ 9) (hp : p < n) (hw : X 59 p = w) (k : ¬ iN p = kp) : Fx_S58_goesX (iN p) bk t X g = gos A bk kp p w := by
  unfold Fx_S58_goesX gos
  rw [if_neg k, show hof X t (iN p) (15 : Int32) = A p 15 from ha_r (c := 15) h n9 hp (by decide), show hof X t (iN p) (0 : Int32) = A p 0 from ha_r (c := 0) h n9 hp (by decide), show hof X t (iN p) (3 : Int32) = A p 3 from ha_r (c := 3) h n9 hp (by decide), xqb, isI, xqb, iN_cl (by omega), hw]
theorem lv58_X {X : MM} {g : GG} {t n p : Nat} {A : Nat → Nat → Int32} {s w k : Int32} (h : HA X t n A) (n9 : n ≤ 9) (hp : p < n) (hw : X 59 p = w) (hs : X 58 1 = s) : Fx_S58_leavingX (iN p) k t X g = if k = 0 then (if inB s p = true then w else if A p 15 = 1 then w else if 0 < w - A p 0 then w - A p 0 else 0) else 0 := by
  unfold Fx_S58_leavingX
  rw [show hof X t (iN p) (15 : Int32) = A p 15 from ha_r (c := 15) h n9 hp (by decide), show hof X t (iN p) (0 : Int32) = A p 0 from ha_r (c := 0) h n9 hp (by decide), iN_cl (by omega), hw, hs, xqb, isI, xqb, xqb, xqb]
theorem jb58_X {ih : Int32 → MM → MM} {x X u0 : MM} {g : GG} {t n p : Nat} {A : Nat → Nat → Int32} {bk kp w s : Int32} {hr : Bool} (h : HA X t n A) (h0 : HA u0 t n A) (ht : t + 1 < 58 ∨ 60 < t) (n9 : n ≤ 9) (hp : p < n) (hw : X 59 p = w) (hs : X 58 1 = s) (hx : x 58 1 = s) (sb : SB s p) : Fx_S58_runX_J114 ih bk kp t u0 g (iN p) x hr X = ih (iN (p + 1)) (Fx_S58_passX (iN p) t (ms (cnd (gos A bk kp p w) X 58 1 (s ||| bt p)) 60 p (lef A kp hr (gos A bk kp p w) p w)) g) := by
  have p9 : p < 9 := by omega
  have J : ∀ (Y : MM) (k v : Int32), Fx_S58_leavingX (iN p) k t Y g = v → Fx_S58_runX_J168 ih t u0 g (iN p) hr Y k = ih (iN (p + 1)) (Fx_S58_passX (iN p) t (ms Y 60 p (v + (if hr = true then A p 1 else 0))) g) := by
    intro Y k v e
    unfold Fx_S58_runX_J168 Fx_S58_runX_J187
    rw [xqb, e, show hof u0 t (iN p) (1 : Int32) = A p 1 from ha_r (c := 1) h0 n9 hp (by decide), iN_s, iN_cl (by omega)]
    by_cases y : hr = true
    · rw [if_pos y, if_pos y, xqb, xqb]
    · rw [if_neg y, if_neg y, xqb, xqb]
  unfold Fx_S58_runX_J114 Fx_S58_runX_J146
  by_cases k : iN p = kp
  · rw [if_pos k, if_pos k, J X 1 0 ?_]
    · have e1 : gos A bk kp p w = false := by unfold gos; rw [if_pos k]
      rw [e1]
      unfold cnd lef
      rw [if_neg Bool.false_ne_true, if_pos k]
    · rw [lv58_X h n9 hp hw hs, if_neg (by decide)]
  · rw [if_neg k, xqb, gs58_X (kp := kp) h n9 hp hw k, hx]
    by_cases y : gos A bk kp p w = true
    · rw [if_pos y, xqb, b9I (by omega), xqb, if_neg k, J _ 0 w ?_]
      · rw [y]
        unfold cnd lef
        rw [if_pos rfl, if_neg k, if_pos rfl]
      · rw [lv58_X (s := s ||| bt p) (ha_c h (ms_c1 (by omega)) (ms_c1 (by omega))) n9 hp ((congrFun (ms_c1 (by decide)) p).trans hw) ms_e1, if_pos rfl, if_pos (sb_y p9 sb)]
    · rw [if_neg y, if_neg k, J _ 0 (if A p 15 = 1 then w else if 0 < w - A p 0 then w - A p 0 else 0) ?_]
      · rw [(Bool.not_eq_true _).mp y]
        unfold cnd lef
        rw [if_neg Bool.false_ne_true, if_neg k, if_neg Bool.false_ne_true]
      · rw [lv58_X h n9 hp hw hs, if_pos rfl, if_neg (by rw [sb_n p9 sb]; decide)]
/-- pond p of the storm -/
theorem bd58_X {ih : Int32 → MM → MM} {x u0 : MM} {g : GG} {t n p : Nat} {A : Nat → Nat → Int32} {st bk kp c : Int32} {hr : Bool} {S : ST} (h0 : HA u0 t n A) (ht : t + 1 < 58 ∨ 60 < t) (n9 : n ≤ 9) (hp : p < n) (hx : ∀ c, c < 58 ∨ 60 < c → x c = u0 c) (cs : CS58 x S p) (sb : SB S.1 p) (hc : S.2.2.2.1 p = c) : ∃ y, Fx_S58_runX_J92 ih st bk kp t u0 g (iN p) x hr c (if hr = true then 0 else A p 1) = ih (iN (p + 1)) y ∧ CS58 y (stq A n kp p S hr (gos A bk kp p (wat A st hr p c)) (wat A st hr p c)) (p + 1) ∧ (∀ c, c < 58 ∨ 60 < c → y c = u0 c) ∧ y 58 0 = x 58 0 := by
  have p9 : p < 9 := by omega
  obtain ⟨c1, c3, c4, cW, cL⟩ := cs
  obtain ⟨w, hw⟩ : ∃ w, w = wat A st hr p c := ⟨_, rfl⟩
  obtain ⟨go, hgo⟩ : ∃ go, go = gos A bk kp p w := ⟨_, rfl⟩
  obtain ⟨lv, hlv⟩ : ∃ lv, lv = lef A kp hr go p w := ⟨_, rfl⟩
  obtain ⟨X, hX⟩ : ∃ X, X = cnd hr (ms x 59 p w) 58 3 (S.2.1 ||| bt p) := ⟨_, rfl⟩
  obtain ⟨X4, hX4⟩ : ∃ X4, X4 = ms (cnd go X 58 1 (S.1 ||| bt p)) 60 p lv := ⟨_, rfl⟩
  have Xc : ∀ c, c ≠ 58 → c ≠ 59 → X c = x c := fun c q1 q2 => by rw [hX, cn_c q1, ms_c1 q2]
  have XW : X 59 = upd (x 59) p w := by rw [hX, cn_c (by decide), ms_a1]
  have X1 : ∀ j, j ≠ 3 → X 58 j = x 58 j := fun j hj => by rw [hX, cn_i hj, ms_c1 (by decide)]
  have X3 : X 58 3 = if hr = true then S.2.1 ||| bt p else S.2.1 := by rw [hX, cn_e, ms_c1 (by decide), c3]
  have hh : HA X t n A := ha_c h0 ((Xc t (by omega) (by omega)).trans (hx t (by omega))) ((Xc (t + 1) (by omega) (by omega)).trans (hx (t + 1) (by omega)))
  have e1 : Fx_S58_runX_J92 ih st bk kp t u0 g (iN p) x hr c (if hr = true then 0 else A p 1) = Fx_S58_runX_J114 ih bk kp t u0 g (iN p) x hr X := by
    unfold Fx_S58_runX_J92
    rw [xqb, show hof u0 t (iN p) (2 : Int32) = A p 2 from ha_r (c := 2) h0 n9 hp (by decide), iN_cl (by omega), show c + (st * A p 2 + (if hr = true then 0 else A p 1)) = w from hw.symm, c3, hX]
    unfold cnd
    by_cases y : hr = true
    · rw [if_pos y, if_pos y, xqb, b9I (by omega), xqb]
    · rw [if_neg y, if_neg y]
  rw [e1, jb58_X (w := w) (s := S.1) hh h0 ht n9 hp (by rw [XW]; exact if_pos rfl) ((X1 1 (by decide)).trans c1) c1 sb, ← hgo, ← hlv, ← hX4, ← hw, ← hgo]
  have Yc : ∀ c, c ≠ 58 → c ≠ 59 → c ≠ 60 → X4 c = x c := fun c q1 q2 q3 => by rw [hX4, ms_c1 q3, cn_c q1, Xc c q1 q2]
  have YW : ∀ j, j < 9 → X4 59 j = upd S.2.2.2.1 p w j := by
    intro j hj
    rw [hX4, ms_c1 (by decide), cn_c (by decide), XW]
    unfold upd
    by_cases y : j = p
    · rw [if_pos y, if_pos y]
    · rw [if_neg y, if_neg y]; exact cW j hj
  have YL : ∀ j, j < p + 1 → X4 60 j = upd S.2.2.2.2 p lv j := by
    intro j hj
    rw [hX4]
    unfold upd
    by_cases y : j = p
    · rw [if_pos y, y, ms_e1]
    · rw [if_neg y, ms_i1 y, cn_c (by decide), Xc 60 (by decide) (by decide)]; exact cL j (by omega)
  have Yj : ∀ j, j ≠ 1 → X4 58 j = X 58 j := fun j hj => by rw [hX4, ms_c1 (by decide), cn_i hj]
  have Y1 : X4 58 1 = if go = true then S.1 ||| bt p else S.1 := by rw [hX4, ms_c1 (by decide), cn_e, X1 1 (by decide), c1]
  have h4 : HA X4 t n A := ha_c h0 ((Yc t (by omega) (by omega) (by omega)).trans (hx t (by omega))) ((Yc (t + 1) (by omega) (by omega) (by omega)).trans (hx (t + 1) (by omega)))
  obtain ⟨y, y0, y1, y2, y3, y4⟩ := pa58_X (g := g) (l := lv) (W := upd S.2.2.2.1 p w) ht h4 n9 hp (by rw [hX4, ms_e1]) YW
  refine ⟨y, by rw [y0], ⟨?_, ?_, ?_, fun j hj => ?_, fun j hj => ?_⟩, fun c hc => ?_, ?_⟩
  · rw [y4 1 (by decide), Y1]; rfl
  · rw [y4 3 (by decide), Yj 3 (by decide), X3]; rfl
  · rw [y2, Yj 4 (by decide), X1 4 (by decide), c4, hlv]; rfl
  · rw [y1 j hj, hlv]; rfl
  · rw [y3 60 (by decide) (by decide), YL j hj, hlv]; rfl
  · rw [y3 c (by omega) (by omega), Yc c (by omega) (by omega) (by omega), hx c hc]
  · rw [y4 0 (by decide), Yj 0 (by decide), X1 0 (by decide)]
theorem rn58_L {u0 : MM} {g : GG} {t n : Nat} {A : Nat → Nat → Int32} {st bk kp z : Int32} (h0 : HA u0 t n A) (ht : t + 1 < 58 ∨ 60 < t) (n9 : n ≤ 9) : ∀ (f p : Nat) (x : MM), n - p < f → p ≤ n → (∀ c, c < 58 ∨ 60 < c → x c = u0 c) → CS58 x (stN A n st bk kp p) p → x 58 0 = z → ∃ y, Fx_S58_runX_L34 st bk kp t u0 g f (iN p) x = y ∧ CS58 y (stN A n st bk kp n) n ∧ y 58 2 = hrm A (stN A n st bk kp n).1 n ∧ (∀ c, c < 58 ∨ 60 < c → y c = u0 c) ∧ y 58 0 = z := by
  intro f
  induction f with
  | zero => intro p x h1; omega
  | succ f ih =>
    intro p x h1 h2 hx cs hz
    have hh : HA x t n A := ha_c h0 (hx t (by omega)) (hx (t + 1) (by omega))
    rw [Fx_S58_runX_L34_s, h0.1]
    by_cases q : n ≤ p
    · have e : p = n := by omega
      subst e
      obtain ⟨c1, c3, c4, cW, cL⟩ := cs
      rw [if_pos (Int32.le_refl _), xqb, hm_X hh n9, xqb]
      refine ⟨_, rfl, ⟨?_, ?_, ?_, fun j hj => ?_, fun j hj => ?_⟩, ?_, fun c hc => ?_, ?_⟩
      · rw [ms_i1 (by decide)]; exact c1
      · rw [ms_i1 (by decide)]; exact c3
      · rw [ms_i1 (by decide)]; exact c4
      · rw [ms_c1 (by decide)]; exact cW j hj
      · rw [ms_c1 (by decide)]; exact cL j hj
      · rw [ms_e1, c1]
      · rw [ms_c1 (by omega)]; exact hx c hc
      · rw [ms_i1 (by decide)]; exact hz
    · rw [if_neg (fun z => q ((iN_le (by omega) (by omega)).mp z)), if_neg (show ¬ (9 : Int32) ≤ iN p from fun z => by have := (iN_le (a := 9) (by omega) (by omega)).mp z; omega), xqb, hr58_X (w := (stN A n st bk kp p).1) hh n9 (by omega) cs.1, xqb, iN_cl (by omega), cs.2.2.2.1 p (by omega), show hof u0 t (iN p) (1 : Int32) = A p 1 from ha_r (c := 1) h0 n9 (by omega) (by decide)]
      obtain ⟨y, y1, y2, y3, y4⟩ := bd58_X (ih := Fx_S58_runX_L34 st bk kp t u0 g f) (g := g) (st := st) (bk := bk) (kp := kp) (hr := hrB A (stN A n st bk kp p).1 p) h0 ht n9 (show p < n by omega) hx cs (st_sb p (by omega)).1 rfl
      have e : ∀ b : Bool, b = hrB A (stN A n st bk kp p).1 p → (if b = true then Fx_S58_runX_J92 (Fx_S58_runX_L34 st bk kp t u0 g f) st bk kp t u0 g (iN p) x b ((stN A n st bk kp p).2.2.2.1 p) 0 else Fx_S58_runX_J92 (Fx_S58_runX_L34 st bk kp t u0 g f) st bk kp t u0 g (iN p) x b ((stN A n st bk kp p).2.2.2.1 p) (A p 1)) = Fx_S58_runX_L34 st bk kp t u0 g f (iN (p + 1)) y := by
        intro b hb
        rw [← y1, ← hb]
        by_cases w : b = true
        · rw [if_pos w, if_pos w]
        · rw [if_neg w, if_neg w]
      rw [e _ rfl]
      exact ih (p + 1) y (by omega) (by omega) y3 y2 (y4.trans hz)
theorem fi59_L {v : Int32} : ∀ (f i : Nat) (x : MM), 9 - i < f → i ≤ 9 → ∃ y, Fx_fill_59X_L5 v f (iN i) x = y ∧ (∀ j, y 59 j = if i ≤ j ∧ j < 9 then v else x 59 j) ∧ ∀ c, c ≠ 59 → y c = x c := by
  intro f
  induction f with
  | zero => intro i x h; omega
  | succ f ih =>
    intro i x h hi
    rw [Fx_fill_59X_L5_s]
    by_cases c : 9 ≤ i
    · rw [if_pos (show (9 : Int32) ≤ iN i from (iN_le (a := 9) (by omega) (by omega)).mpr c)]
      exact ⟨x, rfl, fun j => by rw [if_neg (by omega)], fun _ _ => rfl⟩
    · rw [if_neg (show ¬ (9 : Int32) ≤ iN i from fun q => c ((iN_le (a := 9) (by omega) (by omega)).mp q)), xqb, iN_s, iN_cl (by omega)]
      obtain ⟨y, y1, y2, y3⟩ := ih (i + 1) (ms x 59 i v) (by omega) (by omega)
      refine ⟨y, y1, fun j => ?_, fun c hc => (y3 c hc).trans (ms_c1 hc)⟩
      rw [y2 j]
      by_cases q : j = i
      · rw [if_neg (by omega), q, ms_e1, if_pos (by omega)]
      · rw [ms_i1 q]
        by_cases q2 : i ≤ j ∧ j < 9
        · rw [if_pos (by omega), if_pos q2]
        · rw [if_neg (by omega), if_neg q2]
/-- the class's storm -/
theorem rn58_X {u : MM} {g : GG} {t n : Nat} {A : Nat → Nat → Int32} {st bk kp : Int32} (h0 : HA u t n A) (ht : t + 1 < 58 ∨ 60 < t) (n9 : n ≤ 9) : ∃ y, Fx_S58_runX st bk kp t u g = y ∧ CS58 y (stN A n st bk kp n) n ∧ y 58 2 = hrm A (stN A n st bk kp n).1 n ∧ (∀ c, c < 58 ∨ 60 < c → y c = u c) ∧ y 58 0 = iN n := by
  unfold Fx_S58_runX Fx_fill_59X
  have e10 : (9 - (0 : Int32).toInt).toNat + 1 = 10 := by decide
  rw [xqb, xqb, xqb, xqb, xqb, e10, h0.1]
  obtain ⟨x, hx⟩ : ∃ x, x = ms (ms (ms (ms u 58 0 (iN n)) 58 1 0) 58 3 0) 58 4 0 := ⟨_, rfl⟩
  rw [← hx]
  obtain ⟨y, y1, y2, y3⟩ := fi59_L (v := 0) 10 0 x (by omega) (by omega)
  have y1' : Fx_fill_59X_L5 0 10 0 x = y := y1
  rw [y1']
  have yS : y 58 = x 58 := y3 58 (by decide)
  have xc : ∀ c, c ≠ 58 → x c = u c := fun c hc => by rw [hx, ms_c1 hc, ms_c1 hc, ms_c1 hc, ms_c1 hc]
  have e := rn58_L (u0 := u) (g := g) (st := st) (bk := bk) (kp := kp) (z := iN n) h0 ht n9 10 0 y (by omega) (by omega) (fun c hc => (y3 c (by omega)).trans (xc c (by omega))) ⟨by rw [yS, hx]; rfl, by rw [yS, hx]; rfl, by rw [yS, hx]; rfl, fun j hj => by rw [y2 j, if_pos ⟨Nat.zero_le _, hj⟩]; rfl, fun j hj => by omega⟩ (by rw [yS, hx]; rfl)
  exact e
