/-! the reference's storm, all of it -/
theorem p2_s {p : Nat} : ((2 ^ (p + 1) : Nat) : Int) = 2 * ((2 ^ p : Nat) : Int) := by rw [Nat.pow_succ]; omega
/-- a pond's step keeps the bounds -/
theorem bw_s {A : Nat → Nat → Int32} {n p : Nat} {st bk : Int32} {S : ST} (n9 : n ≤ 9) (hp : p < n) (aw : AWF n A) (bs : Bd 0 9 st) (h : BW S n p) : BW (stp A n st bk (-1) p S) n (p + 1) := by
  have h3 := p2_le (p := p) (by omega)
  have bc := h p (Nat.le_refl _) hp
  have bl := lef_b (hr := hrB A S.1 p) (go := gos A bk (-1) p (wat A st (hrB A S.1 p) p (S.2.2.2.1 p))) aw hp bs bc (by omega)
  have k := (pw_n (W := upd S.2.2.2.1 p (wat A st (hrB A S.1 p) p (S.2.2.2.1 p))) n9 hp aw bl (by omega) (fun j j1 j2 => by rw [show upd S.2.2.2.1 p (wat A st (hrB A S.1 p) p (S.2.2.2.1 p)) j = S.2.2.2.1 j from if_neg (by omega)]; exact h j (by omega) j2)).2
  intro j j1 j2
  refine bd_w (k j (by omega) j2) ⟨by omega, ?_⟩
  rw [p2_s]
  omega
theorem st_bw {A : Nat → Nat → Int32} {n : Nat} {st bk : Int32} (n9 : n ≤ 9) (aw : AWF n A) (bs : Bd 0 9 st) : ∀ p, p ≤ n → BW (stN A n st bk (-1) p) n p := by
  intro p
  induction p with
  | zero => intro _ j _ _; exact (show Bd 0 (105 * ((2 ^ 0 : Nat) : Int) - 105) (0 : Int32) by decide)
  | succ p ih => intro hp; exact bw_s n9 (by omega) aw bs (ih (by omega))
theorem bl_L {u : MM} {g : GG} {n : Nat} {A : Nat → Nat → Int32} {st bk : Int32} (h0 : RMA u n A) (n9 : n ≤ 9) (aw : AWF n A) (k26 : u 162 26 = -1) (bs : Bd 0 9 st) : ∀ (f p : Nat) (x : MM), n - p < f → p ≤ n → (∀ c, c ≠ 162 → c ≠ 173 → c ≠ 174 → c ≠ 175 → x c = u c) → (∀ j, j ≠ 31 → j ≠ 32 → j ≠ 33 → x 162 j = u 162 j) → RS x (stN A n st bk (-1) p) n p → ∃ y, Fx_M_blowX_L40 st bk u g f (iN p) x = y ∧ RS y (stN A n st bk (-1) n) n n ∧ (∀ c, c ≠ 162 → c ≠ 173 → c ≠ 174 → c ≠ 175 → y c = u c) ∧ ∀ j, j ≠ 31 → j ≠ 32 → j ≠ 33 → y 162 j = u 162 j := by
  intro f
  induction f with
  | zero => intro p x h1; omega
  | succ f ih =>
    intro p x h1 h2 hx hj rs
    rw [Fx_M_blowX_L40_s, h0.1]
    by_cases q : n ≤ p
    · have e : p = n := by omega
      subst e
      rw [if_pos (Int32.le_refl _)]
      exact ⟨x, rfl, rs, hx, hj⟩
    have hp : p < n := by omega
    have h3 := p2_le (p := p) (by omega)
    have bw := st_bw (bk := bk) n9 aw bs p h2
    obtain ⟨r1, r2, r3, r4, r5, r6⟩ := rs
    obtain ⟨S, hS⟩ : ∃ S, S = stN A n st bk (-1) p := ⟨_, rfl⟩
    rw [← hS] at r1 r2 r3 r4 r5 r6 bw
    have cp : (iN p).toNatClampNeg = p := iN_cl (by omega)
    have mx : RMA x n A := ma_c h0 (hj 22 (by decide) (by decide) (by decide)) (hx 172 (by decide) (by decide) (by decide) (by decide))
    obtain ⟨y, y0, y1, y2, y3, y4, y5, y6⟩ := mp_X (g := g) (st := st) (bk := bk) (b := inB bk p) mx n9 hp aw ((hj 26 (by decide) (by decide) (by decide)).trans k26) bs (r4 p (Nat.le_refl _) hp) (bw p (Nat.le_refl _) hp) (by omega) r1 r2 rfl
    obtain ⟨lv, hlv⟩ : ∃ lv, lv = lef A (-1) (hrB A S.1 p) (gos A bk (-1) p (wat A st (hrB A S.1 p) p (S.2.2.2.1 p))) p (wat A st (hrB A S.1 p) p (S.2.2.2.1 p)) := ⟨_, rfl⟩
    rw [← hlv] at y4
    obtain ⟨wt, hwt⟩ : ∃ wt, wt = wat A st (hrB A S.1 p) p (S.2.2.2.1 p) := ⟨_, rfl⟩
    rw [← hwt] at y1 y3
    have y174 : y 174 = x 174 := y5 174 (by decide) (by decide) (by decide)
    have y33 : y 162 33 = S.2.2.1 := (y6 33 (by decide) (by decide)).trans r3
    have x33 : x 162 33 = S.2.2.1 := r3
    have yl : y 175 p = lv := by rw [y4]; exact if_pos rfl
    obtain ⟨a1, l8, l9⟩ := aw p hp
    have s8 : mof u (iN p) (8 : Int32) = A p 8 := ma_r (c := 8) h0 n9 hp (by decide)
    have s9 : mof u (iN p) (9 : Int32) = A p 9 := ma_r (c := 9) h0 n9 hp (by decide)
    have s10 : mof u (iN p) (10 : Int32) = A p 10 := ma_r (c := 10) h0 n9 hp (by decide)
    -- what goes on
    have D : ∀ (X : MM), (∀ j, p < j → j < n → X 174 j = pA A n p lv S.2.2.2.1 j) → (∀ c, c ≠ 174 → X c = y c) → ∃ z, Fx_M_blowX_J121 (Fx_M_blowX_L40 st bk u g f) u (iN p) x (trn A n p lv) X = Fx_M_blowX_L40 st bk u g f (iN (p + 1)) z ∧ (∀ j, p < j → j < n → z 174 j = pW A n p lv S.2.2.2.1 j) ∧ (∀ c, c ≠ 162 → c ≠ 174 → z c = y c) ∧ (∀ j, j ≠ 33 → z 162 j = y 162 j) ∧ z 162 33 = pB A n p lv S.2.2.1 := by
      intro X hX hc
      unfold Fx_M_blowX_J121 Fx_M_blowX_J177 pW pB
      rw [s8, cp, iN_s, hc 175 (by decide), yl, x33]
      rcases lk_has l8 n9 with ⟨d1, d2⟩ | ⟨q, d1, d2, d3, d4, d5, d6⟩
      · rw [if_pos d1, xqb, xqb, d2, if_neg (by decide), if_neg (by decide)]
        refine ⟨_, rfl, fun j j1 j2 => ?_, fun c c1 c2 => ?_, fun j j1 => ?_, ?_⟩
        · rw [ms_c1 (by decide)]; exact hX j j1 j2
        · rw [ms_c1 c1, hc c c2]
        · rw [ms_i1 j1, hc 162 (by decide)]
        · rw [ms_e1]
      · rw [if_neg d4, xqb, xqb, xqb, d6, if_pos d5, if_pos d5, hX q d1 d2]
        refine ⟨_, rfl, fun j j1 j2 => ?_, fun c c1 c2 => ?_, fun j j1 => ?_, ?_⟩
        · rw [ms_a1]
          unfold upd
          by_cases w : j = q
          · rw [if_pos w, if_pos w]
          · rw [if_neg w, if_neg w]; exact hX j j1 j2
        · rw [ms_c1 c2, hc c c2]
        · rw [ms_c1 (by decide), hc 162 (by decide)]
        · rw [ms_c1 (by decide), hc 162 (by decide)]; exact y33
    have E : ∃ z, (if mof u (iN p) (9 : Int32) = ((-1) : Int32) then (Fx_M_blowX_J91 (Fx_M_blowX_L40 st bk u g f) u (iN p) x y (0 : Int32)) else (xq_lt (y 175 (iN p).toNatClampNeg) fun v637 => Fx_M_blowX_J91 (Fx_M_blowX_L40 st bk u g f) u (iN p) x y ((v637 * (mof u (iN p) (10 : Int32))) / 10))) = Fx_M_blowX_L40 st bk u g f (iN (p + 1)) z ∧ (∀ j, p < j → j < n → z 174 j = pW A n p lv S.2.2.2.1 j) ∧ (∀ c, c ≠ 162 → c ≠ 174 → z c = y c) ∧ (∀ j, j ≠ 33 → z 162 j = y 162 j) ∧ z 162 33 = pB A n p lv S.2.2.1 := by
      unfold Fx_M_blowX_J91
      rw [s9, s10, cp, yl]
      rcases lk_has l9 n9 with ⟨d1, d2⟩ | ⟨q, d1, d2, d3, d4, d5, d6⟩
      · have et : trn A n p lv = 0 := by unfold trn; rw [d2, if_neg (by decide)]
        rw [if_pos d1, if_pos d1, ← et]
        refine D y (fun j j1 j2 => ?_) (fun _ _ => rfl)
        unfold pA
        rw [d2, if_neg (by decide), y174]
        exact r4 j (by omega) j2
      · have et : trn A n p lv = (lv * A p 10) / 10 := by unfold trn; rw [if_pos d5]
        rw [if_neg d4, xqb, if_neg d4, xqb, xqb, d6, ← et, y174, r4 q (by omega) d2]
        refine D _ (fun j j1 j2 => ?_) (fun c hc => ms_c1 hc)
        rw [ms_a1, y174]
        unfold pA upd
        rw [if_pos d5, d6, ← et]
        by_cases w : j = q
        · rw [if_pos w, if_pos w]
        · rw [if_neg w, if_neg w]; exact r4 j (by omega) j2
    obtain ⟨z, z0, z1, z2, z3, z4⟩ := E
    rw [if_neg (fun w => q ((iN_le (by omega) (by omega)).mp w)), xqb, hasI, xqb, y0]
    have z0' : (if mof u (iN p) (9 : Int32) = ((-1) : Int32) then (Fx_M_blowX_J91 (Fx_M_blowX_L40 st bk u g f) u (iN p) x y (0 : Int32)) else (xq_lt (y 175 (iN p).toNatClampNeg) fun v637 => Fx_M_blowX_J91 (Fx_M_blowX_L40 st bk u g f) u (iN p) x y ((v637 * (mof u (iN p) (10 : Int32))) / 10))) = Fx_M_blowX_L40 st bk u g f (iN (p + 1)) z := z0
    rw [z0']
    have lo := (pw_n (l := lv) (W := upd S.2.2.2.1 p wt) (M := 105 * ((2 ^ p : Nat) : Int) - 105) n9 hp aw (by rw [hlv]; exact lef_b aw hp bs (bw p (Nat.le_refl _) hp) (by omega)) (by omega) (fun j j1 j2 => by rw [show upd S.2.2.2.1 p wt j = S.2.2.2.1 j from if_neg (by omega)]; exact bw j (by omega) j2)).1
    -- targets lie behind p
    have up : ∀ j, p < j → j < n → pW A n p lv (upd S.2.2.2.1 p wt) j = pW A n p lv S.2.2.2.1 j := by
      intro j j1 j2
      have ea : ∀ i, p < i → pA A n p lv (upd S.2.2.2.1 p wt) i = pA A n p lv S.2.2.2.1 i := by
        intro i i1
        unfold pA
        rcases lk_has l9 n9 with ⟨d1, d2⟩ | ⟨q, d1, d2, d3, d4, d5, d6⟩
        · rw [d2, if_neg (by decide), if_neg (by decide)]
          exact if_neg (by omega)
        · rw [if_pos d5, if_pos d5, d6]
          unfold upd
          by_cases w : i = q
          · rw [if_pos w, if_pos w, if_neg (by omega)]
          · rw [if_neg w, if_neg w, if_neg (by omega)]
      unfold pW
      rcases lk_has l8 n9 with ⟨d1, d2⟩ | ⟨q, d1, d2, d3, d4, d5, d6⟩
      · rw [d2, if_neg (by decide), if_neg (by decide)]
        exact ea j j1
      · rw [if_pos d5, if_pos d5, d6, ea q d1]
        unfold upd
        by_cases w : j = q
        · rw [if_pos w, if_pos w]
        · rw [if_neg w, if_neg w]; exact ea j j1
    have eS : stN A n st bk (-1) (p + 1) = stq A n (-1) p S (hrB A S.1 p) (gos A bk (-1) p wt) wt := by
      rw [hwt, hS]; rfl
    refine ih (p + 1) z (by omega) (by omega) (fun c c1 c2 c3 c4 => ?_) (fun j j1 j2 j3 => ?_) ?_
    · rw [z2 c c1 c3, y5 c c1 c2 c4, hx c c1 c2 c3 c4]
    · rw [z3 j j3, y6 j j1 j2, hj j j1 j2 j3]
    · rw [eS]
      unfold stq
      rw [hwt] at eS
      refine ⟨?_, ?_, ?_, fun j j1 j2 => ?_, fun j j1 => ?_, fun j j1 => ?_⟩
      · rw [z3 31 (by decide), y1, hwt]
      · rw [z3 32 (by decide), y2]
      · rw [z4, hwt, hlv]
      · rw [z1 j (by omega) j2, ← up j (by omega) j2, hwt, hlv]
      · show z 173 j = pW A n p (lef A (-1) (hrB A S.1 p) (gos A bk (-1) p wt) p wt) (upd S.2.2.2.1 p wt) j
        have el : lef A (-1) (hrB A S.1 p) (gos A bk (-1) p wt) p wt = lv := by rw [hlv, hwt]
        rw [el, lo j (by omega), z2 173 (by decide) (by decide), y3]
        unfold upd
        by_cases w : j = p
        · rw [if_pos w, if_pos w]
        · rw [if_neg w, if_neg w]; exact r5 j (by omega)
      · show z 175 j = upd S.2.2.2.2 p (lef A (-1) (hrB A S.1 p) (gos A bk (-1) p wt) p wt) j
        have el : lef A (-1) (hrB A S.1 p) (gos A bk (-1) p wt) p wt = lv := by rw [hlv, hwt]
        rw [el, z2 175 (by decide) (by decide), y4]
        unfold upd
        by_cases w : j = p
        · rw [if_pos w, if_pos w]
        · rw [if_neg w, if_neg w]; exact r6 j (by omega)
theorem bc_L {u : MM} {g : GG} {n : Nat} {st bk : Int32} (h : u 162 22 = iN n) (n9 : n ≤ 9) : ∀ (f i : Nat) (x : MM), n - i < f → i ≤ n → ∃ y, Fx_M_blowX_L17 st bk u g f (iN i) x = Fx_M_blowX_L40 st bk u g 10 (iN 0) y ∧ (∀ j, y 174 j = if i ≤ j ∧ j < n then 0 else x 174 j) ∧ ∀ c, c ≠ 174 → y c = x c := by
  intro f
  induction f with
  | zero => intro i x h1; omega
  | succ f ih =>
    intro i x h1 h2
    rw [Fx_M_blowX_L17_s, h]
    by_cases c : n ≤ i
    · rw [if_pos ((iN_le (by omega) (by omega)).mpr c)]
      have e10 : (9 - (0 : Int32).toInt).toNat + 1 = 10 := by decide
      rw [e10]
      exact ⟨x, rfl, fun j => by rw [if_neg (by omega)], fun _ _ => rfl⟩
    · rw [if_neg (fun q => c ((iN_le (by omega) (by omega)).mp q)), xqb, iN_s, iN_cl (by omega)]
      obtain ⟨y, y1, y2, y3⟩ := ih (i + 1) (ms x 174 i 0) (by omega) (by omega)
      refine ⟨y, y1, fun j => ?_, fun c hc => (y3 c hc).trans (ms_c1 hc)⟩
      rw [y2 j]
      by_cases q : j = i
      · rw [if_neg (by omega), q, ms_e1, if_pos (by omega)]
      · rw [ms_i1 q]
        by_cases q2 : i ≤ j ∧ j < n
        · rw [if_pos (by omega), if_pos q2]
        · rw [if_neg (by omega), if_neg q2]
/-- the reference's storm -/
theorem rbl_X {v : MM} {g : GG} {n : Nat} {A : Nat → Nat → Int32} {st bk : Int32} (h : RMA v n A) (n9 : n ≤ 9) (aw : AWF n A) (k26 : v 162 26 = -1) (bs : Bd 0 9 st) : ∃ y, Fx_M_blowX st bk v g = y ∧ RS y (stN A n st bk (-1) n) n n ∧ (∀ c, c ≠ 162 → c ≠ 173 → c ≠ 174 → c ≠ 175 → y c = v c) ∧ ∀ j, j ≠ 31 → j ≠ 32 → j ≠ 33 → y 162 j = v 162 j := by
  unfold Fx_M_blowX
  have e10 : (9 - (0 : Int32).toInt).toNat + 1 = 10 := by decide
  rw [xqb, xqb, xqb, e10]
  obtain ⟨x, hx⟩ : ∃ x, x = ms (ms (ms v 162 31 0) 162 32 0) 162 33 0 := ⟨_, rfl⟩
  rw [← hx]
  have xc : ∀ c, c ≠ 162 → x c = v c := fun c hc => by rw [hx, ms_c1 hc, ms_c1 hc, ms_c1 hc]
  have xj : ∀ j, j ≠ 31 → j ≠ 32 → j ≠ 33 → x 162 j = v 162 j := fun j j1 j2 j3 => by rw [hx, ms_i1 j3, ms_i1 j2, ms_i1 j1]
  obtain ⟨y, y1, y2, y3⟩ := bc_L (u := v) (g := g) (st := st) (bk := bk) h.1 n9 10 0 x (by omega) (by omega)
  have y1' : Fx_M_blowX_L17 st bk v g 10 0 x = Fx_M_blowX_L40 st bk v g 10 (iN 0) y := y1
  rw [y1']
  have y162 : y 162 = x 162 := y3 162 (by decide)
  exact bl_L h n9 aw k26 bs 10 0 y (by omega) (by omega) (fun c c1 c2 c3 c4 => (y3 c c3).trans (xc c c1)) (fun j j1 j2 j3 => by rw [y162]; exact xj j j1 j2 j3) ⟨by rw [y162, hx]; rfl, by rw [y162, hx]; rfl, by rw [y162, hx]; rfl, fun j j1 j2 => by rw [y2 j, if_pos ⟨Nat.zero_le _, j2⟩]; rfl, fun j hj => by omega, fun j hj => by omega⟩
/-- harm, as the reference adds it -/
def hro (A : Nat → Nat → Int32) (o s : Int32) : Nat → Int32
  | 0 => 0
  | p + 1 => hro A o s p + (if inB s p = true ∧ (o = -1 ∨ A p 6 = o) then A p 5 else 0)
