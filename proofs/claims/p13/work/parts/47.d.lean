/-! the reference's storm -/
/-- reads of the reference's row -/
def RMA (v : MM) (n : Nat) (A : Nat → Nat → Int32) : Prop := v 162 22 = iN n ∧ ∀ p c, p < n → c < 16 → v 172 (13 + 16 * p + c) = A p c
theorem ma_r {v : MM} {n p c : Nat} {A : Nat → Nat → Int32} (h : RMA v n A) (n9 : n ≤ 9) (hp : p < n) (hc : c < 16) : mof v (iN p) (iN c) = A p c := by
  rw [mofE (by omega) hc]
  exact h.2 p c hp hc
theorem ma_c {v y : MM} {n : Nat} {A : Nat → Nat → Int32} (h : RMA v n A) (e0 : y 162 22 = v 162 22) (e1 : y 172 = v 172) : RMA y n A := by
  unfold RMA
  rw [e0, e1]
  exact h
/-- the ponds are in order -/
def AWF (n : Nat) (A : Nat → Nat → Int32) : Prop := ∀ p, p < n → (∀ c, c < 16 → Bd (cLo c) (cHi c) (A p c)) ∧ LK n p (A p 8) ∧ LK n p (A p 9)
theorem hasI {s : Int32} {q : Nat} {u : MM} {g : GG} : Fx_M_hasX s (iN q) u g = inB s q := by
  unfold Fx_M_hasX inB
  by_cases h : ((s >>> (iN q &&& 31)) &&& 1) = 1
  · rw [if_pos h, decide_eq_true h]
  · rw [if_neg h, decide_eq_false h]
theorem mh_L {v : MM} {g : GG} {n p : Nat} {A : Nat → Nat → Int32} {w : Int32} (h : RMA v n A) (n9 : n ≤ 9) (hp : p < n) (hw : v 162 31 = w) : ∀ (f q : Nat), p - q < f → q ≤ p → (Fx_M_hearsX_L2 (iN p) v g f (iN q) = true ↔ ¬ A p 12 = -1 ∧ ∃ r, q ≤ r ∧ r < p ∧ inB w r = true ∧ (A r 8 = iN p ∨ A r 9 = iN p) ∧ ¬ A r 11 < A p 12) := by
  intro f
  induction f with
  | zero => intro q h1; omega
  | succ f ih =>
    intro q h1 h2
    rw [Fx_M_hearsX_L2_s]
    by_cases c : p ≤ q
    · rw [if_pos ((iN_le (by omega) (by omega)).mpr c)]
      exact ⟨fun z => absurd z (by decide), fun z => by obtain ⟨-, r, r1, r2, -⟩ := z; omega⟩
    · rw [if_neg (fun z => c ((iN_le (by omega) (by omega)).mp z)), show mof v (iN p) (12 : Int32) = A p 12 from ma_r (c := 12) h n9 hp (by decide)]
      by_cases g12 : A p 12 = -1
      · rw [if_pos g12]
        exact ⟨fun z => absurd z (by decide), fun z => absurd g12 z.1⟩
      have k := ih (q + 1) (by omega) (by omega)
      rw [if_neg g12, hw, xqb, hasI, iN_s, show mof v (iN q) (8 : Int32) = A q 8 from ma_r (c := 8) h n9 (by omega) (by decide), show mof v (iN q) (9 : Int32) = A q 9 from ma_r (c := 9) h n9 (by omega) (by decide), show mof v (iN q) (11 : Int32) = A q 11 from ma_r (c := 11) h n9 (by omega) (by decide)]
      have skip : ¬ (inB w q = true ∧ (A q 8 = iN p ∨ A q 9 = iN p) ∧ ¬ A q 11 < A p 12) → ((¬ A p 12 = -1 ∧ ∃ r, q + 1 ≤ r ∧ r < p ∧ inB w r = true ∧ (A r 8 = iN p ∨ A r 9 = iN p) ∧ ¬ A r 11 < A p 12) ↔ ¬ A p 12 = -1 ∧ ∃ r, q ≤ r ∧ r < p ∧ inB w r = true ∧ (A r 8 = iN p ∨ A r 9 = iN p) ∧ ¬ A r 11 < A p 12) := by
        intro no
        refine ⟨fun z => ?_, fun z => ?_⟩
        · obtain ⟨z0, r, r1, r2⟩ := z
          exact ⟨z0, r, by omega, r2⟩
        · obtain ⟨z0, r, r1, r2, r3⟩ := z
          by_cases y : r = q
          · rw [y] at r3
            exact absurd r3 no
          · exact ⟨z0, r, by omega, r2, r3⟩
      have yes : (A q 8 = iN p ∨ A q 9 = iN p) → inB w q = true → ((if A q 11 < A p 12 then Fx_M_hearsX_L2 (iN p) v g f (iN (q + 1)) else true) = true ↔ ¬ A p 12 = -1 ∧ ∃ r, q ≤ r ∧ r < p ∧ inB w r = true ∧ (A r 8 = iN p ∨ A r 9 = iN p) ∧ ¬ A r 11 < A p 12) := by
        intro l y
        by_cases y2 : A q 11 < A p 12
        · rw [if_pos y2]
          exact k.trans (skip (fun z => z.2.2 y2))
        · rw [if_neg y2]
          exact ⟨fun _ => ⟨g12, q, Nat.le_refl _, by omega, y, l, y2⟩, fun _ => rfl⟩
      by_cases y : inB w q = true
      · rw [if_pos y]
        by_cases y8 : A q 8 = iN p
        · rw [if_pos y8]
          exact yes (Or.inl y8) y
        · rw [if_neg y8]
          by_cases y9 : A q 9 = iN p
          · rw [if_pos y9]
            exact yes (Or.inr y9) y
          · rw [if_neg y9]
            exact k.trans (skip (fun z => z.2.1.elim y8 y9))
      · rw [if_neg y]
        exact k.trans (skip (fun z => y z.1))
theorem mh_X {v : MM} {g : GG} {n p : Nat} {A : Nat → Nat → Int32} {w : Int32} (h : RMA v n A) (n9 : n ≤ 9) (hp : p < n) (hw : v 162 31 = w) : Fx_M_hearsX (iN p) v g = hrB A w p := by
  refine Bool.eq_iff_iff.mpr ?_
  have e : hrB A w p = true ↔ HRS A w p := by
    unfold hrB
    exact @decide_eq_true_iff _ (Classical.propDecidable _)
  refine Iff.trans ?_ e.symm
  unfold Fx_M_hearsX HRS
  have f9 : (8 - (0 : Int32).toInt).toNat + 1 = 9 := by decide
  rw [f9]
  refine (mh_L h n9 hp hw 9 0 (by omega) (Nat.zero_le _)).trans ⟨fun z => ?_, fun z => ?_⟩
  · obtain ⟨y, r, r1, r2⟩ := z
    exact ⟨y, r, r2⟩
  · obtain ⟨y, r, r2⟩ := z
    exact ⟨y, r, Nat.zero_le _, r2⟩
theorem wt_e {c s l : Int32} {b : Bool} : ((l + s) + c) - (if b = true then l else 0) = c + (s + (if b = true then 0 else l)) := by
  cases b
  · show ((l + s) + c) - 0 = c + (s + l)
    rw [Int32.sub_zero, Int32.add_comm, Int32.add_comm l s]
  · show ((l + s) + c) - l = c + (s + 0)
    rw [Int32.add_zero, Int32.add_assoc, Int32.add_comm l, Int32.add_sub_cancel, Int32.add_comm]
/-- the numbers of pond p: what came, what it is filled with -/
theorem num_p {A : Nat → Nat → Int32} {n p : Nat} {st c : Int32} {hr : Bool} {M : Int} (aw : AWF n A) (hp : p < n) (bs : Bd 0 9 st) (bc : Bd 0 M c) (hM : M ≤ 1000000) :
    Bd 0 (M + 105) (wat A st hr p c) ∧ (hr = true → Bd 0 (M + 81) (wat A st hr p c)) ∧ Bd 0 24 (A p 0) ∧ Bd 0 24 (A p 1) ∧ Bd 0 24 (A p 3) ∧ (A p 15 = 0 ∨ A p 15 = 1) ∧ Bd 0 10 (A p 10) := by
  obtain ⟨a1, a2, a3⟩ := aw p hp
  have b0 : Bd 0 24 (A p 0) := a1 0 (by decide)
  have b1 : Bd 0 24 (A p 1) := a1 1 (by decide)
  have b2 : Bd 0 9 (A p 2) := a1 2 (by decide)
  have b3 : Bd 0 24 (A p 3) := a1 3 (by decide)
  have b15 : Bd 0 1 (A p 15) := a1 15 (by decide)
  have b10 : Bd 0 10 (A p 10) := a1 10 (by decide)
  have m : Bd 0 81 (st * A p 2) := bd_mul bs b2 (by omega)
  have c0 := bc.1
  have c1 := bc.2
  refine ⟨?_, fun h => ?_, b0, b1, b3, ?_, b10⟩
  · unfold wat
    cases hr
    · exact bd_add bc (bd_add (l := 0) (h := 105) m b1 (by omega)) (by omega)
    · exact bd_add bc (bd_add (l := 0) (h := 105) m (show Bd 0 24 (0 : Int32) from by decide) (by omega)) (by omega)
  · unfold wat
    rw [h]
    exact bd_add bc (bd_add (l := 0) (h := 81) m (show Bd 0 0 (0 : Int32) from by decide) (by omega)) (by omega)
  · obtain ⟨k, hk, k1⟩ := iN_ex (hi := 1) b15
    rcases (show k = 0 ∨ k = 1 by omega) with y | y
    · left; rw [hk, y]; rfl
    · right; rw [hk, y]; rfl
theorem ov_e {w H B : Int32} {M : Int} (bw : Bd 0 M w) (hM : M ≤ 1000000) (bH : Bd 0 24 H) (bB : Bd 0 24 B) : ((if w ≤ H then (0 : Int32) else w - H) ≤ B ↔ w - H ≤ B) ∧ (if w ≤ H then (0 : Int32) else w - H) = if 0 < w - H then w - H else 0 := by
  obtain ⟨w1, w2⟩ := bw
  obtain ⟨h1, h2⟩ := bH
  obtain ⟨q1, q2⟩ := bB
  have s : (w - H).toInt = w.toInt - H.toInt := ti_sub (by omega) (by omega)
  have z : (0 : Int32).toInt = 0 := rfl
  by_cases y : w.toInt ≤ H.toInt
  · rw [if_pos (leI y), if_neg (nltI (by omega))]
    exact ⟨⟨fun _ => leI (by omega), fun _ => leI (by omega)⟩, rfl⟩
  · rw [if_neg (nleI (by omega)), if_pos (ltI (by omega))]
    exact ⟨Iff.rfl, rfl⟩
theorem ms_2 {u : MM} {a i : Nat} {x : Int32} : ms (ms u a i x) a i (ms u a i x a i) = ms u a i x := by rw [ms_e1, ms_ms]
/-- pond p, as the reference passes it -/
theorem mp_X {v : MM} {g : GG} {n p : Nat} {A : Nat → Nat → Int32} {st bk c w hd : Int32} {M : Int} {b : Bool} (h : RMA v n A) (n9 : n ≤ 9) (hp : p < n) (aw : AWF n A) (k26 : v 162 26 = -1) (bs : Bd 0 9 st) (hc : v 174 p = c) (bc : Bd 0 M c) (hM : M ≤ 100000) (hw : v 162 31 = w) (hh : v 162 32 = hd) (hb : b = inB bk p) :
    ∃ y, Fx_M_passX (iN p) st (bI b) v g = y ∧ y 162 31 = (if gos A bk (-1) p (wat A st (hrB A w p) p c) = true then w ||| bt p else w) ∧ y 162 32 = (if hrB A w p = true then hd ||| bt p else hd) ∧ y 173 = upd (v 173) p (wat A st (hrB A w p) p c) ∧ y 175 = upd (v 175) p (lef A (-1) (hrB A w p) (gos A bk (-1) p (wat A st (hrB A w p) p c)) p (wat A st (hrB A w p) p c)) ∧ (∀ c, c ≠ 162 → c ≠ 173 → c ≠ 175 → y c = v c) ∧ ∀ j, j ≠ 31 → j ≠ 32 → y 162 j = v 162 j := by
  obtain ⟨hr, hhr⟩ : ∃ hr, hr = hrB A w p := ⟨_, rfl⟩
  obtain ⟨W, hW⟩ : ∃ W, W = wat A st hr p c := ⟨_, rfl⟩
  rw [← hhr, ← hW]
  obtain ⟨n1, n2, n3, n4, n5, n6, n7⟩ := num_p (hr := hr) aw hp bs bc (by omega)
  rw [← hW] at n1 n2
  have cp : (iN p).toNatClampNeg = p := iN_cl (by omega)
  have r : ∀ c, c < 16 → mof v (iN p) (iN c) = A p c := fun c hc => ma_r h n9 hp hc
  have pm : ¬ iN p = -1 := iN_nm (by omega)
  obtain ⟨o1, o2⟩ := ov_e n1 (by omega) n3 n5
  obtain ⟨ov, hov⟩ : ∃ ov, ov = if W ≤ A p 0 then (0 : Int32) else W - A p 0 := ⟨_, rfl⟩
  rw [← hov] at o1 o2
  obtain ⟨go, hgo⟩ : ∃ go, go = gos A bk (-1) p W := ⟨_, rfl⟩
  have eg : go = if A p 15 = 1 then false else if b = true then true else if ov ≤ A p 3 then false else true := by
    rw [hgo, hb]
    unfold gos
    rw [if_neg pm]
    by_cases y : W - A p 0 ≤ A p 3
    · rw [if_pos y, if_pos (o1.mpr y)]
    · rw [if_neg y, if_neg (fun z => y (o1.mp z))]
  have el : lef A (-1) hr go p W = (if go = true then W else if A p 15 = 1 then W else ov) + (if hr = true then A p 1 else 0) := by
    unfold lef
    rw [if_neg pm, ← o2]
  rw [← hgo]
  -- what is left behind the water
  have T : ∀ (X : MM) (w43 w47 : Int32), Fx_M_passX_J214 (iN p) v X w43 w47 = ms X 175 p (w43 + w47) := by
    intro X w43 w47
    unfold Fx_M_passX_J214 Fx_M_passX_J239
    rw [cp, xqb, k26, if_neg pm, xqb, xqb, ms_2]
  have T2 : ∀ (X : MM) (w43 : Int32), Fx_M_passX_J199 (iN p) v hr X w43 = ms X 175 p (w43 + (if hr = true then A p 1 else 0)) := by
    intro X w43
    unfold Fx_M_passX_J199
    rw [T, T, show mof v (iN p) (1 : Int32) = A p 1 from r 1 (by decide)]
    by_cases y : hr = true
    · rw [if_pos y, if_pos y]
    · rw [if_neg y, if_neg y]
  have T3 : ∀ X : MM, X 173 p = W → Fx_M_passX_J144 (iN p) v hr X ov (bI go) = ms (ms X 162 31 (if go = true then w ||| bt p else w)) 175 p ((if go = true then W else if A p 15 = 1 then W else ov) + (if hr = true then A p 1 else 0)) := by
    intro X hX
    unfold Fx_M_passX_J144 Fx_M_passX_J163
    rw [cp, hw, show mof v (iN p) (15 : Int32) = A p 15 from r 15 (by decide)]
    cases go
    · rw [if_pos (show bI false = 0 from rfl), xqb, if_pos (show bI false = 0 from rfl), Int32.or_zero, if_neg Bool.false_ne_true, if_neg Bool.false_ne_true, xqb, T2, T2, ms_c1 (by decide), hX]
      by_cases y : A p 15 = 1
      · rw [if_pos y, if_pos y]
      · rw [if_neg y, if_neg y]
    · rw [if_neg (show ¬ bI true = 0 by decide), xqb, if_neg (show ¬ bI true = 0 by decide), xqb, T2, ms_c1 (by decide), hX, if_pos rfl, if_pos rfl]
      rfl
  have T4 : ∀ X : MM, X 173 p = W → Fx_M_passX_J104 (iN p) (bI b) v hr X ov = Fx_M_passX_J144 (iN p) v hr X ov (bI go) := by
    intro X hX
    unfold Fx_M_passX_J104
    rw [show mof v (iN p) (15 : Int32) = A p 15 from r 15 (by decide), show mof v (iN p) (3 : Int32) = A p 3 from r 3 (by decide), k26, if_neg pm, eg]
    rcases n6 with y | y
    · rw [if_pos y, if_neg (show ¬ A p 15 = 1 by rw [y]; decide)]
      cases b
      · rw [if_pos (show bI false = 0 from rfl), if_neg Bool.false_ne_true]
        by_cases z : ov ≤ A p 3
        · rw [if_pos z, if_pos z]; rfl
        · rw [if_neg z, if_neg z]; rfl
      · rw [if_neg (show ¬ bI true = 0 by decide), if_pos rfl]; rfl
    · rw [if_neg (show ¬ A p 15 = 0 by rw [y]; decide), if_pos y]; rfl
  have e0 : Fx_M_passX (iN p) st (bI b) v g = ms (ms (ms (ms v 162 32 (if hr = true then hd ||| bt p else hd)) 173 p W) 162 31 (if go = true then w ||| bt p else w)) 175 p (lef A (-1) hr go p W) := by
    have J : Fx_M_passX (iN p) st (bI b) v g = Fx_M_passX_J104 (iN p) (bI b) v hr (ms (ms v 162 32 (if hr = true then hd ||| bt p else hd)) 173 p W) ov := by
      unfold Fx_M_passX Fx_M_passX_J24 Fx_M_passX_J70
      rw [mh_X h n9 hp hw, ← hhr, xqb, cp, hh, show mof v (iN p) (0 : Int32) = A p 0 from r 0 (by decide), show mof v (iN p) (1 : Int32) = A p 1 from r 1 (by decide), show mof v (iN p) (2 : Int32) = A p 2 from r 2 (by decide)]
      have fin : ∀ (X : MM), X 173 p = W → (xq_lt (X 173 p) fun v18 => if v18 ≤ A p 0 then Fx_M_passX_J104 (iN p) (bI b) v hr X 0 else (xq_lt (X 173 p) fun v67 => Fx_M_passX_J104 (iN p) (bI b) v hr X (v67 - A p 0))) = Fx_M_passX_J104 (iN p) (bI b) v hr X ov := by
        intro X hX
        rw [xqb, xqb, hX, hov]
        by_cases y : W ≤ A p 0
        · rw [if_pos y, if_pos y]
        · rw [if_neg y, if_neg y]
      have eW : ((A p 1 + st * A p 2) + c) - (if hr = true then A p 1 else 0) = W := wt_e.trans hW.symm
      by_cases y : hr = true
      · rw [if_pos y] at eW ⊢
        rw [xqb, xqb, if_pos y, if_pos y, ms_c1 (by decide), hc, xqb, eW]
        exact fin _ ms_e1
      · rw [if_neg y] at eW ⊢
        rw [xqb, xqb, if_neg y, if_neg y, Int32.or_zero, ms_c1 (by decide), hc, xqb, eW]
        exact fin _ ms_e1
    rw [J, T4 _ ms_e1, T3 _ ms_e1, el]
  refine ⟨_, e0, ?_, ?_, ?_, ?_, fun c c1 c2 c3 => ?_, fun j j1 j2 => ?_⟩
  · rw [ms_c1 (by decide), ms_e1]
  · rw [ms_c1 (by decide), ms_i1 (by decide), ms_c1 (by decide), ms_e1]
  · rw [ms_c1 (by decide), ms_c1 (by decide), ms_a1, ms_c1 (by decide)]
  · rw [ms_a1, ms_c1 (by decide), ms_c1 (by decide), ms_c1 (by decide)]
  · rw [ms_c1 c3, ms_c1 c1, ms_c1 c2, ms_c1 c1]
  · rw [ms_c1 (by decide), ms_i1 j1, ms_c1 (by decide), ms_i1 j2]
/-- the reference's memory behind the first p ponds -/
def RS (v : MM) (s : ST) (n p : Nat) : Prop := v 162 31 = s.1 ∧ v 162 32 = s.2.1 ∧ v 162 33 = s.2.2.1 ∧ (∀ j, p ≤ j → j < n → v 174 j = s.2.2.2.1 j) ∧ (∀ j, j < p → v 173 j = s.2.2.2.1 j) ∧ ∀ j, j < p → v 175 j = s.2.2.2.2 j
/-- what came is no more than -/
def BW (s : ST) (n p : Nat) : Prop := ∀ j, p ≤ j → j < n → Bd 0 (105 * ((2 ^ p : Nat) : Int) - 105) (s.2.2.2.1 j)
theorem lk_has {n p : Nat} {d : Int32} (h : LK n p d) (n9 : n ≤ 9) : (d = -1 ∧ hasB n d = false) ∨ ∃ q, p < q ∧ q < n ∧ d = iN q ∧ ¬ d = -1 ∧ hasB n d = true ∧ d.toNatClampNeg = q := by
  rcases h with h | ⟨q, h1, h2, h3⟩
  · exact Or.inl ⟨h, by rw [h]; rfl⟩
  · refine Or.inr ⟨q, h1, h2, h3, by rw [h3]; exact iN_nm (by omega), ?_, by rw [h3]; exact iN_cl (by omega)⟩
    unfold hasB
    rw [h3, if_neg (fun z => by have := (iN_lt (b := 0) (by omega) (by omega)).mp z; omega), if_neg (fun z => by have := (iN_le (by omega) (by omega)).mp z; omega)]
theorem lef_b {A : Nat → Nat → Int32} {n p : Nat} {st c : Int32} {hr go : Bool} {M : Int} (aw : AWF n A) (hp : p < n) (bs : Bd 0 9 st) (bc : Bd 0 M c) (hM : M ≤ 100000) : Bd 0 (M + 105) (lef A (-1) hr go p (wat A st hr p c)) := by
  obtain ⟨n1, n2, n3, n4, n5, n6, n7⟩ := num_p (hr := hr) aw hp bs bc (by omega)
  have z : (0 : Int32).toInt = 0 := rfl
  have low : ∀ K : Int, Bd 0 K (wat A st hr p c) → K ≤ 200000 → Bd 0 K (if iN p = -1 then (0 : Int32) else if go = true then wat A st hr p c else if A p 15 = 1 then wat A st hr p c else if 0 < wat A st hr p c - A p 0 then wat A st hr p c - A p 0 else 0) := by
    intro K bK hK
    have k1 := bK.1
    have k2 := bK.2
    have z0 : Bd 0 K (0 : Int32) := ⟨by omega, by omega⟩
    split
    · exact z0
    · split
      · exact bK
      · split
        · exact bK
        · split
          · rename_i q
            have q1 := Int32.lt_iff_toInt_lt.mp q
            have s := ti_sub (u := wat A st hr p c) (v := A p 0) (by have := n3.1; have := n3.2; omega) (by have := n3.1; have := n3.2; omega)
            exact ⟨by omega, by have := n3.1; omega⟩
          · exact z0
  unfold lef
  cases h : hr
  · rw [h] at low n1
    have l := low (M + 105) n1 (by omega)
    exact bd_add l (show Bd 0 0 (0 : Int32) by decide) (by omega)
  · rw [h] at low n2
    have l := low (M + 81) (n2 rfl) (by omega)
    exact bd_add l n4 (by omega)
theorem trn_b {A : Nat → Nat → Int32} {n p : Nat} {l : Int32} {K : Int} (aw : AWF n A) (hp : p < n) (bl : Bd 0 K l) (hK : K ≤ 1000000) : Bd 0 l.toInt (trn A n p l) := by
  have l1 := bl.1
  have l2 := bl.2
  have b10 : Bd 0 10 (A p 10) := (aw p hp).1 10 (by decide)
  have z : (0 : Int32).toInt = 0 := rfl
  have t10 : (10 : Int32).toInt = 10 := rfl
  unfold trn
  split
  · have m : Bd 0 (10 * l.toInt) (l * A p 10) := by
      have := bd_mul (u := l) (v := A p 10) (a := 0) (b := l.toInt) (c := 0) (e := 10) (l := 0) (h := 10 * l.toInt) ⟨l1, Int.le_refl _⟩ b10 (by omega)
      exact this
    exact bd_div m (by rw [t10]; omega)
  · exact ⟨by omega, by omega⟩
/-- what goes on from pond p -/
theorem pw_n {A : Nat → Nat → Int32} {n p : Nat} {l : Int32} {W : Nat → Int32} {M : Int} (n9 : n ≤ 9) (hp : p < n) (aw : AWF n A) (bl : Bd 0 (M + 105) l) (hM : M ≤ 100000) (hW : ∀ j, p < j → j < n → Bd 0 M (W j)) : (∀ j, j ≤ p → pW A n p l W j = W j) ∧ ∀ j, p < j → j < n → Bd 0 (2 * M + 105) (pW A n p l W j) := by
  obtain ⟨a1, l8, l9⟩ := aw p hp
  have tb := trn_b aw hp bl (by omega)
  have t1 := tb.1
  have t2 := tb.2
  have b1 := bl.1
  have b2 := bl.2
  have ts : (l - trn A n p l).toInt = l.toInt - (trn A n p l).toInt := ti_sub (by omega) (by omega)
  have z : (0 : Int32).toInt = 0 := rfl
  have pa : ∀ j, (p < j → j < n → (pA A n p l W j).toInt = (W j).toInt + (if j = (A p 9).toNatClampNeg ∧ hasB n (A p 9) = true then (trn A n p l).toInt else 0)) ∧ (j ≤ p → pA A n p l W j = W j) := by
    intro j
    unfold pA
    rcases lk_has l9 n9 with ⟨d1, d2⟩ | ⟨q, d1, d2, d3, d4, d5, d6⟩
    · rw [d2, if_neg (by decide)]
      refine ⟨fun _ _ => ?_, fun _ => rfl⟩
      rw [if_neg (fun q => absurd q.2 (by decide))]
      omega
    · have et : trn A n p l = (l * A p 10) / 10 := by unfold trn; rw [if_pos d5]
      rw [if_pos d5, d6, ← et]
      unfold upd
      refine ⟨fun j1 j2 => ?_, fun j1 => if_neg (by omega)⟩
      by_cases y : j = q
      · have w := hW q d1 d2
        have w1 := w.1
        have w2 := w.2
        rw [if_pos y, if_pos ⟨y, d5⟩, ti_add (by omega) (by omega), y]
      · rw [if_neg y, if_neg (fun z => y z.1)]
        omega
  unfold pW
  rcases lk_has l8 n9 with ⟨d1, d2⟩ | ⟨q, d1, d2, d3, d4, d5, d6⟩
  · rw [d2, if_neg (by decide)]
    refine ⟨fun j hj => (pa j).2 hj, fun j j1 j2 => ?_⟩
    have e := (pa j).1 j1 j2
    have w := hW j j1 j2
    have w1 := w.1
    have w2 := w.2
    rw [Bd, e]
    split <;> omega
  · rw [if_pos d5, d6]
    unfold upd
    refine ⟨fun j hj => ?_, fun j j1 j2 => ?_⟩
    · rw [if_neg (by omega)]
      exact (pa j).2 hj
    · have e := (pa j).1 j1 j2
      have w := hW j j1 j2
      have w1 := w.1
      have w2 := w.2
      by_cases y : j = q
      · rw [if_pos y, ← y]
        have ub : (pA A n p l W j).toInt ≤ M + (trn A n p l).toInt ∧ 0 ≤ (pA A n p l W j).toInt := by
          rw [e]
          split <;> omega
        rw [Bd, ti_add (by omega) (by omega), ts]
        omega
      · rw [if_neg y, Bd, e]
        split <;> omega
