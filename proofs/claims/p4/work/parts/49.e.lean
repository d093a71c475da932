/-! answers: mean, joint, mended, helps, alone -/
theorem mn_eq {A : Nat → Nat → Int32} {n m : Nat} {sr cr ch ch2 : Nat → Int32} {H H2 : Int32 → Int32} (n9 : n ≤ 9) (hch : ∀ p, p < n → ch p = ch2 p) (hH : ∀ k, k < 2 ^ n → H (iN k) = H2 (iN k)) : fR (mnF A n sr cr ch H) (2 ^ n) m 0 = fR (mnF A n sr cr ch2 H2) (2 ^ n) m 0 := by
  refine fR_c m 0 (fun r b a hr hb => ?_)
  obtain ⟨w, hw, ew⟩ := (st_sb (A := A) (n := n) (st := sr r) (bk := iN b) (kp := -1) n n9).1
  unfold mnF
  rw [wB_c (ch2 := ch2) (b2 := b) n (fun q hq => ⟨hch q hq, rfl⟩), ew, hH w hw]
theorem mn_4 {A B : Nat → Nat → Int32} {n m : Nat} {sr cr ch : Nat → Int32} {H : Int32 → Int32} (h : ∀ p c, c ≠ 4 → A p c = B p c) : fR (mnF A n sr cr ch H) (2 ^ n) m 0 = fR (mnF B n sr cr ch H) (2 ^ n) m 0 := by
  refine fR_c m 0 (fun r b a hr hb => ?_)
  unfold mnF
  rw [stN_4 h]
theorem pt_eq {A : Nat → Nat → Int32} {n m : Nat} {sr cr ch ch2 : Nat → Int32} {s : Int32} (hch : ∀ p, p < n → ch p = ch2 p) : fR (ptF A n sr cr ch s) (2 ^ n) m 0 = fR (ptF A n sr cr ch2 s) (2 ^ n) m 0 := by
  refine fR_c m 0 (fun r b a hr hb => ?_)
  unfold ptF
  rw [wB_c (ch2 := ch2) (b2 := b) n (fun q hq => ⟨hch q hq, rfl⟩)]
theorem cnt_all {A : Nat → Nat → Int32} {n : Nat} : ∀ p, p < n → ((2 ^ n - 1).testBit p = true ↔ ((-1 : Int32) = -1 ∨ A p 6 = -1)) := fun p hp => ⟨fun _ => Or.inl rfl, fun _ => by rw [Nat.testBit_two_pow_sub_one]; exact decide_eq_true hp⟩
theorem cnt_own {A : Nat → Nat → Int32} {n : Nat} {o : Int32} (ho : ¬ o = -1) : ∀ p, p < n → ((bset (owF A o) n).testBit p = true ↔ (o = -1 ∨ A p 6 = o)) := fun p hp => by
  rw [bset_b n p hp]
  exact ⟨fun z => Or.inr (of_decide_eq_true z), fun z => decide_eq_true (z.resolve_left ho)⟩
/-- the class's mean of those counted is the reference's of an owner -/
theorem cmn_eq {x y : MM} {g g' : GG} {n m c : Nat} {A : Nat → Nat → Int32} {sr cr ch ch2 : Nat → Int32} {mg o : Int32} (h : OK x g n m A sr cr mg ch) (su : SUP n mg ch) (hc : c < 2 ^ n) (hch : ∀ p, p < n → ch p = ch2 p) (hcn : ∀ p, p < n → (c.testBit p = true ↔ (o = -1 ∨ A p 6 = o))) : Fx_O_meanOfX (iN c) x g = fR (mnF A n sr cr ch2 (fun w => hro A o w n)) (2 ^ n) m 0 := by
  rw [mo_X h su hc]
  exact mn_eq h.1 hch (fun k hk => hrm_and h.1 hk hc hcn n (Nat.le_refl _))
theorem q_own {x y : MM} {g g' : GG} {o : Int32} : ∃ b, Fx_isOwnerX o x g = b ∧ Fx_M_isOwnerX o y g' = b ∧ (b = true → ¬ o = -1) := by
  unfold Fx_isOwnerX Fx_M_isOwnerX
  rw [xqb, in_X]
  have l0 : (0 : Int32).toInt = 0 := rfl
  have l3 : (3 : Int32).toInt = 3 := rfl
  have l4 : (4 : Int32).toInt = 4 := rfl
  by_cases h : 0 ≤ o.toInt ∧ o.toInt ≤ 3
  · rw [if_neg (nltI (by omega)), if_neg (nleI (by omega)), inT (by omega) (by omega)]
    refine ⟨true, rfl, rfl, fun _ z => ?_⟩
    rw [z] at h
    exact absurd h (by decide)
  · rw [(Bool.not_eq_true _).mp (inF (v := o) (lo := 0) (hi := 3) (by omega))]
    by_cases h2 : o.toInt < 0
    · rw [if_pos (ltI (by omega))]
      exact ⟨false, rfl, rfl, fun z => absurd z (by decide)⟩
    · rw [if_neg (nltI (by omega)), if_pos (leI (by omega))]
      exact ⟨false, rfl, rfl, fun z => absurd z (by decide)⟩
theorem R5_mean {u v u1 v2 : MM} {g g' g1 : GG} {hill plan owner : Int32} {z w : Int64} (h : RLY u v) (b5 : Bd 0 2 (u 1 5)) (b7 : Bd 0 3 (u 1 7)) (hd : HD v) (pl : PL v) (e1 : (z, u1, g1) = Fx_P_meanX hill plan owner u g) (e2 : (w, v2) = Fx_M_meanX hill plan owner v g') : z = w := by
  obtain ⟨b, x, y, p1, p2, p3⟩ := lay_Y (g := g) (g' := g') (hill := hill) (plan := plan) h b5 b7 hd pl
  unfold Fx_P_meanX at e1
  unfold Fx_M_meanX at e2
  rw [xqb, p2, c2_mk] at e2
  cases b
  · rw [looks_F p1, c3_mk, if_neg Bool.false_ne_true] at e1
    rw [if_neg Bool.false_ne_true] at e2
    exact (congrArg Prod.fst e1).trans (congrArg Prod.fst e2).symm
  obtain ⟨n, m, L⟩ := p3 rfl
  obtain ⟨x', g2, k1, ⟨ok, L'⟩, k3⟩ := looks_T (g := g) p1 L
  rw [k1, c3_mk, if_pos rfl] at e1
  rw [if_pos rfl] at e2
  have n9 := L.1
  have rr := rr_L L
  have su := sup_m (md := 0) n9 L.2.2.2.2.2.1
  have hch : ∀ p, p < n → chM (rwA y) 0 0 p = rwA y p 4 := fun p hp => chM_0 (by omega)
  by_cases o1 : owner = -1
  · obtain ⟨y2, m1, m2⟩ := mb_X (g := g') (o := owner) rr
    rw [if_pos o1, if_pos o1, xqb, all_X L'.2.2.2.1.1 n9, xqb, cmn_eq (y := y) (g' := g') (o := owner) ok su (c := 2 ^ n - 1) (by have := Nat.two_pow_pos n; omega) hch (by rw [o1]; exact cnt_all)] at e1
    rw [if_pos o1, m1, c2_mk] at e2
    exact (congrArg Prod.fst e1).trans (congrArg Prod.fst e2).symm
  · obtain ⟨t, t1, t2, t3⟩ := q_own (x := x') (y := y) (g := g2) (g' := g') (o := owner)
    rw [if_neg o1, xqb, t1] at e1
    rw [if_neg o1, xqb, t2] at e2
    cases t
    · rw [if_neg Bool.false_ne_true] at e1 e2
      exact (congrArg Prod.fst e1).trans (congrArg Prod.fst e2).symm
    · obtain ⟨y2, m1, m2⟩ := mb_X (g := g') (o := owner) rr
      rw [if_pos rfl, if_neg o1, xqb, ow_X L'.2.2.2.1 n9, xqb, cmn_eq (y := y) (g' := g') (o := owner) ok su (bset_lt n) hch (cnt_own o1)] at e1
      rw [if_pos rfl, m1, c2_mk] at e2
      exact (congrArg Prod.fst e1).trans (congrArg Prod.fst e2).symm
theorem R5_joint {u v u1 v2 : MM} {g g' g1 : GG} {hill plan one other : Int32} {z w : Int64} (h : RLY u v) (b5 : Bd 0 2 (u 1 5)) (b7 : Bd 0 3 (u 1 7)) (hd : HD v) (pl : PL v) (e1 : (z, u1, g1) = Fx_P_jointX hill plan one other u g) (e2 : (w, v2) = Fx_M_jointX hill plan one other v g') : z = w := by
  obtain ⟨b, x, y, p1, p2, p3⟩ := lay_Y (g := g) (g' := g') (hill := hill) (plan := plan) h b5 b7 hd pl
  unfold Fx_P_jointX at e1
  unfold Fx_M_jointX at e2
  rw [xqb, p2, c2_mk] at e2
  cases b
  · rw [looks_F p1, c3_mk, if_neg Bool.false_ne_true] at e1
    rw [if_neg Bool.false_ne_true] at e2
    exact (congrArg Prod.fst e1).trans (congrArg Prod.fst e2).symm
  obtain ⟨n, m, L⟩ := p3 rfl
  obtain ⟨x', g2, k1, ⟨ok, L'⟩, k3⟩ := looks_T (g := g) p1 L
  rw [k1, c3_mk, if_pos rfl] at e1
  rw [if_pos rfl] at e2
  have n9 := L.1
  have rr := rr_L L
  have su := sup_m (md := 0) n9 L.2.2.2.2.2.1
  have hch : ∀ p, p < n → chM (rwA y) 0 0 p = rwA y p 4 := fun p hp => chM_0 (by omega)
  obtain ⟨t, t1, t2, t3⟩ := q_pond (g := g2) (g' := g') (p := one) L'
  obtain ⟨s, s1, s2, s3⟩ := q_pond (g := g2) (g' := g') (p := other) L'
  rw [xqb, t1] at e1
  rw [xqb, t2] at e2
  cases t
  · rw [if_neg Bool.false_ne_true] at e1 e2
    exact (congrArg Prod.fst e1).trans (congrArg Prod.fst e2).symm
  rw [if_pos rfl, xqb, s1] at e1
  rw [if_pos rfl, xqb, s2] at e2
  cases s
  · rw [if_neg Bool.false_ne_true] at e1 e2
    exact (congrArg Prod.fst e1).trans (congrArg Prod.fst e2).symm
  obtain ⟨q, q1, q2⟩ := t3 rfl
  obtain ⟨r, r1, r2⟩ := s3 rfl
  obtain ⟨y2, m1, m2⟩ := to_X (g := g') (s := bt q ||| bt r) rr
  have m1' : Fx_M_togetherX ((1 <<< (iN q &&& 31)) ||| (1 <<< (iN r &&& 31))) y g' = (fR (ptF (rwA y) n (sR y) (cR y) (fun p => rwA y p 4) (bt q ||| bt r)) (2 ^ n) m 0, y2) := m1
  rw [if_pos rfl, q2, r2, xqb, xqb, b9I (by omega), b9I (by omega), xqb, po_X ok su, pt_eq hch] at e1
  rw [if_pos rfl, q2, r2, m1', c2_mk] at e2
  exact (congrArg Prod.fst e1).trans (congrArg Prod.fst e2).symm
/-! chances kept and mended, of the reference -/
def mdA (A : Nat → Nat → Int32) (md : Int32) (p c : Nat) : Int32 := if c = 4 then (if inB md p = true then 0 else A p 4) else A p c
theorem mdA_n {A : Nat → Nat → Int32} {md : Int32} : ∀ p c, c ≠ 4 → mdA A md p c = A p c := fun p c hc => if_neg hc
theorem mdA_4 {A : Nat → Nat → Int32} {md : Int32} {p : Nat} : mdA A md p 4 = if inB md p = true then 0 else A p 4 := if_pos rfl
theorem aw_md {A : Nat → Nat → Int32} {n : Nat} {md : Int32} (h : AWF n A) : AWF n (mdA A md) := by
  intro p hp
  obtain ⟨a1, a2, a3⟩ := h p hp
  refine ⟨fun c hc => ?_, ?_, ?_⟩
  · by_cases y : c = 4
    · subst y
      rw [mdA_4]
      split
      · exact (show Bd 0 10 (0 : Int32) by decide)
      · exact a1 4 hc
    · rw [mdA_n p c y]; exact a1 c hc
  · rw [mdA_n p 8 (by decide)]; exact a2
  · rw [mdA_n p 9 (by decide)]; exact a3
/-- ready, the chances kept -/
def MRD (y : MM) (n m : Nat) (A : Nat → Nat → Int32) (sr cr : Nat → Int32) : Prop := RR y n m A sr cr ∧ ∀ p, p < n → y 177 p = A p 4
theorem kc_L {u : MM} {n m : Nat} {A : Nat → Nat → Int32} {sr cr : Nat → Int32} (h : RR u n m A sr cr) : ∀ (f p : Nat) (y : MM), n - p < f → p ≤ n → (∀ c, c ≠ 177 → y c = u c) → (∀ q, q < p → y 177 q = A q 4) → ∃ y', Fx_M_keepChancesX_L2 u f (iN p) y = y' ∧ (∀ c, c ≠ 177 → y' c = u c) ∧ ∀ q, q < n → y' 177 q = A q 4 := by
  have n9 := h.1
  intro f
  induction f with
  | zero => intro p y h1; omega
  | succ f ih =>
    intro p y h1 h2 hc k
    rw [Fx_M_keepChancesX_L2_s, h.2.2.1.1]
    by_cases q : n ≤ p
    · have e : p = n := by omega
      subst e
      rw [if_pos (Int32.le_refl _)]
      exact ⟨y, rfl, hc, k⟩
    · rw [if_neg (fun z => q ((iN_le (by omega) (by omega)).mp z)), xqb, iN_s, iN_cl (by omega), show mof u (iN p) (4 : Int32) = A p 4 from ma_r (c := 4) h.2.2.1 n9 (by omega) (by decide)]
      refine ih (p + 1) _ (by omega) (by omega) (fun c hc' => (ms_c1 hc').trans (hc c hc')) (fun q hq => ?_)
      by_cases y2 : q = p
      · rw [y2, ms_e1]
      · rw [ms_i1 y2]; exact k q (by omega)
theorem rr_177 {y u : MM} {n m : Nat} {A : Nat → Nat → Int32} {sr cr : Nat → Int32} (h : RR u n m A sr cr) (hc : ∀ c, c ≠ 177 → y c = u c) : RR y n m A sr cr := by
  obtain ⟨n9, m4, ma, aw, h26, h27, h1, hr⟩ := h
  have e162 := hc 162 (by decide)
  have e172 := hc 172 (by decide)
  exact ⟨n9, m4, ma_c ma (by rw [e162]) e172, aw, by rw [e162]; exact h26, by rw [e162]; exact h27, by rw [e172]; exact h1, by rw [e172]; exact hr⟩
theorem kc_X {u : MM} {g : GG} {n m : Nat} {A : Nat → Nat → Int32} {sr cr : Nat → Int32} (h : RR u n m A sr cr) : ∃ y', Fx_M_keepChancesX u g = y' ∧ MRD y' n m A sr cr ∧ ∀ c, c ≠ 177 → y' c = u c := by
  unfold Fx_M_keepChancesX
  have e10 : (9 - (0 : Int32).toInt).toNat + 1 = 10 := by decide
  have n9 := h.1
  rw [e10]
  obtain ⟨y', k1, k2, k3⟩ := kc_L h 10 0 u (by omega) (by omega) (fun _ _ => rfl) (fun q hq => by omega)
  exact ⟨y', k1, ⟨rr_177 h k2, k3⟩, k2⟩
theorem ma_L {u : MM} {g : GG} {n : Nat} {md : Int32} (h22 : u 162 22 = iN n) (n9 : n ≤ 9) : ∀ (f p : Nat) (y : MM), n - p < f → p ≤ n → (∀ c, c ≠ 172 → y c = u c) → (∀ j, (∀ q, q < n → j ≠ 13 + 16 * q + 4) → y 172 j = u 172 j) → (∀ q, q < p → y 172 (13 + 16 * q + 4) = if inB md q = true then 0 else u 177 q) → ∃ y', Fx_M_mendAllNX_L2 md u g f (iN p) y = y' ∧ (∀ c, c ≠ 172 → y' c = u c) ∧ (∀ j, (∀ q, q < n → j ≠ 13 + 16 * q + 4) → y' 172 j = u 172 j) ∧ ∀ q, q < n → y' 172 (13 + 16 * q + 4) = if inB md q = true then 0 else u 177 q := by
  intro f
  induction f with
  | zero => intro p y h1; omega
  | succ f ih =>
    intro p y h1 h2 hc hj k
    rw [Fx_M_mendAllNX_L2_s, h22]
    by_cases q : n ≤ p
    · have e : p = n := by omega
      subst e
      rw [if_pos (Int32.le_refl _)]
      exact ⟨y, rfl, hc, hj, k⟩
    · have s4 : ∀ z : Int32, Fx_M_setX (iN p) (4 : Int32) z y g = ms y 172 (13 + 16 * p + 4) z := fun z => msE (c := 4) (by omega) (by decide)
      rw [if_neg (fun z => q ((iN_le (by omega) (by omega)).mp z)), xqb, hasI]
      unfold Fx_M_mendAllNX_J31
      rw [iN_s, s4, iN_cl (by omega), hc 177 (by decide)]
      have J : ∀ z : Int32, z = (if inB md p = true then 0 else u 177 p) → ∃ y', (xq_lt (Fx_M_setX (iN p) (4 : Int32) z y g) fun u68 => Fx_M_mendAllNX_L2 md u g f (iN (p + 1)) u68) = y' ∧ (∀ c, c ≠ 172 → y' c = u c) ∧ (∀ j, (∀ q, q < n → j ≠ 13 + 16 * q + 4) → y' 172 j = u 172 j) ∧ ∀ q, q < n → y' 172 (13 + 16 * q + 4) = if inB md q = true then 0 else u 177 q := by
        intro z hz
        rw [xqb, s4]
        refine ih (p + 1) _ (by omega) (by omega) (fun c hc' => (ms_c1 hc').trans (hc c hc')) (fun j hj' => (ms_i1 (hj' p (by omega))).trans (hj j hj')) (fun q hq => ?_)
        by_cases y2 : q = p
        · rw [y2, ms_e1]; exact hz
        · rw [ms_i1 (by omega)]; exact k q (by omega)
      by_cases t : inB md p = true
      · rw [if_pos t, ← s4]
        exact J 0 (by rw [if_pos t])
      · rw [if_neg t, xqb (x := u 177 p)]
        exact J (u 177 p) (by rw [if_neg t])
/-- some mended -/
theorem md_X {u : MM} {g : GG} {n m : Nat} {A B : Nat → Nat → Int32} {sr cr : Nat → Int32} {md : Int32} (h : RR u n m B sr cr) (aw : AWF n A) (hB : ∀ p c, c ≠ 4 → B p c = A p c) (hk : ∀ p, p < n → u 177 p = A p 4) : ∃ y', Fx_M_mendAllNX md u g = y' ∧ RR y' n m (mdA A md) sr cr ∧ (∀ p, p < n → y' 177 p = A p 4) ∧ (∀ c, c ≠ 172 → y' c = u c) ∧ ∀ j, j < 13 → y' 172 j = u 172 j := by
  unfold Fx_M_mendAllNX
  have e10 : (9 - (0 : Int32).toInt).toNat + 1 = 10 := by decide
  obtain ⟨n9, m4, ma, aw', h26, h27, h1, hr⟩ := h
  rw [e10]
  obtain ⟨y', k1, k2, k3, k4⟩ := ma_L (g := g) (md := md) ma.1 n9 10 0 u (by omega) (by omega) (fun _ _ => rfl) (fun _ _ => rfl) (fun q hq => by omega)
  have e162 := k2 162 (by decide)
  have lo : ∀ j, j < 13 → y' 172 j = u 172 j := fun j hj => k3 j (fun q hq => by omega)
  refine ⟨y', k1, ⟨n9, m4, ⟨by rw [e162]; exact ma.1, fun p c hp hc => ?_⟩, aw_md aw, by rw [e162]; exact h26, by rw [e162]; exact h27, by rw [lo 1 (by decide)]; exact h1, fun i hi => ?_⟩, fun p hp => by rw [k2 177 (by decide)]; exact hk p hp, k2, lo⟩
  · by_cases y : c = 4
    · subst y
      rw [k4 p hp, mdA_4, hk p hp]
    · rw [mdA_n p c y, ← hB p c y, ← ma.2 p c hp hc]
      exact k3 _ (fun q hq => by omega)
  · rw [lo _ (by omega), lo _ (by omega)]
    exact hr i hi
theorem rr_a {y : MM} {n m : Nat} {A B : Nat → Nat → Int32} {sr cr : Nat → Int32} (h : RR y n m A sr cr) (e : ∀ p c, p < n → c < 16 → A p c = B p c) : RR y n m B sr cr := by
  obtain ⟨n9, m4, ma, aw, h26, h27, h1, hr⟩ := h
  refine ⟨n9, m4, ⟨ma.1, fun p c hp hc => (ma.2 p c hp hc).trans (e p c hp hc)⟩, fun p hp => ?_, h26, h27, h1, hr⟩
  obtain ⟨a1, a2, a3⟩ := aw p hp
  exact ⟨fun c hc => by rw [← e p c hp hc]; exact a1 c hc, by rw [← e p 8 hp (by decide)]; exact a2, by rw [← e p 9 hp (by decide)]; exact a3⟩
/-- what a mean with some mended leaves alone -/
def FRD (y' y : MM) : Prop := (∀ c, c ≠ 162 → c ≠ 172 → c ≠ 173 → c ≠ 174 → c ≠ 175 → y' c = y c) ∧ (∀ j, j ≠ 31 → j ≠ 32 → j ≠ 33 → y' 162 j = y 162 j) ∧ ∀ j, j < 13 → y' 172 j = y 172 j
/-- the reference's mean with some mended -/
theorem mm_X {y : MM} {g : GG} {n m : Nat} {A : Nat → Nat → Int32} {sr cr : Nat → Int32} {md o : Int32} (h : MRD y n m A sr cr) : ∃ y2, Fx_M_meanMendedNX md o y g = (fR (mnF A n sr cr (fun p => if inB md p = true then 0 else A p 4) (fun w => hro A o w n)) (2 ^ n) m 0, y2) ∧ MRD y2 n m A sr cr ∧ FRD y2 y := by
  unfold Fx_M_meanMendedNX
  have n9 := h.1.1
  have aw := h.1.2.2.2.1
  obtain ⟨y1, a1, a2, a3, a4, a5⟩ := md_X (g := g) (md := md) h.1 aw (fun _ _ _ => rfl) h.2
  obtain ⟨y2, b1, b2⟩ := mb_X (g := g) (o := o) a2
  have rr2 := rr_c a2 b2
  have k2 : ∀ p, p < n → y2 177 p = A p 4 := fun p hp => by rw [b2.1 177 (by decide) (by decide) (by decide) (by decide)]; exact a3 p hp
  obtain ⟨y3, c1, c2, c3, c4, c5⟩ := md_X (g := g) (md := 0) rr2 aw (fun p c hc => mdA_n p c hc) k2
  rw [xqb, a1, b1, c2_mk, xqb, c1]
  have e : fR (mnF (mdA A md) n sr cr (fun p => mdA A md p 4) (fun w => hro (mdA A md) o w n)) (2 ^ n) m 0 = fR (mnF A n sr cr (fun p => if inB md p = true then 0 else A p 4) (fun w => hro A o w n)) (2 ^ n) m 0 := by
    rw [mn_4 (B := A) (fun p c hc => mdA_n p c hc)]
    exact mn_eq n9 (fun p hp => mdA_4) (fun k hk => hro_4 (fun p c hc => mdA_n p c hc) n)
  refine ⟨y3, by rw [e], ⟨rr_a c2 (fun p c hp hc => ?_), c3⟩, fun c q1 q2 q3 q4 q5 => ?_, fun j j1 j2 j3 => ?_, fun j hj => ?_⟩
  · by_cases w : c = 4
    · subst w
      rw [mdA_4, inB_0 p (by omega), if_neg Bool.false_ne_true]
    · exact mdA_n p c w
  · rw [c4 c q2, b2.1 c q1 q3 q4 q5, a4 c q2]
  · rw [c4 162 (by decide), b2.2 j j1 j2 j3, a4 162 (by decide)]
  · rw [c5 j hj, b2.1 172 (by decide) (by decide) (by decide) (by decide), a5 j hj]
theorem R5_mended {u v u1 v2 : MM} {g g' g1 : GG} {hill plan ponds : Int32} {z w : Int64} (h : RLY u v) (b5 : Bd 0 2 (u 1 5)) (b7 : Bd 0 3 (u 1 7)) (hd : HD v) (pl : PL v) (e1 : (z, u1, g1) = Fx_P_mendedX hill plan ponds u g) (e2 : (w, v2) = Fx_M_mendedX hill plan ponds v g') : z = w := by
  obtain ⟨b, x, y, p1, p2, p3⟩ := lay_Y (g := g) (g' := g') (hill := hill) (plan := plan) h b5 b7 hd pl
  unfold Fx_P_mendedX at e1
  unfold Fx_M_mendedX at e2
  rw [xqb, p2, c2_mk] at e2
  cases b
  · rw [looks_F p1, c3_mk, if_neg Bool.false_ne_true] at e1
    rw [if_neg Bool.false_ne_true] at e2
    exact (congrArg Prod.fst e1).trans (congrArg Prod.fst e2).symm
  obtain ⟨n, m, L⟩ := p3 rfl
  obtain ⟨x', g2, k1, ⟨ok, L'⟩, k3⟩ := looks_T (g := g) p1 L
  rw [k1, c3_mk, if_pos rfl] at e1
  rw [if_pos rfl] at e2
  have n9 := L.1
  obtain ⟨s, s1, s2, s3⟩ := q_set (g := g2) (g' := g') (s := ponds) L'
  rw [xqb, s1] at e1
  rw [xqb, s2] at e2
  cases s
  · rw [if_neg Bool.false_ne_true] at e1 e2
    exact (congrArg Prod.fst e1).trans (congrArg Prod.fst e2).symm
  obtain ⟨g3, q1, q2, q3⟩ := ok_w (md := ponds) (wk := 0) ok
  obtain ⟨y2, r1, r2, r3⟩ := kc_X (g := g') (rr_L L)
  obtain ⟨y3, t1, t2, t3⟩ := mm_X (g := g') (md := ponds) (o := -1) r2
  rw [if_pos rfl, xqb, q1, xqb, all_X L'.2.2.2.1.1 n9, xqb, cmn_eq (y := y) (g' := g') (o := -1) (ch2 := fun p => if inB ponds p = true then 0 else rwA y p 4) q2 (sup_m n9 L.2.2.2.2.2.1) (c := 2 ^ n - 1) (by have := Nat.two_pow_pos n; omega) (fun p hp => chM_m (by omega)) cnt_all] at e1
  rw [if_pos rfl, xqb, r1, t1, c2_mk] at e2
  exact (congrArg Prod.fst e1).trans (congrArg Prod.fst e2).symm
theorem po2_L {y : MM} {n : Nat} {A : Nat → Nat → Int32} {o : Int32} (h : RMA y n A) (n9 : n ≤ 9) : ∀ (f p : Nat), n - p < f → p ≤ n → Fx_M_pondsOfX_L4 o y f (iN (bset (owF A o) p)) (iN p) = iN (bset (owF A o) n) := by
  intro f
  induction f with
  | zero => intro p h1; omega
  | succ f ih =>
    intro p h1 h2
    rw [Fx_M_pondsOfX_L4_s, h.1]
    by_cases q : n ≤ p
    · rw [if_pos ((iN_le (by omega) (by omega)).mpr q), show p = n by omega]
    · have e : bset (owF A o) (p + 1) = if owF A o p = true then bset (owF A o) p + 2 ^ p else bset (owF A o) p := rfl
      have k := ih (p + 1) (by omega) (by omega)
      rw [if_neg (fun z => q ((iN_le (by omega) (by omega)).mp z)), show mof y (iN p) (6 : Int32) = A p 6 from ma_r (c := 6) h n9 (by omega) (by decide)]
      unfold Fx_M_pondsOfX_J31
      rw [iN_s]
      by_cases w : A p 6 = o
      · rw [if_pos (show owF A o p = true from decide_eq_true w)] at e
        have eb := bset_or (f := owF A o) (p := p) (by omega)
        unfold bt at eb
        rw [if_pos w, eb, ← e]
        exact k
      · rw [if_neg (show ¬ owF A o p = true from fun z => w (of_decide_eq_true z))] at e
        rw [if_neg w, Int32.or_zero, ← e]
        exact k
theorem po2_X {y : MM} {g : GG} {n : Nat} {A : Nat → Nat → Int32} {o : Int32} (h : RMA y n A) (n9 : n ≤ 9) : Fx_M_pondsOfX o y g = iN (bset (owF A o) n) := by
  unfold Fx_M_pondsOfX
  have e : (9 - (0 : Int32).toInt).toNat + 1 = 10 := by decide
  rw [e]
  exact po2_L h n9 10 0 (by omega) (by omega)
theorem R5_helps {u v u1 v2 : MM} {g g' g1 : GG} {hill plan owner other : Int32} {z w : Int64} (h : RLY u v) (b5 : Bd 0 2 (u 1 5)) (b7 : Bd 0 3 (u 1 7)) (hd : HD v) (pl : PL v) (e1 : (z, u1, g1) = Fx_P_helpsX hill plan owner other u g) (e2 : (w, v2) = Fx_M_helpsX hill plan owner other v g') : z = w := by
  obtain ⟨b, x, y, p1, p2, p3⟩ := lay_Y (g := g) (g' := g') (hill := hill) (plan := plan) h b5 b7 hd pl
  unfold Fx_P_helpsX at e1
  unfold Fx_M_helpsX at e2
  rw [xqb, p2, c2_mk] at e2
  cases b
  · rw [looks_F p1, c3_mk, if_neg Bool.false_ne_true] at e1
    rw [if_neg Bool.false_ne_true] at e2
    exact (congrArg Prod.fst e1).trans (congrArg Prod.fst e2).symm
  obtain ⟨n, m, L⟩ := p3 rfl
  obtain ⟨x', g2, k1, ⟨ok, L'⟩, k3⟩ := looks_T (g := g) p1 L
  rw [k1, c3_mk, if_pos rfl] at e1
  rw [if_pos rfl] at e2
  have n9 := L.1
  obtain ⟨t, t1, t2, t3⟩ := q_own (x := x') (y := y) (g := g2) (g' := g') (o := owner)
  obtain ⟨s, s1, s2, s3⟩ := q_own (x := x') (y := y) (g := g2) (g' := g') (o := other)
  rw [xqb, t1] at e1
  rw [xqb, t2] at e2
  cases t
  · rw [if_neg Bool.false_ne_true] at e1 e2
    exact (congrArg Prod.fst e1).trans (congrArg Prod.fst e2).symm
  rw [if_pos rfl, xqb, s1] at e1
  rw [if_pos rfl, xqb, s2] at e2
  cases s
  · rw [if_neg Bool.false_ne_true] at e1 e2
    exact (congrArg Prod.fst e1).trans (congrArg Prod.fst e2).symm
  obtain ⟨g3, q1, q2, q3⟩ := ok_w (md := iN (bset (owF (rwA y) owner) n)) (wk := 0) ok
  obtain ⟨y2, r1, r2, r3⟩ := kc_X (g := g') (rr_L L)
  obtain ⟨y3, m1, m2⟩ := mb_X (g := g') (o := other) r2.1
  have r2' : MRD y3 n m (rwA y) (sR y) (cR y) := ⟨rr_c r2.1 m2, fun p hp => by rw [m2.1 177 (by decide) (by decide) (by decide) (by decide)]; exact r2.2 p hp⟩
  obtain ⟨y4, l1, l2, l3⟩ := mm_X (g := g') (md := iN (bset (owF (rwA y) owner) n)) (o := other) r2'
  have su := sup_m (md := 0) n9 L.2.2.2.2.2.1
  rw [if_pos rfl, xqb, ow_X L'.2.2.2.1 n9, xqb, cmn_eq (y := y) (g' := g') (o := other) (ch2 := fun p => rwA y p 4) ok su (bset_lt n) (fun p hp => chM_0 (by omega)) (cnt_own (s3 rfl)), xqb, ow_X L'.2.2.2.1 n9, xqb, q1, xqb, cmn_eq (y := y) (g' := g') (o := other) (ch2 := fun p => if inB (iN (bset (owF (rwA y) owner) n)) p = true then 0 else rwA y p 4) q2 (sup_m n9 L.2.2.2.2.2.1) (bset_lt n) (fun p hp => chM_m (by omega)) (cnt_own (s3 rfl)), xqb] at e1
  rw [if_pos rfl, xqb, r1, m1, c2_mk, xqb, po2_X r2'.1.2.2.1 n9, l1, c2_mk, xqb] at e2
  exact (congrArg Prod.fst e1).trans (congrArg Prod.fst e2).symm
theorem R5_alone {u v u1 v2 : MM} {g g' g1 : GG} {hill plan owner : Int32} {z w : Int64} (h : RLY u v) (b5 : Bd 0 2 (u 1 5)) (b7 : Bd 0 3 (u 1 7)) (hd : HD v) (pl : PL v) (e1 : (z, u1, g1) = Fx_P_aloneX hill plan owner u g) (e2 : (w, v2) = Fx_M_aloneX hill plan owner v g') : z = w := by
  obtain ⟨b, x, y, p1, p2, p3⟩ := lay_Y (g := g) (g' := g') (hill := hill) (plan := plan) h b5 b7 hd pl
  unfold Fx_P_aloneX at e1
  unfold Fx_M_aloneX at e2
  rw [xqb, p2, c2_mk] at e2
  cases b
  · rw [looks_F p1, c3_mk, if_neg Bool.false_ne_true] at e1
    rw [if_neg Bool.false_ne_true] at e2
    exact (congrArg Prod.fst e1).trans (congrArg Prod.fst e2).symm
  obtain ⟨n, m, L⟩ := p3 rfl
  obtain ⟨x', g2, k1, ⟨ok, L'⟩, k3⟩ := looks_T (g := g) p1 L
  rw [k1, c3_mk, if_pos rfl] at e1
  rw [if_pos rfl] at e2
  have n9 := L.1
  obtain ⟨t, t1, t2, t3⟩ := q_own (x := x') (y := y) (g := g2) (g' := g') (o := owner)
  rw [xqb, t1] at e1
  rw [xqb, t2] at e2
  cases t
  · rw [if_neg Bool.false_ne_true] at e1 e2
    exact (congrArg Prod.fst e1).trans (congrArg Prod.fst e2).symm
  obtain ⟨g3, q1, q2, q3⟩ := ok_w (md := iN (2 ^ n - 1) &&& (iN (bset (owF (rwA y) owner) n) ^^^ (-1))) (wk := 0) ok
  obtain ⟨y2, r1, r2, r3⟩ := kc_X (g := g') (rr_L L)
  obtain ⟨y4, l1, l2, l3⟩ := mm_X (g := g') (md := iN (2 ^ n - 1) &&& (iN (bset (owF (rwA y) owner) n) ^^^ (-1))) (o := owner) r2
  rw [if_pos rfl, xqb, ow_X L'.2.2.2.1 n9, xqb, all_X L'.2.2.2.1.1 n9, xqb, q1, xqb, cmn_eq (y := y) (g' := g') (o := owner) (ch2 := fun p => if inB (iN (2 ^ n - 1) &&& (iN (bset (owF (rwA y) owner) n) ^^^ (-1))) p = true then 0 else rwA y p 4) q2 (sup_m n9 L.2.2.2.2.2.1) (bset_lt n) (fun p hp => chM_m (by omega)) (cnt_own (t3 rfl))] at e1
  rw [if_pos rfl, xqb, r1, xqb, po2_X r2.1.2.2.1 n9, L.2.2.2.2.1.1, (all_e n (by omega)).1, l1, c2_mk] at e2
  exact (congrArg Prod.fst e1).trans (congrArg Prod.fst e2).symm
