/-! answers: mean, joint, mended, helps, alone -/
theorem mn_eq {A : Nat → Nat → Int32} {n m : Nat} {sr cr ch ch2 : Nat → Int32} {H H2 : Int32 → Int32} (n9 : n ≤ 9) (hch : ∀ p, p < n → ch p = ch2 p) (hH : ∀ k, k < 2 ^ n → H (iN k) = H2 (iN k)) : fR (mnF A n sr cr ch H) (2 ^ n) m 0 = fR (mnF A n sr cr ch2 H2) (2 ^ n) m 0 := by
  refine fR_c m 0 (fun r b a hr hb => ?_)
  obtain ⟨w, hw, ew⟩ := (st_sb (A := A) (n := n) (st := sr r) (bk := iN b) (kp := -1) n n9).1
  unfold mnF
  rw [wB_c (ch2 := ch2) (b2 := b) n (fun q hq => ⟨hch q hq, rfl⟩), ew, hH w hw]
theorem cnt_all {A : Nat → Nat → Int32} {n : Nat} : ∀ p, p < n → ((2 ^ n - 1).testBit p = true ↔ ((-1 : Int32) = -1 ∨ A p 6 = -1)) := fun p hp => ⟨fun _ => Or.inl rfl, fun _ => by rw [Nat.testBit_two_pow_sub_one]; exact decide_eq_true hp⟩
theorem cnt_own {A : Nat → Nat → Int32} {n : Nat} {o : Int32} (ho : ¬ o = -1) : ∀ p, p < n → ((bset (owF A o) n).testBit p = true ↔ (o = -1 ∨ A p 6 = o)) := fun p hp => by
  rw [bset_b n p hp]
  exact ⟨fun z => Or.inr (of_decide_eq_true z), fun z => decide_eq_true (z.resolve_left ho)⟩
/-- the class's mean of those counted is the reference's of an owner -/
theorem cmn_eq {x y : MM} {g g' : GG} {n m c : Nat} {A : Nat → Nat → Int32} {sr cr ch ch2 : Nat → Int32} {mg o : Int32} (h : OK x g n m A sr cr mg ch) (su : SUP n mg ch) (hc : c < 2 ^ n) (hch : ∀ p, p < n → ch p = ch2 p) (hcn : ∀ p, p < n → (c.testBit p = true ↔ (o = -1 ∨ A p 6 = o))) : Fx_O_meanOfX (iN c) x g = fR (mnF A n sr cr ch2 (fun w => hro A o w n)) (2 ^ n) m 0 := by
  rw [mo_X h su hc]
  exact mn_eq h.1 hch (fun k hk => hrm_and h.1 hk hc hcn n (Nat.le_refl _))
theorem q_own {x y : MM} {g g' : GG} {o : Int32} : ∃ b, Fx_isOwnerX o x g = b ∧ Fx_M_isOwnerX o y g' = b ∧ (b = true → ¬ o = -1) := by
  unfold Fx_isOwnerX Fx_M_isOwnerX
  rw [xqb, in_X]
  have l0 : (0 : Int32).toInt = 0 := rfl
  have l3 : (3 : Int32).toInt = 3 := rfl
  have l4 : (4 : Int32).toInt = 4 := rfl
  by_cases h : 0 ≤ o.toInt ∧ o.toInt ≤ 3
  · rw [if_neg (nltI (by omega)), if_neg (nleI (by omega)), inT (by omega) (by omega)]
    refine ⟨true, rfl, rfl, fun _ z => ?_⟩
    rw [z] at h
    exact absurd h (by decide)
  · rw [(Bool.not_eq_true _).mp (inF (v := o) (lo := 0) (hi := 3) (by omega))]
    by_cases h2 : o.toInt < 0
    · rw [if_pos (ltI (by omega))]
      exact ⟨false, rfl, rfl, fun z => absurd z (by decide)⟩
    · rw [if_neg (nltI (by omega)), if_pos (leI (by omega))]
      exact ⟨false, rfl, rfl, fun z => absurd z (by decide)⟩
theorem R5_mean {u v u1 v2 : MM} {g g' g1 : GG} {hill plan owner : Int32} {z w : Int64} (h : RLY u v) (b5 : Bd 0 2 (u 1 5)) (b7 : Bd 0 3 (u 1 7)) (hd : HD v) (pl : PL v) (e1 : (z, u1, g1) = Fx_P_meanX hill plan owner u g) (e2 : (w, v2) = Fx_M_meanX hill plan owner v g') : z = w := by
  obtain ⟨b, x, y, p1, p2, p3⟩ := lay_Y (g := g) (g' := g') (hill := hill) (plan := plan) h b5 b7 hd pl
  unfold Fx_P_meanX at e1
  unfold Fx_M_meanX at e2
  rw [xqb, p2, c2_mk] at e2
  cases b
  · rw [looks_F p1, c3_mk, if_neg Bool.false_ne_true] at e1
    rw [if_neg Bool.false_ne_true] at e2
    exact (congrArg Prod.fst e1).trans (congrArg Prod.fst e2).symm
  obtain ⟨n, m, L⟩ := p3 rfl
  obtain ⟨x', g2, k1, ⟨ok, L'⟩, k3⟩ := looks_T (g := g) p1 L
  rw [k1, c3_mk, if_pos rfl] at e1
  rw [if_pos rfl] at e2
  have n9 := L.1
  have rr := rr_L L
  have su := sup_m (md := 0) n9 L.2.2.2.2.2.1
  have hch : ∀ p, p < n → chM (rwA y) 0 0 p = rwA y p 4 := fun p hp => chM_0 (by omega)
  by_cases o1 : owner = -1
  · obtain ⟨y2, m1, m2⟩ := mb_X (g := g') (o := owner) rr
    rw [if_pos o1, if_pos o1, xqb, all_X L'.2.2.2.1.1 n9, xqb, cmn_eq (y := y) (g' := g') (o := owner) ok su (c := 2 ^ n - 1) (by have := Nat.two_pow_pos n; omega) hch (by rw [o1]; exact cnt_all)] at e1
    rw [if_pos o1, m1, c2_mk] at e2
    exact (congrArg Prod.fst e1).trans (congrArg Prod.fst e2).symm
  · obtain ⟨t, t1, t2, t3⟩ := q_own (x := x') (y := y) (g := g2) (g' := g') (o := owner)
    rw [if_neg o1, xqb, t1] at e1
    rw [if_neg o1, xqb, t2] at e2
    cases t
    · rw [if_neg Bool.false_ne_true] at e1 e2
      exact (congrArg Prod.fst e1).trans (congrArg Prod.fst e2).symm
    · obtain ⟨y2, m1, m2⟩ := mb_X (g := g') (o := owner) rr
      rw [if_pos rfl, if_neg o1, xqb, ow_X L'.2.2.2.1 n9, xqb, cmn_eq (y := y) (g' := g') (o := owner) ok su (bset_lt n) hch (cnt_own o1)] at e1
      rw [if_pos rfl, m1, c2_mk] at e2
      exact (congrArg Prod.fst e1).trans (congrArg Prod.fst e2).symm
/-! chances kept and mended, of the reference -/
