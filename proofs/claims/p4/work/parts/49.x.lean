/-! the reference finds the order -/
noncomputable def MRV (A : Nat → Nat → Int32) (n c R : Nat) : Int64 := MAV A n (rg R) c
theorem rr_2 {y y' : MM} {n m : Nat} {A : Nat → Nat → Int32} {sr cr : Nat → Int32} (h : RR y n m A sr cr) (e1 : y' 162 = y 162) (e2 : y' 172 = y 172) : RR y' n m A sr cr := by
  obtain ⟨n9, m4, ma, aw, h26, h27, h1, hr⟩ := h
  exact ⟨n9, m4, ma_c ma (congrFun e1 22) e2, aw, by rw [e1]; exact h26, by rw [e1]; exact h27, by rw [e2]; exact h1, by rw [e2]; exact hr⟩
def STR (y : MM) (g : GG) (fd : Int32) (A : Nat → Nat → Int32) (n m : Nat) (sr cr : Nat → Int32) (P c R : Nat) : Prop := RR y n m A sr cr ∧ ((fd = 0 ∧ ∀ D, D < R → ¬ VR P c D) ∨ (fd = 1 ∧ ∃ b, BST (VR P c) (MRV A n c) R b ∧ g 162 40 = MRV A n c b ∧ ∀ i, i < c → y 180 i = iN (rg b i)))
theorem str_n {y y' : MM} {g : GG} {fd : Int32} {A : Nat → Nat → Int32} {n m : Nat} {sr cr : Nat → Int32} {P c R : Nat} (h : STR y g fd A n m sr cr P c R) (v : ¬ VR P c R) (rr : RR y' n m A sr cr) (e : y' 180 = y 180) : STR y' g fd A n m sr cr P c (R + 1) := by
  refine ⟨rr, ?_⟩
  rcases h.2 with ⟨s1, s2⟩ | ⟨s1, b, s2, s3, s4⟩
  · exact Or.inl ⟨s1, fun D hD => by
      by_cases y : D = R
      · rw [y]; exact v
      · exact s2 D (by omega)⟩
  · exact Or.inr ⟨s1, b, bst_k s2 (fun w => absurd w v), s3, fun i hi => by rw [e]; exact s4 i hi⟩
theorem fo_R {A : Nat → Nat → Int32} {n m P c : Nat} {sr cr : Nat → Int32} {cn : Nat → Nat} (hr : ∀ r, r < m → cr r = iN (cn r) ∧ cn r ≤ 100) (hs : sN cn m = 100) (n9 : n ≤ 9) (hP : P < 2 ^ n) (c4 : c ≤ 4) (hon : onesN (iN P) 9 = iN c) : ∀ (f R : Nat) (fd : Int32) (y : MM) (g : GG), 6561 - R < f → R ≤ 6561 → STR y g fd A n m sr cr P c R → ∃ y' g' fd', Fx_M_findOrderX_L12 (iN P) f fd (iN R) y g = (y', g') ∧ STR y' g' fd' A n m sr cr P c 6561 := by
  have pn := p2_le n9
  intro f
  induction f with
  | zero => intro R fd y g h1; omega
  | succ f ih =>
    intro R fd y g h1 h2 hS
    by_cases q : 6561 ≤ R
    · have e : R = 6561 := by omega
      subst e
      refine ⟨y, g, fd, ?_, hS⟩
      rw [Fx_M_findOrderX_L12_s, if_pos (show (6561 : Int32) ≤ iN 6561 from Int32.le_refl _)]
    have nle : ¬ (6561 : Int32) ≤ iN R := fun z => q ((iN_le (a := 6561) (by omega) (by omega)).mp z)
    have e5 : ((3 : Int32).toInt - (-1)).toNat + 1 = 5 := by decide
    obtain ⟨S, y1, a1, a2, a3⟩ := fr_L (ih := Fx_M_findOrderX_L12 (iN P) f) (gg := g) (P := P) (fd := fd) c4 hon (show R < 6561 by omega) 5 4 0 y (by omega) (by omega) (by decide) (fun i => by
      rw [Nat.zero_testBit]
      exact ⟨fun z => absurd z Bool.false_ne_true, fun ⟨j, j1, j2, _⟩ => by omega⟩) (fun j j1 _ j3 => by omega) (fun j j1 j2 => by omega)
    have eR : R / 9 ^ (4 - 4) = R := by
      show R / 9 ^ 0 = R
      rw [Nat.pow_zero, Nat.div_one]
    rw [eR] at a1
    have a1' : Fx_M_findOrderX_L28 (Fx_M_findOrderX_L12 (iN P) f) (iN P) fd (iN R) g 5 (iN R) 0 3 y = Fx_M_findOrderX_J100 (Fx_M_findOrderX_L12 (iN P) f) (iN P) fd (iN R) g S y1 := a1
    have st : Fx_M_findOrderX_L12 (iN P) (f + 1) fd (iN R) y g = Fx_M_findOrderX_J100 (Fx_M_findOrderX_L12 (iN P) f) (iN P) fd (iN R) g S y1 := by
      rw [Fx_M_findOrderX_L12_s, if_neg nle, e5, a1']
    have rr1 := rr_2 hS.1 (a2 162 (by decide)) (a2 172 (by decide))
    have skip : ¬ S = iN P → ¬ VR P c R → ∃ y' g' fd', Fx_M_findOrderX_L12 (iN P) (f + 1) fd (iN R) y g = (y', g') ∧ STR y' g' fd' A n m sr cr P c 6561 := fun ne nv => by
      have e : Fx_M_findOrderX_L12 (iN P) (f + 1) fd (iN R) y g = Fx_M_findOrderX_L12 (iN P) f fd (iN (R + 1)) y1 g := by
        rw [st]
        unfold Fx_M_findOrderX_J100 Fx_M_findOrderX_J173
        rw [if_neg ne, iN_s]
      rw [e]
      exact ih (R + 1) fd y1 g (by omega) (by omega) (str_n hS nv rr1 (a2 180 (by decide)))
    rcases a3 with ⟨s1, j, j1, j2, j3⟩ | ⟨s1, z1, h179⟩
    · refine skip (fun z => ?_) (fun v => j3 (v.1 j j1 j2))
      rw [s1] at z
      have z1 := congrArg Int32.toInt z
      rw [iN_ti (by omega)] at z1
      have : (-1 : Int32).toInt = -1 := rfl
      omega
    by_cases eP : PS (rg R) c = P
    case neg =>
      have b9 : PS (rg R) c < 2 ^ 9 := PS_lt c (fun _ _ => rg_9)
      refine skip (fun z => eP ?_) (fun v => eP v.2)
      rw [s1] at z
      exact (iN_eq (by omega) (by omega)).mp z
    have v : VR P c R := ⟨z1, eP⟩
    obtain ⟨y2, f1, f2, f3⟩ := fa_X (g := g) (o := rg R) rr1 hr hs (vr_n v hP) c4 h179
    have f1' : Fx_M_fillAllX (iN c) y1 g = (MRV A n c R, y2) := f1
    have y2179 : y2 179 = y1 179 := f3 179 (by decide) (by decide) (by decide) (by decide) (by decide) (by decide)
    have y2180 : y2 180 = y 180 := (f3 180 (by decide) (by decide) (by decide) (by decide) (by decide) (by decide)).trans (a2 180 (by decide))
    have e5' : (4 - (0 : Int32).toInt).toNat + 1 = 5 := by decide
    obtain ⟨y3, b1, b2, b3⟩ := cy_L (ih := Fx_M_findOrderX_L12 (iN P) f) (gg := ml g 162 40 (MRV A n c R)) (P := P) (R := R) c4 hon 5 0 y2 (by omega) (by omega) (fun i hi => absurd hi (Nat.not_lt_zero i))
    obtain ⟨y4, d1, d2, d3⟩ := cy_Lb (ih := Fx_M_findOrderX_L12 (iN P) f) (gg := ml g 162 40 (MRV A n c R)) (P := P) (R := R) c4 hon 5 0 y2 (by omega) (by omega) (fun i hi => absurd hi (Nat.not_lt_zero i))
    have b1' : Fx_M_findOrderX_L144 (Fx_M_findOrderX_L12 (iN P) f) (iN P) (iN R) (ml g 162 40 (MRV A n c R)) 5 0 y2 = Fx_M_findOrderX_L12 (iN P) f 1 (iN (R + 1)) y3 (ml g 162 40 (MRV A n c R)) := b1
    have d1' : Fx_M_findOrderX_L144b (Fx_M_findOrderX_L12 (iN P) f) (iN P) (iN R) (ml g 162 40 (MRV A n c R)) 5 0 y2 = Fx_M_findOrderX_L12 (iN P) f 1 (iN (R + 1)) y4 (ml g 162 40 (MRV A n c R)) := d1
    rcases hS.2 with ⟨s2, s3⟩ | ⟨s2, b, s3, s4, s5⟩
    · have e : Fx_M_findOrderX_L12 (iN P) (f + 1) fd (iN R) y g = Fx_M_findOrderX_L12 (iN P) f 1 (iN (R + 1)) y3 (ml g 162 40 (MRV A n c R)) := by
        rw [st]
        unfold Fx_M_findOrderX_J100
        rw [if_pos (by rw [s1, eP]), hon, f1', c2_mk, if_pos s2, xqb, e5', b1']
      rw [e]
      exact ih (R + 1) 1 y3 _ (by omega) (by omega) ⟨rr_2 f2 (b3 162 (by decide)) (b3 172 (by decide)), Or.inr ⟨rfl, R, bst_0 s3 v, ml_e, fun i hi => by rw [b2 i hi, y2179]; exact h179 i hi⟩⟩
    · have nf : ¬ fd = 0 := by rw [s2]; decide
      by_cases l : 0 ≤ lg_cmp (MRV A n c R) (MRV A n c b)
      · have e : Fx_M_findOrderX_L12 (iN P) (f + 1) fd (iN R) y g = Fx_M_findOrderX_L12 (iN P) f fd (iN (R + 1)) y2 g := by
          rw [st]
          unfold Fx_M_findOrderX_J100 Fx_M_findOrderX_J173
          rw [if_pos (by rw [s1, eP]), hon, f1', c2_mk, if_neg nf, xqb, s4, if_pos l, iN_s]
        have le : MRV A n c b ≤ MRV A n c R := by
          have l1 : ¬ (MRV A n c R).toInt < (MRV A n c b).toInt := fun z => (lg_ge.mp l) (Int64.lt_iff_toInt_lt.mpr z)
          exact Int64.le_iff_toInt_le.mpr (by omega)
        rw [e]
        exact ih (R + 1) fd y2 g (by omega) (by omega) ⟨f2, Or.inr ⟨s2, b, bst_k s3 (fun _ => le), s4, fun i hi => by rw [y2180]; exact s5 i hi⟩⟩
      · have e : Fx_M_findOrderX_L12 (iN P) (f + 1) fd (iN R) y g = Fx_M_findOrderX_L12 (iN P) f 1 (iN (R + 1)) y4 (ml g 162 40 (MRV A n c R)) := by
          rw [st]
          unfold Fx_M_findOrderX_J100
          rw [if_pos (by rw [s1, eP]), hon, f1', c2_mk, if_neg nf, xqb, s4, if_neg l, xqb, e5', d1']
        have lt : MRV A n c R < MRV A n c b := Classical.byContradiction (fun z => l (lg_ge.mpr z))
        rw [e]
        exact ih (R + 1) 1 y4 _ (by omega) (by omega) ⟨rr_2 f2 (d3 162 (by decide)) (d3 172 (by decide)), Or.inr ⟨rfl, R, bst_n s3 v lt, ml_e, fun i hi => by rw [d2 i hi, y2179]; exact h179 i hi⟩⟩
