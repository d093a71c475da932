/-! means as numbers; rains that are all dry are as one of them -/
theorem hro_h {A : Nat → Nat → Int32} {n : Nat} {s : Int32} (aw : AWF n A) (n9 : n ≤ 9) : ∃ k, hro A (-1) s n = iN k ∧ k ≤ 9999 := by
  obtain ⟨k, h1, h2⟩ := hrm_b (s := s) aw n9 n (Nat.le_refl _)
  exact ⟨k, by rw [hro_all]; exact h1, by omega⟩
noncomputable def hN (A : Nat → Nat → Int32) (n : Nat) (st : Int32) (b : Nat) : Nat := (hro A (-1) (stN A n st (iN b) (-1) n).1 n).toNatClampNeg
theorem mn_z {A : Nat → Nat → Int32} {ch sr cr : Nat → Int32} {c cn : Nat → Nat} {n m : Nat} (n9 : n ≤ 9) (aw : AWF n A) (hc : ∀ q, q < n → ch q = iN (c q) ∧ c q ≤ 10) (hr : ∀ r, r < m → cr r = iN (cn r) ∧ cn r ≤ 100) : fR (mnF A n sr cr ch (fun w => hro A (-1) w n)) (2 ^ n) m 0 = zN (sN (fun r => sN (fun b => wN c b n * cn r * hN A n (sr r) b) (2 ^ n)) m) := by
  have e0 : (0 : Int64) = zN 0 := rfl
  have k := fR_z (F := mnF A n sr cr ch (fun w => hro A (-1) w n)) (G := fun r b => wN c b n * cn r * hN A n (sr r) b) (N := 2 ^ n) m 0 (fun r b h1 h2 a => by
    obtain ⟨p1, p2⟩ := pa_z (b := b) n9 hc hr h1
    by_cases z : lg_cmp (wB ch b n * (cr r).toInt64) (0 : Int64) ≤ 0
    · have z2 := (lg_cmp_le _ _).mp z
      rw [p1, e0] at z2
      have z3 := (zN_le (by omega) (by omega)).mp z2
      rw [mnF_0 z, show wN c b n * cn r = 0 by omega, Nat.zero_mul]
      rfl
    · obtain ⟨j, j1, j2⟩ := hro_h (s := (stN A n (sr r) (iN b) (-1) n).1) aw n9
      have ej : hN A n (sr r) b = j := by
        unfold hN
        rw [j1, iN_cl (by omega)]
      rw [mnF_1 z, p1, ej]
      rw [j1, iN_l (by omega), zN_m, zN_a])
  rw [Nat.zero_add] at k
  exact k
/-- all rains dry: as one of them with all their chances -/
theorem dry_1 {A : Nat → Nat → Int32} {cr : Nat → Int32} {cn : Nat → Nat} {n m : Nat} (n9 : n ≤ 9) (aw : AWF n A) (hr : ∀ r, r < m → cr r = iN (cn r) ∧ cn r ≤ 100) (hs : sN cn m = 100) : MN A n m (fun _ => 0) cr = MN A n 1 (fun _ => 0) (fun _ => 100) := by
  have kc := kA_s aw
  have a := mn_z (A := A) (ch := fun p => A p 4) (sr := fun _ => 0) (c := kA A) (m := m) n9 aw kc hr
  have b := mn_z (A := A) (ch := fun p => A p 4) (sr := fun _ => 0) (cr := fun _ => 100) (c := kA A) (cn := fun _ => 100) (m := 1) n9 aw kc (fun _ _ => ⟨rfl, Nat.le_refl _⟩)
  have T : ∀ k : Nat, sN (fun b => wN (kA A) b n * k * hN A n 0 b) (2 ^ n) = sN (fun b => wN (kA A) b n * hN A n 0 b) (2 ^ n) * k := fun k => by
    rw [← sN_m]
    exact sN_c _ (fun b _ => Nat.mul_right_comm _ _ _)
  have ea : sN (fun r => sN (fun b => wN (kA A) b n * cn r * hN A n 0 b) (2 ^ n)) m = 100 * sN (fun b => wN (kA A) b n * hN A n 0 b) (2 ^ n) := by
    rw [sN_c (H := fun r => cn r * sN (fun b => wN (kA A) b n * hN A n 0 b) (2 ^ n)) m (fun r _ => by
      show sN (fun b => wN (kA A) b n * cn r * hN A n 0 b) (2 ^ n) = cn r * sN (fun b => wN (kA A) b n * hN A n 0 b) (2 ^ n)
      rw [T (cn r), Nat.mul_comm]), sN_m, hs]
  have eb : sN (fun r => sN (fun b => wN (kA A) b n * 100 * hN A n 0 b) (2 ^ n)) 1 = 100 * sN (fun b => wN (kA A) b n * hN A n 0 b) (2 ^ n) := by
    show 0 + sN (fun b => wN (kA A) b n * 100 * hN A n 0 b) (2 ^ n) = _
    rw [T 100, Nat.zero_add, Nat.mul_comm]
  rw [ea] at a
  rw [eb] at b
  exact a.trans b.symm
/-! ponds filled -/
def FA (A : Nat → Nat → Int32) (S : Nat) (p c : Nat) : Int32 := if c = 1 ∧ S.testBit p = true then A p 0 else A p c
theorem FA_n {A : Nat → Nat → Int32} {S p c : Nat} (h : ¬ c = 1) : FA A S p c = A p c := if_neg (fun z => h z.1)
theorem FA_0 {A : Nat → Nat → Int32} (p c : Nat) : FA A 0 p c = A p c := if_neg (fun z => by rw [Nat.zero_testBit] at z; exact absurd z.2 (by decide))
theorem FA_u {A : Nat → Nat → Int32} {S v : Nat} (p c : Nat) : upA (FA A S) v 1 (A v 0) p c = FA A (S ||| 2 ^ v) p c := by
  unfold upA FA
  by_cases y : p = v ∧ c = 1
  · rw [if_pos y, if_pos ⟨y.2, (or_b p).mpr (Or.inr y.1)⟩, y.1]
  · rw [if_neg y]
    by_cases z : c = 1 ∧ S.testBit p = true
    · rw [if_pos z, if_pos ⟨z.1, (or_b p).mpr (Or.inl z.2)⟩]
    · rw [if_neg z, if_neg (fun w => by
        rcases (or_b p).mp w.2 with q | q
        · exact z ⟨w.1, q⟩
        · exact y ⟨q, w.1⟩)]
theorem aw_F {A : Nat → Nat → Int32} {n S : Nat} (h : AWF n A) : AWF n (FA A S) := by
  intro p hp
  obtain ⟨a1, a2, a3⟩ := h p hp
  refine ⟨fun c hc => ?_, by rw [FA_n (by decide)]; exact a2, by rw [FA_n (by decide)]; exact a3⟩
  by_cases y : c = 1
  · subst y
    unfold FA
    split
    · exact (show Bd 0 24 (A p 0) from a1 0 (by decide))
    · exact a1 1 hc
  · rw [FA_n y]; exact a1 c hc
/-- the mean of a dry hill with some ponds filled -/
noncomputable def DM (A : Nat → Nat → Int32) (n S : Nat) : Int64 := MN (FA A S) n 1 (fun _ => 0) (fun _ => 100)
