/-! what is told on both sides: how long the tapes are, which images there are -/
def IMGL (u2 u : Nat → Nat → Int32) (k : Int32) : Prop := u2 84 1 = (if k = 0 then u 1 1 else u 84 1) ∧ u2 110 1 = (if k = 1 then u 1 1 else u 110 1) ∧ u2 136 1 = (if k = 2 then u 1 1 else u 136 1)
theorem imgl_0 {u2 u : Nat → Nat → Int32} {k : Int32} (hk : k = 0) (a : u2 84 1 = u 1 1) (b : u2 110 1 = u 110 1) (c : u2 136 1 = u 136 1) : IMGL u2 u k := by
  subst hk; exact ⟨a, b, c⟩
theorem imgl_1 {u2 u : Nat → Nat → Int32} {k : Int32} (hk : k = 1) (a : u2 84 1 = u 84 1) (b : u2 110 1 = u 1 1) (c : u2 136 1 = u 136 1) : IMGL u2 u k := by
  subst hk; exact ⟨a, b, c⟩
theorem imgl_2 {u2 u : Nat → Nat → Int32} {k : Int32} (hk : k = 2) (a : u2 84 1 = u 84 1) (b : u2 110 1 = u 110 1) (c : u2 136 1 = u 1 1) : IMGL u2 u k := by
  subst hk; exact ⟨a, b, c⟩
theorem nok {k : Int32} (h : k < 0 ∨ 3 ≤ k) : ¬ k = 0 ∧ ¬ k = 1 ∧ ¬ k = 2 ∧ ¬ (0 ≤ k ∧ k ≤ 2) := by
  refine ⟨?_, ?_, ?_, ?_⟩
  · intro e; subst e; revert h; decide
  · intro e; subst e; revert h; decide
  · intro e; subst e; revert h; decide
  · intro e
    rcases h with h | h
    · exact lt_le_no h e.1
    · exact img_2 h e
theorem imgl_n {u : Nat → Nat → Int32} {k : Int32} (h : k < 0 ∨ 3 ≤ k) : IMGL u u k := by
  obtain ⟨a, b, c, -⟩ := nok h
  exact ⟨(if_neg a).symm, (if_neg b).symm, (if_neg c).symm⟩
def TKN (u2 u : Nat → Nat → Int32) (a : Nat) (k : Int32) : Prop := u2 a = if 0 ≤ k ∧ k ≤ 2 then upd (u a) k.toNatClampNeg (vp_nar .boolean 1) else u a
theorem tkn_n {u2 u : Nat → Nat → Int32} {a : Nat} {k : Int32} (h : ¬ (0 ≤ k ∧ k ≤ 2)) (e : u2 a = u a) : TKN u2 u a k := by unfold TKN; rw [if_neg h]; exact e
theorem tkn_s {u2 u1 u : Nat → Nat → Int32} {a : Nat} {k : Int32} (h : 0 ≤ k ∧ k ≤ 2) (e : u2 = ms u1 a k.toNatClampNeg (vp_nar .boolean 1)) (e1 : u1 a = u a) : TKN u2 u a k := by unfold TKN; rw [if_pos h, ms_a e, e1]
def IMGM (u2 u : Nat → Nat → Int32) (k : Int32) : Prop := u2 164 0 = u 164 0 ∧ u2 164 1 = (if k = 0 then u 164 0 else u 164 1) ∧ u2 164 2 = (if k = 1 then u 164 0 else u 164 2) ∧ u2 164 3 = (if k = 2 then u 164 0 else u 164 3)
theorem imgm_n {u2 u : Nat → Nat → Int32} {k : Int32} (h : ¬ (0 ≤ k ∧ k ≤ 2)) (e : u2 164 = u 164) : IMGM u2 u k := by
  have a : ¬ k = 0 := fun q => h (by subst q; decide)
  have b : ¬ k = 1 := fun q => h (by subst q; decide)
  have c : ¬ k = 2 := fun q => h (by subst q; decide)
  unfold IMGM
  rw [if_neg a, if_neg b, if_neg c, e]
  exact ⟨rfl, rfl, rfl, rfl⟩
theorem k012 {k : Int32} (h : 0 ≤ k ∧ k ≤ 2) : k = 0 ∨ k = 1 ∨ k = 2 := by
  have h1 := Int32.le_iff_toInt_le.mp h.1
  have h2 := Int32.le_iff_toInt_le.mp h.2
  have e0 : (0 : Int32).toInt = 0 := rfl
  have e2 : (2 : Int32).toInt = 2 := rfl
  exact bd_cases3 ⟨by omega, by omega⟩
theorem imgm_s {u2 u : Nat → Nat → Int32} {k f : Int32} (h : 0 ≤ k ∧ k ≤ 2) (ef : f = 0) (e : MVD u2 u 164 1 f.toInt.toNat (k + 1).toInt.toNat) : IMGM u2 u k := by
  subst ef
  rcases k012 h with q | q | q <;> subst q <;> exact ⟨e 0, e 1, e 2, e 3⟩
def AGL (u2 u : Nat → Nat → Int32) (k : Int32) (z : Bool) : Prop := u2 1 1 = if z = true then (if k = 0 then u 84 1 else if k = 1 then u 110 1 else u 136 1) else u 1 1
theorem agl_0 {u2 u : Nat → Nat → Int32} {k : Int32} (h : k = 0) (e : u2 1 1 = u 84 1) : AGL u2 u k true := by subst h; exact e
theorem agl_1 {u2 u : Nat → Nat → Int32} {k : Int32} (h : k = 1) (e : u2 1 1 = u 110 1) : AGL u2 u k true := by subst h; exact e
theorem agl_2 {u2 u : Nat → Nat → Int32} {k : Int32} (h : k = 2) (e : u2 1 1 = u 136 1) : AGL u2 u k true := by subst h; exact e
def AGM (u2 u : Nat → Nat → Int32) (k : Int32) (z : Bool) : Prop := u2 164 0 = (if z = true then (if k = 0 then u 164 1 else if k = 1 then u 164 2 else u 164 3) else u 164 0) ∧ u2 164 1 = u 164 1 ∧ u2 164 2 = u 164 2 ∧ u2 164 3 = u 164 3
theorem agm_f {u2 u : Nat → Nat → Int32} {k : Int32} (e : u2 164 = u 164) : AGM u2 u k false := by unfold AGM; rw [e]; exact ⟨rfl, rfl, rfl, rfl⟩
theorem agm_s {u2 u : Nat → Nat → Int32} {k t : Int32} (h : 0 ≤ k ∧ k ≤ 2) (et : t = 0) (e : MVD u2 u 164 1 (k + 1).toInt.toNat t.toInt.toNat) : AGM u2 u k true := by
  subst et
  rcases k012 h with q | q | q <;> subst q <;> exact ⟨e 0, e 1, e 2, e 3⟩
def AGZ (u : Nat → Nat → Int32) (a : Nat) (k : Int32) (z : Bool) : Prop := z = true ↔ ((0 ≤ k ∧ k ≤ 2) ∧ ¬ u a k.toNatClampNeg = 0)
theorem agz_t {u : Nat → Nat → Int32} {a : Nat} {k v : Int32} (h : 0 ≤ k ∧ k ≤ 2) (e : v = u a k.toNatClampNeg) (hv : ¬ v = 0) : AGZ u a k true := ⟨fun _ => ⟨h, e ▸ hv⟩, fun _ => rfl⟩
theorem agz_0 {u : Nat → Nat → Int32} {a : Nat} {k v : Int32} (e : v = u a k.toNatClampNeg) (hv : v = 0) : AGZ u a k false := ⟨fun q => absurd q (by decide), fun q => absurd (e.symm.trans hv) q.2⟩
theorem agz_n {u : Nat → Nat → Int32} {a : Nat} {k : Int32} (h : ¬ (0 ≤ k ∧ k ≤ 2)) : AGZ u a k false := ⟨fun q => absurd q (by decide), fun q => absurd q.1 h⟩
def a20 (v : Int32) : Int32 := v + 1 + 1 + 1 + 1 + 1 + 1 + 1 + 1 + 1 + 1 + 1 + 1 + 1 + 1 + 1 + 1 + 1 + 1 + 1 + 1
def FEX (a a2 z : Int32) : Prop := (580 < a ∧ z = -1 ∧ a2 = a) ∨ (a ≤ 580 ∧ z = a2 ∧ a2 = a20 a)
def FEM (a a2 z : Int32) : Prop := (600 < a + 20 ∧ z = -1 ∧ a2 = a) ∨ (a + 20 ≤ 600 ∧ z = a2 ∧ a2 = a20 a)
def ENX (a a2 n z : Int32) : Prop := (¬ (0 ≤ n ∧ n ≤ a) ∧ z = -1 ∧ a2 = a) ∨ ((0 ≤ n ∧ n ≤ a) ∧ z = n ∧ a2 = n)
theorem enx_1 {a n : Int32} (h : n < 0) : ENX a a n (-1) := Or.inl ⟨fun q => lt_le_no h q.1, rfl, rfl⟩
theorem enx_2 {a n : Int32} (h : a < n) : ENX a a n (-1) := Or.inl ⟨fun q => lt_le_no h q.2, rfl, rfl⟩
