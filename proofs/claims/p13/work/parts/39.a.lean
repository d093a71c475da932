/-! the class's reader of a hill -/
theorem fo_c {ck : Nat → Int32 → Bool} {v p v2 p2 : Nat → Int32} {c : Nat} (hv : ∀ j, j < c → v j = v2 j) (hp : ∀ j, j < c → p j = p2 j) : ∀ (n i : Nat) (P : Int32 × Int32), c - i ≤ n → fo ck v p c i P = fo ck v2 p2 c i P := by
  intro n
  induction n with
  | zero => intro i P h; rw [fo_e (by omega), fo_e (by omega)]
  | succ n ih =>
    intro i P h
    by_cases q : i < c
    · rw [fo_s q, fo_s q, hv i q, hp i q]
      exact ih (i + 1) _ (by omega)
    · rw [fo_e q, fo_e q]
theorem cnt_b : ∀ w, w < 15 → 1 ≤ cnt w ∧ cnt w ≤ 3 ∧ (sAr 0).getD w 0 = iN (cnt w) := by decide +kernel
theorem gd_c {w : Nat} {n v0 v1 v2 : Int32} (h1 : 1 ≤ w) (h2 : w ≤ 10) (h : ∀ j, j < cnt w → chk w j n v0 (if j = 0 then v0 else if j = 1 then v1 else v2) = true) : gdH w n v0 v1 v2 = true := by
  have c2 : 2 ≤ cnt w := by
    rcases (show w = 1 ∨ w = 2 ∨ w = 3 ∨ w = 4 ∨ w = 5 ∨ w = 6 ∨ w = 7 ∨ w = 8 ∨ w = 9 ∨ w = 10 by omega) with y | y | y | y | y | y | y | y | y | y <;> rw [y] <;> decide
  have q0 := h 0 (by omega)
  have q1 := h 1 (by omega)
  rw [if_pos rfl] at q0
  rw [if_neg (by decide), if_pos rfl] at q1
  unfold gdH
  by_cases c3 : w = 2 ∨ w = 10
  · have h3 : cnt w = 3 := by rcases c3 with y | y <;> rw [y] <;> rfl
    have q2 := h 2 (by omega)
    rw [if_neg (by decide), if_neg (by decide)] at q2
    rw [if_pos c3, q0, q1, q2]
    rfl
  · rw [if_neg c3, q0, q1]
    rfl
/-- the class's reader between two lines -/
def CRS (u : MM) (f : Nat → Int32) (L a : Nat) (P : Int32 × Int32) (R : Nat → Int32) : Prop := u 2 = f ∧ u 30 1 = iN L ∧ u 30 2 = iN a ∧ PR u = P ∧ RepH u R (P.1 = 0)
theorem rp_h {x u : MM} {R : Nat → Int32} {z : Prop} (h : RepH u R z) (h32 : x 32 = u 32) (h33 : x 33 = u 33) (h34 : x 34 = u 34) (h35 : x 35 = u 35) (h36 : x 36 = u 36) : RepH x R z := by
  unfold RepH
  rw [h32, h33, h34, h35, h36]
  exact h
theorem cr_X {u : MM} {g : GG} {f : Nat → Int32} {L a : Nat} {P : Int32 × Int32} {R : Nat → Int32} (hb : L ≤ 600) (ha : a ≤ L) (b0 : Bd 0 9 (R 0)) (b1 : Bd 0 4 (R 1)) (h : CRS u f L a P R) :
    (tK f L a = 0 → ∃ x, Fx_Rd_readLineX 0 u g = (false, x) ∧ PR x = P ∧ RepH x R (P.1 = 0) ∧ x 30 1 = iN L) ∧
    (¬ tK f L a = 0 → hX f L a = -1 → ∃ x, Fx_Rd_readLineX 0 u g = (false, x) ∧ x 29 5 = 1 ∧ x 29 6 = iN (tS f L a)) ∧
    (∀ w, ¬ tK f L a = 0 → w < 15 → hX f L a = iN w → (∀ q, nb f L (cnt w) (tN f L a) = some q → ∃ x, Fx_Rd_readLineX 0 u g = (false, x) ∧ x 29 5 = 1 ∧ x 29 6 = iN q) ∧
      (nb f L (cnt w) (tN f L a) = none → ∃ x, Fx_Rd_readLineX 0 u g = (true, x) ∧ CRS x f L (sk f L (cnt w + 1) (tN f L a)) (lnP w f L a R P) (lnR w f L a R))) := by
  obtain ⟨c1, c2, c3, c4, c5⟩ := h
  have A := ad_X (g := g) c2 hb ha c3
  have hl := lo_0 (g := g) c2 hb ha A
  rw [c1] at A hl
  obtain ⟨a0, a1, a2, a3, a4, a5, a6⟩ := A
  have e : Fx_Rd_readLineX 0 u g = (if tK f L a = 0 then (false, Fx_Tk_advanceX u g) else (if hX f L a = -1 then (false, ms (ms (Fx_Tk_advanceX u g) 29 5 1) 29 6 (iN (tS f L a))) else Fx_Rd_readLineX_L65b 0 g (Fx_Tk_advanceX u g) (hX f L a) ((sAr 0).getD (hX f L a).toNatClampNeg 0) 4 (iN 0) (Fx_Tk_advanceX u g))) := by
    rw [← a4, ← hl, ← a5]
    rfl
  have hrep : RepH (Fx_Tk_advanceX u g) R (P.1 = 0) := rp_h c5 (a0 32 (by decide)) (a0 33 (by decide)) (a0 34 (by decide)) (a0 35 (by decide)) (a0 36 (by decide))
  have hpr : PR (Fx_Tk_advanceX u g) = P := by
    unfold PR
    rw [a0 29 (by decide)]
    exact c4
  refine ⟨fun k => ?_, fun k kx => ?_, fun w k w15 kx => ?_⟩
  · rw [e, if_pos k]
    exact ⟨_, rfl, hpr, hrep, a2.trans c2⟩
  · rw [e, if_neg k, if_pos kx]
    exact ⟨_, rfl, rfl, rfl⟩
  · obtain ⟨k1, k3, kc⟩ := cnt_b w w15
    rw [e, if_neg k, kx, if_neg (iN_m1 (by omega)), iN_cl (by omega), kc]
    obtain ⟨q1, q2⟩ := rl_L (u2 := Fx_Tk_advanceX u g) (g := g) (L := L) (c := cnt w) (k := iN w) hb k3 4 (cnt w) 0 (tN f L a) (Fx_Tk_advanceX u g) (by omega) (by omega) (tN_in ha) (a2.trans c2) a3
    have e2 : Fx_Tk_advanceX u g 2 = f := (a0 2 (by decide)).trans c1
    rw [e2] at q1 q2
    refine ⟨q1, fun hN => ?_⟩
    obtain ⟨y, y1, y2, y3, y4, y5, _, y7⟩ := q2 hN
    obtain ⟨x, x1, x2, x3⟩ := tk_H (u := y) (g := g) (w := w) (c := cnt w) (first := Fx_Tk_advanceX u g 30 4) w15 k3
    have v41 : ∀ j, j < cnt w → y 41 j = vv f L (tN f L a) j := fun j hj => by have := (y7 j hj).1; rw [Nat.zero_add] at this; exact this
    have v42 : ∀ j, j < cnt w → y 42 j = pp f L (tN f L a) j := fun j hj => by have := (y7 j hj).2; rw [Nat.zero_add] at this; exact this
    have hy : RepH y R (P.1 = 0) := rp_h hrep (y2 32 (by decide) (by decide) (by decide)) (y2 33 (by decide) (by decide) (by decide)) (y2 34 (by decide) (by decide) (by decide)) (y2 35 (by decide) (by decide) (by decide)) (y2 36 (by decide) (by decide) (by decide))
    have py : PR y = P := by
      unfold PR
      rw [y2 29 (by decide) (by decide) (by decide)]
      exact hpr
    rw [hy.1, hy.2.1, py, v41 0 (by omega), a5, fo_c v41 v42 (cnt w) 0 _ (by omega)] at x3
    have x3' : PR x = lnP w f L a R P := x3
    have hx : RepH x R (P.1 = 0) := rp_h hy (x2 32 (by decide)) (x2 33 (by decide)) (x2 34 (by decide)) (x2 35 (by decide)) (x2 36 (by decide))
    have bv : Bd 0 999 (vv f L (tN f L a) 0) := by
      have : ∀ r, 1 ≤ r → nb f L r (tN f L a) = none → tK f L (tN f L a) = 2 := by
        intro r hr hn
        cases r with
        | zero => omega
        | succ r =>
          by_cases z : tK f L (tN f L a) = 2
          · exact z
          · have e3 : nb f L (r + 1) (tN f L a) = some (tS f L (tN f L a)) := if_neg z
            rw [e3] at hn
            cases hn
      exact tV_b (this (cnt w) k1 hN)
    have hz : (lnP w f L a R P).1 = 0 → P.1 = 0 ∧ (1 ≤ w → w ≤ 10 → gdH w (R 0) (vv f L (tN f L a) 0) (vv f L (tN f L a) 1) (vv f L (tN f L a) 2) = true) := by
      intro z
      obtain ⟨z1, z2⟩ := fo_z (cnt w) 0 _ (by omega) z
      refine ⟨(rmb_z (by decide) z1).2, fun h1 h2 => gd_c h1 h2 (fun j hj => ?_)⟩
      have z3 := z2 j (by omega) hj
      rcases (show j = 0 ∨ j = 1 ∨ j = 2 by omega) with y | y | y
      · subst y; exact z3
      · subst y; exact z3
      · subst y; exact z3
    obtain ⟨t1, t2⟩ := tf_X (u := x) (g := g) (w := w) (v1 := vv f L (tN f L a) 1) (v2 := vv f L (tN f L a) 2) w15 b0 b1 hx (by rw [x2 41 (by decide)]; exact v41 0 (by omega)) (fun z => by rw [x2 41 (by decide)]; exact v41 1 z) (fun z => by rw [x2 41 (by decide)]; exact v41 2 z) bv hz
    refine ⟨Fx_Rd_takeForHillX (iN w) (iN (cnt w)) x g, ?_, ?_, ?_, ?_, ?_, t1⟩
    · rw [y1, x1]
    · rw [t2 2 (by decide) (by decide) (by decide) (by decide) (by decide), x2 2 (by decide), y2 2 (by decide) (by decide) (by decide), e2]
    · rw [t2 30 (by decide) (by decide) (by decide) (by decide) (by decide), x2 30 (by decide), y4, a2, c2]
    · rw [t2 30 (by decide) (by decide) (by decide) (by decide) (by decide), x2 30 (by decide), y5]
    · unfold PR
      rw [t2 29 (by decide) (by decide) (by decide) (by decide) (by decide)]
      exact x3'
theorem cl_L {f : Nat → Int32} {L : Nat} {g : GG} (hb : L ≤ 600) : ∀ (n m k a : Nat) (u : MM) (P : Int32 × Int32) (R : Nat → Int32), L - a + 1 < n → L - a < m → a ≤ L → k ≤ a → CRS u f L a P R → Bd 0 9 (R 0) → Bd 0 4 (R 1) →
    (∀ q P2 R2, HR f L m a P R = (some q, P2, R2) → ∃ x, Fx_Rd_readX_L39 0 g n 1 (iN k) u = Fx_Rd_readX_J65 0 g x ∧ x 29 5 = 1 ∧ x 29 6 = iN q) ∧
    (∀ P2 R2, HR f L m a P R = (none, P2, R2) → ∃ x, Fx_Rd_readX_L39 0 g n 1 (iN k) u = Fx_Rd_readX_J65 0 g x ∧ PR x = P2 ∧ RepH x R2 (P2.1 = 0) ∧ x 30 1 = iN L) := by
  intro n
  induction n with
  | zero => intro m k a u P R h; omega
  | succ n ih =>
    intro m k a u P R hn hm ha hk h b0 b1
    cases m with
    | zero => omega
    | succ m =>
    have hH : HR f L (m + 1) a P R = if tK f L a = 0 then (none, P, R) else if hX f L a = -1 then (some (tS f L a), P, R) else
      match nb f L (cnt (hX f L a).toInt.toNat) (tN f L a) with
      | some q => (some q, P, R)
      | none => HR f L m (sk f L (cnt (hX f L a).toInt.toNat + 1) (tN f L a)) (lnP (hX f L a).toInt.toNat f L a R P) (lnR (hX f L a).toInt.toNat f L a R) := rfl
    obtain ⟨r1, r2, r3⟩ := cr_X (g := g) hb ha b0 b1 h
    have hend : ∀ x : MM, Fx_Rd_readX_L39 0 g n 0 (iN (k + 1)) x = Fx_Rd_readX_J65 0 g x := by
      intro x
      cases n with
      | zero => omega
      | succ n =>
        rw [Fx_Rd_readX_L39_s, if_pos rfl]
        split <;> rfl
    rw [hH, Fx_Rd_readX_L39_s, if_neg (show ¬ (600 : Int32) < iN k from fun z => by have := (iN_lt (a := 600) (by omega) (by omega)).mp z; omega), if_neg (show ¬ (1 : Int32) = 0 by decide), iN_s]
    by_cases k0 : tK f L a = 0
    · rw [if_pos k0]
      obtain ⟨x, x1, x2, x3, x4⟩ := r1 k0
      rw [x1, c2_mk]
      refine ⟨fun q P2 R2 z => (by cases z), fun P2 R2 z => ?_⟩
      cases z
      exact ⟨x, hend x, x2, x3, x4⟩
    · rw [if_neg k0]
      by_cases kx : hX f L a = -1
      · rw [if_pos kx]
        obtain ⟨x, x1, x2, x3⟩ := r2 k0 kx
        rw [x1, c2_mk]
        refine ⟨fun q P2 R2 z => ?_, fun P2 R2 z => (by cases z)⟩
        cases z
        exact ⟨x, hend x, x2, x3⟩
      · rw [if_neg kx]
        obtain ⟨w15, wx⟩ := hX_n kx
        obtain ⟨s1, s2⟩ := r3 _ k0 w15 wx
        generalize hw : (hX f L a).toInt.toNat = w at *
        cases hN : nb f L (cnt w) (tN f L a) with
        | some q =>
          obtain ⟨x, x1, x2, x3⟩ := s1 q hN
          rw [x1, c2_mk]
          refine ⟨fun q2 P2 R2 z => ?_, fun P2 R2 z => (by cases z)⟩
          cases z
          exact ⟨x, hend x, x2, x3⟩
        | none =>
          obtain ⟨x, x1, x2⟩ := s2 hN
          rw [x1, c2_mk]
          have p1 := tN_lt (f := f) (L := L) (a := a) k0
          have p3 := sk_le (f := f) (L := L) (cnt w + 1) (tN f L a)
          have p4 := tS_le (f := f) (L := L) a
          have p5 := sk_in (f := f) (cnt w + 1) (tN f L a) (tN_in ha)
          obtain ⟨c0, c1⟩ := rowH_b (w := w) (v0 := vv f L (tN f L a) 0) (v1 := vv f L (tN f L a) 1) (v2 := vv f L (tN f L a) 2) (gd := gdH w (R 0) (vv f L (tN f L a) 0) (vv f L (tN f L a) 1) (vv f L (tN f L a) 2)) b0 b1
          exact ih m (k + 1) (sk f L (cnt w + 1) (tN f L a)) x (lnP w f L a R P) (lnR w f L a R) (by omega) (by omega) p5 (by omega) x2 c0 c1
