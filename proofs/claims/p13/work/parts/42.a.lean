/-! what both sides tell: the relation -/
/-- the class's hill in cell t is the reference's k-th row of place s -/
def HRW (u v : MM) (t s k : Nat) : Prop := u t 0 = v 168 (314 * s + (157 * k + 0)) ∧ u t 2 = v 168 (314 * s + (157 * k + 1)) ∧ (∀ i, i < 3 → u (t + 4) i = v 168 (314 * s + (157 * k + (2 + i)))) ∧ (∀ i, i < 4 → i < (v 168 (314 * s + (157 * k + 1))).toInt.toNat → u (t + 2) i = v 168 (314 * s + (157 * k + (5 + 2 * i))) ∧ u (t + 3) i = v 168 (314 * s + (157 * k + (6 + 2 * i)))) ∧ ∀ p c, p < 9 → c < 16 → p < (v 168 (314 * s + (157 * k + 0))).toInt.toNat → u (t + 1) (16 * p + c) = v 168 (314 * s + (157 * k + (13 + 16 * p + c)))
def PRW (u v : MM) (t s k : Nat) : Prop := u t 0 = v 169 (111 * s + (37 * k + 0)) ∧ ∀ i, i < 12 → i < (v 169 (111 * s + (37 * k + 0))).toInt.toNat → u (t + 1) i = v 169 (111 * s + (37 * k + (1 + 3 * i))) ∧ u (t + 2) i = v 169 (111 * s + (37 * k + (2 + 3 * i))) ∧ u (t + 3) i = v 169 (111 * s + (37 * k + (3 + 3 * i)))
/-- all that is told: the class's cell T on, the reference's place s -/
def TLD (u v : MM) (T s : Nat) : Prop := (∀ j, j < 600 → u (T + 1) j = v 163 (600 * s + j)) ∧ u T 1 = v 164 s ∧ u T 2 = v 165 s ∧ u T 3 = v 166 s ∧ u T 5 = v 167 (2 * s) ∧ u T 7 = v 167 (2 * s + 1) ∧ (∀ k, k < 2 → k < (u T 5).toInt.toNat → HRW u v (T + 4 + 5 * k) s k) ∧ ∀ k, k < 3 → k < (u T 7).toInt.toNat → PRW u v (T + 14 + 4 * k) s k
/-- both objects -/
def RLX (u v : MM) : Prop := TLD u v 1 0 ∧ u 28 = v 181 ∧ ∀ k, k < 3 → ¬ u 28 k = 0 → TLD u v (84 + 26 * k) (k + 1)
def HCP (x u : MM) (t f : Nat) : Prop := x t 0 = u f 0 ∧ x t 2 = u f 2 ∧ (∀ j, j < 144 → x (t + 1) j = u (f + 1) j) ∧ (∀ j, j < 4 → x (t + 2) j = u (f + 2) j) ∧ (∀ j, j < 4 → x (t + 3) j = u (f + 3) j) ∧ ∀ j, j < 3 → x (t + 4) j = u (f + 4) j
def WCP (x u : MM) (t f : Nat) : Prop := x t 0 = u f 0 ∧ (∀ j, j < 12 → x (t + 1) j = u (f + 1) j) ∧ (∀ j, j < 12 → x (t + 2) j = u (f + 2) j) ∧ ∀ j, j < 12 → x (t + 3) j = u (f + 3) j
def TCP (x u : MM) (T F : Nat) : Prop := (∀ j, j < 600 → x (T + 1) j = u (F + 1) j) ∧ x T 1 = u F 1 ∧ x T 2 = u F 2 ∧ x T 3 = u F 3 ∧ x T 5 = u F 5 ∧ x T 7 = u F 7 ∧ (∀ k, k < 2 → HCP x u (T + 4 + 5 * k) (F + 4 + 5 * k)) ∧ ∀ k, k < 3 → WCP x u (T + 14 + 4 * k) (F + 14 + 4 * k)
def SCP (y v : MM) (s r : Nat) : Prop := (∀ j, j < 600 → y 163 (600 * s + j) = v 163 (600 * r + j)) ∧ y 164 s = v 164 r ∧ y 165 s = v 165 r ∧ y 166 s = v 166 r ∧ y 167 (2 * s) = v 167 (2 * r) ∧ y 167 (2 * s + 1) = v 167 (2 * r + 1) ∧ (∀ j, j < 314 → y 168 (314 * s + j) = v 168 (314 * r + j)) ∧ ∀ j, j < 111 → y 169 (111 * s + j) = v 169 (111 * r + j)
theorem hcp_r {x u : MM} {t : Nat} (h : ∀ c, t ≤ c → c ≤ t + 4 → x c = u c) : HCP x u t t := by
  unfold HCP
  rw [h t (by omega) (by omega), h (t + 1) (by omega) (by omega), h (t + 2) (by omega) (by omega), h (t + 3) (by omega) (by omega), h (t + 4) (by omega) (by omega)]
  exact ⟨rfl, rfl, fun _ _ => rfl, fun _ _ => rfl, fun _ _ => rfl, fun _ _ => rfl⟩
theorem wcp_r {x u : MM} {t : Nat} (h : ∀ c, t ≤ c → c ≤ t + 3 → x c = u c) : WCP x u t t := by
  unfold WCP
  rw [h t (by omega) (by omega), h (t + 1) (by omega) (by omega), h (t + 2) (by omega) (by omega), h (t + 3) (by omega) (by omega)]
  exact ⟨rfl, fun _ _ => rfl, fun _ _ => rfl, fun _ _ => rfl⟩
theorem tcp_r {x u : MM} {T : Nat} (h : ∀ c, T ≤ c → c ≤ T + 25 → x c = u c) : TCP x u T T := by
  refine ⟨fun j _ => by rw [h (T + 1) (by omega) (by omega)], by rw [h T (by omega) (by omega)], by rw [h T (by omega) (by omega)], by rw [h T (by omega) (by omega)], by rw [h T (by omega) (by omega)], by rw [h T (by omega) (by omega)], fun k hk => hcp_r (fun c c1 c2 => h c (by omega) (by omega)), fun k hk => wcp_r (fun c c1 c2 => h c (by omega) (by omega))⟩
theorem scp_r {y v : MM} {s : Nat} (h : ∀ c, 163 ≤ c → c ≤ 169 → y c = v c) : SCP y v s s := by
  unfold SCP
  rw [h 163 (by omega) (by omega), h 164 (by omega) (by omega), h 165 (by omega) (by omega), h 166 (by omega) (by omega), h 167 (by omega) (by omega), h 168 (by omega) (by omega), h 169 (by omega) (by omega)]
  exact ⟨fun _ _ => rfl, rfl, rfl, rfl, rfl, rfl, fun _ _ => rfl, fun _ _ => rfl⟩
theorem hrw_cp {x u y v : MM} {t f s r k : Nat} (h : HRW u v f r k) (c : HCP x u t f) (e : ∀ o, o < 157 → y 168 (314 * s + (157 * k + o)) = v 168 (314 * r + (157 * k + o))) : HRW x y t s k := by
  obtain ⟨h0, h1, h2, h3, h4⟩ := h
  obtain ⟨c0, c1, c2, c3, c4, c5⟩ := c
  refine ⟨?_, ?_, fun i hi => ?_, fun i hi hl => ?_, fun p c hp hc hl => ?_⟩
  · rw [c0, h0, e _ (by omega)]
  · rw [c1, h1, e _ (by omega)]
  · rw [c5 i hi, h2 i hi, e _ (by omega)]
  · rw [e _ (by omega)] at hl
    obtain ⟨a, b⟩ := h3 i hi hl
    rw [c3 i hi, c4 i hi, a, b, e _ (by omega), e _ (by omega)]
    exact ⟨rfl, rfl⟩
  · rw [e _ (by omega)] at hl
    rw [c2 _ (by omega), h4 p c hp hc hl, e _ (by omega)]
theorem prw_cp {x u y v : MM} {t f s r k : Nat} (h : PRW u v f r k) (c : WCP x u t f) (e : ∀ o, o < 37 → y 169 (111 * s + (37 * k + o)) = v 169 (111 * r + (37 * k + o))) : PRW x y t s k := by
  obtain ⟨h0, h1⟩ := h
  obtain ⟨c0, c1, c2, c3⟩ := c
  refine ⟨by rw [c0, h0, e _ (by omega)], fun i hi hl => ?_⟩
  rw [e _ (by omega)] at hl
  obtain ⟨a, b, d⟩ := h1 i hi hl
  rw [c1 i hi, c2 i hi, c3 i hi, a, b, d, e _ (by omega), e _ (by omega), e _ (by omega)]
  exact ⟨rfl, rfl, rfl⟩
theorem tld_cp {x u y v : MM} {T F s r : Nat} (h : TLD u v F r) (c : TCP x u T F) (e : SCP y v s r) : TLD x y T s := by
  obtain ⟨h0, h1, h2, h3, h5, h7, hh, hw⟩ := h
  obtain ⟨c0, c1, c2, c3, c5, c7, ch, cw⟩ := c
  obtain ⟨e0, e1, e2, e3, e5, e7, e8, e9⟩ := e
  refine ⟨fun j hj => by rw [c0 j hj, h0 j hj, e0 j hj], by rw [c1, h1, e1], by rw [c2, h2, e2], by rw [c3, h3, e3], by rw [c5, h5, e5], by rw [c7, h7, e7], fun k hk hl => ?_, fun k hk hl => ?_⟩
  · rw [c5] at hl
    exact hrw_cp (hh k hk hl) (ch k hk) (fun o ho => e8 _ (by omega))
  · rw [c7] at hl
    exact prw_cp (hw k hk hl) (cw k hk) (fun o ho => e9 _ (by omega))
/-- what is told stays -/
theorem rlx_c {u v u2 v2 : MM} (hu : ∀ c, (1 ≤ c ∧ c ≤ 28) ∨ (84 ≤ c ∧ c ≤ 161) → u2 c = u c) (hv : ∀ c, 163 ≤ c ∧ c ≤ 169 → v2 c = v c) (h81 : v2 181 = v 181) (h : RLX u v) : RLX u2 v2 := by
  obtain ⟨h0, h1, h2⟩ := h
  refine ⟨tld_cp h0 (tcp_r (fun c c1 c2 => hu c (by omega))) (scp_r (fun c c1 c2 => hv c ⟨c1, c2⟩)), by rw [hu 28 (by omega), h81, h1], fun k hk hn => ?_⟩
  rw [hu 28 (by omega)] at hn
  exact tld_cp (h2 k hk hn) (tcp_r (fun c c1 c2 => hu c (by omega))) (scp_r (fun c c1 c2 => hv c ⟨c1, c2⟩))
theorem mr_a1 {u : MM} {a : Nat} {f : Nat → Int32} : mr u a f a = f := if_pos rfl
theorem mr_c1 {u : MM} {a b : Nat} {f : Nat → Int32} (h : b ≠ a) : mr u a f b = u b := if_neg h
theorem cpz0 {f h : Nat → Int32} {n j : Nat} (hj : j < n) : va_cpy f h 0 0 n j = f j := by
  unfold va_cpy
  rw [if_pos (by omega), Nat.sub_zero, Nat.zero_add]
theorem hcB {u : MM} {g : GG} {t f : Nat} (d : f + 4 < t ∨ t + 4 < f) : HCP (Fx_H_copyBX t f u g) u t f ∧ ∀ b, b < t ∨ t + 4 < b → Fx_H_copyBX t f u g b = u b := by
  unfold Fx_H_copyBX
  simp only [xq_lt]
  refine ⟨⟨?_, ?_, fun j hj => ?_, fun j hj => ?_, fun j hj => ?_, fun j hj => ?_⟩, fun b hb => ?_⟩
  · rw [mr_c1 (by omega), mr_c1 (by omega), mr_c1 (by omega), mr_c1 (by omega), ms_i1 (by omega), ms_e1]
  · rw [mr_c1 (by omega), mr_c1 (by omega), mr_c1 (by omega), mr_c1 (by omega), ms_e1]
  · rw [mr_c1 (by omega), mr_c1 (by omega), mr_c1 (by omega), mr_a1, cpz0 hj, ms_c1 (by omega), ms_c1 (by omega)]
  · rw [mr_c1 (by omega), mr_c1 (by omega), mr_a1, cpz0 hj, mr_c1 (by omega), ms_c1 (by omega), ms_c1 (by omega)]
  · rw [mr_c1 (by omega), mr_a1, cpz0 hj, mr_c1 (by omega), mr_c1 (by omega), ms_c1 (by omega), ms_c1 (by omega)]
  · rw [mr_a1, cpz0 hj, mr_c1 (by omega), mr_c1 (by omega), mr_c1 (by omega), ms_c1 (by omega), ms_c1 (by omega)]
  · rw [mr_c1 (by omega), mr_c1 (by omega), mr_c1 (by omega), mr_c1 (by omega), ms_c1 (by omega), ms_c1 (by omega)]
/-- works, as every copy of them is printed -/
def wcx (u : MM) (t f : Nat) : MM := xq_lt (ms u t 0 (u f 0)) fun u1 => xq_lt (mr u1 (t + 1) (va_cpy (u1 (f + 1)) (u1 (t + 1)) 0 0 12)) fun u3 => xq_lt (mr u3 (t + 2) (va_cpy (u3 (f + 2)) (u3 (t + 2)) 0 0 12)) fun u5 => xq_lt (mr u5 (t + 3) (va_cpy (u5 (f + 3)) (u5 (t + 3)) 0 0 12)) fun u7 => u7
theorem wcK {u : MM} {t f : Nat} (d : f + 3 < t ∨ t + 3 < f) : WCP (wcx u t f) u t f ∧ ∀ b, b < t ∨ t + 3 < b → wcx u t f b = u b := by
  unfold wcx
  simp only [xq_lt]
  refine ⟨⟨?_, fun j hj => ?_, fun j hj => ?_, fun j hj => ?_⟩, fun b hb => ?_⟩
  · rw [mr_c1 (by omega), mr_c1 (by omega), mr_c1 (by omega), ms_e1]
  · rw [mr_c1 (by omega), mr_c1 (by omega), mr_a1, cpz0 hj, ms_c1 (by omega)]
  · rw [mr_c1 (by omega), mr_a1, cpz0 hj, mr_c1 (by omega), ms_c1 (by omega)]
  · rw [mr_a1, cpz0 hj, mr_c1 (by omega), mr_c1 (by omega), ms_c1 (by omega)]
  · rw [mr_c1 (by omega), mr_c1 (by omega), mr_c1 (by omega), ms_c1 (by omega)]
theorem hcp_t {x y u : MM} {t f : Nat} (h : HCP y u t f) (e : ∀ c, t ≤ c → c ≤ t + 4 → x c = y c) : HCP x u t f := by
  unfold HCP
  rw [e t (by omega) (by omega), e (t + 1) (by omega) (by omega), e (t + 2) (by omega) (by omega), e (t + 3) (by omega) (by omega), e (t + 4) (by omega) (by omega)]
  exact h
theorem wcp_t {x y u : MM} {t f : Nat} (h : WCP y u t f) (e : ∀ c, t ≤ c → c ≤ t + 3 → x c = y c) : WCP x u t f := by
  unfold WCP
  rw [e t (by omega) (by omega), e (t + 1) (by omega) (by omega), e (t + 2) (by omega) (by omega), e (t + 3) (by omega) (by omega)]
  exact h
theorem hcp_f {x y u : MM} {t f : Nat} (h : HCP x y t f) (e : ∀ c, f ≤ c → c ≤ f + 4 → y c = u c) : HCP x u t f := by
  unfold HCP at h ⊢
  rw [e f (by omega) (by omega), e (f + 1) (by omega) (by omega), e (f + 2) (by omega) (by omega), e (f + 3) (by omega) (by omega), e (f + 4) (by omega) (by omega)] at h
  exact h
theorem wcp_f {x y u : MM} {t f : Nat} (h : WCP x y t f) (e : ∀ c, f ≤ c → c ≤ f + 3 → y c = u c) : WCP x u t f := by
  unfold WCP at h ⊢
  rw [e f (by omega) (by omega), e (f + 1) (by omega) (by omega), e (f + 2) (by omega) (by omega), e (f + 3) (by omega) (by omega)] at h
  exact h
/-- told, copied: as every copy of it is printed -/
def tc0 (u : MM) (T F : Nat) : MM := ms (ms (ms (ms (ms (mr u (T + 1) (va_cpy (u (F + 1)) (u (T + 1)) 0 0 600)) T 1 (u F 1)) T 2 (u F 2)) T 3 (u F 3)) T 5 (u F 5)) T 7 (u F 7)
noncomputable def tcx (u : MM) (g : GG) (T F : Nat) : MM := wcx (wcx (wcx (Fx_H_copyBX (T + 9) (F + 9) (Fx_H_copyBX (T + 4) (F + 4) (tc0 u T F) g) g) (T + 14) (F + 14)) (T + 18) (F + 18)) (T + 22) (F + 22)
theorem tc_0 {u : MM} {T F : Nat} (d : F + 25 < T ∨ T + 25 < F) : (∀ j, j < 600 → tc0 u T F (T + 1) j = u (F + 1) j) ∧ tc0 u T F T 1 = u F 1 ∧ tc0 u T F T 2 = u F 2 ∧ tc0 u T F T 3 = u F 3 ∧ tc0 u T F T 5 = u F 5 ∧ tc0 u T F T 7 = u F 7 ∧ ∀ b, b < T ∨ T + 1 < b → tc0 u T F b = u b := by
  unfold tc0
  refine ⟨fun j hj => ?_, ?_, ?_, ?_, ?_, ?_, fun b hb => ?_⟩
  · rw [ms_c1 (by omega), ms_c1 (by omega), ms_c1 (by omega), ms_c1 (by omega), ms_c1 (by omega), mr_a1, cpz0 hj]
  · rw [ms_i1 (by omega), ms_i1 (by omega), ms_i1 (by omega), ms_i1 (by omega), ms_e1]
  · rw [ms_i1 (by omega), ms_i1 (by omega), ms_i1 (by omega), ms_e1]
  · rw [ms_i1 (by omega), ms_i1 (by omega), ms_e1]
  · rw [ms_i1 (by omega), ms_e1]
  · rw [ms_e1]
  · rw [ms_c1 (by omega), ms_c1 (by omega), ms_c1 (by omega), ms_c1 (by omega), ms_c1 (by omega), mr_c1 (by omega)]
theorem tc_A {u : MM} {g : GG} {T F : Nat} (d : F + 25 < T ∨ T + 25 < F) : TCP (tcx u g T F) u T F ∧ ∀ b, b < T ∨ T + 25 < b → tcx u g T F b = u b := by
  obtain ⟨z0, z1, z2, z3, z5, z7, zf⟩ := tc_0 (u := u) d
  obtain ⟨x1, hx1⟩ : ∃ x, x = Fx_H_copyBX (T + 4) (F + 4) (tc0 u T F) g := ⟨_, rfl⟩
  obtain ⟨x2, hx2⟩ : ∃ x, x = Fx_H_copyBX (T + 9) (F + 9) x1 g := ⟨_, rfl⟩
  obtain ⟨x3, hx3⟩ : ∃ x, x = wcx x2 (T + 14) (F + 14) := ⟨_, rfl⟩
  obtain ⟨x4, hx4⟩ : ∃ x, x = wcx x3 (T + 18) (F + 18) := ⟨_, rfl⟩
  obtain ⟨x5, hx5⟩ : ∃ x, x = wcx x4 (T + 22) (F + 22) := ⟨_, rfl⟩
  have e : tcx u g T F = x5 := by rw [hx5, hx4, hx3, hx2, hx1]; rfl
  have p1 := hcB (u := tc0 u T F) (g := g) (t := T + 4) (f := F + 4) (by omega)
  rw [← hx1] at p1
  have p2 := hcB (u := x1) (g := g) (t := T + 9) (f := F + 9) (by omega)
  rw [← hx2] at p2
  have p3 := wcK (u := x2) (t := T + 14) (f := F + 14) (by omega)
  rw [← hx3] at p3
  have p4 := wcK (u := x3) (t := T + 18) (f := F + 18) (by omega)
  rw [← hx4] at p4
  have p5 := wcK (u := x4) (t := T + 22) (f := F + 22) (by omega)
  rw [← hx5] at p5
  rw [e]
  have low : ∀ b, b < T + 4 → x5 b = tc0 u T F b := fun b hb => by
    rw [p5.2 b (by omega), p4.2 b (by omega), p3.2 b (by omega), p2.2 b (by omega), p1.2 b (by omega)]
  refine ⟨⟨fun j hj => ?_, ?_, ?_, ?_, ?_, ?_, fun k hk => ?_, fun k hk => ?_⟩, fun b hb => ?_⟩
  · rw [low _ (by omega)]; exact z0 j hj
  · rw [low _ (by omega)]; exact z1
  · rw [low _ (by omega)]; exact z2
  · rw [low _ (by omega)]; exact z3
  · rw [low _ (by omega)]; exact z5
  · rw [low _ (by omega)]; exact z7
  · rcases (show k = 0 ∨ k = 1 by omega) with q | q <;> subst q
    · exact hcp_t (hcp_f p1.1 (fun c c1 c2 => zf c (by omega))) (fun c c1 c2 => by rw [p5.2 c (by omega), p4.2 c (by omega), p3.2 c (by omega), p2.2 c (by omega)])
    · exact hcp_t (hcp_f p2.1 (fun c c1 c2 => by rw [p1.2 c (by omega), zf c (by omega)])) (fun c c1 c2 => by rw [p5.2 c (by omega), p4.2 c (by omega), p3.2 c (by omega)])
  · rcases (show k = 0 ∨ k = 1 ∨ k = 2 by omega) with q | q | q <;> subst q
    · exact wcp_t (wcp_f p3.1 (fun c c1 c2 => by rw [p2.2 c (by omega), p1.2 c (by omega), zf c (by omega)])) (fun c c1 c2 => by rw [p5.2 c (by omega), p4.2 c (by omega)])
    · exact wcp_t (wcp_f p4.1 (fun c c1 c2 => by rw [p3.2 c (by omega), p2.2 c (by omega), p1.2 c (by omega), zf c (by omega)])) (fun c c1 c2 => by rw [p5.2 c (by omega)])
    · exact wcp_f p5.1 (fun c c1 c2 => by rw [p4.2 c (by omega), p3.2 c (by omega), p2.2 c (by omega), p1.2 c (by omega), zf c (by omega)])
  · rw [p5.2 b (by omega), p4.2 b (by omega), p3.2 b (by omega), p2.2 b (by omega), p1.2 b (by omega), zf b (by omega)]
