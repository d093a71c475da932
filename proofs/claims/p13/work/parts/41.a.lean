/-! the tape: feed and end of both sides -/
def by4 (v : Int32) (i : Nat) : Int32 := if i = 0 then vp_nar .byte ((v >>> (24 &&& 31)).toInt8.toInt32) else if i = 1 then vp_nar .byte ((v >>> (16 &&& 31)).toInt8.toInt32) else if i = 2 then vp_nar .byte ((v >>> (8 &&& 31)).toInt8.toInt32) else vp_nar .byte ((v >>> (0 &&& 31)).toInt8.toInt32)
/-- four bytes come behind the L-th of the tape in cell tc; how many it has stands in cell lc at li -/
def AP4 (x u : MM) (lc li tc L : Nat) (v : Int32) : Prop := x lc li = iN (L + 4) ∧ (∀ j, x tc j = if L ≤ j ∧ j < L + 4 then by4 v (j - L) else u tc j) ∧ (∀ b, b ≠ lc → b ≠ tc → x b = u b) ∧ ∀ j, j ≠ li → x lc j = u lc j
def mem4 (u : MM) (lc li tc L : Nat) (v : Int32) : MM := ms (ms (ms (ms (ms (ms (ms (ms u tc L (by4 v 0)) lc li (iN (L + 1))) tc (L + 1) (by4 v 1)) lc li (iN (L + 2))) tc (L + 2) (by4 v 2)) lc li (iN (L + 3))) tc (L + 3) (by4 v 3)) lc li (iN (L + 4))
theorem ap_m {u : MM} {lc li tc L : Nat} {v : Int32} (hn : tc ≠ lc) : AP4 (mem4 u lc li tc L v) u lc li tc L v := by
  unfold mem4
  refine ⟨ms_e1, fun j => ?_, fun b b1 b2 => ?_, fun j hj => ?_⟩
  · rw [ms_c1 hn]
    by_cases q3 : j = L + 3
    · rw [q3, ms_e1, if_pos (by omega), Nat.add_sub_cancel_left]
    · rw [ms_i1 q3, ms_c1 hn]
      by_cases q2 : j = L + 2
      · rw [q2, ms_e1, if_pos (by omega), Nat.add_sub_cancel_left]
      · rw [ms_i1 q2, ms_c1 hn]
        by_cases q1 : j = L + 1
        · rw [q1, ms_e1, if_pos (by omega), Nat.add_sub_cancel_left]
        · rw [ms_i1 q1, ms_c1 hn]
          by_cases q0 : j = L
          · rw [q0, ms_e1, if_pos (by omega), Nat.sub_self]
          · rw [ms_i1 q0, if_neg (by omega)]
  · rw [ms_c1 b1, ms_c1 b2, ms_c1 b1, ms_c1 b2, ms_c1 b1, ms_c1 b2, ms_c1 b1, ms_c1 b2]
  · rw [ms_i1 hj, ms_c1 (Ne.symm hn), ms_i1 hj, ms_c1 (Ne.symm hn), ms_i1 hj, ms_c1 (Ne.symm hn), ms_i1 hj, ms_c1 (Ne.symm hn)]
theorem ap_C {u : MM} {g : GG} {L : Nat} {v : Int32} (hL : u 1 1 = iN L) (h : L + 4 ≤ 600) : Fx_T_appendRX v u g = mem4 u 1 1 2 L v := by
  unfold Fx_T_appendRX
  simp only [xq_lt, hL, iN_s]
  rw [if_neg (show ¬ (600 : Int32) ≤ iN L from fun q => by have := (iN_le (a := 600) (by omega) (by omega)).mp q; omega), if_neg (show ¬ (600 : Int32) ≤ iN (L + 1) from fun q => by have := (iN_le (a := 600) (by omega) (by omega)).mp q; omega), if_neg (show ¬ (600 : Int32) ≤ iN (L + 1 + 1) from fun q => by have := (iN_le (a := 600) (by omega) (by omega)).mp q; omega), if_neg (show ¬ (600 : Int32) ≤ iN (L + 1 + 1 + 1) from fun q => by have := (iN_le (a := 600) (by omega) (by omega)).mp q; omega), iN_cl (by omega), iN_cl (by omega), iN_cl (by omega), iN_cl (by omega)]
  rfl
theorem ap_R {u : MM} {g : GG} {L : Nat} {v : Int32} (hL : u 164 0 = iN L) (h : L + 4 ≤ 600) : Fx_M_fourX v u g = mem4 u 164 0 163 L v := by
  unfold Fx_M_fourX
  simp only [xq_lt, hL, iN_s]
  rw [iN_cl (by omega), iN_cl (by omega), iN_cl (by omega), iN_cl (by omega)]
  rfl
/-- the tapes are alike: of the class's told T (its tape in T + 1), of the reference's place s -/
def TPE (u v : MM) : Prop := ∀ j, j < 600 → u 2 j = v 163 j
theorem ap_E {x y u v : MM} {L : Nat} {a : Int32} (h : TPE u v) (h1 : AP4 x u 1 1 2 L a) (h2 : AP4 y v 164 0 163 L a) : TPE x y := by
  intro j hj
  rw [h1.2.1 j, h2.2.1 j]
  by_cases q : L ≤ j ∧ j < L + 4
  · rw [if_pos q, if_pos q]
  · rw [if_neg q, if_neg q]
    exact h j hj
/-- feed on both sides: the class's memory u, the reference's v -/
theorem fd_X {u v : MM} {g g2 : GG} {L : Nat} {a b c d e : Int32} (hb : L ≤ 600) (h1 : u 1 1 = iN L) (h2 : v 164 0 = iN L) (h : TPE u v) : (Fx_P_feedRX a b c d e u g).1 = (Fx_M_feedRX a b c d e v g2).1 ∧ TPE (Fx_P_feedRX a b c d e u g).2 (Fx_M_feedRX a b c d e v g2).2 ∧ (Fx_P_feedRX a b c d e u g).2 1 1 = (Fx_M_feedRX a b c d e v g2).2 164 0 ∧ (∀ j, j ≠ 1 → (Fx_P_feedRX a b c d e u g).2 1 j = u 1 j) ∧ ∀ j, 600 ≤ j → (Fx_M_feedRX a b c d e v g2).2 163 j = v 163 j := by
  have e20 : iN L + 20 = iN (L + 20) := iN_a (m := 20)
  have eC : Fx_P_feedRX a b c d e u g = if u 1 1 ≤ 580 then (((((((((((((((((((((u 1 1 + 1) + 1) + 1) + 1) + 1) + 1) + 1) + 1) + 1) + 1) + 1) + 1) + 1) + 1) + 1) + 1) + 1) + 1) + 1) + 1), Fx_T_appendRX e (Fx_T_appendRX d (Fx_T_appendRX c (Fx_T_appendRX b (Fx_T_appendRX a u g) g) g) g) g) else (-1, u) := by
    unfold Fx_P_feedRX
    simp only [xq_lt]
  have eR : Fx_M_feedRX a b c d e v g2 = if v 164 0 + 20 ≤ 600 then (((((((((((((((((((((v 164 0 + 1) + 1) + 1) + 1) + 1) + 1) + 1) + 1) + 1) + 1) + 1) + 1) + 1) + 1) + 1) + 1) + 1) + 1) + 1) + 1), Fx_M_fourX e (Fx_M_fourX d (Fx_M_fourX c (Fx_M_fourX b (Fx_M_fourX a (ms v 162 0 0) g2) g2) g2) g2) g2) else (-1, ms v 162 0 0) := by
    unfold Fx_M_feedRX
    simp only [xq_lt]
  rw [eC, eR, h1, h2, e20]
  by_cases q : L ≤ 580
  · rw [if_pos (show iN L ≤ (580 : Int32) from (iN_le (b := 580) (by omega) (by omega)).mpr q), if_pos (show iN (L + 20) ≤ (600 : Int32) from (iN_le (b := 600) (by omega) (by omega)).mpr (by omega))]
    have a1 := ap_m (u := u) (lc := 1) (li := 1) (tc := 2) (L := L) (v := a) (by decide)
    rw [← ap_C (g := g) h1 (by omega)] at a1
    have a2 := ap_m (u := Fx_T_appendRX a u g) (lc := 1) (li := 1) (tc := 2) (L := L + 4) (v := b) (by decide)
    rw [← ap_C (g := g) a1.1 (by omega)] at a2
    have a3 := ap_m (u := Fx_T_appendRX b (Fx_T_appendRX a u g) g) (lc := 1) (li := 1) (tc := 2) (L := L + 4 + 4) (v := c) (by decide)
    rw [← ap_C (g := g) a2.1 (by omega)] at a3
    have a4 := ap_m (u := Fx_T_appendRX c (Fx_T_appendRX b (Fx_T_appendRX a u g) g) g) (lc := 1) (li := 1) (tc := 2) (L := L + 4 + 4 + 4) (v := d) (by decide)
    rw [← ap_C (g := g) a3.1 (by omega)] at a4
    have a5 := ap_m (u := Fx_T_appendRX d (Fx_T_appendRX c (Fx_T_appendRX b (Fx_T_appendRX a u g) g) g) g) (lc := 1) (li := 1) (tc := 2) (L := L + 4 + 4 + 4 + 4) (v := e) (by decide)
    rw [← ap_C (g := g) a4.1 (by omega)] at a5
    have h2' : ms v 162 0 0 164 0 = iN L := h2
    have b1 := ap_m (u := ms v 162 0 0) (lc := 164) (li := 0) (tc := 163) (L := L) (v := a) (by decide)
    rw [← ap_R (g := g2) h2' (by omega)] at b1
    have b2 := ap_m (u := Fx_M_fourX a (ms v 162 0 0) g2) (lc := 164) (li := 0) (tc := 163) (L := L + 4) (v := b) (by decide)
    rw [← ap_R (g := g2) b1.1 (by omega)] at b2
    have b3 := ap_m (u := Fx_M_fourX b (Fx_M_fourX a (ms v 162 0 0) g2) g2) (lc := 164) (li := 0) (tc := 163) (L := L + 4 + 4) (v := c) (by decide)
    rw [← ap_R (g := g2) b2.1 (by omega)] at b3
    have b4 := ap_m (u := Fx_M_fourX c (Fx_M_fourX b (Fx_M_fourX a (ms v 162 0 0) g2) g2) g2) (lc := 164) (li := 0) (tc := 163) (L := L + 4 + 4 + 4) (v := d) (by decide)
    rw [← ap_R (g := g2) b3.1 (by omega)] at b4
    have b5 := ap_m (u := Fx_M_fourX d (Fx_M_fourX c (Fx_M_fourX b (Fx_M_fourX a (ms v 162 0 0) g2) g2) g2) g2) (lc := 164) (li := 0) (tc := 163) (L := L + 4 + 4 + 4 + 4) (v := e) (by decide)
    rw [← ap_R (g := g2) b4.1 (by omega)] at b5
    have h' : TPE u (ms v 162 0 0) := h
    dsimp only
    refine ⟨rfl, ap_E (ap_E (ap_E (ap_E (ap_E h' a1 b1) a2 b2) a3 b3) a4 b4) a5 b5, a5.1.trans b5.1.symm, fun j hj => ?_, fun j hj => ?_⟩
    · rw [a5.2.2.2 j hj, a4.2.2.2 j hj, a3.2.2.2 j hj, a2.2.2.2 j hj, a1.2.2.2 j hj]
    · rw [b5.2.1 j, if_neg (by omega), b4.2.1 j, if_neg (by omega), b3.2.1 j, if_neg (by omega), b2.2.1 j, if_neg (by omega), b1.2.1 j, if_neg (by omega)]
      rfl
  · rw [if_neg (show ¬ iN L ≤ (580 : Int32) from fun z => q ((iN_le (b := 580) (by omega) (by omega)).mp z)), if_neg (show ¬ iN (L + 20) ≤ (600 : Int32) from fun z => by have := (iN_le (b := 600) (by omega) (by omega)).mp z; omega)]
    exact ⟨rfl, h, h1.trans h2.symm, fun _ _ => rfl, fun _ _ => rfl⟩
theorem en_X {u v : MM} {g g2 : GG} {n : Int32} (h : u 1 1 = v 164 0) (ht : TPE u v) : (Fx_P_endRX n u g).1 = (Fx_M_endRX n v g2).1 ∧ TPE (Fx_P_endRX n u g).2 (Fx_M_endRX n v g2).2 ∧ (Fx_P_endRX n u g).2 1 1 = (Fx_M_endRX n v g2).2 164 0 := by
  have eC : Fx_P_endRX n u g = if n < 0 then (-1, u) else if n ≤ u 1 1 then (n, ms u 1 1 n) else (-1, u) := by
    unfold Fx_P_endRX
    simp only [xq_lt]
  have eR : Fx_M_endRX n v g2 = if (decide (0 ≤ n) && decide (n ≤ v 164 0)) = true then (n, ms (ms v 162 0 0) 164 0 n) else (-1, ms v 162 0 0) := by
    unfold Fx_M_endRX
    simp only [xq_lt, in_X]
  rw [eC, eR, h]
  by_cases q : n < 0
  · rw [if_pos q, decide_eq_false (fun z => lt_le_no q z), Bool.false_and, if_neg (by decide)]
    exact ⟨rfl, ht, h⟩
  · rw [if_neg q, decide_eq_true (i_nlt q), Bool.true_and]
    by_cases z : n ≤ v 164 0
    · rw [if_pos z, decide_eq_true z, if_pos rfl]
      exact ⟨rfl, ht, rfl⟩
    · rw [if_neg z, decide_eq_false z, if_neg (by decide)]
      exact ⟨rfl, ht, h⟩
