/-! hills told are in order, in every place; kept by every state call -/
/-- in place s -/
def WFP (v : MM) (s : Nat) : Prop := ∀ h, h < 2 → h < (v 167 (2 * s)).toInt.toNat → HWF (fun o => v 168 (314 * s + (157 * h + o)))
def WFA (v : MM) : Prop := ∀ s, s < 4 → WFP v s
theorem wfa_c {v v2 : MM} (e7 : v2 167 = v 167) (e8 : v2 168 = v 168) (h : WFA v) : WFA v2 := by
  unfold WFA WFP
  rw [e7, e8]
  exact h
theorem wfp_s {y v : MM} {s r : Nat} (h : SCP y v s r) (w : WFP v r) : WFP y s := by
  obtain ⟨-, -, -, -, e7, -, e8, -⟩ := h
  intro k hk hl
  rw [e7] at hl
  refine hwf_c (fun j hj => ?_) (w k hk hl)
  exact e8 (157 * k + j) (by omega)
theorem W4_text {v v2 : MM} {g' g2 : GG} {L : Nat} {sort at0 w : Int32} (hL' : v 164 0 = iN L) (hb : L ≤ 600) (hby : ∀ j, j < L → Bd (-128) 127 (v 163 j)) (b5 : Bd 0 2 (v 167 0)) (b7 : Bd 0 3 (v 167 1)) (ht : w = -2 ∨ RTF sort v g') (e2 : (w, v2, g2) = Fx_M_textRX sort at0 v g') (h : WFA v) : WFA v2 := by
  obtain ⟨h5, v5, l5⟩ := iN_ex (hi := 2) b5
  obtain ⟨h7, v7, l7⟩ := iN_ex (hi := 3) b7
  have refused : Fx_M_textRX sort at0 v g' = (-2, T9 v, g') → WFA v2 := by
    intro q
    have z4 : v2 = T9 v := congrArg (fun p => p.2.1) (e2.trans q)
    rw [z4]
    exact wfa_c (t9_c ⟨by decide, by decide, by decide, by decide⟩) (t9_c ⟨by decide, by decide, by decide, by decide⟩) h
  have faulty : (∃ x2 g3, Fx_M_textRX sort at0 v g' = (-1, x2, g3) ∧ x2 167 = v 167 ∧ x2 168 = v 168) → WFA v2 := by
    intro q
    obtain ⟨x2, g3, q2, w7, w8⟩ := q
    have z4 : v2 = x2 := congrArg (fun p => p.2.1) (e2.trans q2)
    rw [z4]
    exact wfa_c w7 w8 h
  by_cases s0 : sort = 0
  · subst s0
    obtain ⟨F, hF⟩ : ∃ F, txF 0 (v 163) L (v 170) = F := ⟨_, rfl⟩
    have nq : nuT 0 at0 (v 167 0) (v 167 1) = if at0 = -1 then (if iN 2 ≤ iN h5 then (-1 : Int32) else iN h5) else if at0 < 0 then -1 else if iN h5 ≤ at0 then -1 else at0 := by rw [← v5]; rfl
    rcases nu_cl (at0 := at0) (show 2 ≤ 3 by omega) l5 with ⟨q1, q2⟩ | ⟨q1, n, q2, q3⟩
    · exact refused (txn_0 v5 l5 q2)
    rw [← nq] at q1 q2
    have hn : n < 2 := by omega
    have tm := tm_0 (at0 := at0) (u := v) (g := g') hb hL' hby b5 hF
    have hw : ¬ w = -2 := by
      intro y
      by_cases q : F.1 = 0
      · obtain ⟨x2, g3, y2, -⟩ := tm.2.1 q1 q
        have y3 : w = nuT 0 at0 (v 167 0) (v 167 1) := congrArg Prod.fst (e2.trans y2)
        rw [y, q2] at y3
        have y4 := congrArg Int32.toInt y3
        rw [iN_ti (by omega)] at y4
        have y5 : (-2 : Int32).toInt = -2 := rfl
        omega
      · obtain ⟨x2, g3, y2, -⟩ := tm.2.2 q1 q
        have y3 : w = -1 := congrArg Prod.fst (e2.trans y2)
        rw [y] at y3
        exact absurd y3 (by decide)
    have hr := (ht.resolve_left hw).1 rfl
    obtain ⟨m1, m2⟩ := tx_0 (at0 := at0) (u := v) (g := g') hb hL' hby v5 l5 q3 hF hr
    by_cases q : F.1 = 0
    rotate_left
    · obtain ⟨x2, g3, y1, -, -, w7, w8, -⟩ := m2 q
      exact faulty ⟨x2, g3, y1, w7, w8⟩
    obtain ⟨x2, g3, y1, w5, w6, w7, w8, w9⟩ := m1 q
    have z6 : v2 = x2 := congrArg (fun p => p.2.1) (e2.trans y1)
    rw [← z6] at w7 w9
    have hF2 : HWF F.2.2 := by
      rw [← hF] at q ⊢
      exact tw_H q
    have cv : v2 167 0 = iN (if at0 = -1 then h5 + 1 else h5) := by rw [w7]; exact if_pos rfl
    have c2 : ∀ j, j ≠ 0 → v2 167 j = v 167 j := fun j hj => by rw [w7]; exact if_neg hj
    intro s hs k hk hl
    by_cases y : s = 0
    · subst y
      by_cases kn : k = n
      · subst kn
        refine hwf_c (fun j hj => ?_) hF2
        show v2 168 (314 * 0 + (157 * k + j)) = _
        rw [w9, if_pos (by omega)]
        exact congrArg F.2.2 (by omega)
      · have hl2 : k < (v 167 (2 * 0)).toInt.toNat := by
          rw [show v2 167 (2 * 0) = v2 167 0 from rfl, cv, iN_ti (by split <;> omega)] at hl
          rw [show v 167 (2 * 0) = v 167 0 from rfl, v5, iN_ti (by omega)]
          rcases q3 with ⟨a1, a2, a3⟩ | ⟨a1, a2, a3⟩
          · rw [if_pos a1] at hl
            omega
          · rw [if_neg a1] at hl
            omega
        refine hwf_c (fun j hj => ?_) (h 0 (by decide) k hk hl2)
        show v2 168 (314 * 0 + (157 * k + j)) = v 168 (314 * 0 + (157 * k + j))
        rw [w9, if_neg (by omega)]
    · rw [c2 _ (by omega)] at hl
      refine hwf_c (fun j hj => ?_) (h s hs k hk hl)
      show v2 168 (314 * s + (157 * k + j)) = v 168 (314 * s + (157 * k + j))
      rw [w9, if_neg (by omega)]
  · by_cases s1 : sort = 1
    · subst s1
      obtain ⟨F, hF⟩ : ∃ F, txF 1 (v 163) L (v 170) = F := ⟨_, rfl⟩
      have nq : nuT 1 at0 (v 167 0) (v 167 1) = if at0 = -1 then (if iN 3 ≤ iN h7 then (-1 : Int32) else iN h7) else if at0 < 0 then -1 else if iN h7 ≤ at0 then -1 else at0 := by rw [← v7]; rfl
      rcases nu_cl (at0 := at0) (show 3 ≤ 3 by omega) l7 with ⟨q1, q2⟩ | ⟨q1, n, q2, q3⟩
      · exact refused (txn_1 v7 l7 q2)
      rw [← nq] at q1 q2
      have hn : n < 3 := by omega
      have tm := tm_1 (at0 := at0) (u := v) (g := g') hb hL' hby b7 hF
      have hw : ¬ w = -2 := by
        intro y
        by_cases q : F.1 = 0
        · obtain ⟨x2, g3, y2, -⟩ := tm.2.1 q1 q
          have y3 : w = nuT 1 at0 (v 167 0) (v 167 1) := congrArg Prod.fst (e2.trans y2)
          rw [y, q2] at y3
          have y4 := congrArg Int32.toInt y3
          rw [iN_ti (by omega)] at y4
          have y5 : (-2 : Int32).toInt = -2 := rfl
          omega
        · obtain ⟨x2, g3, y2, -⟩ := tm.2.2 q1 q
          have y3 : w = -1 := congrArg Prod.fst (e2.trans y2)
          rw [y] at y3
          exact absurd y3 (by decide)
      have hr := (ht.resolve_left hw).2 rfl
      obtain ⟨m1, m2⟩ := tx_1 (at0 := at0) (u := v) (g := g') hb hL' hby v7 l7 q3 hF hr
      by_cases q : F.1 = 0
      rotate_left
      · obtain ⟨x2, g3, y1, -, -, w7, w8, -⟩ := m2 q
        exact faulty ⟨x2, g3, y1, w7, w8⟩
      obtain ⟨x2, g3, y1, w5, w6, w7, w8, w9⟩ := m1 q
      have z6 : v2 = x2 := congrArg (fun p => p.2.1) (e2.trans y1)
      rw [← z6] at w7 w8
      intro s hs k hk hl
      rw [w7, show upd (v 167) 1 (iN (if at0 = -1 then h7 + 1 else h7)) (2 * s) = v 167 (2 * s) from if_neg (by omega)] at hl
      have := h s hs k hk hl
      rw [← w8] at this
      exact this
    · exact refused (tx_2 s0 s1)
/-- both objects: what is told is the same, hills are in order, the plan NONE has no works -/
def RLY (u v : MM) : Prop := RLX u v ∧ WFA v ∧ u 49 0 = 0
theorem R4_feed {u v u1 v2 : MM} {g g' : GG} {a b c d e z w : Int32} (h : RLY u v) (bl : Bd 0 600 (u 1 1)) (e1 : (z, u1) = Fx_P_feedRX a b c d e u g) (f1 : ∀ c, c ≠ 1 → c ≠ 2 → u1 c = u c) (e2 : (w, v2) = Fx_M_feedRX a b c d e v g') (f2 : ∀ c, c ≠ 162 → c ≠ 163 → c ≠ 164 → v2 c = v c) (f4 : ∀ j, j ≠ 0 → v2 164 j = v 164 j) : z = w ∧ RLY u1 v2 := by
  obtain ⟨k1, k2⟩ := R3_feed h.1 bl e1 f1 e2 f2 f4
  exact ⟨k1, k2, wfa_c (f2 167 (by decide) (by decide) (by decide)) (f2 168 (by decide) (by decide) (by decide)) h.2.1, by rw [f1 49 (by decide) (by decide)]; exact h.2.2⟩
theorem R4_end {u v u1 v2 : MM} {g g' : GG} {n z w : Int32} (h : RLY u v) (e1 : (z, u1) = Fx_P_endRX n u g) (f1 : ∀ c, c ≠ 1 → u1 c = u c) (fj : ∀ j, j ≠ 1 → u1 1 j = u 1 j) (e2 : (w, v2) = Fx_M_endRX n v g') (f2 : ∀ c, c ≠ 162 → c ≠ 164 → v2 c = v c) (f4 : ∀ j, j ≠ 0 → v2 164 j = v 164 j) : z = w ∧ RLY u1 v2 := by
  obtain ⟨k1, k2⟩ := R3_end h.1 e1 f1 fj e2 f2 f4
  exact ⟨k1, k2, wfa_c (f2 167 (by decide) (by decide)) (f2 168 (by decide) (by decide)) h.2.1, by rw [f1 49 (by decide)]; exact h.2.2⟩
theorem R4_text {u v u1 v2 : MM} {g g' g2 : GG} {sort at0 z w : Int32} (h : RLY u v) (bl : Bd 0 600 (u 1 1)) (b5 : Bd 0 2 (u 1 5)) (b7 : Bd 0 3 (u 1 7)) (bf : BF u 2) (hd : z = -2 ∨ RDF sort u g) (ht : w = -2 ∨ RTF sort v g') (e1 : (z, u1) = Fx_P_textRX sort at0 u g) (f49 : u1 49 = u 49) (e2 : (w, v2, g2) = Fx_M_textRX sort at0 v g') (f3 : v2 163 = v 163) (f4 : ∀ j, j ≠ 0 → v2 164 j = v 164 j) (f4z : v2 164 0 = 0) (f5 : ∀ j, j ≠ 0 → v2 165 j = v 165 j) (f6 : ∀ j, j ≠ 0 → v2 166 j = v 166 j) (f81 : v2 181 = v 181) : z = w ∧ RLY u1 v2 := by
  obtain ⟨k1, k2⟩ := R3_text h.1 bl b5 b7 bf hd ht e1 e2 f3 f4 f4z f5 f6 f81
  obtain ⟨t0, t1, t2, t3, t5, t7, th, tw⟩ := h.1.1
  obtain ⟨L, hL, hb⟩ := iN_ex (hi := 600) bl
  have hby : ∀ j, j < L → Bd (-128) 127 (v 163 j) := fun j hj => by
    rw [← show u 2 j = v 163 j from (t0 j (by omega)).trans (congrArg (v 163) (by omega))]
    exact fb_bd (bf j)
  refine ⟨k1, k2, W4_text (t1.symm.trans hL) hb hby ?_ ?_ ht e2 h.2.1, by rw [f49]; exact h.2.2⟩
  · rw [show v 167 0 = u 1 5 from t5.symm]; exact b5
  · rw [show v 167 1 = u 1 7 from t7.symm]; exact b7
theorem R4_image {u v u1 v2 : MM} {g g' : GG} {k : Int32} {z w : Bool} (h : RLY u v) (bf : BF u 2) (e1 : (z, u1) = Fx_P_imageRX k u g) (f49 : u1 49 = u 49) (e2 : (w, v2) = Fx_M_imageRX k v g') : z = w ∧ RLY u1 v2 := by
  obtain ⟨k1, k2⟩ := R3_image h.1 bf e1 e2
  refine ⟨k1, k2, ?_, by rw [f49]; exact h.2.2⟩
  have hX : Fx_M_imageRX k v g' = if (decide (0 ≤ k) && decide (k ≤ 2)) = true then (true, ms (Fx_M_copyRX 0 (k + 1) (ms v 162 0 0) g') 181 k.toNatClampNeg (vp_nar .boolean 1)) else (false, ms v 162 0 0) := by
    unfold Fx_M_imageRX
    simp only [xq_lt, in_X]
  rw [hX] at e2
  have v1c : ∀ c, 163 ≤ c → (ms v 162 0 0) c = v c := fun c hc => ms_c1 (by omega)
  have h' : WFA (ms v 162 0 0) := wfa_c (v1c 167 (by decide)) (v1c 168 (by decide)) h.2.1
  by_cases q : 0 ≤ k ∧ k ≤ 2
  · obtain ⟨n, hn, n2⟩ := k2_ex q
    rw [decide_eq_true q.1, decide_eq_true q.2, if_pos (show (true && true) = true from rfl), hn, iN_s, iN_cl (by omega)] at e2
    have z4 : v2 = ms (Fx_M_copyRX (iN 0) (iN (n + 1)) (ms v 162 0 0) g') 181 n (vp_nar .boolean 1) := congrArg Prod.snd e2
    obtain ⟨s1, s2, s3⟩ := cpR_X (a := 0) (b := n + 1) (v := ms v 162 0 0) (g := g') (by omega) (by omega) (by omega) (fun j hj => by rw [v1c 163 (by omega), ← h.1.1.1 j hj]; exact bf j)
    have hc : WFA (Fx_M_copyRX (iN 0) (iN (n + 1)) (ms v 162 0 0) g') := by
      intro s hs
      by_cases y : s = n + 1
      · rw [y]; exact wfp_s s1 (h' 0 (by decide))
      · exact wfp_s (s2 s y) (h' s hs)
    rw [z4]
    exact wfa_c (ms_c1 (by decide)) (ms_c1 (by decide)) hc
  · rw [if_neg (k2_no q)] at e2
    have z4 : v2 = ms v 162 0 0 := congrArg Prod.snd e2
    rw [z4]
    exact h'
theorem R4_again {u v u1 v2 : MM} {g g' : GG} {k : Int32} {z w : Bool} (h : RLY u v) (bf : ∀ n, n ≤ 2 → BF u (84 + 26 * n + 1)) (e1 : (z, u1) = Fx_P_againRX k u g) (f49 : u1 49 = u 49) (e2 : (w, v2) = Fx_M_againRX k v g') : z = w ∧ RLY u1 v2 := by
  obtain ⟨k1, k2⟩ := R3_again h.1 bf e1 e2
  refine ⟨k1, k2, ?_, by rw [f49]; exact h.2.2⟩
  have hX : Fx_M_againRX k v g' = if (decide (0 ≤ k) && decide (k ≤ 2)) = true then (if v 181 k.toNatClampNeg = 0 then (false, ms v 162 0 0) else (true, Fx_M_copyRX (k + 1) 0 (ms v 162 0 0) g')) else (false, ms v 162 0 0) := by
    unfold Fx_M_againRX
    simp only [xq_lt, in_X]
    rw [show (ms v 162 0 0) 181 = v 181 from ms_c1 (by decide)]
  rw [hX] at e2
  have v1c : ∀ c, 163 ≤ c → (ms v 162 0 0) c = v c := fun c hc => ms_c1 (by omega)
  have h' : WFA (ms v 162 0 0) := wfa_c (v1c 167 (by decide)) (v1c 168 (by decide)) h.2.1
  have stay : (w, v2) = (false, ms v 162 0 0) → WFA v2 := by
    intro q2
    have z4 : v2 = ms v 162 0 0 := congrArg Prod.snd q2
    rw [z4]
    exact h'
  by_cases q : 0 ≤ k ∧ k ≤ 2
  · obtain ⟨n, hn, n2⟩ := k2_ex q
    rw [decide_eq_true q.1, decide_eq_true q.2, if_pos (show (true && true) = true from rfl), hn, iN_s, iN_cl (by omega), ← h.1.2.1] at e2
    by_cases y : u 28 n = 0
    · rw [if_pos y] at e2
      exact stay e2
    · rw [if_neg y] at e2
      have z4 : v2 = Fx_M_copyRX (iN (n + 1)) (iN 0) (ms v 162 0 0) g' := (Prod.mk.inj e2).2
      have hT := h.1.2.2 n (by omega) y
      obtain ⟨s1, s2, s3⟩ := cpR_X (a := n + 1) (b := 0) (v := ms v 162 0 0) (g := g') (by omega) (by omega) (by omega) (fun j hj => by rw [v1c 163 (by omega), ← hT.1 j hj]; exact bf n n2 j)
      rw [z4]
      intro s hs
      by_cases y : s = 0
      · rw [y]; exact wfp_s s1 (h' (n + 1) (by omega))
      · exact wfp_s (s2 s y) (h' s hs)
  · rw [if_neg (k2_no q)] at e2
    exact stay e2
theorem rly_v {u v v2 : MM} (hv : ∀ c, (163 ≤ c ∧ c ≤ 169) ∨ c = 181 → v2 c = v c) (h : RLY u v) : RLY u v2 := ⟨rlx_v hv h.1, wfa_c (hv 167 (by decide)) (hv 168 (by decide)) h.2.1, h.2.2⟩
theorem rly_u {u v u2 : MM} (hu : ∀ c, (1 ≤ c ∧ c ≤ 28) ∨ c = 49 ∨ (84 ≤ c ∧ c ≤ 161) → u2 c = u c) (h : RLY u v) : RLY u2 v := ⟨rlx_u (fun c hc => hu c (by omega)) h.1, h.2.1, by rw [hu 49 (by decide)]; exact h.2.2⟩
theorem rly_2 {u u2 : MM} (hu : ∀ c, (1 ≤ c ∧ c ≤ 28) ∨ c = 49 ∨ (84 ≤ c ∧ c ≤ 161) ∨ (163 ≤ c ∧ c ≤ 169) ∨ c = 181 → u2 c = u c) (h : RLY u u) : RLY u2 u2 := rly_v (fun c hc => hu c (by omega)) (rly_u (fun c hc => hu c (by omega)) h)
theorem rn_yu {c a : Nat} (h : (1 ≤ c ∧ c ≤ 28) ∨ c = 49 ∨ (84 ≤ c ∧ c ≤ 161)) (r : (a < 1 ∨ 28 < a) ∧ a ≠ 49 ∧ (a < 84 ∨ 161 < a)) : c ≠ a := by omega
theorem rn_y2 {c a : Nat} (h : (1 ≤ c ∧ c ≤ 28) ∨ c = 49 ∨ (84 ≤ c ∧ c ≤ 161) ∨ (163 ≤ c ∧ c ≤ 169) ∨ c = 181) (r : (a < 1 ∨ 28 < a) ∧ a ≠ 49 ∧ (a < 84 ∨ 161 < a) ∧ (a < 163 ∨ 169 < a) ∧ a ≠ 181) : c ≠ a := by omega
theorem nin_yu {c : Nat} {L : List (Nat × Nat)} (h : (1 ≤ c ∧ c ≤ 28) ∨ c = 49 ∨ (84 ≤ c ∧ c ≤ 161)) (m : ((apart 1 28 L && apart 84 161 L) && apart 49 49 L) = true) : nin c L = true := by
  obtain ⟨m1, m2⟩ := (Bool.and_eq_true _ _).mp m
  rcases h with h | h | h
  · exact nin_u (Or.inl h) m1
  · exact nin_rg (lo := 49) (hi := 49) ⟨by omega, by omega⟩ m2
  · exact nin_u (Or.inr h) m1
theorem nin_y2 {c : Nat} {L : List (Nat × Nat)} (h : (1 ≤ c ∧ c ≤ 28) ∨ c = 49 ∨ (84 ≤ c ∧ c ≤ 161) ∨ (163 ≤ c ∧ c ≤ 169) ∨ c = 181) (m : (((apart 1 28 L && apart 84 161 L) && apart 49 49 L) && (apart 163 169 L && apart 181 181 L)) = true) : nin c L = true := by
  obtain ⟨m1, m2⟩ := (Bool.and_eq_true _ _).mp m
  rcases h with h | h | h | h
  · exact nin_yu (Or.inl h) m1
  · exact nin_yu (Or.inr (Or.inl h)) m1
  · exact nin_yu (Or.inr (Or.inr h)) m1
  · exact nin_v h m2
