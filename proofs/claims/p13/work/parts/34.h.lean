set_option maxRecDepth 100000 in
noncomputable def Fx_H_stepsOfX (rain : Int32) (t : Nat) (u : Nat → Nat → Int32) (g : Nat → Nat → Int64) : Int32 := if rain < (0 : Int32) then ((0 : Int32)) else (if (u t 2) ≤ rain then ((0 : Int32)) else (xq_lt (u (t + 2) rain.toNatClampNeg) fun v3 => v3))
set_option maxHeartbeats 4000000 in
set_option maxRecDepth 100000 in
theorem c_H_stepsOfX {d : Nat} {u : Nat → Nat → Int32} {g : Nat → Nat → Int64} {ex : List MC} {rain : Int32} {t : Nat} (hd : 0 ≤ d) (hs_t : t ∈ hl) (hp0 : Bd 0 9 (u t 0)) (hp1 : Bd 0 4 (u t 2)) : CT con0 d 0 0 yX1_stepsOf cX1_stepsOf 2 (some .int) [.ref t, .int rain] (Wd u g ex) (fun r h2 => ∃ (z : Int32), r = some (.int z) ∧ h2 = Wd u g ex ∧ z = Fx_H_stepsOfX rain t u g) := by
  refine CT_of (by decide) (Nat.le_of_ble_eq_true rfl) (fun x hq => ?_)
  show J x yX1_stepsOf cX1_stepsOf 2 (some .int) d 0 0 (Wd u g ex).length 0 [(0, .ref t), (1, .int rain)] [] (Wd u g ex) 0 0
  have E : Fx_H_stepsOfX rain t u g = Fx_H_stepsOfX rain t u g := rfl
  refine J_iload_n (i := 1) (j := 1) dX1_stepsOf_0 rfl rfl ?_
  refine J_if_lt (tgt := 21) dX1_stepsOf_1 (by decide) (fun c1 => ?_) (fun c1 => ?_)
  · replace E := xq_ep c1 E
    refine J_iconst (v := 0) dX1_stepsOf_21 (by decide) ?_
    exact J_iret hq dX1_stepsOf_22 rfl wlen (Nat.le_refl _) (Nat.le_refl _) ⟨(0 : Int32), rfl, rfl, E⟩
  · replace E := xq_en c1 E
    refine J_iload_n (i := 1) (j := 1) dX1_stepsOf_4 rfl rfl ?_
    refine J_aload_n (i := 0) (j := 0) dX1_stepsOf_5 rfl rfl ?_
    refine J_get (C := RX1) (T := TX1) (Z := 6) (ci := 1) (f := 2) dX1_stepsOf_6 inG1 rfl (by decide) k138 (zh0c hs_t) rfl ?_
    refine J_icmp_ge (tgt := 21) dX1_stepsOf_9 (by decide) (fun c2 => ?_) (fun c2 => ?_)
    · replace E := xq_ep c2 E
      refine J_iconst (v := 0) dX1_stepsOf_21 (by decide) ?_
      exact J_iret hq dX1_stepsOf_22 rfl wlen (Nat.le_refl _) (Nat.le_refl _) ⟨(0 : Int32), rfl, rfl, E⟩
    · replace E := xq_en c2 E
      refine J_aload_n (i := 0) (j := 0) dX1_stepsOf_12 rfl rfl ?_
      refine J_get (C := RX1) (T := TX1) (Z := 6) (ci := 1) (f := 3) dX1_stepsOf_13 inG1 rfl (by decide) k143 (zh0c hs_t) rfl ?_
      refine J_iload_n (i := 1) (j := 1) dX1_stepsOf_16 rfl rfl ?_
      refine J_iald dX1_stepsOf_17 (zh2c hs_t) (vin (bd_lt_hi (bd_le_lo (bd_any rain) (i_nlt c1) (bd_c (v := 0) (lo := 0) (hi := 0) (by decide))) (i_nle c2) hp1) (by decide)) ?_
      refine J_topi (fun v3 qv3 => ?_)
      replace E := xq_le qv3 E
      refine J_goto (tgt := 22) dX1_stepsOf_18 (by decide) ?_
      exact J_iret hq dX1_stepsOf_22 rfl wlen (Nat.le_refl _) (Nat.le_refl _) ⟨v3, rfl, rfl, E⟩
set_option maxRecDepth 100000 in
noncomputable def Fx_T_hasHillX (number : Int32) (u : Nat → Nat → Int32) (g : Nat → Nat → Int64) : Bool := if number < (0 : Int32) then (false) else (if (u 1 5) ≤ number then (false) else (true))
set_option maxHeartbeats 4000000 in
set_option maxRecDepth 100000 in
theorem c_T_hasHillX {d : Nat} {u : Nat → Nat → Int32} {g : Nat → Nat → Int64} {ex : List MC} {number : Int32} (hd : 0 ≤ d) (hp0 : Bd 0 2 (u 1 5)) : CT con0 d 0 0 yX7_hasHill cX7_hasHill 2 (some .boolean) [.ref 1, .int number] (Wd u g ex) (fun r h2 => ∃ (z : Bool), r = some (.int (bI z)) ∧ h2 = Wd u g ex ∧ (z = true → Bd 0 1 number) ∧ z = Fx_T_hasHillX number u g) := by
  refine CT_of (by decide) (Nat.le_of_ble_eq_true rfl) (fun x hq => ?_)
  show J x yX7_hasHill cX7_hasHill 2 (some .boolean) d 0 0 (Wd u g ex).length 0 [(0, .ref 1), (1, .int number)] [] (Wd u g ex) 0 0
  have E : Fx_T_hasHillX number u g = Fx_T_hasHillX number u g := rfl
  refine J_iload_n (i := 1) (j := 1) dX7_hasHill_0 rfl rfl ?_
  refine J_if_lt (tgt := 16) dX7_hasHill_1 (by decide) (fun c1 => ?_) (fun c1 => ?_)
  · replace E := xq_ep c1 E
    refine J_iconst (v := 0) dX7_hasHill_16 (by decide) ?_
    exact J_zret hq dX7_hasHill_17 rfl rfl wlen (Nat.le_refl _) (Nat.le_refl _) ⟨false, rfl, rfl, (fun q => absurd q (by decide)), E⟩
  · replace E := xq_en c1 E
    refine J_iload_n (i := 1) (j := 1) dX7_hasHill_4 rfl rfl ?_
    refine J_aload_n (i := 0) (j := 0) dX7_hasHill_5 rfl rfl ?_
    refine J_get (C := RX7) (T := TX7) (Z := 8) (ci := 7) (f := 5) dX7_hasHill_6 inG7 rfl (by decide) k196 wc_1 rfl ?_
    refine J_icmp_ge (tgt := 16) dX7_hasHill_9 (by decide) (fun c2 => ?_) (fun c2 => ?_)
    · replace E := xq_ep c2 E
      refine J_iconst (v := 0) dX7_hasHill_16 (by decide) ?_
      exact J_zret hq dX7_hasHill_17 rfl rfl wlen (Nat.le_refl _) (Nat.le_refl _) ⟨false, rfl, rfl, (fun q => absurd q (by decide)), E⟩
    · replace E := xq_en c2 E
      refine J_iconst (v := 1) dX7_hasHill_12 (by decide) ?_
      refine J_goto (tgt := 17) dX7_hasHill_13 (by decide) ?_
      exact J_zret hq dX7_hasHill_17 rfl rfl wlen (Nat.le_refl _) (Nat.le_refl _) ⟨true, rfl, rfl, (fun qb => (bd_lt_hi (bd_le_lo (bd_any number) (i_nlt c1) (bd_c (v := 0) (lo := 0) (hi := 0) (by decide))) (i_nle c2) hp0)), E⟩
set_option maxRecDepth 100000 in
noncomputable def Fx_T_hasPlanX (number : Int32) (u : Nat → Nat → Int32) (g : Nat → Nat → Int64) : Bool := if number < (0 : Int32) then (false) else (if (u 1 7) ≤ number then (false) else (true))
set_option maxHeartbeats 4000000 in
set_option maxRecDepth 100000 in
theorem c_T_hasPlanX {d : Nat} {u : Nat → Nat → Int32} {g : Nat → Nat → Int64} {ex : List MC} {number : Int32} (hd : 0 ≤ d) (hp0 : Bd 0 3 (u 1 7)) : CT con0 d 0 0 yX7_hasPlan cX7_hasPlan 2 (some .boolean) [.ref 1, .int number] (Wd u g ex) (fun r h2 => ∃ (z : Bool), r = some (.int (bI z)) ∧ h2 = Wd u g ex ∧ (z = true → Bd 0 2 number) ∧ z = Fx_T_hasPlanX number u g) := by
  refine CT_of (by decide) (Nat.le_of_ble_eq_true rfl) (fun x hq => ?_)
  show J x yX7_hasPlan cX7_hasPlan 2 (some .boolean) d 0 0 (Wd u g ex).length 0 [(0, .ref 1), (1, .int number)] [] (Wd u g ex) 0 0
  have E : Fx_T_hasPlanX number u g = Fx_T_hasPlanX number u g := rfl
  refine J_iload_n (i := 1) (j := 1) dX7_hasPlan_0 rfl rfl ?_
  refine J_if_lt (tgt := 16) dX7_hasPlan_1 (by decide) (fun c1 => ?_) (fun c1 => ?_)
  · replace E := xq_ep c1 E
    refine J_iconst (v := 0) dX7_hasPlan_16 (by decide) ?_
    exact J_zret hq dX7_hasPlan_17 rfl rfl wlen (Nat.le_refl _) (Nat.le_refl _) ⟨false, rfl, rfl, (fun q => absurd q (by decide)), E⟩
  · replace E := xq_en c1 E
    refine J_iload_n (i := 1) (j := 1) dX7_hasPlan_4 rfl rfl ?_
    refine J_aload_n (i := 0) (j := 0) dX7_hasPlan_5 rfl rfl ?_
    refine J_get (C := RX7) (T := TX7) (Z := 8) (ci := 7) (f := 7) dX7_hasPlan_6 inG7 rfl (by decide) k200 wc_1 rfl ?_
    refine J_icmp_ge (tgt := 16) dX7_hasPlan_9 (by decide) (fun c2 => ?_) (fun c2 => ?_)
    · replace E := xq_ep c2 E
      refine J_iconst (v := 0) dX7_hasPlan_16 (by decide) ?_
      exact J_zret hq dX7_hasPlan_17 rfl rfl wlen (Nat.le_refl _) (Nat.le_refl _) ⟨false, rfl, rfl, (fun q => absurd q (by decide)), E⟩
    · replace E := xq_en c2 E
      refine J_iconst (v := 1) dX7_hasPlan_12 (by decide) ?_
      refine J_goto (tgt := 17) dX7_hasPlan_13 (by decide) ?_
      exact J_zret hq dX7_hasPlan_17 rfl rfl wlen (Nat.le_refl _) (Nat.le_refl _) ⟨true, rfl, rfl, (fun qb => (bd_lt_hi (bd_le_lo (bd_any number) (i_nlt c1) (bd_c (v := 0) (lo := 0) (hi := 0) (by decide))) (i_nle c2) hp0)), E⟩
set_option maxRecDepth 100000 in
noncomputable def Fx_M_isHillX (h : Int32) (u : Nat → Nat → Int32) (g : Nat → Nat → Int64) : Bool := xq_lt (Fx_M_inEX h (0 : Int32) ((u 167 0) - 1) u g) fun t2 => t2
set_option maxHeartbeats 4000000 in
set_option maxRecDepth 100000 in
theorem c_M_isHillX {d : Nat} {u : Nat → Nat → Int32} {g : Nat → Nat → Int64} {ex : List MC} {h : Int32} (hd : 1 ≤ d) (hp0 : Bd 0 2 (u 167 0)) : CT con0 d 0 0 yX11_isHill cX11_isHill 2 (some .boolean) [.ref 162, .int h] (Wd u g ex) (fun r h2 => ∃ (z : Bool), r = some (.int (bI z)) ∧ h2 = Wd u g ex ∧ (z = true → Bd 0 1 h) ∧ (z = true → h.toInt < (u 167 0).toInt) ∧ z = Fx_M_isHillX h u g) := by
  refine CT_of (by decide) (Nat.le_of_ble_eq_true rfl) (fun x hq => ?_)
  show J x yX11_isHill cX11_isHill 2 (some .boolean) d 0 0 (Wd u g ex).length 0 [(0, .ref 162), (1, .int h)] [] (Wd u g ex) 0 0
  have E : Fx_M_isHillX h u g = Fx_M_isHillX h u g := rfl
  refine J_iload_n (i := 1) (j := 1) dX11_isHill_0 rfl rfl ?_
  refine J_iconst (v := 0) dX11_isHill_1 (by decide) ?_
  refine J_aload_n (i := 0) (j := 0) dX11_isHill_2 rfl rfl ?_
  refine J_get (C := RX11) (T := TX11) (Z := 43) (ci := 11) (f := 5) dX11_isHill_3 inG11 rfl (by decide) k1269 wc_162 rfl ?_
  refine J_iconst (v := 0) dX11_isHill_6 (by decide) ?_
  refine J_iald dX11_isHill_7 wc_167 (vin (bd_c (v := 0) (lo := 0) (hi := 0) (by decide)) (by decide)) ?_
  refine J_ci (v := u 167 0) rfl ?_
  refine J_iconst (v := 1) dX11_isHill_8 (by decide) ?_
  refine J_isub dX11_isHill_9 ?_
  refine J_callS (As := [.int h, .int 0, .int ((u 167 0) - 1)]) (rest := []) dX11_isHill_10 (c_M_inEX (d := 0) (u := u) (g := g) (ex := ex) (v := h) (low := 0) (high := ((u 167 0) - 1))  (by decide) ) hq.n k1406 k1407 k97 k1408 np_X11_in (Nat.le_trans (by decide) hd) (by decide) (Nat.le_refl _) (Nat.le_refl _) wlen rfl (Nat.le_of_ble_eq_true rfl) (fun r_ h_ p1 => ?_)
  obtain ⟨t2, rfl, rfl, h3, h4, h5, hx6⟩ := p1
  replace E := xq_le hx6 E
  exact J_zret hq dX11_isHill_13 rfl (bI_n _) wlen (Nat.le_refl _) (Nat.le_refl _) ⟨t2, rfl, rfl, (fun qb => (bd_le_hi (bd_le_lo (bd_any h) (h3 qb) (bd_c (v := 0) (lo := 0) (hi := 0) (by decide))) (h4 qb) (bd_sub (l := (-1)) (h := 1) hp0 (bd_c (v := 1) (lo := 1) (hi := 1) (by decide)) (by decide)))), (fun qb => (le_pred_lt (h4 qb) hp0)), E⟩
set_option maxRecDepth 100000 in
noncomputable def Fx_M_isPlanX (p : Int32) (u : Nat → Nat → Int32) (g : Nat → Nat → Int64) : Bool := xq_lt (Fx_M_inEX p (0 : Int32) ((u 167 1) - 1) u g) fun t2 => t2
set_option maxHeartbeats 4000000 in
set_option maxRecDepth 100000 in
theorem c_M_isPlanX {d : Nat} {u : Nat → Nat → Int32} {g : Nat → Nat → Int64} {ex : List MC} {p : Int32} (hd : 1 ≤ d) (hp0 : Bd 0 3 (u 167 1)) : CT con0 d 0 0 yX11_isPlan cX11_isPlan 2 (some .boolean) [.ref 162, .int p] (Wd u g ex) (fun r h2 => ∃ (z : Bool), r = some (.int (bI z)) ∧ h2 = Wd u g ex ∧ (z = true → Bd 0 2 p) ∧ z = Fx_M_isPlanX p u g) := by
  refine CT_of (by decide) (Nat.le_of_ble_eq_true rfl) (fun x hq => ?_)
  show J x yX11_isPlan cX11_isPlan 2 (some .boolean) d 0 0 (Wd u g ex).length 0 [(0, .ref 162), (1, .int p)] [] (Wd u g ex) 0 0
  have E : Fx_M_isPlanX p u g = Fx_M_isPlanX p u g := rfl
  refine J_iload_n (i := 1) (j := 1) dX11_isPlan_0 rfl rfl ?_
  refine J_iconst (v := 0) dX11_isPlan_1 (by decide) ?_
  refine J_aload_n (i := 0) (j := 0) dX11_isPlan_2 rfl rfl ?_
  refine J_get (C := RX11) (T := TX11) (Z := 43) (ci := 11) (f := 5) dX11_isPlan_3 inG11 rfl (by decide) k1269 wc_162 rfl ?_
  refine J_iconst (v := 1) dX11_isPlan_6 (by decide) ?_
  refine J_iald dX11_isPlan_7 wc_167 (vin (bd_c (v := 1) (lo := 1) (hi := 1) (by decide)) (by decide)) ?_
  refine J_ci (v := u 167 1) rfl ?_
  refine J_iconst (v := 1) dX11_isPlan_8 (by decide) ?_
  refine J_isub dX11_isPlan_9 ?_
  refine J_callS (As := [.int p, .int 0, .int ((u 167 1) - 1)]) (rest := []) dX11_isPlan_10 (c_M_inEX (d := 0) (u := u) (g := g) (ex := ex) (v := p) (low := 0) (high := ((u 167 1) - 1))  (by decide) ) hq.n k1406 k1407 k97 k1408 np_X11_in (Nat.le_trans (by decide) hd) (by decide) (Nat.le_refl _) (Nat.le_refl _) wlen rfl (Nat.le_of_ble_eq_true rfl) (fun r_ h_ p1 => ?_)
  obtain ⟨t2, rfl, rfl, h3, h4, h5, hx6⟩ := p1
  replace E := xq_le hx6 E
  exact J_zret hq dX11_isPlan_13 rfl (bI_n _) wlen (Nat.le_refl _) (Nat.le_refl _) ⟨t2, rfl, rfl, (fun qb => (bd_le_hi (bd_le_lo (bd_any p) (h3 qb) (bd_c (v := 0) (lo := 0) (hi := 0) (by decide))) (h4 qb) (bd_sub (l := (-1)) (h := 2) hp0 (bd_c (v := 1) (lo := 1) (hi := 1) (by decide)) (by decide)))), E⟩
