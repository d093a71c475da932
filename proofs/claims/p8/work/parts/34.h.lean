set_option maxRecDepth 100000 in
noncomputable def Fx_W_toldX (number : Int32) (what : Int32) (w : Nat) (u : Nat → Nat → Int32) (g : Nat → Nat → Int64) : Int32 := if number < (0 : Int32) then (((-2) : Int32)) else (if number < (u w 0) then (if what = 0 then (xq_lt (u (w + 1) number.toNatClampNeg) fun v4 => v4) else (if what = 1 then (xq_lt (u (w + 2) number.toNatClampNeg) fun v6 => v6) else (if what = 2 then (xq_lt (u (w + 3) number.toNatClampNeg) fun v8 => v8) else (((-2) : Int32))))) else (((-2) : Int32)))
set_option maxHeartbeats 4000000 in
set_option maxRecDepth 100000 in
theorem c_W_toldX {d : Nat} {u : Nat → Nat → Int32} {g : Nat → Nat → Int64} {ex : List MC} {number : Int32} {what : Int32} {w : Nat} (hd : 0 ≤ d) (hs_w : w ∈ wkl) (hp0 : Bd 0 12 (u w 0)) : CT con0 d 0 0 yX8_told cX8_told 3 (some .int) [.ref w, .int number, .int what] (Wd u g ex) (fun r h2 => ∃ (z : Int32), r = some (.int z) ∧ h2 = Wd u g ex ∧ z = Fx_W_toldX number what w u g) := by
  refine CT_of (by decide) (Nat.le_of_ble_eq_true rfl) (fun x hq => ?_)
  show J x yX8_told cX8_told 3 (some .int) d 0 0 (Wd u g ex).length 0 [(0, .ref w), (1, .int number), (2, .int what)] [] (Wd u g ex) 0 0
  have E : Fx_W_toldX number what w u g = Fx_W_toldX number what w u g := rfl
  refine J_iload_n (i := 1) (j := 1) dX8_told_0 rfl rfl ?_
  refine J_if_lt (tgt := 12) dX8_told_1 (by decide) (fun c1 => ?_) (fun c1 => ?_)
  · replace E := xq_ep c1 E
    refine J_bipush (v := (-2)) dX8_told_12 (by decide) ?_
    exact J_iret hq dX8_told_14 rfl wlen (Nat.le_refl _) (Nat.le_refl _) ⟨((-2) : Int32), rfl, rfl, E⟩
  · replace E := xq_en c1 E
    refine J_iload_n (i := 1) (j := 1) dX8_told_4 rfl rfl ?_
    refine J_aload_n (i := 0) (j := 0) dX8_told_5 rfl rfl ?_
    refine J_get (C := RX8) (T := TX8) (Z := 4) (ci := 8) (f := 0) dX8_told_6 inG8 rfl (by decide) k168 (zw0c hs_w) rfl ?_
    refine J_icmp_lt (tgt := 15) dX8_told_9 (by decide) (fun c2 => ?_) (fun c2 => ?_)
    · replace E := xq_ep c2 E
      refine J_iload_n (i := 2) (j := 2) dX8_told_15 rfl rfl ?_
      by_cases c3 : what = 0
      · replace E := xq_ep c3 E
        refine J_ci (v := 0) c3 ?_
        refine J_tableIn (tgt := 44) (off := 28) dX8_told_16 (by decide) (by decide) (by decide) (by decide) ?_
        refine J_aload_n (i := 0) (j := 0) dX8_told_44 rfl rfl ?_
        refine J_get (C := RX8) (T := TX8) (Z := 4) (ci := 8) (f := 1) dX8_told_45 inG8 rfl (by decide) k171 (zw0c hs_w) rfl ?_
        refine J_iload_n (i := 1) (j := 1) dX8_told_48 rfl rfl ?_
        refine J_iald dX8_told_49 (zw1c hs_w) (vin (bd_lt_hi (bd_le_lo (bd_any number) (i_nlt c1) (bd_c (v := 0) (lo := 0) (hi := 0) (by decide))) c2 hp0) (by decide)) ?_
        refine J_topi (fun v4 qv4 => ?_)
        replace E := xq_le qv4 E
        exact J_iret hq dX8_told_50 rfl wlen (Nat.le_refl _) (Nat.le_refl _) ⟨v4, rfl, rfl, E⟩
      replace E := xq_en c3 E
      by_cases c5 : what = 1
      · replace E := xq_ep c5 E
        refine J_ci (v := 1) c5 ?_
        refine J_tableIn (tgt := 51) (off := 35) dX8_told_16 (by decide) (by decide) (by decide) (by decide) ?_
        refine J_aload_n (i := 0) (j := 0) dX8_told_51 rfl rfl ?_
        refine J_get (C := RX8) (T := TX8) (Z := 4) (ci := 8) (f := 2) dX8_told_52 inG8 rfl (by decide) k173 (zw0c hs_w) rfl ?_
        refine J_iload_n (i := 1) (j := 1) dX8_told_55 rfl rfl ?_
        refine J_iald dX8_told_56 (zw2c hs_w) (vin (bd_lt_hi (bd_le_lo (bd_any number) (i_nlt c1) (bd_c (v := 0) (lo := 0) (hi := 0) (by decide))) c2 hp0) (by decide)) ?_
        refine J_topi (fun v6 qv6 => ?_)
        replace E := xq_le qv6 E
        exact J_iret hq dX8_told_57 rfl wlen (Nat.le_refl _) (Nat.le_refl _) ⟨v6, rfl, rfl, E⟩
      replace E := xq_en c5 E
      by_cases c7 : what = 2
      · replace E := xq_ep c7 E
        refine J_ci (v := 2) c7 ?_
        refine J_tableIn (tgt := 58) (off := 42) dX8_told_16 (by decide) (by decide) (by decide) (by decide) ?_
        refine J_aload_n (i := 0) (j := 0) dX8_told_58 rfl rfl ?_
        refine J_get (C := RX8) (T := TX8) (Z := 4) (ci := 8) (f := 3) dX8_told_59 inG8 rfl (by decide) k175 (zw0c hs_w) rfl ?_
        refine J_iload_n (i := 1) (j := 1) dX8_told_62 rfl rfl ?_
        refine J_iald dX8_told_63 (zw3c hs_w) (vin (bd_lt_hi (bd_le_lo (bd_any number) (i_nlt c1) (bd_c (v := 0) (lo := 0) (hi := 0) (by decide))) c2 hp0) (by decide)) ?_
        refine J_topi (fun v8 qv8 => ?_)
        replace E := xq_le qv8 E
        exact J_iret hq dX8_told_64 rfl wlen (Nat.le_refl _) (Nat.le_refl _) ⟨v8, rfl, rfl, E⟩
      replace E := xq_en c7 E
      · refine J_tableOut (tgt := 65) dX8_told_16 (by have e0 := int_ne (k := 0) c3 (by decide); have e1 := int_ne (k := 1) c5 (by decide); have e2 := int_ne (k := 2) c7 (by decide); omega) (by decide) ?_
        refine J_bipush (v := (-2)) dX8_told_65 (by decide) ?_
        exact J_iret hq dX8_told_67 rfl wlen (Nat.le_refl _) (Nat.le_refl _) ⟨((-2) : Int32), rfl, rfl, E⟩
    · replace E := xq_en c2 E
      refine J_bipush (v := (-2)) dX8_told_12 (by decide) ?_
      exact J_iret hq dX8_told_14 rfl wlen (Nat.le_refl _) (Nat.le_refl _) ⟨((-2) : Int32), rfl, rfl, E⟩
set_option maxRecDepth 100000 in
noncomputable def Fx_T_hasHillX (number : Int32) (u : Nat → Nat → Int32) (g : Nat → Nat → Int64) : Bool := if number < (0 : Int32) then (false) else (if (u 1 5) ≤ number then (false) else (true))
set_option maxRecDepth 100000 in
noncomputable def Fx_T_hasPlanX (number : Int32) (u : Nat → Nat → Int32) (g : Nat → Nat → Int64) : Bool := if number < (0 : Int32) then (false) else (if (u 1 7) ≤ number then (false) else (true))
set_option maxHeartbeats 4000000 in
set_option maxRecDepth 100000 in
theorem c_T_hasPlanX {d : Nat} {u : Nat → Nat → Int32} {g : Nat → Nat → Int64} {ex : List MC} {number : Int32} (hd : 0 ≤ d) (hp0 : Bd 0 3 (u 1 7)) : CT con0 d 0 0 yX7_hasPlan cX7_hasPlan 2 (some .boolean) [.ref 1, .int number] (Wd u g ex) (fun r h2 => ∃ (z : Bool), r = some (.int (bI z)) ∧ h2 = Wd u g ex ∧ (z = true → Bd 0 2 number) ∧ z = Fx_T_hasPlanX number u g) := by
  refine CT_of (by decide) (Nat.le_of_ble_eq_true rfl) (fun x hq => ?_)
  show J x yX7_hasPlan cX7_hasPlan 2 (some .boolean) d 0 0 (Wd u g ex).length 0 [(0, .ref 1), (1, .int number)] [] (Wd u g ex) 0 0
  have E : Fx_T_hasPlanX number u g = Fx_T_hasPlanX number u g := rfl
  refine J_iload_n (i := 1) (j := 1) dX7_hasPlan_0 rfl rfl ?_
  refine J_if_lt (tgt := 16) dX7_hasPlan_1 (by decide) (fun c1 => ?_) (fun c1 => ?_)
  · replace E := xq_ep c1 E
    refine J_iconst (v := 0) dX7_hasPlan_16 (by decide) ?_
    exact J_zret hq dX7_hasPlan_17 rfl rfl wlen (Nat.le_refl _) (Nat.le_refl _) ⟨false, rfl, rfl, (fun q => absurd q (by decide)), E⟩
  · replace E := xq_en c1 E
    refine J_iload_n (i := 1) (j := 1) dX7_hasPlan_4 rfl rfl ?_
    refine J_aload_n (i := 0) (j := 0) dX7_hasPlan_5 rfl rfl ?_
    refine J_get (C := RX7) (T := TX7) (Z := 8) (ci := 7) (f := 7) dX7_hasPlan_6 inG7 rfl (by decide) k200 wc_1 rfl ?_
    refine J_icmp_ge (tgt := 16) dX7_hasPlan_9 (by decide) (fun c2 => ?_) (fun c2 => ?_)
    · replace E := xq_ep c2 E
      refine J_iconst (v := 0) dX7_hasPlan_16 (by decide) ?_
      exact J_zret hq dX7_hasPlan_17 rfl rfl wlen (Nat.le_refl _) (Nat.le_refl _) ⟨false, rfl, rfl, (fun q => absurd q (by decide)), E⟩
    · replace E := xq_en c2 E
      refine J_iconst (v := 1) dX7_hasPlan_12 (by decide) ?_
      refine J_goto (tgt := 17) dX7_hasPlan_13 (by decide) ?_
      exact J_zret hq dX7_hasPlan_17 rfl rfl wlen (Nat.le_refl _) (Nat.le_refl _) ⟨true, rfl, rfl, (fun qb => (bd_lt_hi (bd_le_lo (bd_any number) (i_nlt c1) (bd_c (v := 0) (lo := 0) (hi := 0) (by decide))) (i_nle c2) hp0)), E⟩
set_option maxRecDepth 100000 in
noncomputable def Fx_P_workX (plan : Int32) (work : Int32) (what : Int32) (u : Nat → Nat → Int32) (g : Nat → Nat → Int64) : Int32 := xq_lt (Fx_T_hasPlanX plan u g) fun t2 => if t2 = true then (if plan = 0 then (xq_lt (Fx_W_toldX work what 15 u g) fun v8 => v8) else (if plan = 1 then (xq_lt (Fx_W_toldX work what 19 u g) fun v11 => v11) else (xq_lt (Fx_W_toldX work what 23 u g) fun v14 => v14))) else (((-2) : Int32))
set_option maxHeartbeats 4000000 in
set_option maxRecDepth 100000 in
theorem c_P_workX {d : Nat} {u : Nat → Nat → Int32} {g : Nat → Nat → Int64} {ex : List MC} {plan : Int32} {work : Int32} {what : Int32} (hd : 1 ≤ d) (hp0 : Bd 0 3 (u 1 7)) (hp1 : Bd 0 12 (u 15 0)) (hp2 : Bd 0 12 (u 19 0)) (hp3 : Bd 0 12 (u 23 0)) : CT con0 d 0 0 yX10_work cX10_work 4 (some .int) [.ref 0, .int plan, .int work, .int what] (Wd u g ex) (fun r h2 => ∃ (z : Int32), r = some (.int z) ∧ h2 = Wd u g ex ∧ z = Fx_P_workX plan work what u g) := by
  refine CT_of (by decide) (Nat.le_of_ble_eq_true rfl) (fun x hq => ?_)
  show J x yX10_work cX10_work 4 (some .int) d 0 0 (Wd u g ex).length 0 [(0, .ref 0), (1, .int plan), (2, .int work), (3, .int what)] [] (Wd u g ex) 0 0
  have E : Fx_P_workX plan work what u g = Fx_P_workX plan work what u g := rfl
  refine J_aload_n (i := 0) (j := 0) dX10_work_0 rfl rfl ?_
  refine J_get (C := RX10) (T := TX10) (Z := 10) (ci := 10) (f := 0) dX10_work_1 inG10 rfl (by decide) k423 wc_0 rfl ?_
  refine J_iload_n (i := 1) (j := 1) dX10_work_4 rfl rfl ?_
  refine J_callV (As := [.int plan]) (rest := []) dX10_work_5 (c_T_hasPlanX (d := 0) (u := u) (g := g) (ex := ex) (number := plan)  (by decide) hp0) hq.n k727 k728 k729 wc_1 rfl rfl k88 k730 np_X7_hasPlan (Nat.le_trans (by decide) hd) (by decide) (Nat.le_refl _) (Nat.le_refl _) wlen rfl (Nat.le_of_ble_eq_true rfl) (fun r_ h_ p1 => ?_)
  obtain ⟨t2, rfl, rfl, h3, hx4⟩ := p1
  replace E := xq_le hx4 E
  refine J_ifB_eq (tgt := 28) dX10_work_8 (by decide) (fun c5 => ?_) (fun c5 => ?_)
  · replace E := xq_ef c5 E
    refine J_bipush (v := (-2)) dX10_work_28 (by decide) ?_
    exact J_iret hq dX10_work_30 rfl wlen (Nat.le_refl _) (Nat.le_refl _) ⟨((-2) : Int32), rfl, rfl, E⟩
  · replace E := xq_ep c5 E
    refine J_aload_n (i := 0) (j := 0) dX10_work_11 rfl rfl ?_
    refine J_get (C := RX10) (T := TX10) (Z := 10) (ci := 10) (f := 0) dX10_work_12 inG10 rfl (by decide) k423 wc_0 rfl ?_
    refine J_getN (C := RX7) (T := TX7) (Z := 8) (ci := 7) (f := 6) dX10_work_15 inG7 rfl (by decide) k199 wc_1 rfl ?_
    refine J_iload_n (i := 1) (j := 1) dX10_work_18 rfl rfl ?_
    have h6 := bd_cases3 (h3 c5)
    rcases h6 with h6_0 | h6_1 | h6_2
    · replace E := xq_ep h6_0 E
      refine J_aald (q := 15) dX10_work_19 wc_4 (fun _ => rfl) (vin (h3 c5) (by decide)) (by rw [h6_0]; rfl) ?_
      refine J_iload_n (i := 2) (j := 2) dX10_work_20 rfl rfl ?_
      refine J_iload_n (i := 3) (j := 3) dX10_work_21 rfl rfl ?_
      refine J_callV (As := [.int work, .int what]) (rest := []) dX10_work_22 (c_W_toldX (d := 0) (u := u) (g := g) (ex := ex) (number := work) (what := what) (w := 15) (by decide) (by decide) hp1) hq.n k780 k781 k782 wc_15 rfl rfl k90 k783 np_X8_told (Nat.le_trans (by decide) hd) (by decide) (Nat.le_refl _) (Nat.le_refl _) wlen rfl (Nat.le_of_ble_eq_true rfl) (fun r_ h_ p7 => ?_)
      obtain ⟨v8, rfl, rfl, hx9⟩ := p7
      replace E := xq_le hx9 E
      refine J_goto (tgt := 30) dX10_work_25 (by decide) ?_
      exact J_iret hq dX10_work_30 rfl wlen (Nat.le_refl _) (Nat.le_refl _) ⟨v8, rfl, rfl, E⟩
    · replace E := xq_en (fun z_ => absurd (z_.symm.trans h6_1) (by decide)) E
      replace E := xq_ep h6_1 E
      refine J_aald (q := 19) dX10_work_19 wc_4 (fun _ => rfl) (vin (h3 c5) (by decide)) (by rw [h6_1]; rfl) ?_
      refine J_iload_n (i := 2) (j := 2) dX10_work_20 rfl rfl ?_
      refine J_iload_n (i := 3) (j := 3) dX10_work_21 rfl rfl ?_
      refine J_callV (As := [.int work, .int what]) (rest := []) dX10_work_22 (c_W_toldX (d := 0) (u := u) (g := g) (ex := ex) (number := work) (what := what) (w := 19) (by decide) (by decide) hp2) hq.n k780 k781 k782 wc_19 rfl rfl k90 k783 np_X8_told (Nat.le_trans (by decide) hd) (by decide) (Nat.le_refl _) (Nat.le_refl _) wlen rfl (Nat.le_of_ble_eq_true rfl) (fun r_ h_ p10 => ?_)
      obtain ⟨v11, rfl, rfl, hx12⟩ := p10
      replace E := xq_le hx12 E
      refine J_goto (tgt := 30) dX10_work_25 (by decide) ?_
      exact J_iret hq dX10_work_30 rfl wlen (Nat.le_refl _) (Nat.le_refl _) ⟨v11, rfl, rfl, E⟩
    · replace E := xq_en (fun z_ => absurd (z_.symm.trans h6_2) (by decide)) E
      replace E := xq_en (fun z_ => absurd (z_.symm.trans h6_2) (by decide)) E
      refine J_aald (q := 23) dX10_work_19 wc_4 (fun _ => rfl) (vin (h3 c5) (by decide)) (by rw [h6_2]; rfl) ?_
      refine J_iload_n (i := 2) (j := 2) dX10_work_20 rfl rfl ?_
      refine J_iload_n (i := 3) (j := 3) dX10_work_21 rfl rfl ?_
      refine J_callV (As := [.int work, .int what]) (rest := []) dX10_work_22 (c_W_toldX (d := 0) (u := u) (g := g) (ex := ex) (number := work) (what := what) (w := 23) (by decide) (by decide) hp3) hq.n k780 k781 k782 wc_23 rfl rfl k90 k783 np_X8_told (Nat.le_trans (by decide) hd) (by decide) (Nat.le_refl _) (Nat.le_refl _) wlen rfl (Nat.le_of_ble_eq_true rfl) (fun r_ h_ p13 => ?_)
      obtain ⟨v14, rfl, rfl, hx15⟩ := p13
      replace E := xq_le hx15 E
      refine J_goto (tgt := 30) dX10_work_25 (by decide) ?_
      exact J_iret hq dX10_work_30 rfl wlen (Nat.le_refl _) (Nat.le_refl _) ⟨v14, rfl, rfl, E⟩
set_option maxRecDepth 100000 in
noncomputable def Fx_M_isPlanX (p : Int32) (u : Nat → Nat → Int32) (g : Nat → Nat → Int64) : Bool := xq_lt (Fx_M_inEX p (0 : Int32) ((u 167 1) - 1) u g) fun t2 => t2
set_option maxHeartbeats 4000000 in
set_option maxRecDepth 100000 in
theorem c_M_isPlanX {d : Nat} {u : Nat → Nat → Int32} {g : Nat → Nat → Int64} {ex : List MC} {p : Int32} (hd : 1 ≤ d) (hp0 : Bd 0 3 (u 167 1)) : CT con0 d 0 0 yX11_isPlan cX11_isPlan 2 (some .boolean) [.ref 162, .int p] (Wd u g ex) (fun r h2 => ∃ (z : Bool), r = some (.int (bI z)) ∧ h2 = Wd u g ex ∧ (z = true → Bd 0 2 p) ∧ z = Fx_M_isPlanX p u g) := by
  refine CT_of (by decide) (Nat.le_of_ble_eq_true rfl) (fun x hq => ?_)
  show J x yX11_isPlan cX11_isPlan 2 (some .boolean) d 0 0 (Wd u g ex).length 0 [(0, .ref 162), (1, .int p)] [] (Wd u g ex) 0 0
  have E : Fx_M_isPlanX p u g = Fx_M_isPlanX p u g := rfl
  refine J_iload_n (i := 1) (j := 1) dX11_isPlan_0 rfl rfl ?_
  refine J_iconst (v := 0) dX11_isPlan_1 (by decide) ?_
  refine J_aload_n (i := 0) (j := 0) dX11_isPlan_2 rfl rfl ?_
  refine J_get (C := RX11) (T := TX11) (Z := 43) (ci := 11) (f := 5) dX11_isPlan_3 inG11 rfl (by decide) k1269 wc_162 rfl ?_
  refine J_iconst (v := 1) dX11_isPlan_6 (by decide) ?_
  refine J_iald dX11_isPlan_7 wc_167 (vin (bd_c (v := 1) (lo := 1) (hi := 1) (by decide)) (by decide)) ?_
  refine J_ci (v := u 167 1) rfl ?_
  refine J_iconst (v := 1) dX11_isPlan_8 (by decide) ?_
  refine J_isub dX11_isPlan_9 ?_
  refine J_callS (As := [.int p, .int 0, .int ((u 167 1) - 1)]) (rest := []) dX11_isPlan_10 (c_M_inEX (d := 0) (u := u) (g := g) (ex := ex) (v := p) (low := 0) (high := ((u 167 1) - 1))  (by decide) ) hq.n k1406 k1407 k97 k1408 np_X11_in (Nat.le_trans (by decide) hd) (by decide) (Nat.le_refl _) (Nat.le_refl _) wlen rfl (Nat.le_of_ble_eq_true rfl) (fun r_ h_ p1 => ?_)
  obtain ⟨t2, rfl, rfl, h3, h4, h5, hx6⟩ := p1
  replace E := xq_le hx6 E
  exact J_zret hq dX11_isPlan_13 rfl (bI_n _) wlen (Nat.le_refl _) (Nat.le_refl _) ⟨t2, rfl, rfl, (fun qb => (bd_le_hi (bd_le_lo (bd_any p) (h3 qb) (bd_c (v := 0) (lo := 0) (hi := 0) (by decide))) (h4 qb) (bd_sub (l := (-1)) (h := 2) hp0 (bd_c (v := 1) (lo := 1) (hi := 1) (by decide)) (by decide)))), E⟩
set_option maxRecDepth 100000 in
noncomputable def Fx_M_workX (plan : Int32) (work : Int32) (what : Int32) (u : Nat → Nat → Int32) (g : Nat → Nat → Int64) : Int32 × (Nat → Nat → Int32) := xq_lt (ms u 162 0 0) fun u1 => xq_lt (Fx_M_isPlanX plan u1 g) fun t4 => if t4 = true then (xq_lt (u1 169 ((37 : Int32) * plan).toNatClampNeg) fun v8 => xq_lt (Fx_M_inEX work (0 : Int32) (v8 - 1) u1 g) fun t10 => if t10 = true then (xq_lt (Fx_M_inEX what (0 : Int32) (2 : Int32) u1 g) fun t17 => if t17 = true then (xq_lt (u1 169 (((((37 : Int32) * plan) + 1) + ((3 : Int32) * work)) + what).toNatClampNeg) fun v23 => (v23, u1)) else ((((-2) : Int32), u1))) else ((((-2) : Int32), u1))) else ((((-2) : Int32), u1))
set_option maxHeartbeats 4000000 in
set_option maxRecDepth 100000 in
theorem c_M_workX {d : Nat} {u : Nat → Nat → Int32} {g : Nat → Nat → Int64} {ex : List MC} {plan : Int32} {work : Int32} {what : Int32} (hd : 2 ≤ d) (hp0 : (MY u)) (hp1 : (PL u)) : CT con0 d 0 0 yX11_work cX11_work 4 (some .int) [.ref 162, .int plan, .int work, .int what] (Wd u g ex) (fun r h2 => ∃ (z : Int32) (u2 : Nat → Nat → Int32), r = some (.int z) ∧ h2 = Wd u2 g ex ∧ (z, u2) = Fx_M_workX plan work what u g ∧ (∀ c, c ≠ 162 → u2 c = u c) ∧ (∀ j, j ≠ 0 → u2 162 j = u 162 j)) := by
  refine CT_of (by decide) (Nat.le_of_ble_eq_true rfl) (fun x hq => ?_)
  show J x yX11_work cX11_work 4 (some .int) d 0 0 (Wd u g ex).length 0 [(0, .ref 162), (1, .int plan), (2, .int work), (3, .int what)] [] (Wd u g ex) 0 0
  have E : Fx_M_workX plan work what u g = Fx_M_workX plan work what u g := rfl
  refine J_aload_n (i := 0) (j := 0) dX11_work_0 rfl rfl ?_
  refine J_iconst (v := 0) dX11_work_1 (by decide) ?_
  obtain ⟨u1, e2⟩ : ∃ z, z = ms u 162 0 0 := ⟨_, rfl⟩
  refine J_put (C := RX11) (T := TX11) (Z := 43) (ci := 11) (f := 0) (ty0 := tyX11) dX11_work_2 inG11 rfl tyX11_ok nmX11 (by decide) k1264 rfl rfl wc_162 (Nat.le_of_ble_eq_true rfl) (fun _ _ => ⟨rfl, rfl⟩) (ws e2 wk_162 rfl) ?_
  replace E := xq_le e2 E
  refine J_aload_n (i := 0) (j := 0) dX11_work_5 rfl rfl ?_
  refine J_iload_n (i := 1) (j := 1) dX11_work_6 rfl rfl ?_
  refine J_callV (As := [.int plan]) (rest := []) dX11_work_7 (c_M_isPlanX (d := 1) (u := u1) (g := g) (ex := ex) (p := plan)  (by decide) (bd_r (congrFun (ms_c e2 (Nat.ne_of_beq_eq_false rfl)) 1) (hp0 0 (by decide)).2)) hq.n k1507 k1509 k53 wc_162 rfl rfl k97 k1510 np_X11_isPlan (Nat.le_trans (by decide) hd) (by decide) (Nat.le_refl _) (Nat.le_refl _) wlen rfl (Nat.le_of_ble_eq_true rfl) (fun r_ h_ p3 => ?_)
  obtain ⟨t4, rfl, rfl, h5, hx6⟩ := p3
  replace E := xq_le hx6 E
  refine J_ifB_eq (tgt := 61) dX11_work_10 (by decide) (fun c7 => ?_) (fun c7 => ?_)
  · replace E := xq_ef c7 E
    refine J_bipush (v := (-2)) dX11_work_61 (by decide) ?_
    exact J_iret hq dX11_work_63 rfl wlen (Nat.le_refl _) (Nat.le_refl _) ⟨((-2) : Int32), u1, rfl, rfl, E, (fun c k0_ => (ms_c e2 k0_)), (fun j k0_ => (ms_i e2 k0_))⟩
  · replace E := xq_ep c7 E
    refine J_iload_n (i := 2) (j := 2) dX11_work_13 rfl rfl ?_
    refine J_iconst (v := 0) dX11_work_14 (by decide) ?_
    refine J_aload_n (i := 0) (j := 0) dX11_work_15 rfl rfl ?_
    refine J_get (C := RX11) (T := TX11) (Z := 43) (ci := 11) (f := 7) dX11_work_16 inG11 rfl (by decide) k1271 wc_162 rfl ?_
    refine J_bipush (v := 37) dX11_work_19 (by decide) ?_
    refine J_iload_n (i := 1) (j := 1) dX11_work_21 rfl rfl ?_
    refine J_imul dX11_work_22 ?_
    refine J_iald dX11_work_23 wc_169 (vin (bd_mul (l := 0) (h := 74) (bd_c (v := 37) (lo := 37) (hi := 37) (by decide)) (h5 c7) (by decide)) (by decide)) ?_
    refine J_topi (fun v8 qv8 => ?_)
    replace E := xq_le qv8 E
    refine J_iconst (v := 1) dX11_work_24 (by decide) ?_
    refine J_isub dX11_work_25 ?_
    refine J_callS (As := [.int work, .int 0, .int (v8 - 1)]) (rest := []) dX11_work_26 (c_M_inEX (d := 0) (u := u1) (g := g) (ex := ex) (v := work) (low := 0) (high := (v8 - 1))  (by decide) ) hq.n k1406 k1407 k97 k1408 np_X11_in (Nat.le_trans (by decide) hd) (by decide) (Nat.le_refl _) (Nat.le_refl _) wlen rfl (Nat.le_of_ble_eq_true rfl) (fun r_ h_ p9 => ?_)
    obtain ⟨t10, rfl, rfl, h11, h12, h13, hx14⟩ := p9
    replace E := xq_le hx14 E
    refine J_ifB_eq (tgt := 61) dX11_work_29 (by decide) (fun c15 => ?_) (fun c15 => ?_)
    · replace E := xq_ef c15 E
      refine J_bipush (v := (-2)) dX11_work_61 (by decide) ?_
      exact J_iret hq dX11_work_63 rfl wlen (Nat.le_refl _) (Nat.le_refl _) ⟨((-2) : Int32), u1, rfl, rfl, E, (fun c k0_ => (ms_c e2 k0_)), (fun j k0_ => (ms_i e2 k0_))⟩
    · replace E := xq_ep c15 E
      refine J_iload_n (i := 3) (j := 3) dX11_work_32 rfl rfl ?_
      refine J_iconst (v := 0) dX11_work_33 (by decide) ?_
      refine J_iconst (v := 2) dX11_work_34 (by decide) ?_
      refine J_callS (As := [.int what, .int 0, .int 2]) (rest := []) dX11_work_35 (c_M_inEX (d := 0) (u := u1) (g := g) (ex := ex) (v := what) (low := 0) (high := 2)  (by decide) ) hq.n k1406 k1407 k97 k1408 np_X11_in (Nat.le_trans (by decide) hd) (by decide) (Nat.le_refl _) (Nat.le_refl _) wlen rfl (Nat.le_of_ble_eq_true rfl) (fun r_ h_ p16 => ?_)
      obtain ⟨t17, rfl, rfl, h18, h19, h20, hx21⟩ := p16
      replace E := xq_le hx21 E
      refine J_ifB_eq (tgt := 61) dX11_work_38 (by decide) (fun c22 => ?_) (fun c22 => ?_)
      · replace E := xq_ef c22 E
        refine J_bipush (v := (-2)) dX11_work_61 (by decide) ?_
        exact J_iret hq dX11_work_63 rfl wlen (Nat.le_refl _) (Nat.le_refl _) ⟨((-2) : Int32), u1, rfl, rfl, E, (fun c k0_ => (ms_c e2 k0_)), (fun j k0_ => (ms_i e2 k0_))⟩
      · replace E := xq_ep c22 E
        refine J_aload_n (i := 0) (j := 0) dX11_work_41 rfl rfl ?_
        refine J_get (C := RX11) (T := TX11) (Z := 43) (ci := 11) (f := 7) dX11_work_42 inG11 rfl (by decide) k1271 wc_162 rfl ?_
        refine J_bipush (v := 37) dX11_work_45 (by decide) ?_
        refine J_iload_n (i := 1) (j := 1) dX11_work_47 rfl rfl ?_
        refine J_imul dX11_work_48 ?_
        refine J_iconst (v := 1) dX11_work_49 (by decide) ?_
        refine J_iadd dX11_work_50 ?_
        refine J_iconst (v := 3) dX11_work_51 (by decide) ?_
        refine J_iload_n (i := 2) (j := 2) dX11_work_52 rfl rfl ?_
        refine J_imul dX11_work_53 ?_
        refine J_iadd dX11_work_54 ?_
        refine J_iload_n (i := 3) (j := 3) dX11_work_55 rfl rfl ?_
        refine J_iadd dX11_work_56 ?_
        refine J_iald dX11_work_57 wc_169 (vin (bd_add (l := 1) (h := 110) (bd_add (l := 1) (h := 108) (bd_add (l := 1) (h := 75) (bd_mul (l := 0) (h := 74) (bd_c (v := 37) (lo := 37) (hi := 37) (by decide)) (h5 c7) (by decide)) (bd_c (v := 1) (lo := 1) (hi := 1) (by decide)) (by decide)) (bd_mul (l := 0) (h := 33) (bd_c (v := 3) (lo := 3) (hi := 3) (by decide)) (bd_le_hi (bd_le_lo (bd_any work) (h11 c15) (bd_c (v := 0) (lo := 0) (hi := 0) (by decide))) (h12 c15) (bd_sub (l := (-1)) (h := 11) (pl_cnt (pl_c (ms_c e2 (Nat.ne_of_beq_eq_false rfl)) hp1) (bd_w (l := 0) (h := 11) (h5 c7) (by decide)) qv8) (bd_c (v := 1) (lo := 1) (hi := 1) (by decide)) (by decide))) (by decide)) (by decide)) (bd_le_hi (bd_le_lo (bd_any what) (h18 c22) (bd_c (v := 0) (lo := 0) (hi := 0) (by decide))) (h19 c22) (bd_c (v := 2) (lo := 2) (hi := 2) (by decide))) (by decide)) (by decide)) ?_
        refine J_topi (fun v23 qv23 => ?_)
        replace E := xq_le qv23 E
        refine J_goto (tgt := 63) dX11_work_58 (by decide) ?_
        exact J_iret hq dX11_work_63 rfl wlen (Nat.le_refl _) (Nat.le_refl _) ⟨v23, u1, rfl, rfl, E, (fun c k0_ => (ms_c e2 k0_)), (fun j k0_ => (ms_i e2 k0_))⟩
