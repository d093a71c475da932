set_option maxRecDepth 100000 in
noncomputable def Fx_H_hasRainX (rain : Int32) (t : Nat) (u : Nat → Nat → Int32) (g : Nat → Nat → Int64) : Bool := if rain < (0 : Int32) then (false) else (if (u t 2) ≤ rain then (false) else (true))
set_option maxHeartbeats 4000000 in
set_option maxRecDepth 100000 in
theorem c_H_hasRainX {d : Nat} {u : Nat → Nat → Int32} {g : Nat → Nat → Int64} {ex : List MC} {rain : Int32} {t : Nat} (hd : 0 ≤ d) (hs_t : t ∈ hl) (hp0 : Bd 0 9 (u t 0)) (hp1 : Bd 0 4 (u t 2)) : CT con0 d 0 0 yX1_hasRain cX1_hasRain 2 (some .boolean) [.ref t, .int rain] (Wd u g ex) (fun r h2 => ∃ (z : Bool), r = some (.int (bI z)) ∧ h2 = Wd u g ex ∧ (z = true → Bd 0 3 rain) ∧ z = Fx_H_hasRainX rain t u g) := by
  refine CT_of (by decide) (Nat.le_of_ble_eq_true rfl) (fun x hq => ?_)
  show J x yX1_hasRain cX1_hasRain 2 (some .boolean) d 0 0 (Wd u g ex).length 0 [(0, .ref t), (1, .int rain)] [] (Wd u g ex) 0 0
  have E : Fx_H_hasRainX rain t u g = Fx_H_hasRainX rain t u g := rfl
  refine J_iload_n (i := 1) (j := 1) dX1_hasRain_0 rfl rfl ?_
  refine J_if_lt (tgt := 16) dX1_hasRain_1 (by decide) (fun c1 => ?_) (fun c1 => ?_)
  · replace E := xq_ep c1 E
    refine J_iconst (v := 0) dX1_hasRain_16 (by decide) ?_
    exact J_zret hq dX1_hasRain_17 rfl rfl wlen (Nat.le_refl _) (Nat.le_refl _) ⟨false, rfl, rfl, (fun q => absurd q (by decide)), E⟩
  · replace E := xq_en c1 E
    refine J_iload_n (i := 1) (j := 1) dX1_hasRain_4 rfl rfl ?_
    refine J_aload_n (i := 0) (j := 0) dX1_hasRain_5 rfl rfl ?_
    refine J_get (C := RX1) (T := TX1) (Z := 6) (ci := 1) (f := 2) dX1_hasRain_6 inG1 rfl (by decide) k138 (zh0c hs_t) rfl ?_
    refine J_icmp_ge (tgt := 16) dX1_hasRain_9 (by decide) (fun c2 => ?_) (fun c2 => ?_)
    · replace E := xq_ep c2 E
      refine J_iconst (v := 0) dX1_hasRain_16 (by decide) ?_
      exact J_zret hq dX1_hasRain_17 rfl rfl wlen (Nat.le_refl _) (Nat.le_refl _) ⟨false, rfl, rfl, (fun q => absurd q (by decide)), E⟩
    · replace E := xq_en c2 E
      refine J_iconst (v := 1) dX1_hasRain_12 (by decide) ?_
      refine J_goto (tgt := 17) dX1_hasRain_13 (by decide) ?_
      exact J_zret hq dX1_hasRain_17 rfl rfl wlen (Nat.le_refl _) (Nat.le_refl _) ⟨true, rfl, rfl, (fun qb => (bd_lt_hi (bd_le_lo (bd_any rain) (i_nlt c1) (bd_c (v := 0) (lo := 0) (hi := 0) (by decide))) (i_nle c2) hp1)), E⟩
set_option maxRecDepth 100000 in
noncomputable def Fx_H_stepsOfX (rain : Int32) (t : Nat) (u : Nat → Nat → Int32) (g : Nat → Nat → Int64) : Int32 := if rain < (0 : Int32) then ((0 : Int32)) else (if (u t 2) ≤ rain then ((0 : Int32)) else (xq_lt (u (t + 2) rain.toNatClampNeg) fun v3 => v3))
set_option maxHeartbeats 4000000 in
set_option maxRecDepth 100000 in
theorem c_H_stepsOfX {d : Nat} {u : Nat → Nat → Int32} {g : Nat → Nat → Int64} {ex : List MC} {rain : Int32} {t : Nat} (hd : 0 ≤ d) (hs_t : t ∈ hl) (hp0 : Bd 0 9 (u t 0)) (hp1 : Bd 0 4 (u t 2)) : CT con0 d 0 0 yX1_stepsOf cX1_stepsOf 2 (some .int) [.ref t, .int rain] (Wd u g ex) (fun r h2 => ∃ (z : Int32), r = some (.int z) ∧ h2 = Wd u g ex ∧ z = Fx_H_stepsOfX rain t u g) := by
  refine CT_of (by decide) (Nat.le_of_ble_eq_true rfl) (fun x hq => ?_)
  show J x yX1_stepsOf cX1_stepsOf 2 (some .int) d 0 0 (Wd u g ex).length 0 [(0, .ref t), (1, .int rain)] [] (Wd u g ex) 0 0
  have E : Fx_H_stepsOfX rain t u g = Fx_H_stepsOfX rain t u g := rfl
  refine J_iload_n (i := 1) (j := 1) dX1_stepsOf_0 rfl rfl ?_
  refine J_if_lt (tgt := 21) dX1_stepsOf_1 (by decide) (fun c1 => ?_) (fun c1 => ?_)
  · replace E := xq_ep c1 E
    refine J_iconst (v := 0) dX1_stepsOf_21 (by decide) ?_
    exact J_iret hq dX1_stepsOf_22 rfl wlen (Nat.le_refl _) (Nat.le_refl _) ⟨(0 : Int32), rfl, rfl, E⟩
  · replace E := xq_en c1 E
    refine J_iload_n (i := 1) (j := 1) dX1_stepsOf_4 rfl rfl ?_
    refine J_aload_n (i := 0) (j := 0) dX1_stepsOf_5 rfl rfl ?_
    refine J_get (C := RX1) (T := TX1) (Z := 6) (ci := 1) (f := 2) dX1_stepsOf_6 inG1 rfl (by decide) k138 (zh0c hs_t) rfl ?_
    refine J_icmp_ge (tgt := 21) dX1_stepsOf_9 (by decide) (fun c2 => ?_) (fun c2 => ?_)
    · replace E := xq_ep c2 E
      refine J_iconst (v := 0) dX1_stepsOf_21 (by decide) ?_
      exact J_iret hq dX1_stepsOf_22 rfl wlen (Nat.le_refl _) (Nat.le_refl _) ⟨(0 : Int32), rfl, rfl, E⟩
    · replace E := xq_en c2 E
      refine J_aload_n (i := 0) (j := 0) dX1_stepsOf_12 rfl rfl ?_
      refine J_get (C := RX1) (T := TX1) (Z := 6) (ci := 1) (f := 3) dX1_stepsOf_13 inG1 rfl (by decide) k143 (zh0c hs_t) rfl ?_
      refine J_iload_n (i := 1) (j := 1) dX1_stepsOf_16 rfl rfl ?_
      refine J_iald dX1_stepsOf_17 (zh2c hs_t) (vin (bd_lt_hi (bd_le_lo (bd_any rain) (i_nlt c1) (bd_c (v := 0) (lo := 0) (hi := 0) (by decide))) (i_nle c2) hp1) (by decide)) ?_
      refine J_topi (fun v3 qv3 => ?_)
      replace E := xq_le qv3 E
      refine J_goto (tgt := 22) dX1_stepsOf_18 (by decide) ?_
      exact J_iret hq dX1_stepsOf_22 rfl wlen (Nat.le_refl _) (Nat.le_refl _) ⟨v3, rfl, rfl, E⟩
set_option maxRecDepth 100000 in
noncomputable def Fx_H_toldX (what : Int32) (t : Nat) (u : Nat → Nat → Int32) (g : Nat → Nat → Int64) : Int32 := if what = (0 : Int32) then ((u t 0)) else (if what = (1 : Int32) then ((u t 2)) else (if what < (2 : Int32) then (if what < (10 : Int32) then (if what < (20 : Int32) then (((-1) : Int32)) else (default)) else (default)) else (if (4 : Int32) < what then (if what < (10 : Int32) then (if what < (20 : Int32) then (((-1) : Int32)) else (default)) else (xq_lt (Fx_H_hasRainX (what - 10) t u g) fun t10 => if t10 = true then (xq_lt (Fx_H_stepsOfX (what - 10) t u g) fun v24 => v24) else (if what < (20 : Int32) then (((-1) : Int32)) else (xq_lt (Fx_H_hasRainX (what - 20) t u g) fun t16 => if t16 = true then (xq_lt (Fx_H_chanceOfX (what - 20) t u g) fun v21 => v21) else (((-1) : Int32)))))) else (xq_lt (u (t + 4) (what - 2).toNatClampNeg) fun v26 => v26))))
set_option maxHeartbeats 4000000 in
set_option maxRecDepth 100000 in
theorem c_H_toldX {d : Nat} {u : Nat → Nat → Int32} {g : Nat → Nat → Int64} {ex : List MC} {what : Int32} {t : Nat} (hd : 1 ≤ d) (hs_t : t ∈ hl) (hp0 : Bd 0 9 (u t 0)) (hp1 : Bd 0 4 (u t 2)) : CT con0 d 0 0 yX1_told cX1_told 2 (some .int) [.ref t, .int what] (Wd u g ex) (fun r h2 => ∃ (z : Int32), r = some (.int z) ∧ h2 = Wd u g ex ∧ z = Fx_H_toldX what t u g) := by
  refine CT_of (by decide) (Nat.le_of_ble_eq_true rfl) (fun x hq => ?_)
  show J x yX1_told cX1_told 2 (some .int) d 0 0 (Wd u g ex).length 0 [(0, .ref t), (1, .int what)] [] (Wd u g ex) 0 0
  have E : Fx_H_toldX what t u g = Fx_H_toldX what t u g := rfl
  refine J_iload_n (i := 1) (j := 1) dX1_told_0 rfl rfl ?_
  refine J_if_ne (tgt := 9) dX1_told_1 (by decide) (fun c1 => ?_) (fun c1 => ?_)
  · replace E := xq_en c1 E
    refine J_iload_n (i := 1) (j := 1) dX1_told_9 rfl rfl ?_
    refine J_iconst (v := 1) dX1_told_10 (by decide) ?_
    refine J_icmp_ne (tgt := 19) dX1_told_11 (by decide) (fun c2 => ?_) (fun c2 => ?_)
    · replace E := xq_en c2 E
      refine J_iload_n (i := 1) (j := 1) dX1_told_19 rfl rfl ?_
      refine J_iconst (v := 2) dX1_told_20 (by decide) ?_
      refine J_icmp_lt (tgt := 38) dX1_told_21 (by decide) (fun c3 => ?_) (fun c3 => ?_)
      · replace E := xq_ep c3 E
        refine J_iload_n (i := 1) (j := 1) dX1_told_38 rfl rfl ?_
        refine J_bipush (v := 10) dX1_told_39 (by decide) ?_
        refine J_icmp_lt (tgt := 64) dX1_told_41 (by decide) (fun c4 => ?_) (fun c4 => ?_)
        · replace E := xq_ep c4 E
          refine J_iload_n (i := 1) (j := 1) dX1_told_64 rfl rfl ?_
          refine J_bipush (v := 20) dX1_told_65 (by decide) ?_
          refine J_icmp_lt (tgt := 92) dX1_told_67 (by decide) (fun c5 => ?_) (fun c5 => ?_)
          · replace E := xq_ep c5 E
            refine J_iconst (v := (-1)) dX1_told_92 (by decide) ?_
            exact J_iret hq dX1_told_93 rfl wlen (Nat.le_refl _) (Nat.le_refl _) ⟨((-1) : Int32), rfl, rfl, E⟩
          · exact (bd_no (bd_le_lo (bd_lt_hi (bd_any what) c3 (bd_c (v := 2) (lo := 2) (hi := 2) (by decide))) (i_nlt c5) (bd_c (v := 20) (lo := 20) (hi := 20) (by decide))) (by decide)).elim
        · exact (bd_no (bd_le_lo (bd_lt_hi (bd_any what) c3 (bd_c (v := 2) (lo := 2) (hi := 2) (by decide))) (i_nlt c4) (bd_c (v := 10) (lo := 10) (hi := 10) (by decide))) (by decide)).elim
      · replace E := xq_en c3 E
        refine J_iload_n (i := 1) (j := 1) dX1_told_24 rfl rfl ?_
        refine J_iconst (v := 4) dX1_told_25 (by decide) ?_
        refine J_icmp_gt (tgt := 38) dX1_told_26 (by decide) (fun c6 => ?_) (fun c6 => ?_)
        · replace E := xq_ep c6 E
          refine J_iload_n (i := 1) (j := 1) dX1_told_38 rfl rfl ?_
          refine J_bipush (v := 10) dX1_told_39 (by decide) ?_
          refine J_icmp_lt (tgt := 64) dX1_told_41 (by decide) (fun c7 => ?_) (fun c7 => ?_)
          · replace E := xq_ep c7 E
            refine J_iload_n (i := 1) (j := 1) dX1_told_64 rfl rfl ?_
            refine J_bipush (v := 20) dX1_told_65 (by decide) ?_
            refine J_icmp_lt (tgt := 92) dX1_told_67 (by decide) (fun c8 => ?_) (fun c8 => ?_)
            · replace E := xq_ep c8 E
              refine J_iconst (v := (-1)) dX1_told_92 (by decide) ?_
              exact J_iret hq dX1_told_93 rfl wlen (Nat.le_refl _) (Nat.le_refl _) ⟨((-1) : Int32), rfl, rfl, E⟩
            · exact (bd_no (bd_le_lo (bd_lt_hi (bd_lt_lo (bd_le_lo (bd_any what) (i_nlt c3) (bd_c (v := 2) (lo := 2) (hi := 2) (by decide))) c6 (bd_c (v := 4) (lo := 4) (hi := 4) (by decide))) c7 (bd_c (v := 10) (lo := 10) (hi := 10) (by decide))) (i_nlt c8) (bd_c (v := 20) (lo := 20) (hi := 20) (by decide))) (by decide)).elim
          · replace E := xq_en c7 E
            refine J_aload_n (i := 0) (j := 0) dX1_told_44 rfl rfl ?_
            refine J_iload_n (i := 1) (j := 1) dX1_told_45 rfl rfl ?_
            refine J_bipush (v := 10) dX1_told_46 (by decide) ?_
            refine J_isub dX1_told_48 ?_
            refine J_callV (As := [.int (what - 10)]) (rest := []) dX1_told_49 (c_H_hasRainX (d := 0) (u := u) (g := g) (ex := ex) (rain := (what - 10)) (t := t) (by decide) hs_t hp0 hp1) hq.n k711 k712 k713 (zh0c hs_t) rfl rfl k89 k714 np_X1_hasRain (Nat.le_trans (by decide) hd) (by decide) (Nat.le_refl _) (Nat.le_refl _) wlen rfl (Nat.le_of_ble_eq_true rfl) (fun r_ h_ p9 => ?_)
            obtain ⟨t10, rfl, rfl, h11, hx12⟩ := p9
            replace E := xq_le hx12 E
            refine J_ifB_eq (tgt := 64) dX1_told_52 (by decide) (fun c13 => ?_) (fun c13 => ?_)
            · replace E := xq_ef c13 E
              refine J_iload_n (i := 1) (j := 1) dX1_told_64 rfl rfl ?_
              refine J_bipush (v := 20) dX1_told_65 (by decide) ?_
              refine J_icmp_lt (tgt := 92) dX1_told_67 (by decide) (fun c14 => ?_) (fun c14 => ?_)
              · replace E := xq_ep c14 E
                refine J_iconst (v := (-1)) dX1_told_92 (by decide) ?_
                exact J_iret hq dX1_told_93 rfl wlen (Nat.le_refl _) (Nat.le_refl _) ⟨((-1) : Int32), rfl, rfl, E⟩
              · replace E := xq_en c14 E
                refine J_aload_n (i := 0) (j := 0) dX1_told_70 rfl rfl ?_
                refine J_iload_n (i := 1) (j := 1) dX1_told_71 rfl rfl ?_
                refine J_bipush (v := 20) dX1_told_72 (by decide) ?_
                refine J_isub dX1_told_74 ?_
                refine J_callV (As := [.int (what - 20)]) (rest := []) dX1_told_75 (c_H_hasRainX (d := 0) (u := u) (g := g) (ex := ex) (rain := (what - 20)) (t := t) (by decide) hs_t hp0 hp1) hq.n k711 k712 k713 (zh0c hs_t) rfl rfl k89 k714 np_X1_hasRain (Nat.le_trans (by decide) hd) (by decide) (Nat.le_refl _) (Nat.le_refl _) wlen rfl (Nat.le_of_ble_eq_true rfl) (fun r_ h_ p15 => ?_)
                obtain ⟨t16, rfl, rfl, h17, hx18⟩ := p15
                replace E := xq_le hx18 E
                refine J_ifB_eq (tgt := 92) dX1_told_78 (by decide) (fun c19 => ?_) (fun c19 => ?_)
                · replace E := xq_ef c19 E
                  refine J_iconst (v := (-1)) dX1_told_92 (by decide) ?_
                  exact J_iret hq dX1_told_93 rfl wlen (Nat.le_refl _) (Nat.le_refl _) ⟨((-1) : Int32), rfl, rfl, E⟩
                · replace E := xq_ep c19 E
                  refine J_aload_n (i := 0) (j := 0) dX1_told_81 rfl rfl ?_
                  refine J_iload_n (i := 1) (j := 1) dX1_told_82 rfl rfl ?_
                  refine J_bipush (v := 20) dX1_told_83 (by decide) ?_
                  refine J_isub dX1_told_85 ?_
                  refine J_callV (As := [.int (what - 20)]) (rest := []) dX1_told_86 (c_H_chanceOfX (d := 0) (u := u) (g := g) (ex := ex) (rain := (what - 20)) (t := t) (by decide) hs_t hp0 hp1) hq.n k672 k673 k674 (zh0c hs_t) rfl rfl k89 k675 np_X1_chanceOf (Nat.le_trans (by decide) hd) (by decide) (Nat.le_refl _) (Nat.le_refl _) wlen rfl (Nat.le_of_ble_eq_true rfl) (fun r_ h_ p20 => ?_)
                  obtain ⟨v21, rfl, rfl, hx22⟩ := p20
                  replace E := xq_le hx22 E
                  refine J_goto (tgt := 93) dX1_told_89 (by decide) ?_
                  exact J_iret hq dX1_told_93 rfl wlen (Nat.le_refl _) (Nat.le_refl _) ⟨v21, rfl, rfl, E⟩
            · replace E := xq_ep c13 E
              refine J_aload_n (i := 0) (j := 0) dX1_told_55 rfl rfl ?_
              refine J_iload_n (i := 1) (j := 1) dX1_told_56 rfl rfl ?_
              refine J_bipush (v := 10) dX1_told_57 (by decide) ?_
              refine J_isub dX1_told_59 ?_
              refine J_callV (As := [.int (what - 10)]) (rest := []) dX1_told_60 (c_H_stepsOfX (d := 0) (u := u) (g := g) (ex := ex) (rain := (what - 10)) (t := t) (by decide) hs_t hp0 hp1) hq.n k715 k716 k717 (zh0c hs_t) rfl rfl k89 k718 np_X1_stepsOf (Nat.le_trans (by decide) hd) (by decide) (Nat.le_refl _) (Nat.le_refl _) wlen rfl (Nat.le_of_ble_eq_true rfl) (fun r_ h_ p23 => ?_)
              obtain ⟨v24, rfl, rfl, hx25⟩ := p23
              replace E := xq_le hx25 E
              exact J_iret hq dX1_told_63 rfl wlen (Nat.le_refl _) (Nat.le_refl _) ⟨v24, rfl, rfl, E⟩
        · replace E := xq_en c6 E
          refine J_aload_n (i := 0) (j := 0) dX1_told_29 rfl rfl ?_
          refine J_get (C := RX1) (T := TX1) (Z := 6) (ci := 1) (f := 5) dX1_told_30 inG1 rfl (by decide) k145 (zh0c hs_t) rfl ?_
          refine J_iload_n (i := 1) (j := 1) dX1_told_33 rfl rfl ?_
          refine J_iconst (v := 2) dX1_told_34 (by decide) ?_
          refine J_isub dX1_told_35 ?_
          refine J_iald dX1_told_36 (zh4c hs_t) (vin (bd_sub (l := 0) (h := 2) (bd_le_hi (bd_le_lo (bd_any what) (i_nlt c3) (bd_c (v := 2) (lo := 2) (hi := 2) (by decide))) (i_nlt c6) (bd_c (v := 4) (lo := 4) (hi := 4) (by decide))) (bd_c (v := 2) (lo := 2) (hi := 2) (by decide)) (by decide)) (by decide)) ?_
          refine J_topi (fun v26 qv26 => ?_)
          replace E := xq_le qv26 E
          exact J_iret hq dX1_told_37 rfl wlen (Nat.le_refl _) (Nat.le_refl _) ⟨v26, rfl, rfl, E⟩
    · replace E := xq_ep c2 E
      refine J_aload_n (i := 0) (j := 0) dX1_told_14 rfl rfl ?_
      refine J_get (C := RX1) (T := TX1) (Z := 6) (ci := 1) (f := 2) dX1_told_15 inG1 rfl (by decide) k138 (zh0c hs_t) rfl ?_
      exact J_iret hq dX1_told_18 rfl wlen (Nat.le_refl _) (Nat.le_refl _) ⟨(u t 2), rfl, rfl, E⟩
  · replace E := xq_ep c1 E
    refine J_aload_n (i := 0) (j := 0) dX1_told_4 rfl rfl ?_
    refine J_get (C := RX1) (T := TX1) (Z := 6) (ci := 1) (f := 0) dX1_told_5 inG1 rfl (by decide) k130 (zh0c hs_t) rfl ?_
    exact J_iret hq dX1_told_8 rfl wlen (Nat.le_refl _) (Nat.le_refl _) ⟨(u t 0), rfl, rfl, E⟩
set_option maxRecDepth 100000 in
noncomputable def Fx_T_hasHillX (number : Int32) (u : Nat → Nat → Int32) (g : Nat → Nat → Int64) : Bool := if number < (0 : Int32) then (false) else (if (u 1 5) ≤ number then (false) else (true))
set_option maxHeartbeats 4000000 in
set_option maxRecDepth 100000 in
theorem c_T_hasHillX {d : Nat} {u : Nat → Nat → Int32} {g : Nat → Nat → Int64} {ex : List MC} {number : Int32} (hd : 0 ≤ d) (hp0 : Bd 0 2 (u 1 5)) : CT con0 d 0 0 yX7_hasHill cX7_hasHill 2 (some .boolean) [.ref 1, .int number] (Wd u g ex) (fun r h2 => ∃ (z : Bool), r = some (.int (bI z)) ∧ h2 = Wd u g ex ∧ (z = true → Bd 0 1 number) ∧ z = Fx_T_hasHillX number u g) := by
  refine CT_of (by decide) (Nat.le_of_ble_eq_true rfl) (fun x hq => ?_)
  show J x yX7_hasHill cX7_hasHill 2 (some .boolean) d 0 0 (Wd u g ex).length 0 [(0, .ref 1), (1, .int number)] [] (Wd u g ex) 0 0
  have E : Fx_T_hasHillX number u g = Fx_T_hasHillX number u g := rfl
  refine J_iload_n (i := 1) (j := 1) dX7_hasHill_0 rfl rfl ?_
  refine J_if_lt (tgt := 16) dX7_hasHill_1 (by decide) (fun c1 => ?_) (fun c1 => ?_)
  · replace E := xq_ep c1 E
    refine J_iconst (v := 0) dX7_hasHill_16 (by decide) ?_
    exact J_zret hq dX7_hasHill_17 rfl rfl wlen (Nat.le_refl _) (Nat.le_refl _) ⟨false, rfl, rfl, (fun q => absurd q (by decide)), E⟩
  · replace E := xq_en c1 E
    refine J_iload_n (i := 1) (j := 1) dX7_hasHill_4 rfl rfl ?_
    refine J_aload_n (i := 0) (j := 0) dX7_hasHill_5 rfl rfl ?_
    refine J_get (C := RX7) (T := TX7) (Z := 8) (ci := 7) (f := 5) dX7_hasHill_6 inG7 rfl (by decide) k196 wc_1 rfl ?_
    refine J_icmp_ge (tgt := 16) dX7_hasHill_9 (by decide) (fun c2 => ?_) (fun c2 => ?_)
    · replace E := xq_ep c2 E
      refine J_iconst (v := 0) dX7_hasHill_16 (by decide) ?_
      exact J_zret hq dX7_hasHill_17 rfl rfl wlen (Nat.le_refl _) (Nat.le_refl _) ⟨false, rfl, rfl, (fun q => absurd q (by decide)), E⟩
    · replace E := xq_en c2 E
      refine J_iconst (v := 1) dX7_hasHill_12 (by decide) ?_
      refine J_goto (tgt := 17) dX7_hasHill_13 (by decide) ?_
      exact J_zret hq dX7_hasHill_17 rfl rfl wlen (Nat.le_refl _) (Nat.le_refl _) ⟨true, rfl, rfl, (fun qb => (bd_lt_hi (bd_le_lo (bd_any number) (i_nlt c1) (bd_c (v := 0) (lo := 0) (hi := 0) (by decide))) (i_nle c2) hp0)), E⟩
set_option maxRecDepth 100000 in
noncomputable def Fx_P_hillX (hill : Int32) (what : Int32) (u : Nat → Nat → Int32) (g : Nat → Nat → Int64) : Int32 := xq_lt (Fx_T_hasHillX hill u g) fun t2 => if t2 = true then (if hill = 0 then (xq_lt (Fx_H_toldX what 5 u g) fun v8 => v8) else (xq_lt (Fx_H_toldX what 10 u g) fun v11 => v11)) else (((-1) : Int32))
set_option maxHeartbeats 4000000 in
set_option maxRecDepth 100000 in
theorem c_P_hillX {d : Nat} {u : Nat → Nat → Int32} {g : Nat → Nat → Int64} {ex : List MC} {hill : Int32} {what : Int32} (hd : 2 ≤ d) (hp0 : Bd 0 2 (u 1 5)) (hp1 : Bd 0 9 (u 5 0)) (hp2 : Bd 0 4 (u 5 2)) (hp3 : Bd 0 9 (u 10 0)) (hp4 : Bd 0 4 (u 10 2)) : CT con0 d 0 0 yX10_hill cX10_hill 3 (some .int) [.ref 0, .int hill, .int what] (Wd u g ex) (fun r h2 => ∃ (z : Int32), r = some (.int z) ∧ h2 = Wd u g ex ∧ z = Fx_P_hillX hill what u g) := by
  refine CT_of (by decide) (Nat.le_of_ble_eq_true rfl) (fun x hq => ?_)
  show J x yX10_hill cX10_hill 3 (some .int) d 0 0 (Wd u g ex).length 0 [(0, .ref 0), (1, .int hill), (2, .int what)] [] (Wd u g ex) 0 0
  have E : Fx_P_hillX hill what u g = Fx_P_hillX hill what u g := rfl
  refine J_aload_n (i := 0) (j := 0) dX10_hill_0 rfl rfl ?_
  refine J_get (C := RX10) (T := TX10) (Z := 10) (ci := 10) (f := 0) dX10_hill_1 inG10 rfl (by decide) k423 wc_0 rfl ?_
  refine J_iload_n (i := 1) (j := 1) dX10_hill_4 rfl rfl ?_
  refine J_callV (As := [.int hill]) (rest := []) dX10_hill_5 (c_T_hasHillX (d := 0) (u := u) (g := g) (ex := ex) (number := hill)  (by decide) hp0) hq.n k703 k704 k705 wc_1 rfl rfl k88 k706 np_X7_hasHill (Nat.le_trans (by decide) hd) (by decide) (Nat.le_refl _) (Nat.le_refl _) wlen rfl (Nat.le_of_ble_eq_true rfl) (fun r_ h_ p1 => ?_)
  obtain ⟨t2, rfl, rfl, h3, hx4⟩ := p1
  replace E := xq_le hx4 E
  refine J_ifB_eq (tgt := 27) dX10_hill_8 (by decide) (fun c5 => ?_) (fun c5 => ?_)
  · replace E := xq_ef c5 E
    refine J_iconst (v := (-1)) dX10_hill_27 (by decide) ?_
    exact J_iret hq dX10_hill_28 rfl wlen (Nat.le_refl _) (Nat.le_refl _) ⟨((-1) : Int32), rfl, rfl, E⟩
  · replace E := xq_ep c5 E
    refine J_aload_n (i := 0) (j := 0) dX10_hill_11 rfl rfl ?_
    refine J_get (C := RX10) (T := TX10) (Z := 10) (ci := 10) (f := 0) dX10_hill_12 inG10 rfl (by decide) k423 wc_0 rfl ?_
    refine J_getN (C := RX7) (T := TX7) (Z := 8) (ci := 7) (f := 4) dX10_hill_15 inG7 rfl (by decide) k195 wc_1 rfl ?_
    refine J_iload_n (i := 1) (j := 1) dX10_hill_18 rfl rfl ?_
    have h6 := bd_cases2 (h3 c5)
    rcases h6 with h6_0 | h6_1
    · replace E := xq_ep h6_0 E
      refine J_aald (q := 5) dX10_hill_19 wc_3 (fun _ => rfl) (vin (h3 c5) (by decide)) (by rw [h6_0]; rfl) ?_
      refine J_iload_n (i := 2) (j := 2) dX10_hill_20 rfl rfl ?_
      refine J_callV (As := [.int what]) (rest := []) dX10_hill_21 (c_H_toldX (d := 1) (u := u) (g := g) (ex := ex) (what := what) (t := 5) (by decide) (by decide) hp1 hp2) hq.n k707 k708 k709 wc_5 rfl rfl k89 k710 np_X1_told (Nat.le_trans (by decide) hd) (by decide) (Nat.le_refl _) (Nat.le_refl _) wlen rfl (Nat.le_of_ble_eq_true rfl) (fun r_ h_ p7 => ?_)
      obtain ⟨v8, rfl, rfl, hx9⟩ := p7
      replace E := xq_le hx9 E
      refine J_goto (tgt := 28) dX10_hill_24 (by decide) ?_
      exact J_iret hq dX10_hill_28 rfl wlen (Nat.le_refl _) (Nat.le_refl _) ⟨v8, rfl, rfl, E⟩
    · replace E := xq_en (fun z_ => absurd (z_.symm.trans h6_1) (by decide)) E
      refine J_aald (q := 10) dX10_hill_19 wc_3 (fun _ => rfl) (vin (h3 c5) (by decide)) (by rw [h6_1]; rfl) ?_
      refine J_iload_n (i := 2) (j := 2) dX10_hill_20 rfl rfl ?_
      refine J_callV (As := [.int what]) (rest := []) dX10_hill_21 (c_H_toldX (d := 1) (u := u) (g := g) (ex := ex) (what := what) (t := 10) (by decide) (by decide) hp3 hp4) hq.n k707 k708 k709 wc_10 rfl rfl k89 k710 np_X1_told (Nat.le_trans (by decide) hd) (by decide) (Nat.le_refl _) (Nat.le_refl _) wlen rfl (Nat.le_of_ble_eq_true rfl) (fun r_ h_ p10 => ?_)
      obtain ⟨v11, rfl, rfl, hx12⟩ := p10
      replace E := xq_le hx12 E
      refine J_goto (tgt := 28) dX10_hill_24 (by decide) ?_
      exact J_iret hq dX10_hill_28 rfl wlen (Nat.le_refl _) (Nat.le_refl _) ⟨v11, rfl, rfl, E⟩
set_option maxRecDepth 100000 in
noncomputable def Fx_M_isHillX (h : Int32) (u : Nat → Nat → Int32) (g : Nat → Nat → Int64) : Bool := xq_lt (Fx_M_inEX h (0 : Int32) ((u 167 0) - 1) u g) fun t2 => t2
set_option maxHeartbeats 4000000 in
set_option maxRecDepth 100000 in
theorem c_M_isHillX {d : Nat} {u : Nat → Nat → Int32} {g : Nat → Nat → Int64} {ex : List MC} {h : Int32} (hd : 1 ≤ d) (hp0 : Bd 0 2 (u 167 0)) : CT con0 d 0 0 yX11_isHill cX11_isHill 2 (some .boolean) [.ref 162, .int h] (Wd u g ex) (fun r h2 => ∃ (z : Bool), r = some (.int (bI z)) ∧ h2 = Wd u g ex ∧ (z = true → Bd 0 1 h) ∧ (z = true → h.toInt < (u 167 0).toInt) ∧ z = Fx_M_isHillX h u g) := by
  refine CT_of (by decide) (Nat.le_of_ble_eq_true rfl) (fun x hq => ?_)
  show J x yX11_isHill cX11_isHill 2 (some .boolean) d 0 0 (Wd u g ex).length 0 [(0, .ref 162), (1, .int h)] [] (Wd u g ex) 0 0
  have E : Fx_M_isHillX h u g = Fx_M_isHillX h u g := rfl
  refine J_iload_n (i := 1) (j := 1) dX11_isHill_0 rfl rfl ?_
  refine J_iconst (v := 0) dX11_isHill_1 (by decide) ?_
  refine J_aload_n (i := 0) (j := 0) dX11_isHill_2 rfl rfl ?_
  refine J_get (C := RX11) (T := TX11) (Z := 43) (ci := 11) (f := 5) dX11_isHill_3 inG11 rfl (by decide) k1269 wc_162 rfl ?_
  refine J_iconst (v := 0) dX11_isHill_6 (by decide) ?_
  refine J_iald dX11_isHill_7 wc_167 (vin (bd_c (v := 0) (lo := 0) (hi := 0) (by decide)) (by decide)) ?_
  refine J_ci (v := u 167 0) rfl ?_
  refine J_iconst (v := 1) dX11_isHill_8 (by decide) ?_
  refine J_isub dX11_isHill_9 ?_
  refine J_callS (As := [.int h, .int 0, .int ((u 167 0) - 1)]) (rest := []) dX11_isHill_10 (c_M_inEX (d := 0) (u := u) (g := g) (ex := ex) (v := h) (low := 0) (high := ((u 167 0) - 1))  (by decide) ) hq.n k1406 k1407 k97 k1408 np_X11_in (Nat.le_trans (by decide) hd) (by decide) (Nat.le_refl _) (Nat.le_refl _) wlen rfl (Nat.le_of_ble_eq_true rfl) (fun r_ h_ p1 => ?_)
  obtain ⟨t2, rfl, rfl, h3, h4, h5, hx6⟩ := p1
  replace E := xq_le hx6 E
  exact J_zret hq dX11_isHill_13 rfl (bI_n _) wlen (Nat.le_refl _) (Nat.le_refl _) ⟨t2, rfl, rfl, (fun qb => (bd_le_hi (bd_le_lo (bd_any h) (h3 qb) (bd_c (v := 0) (lo := 0) (hi := 0) (by decide))) (h4 qb) (bd_sub (l := (-1)) (h := 1) hp0 (bd_c (v := 1) (lo := 1) (hi := 1) (by decide)) (by decide)))), (fun qb => (le_pred_lt (h4 qb) hp0)), E⟩
set_option maxRecDepth 100000 in
noncomputable def Fx_M_hillX (hill : Int32) (what : Int32) (u : Nat → Nat → Int32) (g : Nat → Nat → Int64) : Int32 × (Nat → Nat → Int32) := xq_lt (ms u 162 0 0) fun u1 => xq_lt (Fx_M_isHillX hill u1 g) fun t4 => if t4 = true then (xq_lt (u1 168 (((157 : Int32) * hill) + 1).toNatClampNeg) fun v9 => xq_lt (Fx_M_inEX what (0 : Int32) (4 : Int32) u1 g) fun t11 => if t11 = true then (xq_lt (u1 168 (((157 : Int32) * hill) + what).toNatClampNeg) fun v33 => (v33, u1)) else (xq_lt (Fx_M_inEX what (10 : Int32) ((9 : Int32) + v9) u1 g) fun t18 => if t18 = true then (xq_lt (u1 168 ((((157 : Int32) * hill) + 5) + ((2 : Int32) * (what - 10))).toNatClampNeg) fun v32 => (v32, u1)) else (xq_lt (Fx_M_inEX what (20 : Int32) ((19 : Int32) + v9) u1 g) fun t25 => if t25 = true then (xq_lt (u1 168 (((((157 : Int32) * hill) + 5) + ((2 : Int32) * (what - 20))) + 1).toNatClampNeg) fun v31 => (v31, u1)) else ((((-1) : Int32), u1))))) else ((((-1) : Int32), u1))
set_option maxHeartbeats 4000000 in
set_option maxRecDepth 100000 in
theorem c_M_hillX {d : Nat} {u : Nat → Nat → Int32} {g : Nat → Nat → Int64} {ex : List MC} {hill : Int32} {what : Int32} (hd : 2 ≤ d) (hp0 : (MY u)) (hp1 : (HD u)) : CT con0 d 0 0 yX11_hill cX11_hill 4 (some .int) [.ref 162, .int hill, .int what] (Wd u g ex) (fun r h2 => ∃ (z : Int32) (u2 : Nat → Nat → Int32), r = some (.int z) ∧ h2 = Wd u2 g ex ∧ (z, u2) = Fx_M_hillX hill what u g ∧ (∀ c, c ≠ 162 → u2 c = u c) ∧ (∀ j, j ≠ 0 → u2 162 j = u 162 j)) := by
  refine CT_of (by decide) (Nat.le_of_ble_eq_true rfl) (fun x hq => ?_)
  show J x yX11_hill cX11_hill 4 (some .int) d 0 0 (Wd u g ex).length 0 [(0, .ref 162), (1, .int hill), (2, .int what)] [] (Wd u g ex) 0 0
  have E : Fx_M_hillX hill what u g = Fx_M_hillX hill what u g := rfl
  refine J_aload_n (i := 0) (j := 0) dX11_hill_0 rfl rfl ?_
  refine J_iconst (v := 0) dX11_hill_1 (by decide) ?_
  obtain ⟨u1, e2⟩ : ∃ z, z = ms u 162 0 0 := ⟨_, rfl⟩
  refine J_put (C := RX11) (T := TX11) (Z := 43) (ci := 11) (f := 0) (ty0 := tyX11) dX11_hill_2 inG11 rfl tyX11_ok nmX11 (by decide) k1264 rfl rfl wc_162 (Nat.le_of_ble_eq_true rfl) (fun _ _ => ⟨rfl, rfl⟩) (ws e2 wk_162 rfl) ?_
  replace E := xq_le e2 E
  refine J_aload_n (i := 0) (j := 0) dX11_hill_5 rfl rfl ?_
  refine J_iload_n (i := 1) (j := 1) dX11_hill_6 rfl rfl ?_
  refine J_callV (As := [.int hill]) (rest := []) dX11_hill_7 (c_M_isHillX (d := 1) (u := u1) (g := g) (ex := ex) (h := hill)  (by decide) (bd_r (congrFun (ms_c e2 (Nat.ne_of_beq_eq_false rfl)) 0) (hp0 0 (by decide)).1)) hq.n k1495 k1497 k51 wc_162 rfl rfl k97 k1498 np_X11_isHill (Nat.le_trans (by decide) hd) (by decide) (Nat.le_refl _) (Nat.le_refl _) wlen rfl (Nat.le_of_ble_eq_true rfl) (fun r_ h_ p3 => ?_)
  obtain ⟨t4, rfl, rfl, h5, h6, hx7⟩ := p3
  replace E := xq_le hx7 E
  refine J_ifB_ne (tgt := 15) dX11_hill_10 (by decide) (fun c8 => ?_) (fun c8 => ?_)
  · replace E := xq_ep c8 E
    refine J_aload_n (i := 0) (j := 0) dX11_hill_15 rfl rfl ?_
    refine J_get (C := RX11) (T := TX11) (Z := 43) (ci := 11) (f := 6) dX11_hill_16 inG11 rfl (by decide) k1270 wc_162 rfl ?_
    refine J_sipush (v := 157) dX11_hill_19 (by decide) ?_
    refine J_iload_n (i := 1) (j := 1) dX11_hill_22 rfl rfl ?_
    refine J_imul dX11_hill_23 ?_
    refine J_iconst (v := 1) dX11_hill_24 (by decide) ?_
    refine J_iadd dX11_hill_25 ?_
    refine J_iald dX11_hill_26 wc_168 (vin (bd_add (l := 1) (h := 158) (bd_mul (l := 0) (h := 157) (bd_c (v := 157) (lo := 157) (hi := 157) (by decide)) (h5 c8) (by decide)) (bd_c (v := 1) (lo := 1) (hi := 1) (by decide)) (by decide)) (by decide)) ?_
    refine J_topi (fun v9 qv9 => ?_)
    replace E := xq_le qv9 E
    refine J_istore_n (i := 3) (lw := [(3, .int v9), (0, .ref 162), (1, .int hill), (2, .int what)]) dX11_hill_27 rfl (by decide) rfl ?_
    refine J_iload_n (i := 2) (j := 3) dX11_hill_28 rfl rfl ?_
    refine J_iconst (v := 0) dX11_hill_29 (by decide) ?_
    refine J_iconst (v := 4) dX11_hill_30 (by decide) ?_
    refine J_callS (As := [.int what, .int 0, .int 4]) (rest := []) dX11_hill_31 (c_M_inEX (d := 0) (u := u1) (g := g) (ex := ex) (v := what) (low := 0) (high := 4)  (by decide) ) hq.n k1406 k1407 k97 k1408 np_X11_in (Nat.le_trans (by decide) hd) (by decide) (Nat.le_refl _) (Nat.le_refl _) wlen rfl (Nat.le_of_ble_eq_true rfl) (fun r_ h_ p10 => ?_)
    obtain ⟨t11, rfl, rfl, h12, h13, h14, hx15⟩ := p10
    replace E := xq_le hx15 E
    refine J_ifB_eq (tgt := 50) dX11_hill_34 (by decide) (fun c16 => ?_) (fun c16 => ?_)
    · replace E := xq_ef c16 E
      refine J_iload_n (i := 2) (j := 3) dX11_hill_50 rfl rfl ?_
      refine J_bipush (v := 10) dX11_hill_51 (by decide) ?_
      refine J_bipush (v := 9) dX11_hill_53 (by decide) ?_
      refine J_iload_n (i := 3) (j := 0) dX11_hill_55 rfl rfl ?_
      refine J_iadd dX11_hill_56 ?_
      refine J_callS (As := [.int what, .int 10, .int ((9 : Int32) + v9)]) (rest := []) dX11_hill_57 (c_M_inEX (d := 0) (u := u1) (g := g) (ex := ex) (v := what) (low := 10) (high := ((9 : Int32) + v9))  (by decide) ) hq.n k1406 k1407 k97 k1408 np_X11_in (Nat.le_trans (by decide) hd) (by decide) (Nat.le_refl _) (Nat.le_refl _) wlen rfl (Nat.le_of_ble_eq_true rfl) (fun r_ h_ p17 => ?_)
      obtain ⟨t18, rfl, rfl, h19, h20, h21, hx22⟩ := p17
      replace E := xq_le hx22 E
      refine J_ifB_eq (tgt := 85) dX11_hill_60 (by decide) (fun c23 => ?_) (fun c23 => ?_)
      · replace E := xq_ef c23 E
        refine J_iload_n (i := 2) (j := 3) dX11_hill_85 rfl rfl ?_
        refine J_bipush (v := 20) dX11_hill_86 (by decide) ?_
        refine J_bipush (v := 19) dX11_hill_88 (by decide) ?_
        refine J_iload_n (i := 3) (j := 0) dX11_hill_90 rfl rfl ?_
        refine J_iadd dX11_hill_91 ?_
        refine J_callS (As := [.int what, .int 20, .int ((19 : Int32) + v9)]) (rest := []) dX11_hill_92 (c_M_inEX (d := 0) (u := u1) (g := g) (ex := ex) (v := what) (low := 20) (high := ((19 : Int32) + v9))  (by decide) ) hq.n k1406 k1407 k97 k1408 np_X11_in (Nat.le_trans (by decide) hd) (by decide) (Nat.le_refl _) (Nat.le_refl _) wlen rfl (Nat.le_of_ble_eq_true rfl) (fun r_ h_ p24 => ?_)
        obtain ⟨t25, rfl, rfl, h26, h27, h28, hx29⟩ := p24
        replace E := xq_le hx29 E
        refine J_ifB_eq (tgt := 122) dX11_hill_95 (by decide) (fun c30 => ?_) (fun c30 => ?_)
        · replace E := xq_ef c30 E
          refine J_iconst (v := (-1)) dX11_hill_122 (by decide) ?_
          exact J_iret hq dX11_hill_123 rfl wlen (Nat.le_refl _) (Nat.le_refl _) ⟨((-1) : Int32), u1, rfl, rfl, E, (fun c k0_ => (ms_c e2 k0_)), (fun j k0_ => (ms_i e2 k0_))⟩
        · replace E := xq_ep c30 E
          refine J_aload_n (i := 0) (j := 1) dX11_hill_98 rfl rfl ?_
          refine J_get (C := RX11) (T := TX11) (Z := 43) (ci := 11) (f := 6) dX11_hill_99 inG11 rfl (by decide) k1270 wc_162 rfl ?_
          refine J_sipush (v := 157) dX11_hill_102 (by decide) ?_
          refine J_iload_n (i := 1) (j := 2) dX11_hill_105 rfl rfl ?_
          refine J_imul dX11_hill_106 ?_
          refine J_iconst (v := 5) dX11_hill_107 (by decide) ?_
          refine J_iadd dX11_hill_108 ?_
          refine J_iconst (v := 2) dX11_hill_109 (by decide) ?_
          refine J_iload_n (i := 2) (j := 3) dX11_hill_110 rfl rfl ?_
          refine J_bipush (v := 20) dX11_hill_111 (by decide) ?_
          refine J_isub dX11_hill_113 ?_
          refine J_imul dX11_hill_114 ?_
          refine J_iadd dX11_hill_115 ?_
          refine J_iconst (v := 1) dX11_hill_116 (by decide) ?_
          refine J_iadd dX11_hill_117 ?_
          refine J_iald dX11_hill_118 wc_168 (vin (bd_add (l := 6) (h := 169) (bd_add (l := 5) (h := 168) (bd_add (l := 5) (h := 162) (bd_mul (l := 0) (h := 157) (bd_c (v := 157) (lo := 157) (hi := 157) (by decide)) (h5 c8) (by decide)) (bd_c (v := 5) (lo := 5) (hi := 5) (by decide)) (by decide)) (bd_mul (l := 0) (h := 6) (bd_c (v := 2) (lo := 2) (hi := 2) (by decide)) (bd_sub (l := 0) (h := 3) (bd_le_hi (bd_le_lo (bd_any what) (h26 c30) (bd_c (v := 20) (lo := 20) (hi := 20) (by decide))) (h27 c30) (bd_add (l := 19) (h := 23) (bd_c (v := 19) (lo := 19) (hi := 19) (by decide)) (hd_r (hd_c (ms_c e2 (Nat.ne_of_beq_eq_false rfl)) hp1) (bd_w (l := 0) (h := 7) (h5 c8) (by decide)) qv9) (by decide))) (bd_c (v := 20) (lo := 20) (hi := 20) (by decide)) (by decide)) (by decide)) (by decide)) (bd_c (v := 1) (lo := 1) (hi := 1) (by decide)) (by decide)) (by decide)) ?_
          refine J_topi (fun v31 qv31 => ?_)
          replace E := xq_le qv31 E
          refine J_goto (tgt := 123) dX11_hill_119 (by decide) ?_
          exact J_iret hq dX11_hill_123 rfl wlen (Nat.le_refl _) (Nat.le_refl _) ⟨v31, u1, rfl, rfl, E, (fun c k0_ => (ms_c e2 k0_)), (fun j k0_ => (ms_i e2 k0_))⟩
      · replace E := xq_ep c23 E
        refine J_aload_n (i := 0) (j := 1) dX11_hill_63 rfl rfl ?_
        refine J_get (C := RX11) (T := TX11) (Z := 43) (ci := 11) (f := 6) dX11_hill_64 inG11 rfl (by decide) k1270 wc_162 rfl ?_
        refine J_sipush (v := 157) dX11_hill_67 (by decide) ?_
        refine J_iload_n (i := 1) (j := 2) dX11_hill_70 rfl rfl ?_
        refine J_imul dX11_hill_71 ?_
        refine J_iconst (v := 5) dX11_hill_72 (by decide) ?_
        refine J_iadd dX11_hill_73 ?_
        refine J_iconst (v := 2) dX11_hill_74 (by decide) ?_
        refine J_iload_n (i := 2) (j := 3) dX11_hill_75 rfl rfl ?_
        refine J_bipush (v := 10) dX11_hill_76 (by decide) ?_
        refine J_isub dX11_hill_78 ?_
        refine J_imul dX11_hill_79 ?_
        refine J_iadd dX11_hill_80 ?_
        refine J_iald dX11_hill_81 wc_168 (vin (bd_add (l := 5) (h := 168) (bd_add (l := 5) (h := 162) (bd_mul (l := 0) (h := 157) (bd_c (v := 157) (lo := 157) (hi := 157) (by decide)) (h5 c8) (by decide)) (bd_c (v := 5) (lo := 5) (hi := 5) (by decide)) (by decide)) (bd_mul (l := 0) (h := 6) (bd_c (v := 2) (lo := 2) (hi := 2) (by decide)) (bd_sub (l := 0) (h := 3) (bd_le_hi (bd_le_lo (bd_any what) (h19 c23) (bd_c (v := 10) (lo := 10) (hi := 10) (by decide))) (h20 c23) (bd_add (l := 9) (h := 13) (bd_c (v := 9) (lo := 9) (hi := 9) (by decide)) (hd_r (hd_c (ms_c e2 (Nat.ne_of_beq_eq_false rfl)) hp1) (bd_w (l := 0) (h := 7) (h5 c8) (by decide)) qv9) (by decide))) (bd_c (v := 10) (lo := 10) (hi := 10) (by decide)) (by decide)) (by decide)) (by decide)) (by decide)) ?_
        refine J_topi (fun v32 qv32 => ?_)
        replace E := xq_le qv32 E
        refine J_goto (tgt := 123) dX11_hill_82 (by decide) ?_
        exact J_iret hq dX11_hill_123 rfl wlen (Nat.le_refl _) (Nat.le_refl _) ⟨v32, u1, rfl, rfl, E, (fun c k0_ => (ms_c e2 k0_)), (fun j k0_ => (ms_i e2 k0_))⟩
    · replace E := xq_ep c16 E
      refine J_aload_n (i := 0) (j := 1) dX11_hill_37 rfl rfl ?_
      refine J_get (C := RX11) (T := TX11) (Z := 43) (ci := 11) (f := 6) dX11_hill_38 inG11 rfl (by decide) k1270 wc_162 rfl ?_
      refine J_sipush (v := 157) dX11_hill_41 (by decide) ?_
      refine J_iload_n (i := 1) (j := 2) dX11_hill_44 rfl rfl ?_
      refine J_imul dX11_hill_45 ?_
      refine J_iload_n (i := 2) (j := 3) dX11_hill_46 rfl rfl ?_
      refine J_iadd dX11_hill_47 ?_
      refine J_iald dX11_hill_48 wc_168 (vin (bd_add (l := 0) (h := 161) (bd_mul (l := 0) (h := 157) (bd_c (v := 157) (lo := 157) (hi := 157) (by decide)) (h5 c8) (by decide)) (bd_le_hi (bd_le_lo (bd_any what) (h12 c16) (bd_c (v := 0) (lo := 0) (hi := 0) (by decide))) (h13 c16) (bd_c (v := 4) (lo := 4) (hi := 4) (by decide))) (by decide)) (by decide)) ?_
      refine J_topi (fun v33 qv33 => ?_)
      replace E := xq_le qv33 E
      exact J_iret hq dX11_hill_49 rfl wlen (Nat.le_refl _) (Nat.le_refl _) ⟨v33, u1, rfl, rfl, E, (fun c k0_ => (ms_c e2 k0_)), (fun j k0_ => (ms_i e2 k0_))⟩
  · replace E := xq_ef c8 E
    refine J_iconst (v := (-1)) dX11_hill_13 (by decide) ?_
    exact J_iret hq dX11_hill_14 rfl wlen (Nat.le_refl _) (Nat.le_refl _) ⟨((-1) : Int32), u1, rfl, rfl, E, (fun c k0_ => (ms_c e2 k0_)), (fun j k0_ => (ms_i e2 k0_))⟩
