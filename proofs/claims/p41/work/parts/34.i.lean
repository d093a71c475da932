set_option maxRecDepth 100000 in
noncomputable def Fx_isInX (set : Int32) (pond : Int32) (u : Nat → Nat → Int32) (g : Nat → Nat → Int64) : Bool := if ((set >>> (pond &&& 31)) &&& 1) = (1 : Int32) then (true) else (false)
set_option maxHeartbeats 4000000 in
set_option maxRecDepth 100000 in
theorem c_isInX {d : Nat} {u : Nat → Nat → Int32} {g : Nat → Nat → Int64} {ex : List MC} {set : Int32} {pond : Int32} (hd : 0 ≤ d)  : CT con0 d 0 0 yX10_isIn cX10_isIn 2 (some .boolean) [.int set, .int pond] (Wd u g ex) (fun r h2 => ∃ (z : Bool), r = some (.int (bI z)) ∧ h2 = Wd u g ex ∧ z = Fx_isInX set pond u g) := by
  refine CT_of (by decide) (Nat.le_of_ble_eq_true rfl) (fun x hq => ?_)
  show J x yX10_isIn cX10_isIn 2 (some .boolean) d 0 0 (Wd u g ex).length 0 [(0, .int set), (1, .int pond)] [] (Wd u g ex) 0 0
  have E : Fx_isInX set pond u g = Fx_isInX set pond u g := rfl
  refine J_iload_n (i := 0) (j := 0) dX10_isIn_0 rfl rfl ?_
  refine J_iload_n (i := 1) (j := 1) dX10_isIn_1 rfl rfl ?_
  refine J_ishr dX10_isIn_2 ?_
  refine J_iconst (v := 1) dX10_isIn_3 (by decide) ?_
  refine J_iand dX10_isIn_4 ?_
  refine J_iconst (v := 1) dX10_isIn_5 (by decide) ?_
  refine J_icmp_ne (tgt := 13) dX10_isIn_6 (by decide) (fun c1 => ?_) (fun c1 => ?_)
  · replace E := xq_en c1 E
    refine J_iconst (v := 0) dX10_isIn_13 (by decide) ?_
    exact J_zret hq dX10_isIn_14 rfl rfl wlen (Nat.le_refl _) (Nat.le_refl _) ⟨false, rfl, rfl, E⟩
  · replace E := xq_ep c1 E
    refine J_iconst (v := 1) dX10_isIn_9 (by decide) ?_
    refine J_goto (tgt := 14) dX10_isIn_10 (by decide) ?_
    exact J_zret hq dX10_isIn_14 rfl rfl wlen (Nat.le_refl _) (Nat.le_refl _) ⟨true, rfl, rfl, E⟩
set_option maxRecDepth 100000 in
noncomputable def Fx_bit9X (pond : Int32) (u : Nat → Nat → Int32) (g : Nat → Nat → Int64) : Int32 := if (0 : Int32) ≤ pond then (((1 : Int32) <<< (pond &&& 31))) else ((0 : Int32))
set_option maxHeartbeats 4000000 in
set_option maxRecDepth 100000 in
theorem c_bit9X {d : Nat} {u : Nat → Nat → Int32} {g : Nat → Nat → Int64} {ex : List MC} {pond : Int32} (hd : 0 ≤ d) (hp0 : Bd (-1) 8 pond) : CT con0 d 0 0 yX10_bit cX10_bit 1 (some .int) [.int pond] (Wd u g ex) (fun r h2 => ∃ (z : Int32), r = some (.int z) ∧ h2 = Wd u g ex ∧ Bd 0 256 z ∧ z = Fx_bit9X pond u g) := by
  refine CT_of (by decide) (Nat.le_of_ble_eq_true rfl) (fun x hq => ?_)
  show J x yX10_bit cX10_bit 1 (some .int) d 0 0 (Wd u g ex).length 0 [(0, .int pond)] [] (Wd u g ex) 0 0
  have E : Fx_bit9X pond u g = Fx_bit9X pond u g := rfl
  refine J_iload_n (i := 0) (j := 0) dX10_bit_0 rfl rfl ?_
  refine J_if_ge (tgt := 8) dX10_bit_1 (by decide) (fun c1 => ?_) (fun c1 => ?_)
  · replace E := xq_ep c1 E
    refine J_iconst (v := 1) dX10_bit_8 (by decide) ?_
    refine J_iload_n (i := 0) (j := 0) dX10_bit_9 rfl rfl ?_
    refine J_ishl dX10_bit_10 ?_
    exact J_iret hq dX10_bit_11 rfl wlen (Nat.le_refl _) (Nat.le_refl _) ⟨((1 : Int32) <<< (pond &&& 31)), rfl, rfl, (bd_w (l := 0) (h := 256) (bd_shl (lo := 0) (hi := 8) (l := 1) (h := 256) (bd_le_lo hp0 c1 (bd_c (v := 0) (lo := 0) (hi := 0) (by decide))) (by decide)) (by decide)), E⟩
  · replace E := xq_en c1 E
    refine J_iconst (v := 0) dX10_bit_4 (by decide) ?_
    refine J_goto (tgt := 11) dX10_bit_5 (by decide) ?_
    exact J_iret hq dX10_bit_11 rfl wlen (Nat.le_refl _) (Nat.le_refl _) ⟨(0 : Int32), rfl, rfl, (bd_w (l := 0) (h := 256) (bd_c (v := 0) (lo := 0) (hi := 0) (by decide)) (by decide)), E⟩
set_option maxRecDepth 100000 in
noncomputable def Fx_H_hasX (pond : Int32) (t : Nat) (u : Nat → Nat → Int32) (g : Nat → Nat → Int64) : Bool := if pond < (0 : Int32) then (false) else (if (u t 0) ≤ pond then (false) else (true))
set_option maxHeartbeats 4000000 in
set_option maxRecDepth 100000 in
theorem c_H_hasX {d : Nat} {u : Nat → Nat → Int32} {g : Nat → Nat → Int64} {ex : List MC} {pond : Int32} {t : Nat} (hd : 0 ≤ d) (hs_t : t ∈ hl) (hp0 : Bd 0 9 (u t 0)) (hp1 : Bd 0 4 (u t 2)) : CT con0 d 0 0 yX1_has cX1_has 2 (some .boolean) [.ref t, .int pond] (Wd u g ex) (fun r h2 => ∃ (z : Bool), r = some (.int (bI z)) ∧ h2 = Wd u g ex ∧ (z = true → Bd 0 8 pond) ∧ z = Fx_H_hasX pond t u g) := by
  refine CT_of (by decide) (Nat.le_of_ble_eq_true rfl) (fun x hq => ?_)
  show J x yX1_has cX1_has 2 (some .boolean) d 0 0 (Wd u g ex).length 0 [(0, .ref t), (1, .int pond)] [] (Wd u g ex) 0 0
  have E : Fx_H_hasX pond t u g = Fx_H_hasX pond t u g := rfl
  refine J_iload_n (i := 1) (j := 1) dX1_has_0 rfl rfl ?_
  refine J_if_lt (tgt := 16) dX1_has_1 (by decide) (fun c1 => ?_) (fun c1 => ?_)
  · replace E := xq_ep c1 E
    refine J_iconst (v := 0) dX1_has_16 (by decide) ?_
    exact J_zret hq dX1_has_17 rfl rfl wlen (Nat.le_refl _) (Nat.le_refl _) ⟨false, rfl, rfl, (fun q => absurd q (by decide)), E⟩
  · replace E := xq_en c1 E
    refine J_iload_n (i := 1) (j := 1) dX1_has_4 rfl rfl ?_
    refine J_aload_n (i := 0) (j := 0) dX1_has_5 rfl rfl ?_
    refine J_get (C := RX1) (T := TX1) (Z := 6) (ci := 1) (f := 0) dX1_has_6 inG1 rfl (by decide) k130 (zh0c hs_t) rfl ?_
    refine J_icmp_ge (tgt := 16) dX1_has_9 (by decide) (fun c2 => ?_) (fun c2 => ?_)
    · replace E := xq_ep c2 E
      refine J_iconst (v := 0) dX1_has_16 (by decide) ?_
      exact J_zret hq dX1_has_17 rfl rfl wlen (Nat.le_refl _) (Nat.le_refl _) ⟨false, rfl, rfl, (fun q => absurd q (by decide)), E⟩
    · replace E := xq_en c2 E
      refine J_iconst (v := 1) dX1_has_12 (by decide) ?_
      refine J_goto (tgt := 17) dX1_has_13 (by decide) ?_
      exact J_zret hq dX1_has_17 rfl rfl wlen (Nat.le_refl _) (Nat.le_refl _) ⟨true, rfl, rfl, (fun qb => (bd_lt_hi (bd_le_lo (bd_any pond) (i_nlt c1) (bd_c (v := 0) (lo := 0) (hi := 0) (by decide))) (i_nle c2) hp0)), E⟩
set_option maxRecDepth 100000 in
noncomputable def Fx_H_allX (t : Nat) (u : Nat → Nat → Int32) (g : Nat → Nat → Int64) : Int32 := (((1 : Int32) <<< ((u t 0) &&& 31)) - 1)
set_option maxHeartbeats 4000000 in
set_option maxRecDepth 100000 in
theorem c_H_allX {d : Nat} {u : Nat → Nat → Int32} {g : Nat → Nat → Int64} {ex : List MC} {t : Nat} (hd : 0 ≤ d) (hs_t : t ∈ hl) (hp0 : Bd 0 9 (u t 0)) (hp1 : Bd 0 4 (u t 2)) : CT con0 d 0 0 yX1_all cX1_all 1 (some .int) [.ref t] (Wd u g ex) (fun r h2 => ∃ (z : Int32), r = some (.int z) ∧ h2 = Wd u g ex ∧ Bd 0 511 z ∧ z = Fx_H_allX t u g) := by
  refine CT_of (by decide) (Nat.le_of_ble_eq_true rfl) (fun x hq => ?_)
  show J x yX1_all cX1_all 1 (some .int) d 0 0 (Wd u g ex).length 0 [(0, .ref t)] [] (Wd u g ex) 0 0
  have E : Fx_H_allX t u g = Fx_H_allX t u g := rfl
  refine J_iconst (v := 1) dX1_all_0 (by decide) ?_
  refine J_aload_n (i := 0) (j := 0) dX1_all_1 rfl rfl ?_
  refine J_get (C := RX1) (T := TX1) (Z := 6) (ci := 1) (f := 0) dX1_all_2 inG1 rfl (by decide) k130 (zh0c hs_t) rfl ?_
  refine J_ishl dX1_all_5 ?_
  refine J_iconst (v := 1) dX1_all_6 (by decide) ?_
  refine J_isub dX1_all_7 ?_
  exact J_iret hq dX1_all_8 rfl wlen (Nat.le_refl _) (Nat.le_refl _) ⟨(((1 : Int32) <<< ((u t 0) &&& 31)) - 1), rfl, rfl, (bd_sub (l := 0) (h := 511) (bd_shl (lo := 0) (hi := 9) (l := 1) (h := 512) hp0 (by decide)) (bd_c (v := 1) (lo := 1) (hi := 1) (by decide)) (by decide)), E⟩
set_option maxRecDepth 100000 in
noncomputable def Fx_H_hasSetX (set : Int32) (t : Nat) (u : Nat → Nat → Int32) (g : Nat → Nat → Int64) : Bool := if set < (0 : Int32) then (false) else (xq_lt (Fx_H_allX t u g) fun v3 => if v3 < set then (false) else (true))
set_option maxHeartbeats 4000000 in
set_option maxRecDepth 100000 in
theorem c_H_hasSetX {d : Nat} {u : Nat → Nat → Int32} {g : Nat → Nat → Int64} {ex : List MC} {set : Int32} {t : Nat} (hd : 1 ≤ d) (hs_t : t ∈ hl) (hp0 : Bd 0 9 (u t 0)) (hp1 : Bd 0 4 (u t 2)) : CT con0 d 0 0 yX1_hasSet cX1_hasSet 2 (some .boolean) [.ref t, .int set] (Wd u g ex) (fun r h2 => ∃ (z : Bool), r = some (.int (bI z)) ∧ h2 = Wd u g ex ∧ (z = true → Bd 0 511 set) ∧ z = Fx_H_hasSetX set t u g) := by
  refine CT_of (by decide) (Nat.le_of_ble_eq_true rfl) (fun x hq => ?_)
  show J x yX1_hasSet cX1_hasSet 2 (some .boolean) d 0 0 (Wd u g ex).length 0 [(0, .ref t), (1, .int set)] [] (Wd u g ex) 0 0
  have E : Fx_H_hasSetX set t u g = Fx_H_hasSetX set t u g := rfl
  refine J_iload_n (i := 1) (j := 1) dX1_hasSet_0 rfl rfl ?_
  refine J_if_lt (tgt := 16) dX1_hasSet_1 (by decide) (fun c1 => ?_) (fun c1 => ?_)
  · replace E := xq_ep c1 E
    refine J_iconst (v := 0) dX1_hasSet_16 (by decide) ?_
    exact J_zret hq dX1_hasSet_17 rfl rfl wlen (Nat.le_refl _) (Nat.le_refl _) ⟨false, rfl, rfl, (fun q => absurd q (by decide)), E⟩
  · replace E := xq_en c1 E
    refine J_iload_n (i := 1) (j := 1) dX1_hasSet_4 rfl rfl ?_
    refine J_aload_n (i := 0) (j := 0) dX1_hasSet_5 rfl rfl ?_
    refine J_callV (As := []) (rest := [.int set]) dX1_hasSet_6 (c_H_allX (d := 0) (u := u) (g := g) (ex := ex)  (t := t) (by decide) hs_t hp0 hp1) hq.n k800 k801 k802 (zh0c hs_t) rfl rfl k89 k803 np_X1_all (Nat.le_trans (by decide) hd) (by decide) (Nat.le_refl _) (Nat.le_refl _) wlen rfl (Nat.le_of_ble_eq_true rfl) (fun r_ h_ p2 => ?_)
    obtain ⟨v3, rfl, rfl, h4, hx5⟩ := p2
    replace E := xq_le hx5 E
    refine J_icmp_gt (tgt := 16) dX1_hasSet_9 (by decide) (fun c6 => ?_) (fun c6 => ?_)
    · replace E := xq_ep c6 E
      refine J_iconst (v := 0) dX1_hasSet_16 (by decide) ?_
      exact J_zret hq dX1_hasSet_17 rfl rfl wlen (Nat.le_refl _) (Nat.le_refl _) ⟨false, rfl, rfl, (fun q => absurd q (by decide)), E⟩
    · replace E := xq_en c6 E
      refine J_iconst (v := 1) dX1_hasSet_12 (by decide) ?_
      refine J_goto (tgt := 17) dX1_hasSet_13 (by decide) ?_
      exact J_zret hq dX1_hasSet_17 rfl rfl wlen (Nat.le_refl _) (Nat.le_refl _) ⟨true, rfl, rfl, (fun qb => (bd_le_hi (bd_le_lo (bd_any set) (i_nlt c1) (bd_c (v := 0) (lo := 0) (hi := 0) (by decide))) (i_nlt c6) h4)), E⟩
set_option maxRecDepth 100000 in
noncomputable def Fx_H_isOutX (pond : Int32) (t : Nat) (u : Nat → Nat → Int32) (g : Nat → Nat → Int64) : Bool := if (hof u t pond (15 : Int32)) = (1 : Int32) then (true) else (false)
set_option maxHeartbeats 4000000 in
set_option maxRecDepth 100000 in
theorem c_H_isOutX {d : Nat} {u : Nat → Nat → Int32} {g : Nat → Nat → Int64} {ex : List MC} {pond : Int32} {t : Nat} (hd : 1 ≤ d) (hs_t : t ∈ hl) : CT con0 d 0 0 yX1_isOut cX1_isOut 2 (some .boolean) [.ref t, .int pond] (Wd u g ex) (fun r h2 => ∃ (z : Bool), r = some (.int (bI z)) ∧ h2 = Wd u g ex ∧ z = Fx_H_isOutX pond t u g) := by
  refine CT_of (by decide) (Nat.le_of_ble_eq_true rfl) (fun x hq => ?_)
  show J x yX1_isOut cX1_isOut 2 (some .boolean) d 0 0 (Wd u g ex).length 0 [(0, .ref t), (1, .int pond)] [] (Wd u g ex) 0 0
  have E : Fx_H_isOutX pond t u g = Fx_H_isOutX pond t u g := rfl
  refine J_aload_n (i := 0) (j := 0) dX1_isOut_0 rfl rfl ?_
  refine J_iload_n (i := 1) (j := 1) dX1_isOut_1 rfl rfl ?_
  refine J_bipush (v := 15) dX1_isOut_2 (by decide) ?_
  refine J_callV (As := [.int pond, .int 15]) (rest := []) dX1_isOut_4 (c_H_of (d := 0) (u := u) (g := g) (ex := ex) (pond := pond) (column := 15) (t := t) (by decide) hs_t) hq.n k748 k749 k750 (zh0c hs_t) rfl rfl k89 k751 np_X1_of (Nat.le_trans (by decide) hd) (by decide) (Nat.le_refl _) (Nat.le_refl _) wlen rfl (Nat.le_of_ble_eq_true rfl) (fun r_ h_ p1 => ?_)
  obtain ⟨rfl, rfl⟩ := p1
  refine J_iconst (v := 1) dX1_isOut_7 (by decide) ?_
  refine J_icmp_ne (tgt := 15) dX1_isOut_8 (by decide) (fun c2 => ?_) (fun c2 => ?_)
  · replace E := xq_en c2 E
    refine J_iconst (v := 0) dX1_isOut_15 (by decide) ?_
    exact J_zret hq dX1_isOut_16 rfl rfl wlen (Nat.le_refl _) (Nat.le_refl _) ⟨false, rfl, rfl, E⟩
  · replace E := xq_ep c2 E
    refine J_iconst (v := 1) dX1_isOut_11 (by decide) ?_
    refine J_goto (tgt := 16) dX1_isOut_12 (by decide) ?_
    exact J_zret hq dX1_isOut_16 rfl rfl wlen (Nat.le_refl _) (Nat.le_refl _) ⟨true, rfl, rfl, E⟩
set_option maxRecDepth 100000 in
noncomputable def Fx_H_takeOutBX (pond : Int32) (t : Nat) (u : Nat → Nat → Int32) (g : Nat → Nat → Int64) : (Nat → Nat → Int32) := xq_lt (Fx_H_putBX pond (15 : Int32) (1 : Int32) t u g) fun u2 => xq_lt (Fx_H_putBX pond (1 : Int32) (0 : Int32) t u2 g) fun u7 => xq_lt (Fx_H_putBX pond (0 : Int32) (0 : Int32) t u7 g) fun u12 => xq_lt (Fx_H_putBX pond (4 : Int32) (0 : Int32) t u12 g) fun u17 => u17
set_option maxHeartbeats 4000000 in
set_option maxRecDepth 100000 in
theorem c_H_takeOutBX {d : Nat} {u : Nat → Nat → Int32} {g : Nat → Nat → Int64} {ex : List MC} {pond : Int32} {t : Nat} (hd : 1 ≤ d) (hs_t : t ∈ hl) (hp0 : AB u (t + 1) (-1) 999) : CT con0 d 0 0 yX1_takeOut cX1_takeOut 2 none [.ref t, .int pond] (Wd u g ex) (fun r h2 => ∃ (u2 : Nat → Nat → Int32), r = none ∧ h2 = Wd u2 g ex ∧ AB u2 (t + 1) (-1) 999 ∧ u2 = Fx_H_takeOutBX pond t u g ∧ (∀ c, c ≠ t + 1 → u2 c = u c)) := by
  refine CT_of (by decide) (Nat.le_of_ble_eq_true rfl) (fun x hq => ?_)
  show J x yX1_takeOut cX1_takeOut 2 none d 0 0 (Wd u g ex).length 0 [(0, .ref t), (1, .int pond)] [] (Wd u g ex) 0 0
  have E : Fx_H_takeOutBX pond t u g = Fx_H_takeOutBX pond t u g := rfl
  refine J_aload_n (i := 0) (j := 0) dX1_takeOut_0 rfl rfl ?_
  refine J_iload_n (i := 1) (j := 1) dX1_takeOut_1 rfl rfl ?_
  refine J_bipush (v := 15) dX1_takeOut_2 (by decide) ?_
  refine J_iconst (v := 1) dX1_takeOut_4 (by decide) ?_
  refine J_callV (As := [.int pond, .int 15, .int 1]) (rest := []) dX1_takeOut_5 (c_H_putBX (d := 0) (u := u) (g := g) (ex := ex) (pond := pond) (column := 15) (value := 1) (t := t) (by decide) hs_t hp0 (bd_w (l := (-1)) (h := 999) (bd_c (v := 1) (lo := 1) (hi := 1) (by decide)) (by decide))) hq.n k649 k650 k651 (zh0c hs_t) rfl rfl k89 k652 np_X1_put (Nat.le_trans (by decide) hd) (by decide) (Nat.le_refl _) (Nat.le_refl _) wlen rfl (Nat.le_of_ble_eq_true rfl) (fun r_ h_ p1 => ?_)
  obtain ⟨u2, rfl, rfl, h3, hx4, fr5⟩ := p1
  replace E := xq_le hx4 E
  refine J_aload_n (i := 0) (j := 0) dX1_takeOut_8 rfl rfl ?_
  refine J_iload_n (i := 1) (j := 1) dX1_takeOut_9 rfl rfl ?_
  refine J_iconst (v := 1) dX1_takeOut_10 (by decide) ?_
  refine J_iconst (v := 0) dX1_takeOut_11 (by decide) ?_
  refine J_callV (As := [.int pond, .int 1, .int 0]) (rest := []) dX1_takeOut_12 (c_H_putBX (d := 0) (u := u2) (g := g) (ex := ex) (pond := pond) (column := 1) (value := 0) (t := t) (by decide) hs_t h3 (bd_w (l := (-1)) (h := 999) (bd_c (v := 0) (lo := 0) (hi := 0) (by decide)) (by decide))) hq.n k649 k650 k651 (zh0c hs_t) rfl rfl k89 k652 np_X1_put (Nat.le_trans (by decide) hd) (by decide) (Nat.le_refl _) (Nat.le_refl _) wlen rfl (Nat.le_of_ble_eq_true rfl) (fun r_ h_ p6 => ?_)
  obtain ⟨u7, rfl, rfl, h8, hx9, fr10⟩ := p6
  replace E := xq_le hx9 E
  refine J_aload_n (i := 0) (j := 0) dX1_takeOut_15 rfl rfl ?_
  refine J_iload_n (i := 1) (j := 1) dX1_takeOut_16 rfl rfl ?_
  refine J_iconst (v := 0) dX1_takeOut_17 (by decide) ?_
  refine J_iconst (v := 0) dX1_takeOut_18 (by decide) ?_
  refine J_callV (As := [.int pond, .int 0, .int 0]) (rest := []) dX1_takeOut_19 (c_H_putBX (d := 0) (u := u7) (g := g) (ex := ex) (pond := pond) (column := 0) (value := 0) (t := t) (by decide) hs_t h8 (bd_w (l := (-1)) (h := 999) (bd_c (v := 0) (lo := 0) (hi := 0) (by decide)) (by decide))) hq.n k649 k650 k651 (zh0c hs_t) rfl rfl k89 k652 np_X1_put (Nat.le_trans (by decide) hd) (by decide) (Nat.le_refl _) (Nat.le_refl _) wlen rfl (Nat.le_of_ble_eq_true rfl) (fun r_ h_ p11 => ?_)
  obtain ⟨u12, rfl, rfl, h13, hx14, fr15⟩ := p11
  replace E := xq_le hx14 E
  refine J_aload_n (i := 0) (j := 0) dX1_takeOut_22 rfl rfl ?_
  refine J_iload_n (i := 1) (j := 1) dX1_takeOut_23 rfl rfl ?_
  refine J_iconst (v := 4) dX1_takeOut_24 (by decide) ?_
  refine J_iconst (v := 0) dX1_takeOut_25 (by decide) ?_
  refine J_callV (As := [.int pond, .int 4, .int 0]) (rest := []) dX1_takeOut_26 (c_H_putBX (d := 0) (u := u12) (g := g) (ex := ex) (pond := pond) (column := 4) (value := 0) (t := t) (by decide) hs_t h13 (bd_w (l := (-1)) (h := 999) (bd_c (v := 0) (lo := 0) (hi := 0) (by decide)) (by decide))) hq.n k649 k650 k651 (zh0c hs_t) rfl rfl k89 k652 np_X1_put (Nat.le_trans (by decide) hd) (by decide) (Nat.le_refl _) (Nat.le_refl _) wlen rfl (Nat.le_of_ble_eq_true rfl) (fun r_ h_ p16 => ?_)
  obtain ⟨u17, rfl, rfl, h18, hx19, fr20⟩ := p16
  replace E := xq_le hx19 E
  exact J_vret hq dX1_takeOut_29 rfl wlen (Nat.le_refl _) (Nat.le_refl _) ⟨u17, rfl, rfl, h18, E, (fun c k0_ => ((fr20 c k0_).trans ((fr15 c k0_).trans ((fr10 c k0_).trans (fr5 c k0_)))))⟩
set_option maxRecDepth 100000 in
noncomputable def Fx_H_weakX_J28 (ih_lp107 : (Int32) → (Int32) → Int32) (w81 : Int32) (w130 : Int32) : Int32 := ih_lp107 w130 (w81 + 1)
set_option maxRecDepth 100000 in
noncomputable def Fx_H_weakX_L4 (t : Nat) (u : Nat → Nat → Int32) (g : Nat → Nat → Int64) (n_ : Nat) : (Int32) → (Int32) → Int32 := Nat.rec (motive := fun _ => (Int32) → (Int32) → Int32) (fun _ _ => default) (fun n_ ih_ w80 w81 => if (u t 0) ≤ w81 then (w80) else (if (hof u t w81 (4 : Int32)) ≤ (0 : Int32) then (Fx_H_weakX_J28 ih_ w81 w80) else (xq_lt (Fx_bit9X w81 u g) fun v133 => Fx_H_weakX_J28 ih_ w81 (w80 ||| v133)))) n_
set_option maxRecDepth 100000 in
theorem Fx_H_weakX_L4_s {t : Nat} {u : Nat → Nat → Int32} {g : Nat → Nat → Int64} {w80 : Int32} {w81 : Int32} {n_ : Nat} : Fx_H_weakX_L4 t u g (n_ + 1) w80 w81 = if (u t 0) ≤ w81 then (w80) else (if (hof u t w81 (4 : Int32)) ≤ (0 : Int32) then (Fx_H_weakX_J28 (Fx_H_weakX_L4 t u g n_) w81 w80) else (xq_lt (Fx_bit9X w81 u g) fun v133 => Fx_H_weakX_J28 (Fx_H_weakX_L4 t u g n_) w81 (w80 ||| v133))) := rfl
set_option maxRecDepth 100000 in
noncomputable def Fx_H_weakX (t : Nat) (u : Nat → Nat → Int32) (g : Nat → Nat → Int64) : Int32 := Fx_H_weakX_L4 t u g ((9 - (0 : Int32).toInt).toNat + 1) (0 : Int32) (0 : Int32)
set_option maxHeartbeats 4000000 in
set_option maxRecDepth 100000 in
theorem c_H_weakX {d : Nat} {u : Nat → Nat → Int32} {g : Nat → Nat → Int64} {ex : List MC} {t : Nat} (hd : 1 ≤ d) (hs_t : t ∈ hl) (hp0 : Bd 0 9 (u t 0)) (hp1 : Bd 0 4 (u t 2)) : CT con0 d 0 0 yX1_weak cX1_weak 3 (some .int) [.ref t] (Wd u g ex) (fun r h2 => ∃ (z : Int32), r = some (.int z) ∧ h2 = Wd u g ex ∧ Bd 0 511 z ∧ z = Fx_H_weakX t u g) := by
  refine CT_of (by decide) (Nat.le_of_ble_eq_true rfl) (fun x hq => ?_)
  show J x yX1_weak cX1_weak 3 (some .int) d 0 0 (Wd u g ex).length 0 [(0, .ref t)] [] (Wd u g ex) 0 0
  have E : Fx_H_weakX t u g = Fx_H_weakX t u g := rfl
  refine J_iconst (v := 0) dX1_weak_0 (by decide) ?_
  refine J_istore_n (i := 1) (lw := [(1, .int 0), (0, .ref t)]) dX1_weak_1 rfl (by decide) rfl ?_
  refine J_iconst (v := 0) dX1_weak_2 (by decide) ?_
  refine J_istore_n (i := 2) (lw := [(2, .int 0), (1, .int 0), (0, .ref t)]) dX1_weak_3 rfl (by decide) rfl ?_
  have lp107 : ∀ (n108 : Nat) (w80 : Int32) (w81 : Int32), Bd 0 511 w80 → Bd 0 9 w81 → (9 - w81.toInt).toNat < n108 → Fx_H_weakX_L4 t u g n108 w80 w81 = Fx_H_weakX t u g → J x yX1_weak cX1_weak 3 (some .int) d 0 0 (Wd u g ex).length 4 [(0, .ref t), (1, .int w80), (2, .int w81)] [] (Wd u g ex) 0 0 := by
    intro n108
    induction n108 with
    | zero => intro w80 w81 bw80 bw81 hm110 _; exact absurd hm110 (Nat.not_lt_zero _)
    | succ n108 ih109 =>
      intro w80 w81 bw80 bw81 hm110 E
      replace E := Fx_H_weakX_L4_s.symm.trans E
      refine J_iload_n (i := 2) (j := 2) dX1_weak_4 rfl rfl ?_
      refine J_aload_n (i := 0) (j := 0) dX1_weak_5 rfl rfl ?_
      refine J_get (C := RX1) (T := TX1) (Z := 6) (ci := 1) (f := 0) dX1_weak_6 inG1 rfl (by decide) k130 (zh0c hs_t) rfl ?_
      refine J_icmp_ge (tgt := 34) dX1_weak_9 (by decide) (fun c111 => ?_) (fun c111 => ?_)
      · replace E := xq_ep c111 E
        refine J_iload_n (i := 1) (j := 1) dX1_weak_34 rfl rfl ?_
        exact J_iret hq dX1_weak_35 rfl wlen (Nat.le_refl _) (Nat.le_refl _) ⟨w80, rfl, rfl, bw80, E⟩
      · replace E := xq_en c111 E
        refine J_aload_n (i := 0) (j := 0) dX1_weak_12 rfl rfl ?_
        refine J_iload_n (i := 2) (j := 2) dX1_weak_13 rfl rfl ?_
        refine J_iconst (v := 4) dX1_weak_14 (by decide) ?_
        refine J_callV (As := [.int w81, .int 4]) (rest := []) dX1_weak_15 (c_H_of (d := 0) (u := u) (g := g) (ex := ex) (pond := w81) (column := 4) (t := t) (by decide) hs_t) hq.n k748 k749 k750 (zh0c hs_t) rfl rfl k89 k751 np_X1_of (Nat.le_trans (by decide) hd) (by decide) (Nat.le_refl _) (Nat.le_refl _) wlen rfl (Nat.le_of_ble_eq_true rfl) (fun r_ h_ p124 => ?_)
        obtain ⟨rfl, rfl⟩ := p124
        have jn131 : ∀ (w130 : Int32), Bd 0 511 w130 → Fx_H_weakX_J28 (Fx_H_weakX_L4 t u g n108) w81 w130 = Fx_H_weakX t u g → J x yX1_weak cX1_weak 3 (some .int) d 0 0 (Wd u g ex).length 28 [(0, .ref t), (1, .int w130), (2, .int w81)] [] (Wd u g ex) 0 0 := by
          intro w130 bw130 E
          refine J_iinc (i := 2) (j := 2) (v := (w81 + 1)) (lw := [(2, .int (w81 + 1)), (0, .ref t), (1, .int w130)]) dX1_weak_28 rfl rfl (by decide) rfl ?_
          refine J_goto (tgt := 4) dX1_weak_31 (by decide) ?_
          refine J_lv [1, 2, 0] rfl ?_
          exact ih109 w130 (w81 + 1) bw130 (bd_w (l := 0) (h := 9) (bd_add (l := 1) (h := 9) (bd_lt_hi bw81 (i_nle c111) hp0) (bd_c (v := 1) (lo := 1) (hi := 1) (by decide)) (by decide)) (by decide)) (mu_up 1 bw81 rfl (by decide) (bd_w (l := 1) (h := 9) (bd_add (l := 1) (h := 9) (bd_lt_hi bw81 (i_nle c111) hp0) (bd_c (v := 1) (lo := 1) (hi := 1) (by decide)) (by decide)) (by decide)) hm110) E
        refine J_if_le (tgt := 28) dX1_weak_18 (by decide) (fun c125 => ?_) (fun c125 => ?_)
        · replace E := xq_ep c125 E
          refine J_lv [0, 1, 2] rfl ?_
          exact jn131 w80 bw80 E
        · replace E := xq_en c125 E
          refine J_iload_n (i := 1) (j := 1) dX1_weak_21 rfl rfl ?_
          refine J_iload_n (i := 2) (j := 2) dX1_weak_22 rfl rfl ?_
          refine J_callSN (As := [.int w81]) (rest := [.int w80]) dX1_weak_23 (c_bit9X (d := 0) (u := u) (g := g) (ex := ex) (pond := w81)  (by decide) (bd_w (l := (-1)) (h := 8) (bd_lt_hi bw81 (i_nle c111) hp0) (by decide))) hq.n k860 k819 k87 k820 np_X10_bit (Nat.le_trans (by decide) hd) (by decide) (Nat.le_refl _) (Nat.le_refl _) wlen rfl (Nat.le_of_ble_eq_true rfl) (fun r_ h_ p132 => ?_)
          obtain ⟨v133, rfl, rfl, h134, hx135⟩ := p132
          replace E := xq_le hx135 E
          refine J_ior dX1_weak_26 ?_
          refine J_istore_n (i := 1) (lw := [(1, .int (w80 ||| v133)), (0, .ref t), (2, .int w81)]) dX1_weak_27 rfl (by decide) rfl ?_
          refine J_lv [1, 0, 2] rfl ?_
          exact jn131 (w80 ||| v133) (bd_or (k := 9) (h := 511) bw80 h134 (by decide)) E
  refine J_lv [2, 1, 0] rfl ?_
  exact lp107 ((9 - (0 : Int32).toInt).toNat + 1) (0 : Int32) (0 : Int32) (bd_w (l := 0) (h := 511) (bd_c (v := 0) (lo := 0) (hi := 0) (by decide)) (by decide)) (bd_w (l := 0) (h := 9) (bd_c (v := 0) (lo := 0) (hi := 0) (by decide)) (by decide)) (Nat.lt_succ_self _) E
set_option maxRecDepth 100000 in
noncomputable def Fx_H_daysToMendX_J36 (ih_lp56 : (Int32) → (Int32) → Int32) (w38 : Int32) (w74 : Int32) : Int32 := ih_lp56 w74 (w38 + 1)
set_option maxRecDepth 100000 in
noncomputable def Fx_H_daysToMendX_L4 (set : Int32) (t : Nat) (u : Nat → Nat → Int32) (g : Nat → Nat → Int64) (n_ : Nat) : (Int32) → (Int32) → Int32 := Nat.rec (motive := fun _ => (Int32) → (Int32) → Int32) (fun _ _ => default) (fun n_ ih_ w37 w38 => if (u t 0) ≤ w38 then (w37) else (xq_lt (Fx_isInX set w38 u g) fun t70 => if t70 = true then (Fx_H_daysToMendX_J36 ih_ w38 (w37 + ((u (t + 4) 0) * (hof u t w38 (4 : Int32))))) else (Fx_H_daysToMendX_J36 ih_ w38 w37))) n_
set_option maxRecDepth 100000 in
theorem Fx_H_daysToMendX_L4_s {set : Int32} {t : Nat} {u : Nat → Nat → Int32} {g : Nat → Nat → Int64} {w37 : Int32} {w38 : Int32} {n_ : Nat} : Fx_H_daysToMendX_L4 set t u g (n_ + 1) w37 w38 = if (u t 0) ≤ w38 then (w37) else (xq_lt (Fx_isInX set w38 u g) fun t70 => if t70 = true then (Fx_H_daysToMendX_J36 (Fx_H_daysToMendX_L4 set t u g n_) w38 (w37 + ((u (t + 4) 0) * (hof u t w38 (4 : Int32))))) else (Fx_H_daysToMendX_J36 (Fx_H_daysToMendX_L4 set t u g n_) w38 w37)) := rfl
set_option maxRecDepth 100000 in
noncomputable def Fx_H_daysToMendX (set : Int32) (t : Nat) (u : Nat → Nat → Int32) (g : Nat → Nat → Int64) : Int32 := Fx_H_daysToMendX_L4 set t u g ((9 - (0 : Int32).toInt).toNat + 1) (0 : Int32) (0 : Int32)
set_option maxHeartbeats 4000000 in
set_option maxRecDepth 100000 in
theorem c_H_daysToMendX {d : Nat} {u : Nat → Nat → Int32} {g : Nat → Nat → Int64} {ex : List MC} {set : Int32} {t : Nat} (hd : 1 ≤ d) (hs_t : t ∈ hl) (hp0 : Bd 0 9 (u t 0)) (hp1 : Bd 0 4 (u t 2)) : CT con0 d 0 0 yX1_daysToMend cX1_daysToMend 4 (some .int) [.ref t, .int set] (Wd u g ex) (fun r h2 => ∃ (z : Int32), r = some (.int z) ∧ h2 = Wd u g ex ∧ z = Fx_H_daysToMendX set t u g) := by
  refine CT_of (by decide) (Nat.le_of_ble_eq_true rfl) (fun x hq => ?_)
  show J x yX1_daysToMend cX1_daysToMend 4 (some .int) d 0 0 (Wd u g ex).length 0 [(0, .ref t), (1, .int set)] [] (Wd u g ex) 0 0
  have E : Fx_H_daysToMendX set t u g = Fx_H_daysToMendX set t u g := rfl
  refine J_iconst (v := 0) dX1_daysToMend_0 (by decide) ?_
  refine J_istore_n (i := 2) (lw := [(2, .int 0), (0, .ref t), (1, .int set)]) dX1_daysToMend_1 rfl (by decide) rfl ?_
  refine J_iconst (v := 0) dX1_daysToMend_2 (by decide) ?_
  refine J_istore_n (i := 3) (lw := [(3, .int 0), (2, .int 0), (0, .ref t), (1, .int set)]) dX1_daysToMend_3 rfl (by decide) rfl ?_
  have lp56 : ∀ (n57 : Nat) (w37 : Int32) (w38 : Int32), Bd 0 9 w38 → (9 - w38.toInt).toNat < n57 → Fx_H_daysToMendX_L4 set t u g n57 w37 w38 = Fx_H_daysToMendX set t u g → J x yX1_daysToMend cX1_daysToMend 4 (some .int) d 0 0 (Wd u g ex).length 4 [(0, .ref t), (1, .int set), (2, .int w37), (3, .int w38)] [] (Wd u g ex) 0 0 := by
    intro n57
    induction n57 with
    | zero => intro w37 w38 bw38 hm59 _; exact absurd hm59 (Nat.not_lt_zero _)
    | succ n57 ih58 =>
      intro w37 w38 bw38 hm59 E
      replace E := Fx_H_daysToMendX_L4_s.symm.trans E
      refine J_iload_n (i := 3) (j := 3) dX1_daysToMend_4 rfl rfl ?_
      refine J_aload_n (i := 0) (j := 0) dX1_daysToMend_5 rfl rfl ?_
      refine J_get (C := RX1) (T := TX1) (Z := 6) (ci := 1) (f := 0) dX1_daysToMend_6 inG1 rfl (by decide) k130 (zh0c hs_t) rfl ?_
      refine J_icmp_ge (tgt := 42) dX1_daysToMend_9 (by decide) (fun c60 => ?_) (fun c60 => ?_)
      · replace E := xq_ep c60 E
        refine J_iload_n (i := 2) (j := 2) dX1_daysToMend_42 rfl rfl ?_
        exact J_iret hq dX1_daysToMend_43 rfl wlen (Nat.le_refl _) (Nat.le_refl _) ⟨w37, rfl, rfl, E⟩
      · replace E := xq_en c60 E
        refine J_iload_n (i := 1) (j := 1) dX1_daysToMend_12 rfl rfl ?_
        refine J_iload_n (i := 3) (j := 3) dX1_daysToMend_13 rfl rfl ?_
        refine J_callSN (As := [.int set, .int w38]) (rest := []) dX1_daysToMend_14 (c_isInX (d := 0) (u := u) (g := g) (ex := ex) (set := set) (pond := w38)  (by decide) ) hq.n k839 k816 k87 k817 np_X10_isIn (Nat.le_trans (by decide) hd) (by decide) (Nat.le_refl _) (Nat.le_refl _) wlen rfl (Nat.le_of_ble_eq_true rfl) (fun r_ h_ p69 => ?_)
        obtain ⟨t70, rfl, rfl, hx71⟩ := p69
        replace E := xq_le hx71 E
        have jn75 : ∀ (w74 : Int32), Fx_H_daysToMendX_J36 (Fx_H_daysToMendX_L4 set t u g n57) w38 w74 = Fx_H_daysToMendX set t u g → J x yX1_daysToMend cX1_daysToMend 4 (some .int) d 0 0 (Wd u g ex).length 36 [(0, .ref t), (1, .int set), (2, .int w74), (3, .int w38)] [] (Wd u g ex) 0 0 := by
          intro w74 E
          refine J_iinc (i := 3) (j := 3) (v := (w38 + 1)) (lw := [(3, .int (w38 + 1)), (0, .ref t), (1, .int set), (2, .int w74)]) dX1_daysToMend_36 rfl rfl (by decide) rfl ?_
          refine J_goto (tgt := 4) dX1_daysToMend_39 (by decide) ?_
          refine J_lv [1, 2, 3, 0] rfl ?_
          exact ih58 w74 (w38 + 1) (bd_w (l := 0) (h := 9) (bd_add (l := 1) (h := 9) (bd_lt_hi bw38 (i_nle c60) hp0) (bd_c (v := 1) (lo := 1) (hi := 1) (by decide)) (by decide)) (by decide)) (mu_up 1 bw38 rfl (by decide) (bd_w (l := 1) (h := 9) (bd_add (l := 1) (h := 9) (bd_lt_hi bw38 (i_nle c60) hp0) (bd_c (v := 1) (lo := 1) (hi := 1) (by decide)) (by decide)) (by decide)) hm59) E
        refine J_ifB_eq (tgt := 36) dX1_daysToMend_17 (by decide) (fun c72 => ?_) (fun c72 => ?_)
        · replace E := xq_ef c72 E
          refine J_lv [0, 1, 2, 3] rfl ?_
          exact jn75 w37  E
        · replace E := xq_ep c72 E
          refine J_iload_n (i := 2) (j := 2) dX1_daysToMend_20 rfl rfl ?_
          refine J_aload_n (i := 0) (j := 0) dX1_daysToMend_21 rfl rfl ?_
          refine J_get (C := RX1) (T := TX1) (Z := 6) (ci := 1) (f := 5) dX1_daysToMend_22 inG1 rfl (by decide) k145 (zh0c hs_t) rfl ?_
          refine J_iconst (v := 0) dX1_daysToMend_25 (by decide) ?_
          refine J_iald dX1_daysToMend_26 (zh4c hs_t) (vin (bd_c (v := 0) (lo := 0) (hi := 0) (by decide)) (by decide)) ?_
          refine J_ci (v := u (t + 4) 0) rfl ?_
          refine J_aload_n (i := 0) (j := 0) dX1_daysToMend_27 rfl rfl ?_
          refine J_iload_n (i := 3) (j := 3) dX1_daysToMend_28 rfl rfl ?_
          refine J_iconst (v := 4) dX1_daysToMend_29 (by decide) ?_
          refine J_callV (As := [.int w38, .int 4]) (rest := [.int (u (t + 4) 0), .int w37]) dX1_daysToMend_30 (c_H_of (d := 0) (u := u) (g := g) (ex := ex) (pond := w38) (column := 4) (t := t) (by decide) hs_t) hq.n k748 k749 k750 (zh0c hs_t) rfl rfl k89 k751 np_X1_of (Nat.le_trans (by decide) hd) (by decide) (Nat.le_refl _) (Nat.le_refl _) wlen rfl (Nat.le_of_ble_eq_true rfl) (fun r_ h_ p76 => ?_)
          obtain ⟨rfl, rfl⟩ := p76
          refine J_imul dX1_daysToMend_33 ?_
          refine J_iadd dX1_daysToMend_34 ?_
          refine J_istore_n (i := 2) (lw := [(2, .int (w37 + ((u (t + 4) 0) * (hof u t w38 (4 : Int32))))), (0, .ref t), (1, .int set), (3, .int w38)]) dX1_daysToMend_35 rfl (by decide) rfl ?_
          refine J_lv [1, 2, 0, 3] rfl ?_
          exact jn75 (w37 + ((u (t + 4) 0) * (hof u t w38 (4 : Int32))))  E
  refine J_lv [2, 3, 1, 0] rfl ?_
  exact lp56 ((9 - (0 : Int32).toInt).toNat + 1) (0 : Int32) (0 : Int32) (bd_w (l := 0) (h := 9) (bd_c (v := 0) (lo := 0) (hi := 0) (by decide)) (by decide)) (Nat.lt_succ_self _) E
set_option maxRecDepth 100000 in
noncomputable def Fx_H_harmOfX_J29 (ih_lp56 : (Int32) → (Int32) → Int32) (w38 : Int32) (w74 : Int32) : Int32 := ih_lp56 w74 (w38 + 1)
set_option maxRecDepth 100000 in
noncomputable def Fx_H_harmOfX_L4 (set : Int32) (t : Nat) (u : Nat → Nat → Int32) (g : Nat → Nat → Int64) (n_ : Nat) : (Int32) → (Int32) → Int32 := Nat.rec (motive := fun _ => (Int32) → (Int32) → Int32) (fun _ _ => default) (fun n_ ih_ w37 w38 => if (u t 0) ≤ w38 then (w37) else (xq_lt (Fx_isInX set w38 u g) fun t70 => if t70 = true then (Fx_H_harmOfX_J29 ih_ w38 (w37 + (hof u t w38 (5 : Int32)))) else (Fx_H_harmOfX_J29 ih_ w38 w37))) n_
set_option maxRecDepth 100000 in
theorem Fx_H_harmOfX_L4_s {set : Int32} {t : Nat} {u : Nat → Nat → Int32} {g : Nat → Nat → Int64} {w37 : Int32} {w38 : Int32} {n_ : Nat} : Fx_H_harmOfX_L4 set t u g (n_ + 1) w37 w38 = if (u t 0) ≤ w38 then (w37) else (xq_lt (Fx_isInX set w38 u g) fun t70 => if t70 = true then (Fx_H_harmOfX_J29 (Fx_H_harmOfX_L4 set t u g n_) w38 (w37 + (hof u t w38 (5 : Int32)))) else (Fx_H_harmOfX_J29 (Fx_H_harmOfX_L4 set t u g n_) w38 w37)) := rfl
set_option maxRecDepth 100000 in
noncomputable def Fx_H_harmOfX (set : Int32) (t : Nat) (u : Nat → Nat → Int32) (g : Nat → Nat → Int64) : Int32 := Fx_H_harmOfX_L4 set t u g ((9 - (0 : Int32).toInt).toNat + 1) (0 : Int32) (0 : Int32)
set_option maxHeartbeats 4000000 in
set_option maxRecDepth 100000 in
theorem c_H_harmOfX {d : Nat} {u : Nat → Nat → Int32} {g : Nat → Nat → Int64} {ex : List MC} {set : Int32} {t : Nat} (hd : 1 ≤ d) (hs_t : t ∈ hl) (hp0 : Bd 0 9 (u t 0)) (hp1 : Bd 0 4 (u t 2)) : CT con0 d 0 0 yX1_harmOf cX1_harmOf 4 (some .int) [.ref t, .int set] (Wd u g ex) (fun r h2 => ∃ (z : Int32), r = some (.int z) ∧ h2 = Wd u g ex ∧ z = Fx_H_harmOfX set t u g) := by
  refine CT_of (by decide) (Nat.le_of_ble_eq_true rfl) (fun x hq => ?_)
  show J x yX1_harmOf cX1_harmOf 4 (some .int) d 0 0 (Wd u g ex).length 0 [(0, .ref t), (1, .int set)] [] (Wd u g ex) 0 0
  have E : Fx_H_harmOfX set t u g = Fx_H_harmOfX set t u g := rfl
  refine J_iconst (v := 0) dX1_harmOf_0 (by decide) ?_
  refine J_istore_n (i := 2) (lw := [(2, .int 0), (0, .ref t), (1, .int set)]) dX1_harmOf_1 rfl (by decide) rfl ?_
  refine J_iconst (v := 0) dX1_harmOf_2 (by decide) ?_
  refine J_istore_n (i := 3) (lw := [(3, .int 0), (2, .int 0), (0, .ref t), (1, .int set)]) dX1_harmOf_3 rfl (by decide) rfl ?_
  have lp56 : ∀ (n57 : Nat) (w37 : Int32) (w38 : Int32), Bd 0 9 w38 → (9 - w38.toInt).toNat < n57 → Fx_H_harmOfX_L4 set t u g n57 w37 w38 = Fx_H_harmOfX set t u g → J x yX1_harmOf cX1_harmOf 4 (some .int) d 0 0 (Wd u g ex).length 4 [(0, .ref t), (1, .int set), (2, .int w37), (3, .int w38)] [] (Wd u g ex) 0 0 := by
    intro n57
    induction n57 with
    | zero => intro w37 w38 bw38 hm59 _; exact absurd hm59 (Nat.not_lt_zero _)
    | succ n57 ih58 =>
      intro w37 w38 bw38 hm59 E
      replace E := Fx_H_harmOfX_L4_s.symm.trans E
      refine J_iload_n (i := 3) (j := 3) dX1_harmOf_4 rfl rfl ?_
      refine J_aload_n (i := 0) (j := 0) dX1_harmOf_5 rfl rfl ?_
      refine J_get (C := RX1) (T := TX1) (Z := 6) (ci := 1) (f := 0) dX1_harmOf_6 inG1 rfl (by decide) k130 (zh0c hs_t) rfl ?_
      refine J_icmp_ge (tgt := 35) dX1_harmOf_9 (by decide) (fun c60 => ?_) (fun c60 => ?_)
      · replace E := xq_ep c60 E
        refine J_iload_n (i := 2) (j := 2) dX1_harmOf_35 rfl rfl ?_
        exact J_iret hq dX1_harmOf_36 rfl wlen (Nat.le_refl _) (Nat.le_refl _) ⟨w37, rfl, rfl, E⟩
      · replace E := xq_en c60 E
        refine J_iload_n (i := 1) (j := 1) dX1_harmOf_12 rfl rfl ?_
        refine J_iload_n (i := 3) (j := 3) dX1_harmOf_13 rfl rfl ?_
        refine J_callSN (As := [.int set, .int w38]) (rest := []) dX1_harmOf_14 (c_isInX (d := 0) (u := u) (g := g) (ex := ex) (set := set) (pond := w38)  (by decide) ) hq.n k839 k816 k87 k817 np_X10_isIn (Nat.le_trans (by decide) hd) (by decide) (Nat.le_refl _) (Nat.le_refl _) wlen rfl (Nat.le_of_ble_eq_true rfl) (fun r_ h_ p69 => ?_)
        obtain ⟨t70, rfl, rfl, hx71⟩ := p69
        replace E := xq_le hx71 E
        have jn75 : ∀ (w74 : Int32), Fx_H_harmOfX_J29 (Fx_H_harmOfX_L4 set t u g n57) w38 w74 = Fx_H_harmOfX set t u g → J x yX1_harmOf cX1_harmOf 4 (some .int) d 0 0 (Wd u g ex).length 29 [(0, .ref t), (1, .int set), (2, .int w74), (3, .int w38)] [] (Wd u g ex) 0 0 := by
          intro w74 E
          refine J_iinc (i := 3) (j := 3) (v := (w38 + 1)) (lw := [(3, .int (w38 + 1)), (0, .ref t), (1, .int set), (2, .int w74)]) dX1_harmOf_29 rfl rfl (by decide) rfl ?_
          refine J_goto (tgt := 4) dX1_harmOf_32 (by decide) ?_
          refine J_lv [1, 2, 3, 0] rfl ?_
          exact ih58 w74 (w38 + 1) (bd_w (l := 0) (h := 9) (bd_add (l := 1) (h := 9) (bd_lt_hi bw38 (i_nle c60) hp0) (bd_c (v := 1) (lo := 1) (hi := 1) (by decide)) (by decide)) (by decide)) (mu_up 1 bw38 rfl (by decide) (bd_w (l := 1) (h := 9) (bd_add (l := 1) (h := 9) (bd_lt_hi bw38 (i_nle c60) hp0) (bd_c (v := 1) (lo := 1) (hi := 1) (by decide)) (by decide)) (by decide)) hm59) E
        refine J_ifB_eq (tgt := 29) dX1_harmOf_17 (by decide) (fun c72 => ?_) (fun c72 => ?_)
        · replace E := xq_ef c72 E
          refine J_lv [0, 1, 2, 3] rfl ?_
          exact jn75 w37  E
        · replace E := xq_ep c72 E
          refine J_iload_n (i := 2) (j := 2) dX1_harmOf_20 rfl rfl ?_
          refine J_aload_n (i := 0) (j := 0) dX1_harmOf_21 rfl rfl ?_
          refine J_iload_n (i := 3) (j := 3) dX1_harmOf_22 rfl rfl ?_
          refine J_iconst (v := 5) dX1_harmOf_23 (by decide) ?_
          refine J_callV (As := [.int w38, .int 5]) (rest := [.int w37]) dX1_harmOf_24 (c_H_of (d := 0) (u := u) (g := g) (ex := ex) (pond := w38) (column := 5) (t := t) (by decide) hs_t) hq.n k748 k749 k750 (zh0c hs_t) rfl rfl k89 k751 np_X1_of (Nat.le_trans (by decide) hd) (by decide) (Nat.le_refl _) (Nat.le_refl _) wlen rfl (Nat.le_of_ble_eq_true rfl) (fun r_ h_ p76 => ?_)
          obtain ⟨rfl, rfl⟩ := p76
          refine J_iadd dX1_harmOf_27 ?_
          refine J_istore_n (i := 2) (lw := [(2, .int (w37 + (hof u t w38 (5 : Int32)))), (0, .ref t), (1, .int set), (3, .int w38)]) dX1_harmOf_28 rfl (by decide) rfl ?_
          refine J_lv [1, 2, 0, 3] rfl ?_
          exact jn75 (w37 + (hof u t w38 (5 : Int32)))  E
  refine J_lv [2, 3, 1, 0] rfl ?_
  exact lp56 ((9 - (0 : Int32).toInt).toNat + 1) (0 : Int32) (0 : Int32) (bd_w (l := 0) (h := 9) (bd_c (v := 0) (lo := 0) (hi := 0) (by decide)) (by decide)) (Nat.lt_succ_self _) E
set_option maxRecDepth 100000 in
noncomputable def Fx_fill_59X_L5 (val : Int32) (n_ : Nat) : (Int32) → (Nat → Nat → Int32) → (Nat → Nat → Int32) := Nat.rec (motive := fun _ => (Int32) → (Nat → Nat → Int32) → (Nat → Nat → Int32)) (fun _ _ => default) (fun n_ ih_ w9 u10 => if (9 : Int32) ≤ w9 then (u10) else (xq_lt (ms u10 59 w9.toNatClampNeg val) fun u20 => ih_ (w9 + 1) u20)) n_
set_option maxRecDepth 100000 in
theorem Fx_fill_59X_L5_s {val : Int32} {w9 : Int32} {u10 : Nat → Nat → Int32} {n_ : Nat} : Fx_fill_59X_L5 val (n_ + 1) w9 u10 = if (9 : Int32) ≤ w9 then (u10) else (xq_lt (ms u10 59 w9.toNatClampNeg val) fun u20 => (Fx_fill_59X_L5 val n_) (w9 + 1) u20) := rfl
set_option maxRecDepth 100000 in
noncomputable def Fx_fill_59X (val : Int32) (u : Nat → Nat → Int32) (g : Nat → Nat → Int64) : (Nat → Nat → Int32) := Fx_fill_59X_L5 val ((9 - (0 : Int32).toInt).toNat + 1) (0 : Int32) u
set_option maxHeartbeats 4000000 in
set_option maxRecDepth 100000 in
theorem c_fill_59X {d : Nat} {u : Nat → Nat → Int32} {g : Nat → Nat → Int64} {ex : List MC} {val : Int32} (hd : 0 ≤ d)  : CT con0 d 0 0 yJ7_fill_53178 cJ7_fill_53178 4 none [.ref 59, .int val] (Wd u g ex) (fun r h2 => ∃ (u2 : Nat → Nat → Int32), r = none ∧ h2 = Wd u2 g ex ∧ u2 = Fx_fill_59X val u g ∧ (∀ c, c ≠ 59 → u2 c = u c)) := by
  refine CT_of (by decide) (Nat.le_of_ble_eq_true rfl) (fun x hq => ?_)
  show J x yJ7_fill_53178 cJ7_fill_53178 4 none d 0 0 (Wd u g ex).length 0 [(0, .ref 59), (1, .int val)] [] (Wd u g ex) 0 0
  have E : Fx_fill_59X val u g = Fx_fill_59X val u g := rfl
  refine J_iconst (v := 0) dJ7_fill_53178_0 (by decide) ?_
  refine J_istore_n (i := 2) (lw := [(2, .int 0), (0, .ref 59), (1, .int val)]) dJ7_fill_53178_1 rfl (by decide) rfl ?_
  refine J_aload_n (i := 0) (j := 1) dJ7_fill_53178_2 rfl rfl ?_
  refine J_alen dJ7_fill_53178_3 wc_59 (fun _ => rfl) ?_
  refine J_ci (v := 9) (by decide) ?_
  refine J_istore_n (i := 3) (lw := [(3, .int 9), (2, .int 0), (0, .ref 59), (1, .int val)]) dJ7_fill_53178_4 rfl (by decide) rfl ?_
  have lp15 : ∀ (n16 : Nat) (w9 : Int32) (u10 : Nat → Nat → Int32), Bd 0 9 w9 → (∀ c, c ≠ 59 → u10 c = u c) → (9 - w9.toInt).toNat < n16 → Fx_fill_59X_L5 val n16 w9 u10 = Fx_fill_59X val u g → J x yJ7_fill_53178 cJ7_fill_53178 4 none d 0 0 (Wd u g ex).length 5 [(0, .ref 59), (1, .int val), (2, .int w9), (3, .int 9)] [] (Wd u10 g ex) 0 0 := by
    intro n16
    induction n16 with
    | zero => intro w9 u10 bw9 fr11 hm18 _; exact absurd hm18 (Nat.not_lt_zero _)
    | succ n16 ih17 =>
      intro w9 u10 bw9 fr11 hm18 E
      replace E := Fx_fill_59X_L5_s.symm.trans E
      refine J_iload_n (i := 2) (j := 2) dJ7_fill_53178_5 rfl rfl ?_
      refine J_iload_n (i := 3) (j := 3) dJ7_fill_53178_6 rfl rfl ?_
      refine J_icmp_ge (tgt := 20) dJ7_fill_53178_7 (by decide) (fun c19 => ?_) (fun c19 => ?_)
      · replace E := xq_ep c19 E
        exact J_vret hq dJ7_fill_53178_20 rfl wlen (Nat.le_refl _) (Nat.le_refl _) ⟨u10, rfl, rfl, E, (fun c k0_ => (fr11 c k0_))⟩
      · replace E := xq_en c19 E
        refine J_aload_n (i := 0) (j := 0) dJ7_fill_53178_10 rfl rfl ?_
        refine J_iload_n (i := 2) (j := 2) dJ7_fill_53178_11 rfl rfl ?_
        refine J_iload_n (i := 1) (j := 1) dJ7_fill_53178_12 rfl rfl ?_
        obtain ⟨u20, e21⟩ : ∃ z, z = ms u10 59 w9.toNatClampNeg val := ⟨_, rfl⟩
        refine J_iast dJ7_fill_53178_13 wc_59 (vin (bd_lt_hi bw9 (i_nle c19) (bd_c (v := 9) (lo := 9) (hi := 9) (by decide))) (by decide)) (ws e21 wk_59 rfl) ?_
        replace E := xq_le e21 E
        refine J_iinc (i := 2) (j := 2) (v := (w9 + 1)) (lw := [(2, .int (w9 + 1)), (0, .ref 59), (1, .int val), (3, .int 9)]) dJ7_fill_53178_14 rfl rfl (by decide) rfl ?_
        refine J_goto (tgt := 5) dJ7_fill_53178_17 (by decide) ?_
        refine J_lv [1, 2, 0, 3] rfl ?_
        exact ih17 (w9 + 1) u20 (bd_w (l := 0) (h := 9) (bd_add (l := 1) (h := 9) (bd_lt_hi bw9 (i_nle c19) (bd_c (v := 9) (lo := 9) (hi := 9) (by decide))) (bd_c (v := 1) (lo := 1) (hi := 1) (by decide)) (by decide)) (by decide)) (fun c k0_ => ((ms_c e21 k0_).trans (fr11 c k0_))) (mu_up 1 bw9 rfl (by decide) (bd_w (l := 1) (h := 9) (bd_add (l := 1) (h := 9) (bd_lt_hi bw9 (i_nle c19) (bd_c (v := 9) (lo := 9) (hi := 9) (by decide))) (bd_c (v := 1) (lo := 1) (hi := 1) (by decide)) (by decide)) (by decide)) hm18) E
  refine J_lv [2, 3, 1, 0] rfl ?_
  exact lp15 ((9 - (0 : Int32).toInt).toNat + 1) (0 : Int32) u (bd_w (l := 0) (h := 9) (bd_c (v := 0) (lo := 0) (hi := 0) (by decide)) (by decide)) (fun c k0_ => rfl) (Nat.lt_succ_self _) E
set_option maxRecDepth 100000 in
noncomputable def Fx_bitCountX (i : Int32) (u : Nat → Nat → Int32) (g : Nat → Nat → Int64) : Int32 := xq_lt ((i.toUInt32 >>> ((1 : Int32).toUInt32 &&& Int32.toUInt32 31)).toInt32) fun v1 => xq_lt (((i - (v1 &&& 1431655765)).toUInt32 >>> ((2 : Int32).toUInt32 &&& Int32.toUInt32 31)).toInt32) fun v2 => xq_lt (((((i - (v1 &&& 1431655765)) &&& 858993459) + (v2 &&& 858993459)).toUInt32 >>> ((4 : Int32).toUInt32 &&& Int32.toUInt32 31)).toInt32) fun v3 => xq_lt (((((((i - (v1 &&& 1431655765)) &&& 858993459) + (v2 &&& 858993459)) + v3) &&& 252645135).toUInt32 >>> ((8 : Int32).toUInt32 &&& Int32.toUInt32 31)).toInt32) fun v4 => xq_lt ((((((((i - (v1 &&& 1431655765)) &&& 858993459) + (v2 &&& 858993459)) + v3) &&& 252645135) + v4).toUInt32 >>> ((16 : Int32).toUInt32 &&& Int32.toUInt32 31)).toInt32) fun v5 => ((((((((i - (v1 &&& 1431655765)) &&& 858993459) + (v2 &&& 858993459)) + v3) &&& 252645135) + v4) + v5) &&& 63)
set_option maxHeartbeats 4000000 in
set_option maxRecDepth 100000 in
theorem c_bitCountX {d : Nat} {u : Nat → Nat → Int32} {g : Nat → Nat → Int64} {ex : List MC} {i : Int32} (hd : 0 ≤ d)  : CT con0 d 0 0 yJ6_bitCount_0f7a4 cJ6_bitCount_0f7a4 1 (some .int) [.int i] (Wd u g ex) (fun r h2 => ∃ (z : Int32), r = some (.int z) ∧ h2 = Wd u g ex ∧ Bd 0 63 z ∧ z = Fx_bitCountX i u g) := by
  refine CT_of (by decide) (Nat.le_of_ble_eq_true rfl) (fun x hq => ?_)
  show J x yJ6_bitCount_0f7a4 cJ6_bitCount_0f7a4 1 (some .int) d 0 0 (Wd u g ex).length 0 [(0, .int i)] [] (Wd u g ex) 0 0
  have E : Fx_bitCountX i u g = Fx_bitCountX i u g := rfl
  refine J_iload_n (i := 0) (j := 0) dJ6_bitCount_0f7a4_0 rfl rfl ?_
  refine J_iload_n (i := 0) (j := 0) dJ6_bitCount_0f7a4_1 rfl rfl ?_
  refine J_iconst (v := 1) dJ6_bitCount_0f7a4_2 (by decide) ?_
  obtain ⟨v1, qv1⟩ : ∃ z : Int32, z = (i.toUInt32 >>> ((1 : Int32).toUInt32 &&& Int32.toUInt32 31)).toInt32 := ⟨_, rfl⟩
  refine J_iushr dJ6_bitCount_0f7a4_3 qv1.symm ?_
  replace E := xq_le qv1 E
  refine J_ldcw (v := 1431655765) dJ6_bitCount_0f7a4_4 k931 ?_
  refine J_iand dJ6_bitCount_0f7a4_7 ?_
  refine J_isub dJ6_bitCount_0f7a4_8 ?_
  refine J_istore_n (i := 0) (lw := [(0, .int (i - (v1 &&& 1431655765)))]) dJ6_bitCount_0f7a4_9 rfl (by decide) rfl ?_
  refine J_iload_n (i := 0) (j := 0) dJ6_bitCount_0f7a4_10 rfl rfl ?_
  refine J_ldcw (v := 858993459) dJ6_bitCount_0f7a4_11 k932 ?_
  refine J_iand dJ6_bitCount_0f7a4_14 ?_
  refine J_iload_n (i := 0) (j := 0) dJ6_bitCount_0f7a4_15 rfl rfl ?_
  refine J_iconst (v := 2) dJ6_bitCount_0f7a4_16 (by decide) ?_
  obtain ⟨v2, qv2⟩ : ∃ z : Int32, z = ((i - (v1 &&& 1431655765)).toUInt32 >>> ((2 : Int32).toUInt32 &&& Int32.toUInt32 31)).toInt32 := ⟨_, rfl⟩
  refine J_iushr dJ6_bitCount_0f7a4_17 qv2.symm ?_
  replace E := xq_le qv2 E
  refine J_ldcw (v := 858993459) dJ6_bitCount_0f7a4_18 k932 ?_
  refine J_iand dJ6_bitCount_0f7a4_21 ?_
  refine J_iadd dJ6_bitCount_0f7a4_22 ?_
  refine J_istore_n (i := 0) (lw := [(0, .int (((i - (v1 &&& 1431655765)) &&& 858993459) + (v2 &&& 858993459)))]) dJ6_bitCount_0f7a4_23 rfl (by decide) rfl ?_
  refine J_iload_n (i := 0) (j := 0) dJ6_bitCount_0f7a4_24 rfl rfl ?_
  refine J_iload_n (i := 0) (j := 0) dJ6_bitCount_0f7a4_25 rfl rfl ?_
  refine J_iconst (v := 4) dJ6_bitCount_0f7a4_26 (by decide) ?_
  obtain ⟨v3, qv3⟩ : ∃ z : Int32, z = ((((i - (v1 &&& 1431655765)) &&& 858993459) + (v2 &&& 858993459)).toUInt32 >>> ((4 : Int32).toUInt32 &&& Int32.toUInt32 31)).toInt32 := ⟨_, rfl⟩
  refine J_iushr dJ6_bitCount_0f7a4_27 qv3.symm ?_
  replace E := xq_le qv3 E
  refine J_iadd dJ6_bitCount_0f7a4_28 ?_
  refine J_ldcw (v := 252645135) dJ6_bitCount_0f7a4_29 k933 ?_
  refine J_iand dJ6_bitCount_0f7a4_32 ?_
  refine J_istore_n (i := 0) (lw := [(0, .int (((((i - (v1 &&& 1431655765)) &&& 858993459) + (v2 &&& 858993459)) + v3) &&& 252645135))]) dJ6_bitCount_0f7a4_33 rfl (by decide) rfl ?_
  refine J_iload_n (i := 0) (j := 0) dJ6_bitCount_0f7a4_34 rfl rfl ?_
  refine J_iload_n (i := 0) (j := 0) dJ6_bitCount_0f7a4_35 rfl rfl ?_
  refine J_bipush (v := 8) dJ6_bitCount_0f7a4_36 (by decide) ?_
  obtain ⟨v4, qv4⟩ : ∃ z : Int32, z = ((((((i - (v1 &&& 1431655765)) &&& 858993459) + (v2 &&& 858993459)) + v3) &&& 252645135).toUInt32 >>> ((8 : Int32).toUInt32 &&& Int32.toUInt32 31)).toInt32 := ⟨_, rfl⟩
  refine J_iushr dJ6_bitCount_0f7a4_38 qv4.symm ?_
  replace E := xq_le qv4 E
  refine J_iadd dJ6_bitCount_0f7a4_39 ?_
  refine J_istore_n (i := 0) (lw := [(0, .int ((((((i - (v1 &&& 1431655765)) &&& 858993459) + (v2 &&& 858993459)) + v3) &&& 252645135) + v4))]) dJ6_bitCount_0f7a4_40 rfl (by decide) rfl ?_
  refine J_iload_n (i := 0) (j := 0) dJ6_bitCount_0f7a4_41 rfl rfl ?_
  refine J_iload_n (i := 0) (j := 0) dJ6_bitCount_0f7a4_42 rfl rfl ?_
  refine J_bipush (v := 16) dJ6_bitCount_0f7a4_43 (by decide) ?_
  obtain ⟨v5, qv5⟩ : ∃ z : Int32, z = (((((((i - (v1 &&& 1431655765)) &&& 858993459) + (v2 &&& 858993459)) + v3) &&& 252645135) + v4).toUInt32 >>> ((16 : Int32).toUInt32 &&& Int32.toUInt32 31)).toInt32 := ⟨_, rfl⟩
  refine J_iushr dJ6_bitCount_0f7a4_45 qv5.symm ?_
  replace E := xq_le qv5 E
  refine J_iadd dJ6_bitCount_0f7a4_46 ?_
  refine J_istore_n (i := 0) (lw := [(0, .int (((((((i - (v1 &&& 1431655765)) &&& 858993459) + (v2 &&& 858993459)) + v3) &&& 252645135) + v4) + v5))]) dJ6_bitCount_0f7a4_47 rfl (by decide) rfl ?_
  refine J_iload_n (i := 0) (j := 0) dJ6_bitCount_0f7a4_48 rfl rfl ?_
  refine J_bipush (v := 63) dJ6_bitCount_0f7a4_49 (by decide) ?_
  refine J_iand dJ6_bitCount_0f7a4_51 ?_
  exact J_iret hq dJ6_bitCount_0f7a4_52 rfl wlen (Nat.le_refl _) (Nat.le_refl _) ⟨((((((((i - (v1 &&& 1431655765)) &&& 858993459) + (v2 &&& 858993459)) + v3) &&& 252645135) + v4) + v5) &&& 63), rfl, rfl, (bd_andr (bd_c (v := 63) (lo := 63) (hi := 63) (by decide)) (by decide)), E⟩
set_option maxRecDepth 100000 in
noncomputable def Fx_H_copyX (t : Nat) (f : Nat) (u : Nat → Nat → Int32) (g : Nat → Nat → Int64) : (Nat → Nat → Int32) := xq_lt (ms u t 0 (u f 0)) fun u1 => xq_lt (ms u1 t 2 (u f 2)) fun u3 => xq_lt (mr u3 (t + 1) (va_cpy (u3 (f + 1)) (u3 (t + 1)) 0 0 144)) fun u5 => xq_lt (mr u5 (t + 2) (va_cpy (u5 (f + 2)) (u5 (t + 2)) 0 0 4)) fun u7 => xq_lt (mr u7 (t + 3) (va_cpy (u7 (f + 3)) (u7 (t + 3)) 0 0 4)) fun u9 => xq_lt (mr u9 (t + 4) (va_cpy (u9 (f + 4)) (u9 (t + 4)) 0 0 3)) fun u11 => u11
set_option maxHeartbeats 4000000 in
set_option maxRecDepth 100000 in
theorem c_H_copyX {d : Nat} {u : Nat → Nat → Int32} {g : Nat → Nat → Int64} {ex : List MC} {t : Nat} {f : Nat} (hd : 1 ≤ d) (hs_t : t ∈ hl) (hs_f : f ∈ hl) (hn_tf : t ≠ f) (hp0 : Bd 0 9 (u f 0)) (hp1 : Bd 0 4 (u f 2)) : CT con0 d 0 0 yX1_copy cX1_copy 2 none [.ref t, .ref f] (Wd u g ex) (fun r h2 => ∃ (u2 : Nat → Nat → Int32), r = none ∧ h2 = Wd u2 g ex ∧ Bd 0 9 (u2 t 0) ∧ Bd 0 4 (u2 t 2) ∧ u2 = Fx_H_copyX t f u g ∧ (∀ c, c ≠ t → c ≠ t + 1 → c ≠ t + 2 → c ≠ t + 3 → c ≠ t + 4 → u2 c = u c) ∧ (∀ j, j ≠ 0 → j ≠ 2 → u2 t j = u t j)) := by
  refine CT_of (by decide) (Nat.le_of_ble_eq_true rfl) (fun x hq => ?_)
  show J x yX1_copy cX1_copy 2 none d 0 0 (Wd u g ex).length 0 [(0, .ref t), (1, .ref f)] [] (Wd u g ex) 0 0
  have E : Fx_H_copyX t f u g = Fx_H_copyX t f u g := rfl
  refine J_aload_n (i := 0) (j := 0) dX1_copy_0 rfl rfl ?_
  refine J_aload_n (i := 1) (j := 1) dX1_copy_1 rfl rfl ?_
  refine J_get (C := RX1) (T := TX1) (Z := 6) (ci := 1) (f := 0) dX1_copy_2 inG1 rfl (by decide) k130 (zh0c hs_f) rfl ?_
  obtain ⟨u1, e2⟩ : ∃ z, z = ms u t 0 (u f 0) := ⟨_, rfl⟩
  refine J_put (C := RX1) (T := TX1) (Z := 6) (ci := 1) (f := 0) (ty0 := tyX1) dX1_copy_5 inG1 rfl tyX1_ok nmX1 (by decide) k130 rfl rfl (zh0c hs_t) (Nat.le_of_ble_eq_true rfl) (fun _ _ => ⟨rfl, rfl⟩) (ws e2 (zh0 hs_t) rfl) ?_
  replace E := xq_le e2 E
  refine J_aload_n (i := 0) (j := 0) dX1_copy_8 rfl rfl ?_
  refine J_aload_n (i := 1) (j := 1) dX1_copy_9 rfl rfl ?_
  refine J_get (C := RX1) (T := TX1) (Z := 6) (ci := 1) (f := 2) dX1_copy_10 inG1 rfl (by decide) k138 (zh0c hs_f) rfl ?_
  refine J_ci (v := u f 2) (congrFun (ms_c e2 (sne2 (i := 0) (j := 0) hs_f hs_t (Ne.symm hn_tf) (by decide))) 2) ?_
  obtain ⟨u3, e4⟩ : ∃ z, z = ms u1 t 2 (u f 2) := ⟨_, rfl⟩
  refine J_put (C := RX1) (T := TX1) (Z := 6) (ci := 1) (f := 2) (ty0 := tyX1) dX1_copy_13 inG1 rfl tyX1_ok nmX1 (by decide) k138 rfl rfl (zh0c hs_t) (Nat.le_of_ble_eq_true rfl) (fun _ _ => ⟨rfl, rfl⟩) (ws e4 (zh0 hs_t) rfl) ?_
  replace E := xq_le e4 E
  refine J_aload_n (i := 1) (j := 1) dX1_copy_16 rfl rfl ?_
  refine J_get (C := RX1) (T := TX1) (Z := 6) (ci := 1) (f := 1) dX1_copy_17 inG1 rfl (by decide) k137 (zh0c hs_f) rfl ?_
  refine J_iconst (v := 0) dX1_copy_20 (by decide) ?_
  refine J_aload_n (i := 0) (j := 0) dX1_copy_21 rfl rfl ?_
  refine J_get (C := RX1) (T := TX1) (Z := 6) (ci := 1) (f := 1) dX1_copy_22 inG1 rfl (by decide) k137 (zh0c hs_t) rfl ?_
  refine J_iconst (v := 0) dX1_copy_25 (by decide) ?_
  refine J_aload_n (i := 0) (j := 0) dX1_copy_26 rfl rfl ?_
  refine J_get (C := RX1) (T := TX1) (Z := 6) (ci := 1) (f := 1) dX1_copy_27 inG1 rfl (by decide) k137 (zh0c hs_t) rfl ?_
  refine J_alen dX1_copy_30 (zh1c hs_t) (fun _ => rfl) ?_
  refine J_ci (v := 144) (by decide) ?_
  obtain ⟨u5, e6⟩ : ∃ z, z = mr u3 (t + 1) (va_cpy (u3 (f + 1)) (u3 (t + 1)) 0 0 144) := ⟨_, rfl⟩
  refine J_copyi (sp := 0) (dp := 0) (nn := 144) dX1_copy_31 k684 k686 k685 k104 (zh1c hs_f) (zh1c hs_t) (by decide) (by decide) (by decide) (by decide) (by decide) (Nat.le_trans (by decide) hd) (Nat.le_of_ble_eq_true rfl) (wsr e6 (zh1 hs_t) rfl) ?_
  replace E := xq_le e6 E
  refine J_aload_n (i := 1) (j := 1) dX1_copy_34 rfl rfl ?_
  refine J_get (C := RX1) (T := TX1) (Z := 6) (ci := 1) (f := 3) dX1_copy_35 inG1 rfl (by decide) k143 (zh0c hs_f) rfl ?_
  refine J_iconst (v := 0) dX1_copy_38 (by decide) ?_
  refine J_aload_n (i := 0) (j := 0) dX1_copy_39 rfl rfl ?_
  refine J_get (C := RX1) (T := TX1) (Z := 6) (ci := 1) (f := 3) dX1_copy_40 inG1 rfl (by decide) k143 (zh0c hs_t) rfl ?_
  refine J_iconst (v := 0) dX1_copy_43 (by decide) ?_
  refine J_iconst (v := 4) dX1_copy_44 (by decide) ?_
  obtain ⟨u7, e8⟩ : ∃ z, z = mr u5 (t + 2) (va_cpy (u5 (f + 2)) (u5 (t + 2)) 0 0 4) := ⟨_, rfl⟩
  refine J_copyi (sp := 0) (dp := 0) (nn := 4) dX1_copy_45 k684 k686 k685 k104 (zh2c hs_f) (zh2c hs_t) (by decide) (by decide) (by decide) (by decide) (by decide) (Nat.le_trans (by decide) hd) (Nat.le_of_ble_eq_true rfl) (wsr e8 (zh2 hs_t) rfl) ?_
  replace E := xq_le e8 E
  refine J_aload_n (i := 1) (j := 1) dX1_copy_48 rfl rfl ?_
  refine J_get (C := RX1) (T := TX1) (Z := 6) (ci := 1) (f := 4) dX1_copy_49 inG1 rfl (by decide) k144 (zh0c hs_f) rfl ?_
  refine J_iconst (v := 0) dX1_copy_52 (by decide) ?_
  refine J_aload_n (i := 0) (j := 0) dX1_copy_53 rfl rfl ?_
  refine J_get (C := RX1) (T := TX1) (Z := 6) (ci := 1) (f := 4) dX1_copy_54 inG1 rfl (by decide) k144 (zh0c hs_t) rfl ?_
  refine J_iconst (v := 0) dX1_copy_57 (by decide) ?_
  refine J_iconst (v := 4) dX1_copy_58 (by decide) ?_
  obtain ⟨u9, e10⟩ : ∃ z, z = mr u7 (t + 3) (va_cpy (u7 (f + 3)) (u7 (t + 3)) 0 0 4) := ⟨_, rfl⟩
  refine J_copyi (sp := 0) (dp := 0) (nn := 4) dX1_copy_59 k684 k686 k685 k104 (zh3c hs_f) (zh3c hs_t) (by decide) (by decide) (by decide) (by decide) (by decide) (Nat.le_trans (by decide) hd) (Nat.le_of_ble_eq_true rfl) (wsr e10 (zh3 hs_t) rfl) ?_
  replace E := xq_le e10 E
  refine J_aload_n (i := 1) (j := 1) dX1_copy_62 rfl rfl ?_
  refine J_get (C := RX1) (T := TX1) (Z := 6) (ci := 1) (f := 5) dX1_copy_63 inG1 rfl (by decide) k145 (zh0c hs_f) rfl ?_
  refine J_iconst (v := 0) dX1_copy_66 (by decide) ?_
  refine J_aload_n (i := 0) (j := 0) dX1_copy_67 rfl rfl ?_
  refine J_get (C := RX1) (T := TX1) (Z := 6) (ci := 1) (f := 5) dX1_copy_68 inG1 rfl (by decide) k145 (zh0c hs_t) rfl ?_
  refine J_iconst (v := 0) dX1_copy_71 (by decide) ?_
  refine J_aload_n (i := 0) (j := 0) dX1_copy_72 rfl rfl ?_
  refine J_get (C := RX1) (T := TX1) (Z := 6) (ci := 1) (f := 5) dX1_copy_73 inG1 rfl (by decide) k145 (zh0c hs_t) rfl ?_
  refine J_alen dX1_copy_76 (zh4c hs_t) (fun _ => rfl) ?_
  refine J_ci (v := 3) (by decide) ?_
  obtain ⟨u11, e12⟩ : ∃ z, z = mr u9 (t + 4) (va_cpy (u9 (f + 4)) (u9 (t + 4)) 0 0 3) := ⟨_, rfl⟩
  refine J_copyi (sp := 0) (dp := 0) (nn := 3) dX1_copy_77 k684 k686 k685 k104 (zh4c hs_f) (zh4c hs_t) (by decide) (by decide) (by decide) (by decide) (by decide) (Nat.le_trans (by decide) hd) (Nat.le_of_ble_eq_true rfl) (wsr e12 (zh4 hs_t) rfl) ?_
  replace E := xq_le e12 E
  exact J_vret hq dX1_copy_80 rfl wlen (Nat.le_refl _) (Nat.le_refl _) ⟨u11, rfl, rfl, (bd_r ((congrFun (mr_c e12 (by omega)) 0).trans ((congrFun (mr_c e10 (by omega)) 0).trans ((congrFun (mr_c e8 (by omega)) 0).trans ((congrFun (mr_c e6 (by omega)) 0).trans ((ms_i e4 (Nat.ne_of_beq_eq_false rfl)).trans (ms_e e2)))))) hp0), (bd_r ((congrFun (mr_c e12 (by omega)) 2).trans ((congrFun (mr_c e10 (by omega)) 2).trans ((congrFun (mr_c e8 (by omega)) 2).trans ((congrFun (mr_c e6 (by omega)) 2).trans (ms_e e4))))) hp1), E, (fun c k0_ k1_ k2_ k3_ k4_ => ((mr_c e12 k4_).trans ((mr_c e10 k3_).trans ((mr_c e8 k2_).trans ((mr_c e6 k1_).trans ((ms_c e4 k0_).trans (ms_c e2 k0_))))))), (fun j k0_ k2_ => ((congrFun (mr_c e12 (by omega)) j).trans ((congrFun (mr_c e10 (by omega)) j).trans ((congrFun (mr_c e8 (by omega)) j).trans ((congrFun (mr_c e6 (by omega)) j).trans ((ms_i e4 k2_).trans (ms_i e2 k0_)))))))⟩
set_option maxRecDepth 100000 in
noncomputable def Fx_S58_hearsX_J60 (ih_lp71 : (Int32) → Bool) (pond : Int32) (t : Nat) (u : Nat → Nat → Int32) (g : Nat → Nat → Int64) (w54 : Int32) (w80 : Int32) : Bool := if w80 = (0 : Int32) then (ih_lp71 (w54 + 1)) else (xq_lt (Fx_isInX (u 58 1) w54 u g) fun t84 => if t84 = true then (if (hof u t w54 (11 : Int32)) < (hof u t pond (12 : Int32)) then (ih_lp71 (w54 + 1)) else (true)) else (ih_lp71 (w54 + 1)))
set_option maxRecDepth 100000 in
noncomputable def Fx_S58_hearsX_L25 (pond : Int32) (t : Nat) (u : Nat → Nat → Int32) (g : Nat → Nat → Int64) (n_ : Nat) : (Int32) → Bool := Nat.rec (motive := fun _ => (Int32) → Bool) (fun _ => default) (fun n_ ih_ w54 => if pond ≤ w54 then (false) else (if (hof u t w54 (8 : Int32)) = pond then (Fx_S58_hearsX_J60 ih_ pond t u g w54 (1 : Int32)) else (if (hof u t w54 (9 : Int32)) = pond then (Fx_S58_hearsX_J60 ih_ pond t u g w54 (1 : Int32)) else (Fx_S58_hearsX_J60 ih_ pond t u g w54 (0 : Int32))))) n_
set_option maxRecDepth 100000 in
theorem Fx_S58_hearsX_L25_s {pond : Int32} {t : Nat} {u : Nat → Nat → Int32} {g : Nat → Nat → Int64} {w54 : Int32} {n_ : Nat} : Fx_S58_hearsX_L25 pond t u g (n_ + 1) w54 = if pond ≤ w54 then (false) else (if (hof u t w54 (8 : Int32)) = pond then (Fx_S58_hearsX_J60 (Fx_S58_hearsX_L25 pond t u g n_) pond t u g w54 (1 : Int32)) else (if (hof u t w54 (9 : Int32)) = pond then (Fx_S58_hearsX_J60 (Fx_S58_hearsX_L25 pond t u g n_) pond t u g w54 (1 : Int32)) else (Fx_S58_hearsX_J60 (Fx_S58_hearsX_L25 pond t u g n_) pond t u g w54 (0 : Int32)))) := rfl
set_option maxRecDepth 100000 in
noncomputable def Fx_S58_hearsX (pond : Int32) (t : Nat) (u : Nat → Nat → Int32) (g : Nat → Nat → Int64) : Bool := if (hof u t pond (12 : Int32)) = ((-1) : Int32) then (false) else (if (u 58 1) = (0 : Int32) then (false) else (Fx_S58_hearsX_L25 pond t u g ((8 - (0 : Int32).toInt).toNat + 1) (0 : Int32)))
set_option maxHeartbeats 4000000 in
set_option maxRecDepth 100000 in
theorem c_S58_hearsX {d : Nat} {u : Nat → Nat → Int32} {g : Nat → Nat → Int64} {ex : List MC} {pond : Int32} {t : Nat} (hd : 1 ≤ d) (hs_t : t ∈ hl) (hp0 : Bd 0 8 pond) : CT con0 d 0 0 yX5_hears cX5_hears 6 (some .boolean) [.ref 58, .ref t, .int pond] (Wd u g ex) (fun r h2 => ∃ (z : Bool), r = some (.int (bI z)) ∧ h2 = Wd u g ex ∧ z = Fx_S58_hearsX pond t u g) := by
  refine CT_of (by decide) (Nat.le_of_ble_eq_true rfl) (fun x hq => ?_)
  show J x yX5_hears cX5_hears 6 (some .boolean) d 0 0 (Wd u g ex).length 0 [(0, .ref 58), (1, .ref t), (2, .int pond)] [] (Wd u g ex) 0 0
  have E : Fx_S58_hearsX pond t u g = Fx_S58_hearsX pond t u g := rfl
  refine J_aload_n (i := 1) (j := 1) dX5_hears_0 rfl rfl ?_
  refine J_iload_n (i := 2) (j := 2) dX5_hears_1 rfl rfl ?_
  refine J_bipush (v := 12) dX5_hears_2 (by decide) ?_
  refine J_callV (As := [.int pond, .int 12]) (rest := []) dX5_hears_4 (c_H_of (d := 0) (u := u) (g := g) (ex := ex) (pond := pond) (column := 12) (t := t) (by decide) hs_t) hq.n k814 k749 k750 (zh0c hs_t) rfl rfl k89 k751 np_X1_of (Nat.le_trans (by decide) hd) (by decide) (Nat.le_refl _) (Nat.le_refl _) wlen rfl (Nat.le_of_ble_eq_true rfl) (fun r_ h_ p1 => ?_)
  obtain ⟨rfl, rfl⟩ := p1
  refine J_istore_n (i := 3) (lw := [(3, .int (hof u t pond (12 : Int32))), (0, .ref 58), (1, .ref t), (2, .int pond)]) dX5_hears_7 rfl (by decide) rfl ?_
  refine J_iload_n (i := 3) (j := 0) dX5_hears_8 rfl rfl ?_
  refine J_iconst (v := (-1)) dX5_hears_9 (by decide) ?_
  refine J_icmp_eq (tgt := 20) dX5_hears_10 (by decide) (fun c2 => ?_) (fun c2 => ?_)
  · replace E := xq_ep c2 E
    refine J_iconst (v := 0) dX5_hears_20 (by decide) ?_
    exact J_zret hq dX5_hears_21 rfl rfl wlen (Nat.le_refl _) (Nat.le_refl _) ⟨false, rfl, rfl, E⟩
  · replace E := xq_en c2 E
    refine J_aload_n (i := 0) (j := 1) dX5_hears_13 rfl rfl ?_
    refine J_get (C := RX5) (T := TX5) (Z := 7) (ci := 5) (f := 1) dX5_hears_14 inG5 rfl (by decide) k320 wc_58 rfl ?_
    refine J_if_ne (tgt := 22) dX5_hears_17 (by decide) (fun c3 => ?_) (fun c3 => ?_)
    · replace E := xq_en c3 E
      refine J_iconst (v := 0) dX5_hears_22 (by decide) ?_
      refine J_istore (i := 4) (lw := [(4, .int 0), (3, .int (hof u t pond (12 : Int32))), (0, .ref 58), (1, .ref t), (2, .int pond)]) dX5_hears_23 (by decide) rfl ?_
      have lp71 : ∀ (n72 : Nat) (w54 : Int32), Bd 0 8 w54 → (8 - w54.toInt).toNat < n72 → Fx_S58_hearsX_L25 pond t u g n72 w54 = Fx_S58_hearsX pond t u g → J x yX5_hears cX5_hears 6 (some .boolean) d 0 0 (Wd u g ex).length 25 [(0, .ref 58), (1, .ref t), (2, .int pond), (3, .int (hof u t pond (12 : Int32))), (4, .int w54)] [] (Wd u g ex) 0 0 := by
        intro n72
        induction n72 with
        | zero => intro w54 bw54 hm74 _; exact absurd hm74 (Nat.not_lt_zero _)
        | succ n72 ih73 =>
          intro w54 bw54 hm74 E
          replace E := Fx_S58_hearsX_L25_s.symm.trans E
          refine J_iload (i := 4) (j := 4) dX5_hears_25 rfl ?_
          refine J_iload_n (i := 2) (j := 2) dX5_hears_27 rfl rfl ?_
          refine J_icmp_ge (tgt := 99) dX5_hears_28 (by decide) (fun c75 => ?_) (fun c75 => ?_)
          · replace E := xq_ep c75 E
            refine J_iconst (v := 0) dX5_hears_99 (by decide) ?_
            exact J_zret hq dX5_hears_100 rfl rfl wlen (Nat.le_refl _) (Nat.le_refl _) ⟨false, rfl, rfl, E⟩
          · replace E := xq_en c75 E
            refine J_aload_n (i := 1) (j := 1) dX5_hears_31 rfl rfl ?_
            refine J_iload (i := 4) (j := 4) dX5_hears_32 rfl ?_
            refine J_bipush (v := 8) dX5_hears_34 (by decide) ?_
            refine J_callV (As := [.int w54, .int 8]) (rest := []) dX5_hears_36 (c_H_of (d := 0) (u := u) (g := g) (ex := ex) (pond := w54) (column := 8) (t := t) (by decide) hs_t) hq.n k814 k749 k750 (zh0c hs_t) rfl rfl k89 k751 np_X1_of (Nat.le_trans (by decide) hd) (by decide) (Nat.le_refl _) (Nat.le_refl _) wlen rfl (Nat.le_of_ble_eq_true rfl) (fun r_ h_ p76 => ?_)
            obtain ⟨rfl, rfl⟩ := p76
            refine J_iload_n (i := 2) (j := 2) dX5_hears_39 rfl rfl ?_
            have jn81 : ∀ (w80 : Int32), Bd 0 1 w80 → Fx_S58_hearsX_J60 (Fx_S58_hearsX_L25 pond t u g n72) pond t u g w54 w80 = Fx_S58_hearsX pond t u g → J x yX5_hears cX5_hears 6 (some .boolean) d 0 0 (Wd u g ex).length 60 [(0, .ref 58), (1, .ref t), (2, .int pond), (3, .int (hof u t pond (12 : Int32))), (4, .int w54)] [.int w80] (Wd u g ex) 0 0 := by
              intro w80 bw80 E
              refine J_istore (i := 5) (lw := [(5, .int w80), (0, .ref 58), (1, .ref t), (2, .int pond), (3, .int (hof u t pond (12 : Int32))), (4, .int w54)]) dX5_hears_60 (by decide) rfl ?_
              refine J_iload (i := 5) (j := 0) dX5_hears_62 rfl ?_
              refine J_if_eq (tgt := 93) dX5_hears_64 (by decide) (fun c82 => ?_) (fun c82 => ?_)
              · replace E := xq_ep c82 E
                refine J_iinc (i := 4) (j := 5) (v := (w54 + 1)) (lw := [(4, .int (w54 + 1)), (5, .int w80), (0, .ref 58), (1, .ref t), (2, .int pond), (3, .int (hof u t pond (12 : Int32)))]) dX5_hears_93 rfl rfl (by decide) rfl ?_
                refine J_goto (tgt := 25) dX5_hears_96 (by decide) ?_
                refine J_lv [2, 3, 4, 5, 0] rfl ?_
                exact ih73 (w54 + 1) (bd_w (l := 0) (h := 8) (bd_add (l := 1) (h := 8) (bd_lt_hi bw54 (i_nle c75) hp0) (bd_c (v := 1) (lo := 1) (hi := 1) (by decide)) (by decide)) (by decide)) (mu_up 1 bw54 rfl (by decide) (bd_w (l := 1) (h := 8) (bd_add (l := 1) (h := 8) (bd_lt_hi bw54 (i_nle c75) hp0) (bd_c (v := 1) (lo := 1) (hi := 1) (by decide)) (by decide)) (by decide)) hm74) E
              · replace E := xq_en c82 E
                refine J_aload_n (i := 0) (j := 1) dX5_hears_67 rfl rfl ?_
                refine J_get (C := RX5) (T := TX5) (Z := 7) (ci := 5) (f := 1) dX5_hears_68 inG5 rfl (by decide) k320 wc_58 rfl ?_
                refine J_iload (i := 4) (j := 5) dX5_hears_71 rfl ?_
                refine J_callSN (As := [.int (u 58 1), .int w54]) (rest := []) dX5_hears_73 (c_isInX (d := 0) (u := u) (g := g) (ex := ex) (set := u 58 1) (pond := w54)  (by decide) ) hq.n k815 k816 k87 k817 np_X10_isIn (Nat.le_trans (by decide) hd) (by decide) (Nat.le_refl _) (Nat.le_refl _) wlen rfl (Nat.le_of_ble_eq_true rfl) (fun r_ h_ p83 => ?_)
                obtain ⟨t84, rfl, rfl, hx85⟩ := p83
                replace E := xq_le hx85 E
                refine J_ifB_eq (tgt := 93) dX5_hears_76 (by decide) (fun c86 => ?_) (fun c86 => ?_)
                · replace E := xq_ef c86 E
                  refine J_iinc (i := 4) (j := 5) (v := (w54 + 1)) (lw := [(4, .int (w54 + 1)), (5, .int w80), (0, .ref 58), (1, .ref t), (2, .int pond), (3, .int (hof u t pond (12 : Int32)))]) dX5_hears_93 rfl rfl (by decide) rfl ?_
                  refine J_goto (tgt := 25) dX5_hears_96 (by decide) ?_
                  refine J_lv [2, 3, 4, 5, 0] rfl ?_
                  exact ih73 (w54 + 1) (bd_w (l := 0) (h := 8) (bd_add (l := 1) (h := 8) (bd_lt_hi bw54 (i_nle c75) hp0) (bd_c (v := 1) (lo := 1) (hi := 1) (by decide)) (by decide)) (by decide)) (mu_up 1 bw54 rfl (by decide) (bd_w (l := 1) (h := 8) (bd_add (l := 1) (h := 8) (bd_lt_hi bw54 (i_nle c75) hp0) (bd_c (v := 1) (lo := 1) (hi := 1) (by decide)) (by decide)) (by decide)) hm74) E
                · replace E := xq_ep c86 E
                  refine J_aload_n (i := 1) (j := 2) dX5_hears_79 rfl rfl ?_
                  refine J_iload (i := 4) (j := 5) dX5_hears_80 rfl ?_
                  refine J_bipush (v := 11) dX5_hears_82 (by decide) ?_
                  refine J_callV (As := [.int w54, .int 11]) (rest := []) dX5_hears_84 (c_H_of (d := 0) (u := u) (g := g) (ex := ex) (pond := w54) (column := 11) (t := t) (by decide) hs_t) hq.n k814 k749 k750 (zh0c hs_t) rfl rfl k89 k751 np_X1_of (Nat.le_trans (by decide) hd) (by decide) (Nat.le_refl _) (Nat.le_refl _) wlen rfl (Nat.le_of_ble_eq_true rfl) (fun r_ h_ p87 => ?_)
                  obtain ⟨rfl, rfl⟩ := p87
                  refine J_iload_n (i := 3) (j := 4) dX5_hears_87 rfl rfl ?_
                  refine J_icmp_lt (tgt := 93) dX5_hears_88 (by decide) (fun c88 => ?_) (fun c88 => ?_)
                  · replace E := xq_ep c88 E
                    refine J_iinc (i := 4) (j := 5) (v := (w54 + 1)) (lw := [(4, .int (w54 + 1)), (5, .int w80), (0, .ref 58), (1, .ref t), (2, .int pond), (3, .int (hof u t pond (12 : Int32)))]) dX5_hears_93 rfl rfl (by decide) rfl ?_
                    refine J_goto (tgt := 25) dX5_hears_96 (by decide) ?_
                    refine J_lv [2, 3, 4, 5, 0] rfl ?_
                    exact ih73 (w54 + 1) (bd_w (l := 0) (h := 8) (bd_add (l := 1) (h := 8) (bd_lt_hi bw54 (i_nle c75) hp0) (bd_c (v := 1) (lo := 1) (hi := 1) (by decide)) (by decide)) (by decide)) (mu_up 1 bw54 rfl (by decide) (bd_w (l := 1) (h := 8) (bd_add (l := 1) (h := 8) (bd_lt_hi bw54 (i_nle c75) hp0) (bd_c (v := 1) (lo := 1) (hi := 1) (by decide)) (by decide)) (by decide)) hm74) E
                  · replace E := xq_en c88 E
                    refine J_iconst (v := 1) dX5_hears_91 (by decide) ?_
                    exact J_zret hq dX5_hears_92 rfl rfl wlen (Nat.le_refl _) (Nat.le_refl _) ⟨true, rfl, rfl, E⟩
            refine J_icmp_eq (tgt := 55) dX5_hears_40 (by decide) (fun c77 => ?_) (fun c77 => ?_)
            · replace E := xq_ep c77 E
              refine J_iconst (v := 1) dX5_hears_55 (by decide) ?_
              refine J_goto (tgt := 60) dX5_hears_56 (by decide) ?_
              refine J_lv [0, 1, 2, 3, 4] rfl ?_
              exact jn81 (1 : Int32) (bd_w (l := 0) (h := 1) (bd_c (v := 1) (lo := 1) (hi := 1) (by decide)) (by decide)) E
            · replace E := xq_en c77 E
              refine J_aload_n (i := 1) (j := 1) dX5_hears_43 rfl rfl ?_
              refine J_iload (i := 4) (j := 4) dX5_hears_44 rfl ?_
              refine J_bipush (v := 9) dX5_hears_46 (by decide) ?_
              refine J_callV (As := [.int w54, .int 9]) (rest := []) dX5_hears_48 (c_H_of (d := 0) (u := u) (g := g) (ex := ex) (pond := w54) (column := 9) (t := t) (by decide) hs_t) hq.n k814 k749 k750 (zh0c hs_t) rfl rfl k89 k751 np_X1_of (Nat.le_trans (by decide) hd) (by decide) (Nat.le_refl _) (Nat.le_refl _) wlen rfl (Nat.le_of_ble_eq_true rfl) (fun r_ h_ p89 => ?_)
              obtain ⟨rfl, rfl⟩ := p89
              refine J_iload_n (i := 2) (j := 2) dX5_hears_51 rfl rfl ?_
              refine J_icmp_ne (tgt := 59) dX5_hears_52 (by decide) (fun c90 => ?_) (fun c90 => ?_)
              · replace E := xq_en c90 E
                refine J_iconst (v := 0) dX5_hears_59 (by decide) ?_
                refine J_lv [0, 1, 2, 3, 4] rfl ?_
                exact jn81 (0 : Int32) (bd_w (l := 0) (h := 1) (bd_c (v := 0) (lo := 0) (hi := 0) (by decide)) (by decide)) E
              · replace E := xq_ep c90 E
                refine J_iconst (v := 1) dX5_hears_55 (by decide) ?_
                refine J_goto (tgt := 60) dX5_hears_56 (by decide) ?_
                refine J_lv [0, 1, 2, 3, 4] rfl ?_
                exact jn81 (1 : Int32) (bd_w (l := 0) (h := 1) (bd_c (v := 1) (lo := 1) (hi := 1) (by decide)) (by decide)) E
      refine J_lv [2, 3, 4, 1, 0] rfl ?_
      exact lp71 ((8 - (0 : Int32).toInt).toNat + 1) (0 : Int32) (bd_w (l := 0) (h := 8) (bd_c (v := 0) (lo := 0) (hi := 0) (by decide)) (by decide)) (Nat.lt_succ_self _) E
    · replace E := xq_ep c3 E
      refine J_iconst (v := 0) dX5_hears_20 (by decide) ?_
      exact J_zret hq dX5_hears_21 rfl rfl wlen (Nat.le_refl _) (Nat.le_refl _) ⟨false, rfl, rfl, E⟩
set_option maxRecDepth 100000 in
noncomputable def Fx_S58_goesX (pond : Int32) (banks : Int32) (t : Nat) (u : Nat → Nat → Int32) (g : Nat → Nat → Int64) : Bool := if (hof u t pond (15 : Int32)) = (1 : Int32) then (false) else (xq_lt (Fx_isInX banks pond u g) fun t4 => if t4 = true then (true) else (xq_lt (u 59 pond.toNatClampNeg) fun v7 => if (v7 - (hof u t pond (0 : Int32))) ≤ (hof u t pond (3 : Int32)) then (false) else (true)))
set_option maxHeartbeats 4000000 in
set_option maxRecDepth 100000 in
theorem c_S58_goesX {d : Nat} {u : Nat → Nat → Int32} {g : Nat → Nat → Int64} {ex : List MC} {pond : Int32} {banks : Int32} {t : Nat} (hd : 1 ≤ d) (hs_t : t ∈ hl) (hp0 : Bd 0 8 pond) : CT con0 d 0 0 yX5_goes cX5_goes 4 (some .boolean) [.ref 58, .ref t, .int pond, .int banks] (Wd u g ex) (fun r h2 => ∃ (z : Bool), r = some (.int (bI z)) ∧ h2 = Wd u g ex ∧ z = Fx_S58_goesX pond banks t u g) := by
  refine CT_of (by decide) (Nat.le_of_ble_eq_true rfl) (fun x hq => ?_)
  show J x yX5_goes cX5_goes 4 (some .boolean) d 0 0 (Wd u g ex).length 0 [(0, .ref 58), (1, .ref t), (2, .int pond), (3, .int banks)] [] (Wd u g ex) 0 0
  have E : Fx_S58_goesX pond banks t u g = Fx_S58_goesX pond banks t u g := rfl
  refine J_aload_n (i := 1) (j := 1) dX5_goes_0 rfl rfl ?_
  refine J_iload_n (i := 2) (j := 2) dX5_goes_1 rfl rfl ?_
  refine J_bipush (v := 15) dX5_goes_2 (by decide) ?_
  refine J_callV (As := [.int pond, .int 15]) (rest := []) dX5_goes_4 (c_H_of (d := 0) (u := u) (g := g) (ex := ex) (pond := pond) (column := 15) (t := t) (by decide) hs_t) hq.n k814 k749 k750 (zh0c hs_t) rfl rfl k89 k751 np_X1_of (Nat.le_trans (by decide) hd) (by decide) (Nat.le_refl _) (Nat.le_refl _) wlen rfl (Nat.le_of_ble_eq_true rfl) (fun r_ h_ p1 => ?_)
  obtain ⟨rfl, rfl⟩ := p1
  refine J_iconst (v := 1) dX5_goes_7 (by decide) ?_
  refine J_icmp_ne (tgt := 13) dX5_goes_8 (by decide) (fun c2 => ?_) (fun c2 => ?_)
  · replace E := xq_en c2 E
    refine J_iload_n (i := 3) (j := 3) dX5_goes_13 rfl rfl ?_
    refine J_iload_n (i := 2) (j := 2) dX5_goes_14 rfl rfl ?_
    refine J_callSN (As := [.int banks, .int pond]) (rest := []) dX5_goes_15 (c_isInX (d := 0) (u := u) (g := g) (ex := ex) (set := banks) (pond := pond)  (by decide) ) hq.n k815 k816 k87 k817 np_X10_isIn (Nat.le_trans (by decide) hd) (by decide) (Nat.le_refl _) (Nat.le_refl _) wlen rfl (Nat.le_of_ble_eq_true rfl) (fun r_ h_ p3 => ?_)
    obtain ⟨t4, rfl, rfl, hx5⟩ := p3
    replace E := xq_le hx5 E
    refine J_ifB_ne (tgt := 43) dX5_goes_18 (by decide) (fun c6 => ?_) (fun c6 => ?_)
    · replace E := xq_ep c6 E
      refine J_iconst (v := 1) dX5_goes_43 (by decide) ?_
      refine J_goto (tgt := 48) dX5_goes_44 (by decide) ?_
      exact J_zret hq dX5_goes_48 rfl rfl wlen (Nat.le_refl _) (Nat.le_refl _) ⟨true, rfl, rfl, E⟩
    · replace E := xq_ef c6 E
      refine J_aload_n (i := 0) (j := 0) dX5_goes_21 rfl rfl ?_
      refine J_get (C := RX5) (T := TX5) (Z := 7) (ci := 5) (f := 5) dX5_goes_22 inG5 rfl (by decide) k329 wc_58 rfl ?_
      refine J_iload_n (i := 2) (j := 2) dX5_goes_25 rfl rfl ?_
      refine J_iald dX5_goes_26 wc_59 (vin hp0 (by decide)) ?_
      refine J_topi (fun v7 qv7 => ?_)
      replace E := xq_le qv7 E
      refine J_aload_n (i := 1) (j := 1) dX5_goes_27 rfl rfl ?_
      refine J_iload_n (i := 2) (j := 2) dX5_goes_28 rfl rfl ?_
      refine J_iconst (v := 0) dX5_goes_29 (by decide) ?_
      refine J_callV (As := [.int pond, .int 0]) (rest := [.int v7]) dX5_goes_30 (c_H_of (d := 0) (u := u) (g := g) (ex := ex) (pond := pond) (column := 0) (t := t) (by decide) hs_t) hq.n k814 k749 k750 (zh0c hs_t) rfl rfl k89 k751 np_X1_of (Nat.le_trans (by decide) hd) (by decide) (Nat.le_refl _) (Nat.le_refl _) wlen rfl (Nat.le_of_ble_eq_true rfl) (fun r_ h_ p8 => ?_)
      obtain ⟨rfl, rfl⟩ := p8
      refine J_isub dX5_goes_33 ?_
      refine J_aload_n (i := 1) (j := 1) dX5_goes_34 rfl rfl ?_
      refine J_iload_n (i := 2) (j := 2) dX5_goes_35 rfl rfl ?_
      refine J_iconst (v := 3) dX5_goes_36 (by decide) ?_
      refine J_callV (As := [.int pond, .int 3]) (rest := [.int (v7 - (hof u t pond (0 : Int32)))]) dX5_goes_37 (c_H_of (d := 0) (u := u) (g := g) (ex := ex) (pond := pond) (column := 3) (t := t) (by decide) hs_t) hq.n k814 k749 k750 (zh0c hs_t) rfl rfl k89 k751 np_X1_of (Nat.le_trans (by decide) hd) (by decide) (Nat.le_refl _) (Nat.le_refl _) wlen rfl (Nat.le_of_ble_eq_true rfl) (fun r_ h_ p9 => ?_)
      obtain ⟨rfl, rfl⟩ := p9
      refine J_icmp_le (tgt := 47) dX5_goes_40 (by decide) (fun c10 => ?_) (fun c10 => ?_)
      · replace E := xq_ep c10 E
        refine J_iconst (v := 0) dX5_goes_47 (by decide) ?_
        exact J_zret hq dX5_goes_48 rfl rfl wlen (Nat.le_refl _) (Nat.le_refl _) ⟨false, rfl, rfl, E⟩
      · replace E := xq_en c10 E
        refine J_iconst (v := 1) dX5_goes_43 (by decide) ?_
        refine J_goto (tgt := 48) dX5_goes_44 (by decide) ?_
        exact J_zret hq dX5_goes_48 rfl rfl wlen (Nat.le_refl _) (Nat.le_refl _) ⟨true, rfl, rfl, E⟩
  · replace E := xq_ep c2 E
    refine J_iconst (v := 0) dX5_goes_11 (by decide) ?_
    exact J_zret hq dX5_goes_12 rfl rfl wlen (Nat.le_refl _) (Nat.le_refl _) ⟨false, rfl, rfl, E⟩
set_option maxRecDepth 100000 in
noncomputable def Fx_S58_leavingX (pond : Int32) (keeps : Int32) (t : Nat) (u : Nat → Nat → Int32) (g : Nat → Nat → Int64) : Int32 := if keeps = (0 : Int32) then (xq_lt (Fx_isInX (u 58 1) pond u g) fun t3 => if t3 = true then (xq_lt (u 59 pond.toNatClampNeg) fun v6 => v6) else (if (hof u t pond (15 : Int32)) = (1 : Int32) then (xq_lt (u 59 pond.toNatClampNeg) fun v12 => v12) else (xq_lt (u 59 pond.toNatClampNeg) fun v9 => xq_lt (if (0 : Int32) < (v9 - (hof u t pond (0 : Int32))) then (v9 - (hof u t pond (0 : Int32))) else (0 : Int32)) fun v11 => v11))) else ((0 : Int32))
set_option maxHeartbeats 4000000 in
set_option maxRecDepth 100000 in
theorem c_S58_leavingX {d : Nat} {u : Nat → Nat → Int32} {g : Nat → Nat → Int64} {ex : List MC} {pond : Int32} {keeps : Int32} {t : Nat} (hd : 1 ≤ d) (hs_t : t ∈ hl) (hp0 : Bd 0 8 pond) : CT con0 d 0 0 yX5_leaving cX5_leaving 4 (some .int) [.ref 58, .ref t, .int pond, .int keeps] (Wd u g ex) (fun r h2 => ∃ (z : Int32), r = some (.int z) ∧ h2 = Wd u g ex ∧ z = Fx_S58_leavingX pond keeps t u g) := by
  refine CT_of (by decide) (Nat.le_of_ble_eq_true rfl) (fun x hq => ?_)
  show J x yX5_leaving cX5_leaving 4 (some .int) d 0 0 (Wd u g ex).length 0 [(0, .ref 58), (1, .ref t), (2, .int pond), (3, .int keeps)] [] (Wd u g ex) 0 0
  have E : Fx_S58_leavingX pond keeps t u g = Fx_S58_leavingX pond keeps t u g := rfl
  refine J_iload_n (i := 3) (j := 3) dX5_leaving_0 rfl rfl ?_
  refine J_if_eq (tgt := 6) dX5_leaving_1 (by decide) (fun c1 => ?_) (fun c1 => ?_)
  · replace E := xq_ep c1 E
    refine J_aload_n (i := 0) (j := 0) dX5_leaving_6 rfl rfl ?_
    refine J_get (C := RX5) (T := TX5) (Z := 7) (ci := 5) (f := 1) dX5_leaving_7 inG5 rfl (by decide) k320 wc_58 rfl ?_
    refine J_iload_n (i := 2) (j := 2) dX5_leaving_10 rfl rfl ?_
    refine J_callSN (As := [.int (u 58 1), .int pond]) (rest := []) dX5_leaving_11 (c_isInX (d := 0) (u := u) (g := g) (ex := ex) (set := u 58 1) (pond := pond)  (by decide) ) hq.n k815 k816 k87 k817 np_X10_isIn (Nat.le_trans (by decide) hd) (by decide) (Nat.le_refl _) (Nat.le_refl _) wlen rfl (Nat.le_of_ble_eq_true rfl) (fun r_ h_ p2 => ?_)
    obtain ⟨t3, rfl, rfl, hx4⟩ := p2
    replace E := xq_le hx4 E
    refine J_ifB_ne (tgt := 28) dX5_leaving_14 (by decide) (fun c5 => ?_) (fun c5 => ?_)
    · replace E := xq_ep c5 E
      refine J_aload_n (i := 0) (j := 0) dX5_leaving_28 rfl rfl ?_
      refine J_get (C := RX5) (T := TX5) (Z := 7) (ci := 5) (f := 5) dX5_leaving_29 inG5 rfl (by decide) k329 wc_58 rfl ?_
      refine J_iload_n (i := 2) (j := 2) dX5_leaving_32 rfl rfl ?_
      refine J_iald dX5_leaving_33 wc_59 (vin hp0 (by decide)) ?_
      refine J_topi (fun v6 qv6 => ?_)
      replace E := xq_le qv6 E
      exact J_iret hq dX5_leaving_34 rfl wlen (Nat.le_refl _) (Nat.le_refl _) ⟨v6, rfl, rfl, E⟩
    · replace E := xq_ef c5 E
      refine J_aload_n (i := 1) (j := 1) dX5_leaving_17 rfl rfl ?_
      refine J_iload_n (i := 2) (j := 2) dX5_leaving_18 rfl rfl ?_
      refine J_bipush (v := 15) dX5_leaving_19 (by decide) ?_
      refine J_callV (As := [.int pond, .int 15]) (rest := []) dX5_leaving_21 (c_H_of (d := 0) (u := u) (g := g) (ex := ex) (pond := pond) (column := 15) (t := t) (by decide) hs_t) hq.n k814 k749 k750 (zh0c hs_t) rfl rfl k89 k751 np_X1_of (Nat.le_trans (by decide) hd) (by decide) (Nat.le_refl _) (Nat.le_refl _) wlen rfl (Nat.le_of_ble_eq_true rfl) (fun r_ h_ p7 => ?_)
      obtain ⟨rfl, rfl⟩ := p7
      refine J_iconst (v := 1) dX5_leaving_24 (by decide) ?_
      refine J_icmp_ne (tgt := 35) dX5_leaving_25 (by decide) (fun c8 => ?_) (fun c8 => ?_)
      · replace E := xq_en c8 E
        refine J_iconst (v := 0) dX5_leaving_35 (by decide) ?_
        refine J_aload_n (i := 0) (j := 0) dX5_leaving_36 rfl rfl ?_
        refine J_get (C := RX5) (T := TX5) (Z := 7) (ci := 5) (f := 5) dX5_leaving_37 inG5 rfl (by decide) k329 wc_58 rfl ?_
        refine J_iload_n (i := 2) (j := 2) dX5_leaving_40 rfl rfl ?_
        refine J_iald dX5_leaving_41 wc_59 (vin hp0 (by decide)) ?_
        refine J_topi (fun v9 qv9 => ?_)
        replace E := xq_le qv9 E
        refine J_aload_n (i := 1) (j := 1) dX5_leaving_42 rfl rfl ?_
        refine J_iload_n (i := 2) (j := 2) dX5_leaving_43 rfl rfl ?_
        refine J_iconst (v := 0) dX5_leaving_44 (by decide) ?_
        refine J_callV (As := [.int pond, .int 0]) (rest := [.int v9, .int 0]) dX5_leaving_45 (c_H_of (d := 0) (u := u) (g := g) (ex := ex) (pond := pond) (column := 0) (t := t) (by decide) hs_t) hq.n k814 k749 k750 (zh0c hs_t) rfl rfl k89 k751 np_X1_of (Nat.le_trans (by decide) hd) (by decide) (Nat.le_refl _) (Nat.le_refl _) wlen rfl (Nat.le_of_ble_eq_true rfl) (fun r_ h_ p10 => ?_)
        obtain ⟨rfl, rfl⟩ := p10
        refine J_isub dX5_leaving_48 ?_
        refine J_mmax dX5_leaving_49 k829 k688 k99 k689 (Nat.le_trans (by decide) hd) (Nat.le_of_ble_eq_true rfl) (Nat.zero_le _) (Nat.zero_le _) ?_
        refine J_topi (fun v11 qv11 => ?_)
        replace E := xq_le qv11 E
        exact J_iret hq dX5_leaving_52 rfl wlen (Nat.le_refl _) (Nat.le_refl _) ⟨v11, rfl, rfl, E⟩
      · replace E := xq_ep c8 E
        refine J_aload_n (i := 0) (j := 0) dX5_leaving_28 rfl rfl ?_
        refine J_get (C := RX5) (T := TX5) (Z := 7) (ci := 5) (f := 5) dX5_leaving_29 inG5 rfl (by decide) k329 wc_58 rfl ?_
        refine J_iload_n (i := 2) (j := 2) dX5_leaving_32 rfl rfl ?_
        refine J_iald dX5_leaving_33 wc_59 (vin hp0 (by decide)) ?_
        refine J_topi (fun v12 qv12 => ?_)
        replace E := xq_le qv12 E
        exact J_iret hq dX5_leaving_34 rfl wlen (Nat.le_refl _) (Nat.le_refl _) ⟨v12, rfl, rfl, E⟩
  · replace E := xq_en c1 E
    refine J_iconst (v := 0) dX5_leaving_4 (by decide) ?_
    exact J_iret hq dX5_leaving_5 rfl wlen (Nat.le_refl _) (Nat.le_refl _) ⟨(0 : Int32), rfl, rfl, E⟩
set_option maxRecDepth 100000 in
noncomputable def Fx_S58_passX_J58 (pond : Int32) (t : Nat) (u : Nat → Nat → Int32) (g : Nat → Nat → Int64) (w13 : Int32) (u14 : Nat → Nat → Int32) : (Nat → Nat → Int32) := xq_lt (Fx_H_hasX (hof u t pond (8 : Int32)) t u14 g) fun t18 => if t18 = true then (xq_lt (u14 59 (hof u t pond (8 : Int32)).toNatClampNeg) fun v25 => xq_lt (u14 60 pond.toNatClampNeg) fun v26 => xq_lt (ms u14 59 ((hof u t pond (8 : Int32)).toNatClampNeg) (v25 + (v26 - w13))) fun u27 => u27) else (xq_lt (u14 60 pond.toNatClampNeg) fun v22 => xq_lt (ms u14 58 4 ((u 58 4) + (v22 - w13))) fun u23 => u23)
set_option maxRecDepth 100000 in
noncomputable def Fx_S58_passX (pond : Int32) (t : Nat) (u : Nat → Nat → Int32) (g : Nat → Nat → Int64) : (Nat → Nat → Int32) := xq_lt (Fx_H_hasX (hof u t pond (9 : Int32)) t u g) fun t4 => if t4 = true then (xq_lt (u 60 pond.toNatClampNeg) fun v29 => xq_lt (u 59 (hof u t pond (9 : Int32)).toNatClampNeg) fun v31 => xq_lt (ms u 59 ((hof u t pond (9 : Int32)).toNatClampNeg) (v31 + ((v29 * (hof u t pond (10 : Int32))) / 10))) fun u32 => Fx_S58_passX_J58 pond t u g ((v29 * (hof u t pond (10 : Int32))) / 10) u32) else (Fx_S58_passX_J58 pond t u g (0 : Int32) u)
set_option maxHeartbeats 4000000 in
set_option maxRecDepth 100000 in
theorem c_S58_passX {d : Nat} {u : Nat → Nat → Int32} {g : Nat → Nat → Int64} {ex : List MC} {pond : Int32} {t : Nat} (hd : 1 ≤ d) (hs_t : t ∈ hl) (hp0 : Bd 0 9 (u t 0)) (hp1 : Bd 0 4 (u t 2)) (hp2 : Bd 0 8 pond) : CT con0 d 0 0 yX5_pass cX5_pass 6 none [.ref 58, .ref t, .int pond] (Wd u g ex) (fun r h2 => ∃ (u2 : Nat → Nat → Int32), r = none ∧ h2 = Wd u2 g ex ∧ u2 = Fx_S58_passX pond t u g ∧ (∀ c, c ≠ 58 → c ≠ 59 → u2 c = u c) ∧ (∀ j, j ≠ 4 → u2 58 j = u 58 j)) := by
  refine CT_of (by decide) (Nat.le_of_ble_eq_true rfl) (fun x hq => ?_)
  show J x yX5_pass cX5_pass 6 none d 0 0 (Wd u g ex).length 0 [(0, .ref 58), (1, .ref t), (2, .int pond)] [] (Wd u g ex) 0 0
  have E : Fx_S58_passX pond t u g = Fx_S58_passX pond t u g := rfl
  refine J_aload_n (i := 1) (j := 1) dX5_pass_0 rfl rfl ?_
  refine J_iload_n (i := 2) (j := 2) dX5_pass_1 rfl rfl ?_
  refine J_bipush (v := 9) dX5_pass_2 (by decide) ?_
  refine J_callV (As := [.int pond, .int 9]) (rest := []) dX5_pass_4 (c_H_of (d := 0) (u := u) (g := g) (ex := ex) (pond := pond) (column := 9) (t := t) (by decide) hs_t) hq.n k814 k749 k750 (zh0c hs_t) rfl rfl k89 k751 np_X1_of (Nat.le_trans (by decide) hd) (by decide) (Nat.le_refl _) (Nat.le_refl _) wlen rfl (Nat.le_of_ble_eq_true rfl) (fun r_ h_ p1 => ?_)
  obtain ⟨rfl, rfl⟩ := p1
  refine J_istore_n (i := 3) (lw := [(3, .int (hof u t pond (9 : Int32))), (0, .ref 58), (1, .ref t), (2, .int pond)]) dX5_pass_7 rfl (by decide) rfl ?_
  refine J_aload_n (i := 1) (j := 2) dX5_pass_8 rfl rfl ?_
  refine J_iload_n (i := 2) (j := 3) dX5_pass_9 rfl rfl ?_
  refine J_bipush (v := 8) dX5_pass_10 (by decide) ?_
  refine J_callV (As := [.int pond, .int 8]) (rest := []) dX5_pass_12 (c_H_of (d := 0) (u := u) (g := g) (ex := ex) (pond := pond) (column := 8) (t := t) (by decide) hs_t) hq.n k814 k749 k750 (zh0c hs_t) rfl rfl k89 k751 np_X1_of (Nat.le_trans (by decide) hd) (by decide) (Nat.le_refl _) (Nat.le_refl _) wlen rfl (Nat.le_of_ble_eq_true rfl) (fun r_ h_ p2 => ?_)
  obtain ⟨rfl, rfl⟩ := p2
  refine J_istore (i := 4) (lw := [(4, .int (hof u t pond (8 : Int32))), (3, .int (hof u t pond (9 : Int32))), (0, .ref 58), (1, .ref t), (2, .int pond)]) dX5_pass_15 (by decide) rfl ?_
  refine J_iconst (v := 0) dX5_pass_17 (by decide) ?_
  refine J_istore (i := 5) (lw := [(5, .int 0), (4, .int (hof u t pond (8 : Int32))), (3, .int (hof u t pond (9 : Int32))), (0, .ref 58), (1, .ref t), (2, .int pond)]) dX5_pass_18 (by decide) rfl ?_
  refine J_aload_n (i := 1) (j := 4) dX5_pass_20 rfl rfl ?_
  refine J_iload_n (i := 3) (j := 2) dX5_pass_21 rfl rfl ?_
  refine J_callV (As := [.int (hof u t pond (9 : Int32))]) (rest := []) dX5_pass_22 (c_H_hasX (d := 0) (u := u) (g := g) (ex := ex) (pond := (hof u t pond (9 : Int32))) (t := t) (by decide) hs_t hp0 hp1) hq.n k834 k741 k742 (zh0c hs_t) rfl rfl k89 k743 np_X1_has (Nat.le_trans (by decide) hd) (by decide) (Nat.le_refl _) (Nat.le_refl _) wlen rfl (Nat.le_of_ble_eq_true rfl) (fun r_ h_ p3 => ?_)
  obtain ⟨t4, rfl, rfl, h5, hx6⟩ := p3
  replace E := xq_le hx6 E
  have jn16 : ∀ (w13 : Int32) (u14 : Nat → Nat → Int32), (∀ c, c ≠ 59 → u14 c = u c) → Fx_S58_passX_J58 pond t u g w13 u14 = Fx_S58_passX pond t u g → J x yX5_pass cX5_pass 6 none d 0 0 (Wd u g ex).length 58 [(0, .ref 58), (1, .ref t), (2, .int pond), (4, .int (hof u t pond (8 : Int32))), (5, .int w13)] [] (Wd u14 g ex) 0 0 := by
    intro w13 u14 fr15 E
    refine J_aload_n (i := 1) (j := 1) dX5_pass_58 rfl rfl ?_
    refine J_iload (i := 4) (j := 3) dX5_pass_59 rfl ?_
    refine J_callV (As := [.int (hof u t pond (8 : Int32))]) (rest := []) dX5_pass_61 (c_H_hasX (d := 0) (u := u14) (g := g) (ex := ex) (pond := (hof u t pond (8 : Int32))) (t := t) (by decide) hs_t (bd_r (congrFun (fr15 t (sne (i := 0) (c := 59) hs_t (by decide))) 0) hp0) (bd_r (congrFun (fr15 t (sne (i := 0) (c := 59) hs_t (by decide))) 2) hp1)) hq.n k834 k741 k742 (zh0c hs_t) rfl rfl k89 k743 np_X1_has (Nat.le_trans (by decide) hd) (by decide) (Nat.le_refl _) (Nat.le_refl _) wlen rfl (Nat.le_of_ble_eq_true rfl) (fun r_ h_ p17 => ?_)
    obtain ⟨t18, rfl, rfl, h19, hx20⟩ := p17
    replace E := xq_le hx20 E
    refine J_ifB_eq (tgt := 89) dX5_pass_64 (by decide) (fun c21 => ?_) (fun c21 => ?_)
    · replace E := xq_ef c21 E
      refine J_aload_n (i := 0) (j := 0) dX5_pass_89 rfl rfl ?_
      refine J_dup dX5_pass_90 rfl ?_
      refine J_get (C := RX5) (T := TX5) (Z := 7) (ci := 5) (f := 4) dX5_pass_91 inG5 rfl (by decide) k327 wc_58 rfl ?_
      refine J_ci (v := u 58 4) (congrFun (fr15 58 (Nat.ne_of_beq_eq_false rfl)) 4) ?_
      refine J_aload_n (i := 0) (j := 0) dX5_pass_94 rfl rfl ?_
      refine J_get (C := RX5) (T := TX5) (Z := 7) (ci := 5) (f := 6) dX5_pass_95 inG5 rfl (by decide) k330 wc_58 rfl ?_
      refine J_iload_n (i := 2) (j := 2) dX5_pass_98 rfl rfl ?_
      refine J_iald dX5_pass_99 wc_60 (vin hp2 (by decide)) ?_
      refine J_topi (fun v22 qv22 => ?_)
      replace E := xq_le qv22 E
      refine J_iload (i := 5) (j := 4) dX5_pass_100 rfl ?_
      refine J_isub dX5_pass_102 ?_
      refine J_iadd dX5_pass_103 ?_
      obtain ⟨u23, e24⟩ : ∃ z, z = ms u14 58 4 ((u 58 4) + (v22 - w13)) := ⟨_, rfl⟩
      refine J_put (C := RX5) (T := TX5) (Z := 7) (ci := 5) (f := 4) (ty0 := tyX5) dX5_pass_104 inG5 rfl tyX5_ok nmX5 (by decide) k327 rfl rfl wc_58 (Nat.le_of_ble_eq_true rfl) (fun _ _ => ⟨rfl, rfl⟩) (ws e24 wk_58 rfl) ?_
      replace E := xq_le e24 E
      exact J_vret hq dX5_pass_107 rfl wlen (Nat.le_refl _) (Nat.le_refl _) ⟨u23, rfl, rfl, E, (fun c k0_ k1_ => ((ms_c e24 k0_).trans (fr15 c k1_))), (fun j k4_ => ((ms_i e24 k4_).trans (congrFun (fr15 58 (Nat.ne_of_beq_eq_false rfl)) j)))⟩
    · replace E := xq_ep c21 E
      refine J_aload_n (i := 0) (j := 0) dX5_pass_67 rfl rfl ?_
      refine J_get (C := RX5) (T := TX5) (Z := 7) (ci := 5) (f := 5) dX5_pass_68 inG5 rfl (by decide) k329 wc_58 rfl ?_
      refine J_iload (i := 4) (j := 3) dX5_pass_71 rfl ?_
      refine J_dup2_11 dX5_pass_73 rfl rfl ?_
      refine J_iald dX5_pass_74 wc_59 (vin (h19 c21) (by decide)) ?_
      refine J_topi (fun v25 qv25 => ?_)
      replace E := xq_le qv25 E
      refine J_aload_n (i := 0) (j := 0) dX5_pass_75 rfl rfl ?_
      refine J_get (C := RX5) (T := TX5) (Z := 7) (ci := 5) (f := 6) dX5_pass_76 inG5 rfl (by decide) k330 wc_58 rfl ?_
      refine J_iload_n (i := 2) (j := 2) dX5_pass_79 rfl rfl ?_
      refine J_iald dX5_pass_80 wc_60 (vin hp2 (by decide)) ?_
      refine J_topi (fun v26 qv26 => ?_)
      replace E := xq_le qv26 E
      refine J_iload (i := 5) (j := 4) dX5_pass_81 rfl ?_
      refine J_isub dX5_pass_83 ?_
      refine J_iadd dX5_pass_84 ?_
      obtain ⟨u27, e28⟩ : ∃ z, z = ms u14 59 ((hof u t pond (8 : Int32)).toNatClampNeg) (v25 + (v26 - w13)) := ⟨_, rfl⟩
      refine J_iast dX5_pass_85 wc_59 (vin (h19 c21) (by decide)) (ws e28 wk_59 rfl) ?_
      replace E := xq_le e28 E
      refine J_goto (tgt := 107) dX5_pass_86 (by decide) ?_
      exact J_vret hq dX5_pass_107 rfl wlen (Nat.le_refl _) (Nat.le_refl _) ⟨u27, rfl, rfl, E, (fun c k0_ k1_ => ((ms_c e28 k1_).trans (fr15 c k1_))), (fun j k4_ => ((congrFun (ms_c e28 (Nat.ne_of_beq_eq_false rfl)) j).trans (congrFun (fr15 58 (Nat.ne_of_beq_eq_false rfl)) j)))⟩
  refine J_ifB_eq (tgt := 58) dX5_pass_25 (by decide) (fun c7 => ?_) (fun c7 => ?_)
  · replace E := xq_ef c7 E
    refine J_lv [3, 4, 5, 1, 0] rfl ?_
    exact jn16 (0 : Int32) u (fun c k0_ => rfl) E
  · replace E := xq_ep c7 E
    refine J_aload_n (i := 0) (j := 3) dX5_pass_28 rfl rfl ?_
    refine J_get (C := RX5) (T := TX5) (Z := 7) (ci := 5) (f := 6) dX5_pass_29 inG5 rfl (by decide) k330 wc_58 rfl ?_
    refine J_iload_n (i := 2) (j := 5) dX5_pass_32 rfl rfl ?_
    refine J_iald dX5_pass_33 wc_60 (vin hp2 (by decide)) ?_
    refine J_topi (fun v29 qv29 => ?_)
    replace E := xq_le qv29 E
    refine J_aload_n (i := 1) (j := 4) dX5_pass_34 rfl rfl ?_
    refine J_iload_n (i := 2) (j := 5) dX5_pass_35 rfl rfl ?_
    refine J_bipush (v := 10) dX5_pass_36 (by decide) ?_
    refine J_callV (As := [.int pond, .int 10]) (rest := [.int v29]) dX5_pass_38 (c_H_of (d := 0) (u := u) (g := g) (ex := ex) (pond := pond) (column := 10) (t := t) (by decide) hs_t) hq.n k814 k749 k750 (zh0c hs_t) rfl rfl k89 k751 np_X1_of (Nat.le_trans (by decide) hd) (by decide) (Nat.le_refl _) (Nat.le_refl _) wlen rfl (Nat.le_of_ble_eq_true rfl) (fun r_ h_ p30 => ?_)
    obtain ⟨rfl, rfl⟩ := p30
    refine J_imul dX5_pass_41 ?_
    refine J_bipush (v := 10) dX5_pass_42 (by decide) ?_
    refine J_idiv dX5_pass_44 (by decide) ?_
    refine J_istore (i := 5) (lw := [(5, .int ((v29 * (hof u t pond (10 : Int32))) / 10)), (4, .int (hof u t pond (8 : Int32))), (3, .int (hof u t pond (9 : Int32))), (0, .ref 58), (1, .ref t), (2, .int pond)]) dX5_pass_45 (by decide) rfl ?_
    refine J_aload_n (i := 0) (j := 3) dX5_pass_47 rfl rfl ?_
    refine J_get (C := RX5) (T := TX5) (Z := 7) (ci := 5) (f := 5) dX5_pass_48 inG5 rfl (by decide) k329 wc_58 rfl ?_
    refine J_iload_n (i := 3) (j := 2) dX5_pass_51 rfl rfl ?_
    refine J_dup2_11 dX5_pass_52 rfl rfl ?_
    refine J_iald dX5_pass_53 wc_59 (vin (h5 c7) (by decide)) ?_
    refine J_topi (fun v31 qv31 => ?_)
    replace E := xq_le qv31 E
    refine J_iload (i := 5) (j := 0) dX5_pass_54 rfl ?_
    refine J_iadd dX5_pass_56 ?_
    obtain ⟨u32, e33⟩ : ∃ z, z = ms u 59 ((hof u t pond (9 : Int32)).toNatClampNeg) (v31 + ((v29 * (hof u t pond (10 : Int32))) / 10)) := ⟨_, rfl⟩
    refine J_iast dX5_pass_57 wc_59 (vin (h5 c7) (by decide)) (ws e33 wk_59 rfl) ?_
    replace E := xq_le e33 E
    refine J_lv [3, 4, 5, 1, 0] rfl ?_
    exact jn16 ((v29 * (hof u t pond (10 : Int32))) / 10) u32 (fun c k0_ => (ms_c e33 k0_)) E
set_option maxRecDepth 100000 in
noncomputable def Fx_S58_runX_J187 (ih_lp873 : (Int32) → (Nat → Nat → Int32) → (Nat → Nat → Int32)) (t : Nat) (g : Nat → Nat → Int64) (w637 : Int32) (u1067 : Nat → Nat → Int32) (v1076 : Int32) (w1080 : Int32) : (Nat → Nat → Int32) := xq_lt (ms u1067 60 w637.toNatClampNeg (v1076 + w1080)) fun u1082 => xq_lt (Fx_S58_passX w637 t u1082 g) fun u1085 => ih_lp873 (w637 + 1) u1085
set_option maxRecDepth 100000 in
noncomputable def Fx_S58_runX_J168 (ih_lp873 : (Int32) → (Nat → Nat → Int32) → (Nat → Nat → Int32)) (t : Nat) (u : Nat → Nat → Int32) (g : Nat → Nat → Int64) (w637 : Int32) (t1034 : Bool) (u1067 : Nat → Nat → Int32) (w1073 : Int32) : (Nat → Nat → Int32) := xq_lt (Fx_S58_leavingX w637 w1073 t u1067 g) fun v1076 => if t1034 = true then (Fx_S58_runX_J187 ih_lp873 t g w637 u1067 v1076 (hof u t w637 (1 : Int32))) else (Fx_S58_runX_J187 ih_lp873 t g w637 u1067 v1076 (0 : Int32))
set_option maxRecDepth 100000 in
noncomputable def Fx_S58_runX_J146 (ih_lp873 : (Int32) → (Nat → Nat → Int32) → (Nat → Nat → Int32)) (keeper : Int32) (t : Nat) (u : Nat → Nat → Int32) (g : Nat → Nat → Int64) (w637 : Int32) (t1034 : Bool) (u1067 : Nat → Nat → Int32) : (Nat → Nat → Int32) := if w637 = keeper then (Fx_S58_runX_J168 ih_lp873 t u g w637 t1034 u1067 (1 : Int32)) else (Fx_S58_runX_J168 ih_lp873 t u g w637 t1034 u1067 (0 : Int32))
set_option maxRecDepth 100000 in
noncomputable def Fx_S58_runX_J114 (ih_lp873 : (Int32) → (Nat → Nat → Int32) → (Nat → Nat → Int32)) (banks : Int32) (keeper : Int32) (t : Nat) (u : Nat → Nat → Int32) (g : Nat → Nat → Int64) (w637 : Int32) (u638 : Nat → Nat → Int32) (t1034 : Bool) (u1051 : Nat → Nat → Int32) : (Nat → Nat → Int32) := if w637 = keeper then (Fx_S58_runX_J146 ih_lp873 keeper t u g w637 t1034 u1051) else (xq_lt (Fx_S58_goesX w637 banks t u1051 g) fun t1091 => if t1091 = true then (xq_lt (Fx_bit9X w637 u1051 g) fun v1095 => xq_lt (ms u1051 58 1 ((u638 58 1) ||| v1095)) fun u1098 => Fx_S58_runX_J146 ih_lp873 keeper t u g w637 t1034 u1098) else (Fx_S58_runX_J146 ih_lp873 keeper t u g w637 t1034 u1051))
set_option maxRecDepth 100000 in
noncomputable def Fx_S58_runX_J92 (ih_lp873 : (Int32) → (Nat → Nat → Int32) → (Nat → Nat → Int32)) (steps : Int32) (banks : Int32) (keeper : Int32) (t : Nat) (u : Nat → Nat → Int32) (g : Nat → Nat → Int64) (w637 : Int32) (u638 : Nat → Nat → Int32) (t1034 : Bool) (v1036 : Int32) (w1040 : Int32) : (Nat → Nat → Int32) := xq_lt (ms u638 59 w637.toNatClampNeg (v1036 + ((steps * (hof u t w637 (2 : Int32))) + w1040))) fun u1042 => if t1034 = true then (xq_lt (Fx_bit9X w637 u1042 g) fun v1101 => xq_lt (ms u1042 58 3 ((u638 58 3) ||| v1101)) fun u1104 => Fx_S58_runX_J114 ih_lp873 banks keeper t u g w637 u638 t1034 u1104) else (Fx_S58_runX_J114 ih_lp873 banks keeper t u g w637 u638 t1034 u1042)
set_option maxRecDepth 100000 in
noncomputable def Fx_S58_runX_L34 (steps : Int32) (banks : Int32) (keeper : Int32) (t : Nat) (u : Nat → Nat → Int32) (g : Nat → Nat → Int64) (n_ : Nat) : (Int32) → (Nat → Nat → Int32) → (Nat → Nat → Int32) := Nat.rec (motive := fun _ => (Int32) → (Nat → Nat → Int32) → (Nat → Nat → Int32)) (fun _ _ => default) (fun n_ ih_ w637 u638 => if (u t 0) ≤ w637 then (xq_lt (Fx_H_harmOfX (u638 58 1) t u638 g) fun v954 => xq_lt (ms u638 58 2 v954) fun u956 => u956) else (if (9 : Int32) ≤ w637 then (default) else (xq_lt (Fx_S58_hearsX w637 t u638 g) fun t1034 => xq_lt (u638 59 w637.toNatClampNeg) fun v1036 => if t1034 = true then (Fx_S58_runX_J92 ih_ steps banks keeper t u g w637 u638 t1034 v1036 (0 : Int32)) else (Fx_S58_runX_J92 ih_ steps banks keeper t u g w637 u638 t1034 v1036 (hof u t w637 (1 : Int32)))))) n_
set_option maxRecDepth 100000 in
theorem Fx_S58_runX_L34_s {steps : Int32} {banks : Int32} {keeper : Int32} {t : Nat} {u : Nat → Nat → Int32} {g : Nat → Nat → Int64} {w637 : Int32} {u638 : Nat → Nat → Int32} {n_ : Nat} : Fx_S58_runX_L34 steps banks keeper t u g (n_ + 1) w637 u638 = if (u t 0) ≤ w637 then (xq_lt (Fx_H_harmOfX (u638 58 1) t u638 g) fun v954 => xq_lt (ms u638 58 2 v954) fun u956 => u956) else (if (9 : Int32) ≤ w637 then (default) else (xq_lt (Fx_S58_hearsX w637 t u638 g) fun t1034 => xq_lt (u638 59 w637.toNatClampNeg) fun v1036 => if t1034 = true then (Fx_S58_runX_J92 (Fx_S58_runX_L34 steps banks keeper t u g n_) steps banks keeper t u g w637 u638 t1034 v1036 (0 : Int32)) else (Fx_S58_runX_J92 (Fx_S58_runX_L34 steps banks keeper t u g n_) steps banks keeper t u g w637 u638 t1034 v1036 (hof u t w637 (1 : Int32))))) := rfl
set_option maxRecDepth 100000 in
noncomputable def Fx_S58_runX (steps : Int32) (banks : Int32) (keeper : Int32) (t : Nat) (u : Nat → Nat → Int32) (g : Nat → Nat → Int64) : (Nat → Nat → Int32) := xq_lt (ms u 58 0 (u t 0)) fun u1 => xq_lt (ms u1 58 1 0) fun u3 => xq_lt (ms u3 58 3 0) fun u5 => xq_lt (ms u5 58 4 0) fun u7 => xq_lt (Fx_fill_59X (0 : Int32) u7 g) fun u10 => Fx_S58_runX_L34 steps banks keeper t u g ((9 - (0 : Int32).toInt).toNat + 1) (0 : Int32) u10
set_option maxHeartbeats 4000000 in
set_option maxRecDepth 100000 in
theorem c_S58_runX {d : Nat} {u : Nat → Nat → Int32} {g : Nat → Nat → Int64} {ex : List MC} {steps : Int32} {banks : Int32} {keeper : Int32} {t : Nat} (hd : 2 ≤ d) (hs_t : t ∈ hl) (hp0 : Bd 0 9 (u t 0)) (hp1 : Bd 0 4 (u t 2)) : CT con0 d 0 0 yX5_run cX5_run 7 none [.ref 58, .ref t, .int steps, .int banks, .int keeper] (Wd u g ex) (fun r h2 => ∃ (u2 : Nat → Nat → Int32), r = none ∧ h2 = Wd u2 g ex ∧ Bd 0 9 (u2 58 0) ∧ Bd 0 511 (u2 58 1) ∧ u2 = Fx_S58_runX steps banks keeper t u g ∧ (∀ c, nin c [(58, 60)] = true → u2 c = u c) ∧ (∀ j, j ≠ 0 → j ≠ 1 → j ≠ 2 → j ≠ 3 → j ≠ 4 → u2 58 j = u 58 j)) := by
  refine CT_of (by decide) (Nat.le_of_ble_eq_true rfl) (fun x hq => ?_)
  show J x yX5_run cX5_run 7 none d 0 0 (Wd u g ex).length 0 [(0, .ref 58), (1, .ref t), (2, .int steps), (3, .int banks), (4, .int keeper)] [] (Wd u g ex) 0 0
  have E : Fx_S58_runX steps banks keeper t u g = Fx_S58_runX steps banks keeper t u g := rfl
  refine J_aload_n (i := 0) (j := 0) dX5_run_0 rfl rfl ?_
  refine J_aload_n (i := 1) (j := 1) dX5_run_1 rfl rfl ?_
  refine J_getN (C := RX1) (T := TX1) (Z := 6) (ci := 1) (f := 0) dX5_run_2 inG1 rfl (by decide) k131 (zh0c hs_t) rfl ?_
  obtain ⟨u1, e2⟩ : ∃ z, z = ms u 58 0 (u t 0) := ⟨_, rfl⟩
  refine J_put (C := RX5) (T := TX5) (Z := 7) (ci := 5) (f := 0) (ty0 := tyX5) dX5_run_5 inG5 rfl tyX5_ok nmX5 (by decide) k319 rfl rfl wc_58 (Nat.le_of_ble_eq_true rfl) (fun _ _ => ⟨rfl, rfl⟩) (ws e2 wk_58 rfl) ?_
  replace E := xq_le e2 E
  refine J_aload_n (i := 0) (j := 0) dX5_run_8 rfl rfl ?_
  refine J_iconst (v := 0) dX5_run_9 (by decide) ?_
  obtain ⟨u3, e4⟩ : ∃ z, z = ms u1 58 1 0 := ⟨_, rfl⟩
  refine J_put (C := RX5) (T := TX5) (Z := 7) (ci := 5) (f := 1) (ty0 := tyX5) dX5_run_10 inG5 rfl tyX5_ok nmX5 (by decide) k320 rfl rfl wc_58 (Nat.le_of_ble_eq_true rfl) (fun _ _ => ⟨rfl, rfl⟩) (ws e4 wk_58 rfl) ?_
  replace E := xq_le e4 E
  refine J_aload_n (i := 0) (j := 0) dX5_run_13 rfl rfl ?_
  refine J_iconst (v := 0) dX5_run_14 (by decide) ?_
  obtain ⟨u5, e6⟩ : ∃ z, z = ms u3 58 3 0 := ⟨_, rfl⟩
  refine J_put (C := RX5) (T := TX5) (Z := 7) (ci := 5) (f := 3) (ty0 := tyX5) dX5_run_15 inG5 rfl tyX5_ok nmX5 (by decide) k326 rfl rfl wc_58 (Nat.le_of_ble_eq_true rfl) (fun _ _ => ⟨rfl, rfl⟩) (ws e6 wk_58 rfl) ?_
  replace E := xq_le e6 E
  refine J_aload_n (i := 0) (j := 0) dX5_run_18 rfl rfl ?_
  refine J_iconst (v := 0) dX5_run_19 (by decide) ?_
  obtain ⟨u7, e8⟩ : ∃ z, z = ms u5 58 4 0 := ⟨_, rfl⟩
  refine J_put (C := RX5) (T := TX5) (Z := 7) (ci := 5) (f := 4) (ty0 := tyX5) dX5_run_20 inG5 rfl tyX5_ok nmX5 (by decide) k327 rfl rfl wc_58 (Nat.le_of_ble_eq_true rfl) (fun _ _ => ⟨rfl, rfl⟩) (ws e8 wk_58 rfl) ?_
  replace E := xq_le e8 E
  refine J_aload_n (i := 0) (j := 0) dX5_run_23 rfl rfl ?_
  refine J_get (C := RX5) (T := TX5) (Z := 7) (ci := 5) (f := 5) dX5_run_24 inG5 rfl (by decide) k329 wc_58 rfl ?_
  refine J_iconst (v := 0) dX5_run_27 (by decide) ?_
  refine J_callS (As := [.ref 59, .int 0]) (rest := []) dX5_run_28 (c_fill_59X (d := 0) (u := u7) (g := g) (ex := ex) (val := 0)  (by decide) ) hq.n k809 k483 k98 k484 np_J7_fill_53178 (Nat.le_trans (by decide) hd) (by decide) (Nat.le_refl _) (Nat.le_refl _) wlen rfl (Nat.le_of_ble_eq_true rfl) (fun r_ h_ p9 => ?_)
  obtain ⟨u10, rfl, rfl, hx11, fr12⟩ := p9
  replace E := xq_le hx11 E
  refine J_iconst (v := 0) dX5_run_31 (by decide) ?_
  refine J_istore (i := 5) (lw := [(5, .int 0), (0, .ref 58), (1, .ref t), (2, .int steps), (3, .int banks), (4, .int keeper)]) dX5_run_32 (by decide) rfl ?_
  have lp873 : ∀ (n874 : Nat) (w637 : Int32) (u638 : Nat → Nat → Int32), Bd 0 9 w637 → (∀ c, nin c [(58, 60)] = true → u638 c = u10 c) → (∀ j, j ≠ 1 → j ≠ 3 → j ≠ 4 → u638 58 j = u10 58 j) → Bd 0 511 (u638 58 1) → Bd 0 511 (u638 58 3) → (9 - w637.toInt).toNat < n874 → Fx_S58_runX_L34 steps banks keeper t u g n874 w637 u638 = Fx_S58_runX steps banks keeper t u g → J x yX5_run cX5_run 7 none d 0 0 (Wd u g ex).length 34 [(0, .ref 58), (1, .ref t), (2, .int steps), (3, .int banks), (4, .int keeper), (5, .int w637)] [] (Wd u638 g ex) 0 0 := by
    intro n874
    induction n874 with
    | zero => intro w637 u638 bw637 fr639 fc640 bm641 bm642 hm876 _; exact absurd hm876 (Nat.not_lt_zero _)
    | succ n874 ih875 =>
      intro w637 u638 bw637 fr639 fc640 bm641 bm642 hm876 E
      replace E := Fx_S58_runX_L34_s.symm.trans E
      refine J_iload (i := 5) (j := 5) dX5_run_34 rfl ?_
      refine J_aload_n (i := 0) (j := 0) dX5_run_36 rfl rfl ?_
      refine J_get (C := RX5) (T := TX5) (Z := 7) (ci := 5) (f := 0) dX5_run_37 inG5 rfl (by decide) k319 wc_58 rfl ?_
      refine J_ci (v := u t 0) ((fc640 0 (Nat.ne_of_beq_eq_false rfl) (Nat.ne_of_beq_eq_false rfl) (Nat.ne_of_beq_eq_false rfl)).trans ((congrFun (fr12 58 (Nat.ne_of_beq_eq_false rfl)) 0).trans ((ms_i e8 (Nat.ne_of_beq_eq_false rfl)).trans ((ms_i e6 (Nat.ne_of_beq_eq_false rfl)).trans ((ms_i e4 (Nat.ne_of_beq_eq_false rfl)).trans (ms_e e2)))))) ?_
      refine J_icmp_ge (tgt := 202) dX5_run_40 (by decide) (fun c877 => ?_) (fun c877 => ?_)
      · replace E := xq_ep c877 E
        refine J_aload_n (i := 0) (j := 0) dX5_run_202 rfl rfl ?_
        refine J_aload_n (i := 1) (j := 1) dX5_run_203 rfl rfl ?_
        refine J_aload_n (i := 0) (j := 0) dX5_run_204 rfl rfl ?_
        refine J_get (C := RX5) (T := TX5) (Z := 7) (ci := 5) (f := 1) dX5_run_205 inG5 rfl (by decide) k320 wc_58 rfl ?_
        refine J_callV (As := [.int (u638 58 1)]) (rest := [.ref 58]) dX5_run_208 (c_H_harmOfX (d := 1) (u := u638) (g := g) (ex := ex) (set := u638 58 1) (t := t) (by decide) hs_t (bd_r ((congrFun (fr639 t (nin_s (i := 0) hs_t (by decide))) 0).trans ((congrFun (fr12 t (sne (i := 0) (c := 59) hs_t (by decide))) 0).trans ((congrFun (ms_c e8 (sne (i := 0) (c := 58) hs_t (by decide))) 0).trans ((congrFun (ms_c e6 (sne (i := 0) (c := 58) hs_t (by decide))) 0).trans ((congrFun (ms_c e4 (sne (i := 0) (c := 58) hs_t (by decide))) 0).trans (congrFun (ms_c e2 (sne (i := 0) (c := 58) hs_t (by decide))) 0)))))) hp0) (bd_r ((congrFun (fr639 t (nin_s (i := 0) hs_t (by decide))) 2).trans ((congrFun (fr12 t (sne (i := 0) (c := 59) hs_t (by decide))) 2).trans ((congrFun (ms_c e8 (sne (i := 0) (c := 58) hs_t (by decide))) 2).trans ((congrFun (ms_c e6 (sne (i := 0) (c := 58) hs_t (by decide))) 2).trans ((congrFun (ms_c e4 (sne (i := 0) (c := 58) hs_t (by decide))) 2).trans (congrFun (ms_c e2 (sne (i := 0) (c := 58) hs_t (by decide))) 2)))))) hp1)) hq.n k835 k836 k837 (zh0c hs_t) rfl rfl k89 k838 np_X1_harmOf (Nat.le_trans (by decide) hd) (by decide) (Nat.le_refl _) (Nat.le_refl _) wlen rfl (Nat.le_of_ble_eq_true rfl) (fun r_ h_ p953 => ?_)
        obtain ⟨v954, rfl, rfl, hx955⟩ := p953
        replace E := xq_le hx955 E
        obtain ⟨u956, e957⟩ : ∃ z, z = ms u638 58 2 v954 := ⟨_, rfl⟩
        refine J_put (C := RX5) (T := TX5) (Z := 7) (ci := 5) (f := 2) (ty0 := tyX5) dX5_run_211 inG5 rfl tyX5_ok nmX5 (by decide) k324 rfl rfl wc_58 (Nat.le_of_ble_eq_true rfl) (fun _ _ => ⟨rfl, rfl⟩) (ws e957 wk_58 rfl) ?_
        replace E := xq_le e957 E
        exact J_vret hq dX5_run_214 rfl wlen (Nat.le_refl _) (Nat.le_refl _) ⟨u956, rfl, rfl, (bd_r ((ms_i e957 (Nat.ne_of_beq_eq_false rfl)).trans ((fc640 0 (Nat.ne_of_beq_eq_false rfl) (Nat.ne_of_beq_eq_false rfl) (Nat.ne_of_beq_eq_false rfl)).trans ((congrFun (fr12 58 (Nat.ne_of_beq_eq_false rfl)) 0).trans ((ms_i e8 (Nat.ne_of_beq_eq_false rfl)).trans ((ms_i e6 (Nat.ne_of_beq_eq_false rfl)).trans ((ms_i e4 (Nat.ne_of_beq_eq_false rfl)).trans (ms_e e2))))))) hp0), (bd_r (ms_i e957 (Nat.ne_of_beq_eq_false rfl)) bm641), E, (fun c k_ => ((ms_c e957 (nin_ne (a := 58) k_ rfl)).trans ((fr639 c (nin_sub (M := [(58, 60)]) k_ rfl)).trans ((fr12 c (nin_ne (a := 59) k_ rfl)).trans ((ms_c e8 (nin_ne (a := 58) k_ rfl)).trans ((ms_c e6 (nin_ne (a := 58) k_ rfl)).trans ((ms_c e4 (nin_ne (a := 58) k_ rfl)).trans (ms_c e2 (nin_ne (a := 58) k_ rfl))))))))), (fun j k0_ k1_ k2_ k3_ k4_ => ((ms_i e957 k2_).trans ((fc640 j k1_ k3_ k4_).trans ((congrFun (fr12 58 (Nat.ne_of_beq_eq_false rfl)) j).trans ((ms_i e8 k4_).trans ((ms_i e6 k3_).trans ((ms_i e4 k1_).trans (ms_i e2 k0_))))))))⟩
      · replace E := xq_en c877 E
        refine J_iload (i := 5) (j := 5) dX5_run_43 rfl ?_
        refine J_bipush (v := 9) dX5_run_45 (by decide) ?_
        refine J_icmp_ge (tgt := 202) dX5_run_47 (by decide) (fun c958 => ?_) (fun c958 => ?_)
        · exact (bd_no (bd_le_lo (bd_lt_hi bw637 (i_nle c877) hp0) c958 (bd_c (v := 9) (lo := 9) (hi := 9) (by decide))) (by decide)).elim
        · replace E := xq_en c958 E
          refine J_aload_n (i := 0) (j := 0) dX5_run_50 rfl rfl ?_
          refine J_aload_n (i := 1) (j := 1) dX5_run_51 rfl rfl ?_
          refine J_iload (i := 5) (j := 5) dX5_run_52 rfl ?_
          refine J_callV (As := [.ref t, .int w637]) (rest := []) dX5_run_54 (c_S58_hearsX (d := 1) (u := u638) (g := g) (ex := ex) (pond := w637) (t := t) (by decide) hs_t (bd_lt_hi bw637 (i_nle c877) hp0)) hq.n k810 k812 k18 wc_58 rfl rfl k94 k813 np_X5_hears (Nat.le_trans (by decide) hd) (by decide) (Nat.le_refl _) (Nat.le_refl _) wlen rfl (Nat.le_of_ble_eq_true rfl) (fun r_ h_ p1033 => ?_)
          obtain ⟨t1034, rfl, rfl, hx1035⟩ := p1033
          replace E := xq_le hx1035 E
          refine J_istore (i := 6) (lw := [(6, .int (bI t1034)), (0, .ref 58), (1, .ref t), (2, .int steps), (3, .int banks), (4, .int keeper), (5, .int w637)]) dX5_run_57 (by decide) rfl ?_
          refine J_aload_n (i := 0) (j := 1) dX5_run_59 rfl rfl ?_
          refine J_get (C := RX5) (T := TX5) (Z := 7) (ci := 5) (f := 5) dX5_run_60 inG5 rfl (by decide) k329 wc_58 rfl ?_
          refine J_iload (i := 5) (j := 6) dX5_run_63 rfl ?_
          refine J_dup2_11 dX5_run_65 rfl rfl ?_
          refine J_iald dX5_run_66 wc_59 (vin (bd_lt_hi bw637 (i_nle c877) hp0) (by decide)) ?_
          refine J_topi (fun v1036 qv1036 => ?_)
          replace E := xq_le qv1036 E
          refine J_iload_n (i := 2) (j := 3) dX5_run_67 rfl rfl ?_
          refine J_aload_n (i := 1) (j := 2) dX5_run_68 rfl rfl ?_
          refine J_iload (i := 5) (j := 6) dX5_run_69 rfl ?_
          refine J_iconst (v := 2) dX5_run_71 (by decide) ?_
          refine J_callV (As := [.int w637, .int 2]) (rest := [.int steps, .int v1036, .int w637, .ref 59]) dX5_run_72 (c_H_of (d := 0) (u := u638) (g := g) (ex := ex) (pond := w637) (column := 2) (t := t) (by decide) hs_t) hq.n k814 k749 k750 (zh0c hs_t) rfl rfl k89 k751 np_X1_of (Nat.le_trans (by decide) hd) (by decide) (Nat.le_refl _) (Nat.le_refl _) wlen rfl (Nat.le_of_ble_eq_true rfl) (fun r_ h_ p1037 => ?_)
          obtain ⟨rfl, rfl⟩ := p1037
          refine J_ci (v := (hof u t w637 (2 : Int32))) (hof_c ((fr639 (t + 1) (nin_s (i := 1) hs_t (by decide))).trans ((fr12 (t + 1) (sne (i := 1) (c := 59) hs_t (by decide))).trans ((ms_c e8 (sne (i := 1) (c := 58) hs_t (by decide))).trans ((ms_c e6 (sne (i := 1) (c := 58) hs_t (by decide))).trans ((ms_c e4 (sne (i := 1) (c := 58) hs_t (by decide))).trans (ms_c e2 (sne (i := 1) (c := 58) hs_t (by decide))))))))) ?_
          refine J_imul dX5_run_75 ?_
          refine J_iload (i := 6) (j := 0) dX5_run_76 rfl ?_
          have jn1041 : ∀ (w1040 : Int32), Fx_S58_runX_J92 (Fx_S58_runX_L34 steps banks keeper t u g n874) steps banks keeper t u g w637 u638 t1034 v1036 w1040 = Fx_S58_runX steps banks keeper t u g → J x yX5_run cX5_run 7 none d 0 0 (Wd u g ex).length 92 [(0, .ref 58), (1, .ref t), (2, .int steps), (3, .int banks), (4, .int keeper), (5, .int w637), (6, .int (bI t1034))] [.int w1040, .int (steps * (hof u t w637 (2 : Int32))), .int v1036, .int w637, .ref 59] (Wd u638 g ex) 0 0 := by
            intro w1040 E
            refine J_iadd dX5_run_92 ?_
            refine J_iadd dX5_run_93 ?_
            obtain ⟨u1042, e1043⟩ : ∃ z, z = ms u638 59 w637.toNatClampNeg (v1036 + ((steps * (hof u t w637 (2 : Int32))) + w1040)) := ⟨_, rfl⟩
            refine J_iast dX5_run_94 wc_59 (vin (bd_lt_hi bw637 (i_nle c877) hp0) (by decide)) (ws e1043 wk_59 rfl) ?_
            replace E := xq_le e1043 E
            refine J_iload (i := 6) (j := 6) dX5_run_95 rfl ?_
            have jn1055 : ∀ (u1051 : Nat → Nat → Int32), (∀ c, c ≠ 58 → u1051 c = u1042 c) → (∀ j, j ≠ 3 → u1051 58 j = u1042 58 j) → Bd 0 511 (u1051 58 3) → Fx_S58_runX_J114 (Fx_S58_runX_L34 steps banks keeper t u g n874) banks keeper t u g w637 u638 t1034 u1051 = Fx_S58_runX steps banks keeper t u g → J x yX5_run cX5_run 7 none d 0 0 (Wd u g ex).length 114 [(0, .ref 58), (1, .ref t), (2, .int steps), (3, .int banks), (4, .int keeper), (5, .int w637), (6, .int (bI t1034))] [] (Wd u1051 g ex) 0 0 := by
              intro u1051 fr1052 fc1053 bm1054 E
              refine J_iload (i := 5) (j := 5) dX5_run_114 rfl ?_
              refine J_iload (i := 4) (j := 4) dX5_run_116 rfl ?_
              have jn1071 : ∀ (u1067 : Nat → Nat → Int32), (∀ c, c ≠ 58 → u1067 c = u1051 c) → (∀ j, j ≠ 1 → u1067 58 j = u1051 58 j) → Bd 0 511 (u1067 58 1) → Fx_S58_runX_J146 (Fx_S58_runX_L34 steps banks keeper t u g n874) keeper t u g w637 t1034 u1067 = Fx_S58_runX steps banks keeper t u g → J x yX5_run cX5_run 7 none d 0 0 (Wd u g ex).length 146 [(0, .ref 58), (1, .ref t), (2, .int steps), (3, .int banks), (4, .int keeper), (5, .int w637), (6, .int (bI t1034))] [] (Wd u1067 g ex) 0 0 := by
                intro u1067 fr1068 fc1069 bm1070 E
                refine J_aload_n (i := 0) (j := 0) dX5_run_146 rfl rfl ?_
                refine J_get (C := RX5) (T := TX5) (Z := 7) (ci := 5) (f := 6) dX5_run_147 inG5 rfl (by decide) k330 wc_58 rfl ?_
                refine J_iload (i := 5) (j := 5) dX5_run_150 rfl ?_
                refine J_aload_n (i := 0) (j := 0) dX5_run_152 rfl rfl ?_
                refine J_aload_n (i := 1) (j := 1) dX5_run_153 rfl rfl ?_
                refine J_iload (i := 5) (j := 5) dX5_run_154 rfl ?_
                refine J_iload (i := 5) (j := 5) dX5_run_156 rfl ?_
                refine J_iload (i := 4) (j := 4) dX5_run_158 rfl ?_
                have jn1074 : ∀ (w1073 : Int32), Bd 0 1 w1073 → Fx_S58_runX_J168 (Fx_S58_runX_L34 steps banks keeper t u g n874) t u g w637 t1034 u1067 w1073 = Fx_S58_runX steps banks keeper t u g → J x yX5_run cX5_run 7 none d 0 0 (Wd u g ex).length 168 [(0, .ref 58), (1, .ref t), (2, .int steps), (3, .int banks), (4, .int keeper), (5, .int w637), (6, .int (bI t1034))] [.int w1073, .int w637, .ref t, .ref 58, .int w637, .ref 60] (Wd u1067 g ex) 0 0 := by
                  intro w1073 bw1073 E
                  refine J_callV (As := [.ref t, .int w637, .int w1073]) (rest := [.int w637, .ref 60]) dX5_run_168 (c_S58_leavingX (d := 1) (u := u1067) (g := g) (ex := ex) (pond := w637) (keeps := w1073) (t := t) (by decide) hs_t (bd_lt_hi bw637 (i_nle c877) hp0)) hq.n k825 k827 k20 wc_58 rfl rfl k94 k828 np_X5_leaving (Nat.le_trans (by decide) hd) (by decide) (Nat.le_refl _) (Nat.le_refl _) wlen rfl (Nat.le_of_ble_eq_true rfl) (fun r_ h_ p1075 => ?_)
                  obtain ⟨v1076, rfl, rfl, hx1077⟩ := p1075
                  replace E := xq_le hx1077 E
                  refine J_iload (i := 6) (j := 6) dX5_run_171 rfl ?_
                  have jn1081 : ∀ (w1080 : Int32), Fx_S58_runX_J187 (Fx_S58_runX_L34 steps banks keeper t u g n874) t g w637 u1067 v1076 w1080 = Fx_S58_runX steps banks keeper t u g → J x yX5_run cX5_run 7 none d 0 0 (Wd u g ex).length 187 [(0, .ref 58), (1, .ref t), (2, .int steps), (3, .int banks), (4, .int keeper), (5, .int w637)] [.int w1080, .int v1076, .int w637, .ref 60] (Wd u1067 g ex) 0 0 := by
                    intro w1080 E
                    refine J_iadd dX5_run_187 ?_
                    obtain ⟨u1082, e1083⟩ : ∃ z, z = ms u1067 60 w637.toNatClampNeg (v1076 + w1080) := ⟨_, rfl⟩
                    refine J_iast dX5_run_188 wc_60 (vin (bd_lt_hi bw637 (i_nle c877) hp0) (by decide)) (ws e1083 wk_60 rfl) ?_
                    replace E := xq_le e1083 E
                    refine J_aload_n (i := 0) (j := 0) dX5_run_189 rfl rfl ?_
                    refine J_aload_n (i := 1) (j := 1) dX5_run_190 rfl rfl ?_
                    refine J_iload (i := 5) (j := 5) dX5_run_191 rfl ?_
                    refine J_callV (As := [.ref t, .int w637]) (rest := []) dX5_run_193 (c_S58_passX (d := 1) (u := u1082) (g := g) (ex := ex) (pond := w637) (t := t) (by decide) hs_t (bd_r ((congrFun (ms_c e1083 (sne (i := 0) (c := 60) hs_t (by decide))) 0).trans ((congrFun (fr1068 t (sne (i := 0) (c := 58) hs_t (by decide))) 0).trans ((congrFun (fr1052 t (sne (i := 0) (c := 58) hs_t (by decide))) 0).trans ((congrFun (ms_c e1043 (sne (i := 0) (c := 59) hs_t (by decide))) 0).trans ((congrFun (fr639 t (nin_s (i := 0) hs_t (by decide))) 0).trans ((congrFun (fr12 t (sne (i := 0) (c := 59) hs_t (by decide))) 0).trans ((congrFun (ms_c e8 (sne (i := 0) (c := 58) hs_t (by decide))) 0).trans ((congrFun (ms_c e6 (sne (i := 0) (c := 58) hs_t (by decide))) 0).trans ((congrFun (ms_c e4 (sne (i := 0) (c := 58) hs_t (by decide))) 0).trans (congrFun (ms_c e2 (sne (i := 0) (c := 58) hs_t (by decide))) 0)))))))))) (bd_w (l := 0) (h := 9) (bd_lt_lo hp0 (i_nle c877) (bd_lt_hi bw637 (i_nle c958) (bd_c (v := 9) (lo := 9) (hi := 9) (by decide)))) (by decide))) (bd_r ((congrFun (ms_c e1083 (sne (i := 0) (c := 60) hs_t (by decide))) 2).trans ((congrFun (fr1068 t (sne (i := 0) (c := 58) hs_t (by decide))) 2).trans ((congrFun (fr1052 t (sne (i := 0) (c := 58) hs_t (by decide))) 2).trans ((congrFun (ms_c e1043 (sne (i := 0) (c := 59) hs_t (by decide))) 2).trans ((congrFun (fr639 t (nin_s (i := 0) hs_t (by decide))) 2).trans ((congrFun (fr12 t (sne (i := 0) (c := 59) hs_t (by decide))) 2).trans ((congrFun (ms_c e8 (sne (i := 0) (c := 58) hs_t (by decide))) 2).trans ((congrFun (ms_c e6 (sne (i := 0) (c := 58) hs_t (by decide))) 2).trans ((congrFun (ms_c e4 (sne (i := 0) (c := 58) hs_t (by decide))) 2).trans (congrFun (ms_c e2 (sne (i := 0) (c := 58) hs_t (by decide))) 2)))))))))) hp1) (bd_lt_hi bw637 (i_nle c877) hp0)) hq.n k830 k832 k21 wc_58 rfl rfl k94 k833 np_X5_pass (Nat.le_trans (by decide) hd) (by decide) (Nat.le_refl _) (Nat.le_refl _) wlen rfl (Nat.le_of_ble_eq_true rfl) (fun r_ h_ p1084 => ?_)
                    obtain ⟨u1085, rfl, rfl, hx1086, fr1087, fc1088⟩ := p1084
                    replace E := xq_le hx1086 E
                    refine J_iinc (i := 5) (j := 5) (v := (w637 + 1)) (lw := [(5, .int (w637 + 1)), (0, .ref 58), (1, .ref t), (2, .int steps), (3, .int banks), (4, .int keeper)]) dX5_run_196 rfl rfl (by decide) rfl ?_
                    refine J_goto (tgt := 34) dX5_run_199 (by decide) ?_
                    refine J_lv [1, 2, 3, 4, 5, 0] rfl ?_
                    exact ih875 (w637 + 1) u1085 (bd_w (l := 0) (h := 9) (bd_add (l := 1) (h := 9) (bd_lt_hi bw637 (i_nle c877) hp0) (bd_c (v := 1) (lo := 1) (hi := 1) (by decide)) (by decide)) (by decide)) (fun c k_ => ((fr1087 c (nin_ne (a := 58) k_ rfl) (nin_ne (a := 59) k_ rfl)).trans ((ms_c e1083 (nin_ne (a := 60) k_ rfl)).trans ((fr1068 c (nin_ne (a := 58) k_ rfl)).trans ((fr1052 c (nin_ne (a := 58) k_ rfl)).trans ((ms_c e1043 (nin_ne (a := 59) k_ rfl)).trans (fr639 c (nin_sub (M := [(58, 60)]) k_ rfl)))))))) (fun j k1_ k3_ k4_ => ((fc1088 j k4_).trans ((congrFun (ms_c e1083 (Nat.ne_of_beq_eq_false rfl)) j).trans ((fc1069 j k1_).trans ((fc1053 j k3_).trans ((congrFun (ms_c e1043 (Nat.ne_of_beq_eq_false rfl)) j).trans (fc640 j k1_ k3_ k4_))))))) (bd_r ((fc1088 1 (Nat.ne_of_beq_eq_false rfl)).trans (congrFun (ms_c e1083 (Nat.ne_of_beq_eq_false rfl)) 1)) bm1070) (bd_r ((fc1088 3 (Nat.ne_of_beq_eq_false rfl)).trans ((congrFun (ms_c e1083 (Nat.ne_of_beq_eq_false rfl)) 3).trans (fc1069 3 (Nat.ne_of_beq_eq_false rfl)))) bm1054) (mu_up 1 bw637 rfl (by decide) (bd_w (l := 1) (h := 9) (bd_add (l := 1) (h := 9) (bd_lt_hi bw637 (i_nle c877) hp0) (bd_c (v := 1) (lo := 1) (hi := 1) (by decide)) (by decide)) (by decide)) hm876) E
                  refine J_ifB_eq (tgt := 186) dX5_run_173 (by decide) (fun c1078 => ?_) (fun c1078 => ?_)
                  · replace E := xq_ef c1078 E
                    refine J_iconst (v := 0) dX5_run_186 (by decide) ?_
                    refine J_lv [0, 1, 2, 3, 4, 5] rfl ?_
                    exact jn1081 (0 : Int32)  E
                  · replace E := xq_ep c1078 E
                    refine J_aload_n (i := 1) (j := 1) dX5_run_176 rfl rfl ?_
                    refine J_iload (i := 5) (j := 5) dX5_run_177 rfl ?_
                    refine J_iconst (v := 1) dX5_run_179 (by decide) ?_
                    refine J_callV (As := [.int w637, .int 1]) (rest := [.int v1076, .int w637, .ref 60]) dX5_run_180 (c_H_of (d := 0) (u := u1067) (g := g) (ex := ex) (pond := w637) (column := 1) (t := t) (by decide) hs_t) hq.n k814 k749 k750 (zh0c hs_t) rfl rfl k89 k751 np_X1_of (Nat.le_trans (by decide) hd) (by decide) (Nat.le_refl _) (Nat.le_refl _) wlen rfl (Nat.le_of_ble_eq_true rfl) (fun r_ h_ p1089 => ?_)
                    obtain ⟨rfl, rfl⟩ := p1089
                    refine J_ci (v := (hof u t w637 (1 : Int32))) (hof_c ((fr1068 (t + 1) (sne (i := 1) (c := 58) hs_t (by decide))).trans ((fr1052 (t + 1) (sne (i := 1) (c := 58) hs_t (by decide))).trans ((ms_c e1043 (sne (i := 1) (c := 59) hs_t (by decide))).trans ((fr639 (t + 1) (nin_s (i := 1) hs_t (by decide))).trans ((fr12 (t + 1) (sne (i := 1) (c := 59) hs_t (by decide))).trans ((ms_c e8 (sne (i := 1) (c := 58) hs_t (by decide))).trans ((ms_c e6 (sne (i := 1) (c := 58) hs_t (by decide))).trans ((ms_c e4 (sne (i := 1) (c := 58) hs_t (by decide))).trans (ms_c e2 (sne (i := 1) (c := 58) hs_t (by decide)))))))))))) ?_
                    refine J_goto (tgt := 187) dX5_run_183 (by decide) ?_
                    refine J_lv [0, 1, 2, 3, 4, 5] rfl ?_
                    exact jn1081 (hof u t w637 (1 : Int32))  E
                refine J_icmp_ne (tgt := 167) dX5_run_160 (by decide) (fun c1072 => ?_) (fun c1072 => ?_)
                · replace E := xq_en c1072 E
                  refine J_iconst (v := 0) dX5_run_167 (by decide) ?_
                  refine J_lv [0, 1, 2, 3, 4, 5, 6] rfl ?_
                  exact jn1074 (0 : Int32) (bd_w (l := 0) (h := 1) (bd_c (v := 0) (lo := 0) (hi := 0) (by decide)) (by decide)) E
                · replace E := xq_ep c1072 E
                  refine J_iconst (v := 1) dX5_run_163 (by decide) ?_
                  refine J_goto (tgt := 168) dX5_run_164 (by decide) ?_
                  refine J_lv [0, 1, 2, 3, 4, 5, 6] rfl ?_
                  exact jn1074 (1 : Int32) (bd_w (l := 0) (h := 1) (bd_c (v := 1) (lo := 1) (hi := 1) (by decide)) (by decide)) E
              refine J_icmp_eq (tgt := 146) dX5_run_118 (by decide) (fun c1056 => ?_) (fun c1056 => ?_)
              · replace E := xq_ep c1056 E
                refine J_lv [0, 1, 2, 3, 4, 5, 6] rfl ?_
                exact jn1071 u1051 (fun c k0_ => rfl) (fun j k1_ => rfl) (bd_r ((fc1053 1 (Nat.ne_of_beq_eq_false rfl)).trans (congrFun (ms_c e1043 (Nat.ne_of_beq_eq_false rfl)) 1)) bm641) E
              · replace E := xq_en c1056 E
                refine J_aload_n (i := 0) (j := 0) dX5_run_121 rfl rfl ?_
                refine J_aload_n (i := 1) (j := 1) dX5_run_122 rfl rfl ?_
                refine J_iload (i := 5) (j := 5) dX5_run_123 rfl ?_
                refine J_iload_n (i := 3) (j := 3) dX5_run_125 rfl rfl ?_
                refine J_callV (As := [.ref t, .int w637, .int banks]) (rest := []) dX5_run_126 (c_S58_goesX (d := 1) (u := u1051) (g := g) (ex := ex) (pond := w637) (banks := banks) (t := t) (by decide) hs_t (bd_lt_hi bw637 (i_nle c877) hp0)) hq.n k821 k823 k19 wc_58 rfl rfl k94 k824 np_X5_goes (Nat.le_trans (by decide) hd) (by decide) (Nat.le_refl _) (Nat.le_refl _) wlen rfl (Nat.le_of_ble_eq_true rfl) (fun r_ h_ p1090 => ?_)
                obtain ⟨t1091, rfl, rfl, hx1092⟩ := p1090
                replace E := xq_le hx1092 E
                refine J_ifB_eq (tgt := 146) dX5_run_129 (by decide) (fun c1093 => ?_) (fun c1093 => ?_)
                · replace E := xq_ef c1093 E
                  refine J_lv [0, 1, 2, 3, 4, 5, 6] rfl ?_
                  exact jn1071 u1051 (fun c k0_ => rfl) (fun j k1_ => rfl) (bd_r ((fc1053 1 (Nat.ne_of_beq_eq_false rfl)).trans (congrFun (ms_c e1043 (Nat.ne_of_beq_eq_false rfl)) 1)) bm641) E
                · replace E := xq_ep c1093 E
                  refine J_aload_n (i := 0) (j := 0) dX5_run_132 rfl rfl ?_
                  refine J_dup dX5_run_133 rfl ?_
                  refine J_get (C := RX5) (T := TX5) (Z := 7) (ci := 5) (f := 1) dX5_run_134 inG5 rfl (by decide) k320 wc_58 rfl ?_
                  refine J_ci (v := u638 58 1) ((fc1053 1 (Nat.ne_of_beq_eq_false rfl)).trans (congrFun (ms_c e1043 (Nat.ne_of_beq_eq_false rfl)) 1)) ?_
                  refine J_iload (i := 5) (j := 5) dX5_run_137 rfl ?_
                  refine J_callSN (As := [.int w637]) (rest := [.int (u638 58 1), .ref 58]) dX5_run_139 (c_bit9X (d := 0) (u := u1051) (g := g) (ex := ex) (pond := w637)  (by decide) (bd_w (l := (-1)) (h := 8) (bd_lt_hi bw637 (i_nle c877) hp0) (by decide))) hq.n k818 k819 k87 k820 np_X10_bit (Nat.le_trans (by decide) hd) (by decide) (Nat.le_refl _) (Nat.le_refl _) wlen rfl (Nat.le_of_ble_eq_true rfl) (fun r_ h_ p1094 => ?_)
                  obtain ⟨v1095, rfl, rfl, h1096, hx1097⟩ := p1094
                  replace E := xq_le hx1097 E
                  refine J_ior dX5_run_142 ?_
                  obtain ⟨u1098, e1099⟩ : ∃ z, z = ms u1051 58 1 ((u638 58 1) ||| v1095) := ⟨_, rfl⟩
                  refine J_put (C := RX5) (T := TX5) (Z := 7) (ci := 5) (f := 1) (ty0 := tyX5) dX5_run_143 inG5 rfl tyX5_ok nmX5 (by decide) k320 rfl rfl wc_58 (Nat.le_of_ble_eq_true rfl) (fun _ _ => ⟨rfl, rfl⟩) (ws e1099 wk_58 rfl) ?_
                  replace E := xq_le e1099 E
                  refine J_lv [0, 1, 2, 3, 4, 5, 6] rfl ?_
                  exact jn1071 u1098 (fun c k0_ => (ms_c e1099 k0_)) (fun j k1_ => (ms_i e1099 k1_)) (bd_r (ms_e e1099) (bd_or (k := 9) (h := 511) bm641 h1096 (by decide))) E
            refine J_ifB_eq (tgt := 114) dX5_run_97 (by decide) (fun c1044 => ?_) (fun c1044 => ?_)
            · replace E := xq_ef c1044 E
              refine J_lv [0, 1, 2, 3, 4, 5, 6] rfl ?_
              exact jn1055 u1042 (fun c k0_ => rfl) (fun j k3_ => rfl) (bd_r (congrFun (ms_c e1043 (Nat.ne_of_beq_eq_false rfl)) 3) bm642) E
            · replace E := xq_ep c1044 E
              refine J_aload_n (i := 0) (j := 0) dX5_run_100 rfl rfl ?_
              refine J_dup dX5_run_101 rfl ?_
              refine J_get (C := RX5) (T := TX5) (Z := 7) (ci := 5) (f := 3) dX5_run_102 inG5 rfl (by decide) k326 wc_58 rfl ?_
              refine J_ci (v := u638 58 3) (congrFun (ms_c e1043 (Nat.ne_of_beq_eq_false rfl)) 3) ?_
              refine J_iload (i := 5) (j := 5) dX5_run_105 rfl ?_
              refine J_callSN (As := [.int w637]) (rest := [.int (u638 58 3), .ref 58]) dX5_run_107 (c_bit9X (d := 0) (u := u1042) (g := g) (ex := ex) (pond := w637)  (by decide) (bd_w (l := (-1)) (h := 8) (bd_lt_hi bw637 (i_nle c877) hp0) (by decide))) hq.n k818 k819 k87 k820 np_X10_bit (Nat.le_trans (by decide) hd) (by decide) (Nat.le_refl _) (Nat.le_refl _) wlen rfl (Nat.le_of_ble_eq_true rfl) (fun r_ h_ p1100 => ?_)
              obtain ⟨v1101, rfl, rfl, h1102, hx1103⟩ := p1100
              replace E := xq_le hx1103 E
              refine J_ior dX5_run_110 ?_
              obtain ⟨u1104, e1105⟩ : ∃ z, z = ms u1042 58 3 ((u638 58 3) ||| v1101) := ⟨_, rfl⟩
              refine J_put (C := RX5) (T := TX5) (Z := 7) (ci := 5) (f := 3) (ty0 := tyX5) dX5_run_111 inG5 rfl tyX5_ok nmX5 (by decide) k326 rfl rfl wc_58 (Nat.le_of_ble_eq_true rfl) (fun _ _ => ⟨rfl, rfl⟩) (ws e1105 wk_58 rfl) ?_
              replace E := xq_le e1105 E
              refine J_lv [0, 1, 2, 3, 4, 5, 6] rfl ?_
              exact jn1055 u1104 (fun c k0_ => (ms_c e1105 k0_)) (fun j k3_ => (ms_i e1105 k3_)) (bd_r (ms_e e1105) (bd_or (k := 9) (h := 511) bm642 h1102 (by decide))) E
          refine J_ifB_eq (tgt := 85) dX5_run_78 (by decide) (fun c1038 => ?_) (fun c1038 => ?_)
          · replace E := xq_ef c1038 E
            refine J_aload_n (i := 1) (j := 2) dX5_run_85 rfl rfl ?_
            refine J_iload (i := 5) (j := 6) dX5_run_86 rfl ?_
            refine J_iconst (v := 1) dX5_run_88 (by decide) ?_
            refine J_callV (As := [.int w637, .int 1]) (rest := [.int (steps * (hof u t w637 (2 : Int32))), .int v1036, .int w637, .ref 59]) dX5_run_89 (c_H_of (d := 0) (u := u638) (g := g) (ex := ex) (pond := w637) (column := 1) (t := t) (by decide) hs_t) hq.n k814 k749 k750 (zh0c hs_t) rfl rfl k89 k751 np_X1_of (Nat.le_trans (by decide) hd) (by decide) (Nat.le_refl _) (Nat.le_refl _) wlen rfl (Nat.le_of_ble_eq_true rfl) (fun r_ h_ p1106 => ?_)
            obtain ⟨rfl, rfl⟩ := p1106
            refine J_ci (v := (hof u t w637 (1 : Int32))) (hof_c ((fr639 (t + 1) (nin_s (i := 1) hs_t (by decide))).trans ((fr12 (t + 1) (sne (i := 1) (c := 59) hs_t (by decide))).trans ((ms_c e8 (sne (i := 1) (c := 58) hs_t (by decide))).trans ((ms_c e6 (sne (i := 1) (c := 58) hs_t (by decide))).trans ((ms_c e4 (sne (i := 1) (c := 58) hs_t (by decide))).trans (ms_c e2 (sne (i := 1) (c := 58) hs_t (by decide))))))))) ?_
            refine J_lv [1, 2, 3, 4, 5, 6, 0] rfl ?_
            exact jn1041 (hof u t w637 (1 : Int32))  E
          · replace E := xq_ep c1038 E
            refine J_iconst (v := 0) dX5_run_81 (by decide) ?_
            refine J_goto (tgt := 92) dX5_run_82 (by decide) ?_
            refine J_lv [1, 2, 3, 4, 5, 6, 0] rfl ?_
            exact jn1041 (0 : Int32)  E
  refine J_lv [1, 2, 3, 4, 5, 0] rfl ?_
  exact lp873 ((9 - (0 : Int32).toInt).toNat + 1) (0 : Int32) u10 (bd_w (l := 0) (h := 9) (bd_c (v := 0) (lo := 0) (hi := 0) (by decide)) (by decide)) (fun c k_ => rfl) (fun j k1_ k3_ k4_ => rfl) (bd_r ((congrFun (fr12 58 (Nat.ne_of_beq_eq_false rfl)) 1).trans ((ms_i e8 (Nat.ne_of_beq_eq_false rfl)).trans ((ms_i e6 (Nat.ne_of_beq_eq_false rfl)).trans (ms_e e4)))) (bd_w (l := 0) (h := 511) (bd_c (v := 0) (lo := 0) (hi := 0) (by decide)) (by decide))) (bd_r ((congrFun (fr12 58 (Nat.ne_of_beq_eq_false rfl)) 3).trans ((ms_i e8 (Nat.ne_of_beq_eq_false rfl)).trans (ms_e e6))) (bd_w (l := 0) (h := 511) (bd_c (v := 0) (lo := 0) (hi := 0) (by decide)) (by decide))) (Nat.lt_succ_self _) E
set_option maxRecDepth 100000 in
noncomputable def Fx_Si_mendsX (pond : Int32) (much : Int32) (u : Nat → Nat → Int32) (g : Nat → Nat → Int64) : Bool × (Nat → Nat → Int32) := if much ≤ (hof u 44 pond (4 : Int32)) then (xq_lt (Fx_H_putBX pond (4 : Int32) ((hof u 44 pond (4 : Int32)) - much) 44 u g) fun u5 => xq_lt (ms u5 43 2 ((u 43 2) + ((u 48 0) * much))) fun u9 => (true, u9)) else ((false, u))
set_option maxHeartbeats 4000000 in
set_option maxRecDepth 100000 in
theorem c_Si_mendsX {d : Nat} {u : Nat → Nat → Int32} {g : Nat → Nat → Int64} {ex : List MC} {pond : Int32} {much : Int32} (hd : 1 ≤ d) (hp0 : Bd 0 9 (u 44 0)) (hp1 : Bd 0 4 (u 44 2)) (hp2 : AB u 45 (-1) 999) (hp3 : Bd 0 999 much) : CT con0 d 0 0 yX4_mends cX4_mends 3 (some .boolean) [.ref 43, .int pond, .int much] (Wd u g ex) (fun r h2 => ∃ (z : Bool) (u2 : Nat → Nat → Int32), r = some (.int (bI z)) ∧ h2 = Wd u2 g ex ∧ AB u2 45 (-1) 999 ∧ (z, u2) = Fx_Si_mendsX pond much u g ∧ (∀ c, c ≠ 43 → c ≠ 45 → u2 c = u c) ∧ (∀ j, j ≠ 2 → u2 43 j = u 43 j)) := by
  refine CT_of (by decide) (Nat.le_of_ble_eq_true rfl) (fun x hq => ?_)
  show J x yX4_mends cX4_mends 3 (some .boolean) d 0 0 (Wd u g ex).length 0 [(0, .ref 43), (1, .int pond), (2, .int much)] [] (Wd u g ex) 0 0
  have E : Fx_Si_mendsX pond much u g = Fx_Si_mendsX pond much u g := rfl
  refine J_aload_n (i := 0) (j := 0) dX4_mends_0 rfl rfl ?_
  refine J_get (C := RX4) (T := TX4) (Z := 4) (ci := 4) (f := 0) dX4_mends_1 inG4 rfl (by decide) k294 wc_43 rfl ?_
  refine J_iload_n (i := 1) (j := 1) dX4_mends_4 rfl rfl ?_
  refine J_iconst (v := 4) dX4_mends_5 (by decide) ?_
  refine J_callV (As := [.int pond, .int 4]) (rest := []) dX4_mends_6 (c_H_of (d := 0) (u := u) (g := g) (ex := ex) (pond := pond) (column := 4) (t := 44) (by decide) (by decide)) hq.n k756 k749 k750 wc_44 rfl rfl k89 k751 np_X1_of (Nat.le_trans (by decide) hd) (by decide) (Nat.le_refl _) (Nat.le_refl _) wlen rfl (Nat.le_of_ble_eq_true rfl) (fun r_ h_ p1 => ?_)
  obtain ⟨rfl, rfl⟩ := p1
  refine J_iload_n (i := 2) (j := 2) dX4_mends_9 rfl rfl ?_
  refine J_icmp_ge (tgt := 15) dX4_mends_10 (by decide) (fun c2 => ?_) (fun c2 => ?_)
  · replace E := xq_ep c2 E
    refine J_aload_n (i := 0) (j := 0) dX4_mends_15 rfl rfl ?_
    refine J_get (C := RX4) (T := TX4) (Z := 4) (ci := 4) (f := 0) dX4_mends_16 inG4 rfl (by decide) k294 wc_43 rfl ?_
    refine J_iload_n (i := 1) (j := 1) dX4_mends_19 rfl rfl ?_
    refine J_iconst (v := 4) dX4_mends_20 (by decide) ?_
    refine J_aload_n (i := 0) (j := 0) dX4_mends_21 rfl rfl ?_
    refine J_get (C := RX4) (T := TX4) (Z := 4) (ci := 4) (f := 0) dX4_mends_22 inG4 rfl (by decide) k294 wc_43 rfl ?_
    refine J_iload_n (i := 1) (j := 1) dX4_mends_25 rfl rfl ?_
    refine J_iconst (v := 4) dX4_mends_26 (by decide) ?_
    refine J_callV (As := [.int pond, .int 4]) (rest := [.int 4, .int pond, .ref 44]) dX4_mends_27 (c_H_of (d := 0) (u := u) (g := g) (ex := ex) (pond := pond) (column := 4) (t := 44) (by decide) (by decide)) hq.n k756 k749 k750 wc_44 rfl rfl k89 k751 np_X1_of (Nat.le_trans (by decide) hd) (by decide) (Nat.le_refl _) (Nat.le_refl _) wlen rfl (Nat.le_of_ble_eq_true rfl) (fun r_ h_ p3 => ?_)
    obtain ⟨rfl, rfl⟩ := p3
    refine J_iload_n (i := 2) (j := 2) dX4_mends_30 rfl rfl ?_
    refine J_isub dX4_mends_31 ?_
    refine J_callV (As := [.int pond, .int 4, .int ((hof u 44 pond (4 : Int32)) - much)]) (rest := []) dX4_mends_32 (c_H_putBX (d := 0) (u := u) (g := g) (ex := ex) (pond := pond) (column := 4) (value := ((hof u 44 pond (4 : Int32)) - much)) (t := 44) (by decide) (by decide) hp2 (bd_w (l := (-1)) (h := 999) (bd_subl (h := 999) (bd_le_lo (hof_b hp2 (by decide)) c2 hp3) hp3 c2 (by decide)) (by decide))) hq.n k757 k650 k651 wc_44 rfl rfl k89 k652 np_X1_put (Nat.le_trans (by decide) hd) (by decide) (Nat.le_refl _) (Nat.le_refl _) wlen rfl (Nat.le_of_ble_eq_true rfl) (fun r_ h_ p4 => ?_)
    obtain ⟨u5, rfl, rfl, h6, hx7, fr8⟩ := p4
    replace E := xq_le hx7 E
    refine J_aload_n (i := 0) (j := 0) dX4_mends_35 rfl rfl ?_
    refine J_dup dX4_mends_36 rfl ?_
    refine J_get (C := RX4) (T := TX4) (Z := 4) (ci := 4) (f := 2) dX4_mends_37 inG4 rfl (by decide) k298 wc_43 rfl ?_
    refine J_ci (v := u 43 2) (congrFun (fr8 43 (Nat.ne_of_beq_eq_false rfl)) 2) ?_
    refine J_aload_n (i := 0) (j := 0) dX4_mends_40 rfl rfl ?_
    refine J_get (C := RX4) (T := TX4) (Z := 4) (ci := 4) (f := 0) dX4_mends_41 inG4 rfl (by decide) k294 wc_43 rfl ?_
    refine J_getN (C := RX1) (T := TX1) (Z := 6) (ci := 1) (f := 5) dX4_mends_44 inG1 rfl (by decide) k146 wc_44 rfl ?_
    refine J_iconst (v := 0) dX4_mends_47 (by decide) ?_
    refine J_iald dX4_mends_48 wc_48 (vin (bd_c (v := 0) (lo := 0) (hi := 0) (by decide)) (by decide)) ?_
    refine J_ci (v := u 48 0) (congrFun (fr8 48 (Nat.ne_of_beq_eq_false rfl)) 0) ?_
    refine J_iload_n (i := 2) (j := 2) dX4_mends_49 rfl rfl ?_
    refine J_imul dX4_mends_50 ?_
    refine J_iadd dX4_mends_51 ?_
    obtain ⟨u9, e10⟩ : ∃ z, z = ms u5 43 2 ((u 43 2) + ((u 48 0) * much)) := ⟨_, rfl⟩
    refine J_put (C := RX4) (T := TX4) (Z := 4) (ci := 4) (f := 2) (ty0 := tyX4) dX4_mends_52 inG4 rfl tyX4_ok nmX4 (by decide) k298 rfl rfl wc_43 (Nat.le_of_ble_eq_true rfl) (fun _ _ => ⟨rfl, rfl⟩) (ws e10 wk_43 rfl) ?_
    replace E := xq_le e10 E
    refine J_iconst (v := 1) dX4_mends_55 (by decide) ?_
    exact J_zret hq dX4_mends_56 rfl rfl wlen (Nat.le_refl _) (Nat.le_refl _) ⟨true, u9, rfl, rfl, (ab_c (ms_c e10 (Nat.ne_of_beq_eq_false rfl)) h6), E, (fun c k0_ k1_ => ((ms_c e10 k0_).trans (fr8 c k1_))), (fun j k2_ => ((ms_i e10 k2_).trans (congrFun (fr8 43 (Nat.ne_of_beq_eq_false rfl)) j)))⟩
  · replace E := xq_en c2 E
    refine J_iconst (v := 0) dX4_mends_13 (by decide) ?_
    exact J_zret hq dX4_mends_14 rfl rfl wlen (Nat.le_refl _) (Nat.le_refl _) ⟨false, u, rfl, rfl, hp2, E, (fun c k0_ k1_ => rfl), (fun j k2_ => rfl)⟩
set_option maxRecDepth 100000 in
noncomputable def Fx_Si_lowersX (pond : Int32) (much : Int32) (u : Nat → Nat → Int32) (g : Nat → Nat → Int64) : Bool × (Nat → Nat → Int32) := if much ≤ (hof u 44 pond (1 : Int32)) then (xq_lt (Fx_H_putBX pond (1 : Int32) ((hof u 44 pond (1 : Int32)) - much) 44 u g) fun u5 => xq_lt (ms u5 43 3 ((u 43 3) + ((hof u5 44 pond (7 : Int32)) * much))) fun u10 => (true, u10)) else ((false, u))
set_option maxHeartbeats 4000000 in
set_option maxRecDepth 100000 in
theorem c_Si_lowersX {d : Nat} {u : Nat → Nat → Int32} {g : Nat → Nat → Int64} {ex : List MC} {pond : Int32} {much : Int32} (hd : 1 ≤ d) (hp0 : Bd 0 9 (u 44 0)) (hp1 : Bd 0 4 (u 44 2)) (hp2 : AB u 45 (-1) 999) (hp3 : Bd 0 999 much) : CT con0 d 0 0 yX4_lowers cX4_lowers 3 (some .boolean) [.ref 43, .int pond, .int much] (Wd u g ex) (fun r h2 => ∃ (z : Bool) (u2 : Nat → Nat → Int32), r = some (.int (bI z)) ∧ h2 = Wd u2 g ex ∧ AB u2 45 (-1) 999 ∧ (z, u2) = Fx_Si_lowersX pond much u g ∧ (∀ c, c ≠ 43 → c ≠ 45 → u2 c = u c) ∧ (∀ j, j ≠ 3 → u2 43 j = u 43 j)) := by
  refine CT_of (by decide) (Nat.le_of_ble_eq_true rfl) (fun x hq => ?_)
  show J x yX4_lowers cX4_lowers 3 (some .boolean) d 0 0 (Wd u g ex).length 0 [(0, .ref 43), (1, .int pond), (2, .int much)] [] (Wd u g ex) 0 0
  have E : Fx_Si_lowersX pond much u g = Fx_Si_lowersX pond much u g := rfl
  refine J_aload_n (i := 0) (j := 0) dX4_lowers_0 rfl rfl ?_
  refine J_get (C := RX4) (T := TX4) (Z := 4) (ci := 4) (f := 0) dX4_lowers_1 inG4 rfl (by decide) k294 wc_43 rfl ?_
  refine J_iload_n (i := 1) (j := 1) dX4_lowers_4 rfl rfl ?_
  refine J_iconst (v := 1) dX4_lowers_5 (by decide) ?_
  refine J_callV (As := [.int pond, .int 1]) (rest := []) dX4_lowers_6 (c_H_of (d := 0) (u := u) (g := g) (ex := ex) (pond := pond) (column := 1) (t := 44) (by decide) (by decide)) hq.n k756 k749 k750 wc_44 rfl rfl k89 k751 np_X1_of (Nat.le_trans (by decide) hd) (by decide) (Nat.le_refl _) (Nat.le_refl _) wlen rfl (Nat.le_of_ble_eq_true rfl) (fun r_ h_ p1 => ?_)
  obtain ⟨rfl, rfl⟩ := p1
  refine J_iload_n (i := 2) (j := 2) dX4_lowers_9 rfl rfl ?_
  refine J_icmp_ge (tgt := 15) dX4_lowers_10 (by decide) (fun c2 => ?_) (fun c2 => ?_)
  · replace E := xq_ep c2 E
    refine J_aload_n (i := 0) (j := 0) dX4_lowers_15 rfl rfl ?_
    refine J_get (C := RX4) (T := TX4) (Z := 4) (ci := 4) (f := 0) dX4_lowers_16 inG4 rfl (by decide) k294 wc_43 rfl ?_
    refine J_iload_n (i := 1) (j := 1) dX4_lowers_19 rfl rfl ?_
    refine J_iconst (v := 1) dX4_lowers_20 (by decide) ?_
    refine J_aload_n (i := 0) (j := 0) dX4_lowers_21 rfl rfl ?_
    refine J_get (C := RX4) (T := TX4) (Z := 4) (ci := 4) (f := 0) dX4_lowers_22 inG4 rfl (by decide) k294 wc_43 rfl ?_
    refine J_iload_n (i := 1) (j := 1) dX4_lowers_25 rfl rfl ?_
    refine J_iconst (v := 1) dX4_lowers_26 (by decide) ?_
    refine J_callV (As := [.int pond, .int 1]) (rest := [.int 1, .int pond, .ref 44]) dX4_lowers_27 (c_H_of (d := 0) (u := u) (g := g) (ex := ex) (pond := pond) (column := 1) (t := 44) (by decide) (by decide)) hq.n k756 k749 k750 wc_44 rfl rfl k89 k751 np_X1_of (Nat.le_trans (by decide) hd) (by decide) (Nat.le_refl _) (Nat.le_refl _) wlen rfl (Nat.le_of_ble_eq_true rfl) (fun r_ h_ p3 => ?_)
    obtain ⟨rfl, rfl⟩ := p3
    refine J_iload_n (i := 2) (j := 2) dX4_lowers_30 rfl rfl ?_
    refine J_isub dX4_lowers_31 ?_
    refine J_callV (As := [.int pond, .int 1, .int ((hof u 44 pond (1 : Int32)) - much)]) (rest := []) dX4_lowers_32 (c_H_putBX (d := 0) (u := u) (g := g) (ex := ex) (pond := pond) (column := 1) (value := ((hof u 44 pond (1 : Int32)) - much)) (t := 44) (by decide) (by decide) hp2 (bd_w (l := (-1)) (h := 999) (bd_subl (h := 999) (bd_le_lo (hof_b hp2 (by decide)) c2 hp3) hp3 c2 (by decide)) (by decide))) hq.n k757 k650 k651 wc_44 rfl rfl k89 k652 np_X1_put (Nat.le_trans (by decide) hd) (by decide) (Nat.le_refl _) (Nat.le_refl _) wlen rfl (Nat.le_of_ble_eq_true rfl) (fun r_ h_ p4 => ?_)
    obtain ⟨u5, rfl, rfl, h6, hx7, fr8⟩ := p4
    replace E := xq_le hx7 E
    refine J_aload_n (i := 0) (j := 0) dX4_lowers_35 rfl rfl ?_
    refine J_dup dX4_lowers_36 rfl ?_
    refine J_get (C := RX4) (T := TX4) (Z := 4) (ci := 4) (f := 3) dX4_lowers_37 inG4 rfl (by decide) k300 wc_43 rfl ?_
    refine J_ci (v := u 43 3) (congrFun (fr8 43 (Nat.ne_of_beq_eq_false rfl)) 3) ?_
    refine J_aload_n (i := 0) (j := 0) dX4_lowers_40 rfl rfl ?_
    refine J_get (C := RX4) (T := TX4) (Z := 4) (ci := 4) (f := 0) dX4_lowers_41 inG4 rfl (by decide) k294 wc_43 rfl ?_
    refine J_iload_n (i := 1) (j := 1) dX4_lowers_44 rfl rfl ?_
    refine J_bipush (v := 7) dX4_lowers_45 (by decide) ?_
    refine J_callV (As := [.int pond, .int 7]) (rest := [.int (u 43 3), .ref 43]) dX4_lowers_47 (c_H_of (d := 0) (u := u5) (g := g) (ex := ex) (pond := pond) (column := 7) (t := 44) (by decide) (by decide)) hq.n k756 k749 k750 wc_44 rfl rfl k89 k751 np_X1_of (Nat.le_trans (by decide) hd) (by decide) (Nat.le_refl _) (Nat.le_refl _) wlen rfl (Nat.le_of_ble_eq_true rfl) (fun r_ h_ p9 => ?_)
    obtain ⟨rfl, rfl⟩ := p9
    refine J_iload_n (i := 2) (j := 2) dX4_lowers_50 rfl rfl ?_
    refine J_imul dX4_lowers_51 ?_
    refine J_iadd dX4_lowers_52 ?_
    obtain ⟨u10, e11⟩ : ∃ z, z = ms u5 43 3 ((u 43 3) + ((hof u5 44 pond (7 : Int32)) * much)) := ⟨_, rfl⟩
    refine J_put (C := RX4) (T := TX4) (Z := 4) (ci := 4) (f := 3) (ty0 := tyX4) dX4_lowers_53 inG4 rfl tyX4_ok nmX4 (by decide) k300 rfl rfl wc_43 (Nat.le_of_ble_eq_true rfl) (fun _ _ => ⟨rfl, rfl⟩) (ws e11 wk_43 rfl) ?_
    replace E := xq_le e11 E
    refine J_iconst (v := 1) dX4_lowers_56 (by decide) ?_
    exact J_zret hq dX4_lowers_57 rfl rfl wlen (Nat.le_refl _) (Nat.le_refl _) ⟨true, u10, rfl, rfl, (ab_c (ms_c e11 (Nat.ne_of_beq_eq_false rfl)) h6), E, (fun c k0_ k1_ => ((ms_c e11 k0_).trans (fr8 c k1_))), (fun j k3_ => ((ms_i e11 k3_).trans (congrFun (fr8 43 (Nat.ne_of_beq_eq_false rfl)) j)))⟩
  · replace E := xq_en c2 E
    refine J_iconst (v := 0) dX4_lowers_13 (by decide) ?_
    exact J_zret hq dX4_lowers_14 rfl rfl wlen (Nat.le_refl _) (Nat.le_refl _) ⟨false, u, rfl, rfl, hp2, E, (fun c k0_ k1_ => rfl), (fun j k3_ => rfl)⟩
set_option maxRecDepth 100000 in
noncomputable def Fx_Si_widensX (pond : Int32) (much : Int32) (u : Nat → Nat → Int32) (g : Nat → Nat → Int64) : Bool × (Nat → Nat → Int32) := if ((hof u 44 pond (3 : Int32)) + much) ≤ (24 : Int32) then (xq_lt (Fx_H_putBX pond (3 : Int32) ((hof u 44 pond (3 : Int32)) + much) 44 u g) fun u5 => xq_lt (ms u5 43 2 ((u 43 2) + ((u 48 1) * much))) fun u9 => (true, u9)) else ((false, u))
set_option maxHeartbeats 4000000 in
set_option maxRecDepth 100000 in
theorem c_Si_widensX {d : Nat} {u : Nat → Nat → Int32} {g : Nat → Nat → Int64} {ex : List MC} {pond : Int32} {much : Int32} (hd : 1 ≤ d) (hp0 : Bd 0 9 (u 44 0)) (hp1 : Bd 0 4 (u 44 2)) (hp2 : AB u 45 (-1) 999) (hp3 : Bd 0 999 much) : CT con0 d 0 0 yX4_widens cX4_widens 3 (some .boolean) [.ref 43, .int pond, .int much] (Wd u g ex) (fun r h2 => ∃ (z : Bool) (u2 : Nat → Nat → Int32), r = some (.int (bI z)) ∧ h2 = Wd u2 g ex ∧ AB u2 45 (-1) 999 ∧ (z, u2) = Fx_Si_widensX pond much u g ∧ (∀ c, c ≠ 43 → c ≠ 45 → u2 c = u c) ∧ (∀ j, j ≠ 2 → u2 43 j = u 43 j)) := by
  refine CT_of (by decide) (Nat.le_of_ble_eq_true rfl) (fun x hq => ?_)
  show J x yX4_widens cX4_widens 3 (some .boolean) d 0 0 (Wd u g ex).length 0 [(0, .ref 43), (1, .int pond), (2, .int much)] [] (Wd u g ex) 0 0
  have E : Fx_Si_widensX pond much u g = Fx_Si_widensX pond much u g := rfl
  refine J_aload_n (i := 0) (j := 0) dX4_widens_0 rfl rfl ?_
  refine J_get (C := RX4) (T := TX4) (Z := 4) (ci := 4) (f := 0) dX4_widens_1 inG4 rfl (by decide) k294 wc_43 rfl ?_
  refine J_iload_n (i := 1) (j := 1) dX4_widens_4 rfl rfl ?_
  refine J_iconst (v := 3) dX4_widens_5 (by decide) ?_
  refine J_callV (As := [.int pond, .int 3]) (rest := []) dX4_widens_6 (c_H_of (d := 0) (u := u) (g := g) (ex := ex) (pond := pond) (column := 3) (t := 44) (by decide) (by decide)) hq.n k756 k749 k750 wc_44 rfl rfl k89 k751 np_X1_of (Nat.le_trans (by decide) hd) (by decide) (Nat.le_refl _) (Nat.le_refl _) wlen rfl (Nat.le_of_ble_eq_true rfl) (fun r_ h_ p1 => ?_)
  obtain ⟨rfl, rfl⟩ := p1
  refine J_iload_n (i := 2) (j := 2) dX4_widens_9 rfl rfl ?_
  refine J_iadd dX4_widens_10 ?_
  refine J_bipush (v := 24) dX4_widens_11 (by decide) ?_
  refine J_icmp_le (tgt := 18) dX4_widens_13 (by decide) (fun c2 => ?_) (fun c2 => ?_)
  · replace E := xq_ep c2 E
    refine J_aload_n (i := 0) (j := 0) dX4_widens_18 rfl rfl ?_
    refine J_get (C := RX4) (T := TX4) (Z := 4) (ci := 4) (f := 0) dX4_widens_19 inG4 rfl (by decide) k294 wc_43 rfl ?_
    refine J_iload_n (i := 1) (j := 1) dX4_widens_22 rfl rfl ?_
    refine J_iconst (v := 3) dX4_widens_23 (by decide) ?_
    refine J_aload_n (i := 0) (j := 0) dX4_widens_24 rfl rfl ?_
    refine J_get (C := RX4) (T := TX4) (Z := 4) (ci := 4) (f := 0) dX4_widens_25 inG4 rfl (by decide) k294 wc_43 rfl ?_
    refine J_iload_n (i := 1) (j := 1) dX4_widens_28 rfl rfl ?_
    refine J_iconst (v := 3) dX4_widens_29 (by decide) ?_
    refine J_callV (As := [.int pond, .int 3]) (rest := [.int 3, .int pond, .ref 44]) dX4_widens_30 (c_H_of (d := 0) (u := u) (g := g) (ex := ex) (pond := pond) (column := 3) (t := 44) (by decide) (by decide)) hq.n k756 k749 k750 wc_44 rfl rfl k89 k751 np_X1_of (Nat.le_trans (by decide) hd) (by decide) (Nat.le_refl _) (Nat.le_refl _) wlen rfl (Nat.le_of_ble_eq_true rfl) (fun r_ h_ p3 => ?_)
    obtain ⟨rfl, rfl⟩ := p3
    refine J_iload_n (i := 2) (j := 2) dX4_widens_33 rfl rfl ?_
    refine J_iadd dX4_widens_34 ?_
    refine J_callV (As := [.int pond, .int 3, .int ((hof u 44 pond (3 : Int32)) + much)]) (rest := []) dX4_widens_35 (c_H_putBX (d := 0) (u := u) (g := g) (ex := ex) (pond := pond) (column := 3) (value := ((hof u 44 pond (3 : Int32)) + much)) (t := 44) (by decide) (by decide) hp2 (bd_w (l := (-1)) (h := 999) (bd_le_hi (bd_add (l := (-1)) (h := 1998) (hof_b hp2 (by decide)) hp3 (by decide)) c2 (bd_c (v := 24) (lo := 24) (hi := 24) (by decide))) (by decide))) hq.n k757 k650 k651 wc_44 rfl rfl k89 k652 np_X1_put (Nat.le_trans (by decide) hd) (by decide) (Nat.le_refl _) (Nat.le_refl _) wlen rfl (Nat.le_of_ble_eq_true rfl) (fun r_ h_ p4 => ?_)
    obtain ⟨u5, rfl, rfl, h6, hx7, fr8⟩ := p4
    replace E := xq_le hx7 E
    refine J_aload_n (i := 0) (j := 0) dX4_widens_38 rfl rfl ?_
    refine J_dup dX4_widens_39 rfl ?_
    refine J_get (C := RX4) (T := TX4) (Z := 4) (ci := 4) (f := 2) dX4_widens_40 inG4 rfl (by decide) k298 wc_43 rfl ?_
    refine J_ci (v := u 43 2) (congrFun (fr8 43 (Nat.ne_of_beq_eq_false rfl)) 2) ?_
    refine J_aload_n (i := 0) (j := 0) dX4_widens_43 rfl rfl ?_
    refine J_get (C := RX4) (T := TX4) (Z := 4) (ci := 4) (f := 0) dX4_widens_44 inG4 rfl (by decide) k294 wc_43 rfl ?_
    refine J_getN (C := RX1) (T := TX1) (Z := 6) (ci := 1) (f := 5) dX4_widens_47 inG1 rfl (by decide) k146 wc_44 rfl ?_
    refine J_iconst (v := 1) dX4_widens_50 (by decide) ?_
    refine J_iald dX4_widens_51 wc_48 (vin (bd_c (v := 1) (lo := 1) (hi := 1) (by decide)) (by decide)) ?_
    refine J_ci (v := u 48 1) (congrFun (fr8 48 (Nat.ne_of_beq_eq_false rfl)) 1) ?_
    refine J_iload_n (i := 2) (j := 2) dX4_widens_52 rfl rfl ?_
    refine J_imul dX4_widens_53 ?_
    refine J_iadd dX4_widens_54 ?_
    obtain ⟨u9, e10⟩ : ∃ z, z = ms u5 43 2 ((u 43 2) + ((u 48 1) * much)) := ⟨_, rfl⟩
    refine J_put (C := RX4) (T := TX4) (Z := 4) (ci := 4) (f := 2) (ty0 := tyX4) dX4_widens_55 inG4 rfl tyX4_ok nmX4 (by decide) k298 rfl rfl wc_43 (Nat.le_of_ble_eq_true rfl) (fun _ _ => ⟨rfl, rfl⟩) (ws e10 wk_43 rfl) ?_
    replace E := xq_le e10 E
    refine J_iconst (v := 1) dX4_widens_58 (by decide) ?_
    exact J_zret hq dX4_widens_59 rfl rfl wlen (Nat.le_refl _) (Nat.le_refl _) ⟨true, u9, rfl, rfl, (ab_c (ms_c e10 (Nat.ne_of_beq_eq_false rfl)) h6), E, (fun c k0_ k1_ => ((ms_c e10 k0_).trans (fr8 c k1_))), (fun j k2_ => ((ms_i e10 k2_).trans (congrFun (fr8 43 (Nat.ne_of_beq_eq_false rfl)) j)))⟩
  · replace E := xq_en c2 E
    refine J_iconst (v := 0) dX4_widens_16 (by decide) ?_
    exact J_zret hq dX4_widens_17 rfl rfl wlen (Nat.le_refl _) (Nat.le_refl _) ⟨false, u, rfl, rfl, hp2, E, (fun c k0_ k1_ => rfl), (fun j k2_ => rfl)⟩
set_option maxRecDepth 100000 in
noncomputable def Fx_Si_leadsX (pond : Int32) (much : Int32) (u : Nat → Nat → Int32) (g : Nat → Nat → Int64) : Bool × (Nat → Nat → Int32) := xq_lt (Fx_H_hasX much 44 u g) fun t2 => if t2 = true then (if pond < much then (xq_lt (Fx_H_putBX pond (8 : Int32) much 44 u g) fun u8 => xq_lt (ms u8 43 2 ((u 43 2) + (u 48 2))) fun u12 => (true, u12)) else ((false, u))) else ((false, u))
set_option maxHeartbeats 4000000 in
set_option maxRecDepth 100000 in
theorem c_Si_leadsX {d : Nat} {u : Nat → Nat → Int32} {g : Nat → Nat → Int64} {ex : List MC} {pond : Int32} {much : Int32} (hd : 1 ≤ d) (hp0 : Bd 0 9 (u 44 0)) (hp1 : Bd 0 4 (u 44 2)) (hp2 : AB u 45 (-1) 999) (hp3 : Bd 0 999 much) : CT con0 d 0 0 yX4_leads cX4_leads 3 (some .boolean) [.ref 43, .int pond, .int much] (Wd u g ex) (fun r h2 => ∃ (z : Bool) (u2 : Nat → Nat → Int32), r = some (.int (bI z)) ∧ h2 = Wd u2 g ex ∧ AB u2 45 (-1) 999 ∧ (z, u2) = Fx_Si_leadsX pond much u g ∧ (∀ c, c ≠ 43 → c ≠ 45 → u2 c = u c) ∧ (∀ j, j ≠ 2 → u2 43 j = u 43 j)) := by
  refine CT_of (by decide) (Nat.le_of_ble_eq_true rfl) (fun x hq => ?_)
  show J x yX4_leads cX4_leads 3 (some .boolean) d 0 0 (Wd u g ex).length 0 [(0, .ref 43), (1, .int pond), (2, .int much)] [] (Wd u g ex) 0 0
  have E : Fx_Si_leadsX pond much u g = Fx_Si_leadsX pond much u g := rfl
  refine J_aload_n (i := 0) (j := 0) dX4_leads_0 rfl rfl ?_
  refine J_get (C := RX4) (T := TX4) (Z := 4) (ci := 4) (f := 0) dX4_leads_1 inG4 rfl (by decide) k294 wc_43 rfl ?_
  refine J_iload_n (i := 2) (j := 2) dX4_leads_4 rfl rfl ?_
  refine J_callV (As := [.int much]) (rest := []) dX4_leads_5 (c_H_hasX (d := 0) (u := u) (g := g) (ex := ex) (pond := much) (t := 44) (by decide) (by decide) hp0 hp1) hq.n k740 k741 k742 wc_44 rfl rfl k89 k743 np_X1_has (Nat.le_trans (by decide) hd) (by decide) (Nat.le_refl _) (Nat.le_refl _) wlen rfl (Nat.le_of_ble_eq_true rfl) (fun r_ h_ p1 => ?_)
  obtain ⟨t2, rfl, rfl, h3, hx4⟩ := p1
  replace E := xq_le hx4 E
  refine J_ifB_eq (tgt := 16) dX4_leads_8 (by decide) (fun c5 => ?_) (fun c5 => ?_)
  · replace E := xq_ef c5 E
    refine J_iconst (v := 0) dX4_leads_16 (by decide) ?_
    exact J_zret hq dX4_leads_17 rfl rfl wlen (Nat.le_refl _) (Nat.le_refl _) ⟨false, u, rfl, rfl, hp2, E, (fun c k0_ k1_ => rfl), (fun j k2_ => rfl)⟩
  · replace E := xq_ep c5 E
    refine J_iload_n (i := 2) (j := 2) dX4_leads_11 rfl rfl ?_
    refine J_iload_n (i := 1) (j := 1) dX4_leads_12 rfl rfl ?_
    refine J_icmp_gt (tgt := 18) dX4_leads_13 (by decide) (fun c6 => ?_) (fun c6 => ?_)
    · replace E := xq_ep c6 E
      refine J_aload_n (i := 0) (j := 0) dX4_leads_18 rfl rfl ?_
      refine J_get (C := RX4) (T := TX4) (Z := 4) (ci := 4) (f := 0) dX4_leads_19 inG4 rfl (by decide) k294 wc_43 rfl ?_
      refine J_iload_n (i := 1) (j := 1) dX4_leads_22 rfl rfl ?_
      refine J_bipush (v := 8) dX4_leads_23 (by decide) ?_
      refine J_iload_n (i := 2) (j := 2) dX4_leads_25 rfl rfl ?_
      refine J_callV (As := [.int pond, .int 8, .int much]) (rest := []) dX4_leads_26 (c_H_putBX (d := 0) (u := u) (g := g) (ex := ex) (pond := pond) (column := 8) (value := much) (t := 44) (by decide) (by decide) hp2 (bd_w (l := (-1)) (h := 999) (h3 c5) (by decide))) hq.n k757 k650 k651 wc_44 rfl rfl k89 k652 np_X1_put (Nat.le_trans (by decide) hd) (by decide) (Nat.le_refl _) (Nat.le_refl _) wlen rfl (Nat.le_of_ble_eq_true rfl) (fun r_ h_ p7 => ?_)
      obtain ⟨u8, rfl, rfl, h9, hx10, fr11⟩ := p7
      replace E := xq_le hx10 E
      refine J_aload_n (i := 0) (j := 0) dX4_leads_29 rfl rfl ?_
      refine J_dup dX4_leads_30 rfl ?_
      refine J_get (C := RX4) (T := TX4) (Z := 4) (ci := 4) (f := 2) dX4_leads_31 inG4 rfl (by decide) k298 wc_43 rfl ?_
      refine J_ci (v := u 43 2) (congrFun (fr11 43 (Nat.ne_of_beq_eq_false rfl)) 2) ?_
      refine J_aload_n (i := 0) (j := 0) dX4_leads_34 rfl rfl ?_
      refine J_get (C := RX4) (T := TX4) (Z := 4) (ci := 4) (f := 0) dX4_leads_35 inG4 rfl (by decide) k294 wc_43 rfl ?_
      refine J_getN (C := RX1) (T := TX1) (Z := 6) (ci := 1) (f := 5) dX4_leads_38 inG1 rfl (by decide) k146 wc_44 rfl ?_
      refine J_iconst (v := 2) dX4_leads_41 (by decide) ?_
      refine J_iald dX4_leads_42 wc_48 (vin (bd_c (v := 2) (lo := 2) (hi := 2) (by decide)) (by decide)) ?_
      refine J_ci (v := u 48 2) (congrFun (fr11 48 (Nat.ne_of_beq_eq_false rfl)) 2) ?_
      refine J_iadd dX4_leads_43 ?_
      obtain ⟨u12, e13⟩ : ∃ z, z = ms u8 43 2 ((u 43 2) + (u 48 2)) := ⟨_, rfl⟩
      refine J_put (C := RX4) (T := TX4) (Z := 4) (ci := 4) (f := 2) (ty0 := tyX4) dX4_leads_44 inG4 rfl tyX4_ok nmX4 (by decide) k298 rfl rfl wc_43 (Nat.le_of_ble_eq_true rfl) (fun _ _ => ⟨rfl, rfl⟩) (ws e13 wk_43 rfl) ?_
      replace E := xq_le e13 E
      refine J_iconst (v := 1) dX4_leads_47 (by decide) ?_
      exact J_zret hq dX4_leads_48 rfl rfl wlen (Nat.le_refl _) (Nat.le_refl _) ⟨true, u12, rfl, rfl, (ab_c (ms_c e13 (Nat.ne_of_beq_eq_false rfl)) h9), E, (fun c k0_ k1_ => ((ms_c e13 k0_).trans (fr11 c k1_))), (fun j k2_ => ((ms_i e13 k2_).trans (congrFun (fr11 43 (Nat.ne_of_beq_eq_false rfl)) j)))⟩
    · replace E := xq_en c6 E
      refine J_iconst (v := 0) dX4_leads_16 (by decide) ?_
      exact J_zret hq dX4_leads_17 rfl rfl wlen (Nat.le_refl _) (Nat.le_refl _) ⟨false, u, rfl, rfl, hp2, E, (fun c k0_ k1_ => rfl), (fun j k2_ => rfl)⟩
set_option maxRecDepth 100000 in
noncomputable def Fx_Si_buildsX (kind : Int32) (pond : Int32) (much : Int32) (u : Nat → Nat → Int32) (g : Nat → Nat → Int64) : Bool × (Nat → Nat → Int32) := if kind = (4 : Int32) then (xq_lt (Fx_H_hasX pond 44 u g) fun t2 => if t2 = true then (xq_lt (Fx_H_isOutX pond 44 u g) fun t7 => if t7 = true then ((false, u)) else (if kind = 0 then (default) else (if kind = 1 then (default) else (if kind = 2 then (default) else (if kind = 3 then (default) else (xq_lt (ms u 43 3 ((u 43 3) + ((hof u 44 pond (7 : Int32)) * (hof u 44 pond (1 : Int32))))) fun u16 => xq_lt (Fx_H_takeOutBX pond 44 u16 g) fun u19 => (true, u19))))))) else ((false, u))) else (xq_lt (Fx_H_hasX pond 44 u g) fun t24 => if t24 = true then (xq_lt (Fx_H_isOutX pond 44 u g) fun t29 => if t29 = true then ((false, u)) else (if kind = 0 then (xq_c2 (Fx_Si_mendsX pond much u g) fun t34 u35 => (t34, u35)) else (if kind = 1 then (xq_c2 (Fx_Si_lowersX pond much u g) fun t42 u43 => (t42, u43)) else (if kind = 2 then (xq_c2 (Fx_Si_widensX pond much u g) fun t50 u51 => (t50, u51)) else (if kind = 3 then (xq_c2 (Fx_Si_leadsX pond much u g) fun t58 u59 => (t58, u59)) else (xq_lt (ms u 43 3 ((u 43 3) + ((hof u 44 pond (7 : Int32)) * (hof u 44 pond (1 : Int32))))) fun u66 => xq_lt (Fx_H_takeOutBX pond 44 u66 g) fun u69 => (true, u69))))))) else ((false, u)))
set_option maxHeartbeats 4000000 in
set_option maxRecDepth 100000 in
theorem c_Si_buildsX {d : Nat} {u : Nat → Nat → Int32} {g : Nat → Nat → Int64} {ex : List MC} {kind : Int32} {pond : Int32} {much : Int32} (hd : 2 ≤ d) (hp0 : Bd 0 9 (u 44 0)) (hp1 : Bd 0 4 (u 44 2)) (hp2 : AB u 45 (-1) 999) (hp3 : (kind = 4 ∨ Bd 0 999 much)) : CT con0 d 0 0 yX4_builds cX4_builds 4 (some .boolean) [.ref 43, .int kind, .int pond, .int much] (Wd u g ex) (fun r h2 => ∃ (z : Bool) (u2 : Nat → Nat → Int32), r = some (.int (bI z)) ∧ h2 = Wd u2 g ex ∧ AB u2 45 (-1) 999 ∧ (z, u2) = Fx_Si_buildsX kind pond much u g ∧ (∀ c, c ≠ 43 → c ≠ 45 → u2 c = u c) ∧ (∀ j, j ≠ 2 → j ≠ 3 → u2 43 j = u 43 j)) := by
  refine CT_of (by decide) (Nat.le_of_ble_eq_true rfl) (fun x hq => ?_)
  show J x yX4_builds cX4_builds 4 (some .boolean) d 0 0 (Wd u g ex).length 0 [(0, .ref 43), (1, .int kind), (2, .int pond), (3, .int much)] [] (Wd u g ex) 0 0
  have E : Fx_Si_buildsX kind pond much u g = Fx_Si_buildsX kind pond much u g := rfl
  by_cases hk : kind = 4
  · replace E := xq_ep hk E
    refine J_aload_n (i := 0) (j := 0) dX4_builds_0 rfl rfl ?_
    refine J_get (C := RX4) (T := TX4) (Z := 4) (ci := 4) (f := 0) dX4_builds_1 inG4 rfl (by decide) k294 wc_43 rfl ?_
    refine J_iload_n (i := 2) (j := 2) dX4_builds_4 rfl rfl ?_
    refine J_callV (As := [.int pond]) (rest := []) dX4_builds_5 (c_H_hasX (d := 0) (u := u) (g := g) (ex := ex) (pond := pond) (t := 44) (by decide) (by decide) hp0 hp1) hq.n k740 k741 k742 wc_44 rfl rfl k89 k743 np_X1_has (Nat.le_trans (by decide) hd) (by decide) (Nat.le_refl _) (Nat.le_refl _) wlen rfl (Nat.le_of_ble_eq_true rfl) (fun r_ h_ p1 => ?_)
    obtain ⟨t2, rfl, rfl, h3, hx4⟩ := p1
    replace E := xq_le hx4 E
    refine J_ifB_eq (tgt := 22) dX4_builds_8 (by decide) (fun c5 => ?_) (fun c5 => ?_)
    · replace E := xq_ef c5 E
      refine J_iconst (v := 0) dX4_builds_22 (by decide) ?_
      exact J_zret hq dX4_builds_23 rfl rfl wlen (Nat.le_refl _) (Nat.le_refl _) ⟨false, u, rfl, rfl, hp2, E, (fun c k0_ k1_ => rfl), (fun j k2_ k3_ => rfl)⟩
    · replace E := xq_ep c5 E
      refine J_aload_n (i := 0) (j := 0) dX4_builds_11 rfl rfl ?_
      refine J_get (C := RX4) (T := TX4) (Z := 4) (ci := 4) (f := 0) dX4_builds_12 inG4 rfl (by decide) k294 wc_43 rfl ?_
      refine J_iload_n (i := 2) (j := 2) dX4_builds_15 rfl rfl ?_
      refine J_callV (As := [.int pond]) (rest := []) dX4_builds_16 (c_H_isOutX (d := 1) (u := u) (g := g) (ex := ex) (pond := pond) (t := 44) (by decide) (by decide)) hq.n k744 k745 k746 wc_44 rfl rfl k89 k747 np_X1_isOut (Nat.le_trans (by decide) hd) (by decide) (Nat.le_refl _) (Nat.le_refl _) wlen rfl (Nat.le_of_ble_eq_true rfl) (fun r_ h_ p6 => ?_)
      obtain ⟨t7, rfl, rfl, hx8⟩ := p6
      replace E := xq_le hx8 E
      refine J_ifB_eq (tgt := 24) dX4_builds_19 (by decide) (fun c9 => ?_) (fun c9 => ?_)
      · replace E := xq_ef c9 E
        refine J_iload_n (i := 1) (j := 1) dX4_builds_24 rfl rfl ?_
        by_cases c10 : kind = 0
        · exact (bd_neq c10 (bd_r hk (bd_c (v := 4) (lo := 4) (hi := 4) (by decide))) (bd_c (v := 0) (lo := 0) (hi := 0) (by decide)) (by decide)).elim
        replace E := xq_en c10 E
        by_cases c11 : kind = 1
        · exact (bd_neq c11 (bd_r hk (bd_c (v := 4) (lo := 4) (hi := 4) (by decide))) (bd_c (v := 1) (lo := 1) (hi := 1) (by decide)) (by decide)).elim
        replace E := xq_en c11 E
        by_cases c12 : kind = 2
        · exact (bd_neq c12 (bd_r hk (bd_c (v := 4) (lo := 4) (hi := 4) (by decide))) (bd_c (v := 2) (lo := 2) (hi := 2) (by decide)) (by decide)).elim
        replace E := xq_en c12 E
        by_cases c13 : kind = 3
        · exact (bd_neq c13 (bd_r hk (bd_c (v := 4) (lo := 4) (hi := 4) (by decide))) (bd_c (v := 3) (lo := 3) (hi := 3) (by decide)) (by decide)).elim
        replace E := xq_en c13 E
        · refine J_tableOut (tgt := 84) dX4_builds_25 (by have e0 := int_ne (k := 0) c10 (by decide); have e1 := int_ne (k := 1) c11 (by decide); have e2 := int_ne (k := 2) c12 (by decide); have e3 := int_ne (k := 3) c13 (by decide); omega) (by decide) ?_
          refine J_aload_n (i := 0) (j := 0) dX4_builds_84 rfl rfl ?_
          refine J_dup dX4_builds_85 rfl ?_
          refine J_get (C := RX4) (T := TX4) (Z := 4) (ci := 4) (f := 3) dX4_builds_86 inG4 rfl (by decide) k300 wc_43 rfl ?_
          refine J_aload_n (i := 0) (j := 0) dX4_builds_89 rfl rfl ?_
          refine J_get (C := RX4) (T := TX4) (Z := 4) (ci := 4) (f := 0) dX4_builds_90 inG4 rfl (by decide) k294 wc_43 rfl ?_
          refine J_iload_n (i := 2) (j := 2) dX4_builds_93 rfl rfl ?_
          refine J_bipush (v := 7) dX4_builds_94 (by decide) ?_
          refine J_callV (As := [.int pond, .int 7]) (rest := [.int (u 43 3), .ref 43]) dX4_builds_96 (c_H_of (d := 0) (u := u) (g := g) (ex := ex) (pond := pond) (column := 7) (t := 44) (by decide) (by decide)) hq.n k756 k749 k750 wc_44 rfl rfl k89 k751 np_X1_of (Nat.le_trans (by decide) hd) (by decide) (Nat.le_refl _) (Nat.le_refl _) wlen rfl (Nat.le_of_ble_eq_true rfl) (fun r_ h_ p14 => ?_)
          obtain ⟨rfl, rfl⟩ := p14
          refine J_aload_n (i := 0) (j := 0) dX4_builds_99 rfl rfl ?_
          refine J_get (C := RX4) (T := TX4) (Z := 4) (ci := 4) (f := 0) dX4_builds_100 inG4 rfl (by decide) k294 wc_43 rfl ?_
          refine J_iload_n (i := 2) (j := 2) dX4_builds_103 rfl rfl ?_
          refine J_iconst (v := 1) dX4_builds_104 (by decide) ?_
          refine J_callV (As := [.int pond, .int 1]) (rest := [.int (hof u 44 pond (7 : Int32)), .int (u 43 3), .ref 43]) dX4_builds_105 (c_H_of (d := 0) (u := u) (g := g) (ex := ex) (pond := pond) (column := 1) (t := 44) (by decide) (by decide)) hq.n k756 k749 k750 wc_44 rfl rfl k89 k751 np_X1_of (Nat.le_trans (by decide) hd) (by decide) (Nat.le_refl _) (Nat.le_refl _) wlen rfl (Nat.le_of_ble_eq_true rfl) (fun r_ h_ p15 => ?_)
          obtain ⟨rfl, rfl⟩ := p15
          refine J_imul dX4_builds_108 ?_
          refine J_iadd dX4_builds_109 ?_
          obtain ⟨u16, e17⟩ : ∃ z, z = ms u 43 3 ((u 43 3) + ((hof u 44 pond (7 : Int32)) * (hof u 44 pond (1 : Int32)))) := ⟨_, rfl⟩
          refine J_put (C := RX4) (T := TX4) (Z := 4) (ci := 4) (f := 3) (ty0 := tyX4) dX4_builds_110 inG4 rfl tyX4_ok nmX4 (by decide) k300 rfl rfl wc_43 (Nat.le_of_ble_eq_true rfl) (fun _ _ => ⟨rfl, rfl⟩) (ws e17 wk_43 rfl) ?_
          replace E := xq_le e17 E
          refine J_aload_n (i := 0) (j := 0) dX4_builds_113 rfl rfl ?_
          refine J_get (C := RX4) (T := TX4) (Z := 4) (ci := 4) (f := 0) dX4_builds_114 inG4 rfl (by decide) k294 wc_43 rfl ?_
          refine J_iload_n (i := 2) (j := 2) dX4_builds_117 rfl rfl ?_
          refine J_callV (As := [.int pond]) (rest := []) dX4_builds_118 (c_H_takeOutBX (d := 1) (u := u16) (g := g) (ex := ex) (pond := pond) (t := 44) (by decide) (by decide) (ab_c (ms_c e17 (Nat.ne_of_beq_eq_false rfl)) hp2)) hq.n k770 k771 k772 wc_44 rfl rfl k89 k773 np_X1_takeOut (Nat.le_trans (by decide) hd) (by decide) (Nat.le_refl _) (Nat.le_refl _) wlen rfl (Nat.le_of_ble_eq_true rfl) (fun r_ h_ p18 => ?_)
          obtain ⟨u19, rfl, rfl, h20, hx21, fr22⟩ := p18
          replace E := xq_le hx21 E
          refine J_iconst (v := 1) dX4_builds_121 (by decide) ?_
          exact J_zret hq dX4_builds_122 rfl rfl wlen (Nat.le_refl _) (Nat.le_refl _) ⟨true, u19, rfl, rfl, h20, E, (fun c k0_ k1_ => ((fr22 c k1_).trans (ms_c e17 k0_))), (fun j k2_ k3_ => ((congrFun (fr22 43 (Nat.ne_of_beq_eq_false rfl)) j).trans (ms_i e17 k3_)))⟩
      · replace E := xq_ep c9 E
        refine J_iconst (v := 0) dX4_builds_22 (by decide) ?_
        exact J_zret hq dX4_builds_23 rfl rfl wlen (Nat.le_refl _) (Nat.le_refl _) ⟨false, u, rfl, rfl, hp2, E, (fun c k0_ k1_ => rfl), (fun j k2_ k3_ => rfl)⟩
  · replace E := xq_en hk E
    have hk2 := hp3.resolve_left hk
    refine J_aload_n (i := 0) (j := 0) dX4_builds_0 rfl rfl ?_
    refine J_get (C := RX4) (T := TX4) (Z := 4) (ci := 4) (f := 0) dX4_builds_1 inG4 rfl (by decide) k294 wc_43 rfl ?_
    refine J_iload_n (i := 2) (j := 2) dX4_builds_4 rfl rfl ?_
    refine J_callV (As := [.int pond]) (rest := []) dX4_builds_5 (c_H_hasX (d := 0) (u := u) (g := g) (ex := ex) (pond := pond) (t := 44) (by decide) (by decide) hp0 hp1) hq.n k740 k741 k742 wc_44 rfl rfl k89 k743 np_X1_has (Nat.le_trans (by decide) hd) (by decide) (Nat.le_refl _) (Nat.le_refl _) wlen rfl (Nat.le_of_ble_eq_true rfl) (fun r_ h_ p23 => ?_)
    obtain ⟨t24, rfl, rfl, h25, hx26⟩ := p23
    replace E := xq_le hx26 E
    refine J_ifB_eq (tgt := 22) dX4_builds_8 (by decide) (fun c27 => ?_) (fun c27 => ?_)
    · replace E := xq_ef c27 E
      refine J_iconst (v := 0) dX4_builds_22 (by decide) ?_
      exact J_zret hq dX4_builds_23 rfl rfl wlen (Nat.le_refl _) (Nat.le_refl _) ⟨false, u, rfl, rfl, hp2, E, (fun c k0_ k1_ => rfl), (fun j k2_ k3_ => rfl)⟩
    · replace E := xq_ep c27 E
      refine J_aload_n (i := 0) (j := 0) dX4_builds_11 rfl rfl ?_
      refine J_get (C := RX4) (T := TX4) (Z := 4) (ci := 4) (f := 0) dX4_builds_12 inG4 rfl (by decide) k294 wc_43 rfl ?_
      refine J_iload_n (i := 2) (j := 2) dX4_builds_15 rfl rfl ?_
      refine J_callV (As := [.int pond]) (rest := []) dX4_builds_16 (c_H_isOutX (d := 1) (u := u) (g := g) (ex := ex) (pond := pond) (t := 44) (by decide) (by decide)) hq.n k744 k745 k746 wc_44 rfl rfl k89 k747 np_X1_isOut (Nat.le_trans (by decide) hd) (by decide) (Nat.le_refl _) (Nat.le_refl _) wlen rfl (Nat.le_of_ble_eq_true rfl) (fun r_ h_ p28 => ?_)
      obtain ⟨t29, rfl, rfl, hx30⟩ := p28
      replace E := xq_le hx30 E
      refine J_ifB_eq (tgt := 24) dX4_builds_19 (by decide) (fun c31 => ?_) (fun c31 => ?_)
      · replace E := xq_ef c31 E
        refine J_iload_n (i := 1) (j := 1) dX4_builds_24 rfl rfl ?_
        by_cases c32 : kind = 0
        · replace E := xq_ep c32 E
          refine J_ci (v := 0) c32 ?_
          refine J_tableIn (tgt := 56) (off := 31) dX4_builds_25 (by decide) (by decide) (by decide) (by decide) ?_
          refine J_aload_n (i := 0) (j := 0) dX4_builds_56 rfl rfl ?_
          refine J_iload_n (i := 2) (j := 2) dX4_builds_57 rfl rfl ?_
          refine J_iload_n (i := 3) (j := 3) dX4_builds_58 rfl rfl ?_
          refine J_callV (As := [.int pond, .int much]) (rest := []) dX4_builds_59 (c_Si_mendsX (d := 1) (u := u) (g := g) (ex := ex) (pond := pond) (much := much)  (by decide) hp0 hp1 hp2 hk2) hq.n k752 k754 k14 wc_43 rfl rfl k93 k755 np_X4_mends (Nat.le_trans (by decide) hd) (by decide) (Nat.le_refl _) (Nat.le_refl _) wlen rfl (Nat.le_of_ble_eq_true rfl) (fun r_ h_ p33 => ?_)
          obtain ⟨t34, u35, rfl, rfl, h36, hx37, fr38, fc39⟩ := p33
          replace E := xq_e2 hx37 E
          exact J_zret hq dX4_builds_62 rfl (bI_n _) wlen (Nat.le_refl _) (Nat.le_refl _) ⟨t34, u35, rfl, rfl, h36, E, (fun c k0_ k1_ => (fr38 c k0_ k1_)), (fun j k2_ k3_ => (fc39 j k2_))⟩
        replace E := xq_en c32 E
        by_cases c40 : kind = 1
        · replace E := xq_ep c40 E
          refine J_ci (v := 1) c40 ?_
          refine J_tableIn (tgt := 63) (off := 38) dX4_builds_25 (by decide) (by decide) (by decide) (by decide) ?_
          refine J_aload_n (i := 0) (j := 0) dX4_builds_63 rfl rfl ?_
          refine J_iload_n (i := 2) (j := 2) dX4_builds_64 rfl rfl ?_
          refine J_iload_n (i := 3) (j := 3) dX4_builds_65 rfl rfl ?_
          refine J_callV (As := [.int pond, .int much]) (rest := []) dX4_builds_66 (c_Si_lowersX (d := 1) (u := u) (g := g) (ex := ex) (pond := pond) (much := much)  (by decide) hp0 hp1 hp2 hk2) hq.n k758 k760 k15 wc_43 rfl rfl k93 k761 np_X4_lowers (Nat.le_trans (by decide) hd) (by decide) (Nat.le_refl _) (Nat.le_refl _) wlen rfl (Nat.le_of_ble_eq_true rfl) (fun r_ h_ p41 => ?_)
          obtain ⟨t42, u43, rfl, rfl, h44, hx45, fr46, fc47⟩ := p41
          replace E := xq_e2 hx45 E
          exact J_zret hq dX4_builds_69 rfl (bI_n _) wlen (Nat.le_refl _) (Nat.le_refl _) ⟨t42, u43, rfl, rfl, h44, E, (fun c k0_ k1_ => (fr46 c k0_ k1_)), (fun j k2_ k3_ => (fc47 j k3_))⟩
        replace E := xq_en c40 E
        by_cases c48 : kind = 2
        · replace E := xq_ep c48 E
          refine J_ci (v := 2) c48 ?_
          refine J_tableIn (tgt := 70) (off := 45) dX4_builds_25 (by decide) (by decide) (by decide) (by decide) ?_
          refine J_aload_n (i := 0) (j := 0) dX4_builds_70 rfl rfl ?_
          refine J_iload_n (i := 2) (j := 2) dX4_builds_71 rfl rfl ?_
          refine J_iload_n (i := 3) (j := 3) dX4_builds_72 rfl rfl ?_
          refine J_callV (As := [.int pond, .int much]) (rest := []) dX4_builds_73 (c_Si_widensX (d := 1) (u := u) (g := g) (ex := ex) (pond := pond) (much := much)  (by decide) hp0 hp1 hp2 hk2) hq.n k762 k764 k16 wc_43 rfl rfl k93 k765 np_X4_widens (Nat.le_trans (by decide) hd) (by decide) (Nat.le_refl _) (Nat.le_refl _) wlen rfl (Nat.le_of_ble_eq_true rfl) (fun r_ h_ p49 => ?_)
          obtain ⟨t50, u51, rfl, rfl, h52, hx53, fr54, fc55⟩ := p49
          replace E := xq_e2 hx53 E
          exact J_zret hq dX4_builds_76 rfl (bI_n _) wlen (Nat.le_refl _) (Nat.le_refl _) ⟨t50, u51, rfl, rfl, h52, E, (fun c k0_ k1_ => (fr54 c k0_ k1_)), (fun j k2_ k3_ => (fc55 j k2_))⟩
        replace E := xq_en c48 E
        by_cases c56 : kind = 3
        · replace E := xq_ep c56 E
          refine J_ci (v := 3) c56 ?_
          refine J_tableIn (tgt := 77) (off := 52) dX4_builds_25 (by decide) (by decide) (by decide) (by decide) ?_
          refine J_aload_n (i := 0) (j := 0) dX4_builds_77 rfl rfl ?_
          refine J_iload_n (i := 2) (j := 2) dX4_builds_78 rfl rfl ?_
          refine J_iload_n (i := 3) (j := 3) dX4_builds_79 rfl rfl ?_
          refine J_callV (As := [.int pond, .int much]) (rest := []) dX4_builds_80 (c_Si_leadsX (d := 1) (u := u) (g := g) (ex := ex) (pond := pond) (much := much)  (by decide) hp0 hp1 hp2 hk2) hq.n k766 k768 k17 wc_43 rfl rfl k93 k769 np_X4_leads (Nat.le_trans (by decide) hd) (by decide) (Nat.le_refl _) (Nat.le_refl _) wlen rfl (Nat.le_of_ble_eq_true rfl) (fun r_ h_ p57 => ?_)
          obtain ⟨t58, u59, rfl, rfl, h60, hx61, fr62, fc63⟩ := p57
          replace E := xq_e2 hx61 E
          exact J_zret hq dX4_builds_83 rfl (bI_n _) wlen (Nat.le_refl _) (Nat.le_refl _) ⟨t58, u59, rfl, rfl, h60, E, (fun c k0_ k1_ => (fr62 c k0_ k1_)), (fun j k2_ k3_ => (fc63 j k2_))⟩
        replace E := xq_en c56 E
        · refine J_tableOut (tgt := 84) dX4_builds_25 (by have e0 := int_ne (k := 0) c32 (by decide); have e1 := int_ne (k := 1) c40 (by decide); have e2 := int_ne (k := 2) c48 (by decide); have e3 := int_ne (k := 3) c56 (by decide); omega) (by decide) ?_
          refine J_aload_n (i := 0) (j := 0) dX4_builds_84 rfl rfl ?_
          refine J_dup dX4_builds_85 rfl ?_
          refine J_get (C := RX4) (T := TX4) (Z := 4) (ci := 4) (f := 3) dX4_builds_86 inG4 rfl (by decide) k300 wc_43 rfl ?_
          refine J_aload_n (i := 0) (j := 0) dX4_builds_89 rfl rfl ?_
          refine J_get (C := RX4) (T := TX4) (Z := 4) (ci := 4) (f := 0) dX4_builds_90 inG4 rfl (by decide) k294 wc_43 rfl ?_
          refine J_iload_n (i := 2) (j := 2) dX4_builds_93 rfl rfl ?_
          refine J_bipush (v := 7) dX4_builds_94 (by decide) ?_
          refine J_callV (As := [.int pond, .int 7]) (rest := [.int (u 43 3), .ref 43]) dX4_builds_96 (c_H_of (d := 0) (u := u) (g := g) (ex := ex) (pond := pond) (column := 7) (t := 44) (by decide) (by decide)) hq.n k756 k749 k750 wc_44 rfl rfl k89 k751 np_X1_of (Nat.le_trans (by decide) hd) (by decide) (Nat.le_refl _) (Nat.le_refl _) wlen rfl (Nat.le_of_ble_eq_true rfl) (fun r_ h_ p64 => ?_)
          obtain ⟨rfl, rfl⟩ := p64
          refine J_aload_n (i := 0) (j := 0) dX4_builds_99 rfl rfl ?_
          refine J_get (C := RX4) (T := TX4) (Z := 4) (ci := 4) (f := 0) dX4_builds_100 inG4 rfl (by decide) k294 wc_43 rfl ?_
          refine J_iload_n (i := 2) (j := 2) dX4_builds_103 rfl rfl ?_
          refine J_iconst (v := 1) dX4_builds_104 (by decide) ?_
          refine J_callV (As := [.int pond, .int 1]) (rest := [.int (hof u 44 pond (7 : Int32)), .int (u 43 3), .ref 43]) dX4_builds_105 (c_H_of (d := 0) (u := u) (g := g) (ex := ex) (pond := pond) (column := 1) (t := 44) (by decide) (by decide)) hq.n k756 k749 k750 wc_44 rfl rfl k89 k751 np_X1_of (Nat.le_trans (by decide) hd) (by decide) (Nat.le_refl _) (Nat.le_refl _) wlen rfl (Nat.le_of_ble_eq_true rfl) (fun r_ h_ p65 => ?_)
          obtain ⟨rfl, rfl⟩ := p65
          refine J_imul dX4_builds_108 ?_
          refine J_iadd dX4_builds_109 ?_
          obtain ⟨u66, e67⟩ : ∃ z, z = ms u 43 3 ((u 43 3) + ((hof u 44 pond (7 : Int32)) * (hof u 44 pond (1 : Int32)))) := ⟨_, rfl⟩
          refine J_put (C := RX4) (T := TX4) (Z := 4) (ci := 4) (f := 3) (ty0 := tyX4) dX4_builds_110 inG4 rfl tyX4_ok nmX4 (by decide) k300 rfl rfl wc_43 (Nat.le_of_ble_eq_true rfl) (fun _ _ => ⟨rfl, rfl⟩) (ws e67 wk_43 rfl) ?_
          replace E := xq_le e67 E
          refine J_aload_n (i := 0) (j := 0) dX4_builds_113 rfl rfl ?_
          refine J_get (C := RX4) (T := TX4) (Z := 4) (ci := 4) (f := 0) dX4_builds_114 inG4 rfl (by decide) k294 wc_43 rfl ?_
          refine J_iload_n (i := 2) (j := 2) dX4_builds_117 rfl rfl ?_
          refine J_callV (As := [.int pond]) (rest := []) dX4_builds_118 (c_H_takeOutBX (d := 1) (u := u66) (g := g) (ex := ex) (pond := pond) (t := 44) (by decide) (by decide) (ab_c (ms_c e67 (Nat.ne_of_beq_eq_false rfl)) hp2)) hq.n k770 k771 k772 wc_44 rfl rfl k89 k773 np_X1_takeOut (Nat.le_trans (by decide) hd) (by decide) (Nat.le_refl _) (Nat.le_refl _) wlen rfl (Nat.le_of_ble_eq_true rfl) (fun r_ h_ p68 => ?_)
          obtain ⟨u69, rfl, rfl, h70, hx71, fr72⟩ := p68
          replace E := xq_le hx71 E
          refine J_iconst (v := 1) dX4_builds_121 (by decide) ?_
          exact J_zret hq dX4_builds_122 rfl rfl wlen (Nat.le_refl _) (Nat.le_refl _) ⟨true, u69, rfl, rfl, h70, E, (fun c k0_ k1_ => ((fr72 c k1_).trans (ms_c e67 k0_))), (fun j k2_ k3_ => ((congrFun (fr72 43 (Nat.ne_of_beq_eq_false rfl)) j).trans (ms_i e67 k3_)))⟩
      · replace E := xq_ep c31 E
        refine J_iconst (v := 0) dX4_builds_22 (by decide) ?_
        exact J_zret hq dX4_builds_23 rfl rfl wlen (Nat.le_refl _) (Nat.le_refl _) ⟨false, u, rfl, rfl, hp2, E, (fun c k0_ k1_ => rfl), (fun j k2_ k3_ => rfl)⟩
set_option maxRecDepth 100000 in
noncomputable def Fx_Si_lay_5_15X_L25 (u : Nat → Nat → Int32) (g : Nat → Nat → Int64) (n_ : Nat) : (Int32) → (Nat → Nat → Int32) → (Nat → Nat → Int32) := Nat.rec (motive := fun _ => (Int32) → (Nat → Nat → Int32) → (Nat → Nat → Int32)) (fun _ _ => default) (fun n_ ih_ w225 u226 => if (u 15 0) ≤ w225 then (u226) else (xq_lt (u226 16 w225.toNatClampNeg) fun v249 => xq_lt (u226 17 w225.toNatClampNeg) fun v250 => xq_lt (u226 18 w225.toNatClampNeg) fun v251 => xq_c2 (Fx_Si_buildsX v249 v250 v251 u226 g) fun t253 u254 => if t253 = true then (xq_lt (ms u254 43 1 ((u226 43 1) + 1)) fun u260 => ih_ (w225 + 1) u260) else (u254))) n_
set_option maxRecDepth 100000 in
theorem Fx_Si_lay_5_15X_L25_s {u : Nat → Nat → Int32} {g : Nat → Nat → Int64} {w225 : Int32} {u226 : Nat → Nat → Int32} {n_ : Nat} : Fx_Si_lay_5_15X_L25 u g (n_ + 1) w225 u226 = if (u 15 0) ≤ w225 then (u226) else (xq_lt (u226 16 w225.toNatClampNeg) fun v249 => xq_lt (u226 17 w225.toNatClampNeg) fun v250 => xq_lt (u226 18 w225.toNatClampNeg) fun v251 => xq_c2 (Fx_Si_buildsX v249 v250 v251 u226 g) fun t253 u254 => if t253 = true then (xq_lt (ms u254 43 1 ((u226 43 1) + 1)) fun u260 => (Fx_Si_lay_5_15X_L25 u g n_) (w225 + 1) u260) else (u254)) := rfl
set_option maxRecDepth 100000 in
noncomputable def Fx_Si_lay_5_15X (u : Nat → Nat → Int32) (g : Nat → Nat → Int64) : (Nat → Nat → Int32) := xq_lt (Fx_H_copyBX 44 5 u g) fun u2 => xq_lt (ms u2 43 1 0) fun u9 => xq_lt (ms u9 43 2 0) fun u11 => xq_lt (ms u11 43 3 0) fun u13 => Fx_Si_lay_5_15X_L25 u g ((12 - (0 : Int32).toInt).toNat + 1) (0 : Int32) u13
set_option maxHeartbeats 4000000 in
set_option maxRecDepth 100000 in
theorem c_Si_lay_5_15X {d : Nat} {u : Nat → Nat → Int32} {g : Nat → Nat → Int64} {ex : List MC}  (hd : 3 ≤ d) (hp0 : Bd 0 9 (u 5 0)) (hp1 : Bd 0 4 (u 5 2)) (hp2 : Bd 0 12 (u 15 0)) (hp3 : AB u 6 (-1) 999) (hp4 : AB u 45 (-1) 999) (hp5 : (KM u 15)) : CT con0 d 0 0 yX4_lay cX4_lay 4 none [.ref 43, .ref 5, .ref 15] (Wd u g ex) (fun r h2 => ∃ (u2 : Nat → Nat → Int32), r = none ∧ h2 = Wd u2 g ex ∧ Bd 0 9 (u2 44 0) ∧ Bd 0 4 (u2 44 2) ∧ AB u2 45 (-1) 999 ∧ u2 = Fx_Si_lay_5_15X u g ∧ (∀ c, nin c [(43, 48)] = true → u2 c = u c) ∧ (∀ j, j ≠ 1 → j ≠ 2 → j ≠ 3 → u2 43 j = u 43 j) ∧ (∀ j, j ≠ 0 → j ≠ 2 → u2 44 j = u 44 j)) := by
  refine CT_of (by decide) (Nat.le_of_ble_eq_true rfl) (fun x hq => ?_)
  show J x yX4_lay cX4_lay 4 none d 0 0 (Wd u g ex).length 0 [(0, .ref 43), (1, .ref 5), (2, .ref 15)] [] (Wd u g ex) 0 0
  have E : Fx_Si_lay_5_15X u g = Fx_Si_lay_5_15X u g := rfl
  refine J_aload_n (i := 0) (j := 0) dX4_lay_0 rfl rfl ?_
  refine J_get (C := RX4) (T := TX4) (Z := 4) (ci := 4) (f := 0) dX4_lay_1 inG4 rfl (by decide) k294 wc_43 rfl ?_
  refine J_aload_n (i := 1) (j := 1) dX4_lay_4 rfl rfl ?_
  refine J_callV (As := [.ref 5]) (rest := []) dX4_lay_5 (c_H_copyBX (d := 1) (u := u) (g := g) (ex := ex)  (t := 44) (f := 5) (by decide) (by decide) (by decide) (Nat.ne_of_beq_eq_false rfl) hp0 hp1 hp4 hp3) hq.n k735 k681 k682 wc_44 rfl rfl k89 k683 np_X1_copy (Nat.le_trans (by decide) hd) (by decide) (Nat.le_refl _) (Nat.le_refl _) wlen rfl (Nat.le_of_ble_eq_true rfl) (fun r_ h_ p1 => ?_)
  obtain ⟨u2, rfl, rfl, h3, h4, h5, hx6, fr7, fc8⟩ := p1
  replace E := xq_le hx6 E
  refine J_aload_n (i := 0) (j := 0) dX4_lay_8 rfl rfl ?_
  refine J_iconst (v := 0) dX4_lay_9 (by decide) ?_
  obtain ⟨u9, e10⟩ : ∃ z, z = ms u2 43 1 0 := ⟨_, rfl⟩
  refine J_put (C := RX4) (T := TX4) (Z := 4) (ci := 4) (f := 1) (ty0 := tyX4) dX4_lay_10 inG4 rfl tyX4_ok nmX4 (by decide) k296 rfl rfl wc_43 (Nat.le_of_ble_eq_true rfl) (fun _ _ => ⟨rfl, rfl⟩) (ws e10 wk_43 rfl) ?_
  replace E := xq_le e10 E
  refine J_aload_n (i := 0) (j := 0) dX4_lay_13 rfl rfl ?_
  refine J_iconst (v := 0) dX4_lay_14 (by decide) ?_
  obtain ⟨u11, e12⟩ : ∃ z, z = ms u9 43 2 0 := ⟨_, rfl⟩
  refine J_put (C := RX4) (T := TX4) (Z := 4) (ci := 4) (f := 2) (ty0 := tyX4) dX4_lay_15 inG4 rfl tyX4_ok nmX4 (by decide) k298 rfl rfl wc_43 (Nat.le_of_ble_eq_true rfl) (fun _ _ => ⟨rfl, rfl⟩) (ws e12 wk_43 rfl) ?_
  replace E := xq_le e12 E
  refine J_aload_n (i := 0) (j := 0) dX4_lay_18 rfl rfl ?_
  refine J_iconst (v := 0) dX4_lay_19 (by decide) ?_
  obtain ⟨u13, e14⟩ : ∃ z, z = ms u11 43 3 0 := ⟨_, rfl⟩
  refine J_put (C := RX4) (T := TX4) (Z := 4) (ci := 4) (f := 3) (ty0 := tyX4) dX4_lay_20 inG4 rfl tyX4_ok nmX4 (by decide) k300 rfl rfl wc_43 (Nat.le_of_ble_eq_true rfl) (fun _ _ => ⟨rfl, rfl⟩) (ws e14 wk_43 rfl) ?_
  replace E := xq_le e14 E
  refine J_iconst (v := 0) dX4_lay_23 (by decide) ?_
  refine J_istore_n (i := 3) (lw := [(3, .int 0), (0, .ref 43), (1, .ref 5), (2, .ref 15)]) dX4_lay_24 rfl (by decide) rfl ?_
  have lp244 : ∀ (n245 : Nat) (w225 : Int32) (u226 : Nat → Nat → Int32), Bd 0 12 w225 → (∀ c, c ≠ 43 → c ≠ 45 → u226 c = u13 c) → (∀ j, j ≠ 1 → j ≠ 2 → j ≠ 3 → u226 43 j = u13 43 j) → AB u226 45 (-1) 999 → (12 - w225.toInt).toNat < n245 → Fx_Si_lay_5_15X_L25 u g n245 w225 u226 = Fx_Si_lay_5_15X u g → J x yX4_lay cX4_lay 4 none d 0 0 (Wd u g ex).length 25 [(0, .ref 43), (2, .ref 15), (3, .int w225)] [] (Wd u226 g ex) 0 0 := by
    intro n245
    induction n245 with
    | zero => intro w225 u226 bw225 fr227 fc228 ab229 hm247 _; exact absurd hm247 (Nat.not_lt_zero _)
    | succ n245 ih246 =>
      intro w225 u226 bw225 fr227 fc228 ab229 hm247 E
      replace E := Fx_Si_lay_5_15X_L25_s.symm.trans E
      refine J_iload_n (i := 3) (j := 2) dX4_lay_25 rfl rfl ?_
      refine J_aload_n (i := 2) (j := 1) dX4_lay_26 rfl rfl ?_
      refine J_getN (C := RX8) (T := TX8) (Z := 4) (ci := 8) (f := 0) dX4_lay_27 inG8 rfl (by decide) k169 wc_15 rfl ?_
      refine J_ci (v := u 15 0) ((congrFun (fr227 15 (Nat.ne_of_beq_eq_false rfl) (Nat.ne_of_beq_eq_false rfl)) 0).trans ((congrFun (ms_c e14 (Nat.ne_of_beq_eq_false rfl)) 0).trans ((congrFun (ms_c e12 (Nat.ne_of_beq_eq_false rfl)) 0).trans ((congrFun (ms_c e10 (Nat.ne_of_beq_eq_false rfl)) 0).trans (congrFun (fr7 15 (Nat.ne_of_beq_eq_false rfl) (Nat.ne_of_beq_eq_false rfl) (Nat.ne_of_beq_eq_false rfl) (Nat.ne_of_beq_eq_false rfl) (Nat.ne_of_beq_eq_false rfl)) 0))))) ?_
      refine J_icmp_ge (tgt := 75) dX4_lay_30 (by decide) (fun c248 => ?_) (fun c248 => ?_)
      · replace E := xq_ep c248 E
        exact J_vret hq dX4_lay_75 rfl wlen (Nat.le_refl _) (Nat.le_refl _) ⟨u226, rfl, rfl, (bd_r ((congrFun (fr227 44 (Nat.ne_of_beq_eq_false rfl) (Nat.ne_of_beq_eq_false rfl)) 0).trans ((congrFun (ms_c e14 (Nat.ne_of_beq_eq_false rfl)) 0).trans ((congrFun (ms_c e12 (Nat.ne_of_beq_eq_false rfl)) 0).trans (congrFun (ms_c e10 (Nat.ne_of_beq_eq_false rfl)) 0)))) h3), (bd_r ((congrFun (fr227 44 (Nat.ne_of_beq_eq_false rfl) (Nat.ne_of_beq_eq_false rfl)) 2).trans ((congrFun (ms_c e14 (Nat.ne_of_beq_eq_false rfl)) 2).trans ((congrFun (ms_c e12 (Nat.ne_of_beq_eq_false rfl)) 2).trans (congrFun (ms_c e10 (Nat.ne_of_beq_eq_false rfl)) 2)))) h4), ab229, E, (fun c k_ => ((fr227 c (nin_ne (a := 43) k_ rfl) (nin_ne (a := 45) k_ rfl)).trans ((ms_c e14 (nin_ne (a := 43) k_ rfl)).trans ((ms_c e12 (nin_ne (a := 43) k_ rfl)).trans ((ms_c e10 (nin_ne (a := 43) k_ rfl)).trans (fr7 c (nin_ne (a := 44) k_ rfl) (nin_ne (a := 45) k_ rfl) (nin_ne (a := 46) k_ rfl) (nin_ne (a := 47) k_ rfl) (nin_ne (a := 48) k_ rfl))))))), (fun j k1_ k2_ k3_ => ((fc228 j k1_ k2_ k3_).trans ((ms_i e14 k3_).trans ((ms_i e12 k2_).trans ((ms_i e10 k1_).trans (congrFun (fr7 43 (Nat.ne_of_beq_eq_false rfl) (Nat.ne_of_beq_eq_false rfl) (Nat.ne_of_beq_eq_false rfl) (Nat.ne_of_beq_eq_false rfl) (Nat.ne_of_beq_eq_false rfl)) j)))))), (fun j k0_ k2_ => ((congrFun (fr227 44 (Nat.ne_of_beq_eq_false rfl) (Nat.ne_of_beq_eq_false rfl)) j).trans ((congrFun (ms_c e14 (Nat.ne_of_beq_eq_false rfl)) j).trans ((congrFun (ms_c e12 (Nat.ne_of_beq_eq_false rfl)) j).trans ((congrFun (ms_c e10 (Nat.ne_of_beq_eq_false rfl)) j).trans (fc8 j k0_ k2_))))))⟩
      · replace E := xq_en c248 E
        refine J_aload_n (i := 0) (j := 0) dX4_lay_33 rfl rfl ?_
        refine J_aload_n (i := 2) (j := 1) dX4_lay_34 rfl rfl ?_
        refine J_getN (C := RX8) (T := TX8) (Z := 4) (ci := 8) (f := 1) dX4_lay_35 inG8 rfl (by decide) k172 wc_15 rfl ?_
        refine J_iload_n (i := 3) (j := 2) dX4_lay_38 rfl rfl ?_
        refine J_iald dX4_lay_39 wc_16 (vin (bd_lt_hi bw225 (i_nle c248) hp2) (by decide)) ?_
        refine J_topi (fun v249 qv249 => ?_)
        replace E := xq_le qv249 E
        refine J_aload_n (i := 2) (j := 1) dX4_lay_40 rfl rfl ?_
        refine J_getN (C := RX8) (T := TX8) (Z := 4) (ci := 8) (f := 2) dX4_lay_41 inG8 rfl (by decide) k174 wc_15 rfl ?_
        refine J_iload_n (i := 3) (j := 2) dX4_lay_44 rfl rfl ?_
        refine J_iald dX4_lay_45 wc_17 (vin (bd_lt_hi bw225 (i_nle c248) hp2) (by decide)) ?_
        refine J_topi (fun v250 qv250 => ?_)
        replace E := xq_le qv250 E
        refine J_aload_n (i := 2) (j := 1) dX4_lay_46 rfl rfl ?_
        refine J_getN (C := RX8) (T := TX8) (Z := 4) (ci := 8) (f := 3) dX4_lay_47 inG8 rfl (by decide) k176 wc_15 rfl ?_
        refine J_iload_n (i := 3) (j := 2) dX4_lay_50 rfl rfl ?_
        refine J_iald dX4_lay_51 wc_18 (vin (bd_lt_hi bw225 (i_nle c248) hp2) (by decide)) ?_
        refine J_topi (fun v251 qv251 => ?_)
        replace E := xq_le qv251 E
        refine J_callV (As := [.int v249, .int v250, .int v251]) (rest := []) dX4_lay_52 (c_Si_buildsX (d := 2) (u := u226) (g := g) (ex := ex) (kind := v249) (pond := v250) (much := v251)  (by decide) (bd_r ((congrFun (fr227 44 (Nat.ne_of_beq_eq_false rfl) (Nat.ne_of_beq_eq_false rfl)) 0).trans ((congrFun (ms_c e14 (Nat.ne_of_beq_eq_false rfl)) 0).trans ((congrFun (ms_c e12 (Nat.ne_of_beq_eq_false rfl)) 0).trans (congrFun (ms_c e10 (Nat.ne_of_beq_eq_false rfl)) 0)))) h3) (bd_r ((congrFun (fr227 44 (Nat.ne_of_beq_eq_false rfl) (Nat.ne_of_beq_eq_false rfl)) 2).trans ((congrFun (ms_c e14 (Nat.ne_of_beq_eq_false rfl)) 2).trans ((congrFun (ms_c e12 (Nat.ne_of_beq_eq_false rfl)) 2).trans (congrFun (ms_c e10 (Nat.ne_of_beq_eq_false rfl)) 2)))) h4) ab229 (km_use qv249 qv251 ((km_c ((fr227 16 (Nat.ne_of_beq_eq_false rfl) (Nat.ne_of_beq_eq_false rfl)).trans ((ms_c e14 (Nat.ne_of_beq_eq_false rfl)).trans ((ms_c e12 (Nat.ne_of_beq_eq_false rfl)).trans ((ms_c e10 (Nat.ne_of_beq_eq_false rfl)).trans (fr7 16 (Nat.ne_of_beq_eq_false rfl) (Nat.ne_of_beq_eq_false rfl) (Nat.ne_of_beq_eq_false rfl) (Nat.ne_of_beq_eq_false rfl) (Nat.ne_of_beq_eq_false rfl)))))) ((fr227 18 (Nat.ne_of_beq_eq_false rfl) (Nat.ne_of_beq_eq_false rfl)).trans ((ms_c e14 (Nat.ne_of_beq_eq_false rfl)).trans ((ms_c e12 (Nat.ne_of_beq_eq_false rfl)).trans ((ms_c e10 (Nat.ne_of_beq_eq_false rfl)).trans (fr7 18 (Nat.ne_of_beq_eq_false rfl) (Nat.ne_of_beq_eq_false rfl) (Nat.ne_of_beq_eq_false rfl) (Nat.ne_of_beq_eq_false rfl) (Nat.ne_of_beq_eq_false rfl)))))) hp5) w225.toNatClampNeg))) hq.n k736 k738 k13 wc_43 rfl rfl k93 k739 np_X4_builds (Nat.le_trans (by decide) hd) (by decide) (Nat.le_refl _) (Nat.le_refl _) wlen rfl (Nat.le_of_ble_eq_true rfl) (fun r_ h_ p252 => ?_)
        obtain ⟨t253, u254, rfl, rfl, h255, hx256, fr257, fc258⟩ := p252
        replace E := xq_e2 hx256 E
        refine J_ifB_ne (tgt := 59) dX4_lay_55 (by decide) (fun c259 => ?_) (fun c259 => ?_)
        · replace E := xq_ep c259 E
          refine J_aload_n (i := 0) (j := 0) dX4_lay_59 rfl rfl ?_
          refine J_dup dX4_lay_60 rfl ?_
          refine J_get (C := RX4) (T := TX4) (Z := 4) (ci := 4) (f := 1) dX4_lay_61 inG4 rfl (by decide) k296 wc_43 rfl ?_
          refine J_ci (v := u226 43 1) (fc258 1 (Nat.ne_of_beq_eq_false rfl) (Nat.ne_of_beq_eq_false rfl)) ?_
          refine J_iconst (v := 1) dX4_lay_64 (by decide) ?_
          refine J_iadd dX4_lay_65 ?_
          obtain ⟨u260, e261⟩ : ∃ z, z = ms u254 43 1 ((u226 43 1) + 1) := ⟨_, rfl⟩
          refine J_put (C := RX4) (T := TX4) (Z := 4) (ci := 4) (f := 1) (ty0 := tyX4) dX4_lay_66 inG4 rfl tyX4_ok nmX4 (by decide) k296 rfl rfl wc_43 (Nat.le_of_ble_eq_true rfl) (fun _ _ => ⟨rfl, rfl⟩) (ws e261 wk_43 rfl) ?_
          replace E := xq_le e261 E
          refine J_iinc (i := 3) (j := 2) (v := (w225 + 1)) (lw := [(3, .int (w225 + 1)), (0, .ref 43), (2, .ref 15)]) dX4_lay_69 rfl rfl (by decide) rfl ?_
          refine J_goto (tgt := 25) dX4_lay_72 (by decide) ?_
          refine J_lv [1, 2, 0] rfl ?_
          exact ih246 (w225 + 1) u260 (bd_w (l := 0) (h := 12) (bd_add (l := 1) (h := 12) (bd_lt_hi bw225 (i_nle c248) hp2) (bd_c (v := 1) (lo := 1) (hi := 1) (by decide)) (by decide)) (by decide)) (fun c k0_ k1_ => ((ms_c e261 k0_).trans ((fr257 c k0_ k1_).trans (fr227 c k0_ k1_)))) (fun j k1_ k2_ k3_ => ((ms_i e261 k1_).trans ((fc258 j k2_ k3_).trans (fc228 j k1_ k2_ k3_)))) (ab_c (ms_c e261 (Nat.ne_of_beq_eq_false rfl)) h255) (mu_up 1 bw225 rfl (by decide) (bd_w (l := 1) (h := 12) (bd_add (l := 1) (h := 12) (bd_lt_hi bw225 (i_nle c248) hp2) (bd_c (v := 1) (lo := 1) (hi := 1) (by decide)) (by decide)) (by decide)) hm247) E
        · replace E := xq_ef c259 E
          exact J_vret hq dX4_lay_58 rfl wlen (Nat.le_refl _) (Nat.le_refl _) ⟨u254, rfl, rfl, (bd_r ((congrFun (fr257 44 (Nat.ne_of_beq_eq_false rfl) (Nat.ne_of_beq_eq_false rfl)) 0).trans ((congrFun (fr227 44 (Nat.ne_of_beq_eq_false rfl) (Nat.ne_of_beq_eq_false rfl)) 0).trans ((congrFun (ms_c e14 (Nat.ne_of_beq_eq_false rfl)) 0).trans ((congrFun (ms_c e12 (Nat.ne_of_beq_eq_false rfl)) 0).trans (congrFun (ms_c e10 (Nat.ne_of_beq_eq_false rfl)) 0))))) h3), (bd_r ((congrFun (fr257 44 (Nat.ne_of_beq_eq_false rfl) (Nat.ne_of_beq_eq_false rfl)) 2).trans ((congrFun (fr227 44 (Nat.ne_of_beq_eq_false rfl) (Nat.ne_of_beq_eq_false rfl)) 2).trans ((congrFun (ms_c e14 (Nat.ne_of_beq_eq_false rfl)) 2).trans ((congrFun (ms_c e12 (Nat.ne_of_beq_eq_false rfl)) 2).trans (congrFun (ms_c e10 (Nat.ne_of_beq_eq_false rfl)) 2))))) h4), h255, E, (fun c k_ => ((fr257 c (nin_ne (a := 43) k_ rfl) (nin_ne (a := 45) k_ rfl)).trans ((fr227 c (nin_ne (a := 43) k_ rfl) (nin_ne (a := 45) k_ rfl)).trans ((ms_c e14 (nin_ne (a := 43) k_ rfl)).trans ((ms_c e12 (nin_ne (a := 43) k_ rfl)).trans ((ms_c e10 (nin_ne (a := 43) k_ rfl)).trans (fr7 c (nin_ne (a := 44) k_ rfl) (nin_ne (a := 45) k_ rfl) (nin_ne (a := 46) k_ rfl) (nin_ne (a := 47) k_ rfl) (nin_ne (a := 48) k_ rfl)))))))), (fun j k1_ k2_ k3_ => ((fc258 j k2_ k3_).trans ((fc228 j k1_ k2_ k3_).trans ((ms_i e14 k3_).trans ((ms_i e12 k2_).trans ((ms_i e10 k1_).trans (congrFun (fr7 43 (Nat.ne_of_beq_eq_false rfl) (Nat.ne_of_beq_eq_false rfl) (Nat.ne_of_beq_eq_false rfl) (Nat.ne_of_beq_eq_false rfl) (Nat.ne_of_beq_eq_false rfl)) j))))))), (fun j k0_ k2_ => ((congrFun (fr257 44 (Nat.ne_of_beq_eq_false rfl) (Nat.ne_of_beq_eq_false rfl)) j).trans ((congrFun (fr227 44 (Nat.ne_of_beq_eq_false rfl) (Nat.ne_of_beq_eq_false rfl)) j).trans ((congrFun (ms_c e14 (Nat.ne_of_beq_eq_false rfl)) j).trans ((congrFun (ms_c e12 (Nat.ne_of_beq_eq_false rfl)) j).trans ((congrFun (ms_c e10 (Nat.ne_of_beq_eq_false rfl)) j).trans (fc8 j k0_ k2_)))))))⟩
  refine J_lv [1, 3, 0] rfl ?_
  exact lp244 ((12 - (0 : Int32).toInt).toNat + 1) (0 : Int32) u13 (bd_w (l := 0) (h := 12) (bd_c (v := 0) (lo := 0) (hi := 0) (by decide)) (by decide)) (fun c k0_ k1_ => rfl) (fun j k1_ k2_ k3_ => rfl) (ab_c ((ms_c e14 (Nat.ne_of_beq_eq_false rfl)).trans ((ms_c e12 (Nat.ne_of_beq_eq_false rfl)).trans (ms_c e10 (Nat.ne_of_beq_eq_false rfl)))) h5) (Nat.lt_succ_self _) E
set_option maxRecDepth 100000 in
noncomputable def Fx_Si_lay_5_19X_L25 (u : Nat → Nat → Int32) (g : Nat → Nat → Int64) (n_ : Nat) : (Int32) → (Nat → Nat → Int32) → (Nat → Nat → Int32) := Nat.rec (motive := fun _ => (Int32) → (Nat → Nat → Int32) → (Nat → Nat → Int32)) (fun _ _ => default) (fun n_ ih_ w225 u226 => if (u 19 0) ≤ w225 then (u226) else (xq_lt (u226 20 w225.toNatClampNeg) fun v249 => xq_lt (u226 21 w225.toNatClampNeg) fun v250 => xq_lt (u226 22 w225.toNatClampNeg) fun v251 => xq_c2 (Fx_Si_buildsX v249 v250 v251 u226 g) fun t253 u254 => if t253 = true then (xq_lt (ms u254 43 1 ((u226 43 1) + 1)) fun u260 => ih_ (w225 + 1) u260) else (u254))) n_
set_option maxRecDepth 100000 in
theorem Fx_Si_lay_5_19X_L25_s {u : Nat → Nat → Int32} {g : Nat → Nat → Int64} {w225 : Int32} {u226 : Nat → Nat → Int32} {n_ : Nat} : Fx_Si_lay_5_19X_L25 u g (n_ + 1) w225 u226 = if (u 19 0) ≤ w225 then (u226) else (xq_lt (u226 20 w225.toNatClampNeg) fun v249 => xq_lt (u226 21 w225.toNatClampNeg) fun v250 => xq_lt (u226 22 w225.toNatClampNeg) fun v251 => xq_c2 (Fx_Si_buildsX v249 v250 v251 u226 g) fun t253 u254 => if t253 = true then (xq_lt (ms u254 43 1 ((u226 43 1) + 1)) fun u260 => (Fx_Si_lay_5_19X_L25 u g n_) (w225 + 1) u260) else (u254)) := rfl
set_option maxRecDepth 100000 in
noncomputable def Fx_Si_lay_5_19X (u : Nat → Nat → Int32) (g : Nat → Nat → Int64) : (Nat → Nat → Int32) := xq_lt (Fx_H_copyBX 44 5 u g) fun u2 => xq_lt (ms u2 43 1 0) fun u9 => xq_lt (ms u9 43 2 0) fun u11 => xq_lt (ms u11 43 3 0) fun u13 => Fx_Si_lay_5_19X_L25 u g ((12 - (0 : Int32).toInt).toNat + 1) (0 : Int32) u13
set_option maxHeartbeats 4000000 in
set_option maxRecDepth 100000 in
theorem c_Si_lay_5_19X {d : Nat} {u : Nat → Nat → Int32} {g : Nat → Nat → Int64} {ex : List MC}  (hd : 3 ≤ d) (hp0 : Bd 0 9 (u 5 0)) (hp1 : Bd 0 4 (u 5 2)) (hp2 : Bd 0 12 (u 19 0)) (hp3 : AB u 6 (-1) 999) (hp4 : AB u 45 (-1) 999) (hp5 : (KM u 19)) : CT con0 d 0 0 yX4_lay cX4_lay 4 none [.ref 43, .ref 5, .ref 19] (Wd u g ex) (fun r h2 => ∃ (u2 : Nat → Nat → Int32), r = none ∧ h2 = Wd u2 g ex ∧ Bd 0 9 (u2 44 0) ∧ Bd 0 4 (u2 44 2) ∧ AB u2 45 (-1) 999 ∧ u2 = Fx_Si_lay_5_19X u g ∧ (∀ c, nin c [(43, 48)] = true → u2 c = u c) ∧ (∀ j, j ≠ 1 → j ≠ 2 → j ≠ 3 → u2 43 j = u 43 j) ∧ (∀ j, j ≠ 0 → j ≠ 2 → u2 44 j = u 44 j)) := by
  refine CT_of (by decide) (Nat.le_of_ble_eq_true rfl) (fun x hq => ?_)
  show J x yX4_lay cX4_lay 4 none d 0 0 (Wd u g ex).length 0 [(0, .ref 43), (1, .ref 5), (2, .ref 19)] [] (Wd u g ex) 0 0
  have E : Fx_Si_lay_5_19X u g = Fx_Si_lay_5_19X u g := rfl
  refine J_aload_n (i := 0) (j := 0) dX4_lay_0 rfl rfl ?_
  refine J_get (C := RX4) (T := TX4) (Z := 4) (ci := 4) (f := 0) dX4_lay_1 inG4 rfl (by decide) k294 wc_43 rfl ?_
  refine J_aload_n (i := 1) (j := 1) dX4_lay_4 rfl rfl ?_
  refine J_callV (As := [.ref 5]) (rest := []) dX4_lay_5 (c_H_copyBX (d := 1) (u := u) (g := g) (ex := ex)  (t := 44) (f := 5) (by decide) (by decide) (by decide) (Nat.ne_of_beq_eq_false rfl) hp0 hp1 hp4 hp3) hq.n k735 k681 k682 wc_44 rfl rfl k89 k683 np_X1_copy (Nat.le_trans (by decide) hd) (by decide) (Nat.le_refl _) (Nat.le_refl _) wlen rfl (Nat.le_of_ble_eq_true rfl) (fun r_ h_ p1 => ?_)
  obtain ⟨u2, rfl, rfl, h3, h4, h5, hx6, fr7, fc8⟩ := p1
  replace E := xq_le hx6 E
  refine J_aload_n (i := 0) (j := 0) dX4_lay_8 rfl rfl ?_
  refine J_iconst (v := 0) dX4_lay_9 (by decide) ?_
  obtain ⟨u9, e10⟩ : ∃ z, z = ms u2 43 1 0 := ⟨_, rfl⟩
  refine J_put (C := RX4) (T := TX4) (Z := 4) (ci := 4) (f := 1) (ty0 := tyX4) dX4_lay_10 inG4 rfl tyX4_ok nmX4 (by decide) k296 rfl rfl wc_43 (Nat.le_of_ble_eq_true rfl) (fun _ _ => ⟨rfl, rfl⟩) (ws e10 wk_43 rfl) ?_
  replace E := xq_le e10 E
  refine J_aload_n (i := 0) (j := 0) dX4_lay_13 rfl rfl ?_
  refine J_iconst (v := 0) dX4_lay_14 (by decide) ?_
  obtain ⟨u11, e12⟩ : ∃ z, z = ms u9 43 2 0 := ⟨_, rfl⟩
  refine J_put (C := RX4) (T := TX4) (Z := 4) (ci := 4) (f := 2) (ty0 := tyX4) dX4_lay_15 inG4 rfl tyX4_ok nmX4 (by decide) k298 rfl rfl wc_43 (Nat.le_of_ble_eq_true rfl) (fun _ _ => ⟨rfl, rfl⟩) (ws e12 wk_43 rfl) ?_
  replace E := xq_le e12 E
  refine J_aload_n (i := 0) (j := 0) dX4_lay_18 rfl rfl ?_
  refine J_iconst (v := 0) dX4_lay_19 (by decide) ?_
  obtain ⟨u13, e14⟩ : ∃ z, z = ms u11 43 3 0 := ⟨_, rfl⟩
  refine J_put (C := RX4) (T := TX4) (Z := 4) (ci := 4) (f := 3) (ty0 := tyX4) dX4_lay_20 inG4 rfl tyX4_ok nmX4 (by decide) k300 rfl rfl wc_43 (Nat.le_of_ble_eq_true rfl) (fun _ _ => ⟨rfl, rfl⟩) (ws e14 wk_43 rfl) ?_
  replace E := xq_le e14 E
  refine J_iconst (v := 0) dX4_lay_23 (by decide) ?_
  refine J_istore_n (i := 3) (lw := [(3, .int 0), (0, .ref 43), (1, .ref 5), (2, .ref 19)]) dX4_lay_24 rfl (by decide) rfl ?_
  have lp244 : ∀ (n245 : Nat) (w225 : Int32) (u226 : Nat → Nat → Int32), Bd 0 12 w225 → (∀ c, c ≠ 43 → c ≠ 45 → u226 c = u13 c) → (∀ j, j ≠ 1 → j ≠ 2 → j ≠ 3 → u226 43 j = u13 43 j) → AB u226 45 (-1) 999 → (12 - w225.toInt).toNat < n245 → Fx_Si_lay_5_19X_L25 u g n245 w225 u226 = Fx_Si_lay_5_19X u g → J x yX4_lay cX4_lay 4 none d 0 0 (Wd u g ex).length 25 [(0, .ref 43), (2, .ref 19), (3, .int w225)] [] (Wd u226 g ex) 0 0 := by
    intro n245
    induction n245 with
    | zero => intro w225 u226 bw225 fr227 fc228 ab229 hm247 _; exact absurd hm247 (Nat.not_lt_zero _)
    | succ n245 ih246 =>
      intro w225 u226 bw225 fr227 fc228 ab229 hm247 E
      replace E := Fx_Si_lay_5_19X_L25_s.symm.trans E
      refine J_iload_n (i := 3) (j := 2) dX4_lay_25 rfl rfl ?_
      refine J_aload_n (i := 2) (j := 1) dX4_lay_26 rfl rfl ?_
      refine J_getN (C := RX8) (T := TX8) (Z := 4) (ci := 8) (f := 0) dX4_lay_27 inG8 rfl (by decide) k169 wc_19 rfl ?_
      refine J_ci (v := u 19 0) ((congrFun (fr227 19 (Nat.ne_of_beq_eq_false rfl) (Nat.ne_of_beq_eq_false rfl)) 0).trans ((congrFun (ms_c e14 (Nat.ne_of_beq_eq_false rfl)) 0).trans ((congrFun (ms_c e12 (Nat.ne_of_beq_eq_false rfl)) 0).trans ((congrFun (ms_c e10 (Nat.ne_of_beq_eq_false rfl)) 0).trans (congrFun (fr7 19 (Nat.ne_of_beq_eq_false rfl) (Nat.ne_of_beq_eq_false rfl) (Nat.ne_of_beq_eq_false rfl) (Nat.ne_of_beq_eq_false rfl) (Nat.ne_of_beq_eq_false rfl)) 0))))) ?_
      refine J_icmp_ge (tgt := 75) dX4_lay_30 (by decide) (fun c248 => ?_) (fun c248 => ?_)
      · replace E := xq_ep c248 E
        exact J_vret hq dX4_lay_75 rfl wlen (Nat.le_refl _) (Nat.le_refl _) ⟨u226, rfl, rfl, (bd_r ((congrFun (fr227 44 (Nat.ne_of_beq_eq_false rfl) (Nat.ne_of_beq_eq_false rfl)) 0).trans ((congrFun (ms_c e14 (Nat.ne_of_beq_eq_false rfl)) 0).trans ((congrFun (ms_c e12 (Nat.ne_of_beq_eq_false rfl)) 0).trans (congrFun (ms_c e10 (Nat.ne_of_beq_eq_false rfl)) 0)))) h3), (bd_r ((congrFun (fr227 44 (Nat.ne_of_beq_eq_false rfl) (Nat.ne_of_beq_eq_false rfl)) 2).trans ((congrFun (ms_c e14 (Nat.ne_of_beq_eq_false rfl)) 2).trans ((congrFun (ms_c e12 (Nat.ne_of_beq_eq_false rfl)) 2).trans (congrFun (ms_c e10 (Nat.ne_of_beq_eq_false rfl)) 2)))) h4), ab229, E, (fun c k_ => ((fr227 c (nin_ne (a := 43) k_ rfl) (nin_ne (a := 45) k_ rfl)).trans ((ms_c e14 (nin_ne (a := 43) k_ rfl)).trans ((ms_c e12 (nin_ne (a := 43) k_ rfl)).trans ((ms_c e10 (nin_ne (a := 43) k_ rfl)).trans (fr7 c (nin_ne (a := 44) k_ rfl) (nin_ne (a := 45) k_ rfl) (nin_ne (a := 46) k_ rfl) (nin_ne (a := 47) k_ rfl) (nin_ne (a := 48) k_ rfl))))))), (fun j k1_ k2_ k3_ => ((fc228 j k1_ k2_ k3_).trans ((ms_i e14 k3_).trans ((ms_i e12 k2_).trans ((ms_i e10 k1_).trans (congrFun (fr7 43 (Nat.ne_of_beq_eq_false rfl) (Nat.ne_of_beq_eq_false rfl) (Nat.ne_of_beq_eq_false rfl) (Nat.ne_of_beq_eq_false rfl) (Nat.ne_of_beq_eq_false rfl)) j)))))), (fun j k0_ k2_ => ((congrFun (fr227 44 (Nat.ne_of_beq_eq_false rfl) (Nat.ne_of_beq_eq_false rfl)) j).trans ((congrFun (ms_c e14 (Nat.ne_of_beq_eq_false rfl)) j).trans ((congrFun (ms_c e12 (Nat.ne_of_beq_eq_false rfl)) j).trans ((congrFun (ms_c e10 (Nat.ne_of_beq_eq_false rfl)) j).trans (fc8 j k0_ k2_))))))⟩
      · replace E := xq_en c248 E
        refine J_aload_n (i := 0) (j := 0) dX4_lay_33 rfl rfl ?_
        refine J_aload_n (i := 2) (j := 1) dX4_lay_34 rfl rfl ?_
        refine J_getN (C := RX8) (T := TX8) (Z := 4) (ci := 8) (f := 1) dX4_lay_35 inG8 rfl (by decide) k172 wc_19 rfl ?_
        refine J_iload_n (i := 3) (j := 2) dX4_lay_38 rfl rfl ?_
        refine J_iald dX4_lay_39 wc_20 (vin (bd_lt_hi bw225 (i_nle c248) hp2) (by decide)) ?_
        refine J_topi (fun v249 qv249 => ?_)
        replace E := xq_le qv249 E
        refine J_aload_n (i := 2) (j := 1) dX4_lay_40 rfl rfl ?_
        refine J_getN (C := RX8) (T := TX8) (Z := 4) (ci := 8) (f := 2) dX4_lay_41 inG8 rfl (by decide) k174 wc_19 rfl ?_
        refine J_iload_n (i := 3) (j := 2) dX4_lay_44 rfl rfl ?_
        refine J_iald dX4_lay_45 wc_21 (vin (bd_lt_hi bw225 (i_nle c248) hp2) (by decide)) ?_
        refine J_topi (fun v250 qv250 => ?_)
        replace E := xq_le qv250 E
        refine J_aload_n (i := 2) (j := 1) dX4_lay_46 rfl rfl ?_
        refine J_getN (C := RX8) (T := TX8) (Z := 4) (ci := 8) (f := 3) dX4_lay_47 inG8 rfl (by decide) k176 wc_19 rfl ?_
        refine J_iload_n (i := 3) (j := 2) dX4_lay_50 rfl rfl ?_
        refine J_iald dX4_lay_51 wc_22 (vin (bd_lt_hi bw225 (i_nle c248) hp2) (by decide)) ?_
        refine J_topi (fun v251 qv251 => ?_)
        replace E := xq_le qv251 E
        refine J_callV (As := [.int v249, .int v250, .int v251]) (rest := []) dX4_lay_52 (c_Si_buildsX (d := 2) (u := u226) (g := g) (ex := ex) (kind := v249) (pond := v250) (much := v251)  (by decide) (bd_r ((congrFun (fr227 44 (Nat.ne_of_beq_eq_false rfl) (Nat.ne_of_beq_eq_false rfl)) 0).trans ((congrFun (ms_c e14 (Nat.ne_of_beq_eq_false rfl)) 0).trans ((congrFun (ms_c e12 (Nat.ne_of_beq_eq_false rfl)) 0).trans (congrFun (ms_c e10 (Nat.ne_of_beq_eq_false rfl)) 0)))) h3) (bd_r ((congrFun (fr227 44 (Nat.ne_of_beq_eq_false rfl) (Nat.ne_of_beq_eq_false rfl)) 2).trans ((congrFun (ms_c e14 (Nat.ne_of_beq_eq_false rfl)) 2).trans ((congrFun (ms_c e12 (Nat.ne_of_beq_eq_false rfl)) 2).trans (congrFun (ms_c e10 (Nat.ne_of_beq_eq_false rfl)) 2)))) h4) ab229 (km_use qv249 qv251 ((km_c ((fr227 20 (Nat.ne_of_beq_eq_false rfl) (Nat.ne_of_beq_eq_false rfl)).trans ((ms_c e14 (Nat.ne_of_beq_eq_false rfl)).trans ((ms_c e12 (Nat.ne_of_beq_eq_false rfl)).trans ((ms_c e10 (Nat.ne_of_beq_eq_false rfl)).trans (fr7 20 (Nat.ne_of_beq_eq_false rfl) (Nat.ne_of_beq_eq_false rfl) (Nat.ne_of_beq_eq_false rfl) (Nat.ne_of_beq_eq_false rfl) (Nat.ne_of_beq_eq_false rfl)))))) ((fr227 22 (Nat.ne_of_beq_eq_false rfl) (Nat.ne_of_beq_eq_false rfl)).trans ((ms_c e14 (Nat.ne_of_beq_eq_false rfl)).trans ((ms_c e12 (Nat.ne_of_beq_eq_false rfl)).trans ((ms_c e10 (Nat.ne_of_beq_eq_false rfl)).trans (fr7 22 (Nat.ne_of_beq_eq_false rfl) (Nat.ne_of_beq_eq_false rfl) (Nat.ne_of_beq_eq_false rfl) (Nat.ne_of_beq_eq_false rfl) (Nat.ne_of_beq_eq_false rfl)))))) hp5) w225.toNatClampNeg))) hq.n k736 k738 k13 wc_43 rfl rfl k93 k739 np_X4_builds (Nat.le_trans (by decide) hd) (by decide) (Nat.le_refl _) (Nat.le_refl _) wlen rfl (Nat.le_of_ble_eq_true rfl) (fun r_ h_ p252 => ?_)
        obtain ⟨t253, u254, rfl, rfl, h255, hx256, fr257, fc258⟩ := p252
        replace E := xq_e2 hx256 E
        refine J_ifB_ne (tgt := 59) dX4_lay_55 (by decide) (fun c259 => ?_) (fun c259 => ?_)
        · replace E := xq_ep c259 E
          refine J_aload_n (i := 0) (j := 0) dX4_lay_59 rfl rfl ?_
          refine J_dup dX4_lay_60 rfl ?_
          refine J_get (C := RX4) (T := TX4) (Z := 4) (ci := 4) (f := 1) dX4_lay_61 inG4 rfl (by decide) k296 wc_43 rfl ?_
          refine J_ci (v := u226 43 1) (fc258 1 (Nat.ne_of_beq_eq_false rfl) (Nat.ne_of_beq_eq_false rfl)) ?_
          refine J_iconst (v := 1) dX4_lay_64 (by decide) ?_
          refine J_iadd dX4_lay_65 ?_
          obtain ⟨u260, e261⟩ : ∃ z, z = ms u254 43 1 ((u226 43 1) + 1) := ⟨_, rfl⟩
          refine J_put (C := RX4) (T := TX4) (Z := 4) (ci := 4) (f := 1) (ty0 := tyX4) dX4_lay_66 inG4 rfl tyX4_ok nmX4 (by decide) k296 rfl rfl wc_43 (Nat.le_of_ble_eq_true rfl) (fun _ _ => ⟨rfl, rfl⟩) (ws e261 wk_43 rfl) ?_
          replace E := xq_le e261 E
          refine J_iinc (i := 3) (j := 2) (v := (w225 + 1)) (lw := [(3, .int (w225 + 1)), (0, .ref 43), (2, .ref 19)]) dX4_lay_69 rfl rfl (by decide) rfl ?_
          refine J_goto (tgt := 25) dX4_lay_72 (by decide) ?_
          refine J_lv [1, 2, 0] rfl ?_
          exact ih246 (w225 + 1) u260 (bd_w (l := 0) (h := 12) (bd_add (l := 1) (h := 12) (bd_lt_hi bw225 (i_nle c248) hp2) (bd_c (v := 1) (lo := 1) (hi := 1) (by decide)) (by decide)) (by decide)) (fun c k0_ k1_ => ((ms_c e261 k0_).trans ((fr257 c k0_ k1_).trans (fr227 c k0_ k1_)))) (fun j k1_ k2_ k3_ => ((ms_i e261 k1_).trans ((fc258 j k2_ k3_).trans (fc228 j k1_ k2_ k3_)))) (ab_c (ms_c e261 (Nat.ne_of_beq_eq_false rfl)) h255) (mu_up 1 bw225 rfl (by decide) (bd_w (l := 1) (h := 12) (bd_add (l := 1) (h := 12) (bd_lt_hi bw225 (i_nle c248) hp2) (bd_c (v := 1) (lo := 1) (hi := 1) (by decide)) (by decide)) (by decide)) hm247) E
        · replace E := xq_ef c259 E
          exact J_vret hq dX4_lay_58 rfl wlen (Nat.le_refl _) (Nat.le_refl _) ⟨u254, rfl, rfl, (bd_r ((congrFun (fr257 44 (Nat.ne_of_beq_eq_false rfl) (Nat.ne_of_beq_eq_false rfl)) 0).trans ((congrFun (fr227 44 (Nat.ne_of_beq_eq_false rfl) (Nat.ne_of_beq_eq_false rfl)) 0).trans ((congrFun (ms_c e14 (Nat.ne_of_beq_eq_false rfl)) 0).trans ((congrFun (ms_c e12 (Nat.ne_of_beq_eq_false rfl)) 0).trans (congrFun (ms_c e10 (Nat.ne_of_beq_eq_false rfl)) 0))))) h3), (bd_r ((congrFun (fr257 44 (Nat.ne_of_beq_eq_false rfl) (Nat.ne_of_beq_eq_false rfl)) 2).trans ((congrFun (fr227 44 (Nat.ne_of_beq_eq_false rfl) (Nat.ne_of_beq_eq_false rfl)) 2).trans ((congrFun (ms_c e14 (Nat.ne_of_beq_eq_false rfl)) 2).trans ((congrFun (ms_c e12 (Nat.ne_of_beq_eq_false rfl)) 2).trans (congrFun (ms_c e10 (Nat.ne_of_beq_eq_false rfl)) 2))))) h4), h255, E, (fun c k_ => ((fr257 c (nin_ne (a := 43) k_ rfl) (nin_ne (a := 45) k_ rfl)).trans ((fr227 c (nin_ne (a := 43) k_ rfl) (nin_ne (a := 45) k_ rfl)).trans ((ms_c e14 (nin_ne (a := 43) k_ rfl)).trans ((ms_c e12 (nin_ne (a := 43) k_ rfl)).trans ((ms_c e10 (nin_ne (a := 43) k_ rfl)).trans (fr7 c (nin_ne (a := 44) k_ rfl) (nin_ne (a := 45) k_ rfl) (nin_ne (a := 46) k_ rfl) (nin_ne (a := 47) k_ rfl) (nin_ne (a := 48) k_ rfl)))))))), (fun j k1_ k2_ k3_ => ((fc258 j k2_ k3_).trans ((fc228 j k1_ k2_ k3_).trans ((ms_i e14 k3_).trans ((ms_i e12 k2_).trans ((ms_i e10 k1_).trans (congrFun (fr7 43 (Nat.ne_of_beq_eq_false rfl) (Nat.ne_of_beq_eq_false rfl) (Nat.ne_of_beq_eq_false rfl) (Nat.ne_of_beq_eq_false rfl) (Nat.ne_of_beq_eq_false rfl)) j))))))), (fun j k0_ k2_ => ((congrFun (fr257 44 (Nat.ne_of_beq_eq_false rfl) (Nat.ne_of_beq_eq_false rfl)) j).trans ((congrFun (fr227 44 (Nat.ne_of_beq_eq_false rfl) (Nat.ne_of_beq_eq_false rfl)) j).trans ((congrFun (ms_c e14 (Nat.ne_of_beq_eq_false rfl)) j).trans ((congrFun (ms_c e12 (Nat.ne_of_beq_eq_false rfl)) j).trans ((congrFun (ms_c e10 (Nat.ne_of_beq_eq_false rfl)) j).trans (fc8 j k0_ k2_)))))))⟩
  refine J_lv [1, 3, 0] rfl ?_
  exact lp244 ((12 - (0 : Int32).toInt).toNat + 1) (0 : Int32) u13 (bd_w (l := 0) (h := 12) (bd_c (v := 0) (lo := 0) (hi := 0) (by decide)) (by decide)) (fun c k0_ k1_ => rfl) (fun j k1_ k2_ k3_ => rfl) (ab_c ((ms_c e14 (Nat.ne_of_beq_eq_false rfl)).trans ((ms_c e12 (Nat.ne_of_beq_eq_false rfl)).trans (ms_c e10 (Nat.ne_of_beq_eq_false rfl)))) h5) (Nat.lt_succ_self _) E
set_option maxRecDepth 100000 in
noncomputable def Fx_Si_lay_5_23X_L25 (u : Nat → Nat → Int32) (g : Nat → Nat → Int64) (n_ : Nat) : (Int32) → (Nat → Nat → Int32) → (Nat → Nat → Int32) := Nat.rec (motive := fun _ => (Int32) → (Nat → Nat → Int32) → (Nat → Nat → Int32)) (fun _ _ => default) (fun n_ ih_ w225 u226 => if (u 23 0) ≤ w225 then (u226) else (xq_lt (u226 24 w225.toNatClampNeg) fun v249 => xq_lt (u226 25 w225.toNatClampNeg) fun v250 => xq_lt (u226 26 w225.toNatClampNeg) fun v251 => xq_c2 (Fx_Si_buildsX v249 v250 v251 u226 g) fun t253 u254 => if t253 = true then (xq_lt (ms u254 43 1 ((u226 43 1) + 1)) fun u260 => ih_ (w225 + 1) u260) else (u254))) n_
set_option maxRecDepth 100000 in
theorem Fx_Si_lay_5_23X_L25_s {u : Nat → Nat → Int32} {g : Nat → Nat → Int64} {w225 : Int32} {u226 : Nat → Nat → Int32} {n_ : Nat} : Fx_Si_lay_5_23X_L25 u g (n_ + 1) w225 u226 = if (u 23 0) ≤ w225 then (u226) else (xq_lt (u226 24 w225.toNatClampNeg) fun v249 => xq_lt (u226 25 w225.toNatClampNeg) fun v250 => xq_lt (u226 26 w225.toNatClampNeg) fun v251 => xq_c2 (Fx_Si_buildsX v249 v250 v251 u226 g) fun t253 u254 => if t253 = true then (xq_lt (ms u254 43 1 ((u226 43 1) + 1)) fun u260 => (Fx_Si_lay_5_23X_L25 u g n_) (w225 + 1) u260) else (u254)) := rfl
set_option maxRecDepth 100000 in
noncomputable def Fx_Si_lay_5_23X (u : Nat → Nat → Int32) (g : Nat → Nat → Int64) : (Nat → Nat → Int32) := xq_lt (Fx_H_copyBX 44 5 u g) fun u2 => xq_lt (ms u2 43 1 0) fun u9 => xq_lt (ms u9 43 2 0) fun u11 => xq_lt (ms u11 43 3 0) fun u13 => Fx_Si_lay_5_23X_L25 u g ((12 - (0 : Int32).toInt).toNat + 1) (0 : Int32) u13
set_option maxHeartbeats 4000000 in
set_option maxRecDepth 100000 in
theorem c_Si_lay_5_23X {d : Nat} {u : Nat → Nat → Int32} {g : Nat → Nat → Int64} {ex : List MC}  (hd : 3 ≤ d) (hp0 : Bd 0 9 (u 5 0)) (hp1 : Bd 0 4 (u 5 2)) (hp2 : Bd 0 12 (u 23 0)) (hp3 : AB u 6 (-1) 999) (hp4 : AB u 45 (-1) 999) (hp5 : (KM u 23)) : CT con0 d 0 0 yX4_lay cX4_lay 4 none [.ref 43, .ref 5, .ref 23] (Wd u g ex) (fun r h2 => ∃ (u2 : Nat → Nat → Int32), r = none ∧ h2 = Wd u2 g ex ∧ Bd 0 9 (u2 44 0) ∧ Bd 0 4 (u2 44 2) ∧ AB u2 45 (-1) 999 ∧ u2 = Fx_Si_lay_5_23X u g ∧ (∀ c, nin c [(43, 48)] = true → u2 c = u c) ∧ (∀ j, j ≠ 1 → j ≠ 2 → j ≠ 3 → u2 43 j = u 43 j) ∧ (∀ j, j ≠ 0 → j ≠ 2 → u2 44 j = u 44 j)) := by
  refine CT_of (by decide) (Nat.le_of_ble_eq_true rfl) (fun x hq => ?_)
  show J x yX4_lay cX4_lay 4 none d 0 0 (Wd u g ex).length 0 [(0, .ref 43), (1, .ref 5), (2, .ref 23)] [] (Wd u g ex) 0 0
  have E : Fx_Si_lay_5_23X u g = Fx_Si_lay_5_23X u g := rfl
  refine J_aload_n (i := 0) (j := 0) dX4_lay_0 rfl rfl ?_
  refine J_get (C := RX4) (T := TX4) (Z := 4) (ci := 4) (f := 0) dX4_lay_1 inG4 rfl (by decide) k294 wc_43 rfl ?_
  refine J_aload_n (i := 1) (j := 1) dX4_lay_4 rfl rfl ?_
  refine J_callV (As := [.ref 5]) (rest := []) dX4_lay_5 (c_H_copyBX (d := 1) (u := u) (g := g) (ex := ex)  (t := 44) (f := 5) (by decide) (by decide) (by decide) (Nat.ne_of_beq_eq_false rfl) hp0 hp1 hp4 hp3) hq.n k735 k681 k682 wc_44 rfl rfl k89 k683 np_X1_copy (Nat.le_trans (by decide) hd) (by decide) (Nat.le_refl _) (Nat.le_refl _) wlen rfl (Nat.le_of_ble_eq_true rfl) (fun r_ h_ p1 => ?_)
  obtain ⟨u2, rfl, rfl, h3, h4, h5, hx6, fr7, fc8⟩ := p1
  replace E := xq_le hx6 E
  refine J_aload_n (i := 0) (j := 0) dX4_lay_8 rfl rfl ?_
  refine J_iconst (v := 0) dX4_lay_9 (by decide) ?_
  obtain ⟨u9, e10⟩ : ∃ z, z = ms u2 43 1 0 := ⟨_, rfl⟩
  refine J_put (C := RX4) (T := TX4) (Z := 4) (ci := 4) (f := 1) (ty0 := tyX4) dX4_lay_10 inG4 rfl tyX4_ok nmX4 (by decide) k296 rfl rfl wc_43 (Nat.le_of_ble_eq_true rfl) (fun _ _ => ⟨rfl, rfl⟩) (ws e10 wk_43 rfl) ?_
  replace E := xq_le e10 E
  refine J_aload_n (i := 0) (j := 0) dX4_lay_13 rfl rfl ?_
  refine J_iconst (v := 0) dX4_lay_14 (by decide) ?_
  obtain ⟨u11, e12⟩ : ∃ z, z = ms u9 43 2 0 := ⟨_, rfl⟩
  refine J_put (C := RX4) (T := TX4) (Z := 4) (ci := 4) (f := 2) (ty0 := tyX4) dX4_lay_15 inG4 rfl tyX4_ok nmX4 (by decide) k298 rfl rfl wc_43 (Nat.le_of_ble_eq_true rfl) (fun _ _ => ⟨rfl, rfl⟩) (ws e12 wk_43 rfl) ?_
  replace E := xq_le e12 E
  refine J_aload_n (i := 0) (j := 0) dX4_lay_18 rfl rfl ?_
  refine J_iconst (v := 0) dX4_lay_19 (by decide) ?_
  obtain ⟨u13, e14⟩ : ∃ z, z = ms u11 43 3 0 := ⟨_, rfl⟩
  refine J_put (C := RX4) (T := TX4) (Z := 4) (ci := 4) (f := 3) (ty0 := tyX4) dX4_lay_20 inG4 rfl tyX4_ok nmX4 (by decide) k300 rfl rfl wc_43 (Nat.le_of_ble_eq_true rfl) (fun _ _ => ⟨rfl, rfl⟩) (ws e14 wk_43 rfl) ?_
  replace E := xq_le e14 E
  refine J_iconst (v := 0) dX4_lay_23 (by decide) ?_
  refine J_istore_n (i := 3) (lw := [(3, .int 0), (0, .ref 43), (1, .ref 5), (2, .ref 23)]) dX4_lay_24 rfl (by decide) rfl ?_
  have lp244 : ∀ (n245 : Nat) (w225 : Int32) (u226 : Nat → Nat → Int32), Bd 0 12 w225 → (∀ c, c ≠ 43 → c ≠ 45 → u226 c = u13 c) → (∀ j, j ≠ 1 → j ≠ 2 → j ≠ 3 → u226 43 j = u13 43 j) → AB u226 45 (-1) 999 → (12 - w225.toInt).toNat < n245 → Fx_Si_lay_5_23X_L25 u g n245 w225 u226 = Fx_Si_lay_5_23X u g → J x yX4_lay cX4_lay 4 none d 0 0 (Wd u g ex).length 25 [(0, .ref 43), (2, .ref 23), (3, .int w225)] [] (Wd u226 g ex) 0 0 := by
    intro n245
    induction n245 with
    | zero => intro w225 u226 bw225 fr227 fc228 ab229 hm247 _; exact absurd hm247 (Nat.not_lt_zero _)
    | succ n245 ih246 =>
      intro w225 u226 bw225 fr227 fc228 ab229 hm247 E
      replace E := Fx_Si_lay_5_23X_L25_s.symm.trans E
      refine J_iload_n (i := 3) (j := 2) dX4_lay_25 rfl rfl ?_
      refine J_aload_n (i := 2) (j := 1) dX4_lay_26 rfl rfl ?_
      refine J_getN (C := RX8) (T := TX8) (Z := 4) (ci := 8) (f := 0) dX4_lay_27 inG8 rfl (by decide) k169 wc_23 rfl ?_
      refine J_ci (v := u 23 0) ((congrFun (fr227 23 (Nat.ne_of_beq_eq_false rfl) (Nat.ne_of_beq_eq_false rfl)) 0).trans ((congrFun (ms_c e14 (Nat.ne_of_beq_eq_false rfl)) 0).trans ((congrFun (ms_c e12 (Nat.ne_of_beq_eq_false rfl)) 0).trans ((congrFun (ms_c e10 (Nat.ne_of_beq_eq_false rfl)) 0).trans (congrFun (fr7 23 (Nat.ne_of_beq_eq_false rfl) (Nat.ne_of_beq_eq_false rfl) (Nat.ne_of_beq_eq_false rfl) (Nat.ne_of_beq_eq_false rfl) (Nat.ne_of_beq_eq_false rfl)) 0))))) ?_
      refine J_icmp_ge (tgt := 75) dX4_lay_30 (by decide) (fun c248 => ?_) (fun c248 => ?_)
      · replace E := xq_ep c248 E
        exact J_vret hq dX4_lay_75 rfl wlen (Nat.le_refl _) (Nat.le_refl _) ⟨u226, rfl, rfl, (bd_r ((congrFun (fr227 44 (Nat.ne_of_beq_eq_false rfl) (Nat.ne_of_beq_eq_false rfl)) 0).trans ((congrFun (ms_c e14 (Nat.ne_of_beq_eq_false rfl)) 0).trans ((congrFun (ms_c e12 (Nat.ne_of_beq_eq_false rfl)) 0).trans (congrFun (ms_c e10 (Nat.ne_of_beq_eq_false rfl)) 0)))) h3), (bd_r ((congrFun (fr227 44 (Nat.ne_of_beq_eq_false rfl) (Nat.ne_of_beq_eq_false rfl)) 2).trans ((congrFun (ms_c e14 (Nat.ne_of_beq_eq_false rfl)) 2).trans ((congrFun (ms_c e12 (Nat.ne_of_beq_eq_false rfl)) 2).trans (congrFun (ms_c e10 (Nat.ne_of_beq_eq_false rfl)) 2)))) h4), ab229, E, (fun c k_ => ((fr227 c (nin_ne (a := 43) k_ rfl) (nin_ne (a := 45) k_ rfl)).trans ((ms_c e14 (nin_ne (a := 43) k_ rfl)).trans ((ms_c e12 (nin_ne (a := 43) k_ rfl)).trans ((ms_c e10 (nin_ne (a := 43) k_ rfl)).trans (fr7 c (nin_ne (a := 44) k_ rfl) (nin_ne (a := 45) k_ rfl) (nin_ne (a := 46) k_ rfl) (nin_ne (a := 47) k_ rfl) (nin_ne (a := 48) k_ rfl))))))), (fun j k1_ k2_ k3_ => ((fc228 j k1_ k2_ k3_).trans ((ms_i e14 k3_).trans ((ms_i e12 k2_).trans ((ms_i e10 k1_).trans (congrFun (fr7 43 (Nat.ne_of_beq_eq_false rfl) (Nat.ne_of_beq_eq_false rfl) (Nat.ne_of_beq_eq_false rfl) (Nat.ne_of_beq_eq_false rfl) (Nat.ne_of_beq_eq_false rfl)) j)))))), (fun j k0_ k2_ => ((congrFun (fr227 44 (Nat.ne_of_beq_eq_false rfl) (Nat.ne_of_beq_eq_false rfl)) j).trans ((congrFun (ms_c e14 (Nat.ne_of_beq_eq_false rfl)) j).trans ((congrFun (ms_c e12 (Nat.ne_of_beq_eq_false rfl)) j).trans ((congrFun (ms_c e10 (Nat.ne_of_beq_eq_false rfl)) j).trans (fc8 j k0_ k2_))))))⟩
      · replace E := xq_en c248 E
        refine J_aload_n (i := 0) (j := 0) dX4_lay_33 rfl rfl ?_
        refine J_aload_n (i := 2) (j := 1) dX4_lay_34 rfl rfl ?_
        refine J_getN (C := RX8) (T := TX8) (Z := 4) (ci := 8) (f := 1) dX4_lay_35 inG8 rfl (by decide) k172 wc_23 rfl ?_
        refine J_iload_n (i := 3) (j := 2) dX4_lay_38 rfl rfl ?_
        refine J_iald dX4_lay_39 wc_24 (vin (bd_lt_hi bw225 (i_nle c248) hp2) (by decide)) ?_
        refine J_topi (fun v249 qv249 => ?_)
        replace E := xq_le qv249 E
        refine J_aload_n (i := 2) (j := 1) dX4_lay_40 rfl rfl ?_
        refine J_getN (C := RX8) (T := TX8) (Z := 4) (ci := 8) (f := 2) dX4_lay_41 inG8 rfl (by decide) k174 wc_23 rfl ?_
        refine J_iload_n (i := 3) (j := 2) dX4_lay_44 rfl rfl ?_
        refine J_iald dX4_lay_45 wc_25 (vin (bd_lt_hi bw225 (i_nle c248) hp2) (by decide)) ?_
        refine J_topi (fun v250 qv250 => ?_)
        replace E := xq_le qv250 E
        refine J_aload_n (i := 2) (j := 1) dX4_lay_46 rfl rfl ?_
        refine J_getN (C := RX8) (T := TX8) (Z := 4) (ci := 8) (f := 3) dX4_lay_47 inG8 rfl (by decide) k176 wc_23 rfl ?_
        refine J_iload_n (i := 3) (j := 2) dX4_lay_50 rfl rfl ?_
        refine J_iald dX4_lay_51 wc_26 (vin (bd_lt_hi bw225 (i_nle c248) hp2) (by decide)) ?_
        refine J_topi (fun v251 qv251 => ?_)
        replace E := xq_le qv251 E
        refine J_callV (As := [.int v249, .int v250, .int v251]) (rest := []) dX4_lay_52 (c_Si_buildsX (d := 2) (u := u226) (g := g) (ex := ex) (kind := v249) (pond := v250) (much := v251)  (by decide) (bd_r ((congrFun (fr227 44 (Nat.ne_of_beq_eq_false rfl) (Nat.ne_of_beq_eq_false rfl)) 0).trans ((congrFun (ms_c e14 (Nat.ne_of_beq_eq_false rfl)) 0).trans ((congrFun (ms_c e12 (Nat.ne_of_beq_eq_false rfl)) 0).trans (congrFun (ms_c e10 (Nat.ne_of_beq_eq_false rfl)) 0)))) h3) (bd_r ((congrFun (fr227 44 (Nat.ne_of_beq_eq_false rfl) (Nat.ne_of_beq_eq_false rfl)) 2).trans ((congrFun (ms_c e14 (Nat.ne_of_beq_eq_false rfl)) 2).trans ((congrFun (ms_c e12 (Nat.ne_of_beq_eq_false rfl)) 2).trans (congrFun (ms_c e10 (Nat.ne_of_beq_eq_false rfl)) 2)))) h4) ab229 (km_use qv249 qv251 ((km_c ((fr227 24 (Nat.ne_of_beq_eq_false rfl) (Nat.ne_of_beq_eq_false rfl)).trans ((ms_c e14 (Nat.ne_of_beq_eq_false rfl)).trans ((ms_c e12 (Nat.ne_of_beq_eq_false rfl)).trans ((ms_c e10 (Nat.ne_of_beq_eq_false rfl)).trans (fr7 24 (Nat.ne_of_beq_eq_false rfl) (Nat.ne_of_beq_eq_false rfl) (Nat.ne_of_beq_eq_false rfl) (Nat.ne_of_beq_eq_false rfl) (Nat.ne_of_beq_eq_false rfl)))))) ((fr227 26 (Nat.ne_of_beq_eq_false rfl) (Nat.ne_of_beq_eq_false rfl)).trans ((ms_c e14 (Nat.ne_of_beq_eq_false rfl)).trans ((ms_c e12 (Nat.ne_of_beq_eq_false rfl)).trans ((ms_c e10 (Nat.ne_of_beq_eq_false rfl)).trans (fr7 26 (Nat.ne_of_beq_eq_false rfl) (Nat.ne_of_beq_eq_false rfl) (Nat.ne_of_beq_eq_false rfl) (Nat.ne_of_beq_eq_false rfl) (Nat.ne_of_beq_eq_false rfl)))))) hp5) w225.toNatClampNeg))) hq.n k736 k738 k13 wc_43 rfl rfl k93 k739 np_X4_builds (Nat.le_trans (by decide) hd) (by decide) (Nat.le_refl _) (Nat.le_refl _) wlen rfl (Nat.le_of_ble_eq_true rfl) (fun r_ h_ p252 => ?_)
        obtain ⟨t253, u254, rfl, rfl, h255, hx256, fr257, fc258⟩ := p252
        replace E := xq_e2 hx256 E
        refine J_ifB_ne (tgt := 59) dX4_lay_55 (by decide) (fun c259 => ?_) (fun c259 => ?_)
        · replace E := xq_ep c259 E
          refine J_aload_n (i := 0) (j := 0) dX4_lay_59 rfl rfl ?_
          refine J_dup dX4_lay_60 rfl ?_
          refine J_get (C := RX4) (T := TX4) (Z := 4) (ci := 4) (f := 1) dX4_lay_61 inG4 rfl (by decide) k296 wc_43 rfl ?_
          refine J_ci (v := u226 43 1) (fc258 1 (Nat.ne_of_beq_eq_false rfl) (Nat.ne_of_beq_eq_false rfl)) ?_
          refine J_iconst (v := 1) dX4_lay_64 (by decide) ?_
          refine J_iadd dX4_lay_65 ?_
          obtain ⟨u260, e261⟩ : ∃ z, z = ms u254 43 1 ((u226 43 1) + 1) := ⟨_, rfl⟩
          refine J_put (C := RX4) (T := TX4) (Z := 4) (ci := 4) (f := 1) (ty0 := tyX4) dX4_lay_66 inG4 rfl tyX4_ok nmX4 (by decide) k296 rfl rfl wc_43 (Nat.le_of_ble_eq_true rfl) (fun _ _ => ⟨rfl, rfl⟩) (ws e261 wk_43 rfl) ?_
          replace E := xq_le e261 E
          refine J_iinc (i := 3) (j := 2) (v := (w225 + 1)) (lw := [(3, .int (w225 + 1)), (0, .ref 43), (2, .ref 23)]) dX4_lay_69 rfl rfl (by decide) rfl ?_
          refine J_goto (tgt := 25) dX4_lay_72 (by decide) ?_
          refine J_lv [1, 2, 0] rfl ?_
          exact ih246 (w225 + 1) u260 (bd_w (l := 0) (h := 12) (bd_add (l := 1) (h := 12) (bd_lt_hi bw225 (i_nle c248) hp2) (bd_c (v := 1) (lo := 1) (hi := 1) (by decide)) (by decide)) (by decide)) (fun c k0_ k1_ => ((ms_c e261 k0_).trans ((fr257 c k0_ k1_).trans (fr227 c k0_ k1_)))) (fun j k1_ k2_ k3_ => ((ms_i e261 k1_).trans ((fc258 j k2_ k3_).trans (fc228 j k1_ k2_ k3_)))) (ab_c (ms_c e261 (Nat.ne_of_beq_eq_false rfl)) h255) (mu_up 1 bw225 rfl (by decide) (bd_w (l := 1) (h := 12) (bd_add (l := 1) (h := 12) (bd_lt_hi bw225 (i_nle c248) hp2) (bd_c (v := 1) (lo := 1) (hi := 1) (by decide)) (by decide)) (by decide)) hm247) E
        · replace E := xq_ef c259 E
          exact J_vret hq dX4_lay_58 rfl wlen (Nat.le_refl _) (Nat.le_refl _) ⟨u254, rfl, rfl, (bd_r ((congrFun (fr257 44 (Nat.ne_of_beq_eq_false rfl) (Nat.ne_of_beq_eq_false rfl)) 0).trans ((congrFun (fr227 44 (Nat.ne_of_beq_eq_false rfl) (Nat.ne_of_beq_eq_false rfl)) 0).trans ((congrFun (ms_c e14 (Nat.ne_of_beq_eq_false rfl)) 0).trans ((congrFun (ms_c e12 (Nat.ne_of_beq_eq_false rfl)) 0).trans (congrFun (ms_c e10 (Nat.ne_of_beq_eq_false rfl)) 0))))) h3), (bd_r ((congrFun (fr257 44 (Nat.ne_of_beq_eq_false rfl) (Nat.ne_of_beq_eq_false rfl)) 2).trans ((congrFun (fr227 44 (Nat.ne_of_beq_eq_false rfl) (Nat.ne_of_beq_eq_false rfl)) 2).trans ((congrFun (ms_c e14 (Nat.ne_of_beq_eq_false rfl)) 2).trans ((congrFun (ms_c e12 (Nat.ne_of_beq_eq_false rfl)) 2).trans (congrFun (ms_c e10 (Nat.ne_of_beq_eq_false rfl)) 2))))) h4), h255, E, (fun c k_ => ((fr257 c (nin_ne (a := 43) k_ rfl) (nin_ne (a := 45) k_ rfl)).trans ((fr227 c (nin_ne (a := 43) k_ rfl) (nin_ne (a := 45) k_ rfl)).trans ((ms_c e14 (nin_ne (a := 43) k_ rfl)).trans ((ms_c e12 (nin_ne (a := 43) k_ rfl)).trans ((ms_c e10 (nin_ne (a := 43) k_ rfl)).trans (fr7 c (nin_ne (a := 44) k_ rfl) (nin_ne (a := 45) k_ rfl) (nin_ne (a := 46) k_ rfl) (nin_ne (a := 47) k_ rfl) (nin_ne (a := 48) k_ rfl)))))))), (fun j k1_ k2_ k3_ => ((fc258 j k2_ k3_).trans ((fc228 j k1_ k2_ k3_).trans ((ms_i e14 k3_).trans ((ms_i e12 k2_).trans ((ms_i e10 k1_).trans (congrFun (fr7 43 (Nat.ne_of_beq_eq_false rfl) (Nat.ne_of_beq_eq_false rfl) (Nat.ne_of_beq_eq_false rfl) (Nat.ne_of_beq_eq_false rfl) (Nat.ne_of_beq_eq_false rfl)) j))))))), (fun j k0_ k2_ => ((congrFun (fr257 44 (Nat.ne_of_beq_eq_false rfl) (Nat.ne_of_beq_eq_false rfl)) j).trans ((congrFun (fr227 44 (Nat.ne_of_beq_eq_false rfl) (Nat.ne_of_beq_eq_false rfl)) j).trans ((congrFun (ms_c e14 (Nat.ne_of_beq_eq_false rfl)) j).trans ((congrFun (ms_c e12 (Nat.ne_of_beq_eq_false rfl)) j).trans ((congrFun (ms_c e10 (Nat.ne_of_beq_eq_false rfl)) j).trans (fc8 j k0_ k2_)))))))⟩
  refine J_lv [1, 3, 0] rfl ?_
  exact lp244 ((12 - (0 : Int32).toInt).toNat + 1) (0 : Int32) u13 (bd_w (l := 0) (h := 12) (bd_c (v := 0) (lo := 0) (hi := 0) (by decide)) (by decide)) (fun c k0_ k1_ => rfl) (fun j k1_ k2_ k3_ => rfl) (ab_c ((ms_c e14 (Nat.ne_of_beq_eq_false rfl)).trans ((ms_c e12 (Nat.ne_of_beq_eq_false rfl)).trans (ms_c e10 (Nat.ne_of_beq_eq_false rfl)))) h5) (Nat.lt_succ_self _) E
set_option maxRecDepth 100000 in
noncomputable def Fx_Si_lay_5_49X_L25 (u : Nat → Nat → Int32) (g : Nat → Nat → Int64) (n_ : Nat) : (Int32) → (Nat → Nat → Int32) → (Nat → Nat → Int32) := Nat.rec (motive := fun _ => (Int32) → (Nat → Nat → Int32) → (Nat → Nat → Int32)) (fun _ _ => default) (fun n_ ih_ w225 u226 => if (u 49 0) ≤ w225 then (u226) else (xq_lt (u226 50 w225.toNatClampNeg) fun v249 => xq_lt (u226 51 w225.toNatClampNeg) fun v250 => xq_lt (u226 52 w225.toNatClampNeg) fun v251 => xq_c2 (Fx_Si_buildsX v249 v250 v251 u226 g) fun t253 u254 => if t253 = true then (xq_lt (ms u254 43 1 ((u226 43 1) + 1)) fun u260 => ih_ (w225 + 1) u260) else (u254))) n_
set_option maxRecDepth 100000 in
theorem Fx_Si_lay_5_49X_L25_s {u : Nat → Nat → Int32} {g : Nat → Nat → Int64} {w225 : Int32} {u226 : Nat → Nat → Int32} {n_ : Nat} : Fx_Si_lay_5_49X_L25 u g (n_ + 1) w225 u226 = if (u 49 0) ≤ w225 then (u226) else (xq_lt (u226 50 w225.toNatClampNeg) fun v249 => xq_lt (u226 51 w225.toNatClampNeg) fun v250 => xq_lt (u226 52 w225.toNatClampNeg) fun v251 => xq_c2 (Fx_Si_buildsX v249 v250 v251 u226 g) fun t253 u254 => if t253 = true then (xq_lt (ms u254 43 1 ((u226 43 1) + 1)) fun u260 => (Fx_Si_lay_5_49X_L25 u g n_) (w225 + 1) u260) else (u254)) := rfl
set_option maxRecDepth 100000 in
noncomputable def Fx_Si_lay_5_49X (u : Nat → Nat → Int32) (g : Nat → Nat → Int64) : (Nat → Nat → Int32) := xq_lt (Fx_H_copyBX 44 5 u g) fun u2 => xq_lt (ms u2 43 1 0) fun u9 => xq_lt (ms u9 43 2 0) fun u11 => xq_lt (ms u11 43 3 0) fun u13 => Fx_Si_lay_5_49X_L25 u g ((12 - (0 : Int32).toInt).toNat + 1) (0 : Int32) u13
set_option maxHeartbeats 4000000 in
set_option maxRecDepth 100000 in
theorem c_Si_lay_5_49X {d : Nat} {u : Nat → Nat → Int32} {g : Nat → Nat → Int64} {ex : List MC}  (hd : 3 ≤ d) (hp0 : Bd 0 9 (u 5 0)) (hp1 : Bd 0 4 (u 5 2)) (hp2 : Bd 0 12 (u 49 0)) (hp3 : AB u 6 (-1) 999) (hp4 : AB u 45 (-1) 999) (hp5 : (KM u 49)) : CT con0 d 0 0 yX4_lay cX4_lay 4 none [.ref 43, .ref 5, .ref 49] (Wd u g ex) (fun r h2 => ∃ (u2 : Nat → Nat → Int32), r = none ∧ h2 = Wd u2 g ex ∧ Bd 0 9 (u2 44 0) ∧ Bd 0 4 (u2 44 2) ∧ AB u2 45 (-1) 999 ∧ u2 = Fx_Si_lay_5_49X u g ∧ (∀ c, nin c [(43, 48)] = true → u2 c = u c) ∧ (∀ j, j ≠ 1 → j ≠ 2 → j ≠ 3 → u2 43 j = u 43 j) ∧ (∀ j, j ≠ 0 → j ≠ 2 → u2 44 j = u 44 j)) := by
  refine CT_of (by decide) (Nat.le_of_ble_eq_true rfl) (fun x hq => ?_)
  show J x yX4_lay cX4_lay 4 none d 0 0 (Wd u g ex).length 0 [(0, .ref 43), (1, .ref 5), (2, .ref 49)] [] (Wd u g ex) 0 0
  have E : Fx_Si_lay_5_49X u g = Fx_Si_lay_5_49X u g := rfl
  refine J_aload_n (i := 0) (j := 0) dX4_lay_0 rfl rfl ?_
  refine J_get (C := RX4) (T := TX4) (Z := 4) (ci := 4) (f := 0) dX4_lay_1 inG4 rfl (by decide) k294 wc_43 rfl ?_
  refine J_aload_n (i := 1) (j := 1) dX4_lay_4 rfl rfl ?_
  refine J_callV (As := [.ref 5]) (rest := []) dX4_lay_5 (c_H_copyBX (d := 1) (u := u) (g := g) (ex := ex)  (t := 44) (f := 5) (by decide) (by decide) (by decide) (Nat.ne_of_beq_eq_false rfl) hp0 hp1 hp4 hp3) hq.n k735 k681 k682 wc_44 rfl rfl k89 k683 np_X1_copy (Nat.le_trans (by decide) hd) (by decide) (Nat.le_refl _) (Nat.le_refl _) wlen rfl (Nat.le_of_ble_eq_true rfl) (fun r_ h_ p1 => ?_)
  obtain ⟨u2, rfl, rfl, h3, h4, h5, hx6, fr7, fc8⟩ := p1
  replace E := xq_le hx6 E
  refine J_aload_n (i := 0) (j := 0) dX4_lay_8 rfl rfl ?_
  refine J_iconst (v := 0) dX4_lay_9 (by decide) ?_
  obtain ⟨u9, e10⟩ : ∃ z, z = ms u2 43 1 0 := ⟨_, rfl⟩
  refine J_put (C := RX4) (T := TX4) (Z := 4) (ci := 4) (f := 1) (ty0 := tyX4) dX4_lay_10 inG4 rfl tyX4_ok nmX4 (by decide) k296 rfl rfl wc_43 (Nat.le_of_ble_eq_true rfl) (fun _ _ => ⟨rfl, rfl⟩) (ws e10 wk_43 rfl) ?_
  replace E := xq_le e10 E
  refine J_aload_n (i := 0) (j := 0) dX4_lay_13 rfl rfl ?_
  refine J_iconst (v := 0) dX4_lay_14 (by decide) ?_
  obtain ⟨u11, e12⟩ : ∃ z, z = ms u9 43 2 0 := ⟨_, rfl⟩
  refine J_put (C := RX4) (T := TX4) (Z := 4) (ci := 4) (f := 2) (ty0 := tyX4) dX4_lay_15 inG4 rfl tyX4_ok nmX4 (by decide) k298 rfl rfl wc_43 (Nat.le_of_ble_eq_true rfl) (fun _ _ => ⟨rfl, rfl⟩) (ws e12 wk_43 rfl) ?_
  replace E := xq_le e12 E
  refine J_aload_n (i := 0) (j := 0) dX4_lay_18 rfl rfl ?_
  refine J_iconst (v := 0) dX4_lay_19 (by decide) ?_
  obtain ⟨u13, e14⟩ : ∃ z, z = ms u11 43 3 0 := ⟨_, rfl⟩
  refine J_put (C := RX4) (T := TX4) (Z := 4) (ci := 4) (f := 3) (ty0 := tyX4) dX4_lay_20 inG4 rfl tyX4_ok nmX4 (by decide) k300 rfl rfl wc_43 (Nat.le_of_ble_eq_true rfl) (fun _ _ => ⟨rfl, rfl⟩) (ws e14 wk_43 rfl) ?_
  replace E := xq_le e14 E
  refine J_iconst (v := 0) dX4_lay_23 (by decide) ?_
  refine J_istore_n (i := 3) (lw := [(3, .int 0), (0, .ref 43), (1, .ref 5), (2, .ref 49)]) dX4_lay_24 rfl (by decide) rfl ?_
  have lp244 : ∀ (n245 : Nat) (w225 : Int32) (u226 : Nat → Nat → Int32), Bd 0 12 w225 → (∀ c, c ≠ 43 → c ≠ 45 → u226 c = u13 c) → (∀ j, j ≠ 1 → j ≠ 2 → j ≠ 3 → u226 43 j = u13 43 j) → AB u226 45 (-1) 999 → (12 - w225.toInt).toNat < n245 → Fx_Si_lay_5_49X_L25 u g n245 w225 u226 = Fx_Si_lay_5_49X u g → J x yX4_lay cX4_lay 4 none d 0 0 (Wd u g ex).length 25 [(0, .ref 43), (2, .ref 49), (3, .int w225)] [] (Wd u226 g ex) 0 0 := by
    intro n245
    induction n245 with
    | zero => intro w225 u226 bw225 fr227 fc228 ab229 hm247 _; exact absurd hm247 (Nat.not_lt_zero _)
    | succ n245 ih246 =>
      intro w225 u226 bw225 fr227 fc228 ab229 hm247 E
      replace E := Fx_Si_lay_5_49X_L25_s.symm.trans E
      refine J_iload_n (i := 3) (j := 2) dX4_lay_25 rfl rfl ?_
      refine J_aload_n (i := 2) (j := 1) dX4_lay_26 rfl rfl ?_
      refine J_getN (C := RX8) (T := TX8) (Z := 4) (ci := 8) (f := 0) dX4_lay_27 inG8 rfl (by decide) k169 wc_49 rfl ?_
      refine J_ci (v := u 49 0) ((congrFun (fr227 49 (Nat.ne_of_beq_eq_false rfl) (Nat.ne_of_beq_eq_false rfl)) 0).trans ((congrFun (ms_c e14 (Nat.ne_of_beq_eq_false rfl)) 0).trans ((congrFun (ms_c e12 (Nat.ne_of_beq_eq_false rfl)) 0).trans ((congrFun (ms_c e10 (Nat.ne_of_beq_eq_false rfl)) 0).trans (congrFun (fr7 49 (Nat.ne_of_beq_eq_false rfl) (Nat.ne_of_beq_eq_false rfl) (Nat.ne_of_beq_eq_false rfl) (Nat.ne_of_beq_eq_false rfl) (Nat.ne_of_beq_eq_false rfl)) 0))))) ?_
      refine J_icmp_ge (tgt := 75) dX4_lay_30 (by decide) (fun c248 => ?_) (fun c248 => ?_)
      · replace E := xq_ep c248 E
        exact J_vret hq dX4_lay_75 rfl wlen (Nat.le_refl _) (Nat.le_refl _) ⟨u226, rfl, rfl, (bd_r ((congrFun (fr227 44 (Nat.ne_of_beq_eq_false rfl) (Nat.ne_of_beq_eq_false rfl)) 0).trans ((congrFun (ms_c e14 (Nat.ne_of_beq_eq_false rfl)) 0).trans ((congrFun (ms_c e12 (Nat.ne_of_beq_eq_false rfl)) 0).trans (congrFun (ms_c e10 (Nat.ne_of_beq_eq_false rfl)) 0)))) h3), (bd_r ((congrFun (fr227 44 (Nat.ne_of_beq_eq_false rfl) (Nat.ne_of_beq_eq_false rfl)) 2).trans ((congrFun (ms_c e14 (Nat.ne_of_beq_eq_false rfl)) 2).trans ((congrFun (ms_c e12 (Nat.ne_of_beq_eq_false rfl)) 2).trans (congrFun (ms_c e10 (Nat.ne_of_beq_eq_false rfl)) 2)))) h4), ab229, E, (fun c k_ => ((fr227 c (nin_ne (a := 43) k_ rfl) (nin_ne (a := 45) k_ rfl)).trans ((ms_c e14 (nin_ne (a := 43) k_ rfl)).trans ((ms_c e12 (nin_ne (a := 43) k_ rfl)).trans ((ms_c e10 (nin_ne (a := 43) k_ rfl)).trans (fr7 c (nin_ne (a := 44) k_ rfl) (nin_ne (a := 45) k_ rfl) (nin_ne (a := 46) k_ rfl) (nin_ne (a := 47) k_ rfl) (nin_ne (a := 48) k_ rfl))))))), (fun j k1_ k2_ k3_ => ((fc228 j k1_ k2_ k3_).trans ((ms_i e14 k3_).trans ((ms_i e12 k2_).trans ((ms_i e10 k1_).trans (congrFun (fr7 43 (Nat.ne_of_beq_eq_false rfl) (Nat.ne_of_beq_eq_false rfl) (Nat.ne_of_beq_eq_false rfl) (Nat.ne_of_beq_eq_false rfl) (Nat.ne_of_beq_eq_false rfl)) j)))))), (fun j k0_ k2_ => ((congrFun (fr227 44 (Nat.ne_of_beq_eq_false rfl) (Nat.ne_of_beq_eq_false rfl)) j).trans ((congrFun (ms_c e14 (Nat.ne_of_beq_eq_false rfl)) j).trans ((congrFun (ms_c e12 (Nat.ne_of_beq_eq_false rfl)) j).trans ((congrFun (ms_c e10 (Nat.ne_of_beq_eq_false rfl)) j).trans (fc8 j k0_ k2_))))))⟩
      · replace E := xq_en c248 E
        refine J_aload_n (i := 0) (j := 0) dX4_lay_33 rfl rfl ?_
        refine J_aload_n (i := 2) (j := 1) dX4_lay_34 rfl rfl ?_
        refine J_getN (C := RX8) (T := TX8) (Z := 4) (ci := 8) (f := 1) dX4_lay_35 inG8 rfl (by decide) k172 wc_49 rfl ?_
        refine J_iload_n (i := 3) (j := 2) dX4_lay_38 rfl rfl ?_
        refine J_iald dX4_lay_39 wc_50 (vin (bd_lt_hi bw225 (i_nle c248) hp2) (by decide)) ?_
        refine J_topi (fun v249 qv249 => ?_)
        replace E := xq_le qv249 E
        refine J_aload_n (i := 2) (j := 1) dX4_lay_40 rfl rfl ?_
        refine J_getN (C := RX8) (T := TX8) (Z := 4) (ci := 8) (f := 2) dX4_lay_41 inG8 rfl (by decide) k174 wc_49 rfl ?_
        refine J_iload_n (i := 3) (j := 2) dX4_lay_44 rfl rfl ?_
        refine J_iald dX4_lay_45 wc_51 (vin (bd_lt_hi bw225 (i_nle c248) hp2) (by decide)) ?_
        refine J_topi (fun v250 qv250 => ?_)
        replace E := xq_le qv250 E
        refine J_aload_n (i := 2) (j := 1) dX4_lay_46 rfl rfl ?_
        refine J_getN (C := RX8) (T := TX8) (Z := 4) (ci := 8) (f := 3) dX4_lay_47 inG8 rfl (by decide) k176 wc_49 rfl ?_
        refine J_iload_n (i := 3) (j := 2) dX4_lay_50 rfl rfl ?_
        refine J_iald dX4_lay_51 wc_52 (vin (bd_lt_hi bw225 (i_nle c248) hp2) (by decide)) ?_
        refine J_topi (fun v251 qv251 => ?_)
        replace E := xq_le qv251 E
        refine J_callV (As := [.int v249, .int v250, .int v251]) (rest := []) dX4_lay_52 (c_Si_buildsX (d := 2) (u := u226) (g := g) (ex := ex) (kind := v249) (pond := v250) (much := v251)  (by decide) (bd_r ((congrFun (fr227 44 (Nat.ne_of_beq_eq_false rfl) (Nat.ne_of_beq_eq_false rfl)) 0).trans ((congrFun (ms_c e14 (Nat.ne_of_beq_eq_false rfl)) 0).trans ((congrFun (ms_c e12 (Nat.ne_of_beq_eq_false rfl)) 0).trans (congrFun (ms_c e10 (Nat.ne_of_beq_eq_false rfl)) 0)))) h3) (bd_r ((congrFun (fr227 44 (Nat.ne_of_beq_eq_false rfl) (Nat.ne_of_beq_eq_false rfl)) 2).trans ((congrFun (ms_c e14 (Nat.ne_of_beq_eq_false rfl)) 2).trans ((congrFun (ms_c e12 (Nat.ne_of_beq_eq_false rfl)) 2).trans (congrFun (ms_c e10 (Nat.ne_of_beq_eq_false rfl)) 2)))) h4) ab229 (km_use qv249 qv251 ((km_c ((fr227 50 (Nat.ne_of_beq_eq_false rfl) (Nat.ne_of_beq_eq_false rfl)).trans ((ms_c e14 (Nat.ne_of_beq_eq_false rfl)).trans ((ms_c e12 (Nat.ne_of_beq_eq_false rfl)).trans ((ms_c e10 (Nat.ne_of_beq_eq_false rfl)).trans (fr7 50 (Nat.ne_of_beq_eq_false rfl) (Nat.ne_of_beq_eq_false rfl) (Nat.ne_of_beq_eq_false rfl) (Nat.ne_of_beq_eq_false rfl) (Nat.ne_of_beq_eq_false rfl)))))) ((fr227 52 (Nat.ne_of_beq_eq_false rfl) (Nat.ne_of_beq_eq_false rfl)).trans ((ms_c e14 (Nat.ne_of_beq_eq_false rfl)).trans ((ms_c e12 (Nat.ne_of_beq_eq_false rfl)).trans ((ms_c e10 (Nat.ne_of_beq_eq_false rfl)).trans (fr7 52 (Nat.ne_of_beq_eq_false rfl) (Nat.ne_of_beq_eq_false rfl) (Nat.ne_of_beq_eq_false rfl) (Nat.ne_of_beq_eq_false rfl) (Nat.ne_of_beq_eq_false rfl)))))) hp5) w225.toNatClampNeg))) hq.n k736 k738 k13 wc_43 rfl rfl k93 k739 np_X4_builds (Nat.le_trans (by decide) hd) (by decide) (Nat.le_refl _) (Nat.le_refl _) wlen rfl (Nat.le_of_ble_eq_true rfl) (fun r_ h_ p252 => ?_)
        obtain ⟨t253, u254, rfl, rfl, h255, hx256, fr257, fc258⟩ := p252
        replace E := xq_e2 hx256 E
        refine J_ifB_ne (tgt := 59) dX4_lay_55 (by decide) (fun c259 => ?_) (fun c259 => ?_)
        · replace E := xq_ep c259 E
          refine J_aload_n (i := 0) (j := 0) dX4_lay_59 rfl rfl ?_
          refine J_dup dX4_lay_60 rfl ?_
          refine J_get (C := RX4) (T := TX4) (Z := 4) (ci := 4) (f := 1) dX4_lay_61 inG4 rfl (by decide) k296 wc_43 rfl ?_
          refine J_ci (v := u226 43 1) (fc258 1 (Nat.ne_of_beq_eq_false rfl) (Nat.ne_of_beq_eq_false rfl)) ?_
          refine J_iconst (v := 1) dX4_lay_64 (by decide) ?_
          refine J_iadd dX4_lay_65 ?_
          obtain ⟨u260, e261⟩ : ∃ z, z = ms u254 43 1 ((u226 43 1) + 1) := ⟨_, rfl⟩
          refine J_put (C := RX4) (T := TX4) (Z := 4) (ci := 4) (f := 1) (ty0 := tyX4) dX4_lay_66 inG4 rfl tyX4_ok nmX4 (by decide) k296 rfl rfl wc_43 (Nat.le_of_ble_eq_true rfl) (fun _ _ => ⟨rfl, rfl⟩) (ws e261 wk_43 rfl) ?_
          replace E := xq_le e261 E
          refine J_iinc (i := 3) (j := 2) (v := (w225 + 1)) (lw := [(3, .int (w225 + 1)), (0, .ref 43), (2, .ref 49)]) dX4_lay_69 rfl rfl (by decide) rfl ?_
          refine J_goto (tgt := 25) dX4_lay_72 (by decide) ?_
          refine J_lv [1, 2, 0] rfl ?_
          exact ih246 (w225 + 1) u260 (bd_w (l := 0) (h := 12) (bd_add (l := 1) (h := 12) (bd_lt_hi bw225 (i_nle c248) hp2) (bd_c (v := 1) (lo := 1) (hi := 1) (by decide)) (by decide)) (by decide)) (fun c k0_ k1_ => ((ms_c e261 k0_).trans ((fr257 c k0_ k1_).trans (fr227 c k0_ k1_)))) (fun j k1_ k2_ k3_ => ((ms_i e261 k1_).trans ((fc258 j k2_ k3_).trans (fc228 j k1_ k2_ k3_)))) (ab_c (ms_c e261 (Nat.ne_of_beq_eq_false rfl)) h255) (mu_up 1 bw225 rfl (by decide) (bd_w (l := 1) (h := 12) (bd_add (l := 1) (h := 12) (bd_lt_hi bw225 (i_nle c248) hp2) (bd_c (v := 1) (lo := 1) (hi := 1) (by decide)) (by decide)) (by decide)) hm247) E
        · replace E := xq_ef c259 E
          exact J_vret hq dX4_lay_58 rfl wlen (Nat.le_refl _) (Nat.le_refl _) ⟨u254, rfl, rfl, (bd_r ((congrFun (fr257 44 (Nat.ne_of_beq_eq_false rfl) (Nat.ne_of_beq_eq_false rfl)) 0).trans ((congrFun (fr227 44 (Nat.ne_of_beq_eq_false rfl) (Nat.ne_of_beq_eq_false rfl)) 0).trans ((congrFun (ms_c e14 (Nat.ne_of_beq_eq_false rfl)) 0).trans ((congrFun (ms_c e12 (Nat.ne_of_beq_eq_false rfl)) 0).trans (congrFun (ms_c e10 (Nat.ne_of_beq_eq_false rfl)) 0))))) h3), (bd_r ((congrFun (fr257 44 (Nat.ne_of_beq_eq_false rfl) (Nat.ne_of_beq_eq_false rfl)) 2).trans ((congrFun (fr227 44 (Nat.ne_of_beq_eq_false rfl) (Nat.ne_of_beq_eq_false rfl)) 2).trans ((congrFun (ms_c e14 (Nat.ne_of_beq_eq_false rfl)) 2).trans ((congrFun (ms_c e12 (Nat.ne_of_beq_eq_false rfl)) 2).trans (congrFun (ms_c e10 (Nat.ne_of_beq_eq_false rfl)) 2))))) h4), h255, E, (fun c k_ => ((fr257 c (nin_ne (a := 43) k_ rfl) (nin_ne (a := 45) k_ rfl)).trans ((fr227 c (nin_ne (a := 43) k_ rfl) (nin_ne (a := 45) k_ rfl)).trans ((ms_c e14 (nin_ne (a := 43) k_ rfl)).trans ((ms_c e12 (nin_ne (a := 43) k_ rfl)).trans ((ms_c e10 (nin_ne (a := 43) k_ rfl)).trans (fr7 c (nin_ne (a := 44) k_ rfl) (nin_ne (a := 45) k_ rfl) (nin_ne (a := 46) k_ rfl) (nin_ne (a := 47) k_ rfl) (nin_ne (a := 48) k_ rfl)))))))), (fun j k1_ k2_ k3_ => ((fc258 j k2_ k3_).trans ((fc228 j k1_ k2_ k3_).trans ((ms_i e14 k3_).trans ((ms_i e12 k2_).trans ((ms_i e10 k1_).trans (congrFun (fr7 43 (Nat.ne_of_beq_eq_false rfl) (Nat.ne_of_beq_eq_false rfl) (Nat.ne_of_beq_eq_false rfl) (Nat.ne_of_beq_eq_false rfl) (Nat.ne_of_beq_eq_false rfl)) j))))))), (fun j k0_ k2_ => ((congrFun (fr257 44 (Nat.ne_of_beq_eq_false rfl) (Nat.ne_of_beq_eq_false rfl)) j).trans ((congrFun (fr227 44 (Nat.ne_of_beq_eq_false rfl) (Nat.ne_of_beq_eq_false rfl)) j).trans ((congrFun (ms_c e14 (Nat.ne_of_beq_eq_false rfl)) j).trans ((congrFun (ms_c e12 (Nat.ne_of_beq_eq_false rfl)) j).trans ((congrFun (ms_c e10 (Nat.ne_of_beq_eq_false rfl)) j).trans (fc8 j k0_ k2_)))))))⟩
  refine J_lv [1, 3, 0] rfl ?_
  exact lp244 ((12 - (0 : Int32).toInt).toNat + 1) (0 : Int32) u13 (bd_w (l := 0) (h := 12) (bd_c (v := 0) (lo := 0) (hi := 0) (by decide)) (by decide)) (fun c k0_ k1_ => rfl) (fun j k1_ k2_ k3_ => rfl) (ab_c ((ms_c e14 (Nat.ne_of_beq_eq_false rfl)).trans ((ms_c e12 (Nat.ne_of_beq_eq_false rfl)).trans (ms_c e10 (Nat.ne_of_beq_eq_false rfl)))) h5) (Nat.lt_succ_self _) E
set_option maxRecDepth 100000 in
noncomputable def Fx_Si_lay_10_15X_L25 (u : Nat → Nat → Int32) (g : Nat → Nat → Int64) (n_ : Nat) : (Int32) → (Nat → Nat → Int32) → (Nat → Nat → Int32) := Nat.rec (motive := fun _ => (Int32) → (Nat → Nat → Int32) → (Nat → Nat → Int32)) (fun _ _ => default) (fun n_ ih_ w225 u226 => if (u 15 0) ≤ w225 then (u226) else (xq_lt (u226 16 w225.toNatClampNeg) fun v249 => xq_lt (u226 17 w225.toNatClampNeg) fun v250 => xq_lt (u226 18 w225.toNatClampNeg) fun v251 => xq_c2 (Fx_Si_buildsX v249 v250 v251 u226 g) fun t253 u254 => if t253 = true then (xq_lt (ms u254 43 1 ((u226 43 1) + 1)) fun u260 => ih_ (w225 + 1) u260) else (u254))) n_
set_option maxRecDepth 100000 in
theorem Fx_Si_lay_10_15X_L25_s {u : Nat → Nat → Int32} {g : Nat → Nat → Int64} {w225 : Int32} {u226 : Nat → Nat → Int32} {n_ : Nat} : Fx_Si_lay_10_15X_L25 u g (n_ + 1) w225 u226 = if (u 15 0) ≤ w225 then (u226) else (xq_lt (u226 16 w225.toNatClampNeg) fun v249 => xq_lt (u226 17 w225.toNatClampNeg) fun v250 => xq_lt (u226 18 w225.toNatClampNeg) fun v251 => xq_c2 (Fx_Si_buildsX v249 v250 v251 u226 g) fun t253 u254 => if t253 = true then (xq_lt (ms u254 43 1 ((u226 43 1) + 1)) fun u260 => (Fx_Si_lay_10_15X_L25 u g n_) (w225 + 1) u260) else (u254)) := rfl
set_option maxRecDepth 100000 in
noncomputable def Fx_Si_lay_10_15X (u : Nat → Nat → Int32) (g : Nat → Nat → Int64) : (Nat → Nat → Int32) := xq_lt (Fx_H_copyBX 44 10 u g) fun u2 => xq_lt (ms u2 43 1 0) fun u9 => xq_lt (ms u9 43 2 0) fun u11 => xq_lt (ms u11 43 3 0) fun u13 => Fx_Si_lay_10_15X_L25 u g ((12 - (0 : Int32).toInt).toNat + 1) (0 : Int32) u13
set_option maxHeartbeats 4000000 in
set_option maxRecDepth 100000 in
theorem c_Si_lay_10_15X {d : Nat} {u : Nat → Nat → Int32} {g : Nat → Nat → Int64} {ex : List MC}  (hd : 3 ≤ d) (hp0 : Bd 0 9 (u 10 0)) (hp1 : Bd 0 4 (u 10 2)) (hp2 : Bd 0 12 (u 15 0)) (hp3 : AB u 11 (-1) 999) (hp4 : AB u 45 (-1) 999) (hp5 : (KM u 15)) : CT con0 d 0 0 yX4_lay cX4_lay 4 none [.ref 43, .ref 10, .ref 15] (Wd u g ex) (fun r h2 => ∃ (u2 : Nat → Nat → Int32), r = none ∧ h2 = Wd u2 g ex ∧ Bd 0 9 (u2 44 0) ∧ Bd 0 4 (u2 44 2) ∧ AB u2 45 (-1) 999 ∧ u2 = Fx_Si_lay_10_15X u g ∧ (∀ c, nin c [(43, 48)] = true → u2 c = u c) ∧ (∀ j, j ≠ 1 → j ≠ 2 → j ≠ 3 → u2 43 j = u 43 j) ∧ (∀ j, j ≠ 0 → j ≠ 2 → u2 44 j = u 44 j)) := by
  refine CT_of (by decide) (Nat.le_of_ble_eq_true rfl) (fun x hq => ?_)
  show J x yX4_lay cX4_lay 4 none d 0 0 (Wd u g ex).length 0 [(0, .ref 43), (1, .ref 10), (2, .ref 15)] [] (Wd u g ex) 0 0
  have E : Fx_Si_lay_10_15X u g = Fx_Si_lay_10_15X u g := rfl
  refine J_aload_n (i := 0) (j := 0) dX4_lay_0 rfl rfl ?_
  refine J_get (C := RX4) (T := TX4) (Z := 4) (ci := 4) (f := 0) dX4_lay_1 inG4 rfl (by decide) k294 wc_43 rfl ?_
  refine J_aload_n (i := 1) (j := 1) dX4_lay_4 rfl rfl ?_
  refine J_callV (As := [.ref 10]) (rest := []) dX4_lay_5 (c_H_copyBX (d := 1) (u := u) (g := g) (ex := ex)  (t := 44) (f := 10) (by decide) (by decide) (by decide) (Nat.ne_of_beq_eq_false rfl) hp0 hp1 hp4 hp3) hq.n k735 k681 k682 wc_44 rfl rfl k89 k683 np_X1_copy (Nat.le_trans (by decide) hd) (by decide) (Nat.le_refl _) (Nat.le_refl _) wlen rfl (Nat.le_of_ble_eq_true rfl) (fun r_ h_ p1 => ?_)
  obtain ⟨u2, rfl, rfl, h3, h4, h5, hx6, fr7, fc8⟩ := p1
  replace E := xq_le hx6 E
  refine J_aload_n (i := 0) (j := 0) dX4_lay_8 rfl rfl ?_
  refine J_iconst (v := 0) dX4_lay_9 (by decide) ?_
  obtain ⟨u9, e10⟩ : ∃ z, z = ms u2 43 1 0 := ⟨_, rfl⟩
  refine J_put (C := RX4) (T := TX4) (Z := 4) (ci := 4) (f := 1) (ty0 := tyX4) dX4_lay_10 inG4 rfl tyX4_ok nmX4 (by decide) k296 rfl rfl wc_43 (Nat.le_of_ble_eq_true rfl) (fun _ _ => ⟨rfl, rfl⟩) (ws e10 wk_43 rfl) ?_
  replace E := xq_le e10 E
  refine J_aload_n (i := 0) (j := 0) dX4_lay_13 rfl rfl ?_
  refine J_iconst (v := 0) dX4_lay_14 (by decide) ?_
  obtain ⟨u11, e12⟩ : ∃ z, z = ms u9 43 2 0 := ⟨_, rfl⟩
  refine J_put (C := RX4) (T := TX4) (Z := 4) (ci := 4) (f := 2) (ty0 := tyX4) dX4_lay_15 inG4 rfl tyX4_ok nmX4 (by decide) k298 rfl rfl wc_43 (Nat.le_of_ble_eq_true rfl) (fun _ _ => ⟨rfl, rfl⟩) (ws e12 wk_43 rfl) ?_
  replace E := xq_le e12 E
  refine J_aload_n (i := 0) (j := 0) dX4_lay_18 rfl rfl ?_
  refine J_iconst (v := 0) dX4_lay_19 (by decide) ?_
  obtain ⟨u13, e14⟩ : ∃ z, z = ms u11 43 3 0 := ⟨_, rfl⟩
  refine J_put (C := RX4) (T := TX4) (Z := 4) (ci := 4) (f := 3) (ty0 := tyX4) dX4_lay_20 inG4 rfl tyX4_ok nmX4 (by decide) k300 rfl rfl wc_43 (Nat.le_of_ble_eq_true rfl) (fun _ _ => ⟨rfl, rfl⟩) (ws e14 wk_43 rfl) ?_
  replace E := xq_le e14 E
  refine J_iconst (v := 0) dX4_lay_23 (by decide) ?_
  refine J_istore_n (i := 3) (lw := [(3, .int 0), (0, .ref 43), (1, .ref 10), (2, .ref 15)]) dX4_lay_24 rfl (by decide) rfl ?_
  have lp244 : ∀ (n245 : Nat) (w225 : Int32) (u226 : Nat → Nat → Int32), Bd 0 12 w225 → (∀ c, c ≠ 43 → c ≠ 45 → u226 c = u13 c) → (∀ j, j ≠ 1 → j ≠ 2 → j ≠ 3 → u226 43 j = u13 43 j) → AB u226 45 (-1) 999 → (12 - w225.toInt).toNat < n245 → Fx_Si_lay_10_15X_L25 u g n245 w225 u226 = Fx_Si_lay_10_15X u g → J x yX4_lay cX4_lay 4 none d 0 0 (Wd u g ex).length 25 [(0, .ref 43), (2, .ref 15), (3, .int w225)] [] (Wd u226 g ex) 0 0 := by
    intro n245
    induction n245 with
    | zero => intro w225 u226 bw225 fr227 fc228 ab229 hm247 _; exact absurd hm247 (Nat.not_lt_zero _)
    | succ n245 ih246 =>
      intro w225 u226 bw225 fr227 fc228 ab229 hm247 E
      replace E := Fx_Si_lay_10_15X_L25_s.symm.trans E
      refine J_iload_n (i := 3) (j := 2) dX4_lay_25 rfl rfl ?_
      refine J_aload_n (i := 2) (j := 1) dX4_lay_26 rfl rfl ?_
      refine J_getN (C := RX8) (T := TX8) (Z := 4) (ci := 8) (f := 0) dX4_lay_27 inG8 rfl (by decide) k169 wc_15 rfl ?_
      refine J_ci (v := u 15 0) ((congrFun (fr227 15 (Nat.ne_of_beq_eq_false rfl) (Nat.ne_of_beq_eq_false rfl)) 0).trans ((congrFun (ms_c e14 (Nat.ne_of_beq_eq_false rfl)) 0).trans ((congrFun (ms_c e12 (Nat.ne_of_beq_eq_false rfl)) 0).trans ((congrFun (ms_c e10 (Nat.ne_of_beq_eq_false rfl)) 0).trans (congrFun (fr7 15 (Nat.ne_of_beq_eq_false rfl) (Nat.ne_of_beq_eq_false rfl) (Nat.ne_of_beq_eq_false rfl) (Nat.ne_of_beq_eq_false rfl) (Nat.ne_of_beq_eq_false rfl)) 0))))) ?_
      refine J_icmp_ge (tgt := 75) dX4_lay_30 (by decide) (fun c248 => ?_) (fun c248 => ?_)
      · replace E := xq_ep c248 E
        exact J_vret hq dX4_lay_75 rfl wlen (Nat.le_refl _) (Nat.le_refl _) ⟨u226, rfl, rfl, (bd_r ((congrFun (fr227 44 (Nat.ne_of_beq_eq_false rfl) (Nat.ne_of_beq_eq_false rfl)) 0).trans ((congrFun (ms_c e14 (Nat.ne_of_beq_eq_false rfl)) 0).trans ((congrFun (ms_c e12 (Nat.ne_of_beq_eq_false rfl)) 0).trans (congrFun (ms_c e10 (Nat.ne_of_beq_eq_false rfl)) 0)))) h3), (bd_r ((congrFun (fr227 44 (Nat.ne_of_beq_eq_false rfl) (Nat.ne_of_beq_eq_false rfl)) 2).trans ((congrFun (ms_c e14 (Nat.ne_of_beq_eq_false rfl)) 2).trans ((congrFun (ms_c e12 (Nat.ne_of_beq_eq_false rfl)) 2).trans (congrFun (ms_c e10 (Nat.ne_of_beq_eq_false rfl)) 2)))) h4), ab229, E, (fun c k_ => ((fr227 c (nin_ne (a := 43) k_ rfl) (nin_ne (a := 45) k_ rfl)).trans ((ms_c e14 (nin_ne (a := 43) k_ rfl)).trans ((ms_c e12 (nin_ne (a := 43) k_ rfl)).trans ((ms_c e10 (nin_ne (a := 43) k_ rfl)).trans (fr7 c (nin_ne (a := 44) k_ rfl) (nin_ne (a := 45) k_ rfl) (nin_ne (a := 46) k_ rfl) (nin_ne (a := 47) k_ rfl) (nin_ne (a := 48) k_ rfl))))))), (fun j k1_ k2_ k3_ => ((fc228 j k1_ k2_ k3_).trans ((ms_i e14 k3_).trans ((ms_i e12 k2_).trans ((ms_i e10 k1_).trans (congrFun (fr7 43 (Nat.ne_of_beq_eq_false rfl) (Nat.ne_of_beq_eq_false rfl) (Nat.ne_of_beq_eq_false rfl) (Nat.ne_of_beq_eq_false rfl) (Nat.ne_of_beq_eq_false rfl)) j)))))), (fun j k0_ k2_ => ((congrFun (fr227 44 (Nat.ne_of_beq_eq_false rfl) (Nat.ne_of_beq_eq_false rfl)) j).trans ((congrFun (ms_c e14 (Nat.ne_of_beq_eq_false rfl)) j).trans ((congrFun (ms_c e12 (Nat.ne_of_beq_eq_false rfl)) j).trans ((congrFun (ms_c e10 (Nat.ne_of_beq_eq_false rfl)) j).trans (fc8 j k0_ k2_))))))⟩
      · replace E := xq_en c248 E
        refine J_aload_n (i := 0) (j := 0) dX4_lay_33 rfl rfl ?_
        refine J_aload_n (i := 2) (j := 1) dX4_lay_34 rfl rfl ?_
        refine J_getN (C := RX8) (T := TX8) (Z := 4) (ci := 8) (f := 1) dX4_lay_35 inG8 rfl (by decide) k172 wc_15 rfl ?_
        refine J_iload_n (i := 3) (j := 2) dX4_lay_38 rfl rfl ?_
        refine J_iald dX4_lay_39 wc_16 (vin (bd_lt_hi bw225 (i_nle c248) hp2) (by decide)) ?_
        refine J_topi (fun v249 qv249 => ?_)
        replace E := xq_le qv249 E
        refine J_aload_n (i := 2) (j := 1) dX4_lay_40 rfl rfl ?_
        refine J_getN (C := RX8) (T := TX8) (Z := 4) (ci := 8) (f := 2) dX4_lay_41 inG8 rfl (by decide) k174 wc_15 rfl ?_
        refine J_iload_n (i := 3) (j := 2) dX4_lay_44 rfl rfl ?_
        refine J_iald dX4_lay_45 wc_17 (vin (bd_lt_hi bw225 (i_nle c248) hp2) (by decide)) ?_
        refine J_topi (fun v250 qv250 => ?_)
        replace E := xq_le qv250 E
        refine J_aload_n (i := 2) (j := 1) dX4_lay_46 rfl rfl ?_
        refine J_getN (C := RX8) (T := TX8) (Z := 4) (ci := 8) (f := 3) dX4_lay_47 inG8 rfl (by decide) k176 wc_15 rfl ?_
        refine J_iload_n (i := 3) (j := 2) dX4_lay_50 rfl rfl ?_
        refine J_iald dX4_lay_51 wc_18 (vin (bd_lt_hi bw225 (i_nle c248) hp2) (by decide)) ?_
        refine J_topi (fun v251 qv251 => ?_)
        replace E := xq_le qv251 E
        refine J_callV (As := [.int v249, .int v250, .int v251]) (rest := []) dX4_lay_52 (c_Si_buildsX (d := 2) (u := u226) (g := g) (ex := ex) (kind := v249) (pond := v250) (much := v251)  (by decide) (bd_r ((congrFun (fr227 44 (Nat.ne_of_beq_eq_false rfl) (Nat.ne_of_beq_eq_false rfl)) 0).trans ((congrFun (ms_c e14 (Nat.ne_of_beq_eq_false rfl)) 0).trans ((congrFun (ms_c e12 (Nat.ne_of_beq_eq_false rfl)) 0).trans (congrFun (ms_c e10 (Nat.ne_of_beq_eq_false rfl)) 0)))) h3) (bd_r ((congrFun (fr227 44 (Nat.ne_of_beq_eq_false rfl) (Nat.ne_of_beq_eq_false rfl)) 2).trans ((congrFun (ms_c e14 (Nat.ne_of_beq_eq_false rfl)) 2).trans ((congrFun (ms_c e12 (Nat.ne_of_beq_eq_false rfl)) 2).trans (congrFun (ms_c e10 (Nat.ne_of_beq_eq_false rfl)) 2)))) h4) ab229 (km_use qv249 qv251 ((km_c ((fr227 16 (Nat.ne_of_beq_eq_false rfl) (Nat.ne_of_beq_eq_false rfl)).trans ((ms_c e14 (Nat.ne_of_beq_eq_false rfl)).trans ((ms_c e12 (Nat.ne_of_beq_eq_false rfl)).trans ((ms_c e10 (Nat.ne_of_beq_eq_false rfl)).trans (fr7 16 (Nat.ne_of_beq_eq_false rfl) (Nat.ne_of_beq_eq_false rfl) (Nat.ne_of_beq_eq_false rfl) (Nat.ne_of_beq_eq_false rfl) (Nat.ne_of_beq_eq_false rfl)))))) ((fr227 18 (Nat.ne_of_beq_eq_false rfl) (Nat.ne_of_beq_eq_false rfl)).trans ((ms_c e14 (Nat.ne_of_beq_eq_false rfl)).trans ((ms_c e12 (Nat.ne_of_beq_eq_false rfl)).trans ((ms_c e10 (Nat.ne_of_beq_eq_false rfl)).trans (fr7 18 (Nat.ne_of_beq_eq_false rfl) (Nat.ne_of_beq_eq_false rfl) (Nat.ne_of_beq_eq_false rfl) (Nat.ne_of_beq_eq_false rfl) (Nat.ne_of_beq_eq_false rfl)))))) hp5) w225.toNatClampNeg))) hq.n k736 k738 k13 wc_43 rfl rfl k93 k739 np_X4_builds (Nat.le_trans (by decide) hd) (by decide) (Nat.le_refl _) (Nat.le_refl _) wlen rfl (Nat.le_of_ble_eq_true rfl) (fun r_ h_ p252 => ?_)
        obtain ⟨t253, u254, rfl, rfl, h255, hx256, fr257, fc258⟩ := p252
        replace E := xq_e2 hx256 E
        refine J_ifB_ne (tgt := 59) dX4_lay_55 (by decide) (fun c259 => ?_) (fun c259 => ?_)
        · replace E := xq_ep c259 E
          refine J_aload_n (i := 0) (j := 0) dX4_lay_59 rfl rfl ?_
          refine J_dup dX4_lay_60 rfl ?_
          refine J_get (C := RX4) (T := TX4) (Z := 4) (ci := 4) (f := 1) dX4_lay_61 inG4 rfl (by decide) k296 wc_43 rfl ?_
          refine J_ci (v := u226 43 1) (fc258 1 (Nat.ne_of_beq_eq_false rfl) (Nat.ne_of_beq_eq_false rfl)) ?_
          refine J_iconst (v := 1) dX4_lay_64 (by decide) ?_
          refine J_iadd dX4_lay_65 ?_
          obtain ⟨u260, e261⟩ : ∃ z, z = ms u254 43 1 ((u226 43 1) + 1) := ⟨_, rfl⟩
          refine J_put (C := RX4) (T := TX4) (Z := 4) (ci := 4) (f := 1) (ty0 := tyX4) dX4_lay_66 inG4 rfl tyX4_ok nmX4 (by decide) k296 rfl rfl wc_43 (Nat.le_of_ble_eq_true rfl) (fun _ _ => ⟨rfl, rfl⟩) (ws e261 wk_43 rfl) ?_
          replace E := xq_le e261 E
          refine J_iinc (i := 3) (j := 2) (v := (w225 + 1)) (lw := [(3, .int (w225 + 1)), (0, .ref 43), (2, .ref 15)]) dX4_lay_69 rfl rfl (by decide) rfl ?_
          refine J_goto (tgt := 25) dX4_lay_72 (by decide) ?_
          refine J_lv [1, 2, 0] rfl ?_
          exact ih246 (w225 + 1) u260 (bd_w (l := 0) (h := 12) (bd_add (l := 1) (h := 12) (bd_lt_hi bw225 (i_nle c248) hp2) (bd_c (v := 1) (lo := 1) (hi := 1) (by decide)) (by decide)) (by decide)) (fun c k0_ k1_ => ((ms_c e261 k0_).trans ((fr257 c k0_ k1_).trans (fr227 c k0_ k1_)))) (fun j k1_ k2_ k3_ => ((ms_i e261 k1_).trans ((fc258 j k2_ k3_).trans (fc228 j k1_ k2_ k3_)))) (ab_c (ms_c e261 (Nat.ne_of_beq_eq_false rfl)) h255) (mu_up 1 bw225 rfl (by decide) (bd_w (l := 1) (h := 12) (bd_add (l := 1) (h := 12) (bd_lt_hi bw225 (i_nle c248) hp2) (bd_c (v := 1) (lo := 1) (hi := 1) (by decide)) (by decide)) (by decide)) hm247) E
        · replace E := xq_ef c259 E
          exact J_vret hq dX4_lay_58 rfl wlen (Nat.le_refl _) (Nat.le_refl _) ⟨u254, rfl, rfl, (bd_r ((congrFun (fr257 44 (Nat.ne_of_beq_eq_false rfl) (Nat.ne_of_beq_eq_false rfl)) 0).trans ((congrFun (fr227 44 (Nat.ne_of_beq_eq_false rfl) (Nat.ne_of_beq_eq_false rfl)) 0).trans ((congrFun (ms_c e14 (Nat.ne_of_beq_eq_false rfl)) 0).trans ((congrFun (ms_c e12 (Nat.ne_of_beq_eq_false rfl)) 0).trans (congrFun (ms_c e10 (Nat.ne_of_beq_eq_false rfl)) 0))))) h3), (bd_r ((congrFun (fr257 44 (Nat.ne_of_beq_eq_false rfl) (Nat.ne_of_beq_eq_false rfl)) 2).trans ((congrFun (fr227 44 (Nat.ne_of_beq_eq_false rfl) (Nat.ne_of_beq_eq_false rfl)) 2).trans ((congrFun (ms_c e14 (Nat.ne_of_beq_eq_false rfl)) 2).trans ((congrFun (ms_c e12 (Nat.ne_of_beq_eq_false rfl)) 2).trans (congrFun (ms_c e10 (Nat.ne_of_beq_eq_false rfl)) 2))))) h4), h255, E, (fun c k_ => ((fr257 c (nin_ne (a := 43) k_ rfl) (nin_ne (a := 45) k_ rfl)).trans ((fr227 c (nin_ne (a := 43) k_ rfl) (nin_ne (a := 45) k_ rfl)).trans ((ms_c e14 (nin_ne (a := 43) k_ rfl)).trans ((ms_c e12 (nin_ne (a := 43) k_ rfl)).trans ((ms_c e10 (nin_ne (a := 43) k_ rfl)).trans (fr7 c (nin_ne (a := 44) k_ rfl) (nin_ne (a := 45) k_ rfl) (nin_ne (a := 46) k_ rfl) (nin_ne (a := 47) k_ rfl) (nin_ne (a := 48) k_ rfl)))))))), (fun j k1_ k2_ k3_ => ((fc258 j k2_ k3_).trans ((fc228 j k1_ k2_ k3_).trans ((ms_i e14 k3_).trans ((ms_i e12 k2_).trans ((ms_i e10 k1_).trans (congrFun (fr7 43 (Nat.ne_of_beq_eq_false rfl) (Nat.ne_of_beq_eq_false rfl) (Nat.ne_of_beq_eq_false rfl) (Nat.ne_of_beq_eq_false rfl) (Nat.ne_of_beq_eq_false rfl)) j))))))), (fun j k0_ k2_ => ((congrFun (fr257 44 (Nat.ne_of_beq_eq_false rfl) (Nat.ne_of_beq_eq_false rfl)) j).trans ((congrFun (fr227 44 (Nat.ne_of_beq_eq_false rfl) (Nat.ne_of_beq_eq_false rfl)) j).trans ((congrFun (ms_c e14 (Nat.ne_of_beq_eq_false rfl)) j).trans ((congrFun (ms_c e12 (Nat.ne_of_beq_eq_false rfl)) j).trans ((congrFun (ms_c e10 (Nat.ne_of_beq_eq_false rfl)) j).trans (fc8 j k0_ k2_)))))))⟩
  refine J_lv [1, 3, 0] rfl ?_
  exact lp244 ((12 - (0 : Int32).toInt).toNat + 1) (0 : Int32) u13 (bd_w (l := 0) (h := 12) (bd_c (v := 0) (lo := 0) (hi := 0) (by decide)) (by decide)) (fun c k0_ k1_ => rfl) (fun j k1_ k2_ k3_ => rfl) (ab_c ((ms_c e14 (Nat.ne_of_beq_eq_false rfl)).trans ((ms_c e12 (Nat.ne_of_beq_eq_false rfl)).trans (ms_c e10 (Nat.ne_of_beq_eq_false rfl)))) h5) (Nat.lt_succ_self _) E
set_option maxRecDepth 100000 in
noncomputable def Fx_Si_lay_10_19X_L25 (u : Nat → Nat → Int32) (g : Nat → Nat → Int64) (n_ : Nat) : (Int32) → (Nat → Nat → Int32) → (Nat → Nat → Int32) := Nat.rec (motive := fun _ => (Int32) → (Nat → Nat → Int32) → (Nat → Nat → Int32)) (fun _ _ => default) (fun n_ ih_ w225 u226 => if (u 19 0) ≤ w225 then (u226) else (xq_lt (u226 20 w225.toNatClampNeg) fun v249 => xq_lt (u226 21 w225.toNatClampNeg) fun v250 => xq_lt (u226 22 w225.toNatClampNeg) fun v251 => xq_c2 (Fx_Si_buildsX v249 v250 v251 u226 g) fun t253 u254 => if t253 = true then (xq_lt (ms u254 43 1 ((u226 43 1) + 1)) fun u260 => ih_ (w225 + 1) u260) else (u254))) n_
set_option maxRecDepth 100000 in
theorem Fx_Si_lay_10_19X_L25_s {u : Nat → Nat → Int32} {g : Nat → Nat → Int64} {w225 : Int32} {u226 : Nat → Nat → Int32} {n_ : Nat} : Fx_Si_lay_10_19X_L25 u g (n_ + 1) w225 u226 = if (u 19 0) ≤ w225 then (u226) else (xq_lt (u226 20 w225.toNatClampNeg) fun v249 => xq_lt (u226 21 w225.toNatClampNeg) fun v250 => xq_lt (u226 22 w225.toNatClampNeg) fun v251 => xq_c2 (Fx_Si_buildsX v249 v250 v251 u226 g) fun t253 u254 => if t253 = true then (xq_lt (ms u254 43 1 ((u226 43 1) + 1)) fun u260 => (Fx_Si_lay_10_19X_L25 u g n_) (w225 + 1) u260) else (u254)) := rfl
set_option maxRecDepth 100000 in
noncomputable def Fx_Si_lay_10_19X (u : Nat → Nat → Int32) (g : Nat → Nat → Int64) : (Nat → Nat → Int32) := xq_lt (Fx_H_copyBX 44 10 u g) fun u2 => xq_lt (ms u2 43 1 0) fun u9 => xq_lt (ms u9 43 2 0) fun u11 => xq_lt (ms u11 43 3 0) fun u13 => Fx_Si_lay_10_19X_L25 u g ((12 - (0 : Int32).toInt).toNat + 1) (0 : Int32) u13
set_option maxHeartbeats 4000000 in
set_option maxRecDepth 100000 in
theorem c_Si_lay_10_19X {d : Nat} {u : Nat → Nat → Int32} {g : Nat → Nat → Int64} {ex : List MC}  (hd : 3 ≤ d) (hp0 : Bd 0 9 (u 10 0)) (hp1 : Bd 0 4 (u 10 2)) (hp2 : Bd 0 12 (u 19 0)) (hp3 : AB u 11 (-1) 999) (hp4 : AB u 45 (-1) 999) (hp5 : (KM u 19)) : CT con0 d 0 0 yX4_lay cX4_lay 4 none [.ref 43, .ref 10, .ref 19] (Wd u g ex) (fun r h2 => ∃ (u2 : Nat → Nat → Int32), r = none ∧ h2 = Wd u2 g ex ∧ Bd 0 9 (u2 44 0) ∧ Bd 0 4 (u2 44 2) ∧ AB u2 45 (-1) 999 ∧ u2 = Fx_Si_lay_10_19X u g ∧ (∀ c, nin c [(43, 48)] = true → u2 c = u c) ∧ (∀ j, j ≠ 1 → j ≠ 2 → j ≠ 3 → u2 43 j = u 43 j) ∧ (∀ j, j ≠ 0 → j ≠ 2 → u2 44 j = u 44 j)) := by
  refine CT_of (by decide) (Nat.le_of_ble_eq_true rfl) (fun x hq => ?_)
  show J x yX4_lay cX4_lay 4 none d 0 0 (Wd u g ex).length 0 [(0, .ref 43), (1, .ref 10), (2, .ref 19)] [] (Wd u g ex) 0 0
  have E : Fx_Si_lay_10_19X u g = Fx_Si_lay_10_19X u g := rfl
  refine J_aload_n (i := 0) (j := 0) dX4_lay_0 rfl rfl ?_
  refine J_get (C := RX4) (T := TX4) (Z := 4) (ci := 4) (f := 0) dX4_lay_1 inG4 rfl (by decide) k294 wc_43 rfl ?_
  refine J_aload_n (i := 1) (j := 1) dX4_lay_4 rfl rfl ?_
  refine J_callV (As := [.ref 10]) (rest := []) dX4_lay_5 (c_H_copyBX (d := 1) (u := u) (g := g) (ex := ex)  (t := 44) (f := 10) (by decide) (by decide) (by decide) (Nat.ne_of_beq_eq_false rfl) hp0 hp1 hp4 hp3) hq.n k735 k681 k682 wc_44 rfl rfl k89 k683 np_X1_copy (Nat.le_trans (by decide) hd) (by decide) (Nat.le_refl _) (Nat.le_refl _) wlen rfl (Nat.le_of_ble_eq_true rfl) (fun r_ h_ p1 => ?_)
  obtain ⟨u2, rfl, rfl, h3, h4, h5, hx6, fr7, fc8⟩ := p1
  replace E := xq_le hx6 E
  refine J_aload_n (i := 0) (j := 0) dX4_lay_8 rfl rfl ?_
  refine J_iconst (v := 0) dX4_lay_9 (by decide) ?_
  obtain ⟨u9, e10⟩ : ∃ z, z = ms u2 43 1 0 := ⟨_, rfl⟩
  refine J_put (C := RX4) (T := TX4) (Z := 4) (ci := 4) (f := 1) (ty0 := tyX4) dX4_lay_10 inG4 rfl tyX4_ok nmX4 (by decide) k296 rfl rfl wc_43 (Nat.le_of_ble_eq_true rfl) (fun _ _ => ⟨rfl, rfl⟩) (ws e10 wk_43 rfl) ?_
  replace E := xq_le e10 E
  refine J_aload_n (i := 0) (j := 0) dX4_lay_13 rfl rfl ?_
  refine J_iconst (v := 0) dX4_lay_14 (by decide) ?_
  obtain ⟨u11, e12⟩ : ∃ z, z = ms u9 43 2 0 := ⟨_, rfl⟩
  refine J_put (C := RX4) (T := TX4) (Z := 4) (ci := 4) (f := 2) (ty0 := tyX4) dX4_lay_15 inG4 rfl tyX4_ok nmX4 (by decide) k298 rfl rfl wc_43 (Nat.le_of_ble_eq_true rfl) (fun _ _ => ⟨rfl, rfl⟩) (ws e12 wk_43 rfl) ?_
  replace E := xq_le e12 E
  refine J_aload_n (i := 0) (j := 0) dX4_lay_18 rfl rfl ?_
  refine J_iconst (v := 0) dX4_lay_19 (by decide) ?_
  obtain ⟨u13, e14⟩ : ∃ z, z = ms u11 43 3 0 := ⟨_, rfl⟩
  refine J_put (C := RX4) (T := TX4) (Z := 4) (ci := 4) (f := 3) (ty0 := tyX4) dX4_lay_20 inG4 rfl tyX4_ok nmX4 (by decide) k300 rfl rfl wc_43 (Nat.le_of_ble_eq_true rfl) (fun _ _ => ⟨rfl, rfl⟩) (ws e14 wk_43 rfl) ?_
  replace E := xq_le e14 E
  refine J_iconst (v := 0) dX4_lay_23 (by decide) ?_
  refine J_istore_n (i := 3) (lw := [(3, .int 0), (0, .ref 43), (1, .ref 10), (2, .ref 19)]) dX4_lay_24 rfl (by decide) rfl ?_
  have lp244 : ∀ (n245 : Nat) (w225 : Int32) (u226 : Nat → Nat → Int32), Bd 0 12 w225 → (∀ c, c ≠ 43 → c ≠ 45 → u226 c = u13 c) → (∀ j, j ≠ 1 → j ≠ 2 → j ≠ 3 → u226 43 j = u13 43 j) → AB u226 45 (-1) 999 → (12 - w225.toInt).toNat < n245 → Fx_Si_lay_10_19X_L25 u g n245 w225 u226 = Fx_Si_lay_10_19X u g → J x yX4_lay cX4_lay 4 none d 0 0 (Wd u g ex).length 25 [(0, .ref 43), (2, .ref 19), (3, .int w225)] [] (Wd u226 g ex) 0 0 := by
    intro n245
    induction n245 with
    | zero => intro w225 u226 bw225 fr227 fc228 ab229 hm247 _; exact absurd hm247 (Nat.not_lt_zero _)
    | succ n245 ih246 =>
      intro w225 u226 bw225 fr227 fc228 ab229 hm247 E
      replace E := Fx_Si_lay_10_19X_L25_s.symm.trans E
      refine J_iload_n (i := 3) (j := 2) dX4_lay_25 rfl rfl ?_
      refine J_aload_n (i := 2) (j := 1) dX4_lay_26 rfl rfl ?_
      refine J_getN (C := RX8) (T := TX8) (Z := 4) (ci := 8) (f := 0) dX4_lay_27 inG8 rfl (by decide) k169 wc_19 rfl ?_
      refine J_ci (v := u 19 0) ((congrFun (fr227 19 (Nat.ne_of_beq_eq_false rfl) (Nat.ne_of_beq_eq_false rfl)) 0).trans ((congrFun (ms_c e14 (Nat.ne_of_beq_eq_false rfl)) 0).trans ((congrFun (ms_c e12 (Nat.ne_of_beq_eq_false rfl)) 0).trans ((congrFun (ms_c e10 (Nat.ne_of_beq_eq_false rfl)) 0).trans (congrFun (fr7 19 (Nat.ne_of_beq_eq_false rfl) (Nat.ne_of_beq_eq_false rfl) (Nat.ne_of_beq_eq_false rfl) (Nat.ne_of_beq_eq_false rfl) (Nat.ne_of_beq_eq_false rfl)) 0))))) ?_
      refine J_icmp_ge (tgt := 75) dX4_lay_30 (by decide) (fun c248 => ?_) (fun c248 => ?_)
      · replace E := xq_ep c248 E
        exact J_vret hq dX4_lay_75 rfl wlen (Nat.le_refl _) (Nat.le_refl _) ⟨u226, rfl, rfl, (bd_r ((congrFun (fr227 44 (Nat.ne_of_beq_eq_false rfl) (Nat.ne_of_beq_eq_false rfl)) 0).trans ((congrFun (ms_c e14 (Nat.ne_of_beq_eq_false rfl)) 0).trans ((congrFun (ms_c e12 (Nat.ne_of_beq_eq_false rfl)) 0).trans (congrFun (ms_c e10 (Nat.ne_of_beq_eq_false rfl)) 0)))) h3), (bd_r ((congrFun (fr227 44 (Nat.ne_of_beq_eq_false rfl) (Nat.ne_of_beq_eq_false rfl)) 2).trans ((congrFun (ms_c e14 (Nat.ne_of_beq_eq_false rfl)) 2).trans ((congrFun (ms_c e12 (Nat.ne_of_beq_eq_false rfl)) 2).trans (congrFun (ms_c e10 (Nat.ne_of_beq_eq_false rfl)) 2)))) h4), ab229, E, (fun c k_ => ((fr227 c (nin_ne (a := 43) k_ rfl) (nin_ne (a := 45) k_ rfl)).trans ((ms_c e14 (nin_ne (a := 43) k_ rfl)).trans ((ms_c e12 (nin_ne (a := 43) k_ rfl)).trans ((ms_c e10 (nin_ne (a := 43) k_ rfl)).trans (fr7 c (nin_ne (a := 44) k_ rfl) (nin_ne (a := 45) k_ rfl) (nin_ne (a := 46) k_ rfl) (nin_ne (a := 47) k_ rfl) (nin_ne (a := 48) k_ rfl))))))), (fun j k1_ k2_ k3_ => ((fc228 j k1_ k2_ k3_).trans ((ms_i e14 k3_).trans ((ms_i e12 k2_).trans ((ms_i e10 k1_).trans (congrFun (fr7 43 (Nat.ne_of_beq_eq_false rfl) (Nat.ne_of_beq_eq_false rfl) (Nat.ne_of_beq_eq_false rfl) (Nat.ne_of_beq_eq_false rfl) (Nat.ne_of_beq_eq_false rfl)) j)))))), (fun j k0_ k2_ => ((congrFun (fr227 44 (Nat.ne_of_beq_eq_false rfl) (Nat.ne_of_beq_eq_false rfl)) j).trans ((congrFun (ms_c e14 (Nat.ne_of_beq_eq_false rfl)) j).trans ((congrFun (ms_c e12 (Nat.ne_of_beq_eq_false rfl)) j).trans ((congrFun (ms_c e10 (Nat.ne_of_beq_eq_false rfl)) j).trans (fc8 j k0_ k2_))))))⟩
      · replace E := xq_en c248 E
        refine J_aload_n (i := 0) (j := 0) dX4_lay_33 rfl rfl ?_
        refine J_aload_n (i := 2) (j := 1) dX4_lay_34 rfl rfl ?_
        refine J_getN (C := RX8) (T := TX8) (Z := 4) (ci := 8) (f := 1) dX4_lay_35 inG8 rfl (by decide) k172 wc_19 rfl ?_
        refine J_iload_n (i := 3) (j := 2) dX4_lay_38 rfl rfl ?_
        refine J_iald dX4_lay_39 wc_20 (vin (bd_lt_hi bw225 (i_nle c248) hp2) (by decide)) ?_
        refine J_topi (fun v249 qv249 => ?_)
        replace E := xq_le qv249 E
        refine J_aload_n (i := 2) (j := 1) dX4_lay_40 rfl rfl ?_
        refine J_getN (C := RX8) (T := TX8) (Z := 4) (ci := 8) (f := 2) dX4_lay_41 inG8 rfl (by decide) k174 wc_19 rfl ?_
        refine J_iload_n (i := 3) (j := 2) dX4_lay_44 rfl rfl ?_
        refine J_iald dX4_lay_45 wc_21 (vin (bd_lt_hi bw225 (i_nle c248) hp2) (by decide)) ?_
        refine J_topi (fun v250 qv250 => ?_)
        replace E := xq_le qv250 E
        refine J_aload_n (i := 2) (j := 1) dX4_lay_46 rfl rfl ?_
        refine J_getN (C := RX8) (T := TX8) (Z := 4) (ci := 8) (f := 3) dX4_lay_47 inG8 rfl (by decide) k176 wc_19 rfl ?_
        refine J_iload_n (i := 3) (j := 2) dX4_lay_50 rfl rfl ?_
        refine J_iald dX4_lay_51 wc_22 (vin (bd_lt_hi bw225 (i_nle c248) hp2) (by decide)) ?_
        refine J_topi (fun v251 qv251 => ?_)
        replace E := xq_le qv251 E
        refine J_callV (As := [.int v249, .int v250, .int v251]) (rest := []) dX4_lay_52 (c_Si_buildsX (d := 2) (u := u226) (g := g) (ex := ex) (kind := v249) (pond := v250) (much := v251)  (by decide) (bd_r ((congrFun (fr227 44 (Nat.ne_of_beq_eq_false rfl) (Nat.ne_of_beq_eq_false rfl)) 0).trans ((congrFun (ms_c e14 (Nat.ne_of_beq_eq_false rfl)) 0).trans ((congrFun (ms_c e12 (Nat.ne_of_beq_eq_false rfl)) 0).trans (congrFun (ms_c e10 (Nat.ne_of_beq_eq_false rfl)) 0)))) h3) (bd_r ((congrFun (fr227 44 (Nat.ne_of_beq_eq_false rfl) (Nat.ne_of_beq_eq_false rfl)) 2).trans ((congrFun (ms_c e14 (Nat.ne_of_beq_eq_false rfl)) 2).trans ((congrFun (ms_c e12 (Nat.ne_of_beq_eq_false rfl)) 2).trans (congrFun (ms_c e10 (Nat.ne_of_beq_eq_false rfl)) 2)))) h4) ab229 (km_use qv249 qv251 ((km_c ((fr227 20 (Nat.ne_of_beq_eq_false rfl) (Nat.ne_of_beq_eq_false rfl)).trans ((ms_c e14 (Nat.ne_of_beq_eq_false rfl)).trans ((ms_c e12 (Nat.ne_of_beq_eq_false rfl)).trans ((ms_c e10 (Nat.ne_of_beq_eq_false rfl)).trans (fr7 20 (Nat.ne_of_beq_eq_false rfl) (Nat.ne_of_beq_eq_false rfl) (Nat.ne_of_beq_eq_false rfl) (Nat.ne_of_beq_eq_false rfl) (Nat.ne_of_beq_eq_false rfl)))))) ((fr227 22 (Nat.ne_of_beq_eq_false rfl) (Nat.ne_of_beq_eq_false rfl)).trans ((ms_c e14 (Nat.ne_of_beq_eq_false rfl)).trans ((ms_c e12 (Nat.ne_of_beq_eq_false rfl)).trans ((ms_c e10 (Nat.ne_of_beq_eq_false rfl)).trans (fr7 22 (Nat.ne_of_beq_eq_false rfl) (Nat.ne_of_beq_eq_false rfl) (Nat.ne_of_beq_eq_false rfl) (Nat.ne_of_beq_eq_false rfl) (Nat.ne_of_beq_eq_false rfl)))))) hp5) w225.toNatClampNeg))) hq.n k736 k738 k13 wc_43 rfl rfl k93 k739 np_X4_builds (Nat.le_trans (by decide) hd) (by decide) (Nat.le_refl _) (Nat.le_refl _) wlen rfl (Nat.le_of_ble_eq_true rfl) (fun r_ h_ p252 => ?_)
        obtain ⟨t253, u254, rfl, rfl, h255, hx256, fr257, fc258⟩ := p252
        replace E := xq_e2 hx256 E
        refine J_ifB_ne (tgt := 59) dX4_lay_55 (by decide) (fun c259 => ?_) (fun c259 => ?_)
        · replace E := xq_ep c259 E
          refine J_aload_n (i := 0) (j := 0) dX4_lay_59 rfl rfl ?_
          refine J_dup dX4_lay_60 rfl ?_
          refine J_get (C := RX4) (T := TX4) (Z := 4) (ci := 4) (f := 1) dX4_lay_61 inG4 rfl (by decide) k296 wc_43 rfl ?_
          refine J_ci (v := u226 43 1) (fc258 1 (Nat.ne_of_beq_eq_false rfl) (Nat.ne_of_beq_eq_false rfl)) ?_
          refine J_iconst (v := 1) dX4_lay_64 (by decide) ?_
          refine J_iadd dX4_lay_65 ?_
          obtain ⟨u260, e261⟩ : ∃ z, z = ms u254 43 1 ((u226 43 1) + 1) := ⟨_, rfl⟩
          refine J_put (C := RX4) (T := TX4) (Z := 4) (ci := 4) (f := 1) (ty0 := tyX4) dX4_lay_66 inG4 rfl tyX4_ok nmX4 (by decide) k296 rfl rfl wc_43 (Nat.le_of_ble_eq_true rfl) (fun _ _ => ⟨rfl, rfl⟩) (ws e261 wk_43 rfl) ?_
          replace E := xq_le e261 E
          refine J_iinc (i := 3) (j := 2) (v := (w225 + 1)) (lw := [(3, .int (w225 + 1)), (0, .ref 43), (2, .ref 19)]) dX4_lay_69 rfl rfl (by decide) rfl ?_
          refine J_goto (tgt := 25) dX4_lay_72 (by decide) ?_
          refine J_lv [1, 2, 0] rfl ?_
          exact ih246 (w225 + 1) u260 (bd_w (l := 0) (h := 12) (bd_add (l := 1) (h := 12) (bd_lt_hi bw225 (i_nle c248) hp2) (bd_c (v := 1) (lo := 1) (hi := 1) (by decide)) (by decide)) (by decide)) (fun c k0_ k1_ => ((ms_c e261 k0_).trans ((fr257 c k0_ k1_).trans (fr227 c k0_ k1_)))) (fun j k1_ k2_ k3_ => ((ms_i e261 k1_).trans ((fc258 j k2_ k3_).trans (fc228 j k1_ k2_ k3_)))) (ab_c (ms_c e261 (Nat.ne_of_beq_eq_false rfl)) h255) (mu_up 1 bw225 rfl (by decide) (bd_w (l := 1) (h := 12) (bd_add (l := 1) (h := 12) (bd_lt_hi bw225 (i_nle c248) hp2) (bd_c (v := 1) (lo := 1) (hi := 1) (by decide)) (by decide)) (by decide)) hm247) E
        · replace E := xq_ef c259 E
          exact J_vret hq dX4_lay_58 rfl wlen (Nat.le_refl _) (Nat.le_refl _) ⟨u254, rfl, rfl, (bd_r ((congrFun (fr257 44 (Nat.ne_of_beq_eq_false rfl) (Nat.ne_of_beq_eq_false rfl)) 0).trans ((congrFun (fr227 44 (Nat.ne_of_beq_eq_false rfl) (Nat.ne_of_beq_eq_false rfl)) 0).trans ((congrFun (ms_c e14 (Nat.ne_of_beq_eq_false rfl)) 0).trans ((congrFun (ms_c e12 (Nat.ne_of_beq_eq_false rfl)) 0).trans (congrFun (ms_c e10 (Nat.ne_of_beq_eq_false rfl)) 0))))) h3), (bd_r ((congrFun (fr257 44 (Nat.ne_of_beq_eq_false rfl) (Nat.ne_of_beq_eq_false rfl)) 2).trans ((congrFun (fr227 44 (Nat.ne_of_beq_eq_false rfl) (Nat.ne_of_beq_eq_false rfl)) 2).trans ((congrFun (ms_c e14 (Nat.ne_of_beq_eq_false rfl)) 2).trans ((congrFun (ms_c e12 (Nat.ne_of_beq_eq_false rfl)) 2).trans (congrFun (ms_c e10 (Nat.ne_of_beq_eq_false rfl)) 2))))) h4), h255, E, (fun c k_ => ((fr257 c (nin_ne (a := 43) k_ rfl) (nin_ne (a := 45) k_ rfl)).trans ((fr227 c (nin_ne (a := 43) k_ rfl) (nin_ne (a := 45) k_ rfl)).trans ((ms_c e14 (nin_ne (a := 43) k_ rfl)).trans ((ms_c e12 (nin_ne (a := 43) k_ rfl)).trans ((ms_c e10 (nin_ne (a := 43) k_ rfl)).trans (fr7 c (nin_ne (a := 44) k_ rfl) (nin_ne (a := 45) k_ rfl) (nin_ne (a := 46) k_ rfl) (nin_ne (a := 47) k_ rfl) (nin_ne (a := 48) k_ rfl)))))))), (fun j k1_ k2_ k3_ => ((fc258 j k2_ k3_).trans ((fc228 j k1_ k2_ k3_).trans ((ms_i e14 k3_).trans ((ms_i e12 k2_).trans ((ms_i e10 k1_).trans (congrFun (fr7 43 (Nat.ne_of_beq_eq_false rfl) (Nat.ne_of_beq_eq_false rfl) (Nat.ne_of_beq_eq_false rfl) (Nat.ne_of_beq_eq_false rfl) (Nat.ne_of_beq_eq_false rfl)) j))))))), (fun j k0_ k2_ => ((congrFun (fr257 44 (Nat.ne_of_beq_eq_false rfl) (Nat.ne_of_beq_eq_false rfl)) j).trans ((congrFun (fr227 44 (Nat.ne_of_beq_eq_false rfl) (Nat.ne_of_beq_eq_false rfl)) j).trans ((congrFun (ms_c e14 (Nat.ne_of_beq_eq_false rfl)) j).trans ((congrFun (ms_c e12 (Nat.ne_of_beq_eq_false rfl)) j).trans ((congrFun (ms_c e10 (Nat.ne_of_beq_eq_false rfl)) j).trans (fc8 j k0_ k2_)))))))⟩
  refine J_lv [1, 3, 0] rfl ?_
  exact lp244 ((12 - (0 : Int32).toInt).toNat + 1) (0 : Int32) u13 (bd_w (l := 0) (h := 12) (bd_c (v := 0) (lo := 0) (hi := 0) (by decide)) (by decide)) (fun c k0_ k1_ => rfl) (fun j k1_ k2_ k3_ => rfl) (ab_c ((ms_c e14 (Nat.ne_of_beq_eq_false rfl)).trans ((ms_c e12 (Nat.ne_of_beq_eq_false rfl)).trans (ms_c e10 (Nat.ne_of_beq_eq_false rfl)))) h5) (Nat.lt_succ_self _) E
set_option maxRecDepth 100000 in
noncomputable def Fx_Si_lay_10_23X_L25 (u : Nat → Nat → Int32) (g : Nat → Nat → Int64) (n_ : Nat) : (Int32) → (Nat → Nat → Int32) → (Nat → Nat → Int32) := Nat.rec (motive := fun _ => (Int32) → (Nat → Nat → Int32) → (Nat → Nat → Int32)) (fun _ _ => default) (fun n_ ih_ w225 u226 => if (u 23 0) ≤ w225 then (u226) else (xq_lt (u226 24 w225.toNatClampNeg) fun v249 => xq_lt (u226 25 w225.toNatClampNeg) fun v250 => xq_lt (u226 26 w225.toNatClampNeg) fun v251 => xq_c2 (Fx_Si_buildsX v249 v250 v251 u226 g) fun t253 u254 => if t253 = true then (xq_lt (ms u254 43 1 ((u226 43 1) + 1)) fun u260 => ih_ (w225 + 1) u260) else (u254))) n_
set_option maxRecDepth 100000 in
theorem Fx_Si_lay_10_23X_L25_s {u : Nat → Nat → Int32} {g : Nat → Nat → Int64} {w225 : Int32} {u226 : Nat → Nat → Int32} {n_ : Nat} : Fx_Si_lay_10_23X_L25 u g (n_ + 1) w225 u226 = if (u 23 0) ≤ w225 then (u226) else (xq_lt (u226 24 w225.toNatClampNeg) fun v249 => xq_lt (u226 25 w225.toNatClampNeg) fun v250 => xq_lt (u226 26 w225.toNatClampNeg) fun v251 => xq_c2 (Fx_Si_buildsX v249 v250 v251 u226 g) fun t253 u254 => if t253 = true then (xq_lt (ms u254 43 1 ((u226 43 1) + 1)) fun u260 => (Fx_Si_lay_10_23X_L25 u g n_) (w225 + 1) u260) else (u254)) := rfl
set_option maxRecDepth 100000 in
noncomputable def Fx_Si_lay_10_23X (u : Nat → Nat → Int32) (g : Nat → Nat → Int64) : (Nat → Nat → Int32) := xq_lt (Fx_H_copyBX 44 10 u g) fun u2 => xq_lt (ms u2 43 1 0) fun u9 => xq_lt (ms u9 43 2 0) fun u11 => xq_lt (ms u11 43 3 0) fun u13 => Fx_Si_lay_10_23X_L25 u g ((12 - (0 : Int32).toInt).toNat + 1) (0 : Int32) u13
set_option maxHeartbeats 4000000 in
set_option maxRecDepth 100000 in
theorem c_Si_lay_10_23X {d : Nat} {u : Nat → Nat → Int32} {g : Nat → Nat → Int64} {ex : List MC}  (hd : 3 ≤ d) (hp0 : Bd 0 9 (u 10 0)) (hp1 : Bd 0 4 (u 10 2)) (hp2 : Bd 0 12 (u 23 0)) (hp3 : AB u 11 (-1) 999) (hp4 : AB u 45 (-1) 999) (hp5 : (KM u 23)) : CT con0 d 0 0 yX4_lay cX4_lay 4 none [.ref 43, .ref 10, .ref 23] (Wd u g ex) (fun r h2 => ∃ (u2 : Nat → Nat → Int32), r = none ∧ h2 = Wd u2 g ex ∧ Bd 0 9 (u2 44 0) ∧ Bd 0 4 (u2 44 2) ∧ AB u2 45 (-1) 999 ∧ u2 = Fx_Si_lay_10_23X u g ∧ (∀ c, nin c [(43, 48)] = true → u2 c = u c) ∧ (∀ j, j ≠ 1 → j ≠ 2 → j ≠ 3 → u2 43 j = u 43 j) ∧ (∀ j, j ≠ 0 → j ≠ 2 → u2 44 j = u 44 j)) := by
  refine CT_of (by decide) (Nat.le_of_ble_eq_true rfl) (fun x hq => ?_)
  show J x yX4_lay cX4_lay 4 none d 0 0 (Wd u g ex).length 0 [(0, .ref 43), (1, .ref 10), (2, .ref 23)] [] (Wd u g ex) 0 0
  have E : Fx_Si_lay_10_23X u g = Fx_Si_lay_10_23X u g := rfl
  refine J_aload_n (i := 0) (j := 0) dX4_lay_0 rfl rfl ?_
  refine J_get (C := RX4) (T := TX4) (Z := 4) (ci := 4) (f := 0) dX4_lay_1 inG4 rfl (by decide) k294 wc_43 rfl ?_
  refine J_aload_n (i := 1) (j := 1) dX4_lay_4 rfl rfl ?_
  refine J_callV (As := [.ref 10]) (rest := []) dX4_lay_5 (c_H_copyBX (d := 1) (u := u) (g := g) (ex := ex)  (t := 44) (f := 10) (by decide) (by decide) (by decide) (Nat.ne_of_beq_eq_false rfl) hp0 hp1 hp4 hp3) hq.n k735 k681 k682 wc_44 rfl rfl k89 k683 np_X1_copy (Nat.le_trans (by decide) hd) (by decide) (Nat.le_refl _) (Nat.le_refl _) wlen rfl (Nat.le_of_ble_eq_true rfl) (fun r_ h_ p1 => ?_)
  obtain ⟨u2, rfl, rfl, h3, h4, h5, hx6, fr7, fc8⟩ := p1
  replace E := xq_le hx6 E
  refine J_aload_n (i := 0) (j := 0) dX4_lay_8 rfl rfl ?_
  refine J_iconst (v := 0) dX4_lay_9 (by decide) ?_
  obtain ⟨u9, e10⟩ : ∃ z, z = ms u2 43 1 0 := ⟨_, rfl⟩
  refine J_put (C := RX4) (T := TX4) (Z := 4) (ci := 4) (f := 1) (ty0 := tyX4) dX4_lay_10 inG4 rfl tyX4_ok nmX4 (by decide) k296 rfl rfl wc_43 (Nat.le_of_ble_eq_true rfl) (fun _ _ => ⟨rfl, rfl⟩) (ws e10 wk_43 rfl) ?_
  replace E := xq_le e10 E
  refine J_aload_n (i := 0) (j := 0) dX4_lay_13 rfl rfl ?_
  refine J_iconst (v := 0) dX4_lay_14 (by decide) ?_
  obtain ⟨u11, e12⟩ : ∃ z, z = ms u9 43 2 0 := ⟨_, rfl⟩
  refine J_put (C := RX4) (T := TX4) (Z := 4) (ci := 4) (f := 2) (ty0 := tyX4) dX4_lay_15 inG4 rfl tyX4_ok nmX4 (by decide) k298 rfl rfl wc_43 (Nat.le_of_ble_eq_true rfl) (fun _ _ => ⟨rfl, rfl⟩) (ws e12 wk_43 rfl) ?_
  replace E := xq_le e12 E
  refine J_aload_n (i := 0) (j := 0) dX4_lay_18 rfl rfl ?_
  refine J_iconst (v := 0) dX4_lay_19 (by decide) ?_
  obtain ⟨u13, e14⟩ : ∃ z, z = ms u11 43 3 0 := ⟨_, rfl⟩
  refine J_put (C := RX4) (T := TX4) (Z := 4) (ci := 4) (f := 3) (ty0 := tyX4) dX4_lay_20 inG4 rfl tyX4_ok nmX4 (by decide) k300 rfl rfl wc_43 (Nat.le_of_ble_eq_true rfl) (fun _ _ => ⟨rfl, rfl⟩) (ws e14 wk_43 rfl) ?_
  replace E := xq_le e14 E
  refine J_iconst (v := 0) dX4_lay_23 (by decide) ?_
  refine J_istore_n (i := 3) (lw := [(3, .int 0), (0, .ref 43), (1, .ref 10), (2, .ref 23)]) dX4_lay_24 rfl (by decide) rfl ?_
  have lp244 : ∀ (n245 : Nat) (w225 : Int32) (u226 : Nat → Nat → Int32), Bd 0 12 w225 → (∀ c, c ≠ 43 → c ≠ 45 → u226 c = u13 c) → (∀ j, j ≠ 1 → j ≠ 2 → j ≠ 3 → u226 43 j = u13 43 j) → AB u226 45 (-1) 999 → (12 - w225.toInt).toNat < n245 → Fx_Si_lay_10_23X_L25 u g n245 w225 u226 = Fx_Si_lay_10_23X u g → J x yX4_lay cX4_lay 4 none d 0 0 (Wd u g ex).length 25 [(0, .ref 43), (2, .ref 23), (3, .int w225)] [] (Wd u226 g ex) 0 0 := by
    intro n245
    induction n245 with
    | zero => intro w225 u226 bw225 fr227 fc228 ab229 hm247 _; exact absurd hm247 (Nat.not_lt_zero _)
    | succ n245 ih246 =>
      intro w225 u226 bw225 fr227 fc228 ab229 hm247 E
      replace E := Fx_Si_lay_10_23X_L25_s.symm.trans E
      refine J_iload_n (i := 3) (j := 2) dX4_lay_25 rfl rfl ?_
      refine J_aload_n (i := 2) (j := 1) dX4_lay_26 rfl rfl ?_
      refine J_getN (C := RX8) (T := TX8) (Z := 4) (ci := 8) (f := 0) dX4_lay_27 inG8 rfl (by decide) k169 wc_23 rfl ?_
      refine J_ci (v := u 23 0) ((congrFun (fr227 23 (Nat.ne_of_beq_eq_false rfl) (Nat.ne_of_beq_eq_false rfl)) 0).trans ((congrFun (ms_c e14 (Nat.ne_of_beq_eq_false rfl)) 0).trans ((congrFun (ms_c e12 (Nat.ne_of_beq_eq_false rfl)) 0).trans ((congrFun (ms_c e10 (Nat.ne_of_beq_eq_false rfl)) 0).trans (congrFun (fr7 23 (Nat.ne_of_beq_eq_false rfl) (Nat.ne_of_beq_eq_false rfl) (Nat.ne_of_beq_eq_false rfl) (Nat.ne_of_beq_eq_false rfl) (Nat.ne_of_beq_eq_false rfl)) 0))))) ?_
      refine J_icmp_ge (tgt := 75) dX4_lay_30 (by decide) (fun c248 => ?_) (fun c248 => ?_)
      · replace E := xq_ep c248 E
        exact J_vret hq dX4_lay_75 rfl wlen (Nat.le_refl _) (Nat.le_refl _) ⟨u226, rfl, rfl, (bd_r ((congrFun (fr227 44 (Nat.ne_of_beq_eq_false rfl) (Nat.ne_of_beq_eq_false rfl)) 0).trans ((congrFun (ms_c e14 (Nat.ne_of_beq_eq_false rfl)) 0).trans ((congrFun (ms_c e12 (Nat.ne_of_beq_eq_false rfl)) 0).trans (congrFun (ms_c e10 (Nat.ne_of_beq_eq_false rfl)) 0)))) h3), (bd_r ((congrFun (fr227 44 (Nat.ne_of_beq_eq_false rfl) (Nat.ne_of_beq_eq_false rfl)) 2).trans ((congrFun (ms_c e14 (Nat.ne_of_beq_eq_false rfl)) 2).trans ((congrFun (ms_c e12 (Nat.ne_of_beq_eq_false rfl)) 2).trans (congrFun (ms_c e10 (Nat.ne_of_beq_eq_false rfl)) 2)))) h4), ab229, E, (fun c k_ => ((fr227 c (nin_ne (a := 43) k_ rfl) (nin_ne (a := 45) k_ rfl)).trans ((ms_c e14 (nin_ne (a := 43) k_ rfl)).trans ((ms_c e12 (nin_ne (a := 43) k_ rfl)).trans ((ms_c e10 (nin_ne (a := 43) k_ rfl)).trans (fr7 c (nin_ne (a := 44) k_ rfl) (nin_ne (a := 45) k_ rfl) (nin_ne (a := 46) k_ rfl) (nin_ne (a := 47) k_ rfl) (nin_ne (a := 48) k_ rfl))))))), (fun j k1_ k2_ k3_ => ((fc228 j k1_ k2_ k3_).trans ((ms_i e14 k3_).trans ((ms_i e12 k2_).trans ((ms_i e10 k1_).trans (congrFun (fr7 43 (Nat.ne_of_beq_eq_false rfl) (Nat.ne_of_beq_eq_false rfl) (Nat.ne_of_beq_eq_false rfl) (Nat.ne_of_beq_eq_false rfl) (Nat.ne_of_beq_eq_false rfl)) j)))))), (fun j k0_ k2_ => ((congrFun (fr227 44 (Nat.ne_of_beq_eq_false rfl) (Nat.ne_of_beq_eq_false rfl)) j).trans ((congrFun (ms_c e14 (Nat.ne_of_beq_eq_false rfl)) j).trans ((congrFun (ms_c e12 (Nat.ne_of_beq_eq_false rfl)) j).trans ((congrFun (ms_c e10 (Nat.ne_of_beq_eq_false rfl)) j).trans (fc8 j k0_ k2_))))))⟩
      · replace E := xq_en c248 E
        refine J_aload_n (i := 0) (j := 0) dX4_lay_33 rfl rfl ?_
        refine J_aload_n (i := 2) (j := 1) dX4_lay_34 rfl rfl ?_
        refine J_getN (C := RX8) (T := TX8) (Z := 4) (ci := 8) (f := 1) dX4_lay_35 inG8 rfl (by decide) k172 wc_23 rfl ?_
        refine J_iload_n (i := 3) (j := 2) dX4_lay_38 rfl rfl ?_
        refine J_iald dX4_lay_39 wc_24 (vin (bd_lt_hi bw225 (i_nle c248) hp2) (by decide)) ?_
        refine J_topi (fun v249 qv249 => ?_)
        replace E := xq_le qv249 E
        refine J_aload_n (i := 2) (j := 1) dX4_lay_40 rfl rfl ?_
        refine J_getN (C := RX8) (T := TX8) (Z := 4) (ci := 8) (f := 2) dX4_lay_41 inG8 rfl (by decide) k174 wc_23 rfl ?_
        refine J_iload_n (i := 3) (j := 2) dX4_lay_44 rfl rfl ?_
        refine J_iald dX4_lay_45 wc_25 (vin (bd_lt_hi bw225 (i_nle c248) hp2) (by decide)) ?_
        refine J_topi (fun v250 qv250 => ?_)
        replace E := xq_le qv250 E
        refine J_aload_n (i := 2) (j := 1) dX4_lay_46 rfl rfl ?_
        refine J_getN (C := RX8) (T := TX8) (Z := 4) (ci := 8) (f := 3) dX4_lay_47 inG8 rfl (by decide) k176 wc_23 rfl ?_
        refine J_iload_n (i := 3) (j := 2) dX4_lay_50 rfl rfl ?_
        refine J_iald dX4_lay_51 wc_26 (vin (bd_lt_hi bw225 (i_nle c248) hp2) (by decide)) ?_
        refine J_topi (fun v251 qv251 => ?_)
        replace E := xq_le qv251 E
        refine J_callV (As := [.int v249, .int v250, .int v251]) (rest := []) dX4_lay_52 (c_Si_buildsX (d := 2) (u := u226) (g := g) (ex := ex) (kind := v249) (pond := v250) (much := v251)  (by decide) (bd_r ((congrFun (fr227 44 (Nat.ne_of_beq_eq_false rfl) (Nat.ne_of_beq_eq_false rfl)) 0).trans ((congrFun (ms_c e14 (Nat.ne_of_beq_eq_false rfl)) 0).trans ((congrFun (ms_c e12 (Nat.ne_of_beq_eq_false rfl)) 0).trans (congrFun (ms_c e10 (Nat.ne_of_beq_eq_false rfl)) 0)))) h3) (bd_r ((congrFun (fr227 44 (Nat.ne_of_beq_eq_false rfl) (Nat.ne_of_beq_eq_false rfl)) 2).trans ((congrFun (ms_c e14 (Nat.ne_of_beq_eq_false rfl)) 2).trans ((congrFun (ms_c e12 (Nat.ne_of_beq_eq_false rfl)) 2).trans (congrFun (ms_c e10 (Nat.ne_of_beq_eq_false rfl)) 2)))) h4) ab229 (km_use qv249 qv251 ((km_c ((fr227 24 (Nat.ne_of_beq_eq_false rfl) (Nat.ne_of_beq_eq_false rfl)).trans ((ms_c e14 (Nat.ne_of_beq_eq_false rfl)).trans ((ms_c e12 (Nat.ne_of_beq_eq_false rfl)).trans ((ms_c e10 (Nat.ne_of_beq_eq_false rfl)).trans (fr7 24 (Nat.ne_of_beq_eq_false rfl) (Nat.ne_of_beq_eq_false rfl) (Nat.ne_of_beq_eq_false rfl) (Nat.ne_of_beq_eq_false rfl) (Nat.ne_of_beq_eq_false rfl)))))) ((fr227 26 (Nat.ne_of_beq_eq_false rfl) (Nat.ne_of_beq_eq_false rfl)).trans ((ms_c e14 (Nat.ne_of_beq_eq_false rfl)).trans ((ms_c e12 (Nat.ne_of_beq_eq_false rfl)).trans ((ms_c e10 (Nat.ne_of_beq_eq_false rfl)).trans (fr7 26 (Nat.ne_of_beq_eq_false rfl) (Nat.ne_of_beq_eq_false rfl) (Nat.ne_of_beq_eq_false rfl) (Nat.ne_of_beq_eq_false rfl) (Nat.ne_of_beq_eq_false rfl)))))) hp5) w225.toNatClampNeg))) hq.n k736 k738 k13 wc_43 rfl rfl k93 k739 np_X4_builds (Nat.le_trans (by decide) hd) (by decide) (Nat.le_refl _) (Nat.le_refl _) wlen rfl (Nat.le_of_ble_eq_true rfl) (fun r_ h_ p252 => ?_)
        obtain ⟨t253, u254, rfl, rfl, h255, hx256, fr257, fc258⟩ := p252
        replace E := xq_e2 hx256 E
        refine J_ifB_ne (tgt := 59) dX4_lay_55 (by decide) (fun c259 => ?_) (fun c259 => ?_)
        · replace E := xq_ep c259 E
          refine J_aload_n (i := 0) (j := 0) dX4_lay_59 rfl rfl ?_
          refine J_dup dX4_lay_60 rfl ?_
          refine J_get (C := RX4) (T := TX4) (Z := 4) (ci := 4) (f := 1) dX4_lay_61 inG4 rfl (by decide) k296 wc_43 rfl ?_
          refine J_ci (v := u226 43 1) (fc258 1 (Nat.ne_of_beq_eq_false rfl) (Nat.ne_of_beq_eq_false rfl)) ?_
          refine J_iconst (v := 1) dX4_lay_64 (by decide) ?_
          refine J_iadd dX4_lay_65 ?_
          obtain ⟨u260, e261⟩ : ∃ z, z = ms u254 43 1 ((u226 43 1) + 1) := ⟨_, rfl⟩
          refine J_put (C := RX4) (T := TX4) (Z := 4) (ci := 4) (f := 1) (ty0 := tyX4) dX4_lay_66 inG4 rfl tyX4_ok nmX4 (by decide) k296 rfl rfl wc_43 (Nat.le_of_ble_eq_true rfl) (fun _ _ => ⟨rfl, rfl⟩) (ws e261 wk_43 rfl) ?_
          replace E := xq_le e261 E
          refine J_iinc (i := 3) (j := 2) (v := (w225 + 1)) (lw := [(3, .int (w225 + 1)), (0, .ref 43), (2, .ref 23)]) dX4_lay_69 rfl rfl (by decide) rfl ?_
          refine J_goto (tgt := 25) dX4_lay_72 (by decide) ?_
          refine J_lv [1, 2, 0] rfl ?_
          exact ih246 (w225 + 1) u260 (bd_w (l := 0) (h := 12) (bd_add (l := 1) (h := 12) (bd_lt_hi bw225 (i_nle c248) hp2) (bd_c (v := 1) (lo := 1) (hi := 1) (by decide)) (by decide)) (by decide)) (fun c k0_ k1_ => ((ms_c e261 k0_).trans ((fr257 c k0_ k1_).trans (fr227 c k0_ k1_)))) (fun j k1_ k2_ k3_ => ((ms_i e261 k1_).trans ((fc258 j k2_ k3_).trans (fc228 j k1_ k2_ k3_)))) (ab_c (ms_c e261 (Nat.ne_of_beq_eq_false rfl)) h255) (mu_up 1 bw225 rfl (by decide) (bd_w (l := 1) (h := 12) (bd_add (l := 1) (h := 12) (bd_lt_hi bw225 (i_nle c248) hp2) (bd_c (v := 1) (lo := 1) (hi := 1) (by decide)) (by decide)) (by decide)) hm247) E
        · replace E := xq_ef c259 E
          exact J_vret hq dX4_lay_58 rfl wlen (Nat.le_refl _) (Nat.le_refl _) ⟨u254, rfl, rfl, (bd_r ((congrFun (fr257 44 (Nat.ne_of_beq_eq_false rfl) (Nat.ne_of_beq_eq_false rfl)) 0).trans ((congrFun (fr227 44 (Nat.ne_of_beq_eq_false rfl) (Nat.ne_of_beq_eq_false rfl)) 0).trans ((congrFun (ms_c e14 (Nat.ne_of_beq_eq_false rfl)) 0).trans ((congrFun (ms_c e12 (Nat.ne_of_beq_eq_false rfl)) 0).trans (congrFun (ms_c e10 (Nat.ne_of_beq_eq_false rfl)) 0))))) h3), (bd_r ((congrFun (fr257 44 (Nat.ne_of_beq_eq_false rfl) (Nat.ne_of_beq_eq_false rfl)) 2).trans ((congrFun (fr227 44 (Nat.ne_of_beq_eq_false rfl) (Nat.ne_of_beq_eq_false rfl)) 2).trans ((congrFun (ms_c e14 (Nat.ne_of_beq_eq_false rfl)) 2).trans ((congrFun (ms_c e12 (Nat.ne_of_beq_eq_false rfl)) 2).trans (congrFun (ms_c e10 (Nat.ne_of_beq_eq_false rfl)) 2))))) h4), h255, E, (fun c k_ => ((fr257 c (nin_ne (a := 43) k_ rfl) (nin_ne (a := 45) k_ rfl)).trans ((fr227 c (nin_ne (a := 43) k_ rfl) (nin_ne (a := 45) k_ rfl)).trans ((ms_c e14 (nin_ne (a := 43) k_ rfl)).trans ((ms_c e12 (nin_ne (a := 43) k_ rfl)).trans ((ms_c e10 (nin_ne (a := 43) k_ rfl)).trans (fr7 c (nin_ne (a := 44) k_ rfl) (nin_ne (a := 45) k_ rfl) (nin_ne (a := 46) k_ rfl) (nin_ne (a := 47) k_ rfl) (nin_ne (a := 48) k_ rfl)))))))), (fun j k1_ k2_ k3_ => ((fc258 j k2_ k3_).trans ((fc228 j k1_ k2_ k3_).trans ((ms_i e14 k3_).trans ((ms_i e12 k2_).trans ((ms_i e10 k1_).trans (congrFun (fr7 43 (Nat.ne_of_beq_eq_false rfl) (Nat.ne_of_beq_eq_false rfl) (Nat.ne_of_beq_eq_false rfl) (Nat.ne_of_beq_eq_false rfl) (Nat.ne_of_beq_eq_false rfl)) j))))))), (fun j k0_ k2_ => ((congrFun (fr257 44 (Nat.ne_of_beq_eq_false rfl) (Nat.ne_of_beq_eq_false rfl)) j).trans ((congrFun (fr227 44 (Nat.ne_of_beq_eq_false rfl) (Nat.ne_of_beq_eq_false rfl)) j).trans ((congrFun (ms_c e14 (Nat.ne_of_beq_eq_false rfl)) j).trans ((congrFun (ms_c e12 (Nat.ne_of_beq_eq_false rfl)) j).trans ((congrFun (ms_c e10 (Nat.ne_of_beq_eq_false rfl)) j).trans (fc8 j k0_ k2_)))))))⟩
  refine J_lv [1, 3, 0] rfl ?_
  exact lp244 ((12 - (0 : Int32).toInt).toNat + 1) (0 : Int32) u13 (bd_w (l := 0) (h := 12) (bd_c (v := 0) (lo := 0) (hi := 0) (by decide)) (by decide)) (fun c k0_ k1_ => rfl) (fun j k1_ k2_ k3_ => rfl) (ab_c ((ms_c e14 (Nat.ne_of_beq_eq_false rfl)).trans ((ms_c e12 (Nat.ne_of_beq_eq_false rfl)).trans (ms_c e10 (Nat.ne_of_beq_eq_false rfl)))) h5) (Nat.lt_succ_self _) E
set_option maxRecDepth 100000 in
noncomputable def Fx_Si_lay_10_49X_L25 (u : Nat → Nat → Int32) (g : Nat → Nat → Int64) (n_ : Nat) : (Int32) → (Nat → Nat → Int32) → (Nat → Nat → Int32) := Nat.rec (motive := fun _ => (Int32) → (Nat → Nat → Int32) → (Nat → Nat → Int32)) (fun _ _ => default) (fun n_ ih_ w225 u226 => if (u 49 0) ≤ w225 then (u226) else (xq_lt (u226 50 w225.toNatClampNeg) fun v249 => xq_lt (u226 51 w225.toNatClampNeg) fun v250 => xq_lt (u226 52 w225.toNatClampNeg) fun v251 => xq_c2 (Fx_Si_buildsX v249 v250 v251 u226 g) fun t253 u254 => if t253 = true then (xq_lt (ms u254 43 1 ((u226 43 1) + 1)) fun u260 => ih_ (w225 + 1) u260) else (u254))) n_
set_option maxRecDepth 100000 in
theorem Fx_Si_lay_10_49X_L25_s {u : Nat → Nat → Int32} {g : Nat → Nat → Int64} {w225 : Int32} {u226 : Nat → Nat → Int32} {n_ : Nat} : Fx_Si_lay_10_49X_L25 u g (n_ + 1) w225 u226 = if (u 49 0) ≤ w225 then (u226) else (xq_lt (u226 50 w225.toNatClampNeg) fun v249 => xq_lt (u226 51 w225.toNatClampNeg) fun v250 => xq_lt (u226 52 w225.toNatClampNeg) fun v251 => xq_c2 (Fx_Si_buildsX v249 v250 v251 u226 g) fun t253 u254 => if t253 = true then (xq_lt (ms u254 43 1 ((u226 43 1) + 1)) fun u260 => (Fx_Si_lay_10_49X_L25 u g n_) (w225 + 1) u260) else (u254)) := rfl
set_option maxRecDepth 100000 in
noncomputable def Fx_Si_lay_10_49X (u : Nat → Nat → Int32) (g : Nat → Nat → Int64) : (Nat → Nat → Int32) := xq_lt (Fx_H_copyBX 44 10 u g) fun u2 => xq_lt (ms u2 43 1 0) fun u9 => xq_lt (ms u9 43 2 0) fun u11 => xq_lt (ms u11 43 3 0) fun u13 => Fx_Si_lay_10_49X_L25 u g ((12 - (0 : Int32).toInt).toNat + 1) (0 : Int32) u13
set_option maxHeartbeats 4000000 in
set_option maxRecDepth 100000 in
theorem c_Si_lay_10_49X {d : Nat} {u : Nat → Nat → Int32} {g : Nat → Nat → Int64} {ex : List MC}  (hd : 3 ≤ d) (hp0 : Bd 0 9 (u 10 0)) (hp1 : Bd 0 4 (u 10 2)) (hp2 : Bd 0 12 (u 49 0)) (hp3 : AB u 11 (-1) 999) (hp4 : AB u 45 (-1) 999) (hp5 : (KM u 49)) : CT con0 d 0 0 yX4_lay cX4_lay 4 none [.ref 43, .ref 10, .ref 49] (Wd u g ex) (fun r h2 => ∃ (u2 : Nat → Nat → Int32), r = none ∧ h2 = Wd u2 g ex ∧ Bd 0 9 (u2 44 0) ∧ Bd 0 4 (u2 44 2) ∧ AB u2 45 (-1) 999 ∧ u2 = Fx_Si_lay_10_49X u g ∧ (∀ c, nin c [(43, 48)] = true → u2 c = u c) ∧ (∀ j, j ≠ 1 → j ≠ 2 → j ≠ 3 → u2 43 j = u 43 j) ∧ (∀ j, j ≠ 0 → j ≠ 2 → u2 44 j = u 44 j)) := by
  refine CT_of (by decide) (Nat.le_of_ble_eq_true rfl) (fun x hq => ?_)
  show J x yX4_lay cX4_lay 4 none d 0 0 (Wd u g ex).length 0 [(0, .ref 43), (1, .ref 10), (2, .ref 49)] [] (Wd u g ex) 0 0
  have E : Fx_Si_lay_10_49X u g = Fx_Si_lay_10_49X u g := rfl
  refine J_aload_n (i := 0) (j := 0) dX4_lay_0 rfl rfl ?_
  refine J_get (C := RX4) (T := TX4) (Z := 4) (ci := 4) (f := 0) dX4_lay_1 inG4 rfl (by decide) k294 wc_43 rfl ?_
  refine J_aload_n (i := 1) (j := 1) dX4_lay_4 rfl rfl ?_
  refine J_callV (As := [.ref 10]) (rest := []) dX4_lay_5 (c_H_copyBX (d := 1) (u := u) (g := g) (ex := ex)  (t := 44) (f := 10) (by decide) (by decide) (by decide) (Nat.ne_of_beq_eq_false rfl) hp0 hp1 hp4 hp3) hq.n k735 k681 k682 wc_44 rfl rfl k89 k683 np_X1_copy (Nat.le_trans (by decide) hd) (by decide) (Nat.le_refl _) (Nat.le_refl _) wlen rfl (Nat.le_of_ble_eq_true rfl) (fun r_ h_ p1 => ?_)
  obtain ⟨u2, rfl, rfl, h3, h4, h5, hx6, fr7, fc8⟩ := p1
  replace E := xq_le hx6 E
  refine J_aload_n (i := 0) (j := 0) dX4_lay_8 rfl rfl ?_
  refine J_iconst (v := 0) dX4_lay_9 (by decide) ?_
  obtain ⟨u9, e10⟩ : ∃ z, z = ms u2 43 1 0 := ⟨_, rfl⟩
  refine J_put (C := RX4) (T := TX4) (Z := 4) (ci := 4) (f := 1) (ty0 := tyX4) dX4_lay_10 inG4 rfl tyX4_ok nmX4 (by decide) k296 rfl rfl wc_43 (Nat.le_of_ble_eq_true rfl) (fun _ _ => ⟨rfl, rfl⟩) (ws e10 wk_43 rfl) ?_
  replace E := xq_le e10 E
  refine J_aload_n (i := 0) (j := 0) dX4_lay_13 rfl rfl ?_
  refine J_iconst (v := 0) dX4_lay_14 (by decide) ?_
  obtain ⟨u11, e12⟩ : ∃ z, z = ms u9 43 2 0 := ⟨_, rfl⟩
  refine J_put (C := RX4) (T := TX4) (Z := 4) (ci := 4) (f := 2) (ty0 := tyX4) dX4_lay_15 inG4 rfl tyX4_ok nmX4 (by decide) k298 rfl rfl wc_43 (Nat.le_of_ble_eq_true rfl) (fun _ _ => ⟨rfl, rfl⟩) (ws e12 wk_43 rfl) ?_
  replace E := xq_le e12 E
  refine J_aload_n (i := 0) (j := 0) dX4_lay_18 rfl rfl ?_
  refine J_iconst (v := 0) dX4_lay_19 (by decide) ?_
  obtain ⟨u13, e14⟩ : ∃ z, z = ms u11 43 3 0 := ⟨_, rfl⟩
  refine J_put (C := RX4) (T := TX4) (Z := 4) (ci := 4) (f := 3) (ty0 := tyX4) dX4_lay_20 inG4 rfl tyX4_ok nmX4 (by decide) k300 rfl rfl wc_43 (Nat.le_of_ble_eq_true rfl) (fun _ _ => ⟨rfl, rfl⟩) (ws e14 wk_43 rfl) ?_
  replace E := xq_le e14 E
  refine J_iconst (v := 0) dX4_lay_23 (by decide) ?_
  refine J_istore_n (i := 3) (lw := [(3, .int 0), (0, .ref 43), (1, .ref 10), (2, .ref 49)]) dX4_lay_24 rfl (by decide) rfl ?_
  have lp244 : ∀ (n245 : Nat) (w225 : Int32) (u226 : Nat → Nat → Int32), Bd 0 12 w225 → (∀ c, c ≠ 43 → c ≠ 45 → u226 c = u13 c) → (∀ j, j ≠ 1 → j ≠ 2 → j ≠ 3 → u226 43 j = u13 43 j) → AB u226 45 (-1) 999 → (12 - w225.toInt).toNat < n245 → Fx_Si_lay_10_49X_L25 u g n245 w225 u226 = Fx_Si_lay_10_49X u g → J x yX4_lay cX4_lay 4 none d 0 0 (Wd u g ex).length 25 [(0, .ref 43), (2, .ref 49), (3, .int w225)] [] (Wd u226 g ex) 0 0 := by
    intro n245
    induction n245 with
    | zero => intro w225 u226 bw225 fr227 fc228 ab229 hm247 _; exact absurd hm247 (Nat.not_lt_zero _)
    | succ n245 ih246 =>
      intro w225 u226 bw225 fr227 fc228 ab229 hm247 E
      replace E := Fx_Si_lay_10_49X_L25_s.symm.trans E
      refine J_iload_n (i := 3) (j := 2) dX4_lay_25 rfl rfl ?_
      refine J_aload_n (i := 2) (j := 1) dX4_lay_26 rfl rfl ?_
      refine J_getN (C := RX8) (T := TX8) (Z := 4) (ci := 8) (f := 0) dX4_lay_27 inG8 rfl (by decide) k169 wc_49 rfl ?_
      refine J_ci (v := u 49 0) ((congrFun (fr227 49 (Nat.ne_of_beq_eq_false rfl) (Nat.ne_of_beq_eq_false rfl)) 0).trans ((congrFun (ms_c e14 (Nat.ne_of_beq_eq_false rfl)) 0).trans ((congrFun (ms_c e12 (Nat.ne_of_beq_eq_false rfl)) 0).trans ((congrFun (ms_c e10 (Nat.ne_of_beq_eq_false rfl)) 0).trans (congrFun (fr7 49 (Nat.ne_of_beq_eq_false rfl) (Nat.ne_of_beq_eq_false rfl) (Nat.ne_of_beq_eq_false rfl) (Nat.ne_of_beq_eq_false rfl) (Nat.ne_of_beq_eq_false rfl)) 0))))) ?_
      refine J_icmp_ge (tgt := 75) dX4_lay_30 (by decide) (fun c248 => ?_) (fun c248 => ?_)
      · replace E := xq_ep c248 E
        exact J_vret hq dX4_lay_75 rfl wlen (Nat.le_refl _) (Nat.le_refl _) ⟨u226, rfl, rfl, (bd_r ((congrFun (fr227 44 (Nat.ne_of_beq_eq_false rfl) (Nat.ne_of_beq_eq_false rfl)) 0).trans ((congrFun (ms_c e14 (Nat.ne_of_beq_eq_false rfl)) 0).trans ((congrFun (ms_c e12 (Nat.ne_of_beq_eq_false rfl)) 0).trans (congrFun (ms_c e10 (Nat.ne_of_beq_eq_false rfl)) 0)))) h3), (bd_r ((congrFun (fr227 44 (Nat.ne_of_beq_eq_false rfl) (Nat.ne_of_beq_eq_false rfl)) 2).trans ((congrFun (ms_c e14 (Nat.ne_of_beq_eq_false rfl)) 2).trans ((congrFun (ms_c e12 (Nat.ne_of_beq_eq_false rfl)) 2).trans (congrFun (ms_c e10 (Nat.ne_of_beq_eq_false rfl)) 2)))) h4), ab229, E, (fun c k_ => ((fr227 c (nin_ne (a := 43) k_ rfl) (nin_ne (a := 45) k_ rfl)).trans ((ms_c e14 (nin_ne (a := 43) k_ rfl)).trans ((ms_c e12 (nin_ne (a := 43) k_ rfl)).trans ((ms_c e10 (nin_ne (a := 43) k_ rfl)).trans (fr7 c (nin_ne (a := 44) k_ rfl) (nin_ne (a := 45) k_ rfl) (nin_ne (a := 46) k_ rfl) (nin_ne (a := 47) k_ rfl) (nin_ne (a := 48) k_ rfl))))))), (fun j k1_ k2_ k3_ => ((fc228 j k1_ k2_ k3_).trans ((ms_i e14 k3_).trans ((ms_i e12 k2_).trans ((ms_i e10 k1_).trans (congrFun (fr7 43 (Nat.ne_of_beq_eq_false rfl) (Nat.ne_of_beq_eq_false rfl) (Nat.ne_of_beq_eq_false rfl) (Nat.ne_of_beq_eq_false rfl) (Nat.ne_of_beq_eq_false rfl)) j)))))), (fun j k0_ k2_ => ((congrFun (fr227 44 (Nat.ne_of_beq_eq_false rfl) (Nat.ne_of_beq_eq_false rfl)) j).trans ((congrFun (ms_c e14 (Nat.ne_of_beq_eq_false rfl)) j).trans ((congrFun (ms_c e12 (Nat.ne_of_beq_eq_false rfl)) j).trans ((congrFun (ms_c e10 (Nat.ne_of_beq_eq_false rfl)) j).trans (fc8 j k0_ k2_))))))⟩
      · replace E := xq_en c248 E
        refine J_aload_n (i := 0) (j := 0) dX4_lay_33 rfl rfl ?_
        refine J_aload_n (i := 2) (j := 1) dX4_lay_34 rfl rfl ?_
        refine J_getN (C := RX8) (T := TX8) (Z := 4) (ci := 8) (f := 1) dX4_lay_35 inG8 rfl (by decide) k172 wc_49 rfl ?_
        refine J_iload_n (i := 3) (j := 2) dX4_lay_38 rfl rfl ?_
        refine J_iald dX4_lay_39 wc_50 (vin (bd_lt_hi bw225 (i_nle c248) hp2) (by decide)) ?_
        refine J_topi (fun v249 qv249 => ?_)
        replace E := xq_le qv249 E
        refine J_aload_n (i := 2) (j := 1) dX4_lay_40 rfl rfl ?_
        refine J_getN (C := RX8) (T := TX8) (Z := 4) (ci := 8) (f := 2) dX4_lay_41 inG8 rfl (by decide) k174 wc_49 rfl ?_
        refine J_iload_n (i := 3) (j := 2) dX4_lay_44 rfl rfl ?_
        refine J_iald dX4_lay_45 wc_51 (vin (bd_lt_hi bw225 (i_nle c248) hp2) (by decide)) ?_
        refine J_topi (fun v250 qv250 => ?_)
        replace E := xq_le qv250 E
        refine J_aload_n (i := 2) (j := 1) dX4_lay_46 rfl rfl ?_
        refine J_getN (C := RX8) (T := TX8) (Z := 4) (ci := 8) (f := 3) dX4_lay_47 inG8 rfl (by decide) k176 wc_49 rfl ?_
        refine J_iload_n (i := 3) (j := 2) dX4_lay_50 rfl rfl ?_
        refine J_iald dX4_lay_51 wc_52 (vin (bd_lt_hi bw225 (i_nle c248) hp2) (by decide)) ?_
        refine J_topi (fun v251 qv251 => ?_)
        replace E := xq_le qv251 E
        refine J_callV (As := [.int v249, .int v250, .int v251]) (rest := []) dX4_lay_52 (c_Si_buildsX (d := 2) (u := u226) (g := g) (ex := ex) (kind := v249) (pond := v250) (much := v251)  (by decide) (bd_r ((congrFun (fr227 44 (Nat.ne_of_beq_eq_false rfl) (Nat.ne_of_beq_eq_false rfl)) 0).trans ((congrFun (ms_c e14 (Nat.ne_of_beq_eq_false rfl)) 0).trans ((congrFun (ms_c e12 (Nat.ne_of_beq_eq_false rfl)) 0).trans (congrFun (ms_c e10 (Nat.ne_of_beq_eq_false rfl)) 0)))) h3) (bd_r ((congrFun (fr227 44 (Nat.ne_of_beq_eq_false rfl) (Nat.ne_of_beq_eq_false rfl)) 2).trans ((congrFun (ms_c e14 (Nat.ne_of_beq_eq_false rfl)) 2).trans ((congrFun (ms_c e12 (Nat.ne_of_beq_eq_false rfl)) 2).trans (congrFun (ms_c e10 (Nat.ne_of_beq_eq_false rfl)) 2)))) h4) ab229 (km_use qv249 qv251 ((km_c ((fr227 50 (Nat.ne_of_beq_eq_false rfl) (Nat.ne_of_beq_eq_false rfl)).trans ((ms_c e14 (Nat.ne_of_beq_eq_false rfl)).trans ((ms_c e12 (Nat.ne_of_beq_eq_false rfl)).trans ((ms_c e10 (Nat.ne_of_beq_eq_false rfl)).trans (fr7 50 (Nat.ne_of_beq_eq_false rfl) (Nat.ne_of_beq_eq_false rfl) (Nat.ne_of_beq_eq_false rfl) (Nat.ne_of_beq_eq_false rfl) (Nat.ne_of_beq_eq_false rfl)))))) ((fr227 52 (Nat.ne_of_beq_eq_false rfl) (Nat.ne_of_beq_eq_false rfl)).trans ((ms_c e14 (Nat.ne_of_beq_eq_false rfl)).trans ((ms_c e12 (Nat.ne_of_beq_eq_false rfl)).trans ((ms_c e10 (Nat.ne_of_beq_eq_false rfl)).trans (fr7 52 (Nat.ne_of_beq_eq_false rfl) (Nat.ne_of_beq_eq_false rfl) (Nat.ne_of_beq_eq_false rfl) (Nat.ne_of_beq_eq_false rfl) (Nat.ne_of_beq_eq_false rfl)))))) hp5) w225.toNatClampNeg))) hq.n k736 k738 k13 wc_43 rfl rfl k93 k739 np_X4_builds (Nat.le_trans (by decide) hd) (by decide) (Nat.le_refl _) (Nat.le_refl _) wlen rfl (Nat.le_of_ble_eq_true rfl) (fun r_ h_ p252 => ?_)
        obtain ⟨t253, u254, rfl, rfl, h255, hx256, fr257, fc258⟩ := p252
        replace E := xq_e2 hx256 E
        refine J_ifB_ne (tgt := 59) dX4_lay_55 (by decide) (fun c259 => ?_) (fun c259 => ?_)
        · replace E := xq_ep c259 E
          refine J_aload_n (i := 0) (j := 0) dX4_lay_59 rfl rfl ?_
          refine J_dup dX4_lay_60 rfl ?_
          refine J_get (C := RX4) (T := TX4) (Z := 4) (ci := 4) (f := 1) dX4_lay_61 inG4 rfl (by decide) k296 wc_43 rfl ?_
          refine J_ci (v := u226 43 1) (fc258 1 (Nat.ne_of_beq_eq_false rfl) (Nat.ne_of_beq_eq_false rfl)) ?_
          refine J_iconst (v := 1) dX4_lay_64 (by decide) ?_
          refine J_iadd dX4_lay_65 ?_
          obtain ⟨u260, e261⟩ : ∃ z, z = ms u254 43 1 ((u226 43 1) + 1) := ⟨_, rfl⟩
          refine J_put (C := RX4) (T := TX4) (Z := 4) (ci := 4) (f := 1) (ty0 := tyX4) dX4_lay_66 inG4 rfl tyX4_ok nmX4 (by decide) k296 rfl rfl wc_43 (Nat.le_of_ble_eq_true rfl) (fun _ _ => ⟨rfl, rfl⟩) (ws e261 wk_43 rfl) ?_
          replace E := xq_le e261 E
          refine J_iinc (i := 3) (j := 2) (v := (w225 + 1)) (lw := [(3, .int (w225 + 1)), (0, .ref 43), (2, .ref 49)]) dX4_lay_69 rfl rfl (by decide) rfl ?_
          refine J_goto (tgt := 25) dX4_lay_72 (by decide) ?_
          refine J_lv [1, 2, 0] rfl ?_
          exact ih246 (w225 + 1) u260 (bd_w (l := 0) (h := 12) (bd_add (l := 1) (h := 12) (bd_lt_hi bw225 (i_nle c248) hp2) (bd_c (v := 1) (lo := 1) (hi := 1) (by decide)) (by decide)) (by decide)) (fun c k0_ k1_ => ((ms_c e261 k0_).trans ((fr257 c k0_ k1_).trans (fr227 c k0_ k1_)))) (fun j k1_ k2_ k3_ => ((ms_i e261 k1_).trans ((fc258 j k2_ k3_).trans (fc228 j k1_ k2_ k3_)))) (ab_c (ms_c e261 (Nat.ne_of_beq_eq_false rfl)) h255) (mu_up 1 bw225 rfl (by decide) (bd_w (l := 1) (h := 12) (bd_add (l := 1) (h := 12) (bd_lt_hi bw225 (i_nle c248) hp2) (bd_c (v := 1) (lo := 1) (hi := 1) (by decide)) (by decide)) (by decide)) hm247) E
        · replace E := xq_ef c259 E
          exact J_vret hq dX4_lay_58 rfl wlen (Nat.le_refl _) (Nat.le_refl _) ⟨u254, rfl, rfl, (bd_r ((congrFun (fr257 44 (Nat.ne_of_beq_eq_false rfl) (Nat.ne_of_beq_eq_false rfl)) 0).trans ((congrFun (fr227 44 (Nat.ne_of_beq_eq_false rfl) (Nat.ne_of_beq_eq_false rfl)) 0).trans ((congrFun (ms_c e14 (Nat.ne_of_beq_eq_false rfl)) 0).trans ((congrFun (ms_c e12 (Nat.ne_of_beq_eq_false rfl)) 0).trans (congrFun (ms_c e10 (Nat.ne_of_beq_eq_false rfl)) 0))))) h3), (bd_r ((congrFun (fr257 44 (Nat.ne_of_beq_eq_false rfl) (Nat.ne_of_beq_eq_false rfl)) 2).trans ((congrFun (fr227 44 (Nat.ne_of_beq_eq_false rfl) (Nat.ne_of_beq_eq_false rfl)) 2).trans ((congrFun (ms_c e14 (Nat.ne_of_beq_eq_false rfl)) 2).trans ((congrFun (ms_c e12 (Nat.ne_of_beq_eq_false rfl)) 2).trans (congrFun (ms_c e10 (Nat.ne_of_beq_eq_false rfl)) 2))))) h4), h255, E, (fun c k_ => ((fr257 c (nin_ne (a := 43) k_ rfl) (nin_ne (a := 45) k_ rfl)).trans ((fr227 c (nin_ne (a := 43) k_ rfl) (nin_ne (a := 45) k_ rfl)).trans ((ms_c e14 (nin_ne (a := 43) k_ rfl)).trans ((ms_c e12 (nin_ne (a := 43) k_ rfl)).trans ((ms_c e10 (nin_ne (a := 43) k_ rfl)).trans (fr7 c (nin_ne (a := 44) k_ rfl) (nin_ne (a := 45) k_ rfl) (nin_ne (a := 46) k_ rfl) (nin_ne (a := 47) k_ rfl) (nin_ne (a := 48) k_ rfl)))))))), (fun j k1_ k2_ k3_ => ((fc258 j k2_ k3_).trans ((fc228 j k1_ k2_ k3_).trans ((ms_i e14 k3_).trans ((ms_i e12 k2_).trans ((ms_i e10 k1_).trans (congrFun (fr7 43 (Nat.ne_of_beq_eq_false rfl) (Nat.ne_of_beq_eq_false rfl) (Nat.ne_of_beq_eq_false rfl) (Nat.ne_of_beq_eq_false rfl) (Nat.ne_of_beq_eq_false rfl)) j))))))), (fun j k0_ k2_ => ((congrFun (fr257 44 (Nat.ne_of_beq_eq_false rfl) (Nat.ne_of_beq_eq_false rfl)) j).trans ((congrFun (fr227 44 (Nat.ne_of_beq_eq_false rfl) (Nat.ne_of_beq_eq_false rfl)) j).trans ((congrFun (ms_c e14 (Nat.ne_of_beq_eq_false rfl)) j).trans ((congrFun (ms_c e12 (Nat.ne_of_beq_eq_false rfl)) j).trans ((congrFun (ms_c e10 (Nat.ne_of_beq_eq_false rfl)) j).trans (fc8 j k0_ k2_)))))))⟩
  refine J_lv [1, 3, 0] rfl ?_
  exact lp244 ((12 - (0 : Int32).toInt).toNat + 1) (0 : Int32) u13 (bd_w (l := 0) (h := 12) (bd_c (v := 0) (lo := 0) (hi := 0) (by decide)) (by decide)) (fun c k0_ k1_ => rfl) (fun j k1_ k2_ k3_ => rfl) (ab_c ((ms_c e14 (Nat.ne_of_beq_eq_false rfl)).trans ((ms_c e12 (Nat.ne_of_beq_eq_false rfl)).trans (ms_c e10 (Nat.ne_of_beq_eq_false rfl)))) h5) (Nat.lt_succ_self _) E
set_option maxRecDepth 100000 in
noncomputable def Fx_P_laysX (hill : Int32) (plan : Int32) (u : Nat → Nat → Int32) (g : Nat → Nat → Int64) : Bool × (Nat → Nat → Int32) := xq_lt (Fx_T_hasHillX hill u g) fun t2 => if t2 = true then (if plan = ((-1) : Int32) then (if hill = 0 then (if plan = ((-1) : Int32) then (xq_lt (Fx_Si_lay_5_49X u g) fun u10 => (true, u10)) else (default)) else (if plan = ((-1) : Int32) then (xq_lt (Fx_Si_lay_10_49X u g) fun u20 => (true, u20)) else (default))) else (xq_lt (Fx_T_hasPlanX plan u g) fun t29 => if t29 = true then (if hill = 0 then (if plan = ((-1) : Int32) then (default) else (if plan = 0 then (xq_lt (Fx_Si_lay_5_15X u g) fun u38 => (true, u38)) else (if plan = 1 then (xq_lt (Fx_Si_lay_5_19X u g) fun u47 => (true, u47)) else (xq_lt (Fx_Si_lay_5_23X u g) fun u56 => (true, u56))))) else (if plan = ((-1) : Int32) then (default) else (if plan = 0 then (xq_lt (Fx_Si_lay_10_15X u g) fun u68 => (true, u68)) else (if plan = 1 then (xq_lt (Fx_Si_lay_10_19X u g) fun u77 => (true, u77)) else (xq_lt (Fx_Si_lay_10_23X u g) fun u86 => (true, u86)))))) else ((false, u)))) else ((false, u))
set_option maxHeartbeats 4000000 in
set_option maxRecDepth 100000 in
theorem c_P_laysX {d : Nat} {u : Nat → Nat → Int32} {g : Nat → Nat → Int64} {ex : List MC} {hill : Int32} {plan : Int32} (hd : 4 ≤ d) (hp0 : Bd 0 2 (u 1 5)) (hp1 : Bd 0 3 (u 1 7)) (hp2 : Bd 0 9 (u 44 0)) (hp3 : Bd 0 4 (u 44 2)) (hp4 : Bd 0 9 (u 5 0)) (hp5 : Bd 0 4 (u 5 2)) (hp6 : Bd 0 9 (u 10 0)) (hp7 : Bd 0 4 (u 10 2)) (hp8 : Bd 0 12 (u 15 0)) (hp9 : Bd 0 12 (u 19 0)) (hp10 : Bd 0 12 (u 23 0)) (hp11 : Bd 0 12 (u 49 0)) (hp12 : AB u 45 (-1) 999) (hp13 : AB u 6 (-1) 999) (hp14 : AB u 11 (-1) 999) (hp15 : (KM u 15)) (hp16 : (KM u 19)) (hp17 : (KM u 23)) (hp18 : (KM u 49)) : CT con0 d 0 0 yX10_lays cX10_lays 3 (some .boolean) [.ref 0, .int hill, .int plan] (Wd u g ex) (fun r h2 => ∃ (z : Bool) (u2 : Nat → Nat → Int32), r = some (.int (bI z)) ∧ h2 = Wd u2 g ex ∧ Bd 0 9 (u2 44 0) ∧ Bd 0 4 (u2 44 2) ∧ AB u2 45 (-1) 999 ∧ (z, u2) = Fx_P_laysX hill plan u g ∧ (∀ c, nin c [(43, 48)] = true → u2 c = u c) ∧ (∀ j, j ≠ 1 → j ≠ 2 → j ≠ 3 → u2 43 j = u 43 j) ∧ (∀ j, j ≠ 0 → j ≠ 2 → u2 44 j = u 44 j)) := by
  refine CT_of (by decide) (Nat.le_of_ble_eq_true rfl) (fun x hq => ?_)
  show J x yX10_lays cX10_lays 3 (some .boolean) d 0 0 (Wd u g ex).length 0 [(0, .ref 0), (1, .int hill), (2, .int plan)] [] (Wd u g ex) 0 0
  have E : Fx_P_laysX hill plan u g = Fx_P_laysX hill plan u g := rfl
  refine J_aload_n (i := 0) (j := 0) dX10_lays_0 rfl rfl ?_
  refine J_get (C := RX10) (T := TX10) (Z := 10) (ci := 10) (f := 0) dX10_lays_1 inG10 rfl (by decide) k423 wc_0 rfl ?_
  refine J_iload_n (i := 1) (j := 1) dX10_lays_4 rfl rfl ?_
  refine J_callV (As := [.int hill]) (rest := []) dX10_lays_5 (c_T_hasHillX (d := 0) (u := u) (g := g) (ex := ex) (number := hill)  (by decide) hp0) hq.n k703 k704 k705 wc_1 rfl rfl k88 k706 np_X7_hasHill (Nat.le_trans (by decide) hd) (by decide) (Nat.le_refl _) (Nat.le_refl _) wlen rfl (Nat.le_of_ble_eq_true rfl) (fun r_ h_ p1 => ?_)
  obtain ⟨t2, rfl, rfl, h3, hx4⟩ := p1
  replace E := xq_le hx4 E
  refine J_ifB_eq (tgt := 27) dX10_lays_8 (by decide) (fun c5 => ?_) (fun c5 => ?_)
  · replace E := xq_ef c5 E
    refine J_iconst (v := 0) dX10_lays_27 (by decide) ?_
    exact J_zret hq dX10_lays_28 rfl rfl wlen (Nat.le_refl _) (Nat.le_refl _) ⟨false, u, rfl, rfl, hp2, hp3, hp12, E, (fun c k_ => rfl), (fun j k1_ k2_ k3_ => rfl), (fun j k0_ k2_ => rfl)⟩
  · replace E := xq_ep c5 E
    refine J_iload_n (i := 2) (j := 2) dX10_lays_11 rfl rfl ?_
    refine J_iconst (v := (-1)) dX10_lays_12 (by decide) ?_
    refine J_icmp_eq (tgt := 29) dX10_lays_13 (by decide) (fun c6 => ?_) (fun c6 => ?_)
    · replace E := xq_ep c6 E
      refine J_aload_n (i := 0) (j := 0) dX10_lays_29 rfl rfl ?_
      refine J_get (C := RX10) (T := TX10) (Z := 10) (ci := 10) (f := 4) dX10_lays_30 inG10 rfl (by decide) k427 wc_0 rfl ?_
      refine J_aload_n (i := 0) (j := 0) dX10_lays_33 rfl rfl ?_
      refine J_get (C := RX10) (T := TX10) (Z := 10) (ci := 10) (f := 0) dX10_lays_34 inG10 rfl (by decide) k423 wc_0 rfl ?_
      refine J_getN (C := RX7) (T := TX7) (Z := 8) (ci := 7) (f := 4) dX10_lays_37 inG7 rfl (by decide) k195 wc_1 rfl ?_
      refine J_iload_n (i := 1) (j := 1) dX10_lays_40 rfl rfl ?_
      have h7 := bd_cases2 (h3 c5)
      rcases h7 with h7_0 | h7_1
      · replace E := xq_ep h7_0 E
        refine J_aald (q := 5) dX10_lays_41 wc_3 (fun _ => rfl) (vin (h3 c5) (by decide)) (by rw [h7_0]; rfl) ?_
        refine J_iload_n (i := 2) (j := 2) dX10_lays_42 rfl rfl ?_
        refine J_iconst (v := (-1)) dX10_lays_43 (by decide) ?_
        refine J_icmp_ne (tgt := 54) dX10_lays_44 (by decide) (fun c8 => ?_) (fun c8 => ?_)
        · exact (bd_no (bd_ne_lo (bd_r c6 (bd_c (v := (-1)) (lo := (-1)) (hi := (-1)) (by decide))) c8 (by decide)) (by decide)).elim
        · replace E := xq_ep c8 E
          refine J_aload_n (i := 0) (j := 0) dX10_lays_47 rfl rfl ?_
          refine J_get (C := RX10) (T := TX10) (Z := 10) (ci := 10) (f := 5) dX10_lays_48 inG10 rfl (by decide) k428 wc_0 rfl ?_
          refine J_goto (tgt := 63) dX10_lays_51 (by decide) ?_
          refine J_callV (As := [.ref 5, .ref 49]) (rest := []) dX10_lays_63 (c_Si_lay_5_49X (d := 3) (u := u) (g := g) (ex := ex)   (by decide) hp4 hp5 hp11 hp13 hp12 hp18) hq.n k731 k732 k733 wc_43 rfl rfl k93 k734 np_X4_lay (Nat.le_trans (by decide) hd) (by decide) (Nat.le_refl _) (Nat.le_refl _) wlen rfl (Nat.le_of_ble_eq_true rfl) (fun r_ h_ p9 => ?_)
          obtain ⟨u10, rfl, rfl, h11, h12, h13, hx14, fr15, fc16, fc17⟩ := p9
          replace E := xq_le hx14 E
          refine J_iconst (v := 1) dX10_lays_66 (by decide) ?_
          exact J_zret hq dX10_lays_67 rfl rfl wlen (Nat.le_refl _) (Nat.le_refl _) ⟨true, u10, rfl, rfl, h11, h12, h13, E, (fun c k_ => (fr15 c (nin_sub (M := [(43, 48)]) k_ rfl))), (fun j k1_ k2_ k3_ => (fc16 j k1_ k2_ k3_)), (fun j k0_ k2_ => (fc17 j k0_ k2_))⟩
      · replace E := xq_en (fun z_ => absurd (z_.symm.trans h7_1) (by decide)) E
        refine J_aald (q := 10) dX10_lays_41 wc_3 (fun _ => rfl) (vin (h3 c5) (by decide)) (by rw [h7_1]; rfl) ?_
        refine J_iload_n (i := 2) (j := 2) dX10_lays_42 rfl rfl ?_
        refine J_iconst (v := (-1)) dX10_lays_43 (by decide) ?_
        refine J_icmp_ne (tgt := 54) dX10_lays_44 (by decide) (fun c18 => ?_) (fun c18 => ?_)
        · exact (bd_no (bd_ne_lo (bd_r c6 (bd_c (v := (-1)) (lo := (-1)) (hi := (-1)) (by decide))) c18 (by decide)) (by decide)).elim
        · replace E := xq_ep c18 E
          refine J_aload_n (i := 0) (j := 0) dX10_lays_47 rfl rfl ?_
          refine J_get (C := RX10) (T := TX10) (Z := 10) (ci := 10) (f := 5) dX10_lays_48 inG10 rfl (by decide) k428 wc_0 rfl ?_
          refine J_goto (tgt := 63) dX10_lays_51 (by decide) ?_
          refine J_callV (As := [.ref 10, .ref 49]) (rest := []) dX10_lays_63 (c_Si_lay_10_49X (d := 3) (u := u) (g := g) (ex := ex)   (by decide) hp6 hp7 hp11 hp14 hp12 hp18) hq.n k731 k732 k733 wc_43 rfl rfl k93 k734 np_X4_lay (Nat.le_trans (by decide) hd) (by decide) (Nat.le_refl _) (Nat.le_refl _) wlen rfl (Nat.le_of_ble_eq_true rfl) (fun r_ h_ p19 => ?_)
          obtain ⟨u20, rfl, rfl, h21, h22, h23, hx24, fr25, fc26, fc27⟩ := p19
          replace E := xq_le hx24 E
          refine J_iconst (v := 1) dX10_lays_66 (by decide) ?_
          exact J_zret hq dX10_lays_67 rfl rfl wlen (Nat.le_refl _) (Nat.le_refl _) ⟨true, u20, rfl, rfl, h21, h22, h23, E, (fun c k_ => (fr25 c (nin_sub (M := [(43, 48)]) k_ rfl))), (fun j k1_ k2_ k3_ => (fc26 j k1_ k2_ k3_)), (fun j k0_ k2_ => (fc27 j k0_ k2_))⟩
    · replace E := xq_en c6 E
      refine J_aload_n (i := 0) (j := 0) dX10_lays_16 rfl rfl ?_
      refine J_get (C := RX10) (T := TX10) (Z := 10) (ci := 10) (f := 0) dX10_lays_17 inG10 rfl (by decide) k423 wc_0 rfl ?_
      refine J_iload_n (i := 2) (j := 2) dX10_lays_20 rfl rfl ?_
      refine J_callV (As := [.int plan]) (rest := []) dX10_lays_21 (c_T_hasPlanX (d := 0) (u := u) (g := g) (ex := ex) (number := plan)  (by decide) hp1) hq.n k727 k728 k729 wc_1 rfl rfl k88 k730 np_X7_hasPlan (Nat.le_trans (by decide) hd) (by decide) (Nat.le_refl _) (Nat.le_refl _) wlen rfl (Nat.le_of_ble_eq_true rfl) (fun r_ h_ p28 => ?_)
      obtain ⟨t29, rfl, rfl, h30, hx31⟩ := p28
      replace E := xq_le hx31 E
      refine J_ifB_ne (tgt := 29) dX10_lays_24 (by decide) (fun c32 => ?_) (fun c32 => ?_)
      · replace E := xq_ep c32 E
        refine J_aload_n (i := 0) (j := 0) dX10_lays_29 rfl rfl ?_
        refine J_get (C := RX10) (T := TX10) (Z := 10) (ci := 10) (f := 4) dX10_lays_30 inG10 rfl (by decide) k427 wc_0 rfl ?_
        refine J_aload_n (i := 0) (j := 0) dX10_lays_33 rfl rfl ?_
        refine J_get (C := RX10) (T := TX10) (Z := 10) (ci := 10) (f := 0) dX10_lays_34 inG10 rfl (by decide) k423 wc_0 rfl ?_
        refine J_getN (C := RX7) (T := TX7) (Z := 8) (ci := 7) (f := 4) dX10_lays_37 inG7 rfl (by decide) k195 wc_1 rfl ?_
        refine J_iload_n (i := 1) (j := 1) dX10_lays_40 rfl rfl ?_
        have h33 := bd_cases2 (h3 c5)
        rcases h33 with h33_0 | h33_1
        · replace E := xq_ep h33_0 E
          refine J_aald (q := 5) dX10_lays_41 wc_3 (fun _ => rfl) (vin (h3 c5) (by decide)) (by rw [h33_0]; rfl) ?_
          refine J_iload_n (i := 2) (j := 2) dX10_lays_42 rfl rfl ?_
          refine J_iconst (v := (-1)) dX10_lays_43 (by decide) ?_
          refine J_icmp_ne (tgt := 54) dX10_lays_44 (by decide) (fun c34 => ?_) (fun c34 => ?_)
          · replace E := xq_en c34 E
            refine J_aload_n (i := 0) (j := 0) dX10_lays_54 rfl rfl ?_
            refine J_get (C := RX10) (T := TX10) (Z := 10) (ci := 10) (f := 0) dX10_lays_55 inG10 rfl (by decide) k423 wc_0 rfl ?_
            refine J_getN (C := RX7) (T := TX7) (Z := 8) (ci := 7) (f := 6) dX10_lays_58 inG7 rfl (by decide) k199 wc_1 rfl ?_
            refine J_iload_n (i := 2) (j := 2) dX10_lays_61 rfl rfl ?_
            have h36 := bd_cases3 (h30 c32)
            rcases h36 with h36_0 | h36_1 | h36_2
            · replace E := xq_ep h36_0 E
              refine J_aald (q := 15) dX10_lays_62 wc_4 (fun _ => rfl) (vin (h30 c32) (by decide)) (by rw [h36_0]; rfl) ?_
              refine J_callV (As := [.ref 5, .ref 15]) (rest := []) dX10_lays_63 (c_Si_lay_5_15X (d := 3) (u := u) (g := g) (ex := ex)   (by decide) hp4 hp5 hp8 hp13 hp12 hp15) hq.n k731 k732 k733 wc_43 rfl rfl k93 k734 np_X4_lay (Nat.le_trans (by decide) hd) (by decide) (Nat.le_refl _) (Nat.le_refl _) wlen rfl (Nat.le_of_ble_eq_true rfl) (fun r_ h_ p37 => ?_)
              obtain ⟨u38, rfl, rfl, h39, h40, h41, hx42, fr43, fc44, fc45⟩ := p37
              replace E := xq_le hx42 E
              refine J_iconst (v := 1) dX10_lays_66 (by decide) ?_
              exact J_zret hq dX10_lays_67 rfl rfl wlen (Nat.le_refl _) (Nat.le_refl _) ⟨true, u38, rfl, rfl, h39, h40, h41, E, (fun c k_ => (fr43 c (nin_sub (M := [(43, 48)]) k_ rfl))), (fun j k1_ k2_ k3_ => (fc44 j k1_ k2_ k3_)), (fun j k0_ k2_ => (fc45 j k0_ k2_))⟩
            · replace E := xq_en (fun z_ => absurd (z_.symm.trans h36_1) (by decide)) E
              replace E := xq_ep h36_1 E
              refine J_aald (q := 19) dX10_lays_62 wc_4 (fun _ => rfl) (vin (h30 c32) (by decide)) (by rw [h36_1]; rfl) ?_
              refine J_callV (As := [.ref 5, .ref 19]) (rest := []) dX10_lays_63 (c_Si_lay_5_19X (d := 3) (u := u) (g := g) (ex := ex)   (by decide) hp4 hp5 hp9 hp13 hp12 hp16) hq.n k731 k732 k733 wc_43 rfl rfl k93 k734 np_X4_lay (Nat.le_trans (by decide) hd) (by decide) (Nat.le_refl _) (Nat.le_refl _) wlen rfl (Nat.le_of_ble_eq_true rfl) (fun r_ h_ p46 => ?_)
              obtain ⟨u47, rfl, rfl, h48, h49, h50, hx51, fr52, fc53, fc54⟩ := p46
              replace E := xq_le hx51 E
              refine J_iconst (v := 1) dX10_lays_66 (by decide) ?_
              exact J_zret hq dX10_lays_67 rfl rfl wlen (Nat.le_refl _) (Nat.le_refl _) ⟨true, u47, rfl, rfl, h48, h49, h50, E, (fun c k_ => (fr52 c (nin_sub (M := [(43, 48)]) k_ rfl))), (fun j k1_ k2_ k3_ => (fc53 j k1_ k2_ k3_)), (fun j k0_ k2_ => (fc54 j k0_ k2_))⟩
            · replace E := xq_en (fun z_ => absurd (z_.symm.trans h36_2) (by decide)) E
              replace E := xq_en (fun z_ => absurd (z_.symm.trans h36_2) (by decide)) E
              refine J_aald (q := 23) dX10_lays_62 wc_4 (fun _ => rfl) (vin (h30 c32) (by decide)) (by rw [h36_2]; rfl) ?_
              refine J_callV (As := [.ref 5, .ref 23]) (rest := []) dX10_lays_63 (c_Si_lay_5_23X (d := 3) (u := u) (g := g) (ex := ex)   (by decide) hp4 hp5 hp10 hp13 hp12 hp17) hq.n k731 k732 k733 wc_43 rfl rfl k93 k734 np_X4_lay (Nat.le_trans (by decide) hd) (by decide) (Nat.le_refl _) (Nat.le_refl _) wlen rfl (Nat.le_of_ble_eq_true rfl) (fun r_ h_ p55 => ?_)
              obtain ⟨u56, rfl, rfl, h57, h58, h59, hx60, fr61, fc62, fc63⟩ := p55
              replace E := xq_le hx60 E
              refine J_iconst (v := 1) dX10_lays_66 (by decide) ?_
              exact J_zret hq dX10_lays_67 rfl rfl wlen (Nat.le_refl _) (Nat.le_refl _) ⟨true, u56, rfl, rfl, h57, h58, h59, E, (fun c k_ => (fr61 c (nin_sub (M := [(43, 48)]) k_ rfl))), (fun j k1_ k2_ k3_ => (fc62 j k1_ k2_ k3_)), (fun j k0_ k2_ => (fc63 j k0_ k2_))⟩
          · exact (bd_neq c34 (h30 c32) (bd_c (v := (-1)) (lo := (-1)) (hi := (-1)) (by decide)) (by decide)).elim
        · replace E := xq_en (fun z_ => absurd (z_.symm.trans h33_1) (by decide)) E
          refine J_aald (q := 10) dX10_lays_41 wc_3 (fun _ => rfl) (vin (h3 c5) (by decide)) (by rw [h33_1]; rfl) ?_
          refine J_iload_n (i := 2) (j := 2) dX10_lays_42 rfl rfl ?_
          refine J_iconst (v := (-1)) dX10_lays_43 (by decide) ?_
          refine J_icmp_ne (tgt := 54) dX10_lays_44 (by decide) (fun c64 => ?_) (fun c64 => ?_)
          · replace E := xq_en c64 E
            refine J_aload_n (i := 0) (j := 0) dX10_lays_54 rfl rfl ?_
            refine J_get (C := RX10) (T := TX10) (Z := 10) (ci := 10) (f := 0) dX10_lays_55 inG10 rfl (by decide) k423 wc_0 rfl ?_
            refine J_getN (C := RX7) (T := TX7) (Z := 8) (ci := 7) (f := 6) dX10_lays_58 inG7 rfl (by decide) k199 wc_1 rfl ?_
            refine J_iload_n (i := 2) (j := 2) dX10_lays_61 rfl rfl ?_
            have h66 := bd_cases3 (h30 c32)
            rcases h66 with h66_0 | h66_1 | h66_2
            · replace E := xq_ep h66_0 E
              refine J_aald (q := 15) dX10_lays_62 wc_4 (fun _ => rfl) (vin (h30 c32) (by decide)) (by rw [h66_0]; rfl) ?_
              refine J_callV (As := [.ref 10, .ref 15]) (rest := []) dX10_lays_63 (c_Si_lay_10_15X (d := 3) (u := u) (g := g) (ex := ex)   (by decide) hp6 hp7 hp8 hp14 hp12 hp15) hq.n k731 k732 k733 wc_43 rfl rfl k93 k734 np_X4_lay (Nat.le_trans (by decide) hd) (by decide) (Nat.le_refl _) (Nat.le_refl _) wlen rfl (Nat.le_of_ble_eq_true rfl) (fun r_ h_ p67 => ?_)
              obtain ⟨u68, rfl, rfl, h69, h70, h71, hx72, fr73, fc74, fc75⟩ := p67
              replace E := xq_le hx72 E
              refine J_iconst (v := 1) dX10_lays_66 (by decide) ?_
              exact J_zret hq dX10_lays_67 rfl rfl wlen (Nat.le_refl _) (Nat.le_refl _) ⟨true, u68, rfl, rfl, h69, h70, h71, E, (fun c k_ => (fr73 c (nin_sub (M := [(43, 48)]) k_ rfl))), (fun j k1_ k2_ k3_ => (fc74 j k1_ k2_ k3_)), (fun j k0_ k2_ => (fc75 j k0_ k2_))⟩
            · replace E := xq_en (fun z_ => absurd (z_.symm.trans h66_1) (by decide)) E
              replace E := xq_ep h66_1 E
              refine J_aald (q := 19) dX10_lays_62 wc_4 (fun _ => rfl) (vin (h30 c32) (by decide)) (by rw [h66_1]; rfl) ?_
              refine J_callV (As := [.ref 10, .ref 19]) (rest := []) dX10_lays_63 (c_Si_lay_10_19X (d := 3) (u := u) (g := g) (ex := ex)   (by decide) hp6 hp7 hp9 hp14 hp12 hp16) hq.n k731 k732 k733 wc_43 rfl rfl k93 k734 np_X4_lay (Nat.le_trans (by decide) hd) (by decide) (Nat.le_refl _) (Nat.le_refl _) wlen rfl (Nat.le_of_ble_eq_true rfl) (fun r_ h_ p76 => ?_)
              obtain ⟨u77, rfl, rfl, h78, h79, h80, hx81, fr82, fc83, fc84⟩ := p76
              replace E := xq_le hx81 E
              refine J_iconst (v := 1) dX10_lays_66 (by decide) ?_
              exact J_zret hq dX10_lays_67 rfl rfl wlen (Nat.le_refl _) (Nat.le_refl _) ⟨true, u77, rfl, rfl, h78, h79, h80, E, (fun c k_ => (fr82 c (nin_sub (M := [(43, 48)]) k_ rfl))), (fun j k1_ k2_ k3_ => (fc83 j k1_ k2_ k3_)), (fun j k0_ k2_ => (fc84 j k0_ k2_))⟩
            · replace E := xq_en (fun z_ => absurd (z_.symm.trans h66_2) (by decide)) E
              replace E := xq_en (fun z_ => absurd (z_.symm.trans h66_2) (by decide)) E
              refine J_aald (q := 23) dX10_lays_62 wc_4 (fun _ => rfl) (vin (h30 c32) (by decide)) (by rw [h66_2]; rfl) ?_
              refine J_callV (As := [.ref 10, .ref 23]) (rest := []) dX10_lays_63 (c_Si_lay_10_23X (d := 3) (u := u) (g := g) (ex := ex)   (by decide) hp6 hp7 hp10 hp14 hp12 hp17) hq.n k731 k732 k733 wc_43 rfl rfl k93 k734 np_X4_lay (Nat.le_trans (by decide) hd) (by decide) (Nat.le_refl _) (Nat.le_refl _) wlen rfl (Nat.le_of_ble_eq_true rfl) (fun r_ h_ p85 => ?_)
              obtain ⟨u86, rfl, rfl, h87, h88, h89, hx90, fr91, fc92, fc93⟩ := p85
              replace E := xq_le hx90 E
              refine J_iconst (v := 1) dX10_lays_66 (by decide) ?_
              exact J_zret hq dX10_lays_67 rfl rfl wlen (Nat.le_refl _) (Nat.le_refl _) ⟨true, u86, rfl, rfl, h87, h88, h89, E, (fun c k_ => (fr91 c (nin_sub (M := [(43, 48)]) k_ rfl))), (fun j k1_ k2_ k3_ => (fc92 j k1_ k2_ k3_)), (fun j k0_ k2_ => (fc93 j k0_ k2_))⟩
          · exact (bd_neq c64 (h30 c32) (bd_c (v := (-1)) (lo := (-1)) (hi := (-1)) (by decide)) (by decide)).elim
      · replace E := xq_ef c32 E
        refine J_iconst (v := 0) dX10_lays_27 (by decide) ?_
        exact J_zret hq dX10_lays_28 rfl rfl wlen (Nat.le_refl _) (Nat.le_refl _) ⟨false, u, rfl, rfl, hp2, hp3, hp12, E, (fun c k_ => rfl), (fun j k1_ k2_ k3_ => rfl), (fun j k0_ k2_ => rfl)⟩
set_option maxRecDepth 100000 in
noncomputable def Fx_O_isStormX (rain : Int32) (banks : Int32) (u : Nat → Nat → Int32) (g : Nat → Nat → Int64) : Bool := if rain < (0 : Int32) then (false) else (if (4 : Int32) ≤ rain then (false) else (if banks < (0 : Int32) then (false) else (if (512 : Int32) ≤ banks then (false) else (true))))
set_option maxHeartbeats 4000000 in
set_option maxRecDepth 100000 in
theorem c_O_isStormX {d : Nat} {u : Nat → Nat → Int32} {g : Nat → Nat → Int64} {ex : List MC} {rain : Int32} {banks : Int32} (hd : 0 ≤ d)  : CT con0 d 0 0 yX2_isStorm cX2_isStorm 2 (some .boolean) [.int rain, .int banks] (Wd u g ex) (fun r h2 => ∃ (z : Bool), r = some (.int (bI z)) ∧ h2 = Wd u g ex ∧ (z = true → Bd 0 3 rain) ∧ (z = true → Bd 0 511 banks) ∧ z = Fx_O_isStormX rain banks u g) := by
  refine CT_of (by decide) (Nat.le_of_ble_eq_true rfl) (fun x hq => ?_)
  show J x yX2_isStorm cX2_isStorm 2 (some .boolean) d 0 0 (Wd u g ex).length 0 [(0, .int rain), (1, .int banks)] [] (Wd u g ex) 0 0
  have E : Fx_O_isStormX rain banks u g = Fx_O_isStormX rain banks u g := rfl
  refine J_iload_n (i := 0) (j := 0) dX2_isStorm_0 rfl rfl ?_
  refine J_if_lt (tgt := 24) dX2_isStorm_1 (by decide) (fun c1 => ?_) (fun c1 => ?_)
  · replace E := xq_ep c1 E
    refine J_iconst (v := 0) dX2_isStorm_24 (by decide) ?_
    exact J_zret hq dX2_isStorm_25 rfl rfl wlen (Nat.le_refl _) (Nat.le_refl _) ⟨false, rfl, rfl, (fun q => absurd q (by decide)), (fun q => absurd q (by decide)), E⟩
  · replace E := xq_en c1 E
    refine J_iload_n (i := 0) (j := 0) dX2_isStorm_4 rfl rfl ?_
    refine J_iconst (v := 4) dX2_isStorm_5 (by decide) ?_
    refine J_icmp_ge (tgt := 24) dX2_isStorm_6 (by decide) (fun c2 => ?_) (fun c2 => ?_)
    · replace E := xq_ep c2 E
      refine J_iconst (v := 0) dX2_isStorm_24 (by decide) ?_
      exact J_zret hq dX2_isStorm_25 rfl rfl wlen (Nat.le_refl _) (Nat.le_refl _) ⟨false, rfl, rfl, (fun q => absurd q (by decide)), (fun q => absurd q (by decide)), E⟩
    · replace E := xq_en c2 E
      refine J_iload_n (i := 1) (j := 1) dX2_isStorm_9 rfl rfl ?_
      refine J_if_lt (tgt := 24) dX2_isStorm_10 (by decide) (fun c3 => ?_) (fun c3 => ?_)
      · replace E := xq_ep c3 E
        refine J_iconst (v := 0) dX2_isStorm_24 (by decide) ?_
        exact J_zret hq dX2_isStorm_25 rfl rfl wlen (Nat.le_refl _) (Nat.le_refl _) ⟨false, rfl, rfl, (fun q => absurd q (by decide)), (fun q => absurd q (by decide)), E⟩
      · replace E := xq_en c3 E
        refine J_iload_n (i := 1) (j := 1) dX2_isStorm_13 rfl rfl ?_
        refine J_sipush (v := 512) dX2_isStorm_14 (by decide) ?_
        refine J_icmp_ge (tgt := 24) dX2_isStorm_17 (by decide) (fun c4 => ?_) (fun c4 => ?_)
        · replace E := xq_ep c4 E
          refine J_iconst (v := 0) dX2_isStorm_24 (by decide) ?_
          exact J_zret hq dX2_isStorm_25 rfl rfl wlen (Nat.le_refl _) (Nat.le_refl _) ⟨false, rfl, rfl, (fun q => absurd q (by decide)), (fun q => absurd q (by decide)), E⟩
        · replace E := xq_en c4 E
          refine J_iconst (v := 1) dX2_isStorm_20 (by decide) ?_
          refine J_goto (tgt := 25) dX2_isStorm_21 (by decide) ?_
          exact J_zret hq dX2_isStorm_25 rfl rfl wlen (Nat.le_refl _) (Nat.le_refl _) ⟨true, rfl, rfl, (fun qb => (bd_lt_hi (bd_le_lo (bd_any rain) (i_nlt c1) (bd_c (v := 0) (lo := 0) (hi := 0) (by decide))) (i_nle c2) (bd_c (v := 4) (lo := 4) (hi := 4) (by decide)))), (fun qb => (bd_lt_hi (bd_le_lo (bd_any banks) (i_nlt c3) (bd_c (v := 0) (lo := 0) (hi := 0) (by decide))) (i_nle c4) (bd_c (v := 512) (lo := 512) (hi := 512) (by decide)))), E⟩
set_option maxRecDepth 100000 in
noncomputable def Fx_O_weighX_L64 (ih_lp462 : (Int32) → (Nat → Nat → Int64) → (Nat → Nat → Int64)) (w262 : Int32) (w473 : Int32) (v476 : Int32) (n_ : Nat) : (Int32) → (Nat → Nat → Int64) → (Nat → Nat → Int64) := Nat.rec (motive := fun _ => (Int32) → (Nat → Nat → Int64) → (Nat → Nat → Int64)) (fun _ _ => default) (fun n_ ih_ w615 g616 => if v476 ≤ w615 then (ih_lp462 (w262 + 1) g616) else (xq_lt (g616 68 w615.toNatClampNeg) fun l653 => xq_lt w473.toInt64 fun l654 => xq_lt (l653 * l654) fun l655 => xq_lt (ml g616 68 ((w615 ||| v476).toNatClampNeg) l655) fun g656 => xq_lt (g656 68 w615.toNatClampNeg) fun l658 => xq_lt (((10 : Int32) - w473).toInt64) fun l659 => xq_lt (l658 * l659) fun l660 => xq_lt (ml g656 68 w615.toNatClampNeg l660) fun g661 => ih_ (w615 + 1) g661)) n_
set_option maxRecDepth 100000 in
theorem Fx_O_weighX_L64_s {ih_lp462 : (Int32) → (Nat → Nat → Int64) → (Nat → Nat → Int64)} {w262 : Int32} {w473 : Int32} {v476 : Int32} {w615 : Int32} {g616 : Nat → Nat → Int64} {n_ : Nat} : Fx_O_weighX_L64 ih_lp462 w262 w473 v476 (n_ + 1) w615 g616 = if v476 ≤ w615 then (ih_lp462 (w262 + 1) g616) else (xq_lt (g616 68 w615.toNatClampNeg) fun l653 => xq_lt w473.toInt64 fun l654 => xq_lt (l653 * l654) fun l655 => xq_lt (ml g616 68 ((w615 ||| v476).toNatClampNeg) l655) fun g656 => xq_lt (g656 68 w615.toNatClampNeg) fun l658 => xq_lt (((10 : Int32) - w473).toInt64) fun l659 => xq_lt (l658 * l659) fun l660 => xq_lt (ml g656 68 w615.toNatClampNeg l660) fun g661 => (Fx_O_weighX_L64 ih_lp462 w262 w473 v476 n_) (w615 + 1) g661) := rfl
set_option maxRecDepth 100000 in
noncomputable def Fx_O_weighX_J53 (ih_lp462 : (Int32) → (Nat → Nat → Int64) → (Nat → Nat → Int64)) (u : Nat → Nat → Int32) (w262 : Int32) (g263 : Nat → Nat → Int64) (w473 : Int32) : (Nat → Nat → Int64) := xq_lt (Fx_bit9X w262 u g263) fun v476 => Fx_O_weighX_L64 ih_lp462 w262 w473 v476 ((256 - (0 : Int32).toInt).toNat + 1) (0 : Int32) g263
set_option maxRecDepth 100000 in
noncomputable def Fx_O_weighX_L9 (mended : Int32) (weaker : Int32) (u : Nat → Nat → Int32) (n_ : Nat) : (Int32) → (Nat → Nat → Int64) → (Nat → Nat → Int64) := Nat.rec (motive := fun _ => (Int32) → (Nat → Nat → Int64) → (Nat → Nat → Int64)) (fun _ _ => default) (fun n_ ih_ w262 g263 => if (u 61 0) ≤ w262 then (g263) else (if (9 : Int32) ≤ w262 then (default) else (xq_lt (Fx_isInX mended w262 u g263) fun t469 => if t469 = true then (Fx_O_weighX_J53 ih_ u w262 g263 (0 : Int32)) else (Fx_O_weighX_J53 ih_ u w262 g263 ((hof u 61 w262 (4 : Int32)) + ((weaker >>> (w262 &&& 31)) &&& 1)))))) n_
set_option maxRecDepth 100000 in
theorem Fx_O_weighX_L9_s {mended : Int32} {weaker : Int32} {u : Nat → Nat → Int32} {w262 : Int32} {g263 : Nat → Nat → Int64} {n_ : Nat} : Fx_O_weighX_L9 mended weaker u (n_ + 1) w262 g263 = if (u 61 0) ≤ w262 then (g263) else (if (9 : Int32) ≤ w262 then (default) else (xq_lt (Fx_isInX mended w262 u g263) fun t469 => if t469 = true then (Fx_O_weighX_J53 (Fx_O_weighX_L9 mended weaker u n_) u w262 g263 (0 : Int32)) else (Fx_O_weighX_J53 (Fx_O_weighX_L9 mended weaker u n_) u w262 g263 ((hof u 61 w262 (4 : Int32)) + ((weaker >>> (w262 &&& 31)) &&& 1))))) := rfl
set_option maxRecDepth 100000 in
noncomputable def Fx_O_weighX (mended : Int32) (weaker : Int32) (u : Nat → Nat → Int32) (g : Nat → Nat → Int64) : (Nat → Nat → Int64) := xq_lt (ml g 68 0 1) fun g1 => Fx_O_weighX_L9 mended weaker u ((9 - (0 : Int32).toInt).toNat + 1) (0 : Int32) g1
set_option maxHeartbeats 4000000 in
set_option maxRecDepth 100000 in
theorem c_O_weighX {d : Nat} {u : Nat → Nat → Int32} {g : Nat → Nat → Int64} {ex : List MC} {mended : Int32} {weaker : Int32} (hd : 1 ≤ d) (hp0 : Bd 0 9 (u 61 0)) (hp1 : Bd 0 4 (u 61 2)) : CT con0 d 0 0 yX2_weigh cX2_weigh 7 none [.ref 57, .int mended, .int weaker] (Wd u g ex) (fun r h2 => ∃ (g2 : Nat → Nat → Int64), r = none ∧ h2 = Wd u g2 ex ∧ g2 = Fx_O_weighX mended weaker u g) := by
  refine CT_of (by decide) (Nat.le_of_ble_eq_true rfl) (fun x hq => ?_)
  show J x yX2_weigh cX2_weigh 7 none d 0 0 (Wd u g ex).length 0 [(0, .ref 57), (1, .int mended), (2, .int weaker)] [] (Wd u g ex) 0 0
  have E : Fx_O_weighX mended weaker u g = Fx_O_weighX mended weaker u g := rfl
  refine J_aload_n (i := 0) (j := 0) dX2_weigh_0 rfl rfl ?_
  refine J_get (C := RX2) (T := TX2) (Z := 6) (ci := 2) (f := 4) dX2_weigh_1 inG2 rfl (by decide) k367 wc_57 rfl ?_
  refine J_iconst (v := 0) dX2_weigh_4 (by decide) ?_
  refine J_lconst (v := 1) dX2_weigh_5 (by decide) ?_
  obtain ⟨g1, e2⟩ : ∃ z, z = ml g 68 0 1 := ⟨_, rfl⟩
  refine J_last dX2_weigh_6 wc_68 (vin (bd_c (v := 0) (lo := 0) (hi := 0) (by decide)) (by decide)) (wsl e2 wk_68 rfl) ?_
  replace E := xq_le e2 E
  refine J_iconst (v := 0) dX2_weigh_7 (by decide) ?_
  refine J_istore_n (i := 3) (lw := [(3, .int 0), (0, .ref 57), (1, .int mended), (2, .int weaker)]) dX2_weigh_8 rfl (by decide) rfl ?_
  have lp462 : ∀ (n463 : Nat) (w262 : Int32) (g263 : Nat → Nat → Int64), Bd 0 9 w262 → (9 - w262.toInt).toNat < n463 → Fx_O_weighX_L9 mended weaker u n463 w262 g263 = Fx_O_weighX mended weaker u g → J x yX2_weigh cX2_weigh 7 none d 0 0 (Wd u g ex).length 9 [(0, .ref 57), (1, .int mended), (2, .int weaker), (3, .int w262)] [] (Wd u g263 ex) 0 0 := by
    intro n463
    induction n463 with
    | zero => intro w262 g263 bw262 hm465 _; exact absurd hm465 (Nat.not_lt_zero _)
    | succ n463 ih464 =>
      intro w262 g263 bw262 hm465 E
      replace E := Fx_O_weighX_L9_s.symm.trans E
      refine J_iload_n (i := 3) (j := 3) dX2_weigh_9 rfl rfl ?_
      refine J_aload_n (i := 0) (j := 0) dX2_weigh_10 rfl rfl ?_
      refine J_get (C := RX2) (T := TX2) (Z := 6) (ci := 2) (f := 1) dX2_weigh_11 inG2 rfl (by decide) k363 wc_57 rfl ?_
      refine J_getN (C := RX1) (T := TX1) (Z := 6) (ci := 1) (f := 0) dX2_weigh_14 inG1 rfl (by decide) k132 wc_61 rfl ?_
      refine J_icmp_ge (tgt := 120) dX2_weigh_17 (by decide) (fun c466 => ?_) (fun c466 => ?_)
      · replace E := xq_ep c466 E
        exact J_vret hq dX2_weigh_120 rfl wlen (Nat.le_refl _) (Nat.le_refl _) ⟨g263, rfl, rfl, E⟩
      · replace E := xq_en c466 E
        refine J_iload_n (i := 3) (j := 3) dX2_weigh_20 rfl rfl ?_
        refine J_bipush (v := 9) dX2_weigh_21 (by decide) ?_
        refine J_icmp_ge (tgt := 120) dX2_weigh_23 (by decide) (fun c467 => ?_) (fun c467 => ?_)
        · exact (bd_no (bd_le_lo (bd_lt_hi bw262 (i_nle c466) hp0) c467 (bd_c (v := 9) (lo := 9) (hi := 9) (by decide))) (by decide)).elim
        · replace E := xq_en c467 E
          refine J_iload_n (i := 1) (j := 1) dX2_weigh_26 rfl rfl ?_
          refine J_iload_n (i := 3) (j := 3) dX2_weigh_27 rfl rfl ?_
          refine J_callSN (As := [.int mended, .int w262]) (rest := []) dX2_weigh_28 (c_isInX (d := 0) (u := u) (g := g263) (ex := ex) (set := mended) (pond := w262)  (by decide) ) hq.n k874 k816 k87 k817 np_X10_isIn (Nat.le_trans (by decide) hd) (by decide) (Nat.le_refl _) (Nat.le_refl _) wlen rfl (Nat.le_of_ble_eq_true rfl) (fun r_ h_ p468 => ?_)
          obtain ⟨t469, rfl, rfl, hx470⟩ := p468
          replace E := xq_le hx470 E
          have jn474 : ∀ (w473 : Int32), Fx_O_weighX_J53 (Fx_O_weighX_L9 mended weaker u n463) u w262 g263 w473 = Fx_O_weighX mended weaker u g → J x yX2_weigh cX2_weigh 7 none d 0 0 (Wd u g ex).length 53 [(0, .ref 57), (1, .int mended), (2, .int weaker), (3, .int w262)] [.int w473] (Wd u g263 ex) 0 0 := by
            intro w473 E
            refine J_istore (i := 4) (lw := [(4, .int w473), (0, .ref 57), (1, .int mended), (2, .int weaker), (3, .int w262)]) dX2_weigh_53 (by decide) rfl ?_
            refine J_iload_n (i := 3) (j := 4) dX2_weigh_55 rfl rfl ?_
            refine J_callSN (As := [.int w262]) (rest := []) dX2_weigh_56 (c_bit9X (d := 0) (u := u) (g := g263) (ex := ex) (pond := w262)  (by decide) (bd_w (l := (-1)) (h := 8) (bd_lt_hi bw262 (i_nle c466) hp0) (by decide))) hq.n k876 k819 k87 k820 np_X10_bit (Nat.le_trans (by decide) hd) (by decide) (Nat.le_refl _) (Nat.le_refl _) wlen rfl (Nat.le_of_ble_eq_true rfl) (fun r_ h_ p475 => ?_)
            obtain ⟨v476, rfl, rfl, h477, hx478⟩ := p475
            replace E := xq_le hx478 E
            refine J_istore (i := 5) (lw := [(5, .int v476), (4, .int w473), (0, .ref 57), (1, .int mended), (2, .int weaker), (3, .int w262)]) dX2_weigh_59 (by decide) rfl ?_
            refine J_iconst (v := 0) dX2_weigh_61 (by decide) ?_
            refine J_istore (i := 6) (lw := [(6, .int 0), (5, .int v476), (4, .int w473), (0, .ref 57), (1, .int mended), (2, .int weaker), (3, .int w262)]) dX2_weigh_62 (by decide) rfl ?_
            have lp638 : ∀ (n639 : Nat) (w615 : Int32) (g616 : Nat → Nat → Int64), Bd 0 256 w615 → (256 - w615.toInt).toNat < n639 → Fx_O_weighX_L64 (Fx_O_weighX_L9 mended weaker u n463) w262 w473 v476 n639 w615 g616 = Fx_O_weighX mended weaker u g → J x yX2_weigh cX2_weigh 7 none d 0 0 (Wd u g ex).length 64 [(0, .ref 57), (1, .int mended), (2, .int weaker), (3, .int w262), (4, .int w473), (5, .int v476), (6, .int w615)] [] (Wd u g616 ex) 0 0 := by
              intro n639
              induction n639 with
              | zero => intro w615 g616 bw615 hm641 _; exact absurd hm641 (Nat.not_lt_zero _)
              | succ n639 ih640 =>
                intro w615 g616 bw615 hm641 E
                replace E := Fx_O_weighX_L64_s.symm.trans E
                refine J_iload (i := 6) (j := 6) dX2_weigh_64 rfl ?_
                refine J_iload (i := 5) (j := 5) dX2_weigh_66 rfl ?_
                refine J_icmp_ge (tgt := 114) dX2_weigh_68 (by decide) (fun c642 => ?_) (fun c642 => ?_)
                · replace E := xq_ep c642 E
                  refine J_iinc (i := 3) (j := 3) (v := (w262 + 1)) (lw := [(3, .int (w262 + 1)), (0, .ref 57), (1, .int mended), (2, .int weaker), (4, .int w473), (5, .int v476), (6, .int w615)]) dX2_weigh_114 rfl rfl (by decide) rfl ?_
                  refine J_goto (tgt := 9) dX2_weigh_117 (by decide) ?_
                  refine J_lv [1, 2, 3, 0] rfl ?_
                  exact ih464 (w262 + 1) g616 (bd_w (l := 0) (h := 9) (bd_add (l := 1) (h := 9) (bd_lt_hi bw262 (i_nle c466) hp0) (bd_c (v := 1) (lo := 1) (hi := 1) (by decide)) (by decide)) (by decide)) (mu_up 1 bw262 rfl (by decide) (bd_w (l := 1) (h := 9) (bd_add (l := 1) (h := 9) (bd_lt_hi bw262 (i_nle c466) hp0) (bd_c (v := 1) (lo := 1) (hi := 1) (by decide)) (by decide)) (by decide)) hm465) E
                · replace E := xq_en c642 E
                  refine J_aload_n (i := 0) (j := 0) dX2_weigh_71 rfl rfl ?_
                  refine J_get (C := RX2) (T := TX2) (Z := 6) (ci := 2) (f := 4) dX2_weigh_72 inG2 rfl (by decide) k367 wc_57 rfl ?_
                  refine J_iload (i := 6) (j := 6) dX2_weigh_75 rfl ?_
                  refine J_iload (i := 5) (j := 5) dX2_weigh_77 rfl ?_
                  refine J_ior dX2_weigh_79 ?_
                  refine J_aload_n (i := 0) (j := 0) dX2_weigh_80 rfl rfl ?_
                  refine J_get (C := RX2) (T := TX2) (Z := 6) (ci := 2) (f := 4) dX2_weigh_81 inG2 rfl (by decide) k367 wc_57 rfl ?_
                  refine J_iload (i := 6) (j := 6) dX2_weigh_84 rfl ?_
                  refine J_lald dX2_weigh_86 wc_68 (vin (bd_lt_hi bw615 (i_nle c642) h477) (by decide)) ?_
                  refine J_topl (fun l653 ql653 => ?_)
                  replace E := xq_le ql653 E
                  refine J_iload (i := 4) (j := 4) dX2_weigh_87 rfl ?_
                  refine J_i2l dX2_weigh_89 rfl ?_
                  refine J_topl (fun l654 ql654 => ?_)
                  replace E := xq_le ql654 E
                  refine J_lmul dX2_weigh_90 ?_
                  refine J_topl (fun l655 ql655 => ?_)
                  replace E := xq_le ql655 E
                  obtain ⟨g656, e657⟩ : ∃ z, z = ml g616 68 ((w615 ||| v476).toNatClampNeg) l655 := ⟨_, rfl⟩
                  refine J_last dX2_weigh_91 wc_68 (vin (bd_or (k := 9) (h := 511) (bd_lt_hi bw615 (i_nle c642) h477) (bd_lt_lo h477 (i_nle c642) bw615) (by decide)) (by decide)) (wsl e657 wk_68 rfl) ?_
                  replace E := xq_le e657 E
                  refine J_aload_n (i := 0) (j := 0) dX2_weigh_92 rfl rfl ?_
                  refine J_get (C := RX2) (T := TX2) (Z := 6) (ci := 2) (f := 4) dX2_weigh_93 inG2 rfl (by decide) k367 wc_57 rfl ?_
                  refine J_iload (i := 6) (j := 6) dX2_weigh_96 rfl ?_
                  refine J_dup2_11 dX2_weigh_98 rfl rfl ?_
                  refine J_lald dX2_weigh_99 wc_68 (vin (bd_lt_hi bw615 (i_nle c642) h477) (by decide)) ?_
                  refine J_topl (fun l658 ql658 => ?_)
                  replace E := xq_le ql658 E
                  refine J_bipush (v := 10) dX2_weigh_100 (by decide) ?_
                  refine J_iload (i := 4) (j := 4) dX2_weigh_102 rfl ?_
                  refine J_isub dX2_weigh_104 ?_
                  refine J_i2l dX2_weigh_105 rfl ?_
                  refine J_topl (fun l659 ql659 => ?_)
                  replace E := xq_le ql659 E
                  refine J_lmul dX2_weigh_106 ?_
                  refine J_topl (fun l660 ql660 => ?_)
                  replace E := xq_le ql660 E
                  obtain ⟨g661, e662⟩ : ∃ z, z = ml g656 68 w615.toNatClampNeg l660 := ⟨_, rfl⟩
                  refine J_last dX2_weigh_107 wc_68 (vin (bd_lt_hi bw615 (i_nle c642) h477) (by decide)) (wsl e662 wk_68 rfl) ?_
                  replace E := xq_le e662 E
                  refine J_iinc (i := 6) (j := 6) (v := (w615 + 1)) (lw := [(6, .int (w615 + 1)), (0, .ref 57), (1, .int mended), (2, .int weaker), (3, .int w262), (4, .int w473), (5, .int v476)]) dX2_weigh_108 rfl rfl (by decide) rfl ?_
                  refine J_goto (tgt := 64) dX2_weigh_111 (by decide) ?_
                  refine J_lv [1, 2, 3, 4, 5, 6, 0] rfl ?_
                  exact ih640 (w615 + 1) g661 (bd_w (l := 0) (h := 256) (bd_add (l := 1) (h := 256) (bd_lt_hi bw615 (i_nle c642) h477) (bd_c (v := 1) (lo := 1) (hi := 1) (by decide)) (by decide)) (by decide)) (mu_up 1 bw615 rfl (by decide) (bd_w (l := 1) (h := 256) (bd_add (l := 1) (h := 256) (bd_lt_hi bw615 (i_nle c642) h477) (bd_c (v := 1) (lo := 1) (hi := 1) (by decide)) (by decide)) (by decide)) hm641) E
            refine J_lv [3, 4, 5, 6, 2, 1, 0] rfl ?_
            exact lp638 ((256 - (0 : Int32).toInt).toNat + 1) (0 : Int32) g263 (bd_w (l := 0) (h := 256) (bd_c (v := 0) (lo := 0) (hi := 0) (by decide)) (by decide)) (Nat.lt_succ_self _) E
          refine J_ifB_eq (tgt := 38) dX2_weigh_31 (by decide) (fun c471 => ?_) (fun c471 => ?_)
          · replace E := xq_ef c471 E
            refine J_aload_n (i := 0) (j := 0) dX2_weigh_38 rfl rfl ?_
            refine J_get (C := RX2) (T := TX2) (Z := 6) (ci := 2) (f := 1) dX2_weigh_39 inG2 rfl (by decide) k363 wc_57 rfl ?_
            refine J_iload_n (i := 3) (j := 3) dX2_weigh_42 rfl rfl ?_
            refine J_iconst (v := 4) dX2_weigh_43 (by decide) ?_
            refine J_callV (As := [.int w262, .int 4]) (rest := []) dX2_weigh_44 (c_H_of (d := 0) (u := u) (g := g263) (ex := ex) (pond := w262) (column := 4) (t := 61) (by decide) (by decide)) hq.n k875 k749 k750 wc_61 rfl rfl k89 k751 np_X1_of (Nat.le_trans (by decide) hd) (by decide) (Nat.le_refl _) (Nat.le_refl _) wlen rfl (Nat.le_of_ble_eq_true rfl) (fun r_ h_ p663 => ?_)
            obtain ⟨rfl, rfl⟩ := p663
            refine J_iload_n (i := 2) (j := 2) dX2_weigh_47 rfl rfl ?_
            refine J_iload_n (i := 3) (j := 3) dX2_weigh_48 rfl rfl ?_
            refine J_ishr dX2_weigh_49 ?_
            refine J_iconst (v := 1) dX2_weigh_50 (by decide) ?_
            refine J_iand dX2_weigh_51 ?_
            refine J_iadd dX2_weigh_52 ?_
            refine J_lv [0, 1, 2, 3] rfl ?_
            exact jn474 ((hof u 61 w262 (4 : Int32)) + ((weaker >>> (w262 &&& 31)) &&& 1))  E
          · replace E := xq_ep c471 E
            refine J_iconst (v := 0) dX2_weigh_34 (by decide) ?_
            refine J_goto (tgt := 53) dX2_weigh_35 (by decide) ?_
            refine J_lv [0, 1, 2, 3] rfl ?_
            exact jn474 (0 : Int32)  E
  refine J_lv [1, 2, 3, 0] rfl ?_
  exact lp462 ((9 - (0 : Int32).toInt).toNat + 1) (0 : Int32) g1 (bd_w (l := 0) (h := 9) (bd_c (v := 0) (lo := 0) (hi := 0) (by decide)) (by decide)) (Nat.lt_succ_self _) E
set_option maxRecDepth 100000 in
noncomputable def Fx_O_look_44X_J150 (ih_lp75680 : (Int32) → (Nat → Nat → Int32) → (Nat → Nat → Int32) × (Nat → Nat → Int64)) (w75578 : Int32) (u75764 : Nat → Nat → Int32) : (Nat → Nat → Int32) × (Nat → Nat → Int64) := ih_lp75680 (w75578 + 1) u75764
set_option maxRecDepth 100000 in
noncomputable def Fx_O_look_44X_L77 (ih_lp73467 : (Int32) → (Nat → Nat → Int32) → (Nat → Nat → Int32) × (Nat → Nat → Int64)) (keeper : Int32) (mayGo : Int32) (g : Nat → Nat → Int64) (w71152 : Int32) (n_ : Nat) : (Int32) → (Nat → Nat → Int32) → (Nat → Nat → Int32) × (Nat → Nat → Int64) := Nat.rec (motive := fun _ => (Int32) → (Nat → Nat → Int32) → (Nat → Nat → Int32) × (Nat → Nat → Int64)) (fun _ _ => default) (fun n_ ih_ w75578 u75579 => xq_lt (Fx_H_allX 61 u75579 g) fun v75685 => if v75685 < w75578 then (ih_lp73467 (w71152 + 1) u75579) else (if (512 : Int32) ≤ w75578 then (default) else (if (w75578 &&& (mayGo ^^^ (-1))) = (0 : Int32) then (xq_lt (Fx_H_stepsOfX w71152 61 u75579 g) fun v75770 => xq_lt (Fx_S58_runX v75770 w75578 keeper 61 u75579 g) fun u75773 => xq_lt (ms u75773 66 (((w71152 * 512) + w75578).toNatClampNeg) (u75773 58 1)) fun u75779 => Fx_O_look_44X_J150 ih_ w75578 u75779) else (Fx_O_look_44X_J150 ih_ w75578 u75579)))) n_
set_option maxRecDepth 100000 in
theorem Fx_O_look_44X_L77_s {ih_lp73467 : (Int32) → (Nat → Nat → Int32) → (Nat → Nat → Int32) × (Nat → Nat → Int64)} {keeper : Int32} {mayGo : Int32} {g : Nat → Nat → Int64} {w71152 : Int32} {w75578 : Int32} {u75579 : Nat → Nat → Int32} {n_ : Nat} : Fx_O_look_44X_L77 ih_lp73467 keeper mayGo g w71152 (n_ + 1) w75578 u75579 = xq_lt (Fx_H_allX 61 u75579 g) fun v75685 => if v75685 < w75578 then (ih_lp73467 (w71152 + 1) u75579) else (if (512 : Int32) ≤ w75578 then (default) else (if (w75578 &&& (mayGo ^^^ (-1))) = (0 : Int32) then (xq_lt (Fx_H_stepsOfX w71152 61 u75579 g) fun v75770 => xq_lt (Fx_S58_runX v75770 w75578 keeper 61 u75579 g) fun u75773 => xq_lt (ms u75773 66 (((w71152 * 512) + w75578).toNatClampNeg) (u75773 58 1)) fun u75779 => Fx_O_look_44X_J150 (Fx_O_look_44X_L77 ih_lp73467 keeper mayGo g w71152 n_) w75578 u75779) else (Fx_O_look_44X_J150 (Fx_O_look_44X_L77 ih_lp73467 keeper mayGo g w71152 n_) w75578 u75579))) := rfl
set_option maxRecDepth 100000 in
noncomputable def Fx_O_look_44X_L56 (keeper : Int32) (mayGo : Int32) (g : Nat → Nat → Int64) (u2 : Nat → Nat → Int32) (n_ : Nat) : (Int32) → (Nat → Nat → Int32) → (Nat → Nat → Int32) × (Nat → Nat → Int64) := Nat.rec (motive := fun _ => (Int32) → (Nat → Nat → Int32) → (Nat → Nat → Int32) × (Nat → Nat → Int64)) (fun _ _ => default) (fun n_ ih_ w71152 u71153 => if (u2 61 2) ≤ w71152 then (xq_lt (Fx_O_weighX (0 : Int32) (0 : Int32) u71153 g) fun g74242 => (u71153, g74242)) else (if (4 : Int32) ≤ w71152 then (default) else (Fx_O_look_44X_L77 ih_ keeper mayGo g w71152 ((512 - (0 : Int32).toInt).toNat + 1) (0 : Int32) u71153))) n_
set_option maxRecDepth 100000 in
theorem Fx_O_look_44X_L56_s {keeper : Int32} {mayGo : Int32} {g : Nat → Nat → Int64} {u2 : Nat → Nat → Int32} {w71152 : Int32} {u71153 : Nat → Nat → Int32} {n_ : Nat} : Fx_O_look_44X_L56 keeper mayGo g u2 (n_ + 1) w71152 u71153 = if (u2 61 2) ≤ w71152 then (xq_lt (Fx_O_weighX (0 : Int32) (0 : Int32) u71153 g) fun g74242 => (u71153, g74242)) else (if (4 : Int32) ≤ w71152 then (default) else (Fx_O_look_44X_L77 (Fx_O_look_44X_L56 keeper mayGo g u2 n_) keeper mayGo g w71152 ((512 - (0 : Int32).toInt).toNat + 1) (0 : Int32) u71153)) := rfl
set_option maxRecDepth 100000 in
noncomputable def Fx_O_look_44X_L11 (keeper : Int32) (mayGo : Int32) (g : Nat → Nat → Int64) (u2 : Nat → Nat → Int32) (n_ : Nat) : (Int32) → (Nat → Nat → Int32) → (Nat → Nat → Int32) × (Nat → Nat → Int64) := Nat.rec (motive := fun _ => (Int32) → (Nat → Nat → Int32) → (Nat → Nat → Int32) × (Nat → Nat → Int64)) (fun _ _ => default) (fun n_ ih_ w54143 u54144 => xq_lt (Fx_H_allX 61 u54144 g) fun v64972 => if v64972 < w54143 then (Fx_O_look_44X_L56 keeper mayGo g u2 ((4 - (0 : Int32).toInt).toNat + 1) (0 : Int32) u54144) else (if (512 : Int32) ≤ w54143 then (default) else (xq_lt (Fx_H_harmOfX w54143 61 u54144 g) fun v75788 => xq_lt (ms u54144 67 w54143.toNatClampNeg v75788) fun u75790 => ih_ (w54143 + 1) u75790))) n_
set_option maxRecDepth 100000 in
theorem Fx_O_look_44X_L11_s {keeper : Int32} {mayGo : Int32} {g : Nat → Nat → Int64} {u2 : Nat → Nat → Int32} {w54143 : Int32} {u54144 : Nat → Nat → Int32} {n_ : Nat} : Fx_O_look_44X_L11 keeper mayGo g u2 (n_ + 1) w54143 u54144 = xq_lt (Fx_H_allX 61 u54144 g) fun v64972 => if v64972 < w54143 then (Fx_O_look_44X_L56 keeper mayGo g u2 ((4 - (0 : Int32).toInt).toNat + 1) (0 : Int32) u54144) else (if (512 : Int32) ≤ w54143 then (default) else (xq_lt (Fx_H_harmOfX w54143 61 u54144 g) fun v75788 => xq_lt (ms u54144 67 w54143.toNatClampNeg v75788) fun u75790 => (Fx_O_look_44X_L11 keeper mayGo g u2 n_) (w54143 + 1) u75790)) := rfl
set_option maxRecDepth 100000 in
noncomputable def Fx_O_look_44X (keeper : Int32) (mayGo : Int32) (u : Nat → Nat → Int32) (g : Nat → Nat → Int64) : (Nat → Nat → Int32) × (Nat → Nat → Int64) := xq_lt (Fx_H_copyX 61 44 u g) fun u2 => Fx_O_look_44X_L11 keeper mayGo g u2 ((512 - (0 : Int32).toInt).toNat + 1) (0 : Int32) u2
set_option maxHeartbeats 4000000 in
set_option maxRecDepth 100000 in
theorem c_O_look_44X {d : Nat} {u : Nat → Nat → Int32} {g : Nat → Nat → Int64} {ex : List MC} {keeper : Int32} {mayGo : Int32} (hd : 3 ≤ d) (hp0 : Bd 0 9 (u 44 0)) (hp1 : Bd 0 4 (u 44 2)) (hp2 : AB u 66 0 511) : CT con0 d 0 0 yX2_look cX2_look 6 none [.ref 57, .ref 44, .int keeper, .int mayGo] (Wd u g ex) (fun r h2 => ∃ (u2 : Nat → Nat → Int32) (g2 : Nat → Nat → Int64), r = none ∧ h2 = Wd u2 g2 ex ∧ Bd 0 9 (u2 61 0) ∧ Bd 0 4 (u2 61 2) ∧ AB u2 66 0 511 ∧ (u2, g2) = Fx_O_look_44X keeper mayGo u g ∧ (∀ c, nin c [(58, 67)] = true → u2 c = u c) ∧ (∀ j, j ≠ 0 → j ≠ 1 → j ≠ 2 → j ≠ 3 → j ≠ 4 → u2 58 j = u 58 j) ∧ (∀ j, j ≠ 0 → j ≠ 2 → u2 61 j = u 61 j)) := by
  refine CT_of (by decide) (Nat.le_of_ble_eq_true rfl) (fun x hq => ?_)
  show J x yX2_look cX2_look 6 none d 0 0 (Wd u g ex).length 0 [(0, .ref 57), (1, .ref 44), (2, .int keeper), (3, .int mayGo)] [] (Wd u g ex) 0 0
  have E : Fx_O_look_44X keeper mayGo u g = Fx_O_look_44X keeper mayGo u g := rfl
  refine J_aload_n (i := 0) (j := 0) dX2_look_0 rfl rfl ?_
  refine J_get (C := RX2) (T := TX2) (Z := 6) (ci := 2) (f := 1) dX2_look_1 inG2 rfl (by decide) k363 wc_57 rfl ?_
  refine J_aload_n (i := 1) (j := 1) dX2_look_4 rfl rfl ?_
  refine J_callV (As := [.ref 44]) (rest := []) dX2_look_5 (c_H_copyX (d := 1) (u := u) (g := g) (ex := ex)  (t := 61) (f := 44) (by decide) (by decide) (by decide) (Nat.ne_of_beq_eq_false rfl) hp0 hp1) hq.n k865 k681 k682 wc_61 rfl rfl k89 k683 np_X1_copy (Nat.le_trans (by decide) hd) (by decide) (Nat.le_refl _) (Nat.le_refl _) wlen rfl (Nat.le_of_ble_eq_true rfl) (fun r_ h_ p1 => ?_)
  obtain ⟨u2, rfl, rfl, h3, h4, hx5, fr6, fc7⟩ := p1
  replace E := xq_le hx5 E
  refine J_iconst (v := 0) dX2_look_8 (by decide) ?_
  refine J_istore (i := 4) (lw := [(4, .int 0), (0, .ref 57), (1, .ref 44), (2, .int keeper), (3, .int mayGo)]) dX2_look_9 (by decide) rfl ?_
  have lp64967 : ∀ (n64968 : Nat) (w54143 : Int32) (u54144 : Nat → Nat → Int32), Bd 0 512 w54143 → (∀ c, c ≠ 67 → u54144 c = u2 c) → (512 - w54143.toInt).toNat < n64968 → Fx_O_look_44X_L11 keeper mayGo g u2 n64968 w54143 u54144 = Fx_O_look_44X keeper mayGo u g → J x yX2_look cX2_look 6 none d 0 0 (Wd u g ex).length 11 [(0, .ref 57), (2, .int keeper), (3, .int mayGo), (4, .int w54143)] [] (Wd u54144 g ex) 0 0 := by
    intro n64968
    induction n64968 with
    | zero => intro w54143 u54144 bw54143 fr54145 hm64970 _; exact absurd hm64970 (Nat.not_lt_zero _)
    | succ n64968 ih64969 =>
      intro w54143 u54144 bw54143 fr54145 hm64970 E
      replace E := Fx_O_look_44X_L11_s.symm.trans E
      refine J_iload (i := 4) (j := 3) dX2_look_11 rfl ?_
      refine J_aload_n (i := 0) (j := 0) dX2_look_13 rfl rfl ?_
      refine J_get (C := RX2) (T := TX2) (Z := 6) (ci := 2) (f := 1) dX2_look_14 inG2 rfl (by decide) k363 wc_57 rfl ?_
      refine J_callV (As := []) (rest := [.int w54143]) dX2_look_17 (c_H_allX (d := 0) (u := u54144) (g := g) (ex := ex)  (t := 61) (by decide) (by decide) (bd_r (congrFun (fr54145 61 (Nat.ne_of_beq_eq_false rfl)) 0) h3) (bd_r (congrFun (fr54145 61 (Nat.ne_of_beq_eq_false rfl)) 2) h4)) hq.n k866 k801 k802 wc_61 rfl rfl k89 k803 np_X1_all (Nat.le_trans (by decide) hd) (by decide) (Nat.le_refl _) (Nat.le_refl _) wlen rfl (Nat.le_of_ble_eq_true rfl) (fun r_ h_ p64971 => ?_)
      obtain ⟨v64972, rfl, rfl, h64973, hx64974⟩ := p64971
      replace E := xq_le hx64974 E
      refine J_icmp_gt (tgt := 53) dX2_look_20 (by decide) (fun c64975 => ?_) (fun c64975 => ?_)
      · replace E := xq_ep c64975 E
        refine J_iconst (v := 0) dX2_look_53 (by decide) ?_
        refine J_istore (i := 4) (lw := [(4, .int 0), (0, .ref 57), (2, .int keeper), (3, .int mayGo)]) dX2_look_54 (by decide) rfl ?_
        have lp73467 : ∀ (n73468 : Nat) (w71152 : Int32) (u71153 : Nat → Nat → Int32), Bd 0 4 w71152 → (∀ c, nin c [(58, 60), (66, 66)] = true → u71153 c = u54144 c) → (∀ j, j ≠ 0 → j ≠ 1 → j ≠ 2 → j ≠ 3 → j ≠ 4 → u71153 58 j = u54144 58 j) → AB u71153 66 0 511 → (4 - w71152.toInt).toNat < n73468 → Fx_O_look_44X_L56 keeper mayGo g u2 n73468 w71152 u71153 = Fx_O_look_44X keeper mayGo u g → J x yX2_look cX2_look 6 none d 0 0 (Wd u g ex).length 56 [(0, .ref 57), (2, .int keeper), (3, .int mayGo), (4, .int w71152)] [] (Wd u71153 g ex) 0 0 := by
          intro n73468
          induction n73468 with
          | zero => intro w71152 u71153 bw71152 fr71154 fc71155 ab71156 hm73470 _; exact absurd hm73470 (Nat.not_lt_zero _)
          | succ n73468 ih73469 =>
            intro w71152 u71153 bw71152 fr71154 fc71155 ab71156 hm73470 E
            replace E := Fx_O_look_44X_L56_s.symm.trans E
            refine J_iload (i := 4) (j := 3) dX2_look_56 rfl ?_
            refine J_aload_n (i := 0) (j := 0) dX2_look_58 rfl rfl ?_
            refine J_get (C := RX2) (T := TX2) (Z := 6) (ci := 2) (f := 1) dX2_look_59 inG2 rfl (by decide) k363 wc_57 rfl ?_
            refine J_getN (C := RX1) (T := TX1) (Z := 6) (ci := 1) (f := 2) dX2_look_62 inG1 rfl (by decide) k139 wc_61 rfl ?_
            refine J_ci (v := u2 61 2) ((congrFun (fr71154 61 rfl) 2).trans (congrFun (fr54145 61 (Nat.ne_of_beq_eq_false rfl)) 2)) ?_
            refine J_icmp_ge (tgt := 162) dX2_look_65 (by decide) (fun c73471 => ?_) (fun c73471 => ?_)
            · replace E := xq_ep c73471 E
              refine J_aload_n (i := 0) (j := 0) dX2_look_162 rfl rfl ?_
              refine J_iconst (v := 0) dX2_look_163 (by decide) ?_
              refine J_iconst (v := 0) dX2_look_164 (by decide) ?_
              refine J_callV (As := [.int 0, .int 0]) (rest := []) dX2_look_165 (c_O_weighX (d := 1) (u := u71153) (g := g) (ex := ex) (mended := 0) (weaker := 0)  (by decide) (bd_r ((congrFun (fr71154 61 rfl) 0).trans (congrFun (fr54145 61 (Nat.ne_of_beq_eq_false rfl)) 0)) h3) (bd_r ((congrFun (fr71154 61 rfl) 2).trans (congrFun (fr54145 61 (Nat.ne_of_beq_eq_false rfl)) 2)) h4)) hq.n k870 k871 k872 wc_57 rfl rfl k96 k873 np_X2_weigh (Nat.le_trans (by decide) hd) (by decide) (Nat.le_refl _) (Nat.le_refl _) wlen rfl (Nat.le_of_ble_eq_true rfl) (fun r_ h_ p74241 => ?_)
              obtain ⟨g74242, rfl, rfl, hx74243⟩ := p74241
              replace E := xq_le hx74243 E
              exact J_vret hq dX2_look_168 rfl wlen (Nat.le_refl _) (Nat.le_refl _) ⟨u71153, g74242, rfl, rfl, (bd_r ((congrFun (fr71154 61 rfl) 0).trans (congrFun (fr54145 61 (Nat.ne_of_beq_eq_false rfl)) 0)) h3), (bd_r ((congrFun (fr71154 61 rfl) 2).trans (congrFun (fr54145 61 (Nat.ne_of_beq_eq_false rfl)) 2)) h4), ab71156, E, (fun c k_ => ((fr71154 c (nin_sub (M := [(58, 60), (66, 66)]) k_ rfl)).trans ((fr54145 c (nin_ne (a := 67) k_ rfl)).trans (fr6 c (nin_ne (a := 61) k_ rfl) (nin_ne (a := 62) k_ rfl) (nin_ne (a := 63) k_ rfl) (nin_ne (a := 64) k_ rfl) (nin_ne (a := 65) k_ rfl))))), (fun j k0_ k1_ k2_ k3_ k4_ => ((fc71155 j k0_ k1_ k2_ k3_ k4_).trans ((congrFun (fr54145 58 (Nat.ne_of_beq_eq_false rfl)) j).trans (congrFun (fr6 58 (Nat.ne_of_beq_eq_false rfl) (Nat.ne_of_beq_eq_false rfl) (Nat.ne_of_beq_eq_false rfl) (Nat.ne_of_beq_eq_false rfl) (Nat.ne_of_beq_eq_false rfl)) j)))), (fun j k0_ k2_ => ((congrFun (fr71154 61 rfl) j).trans ((congrFun (fr54145 61 (Nat.ne_of_beq_eq_false rfl)) j).trans (fc7 j k0_ k2_))))⟩
            · replace E := xq_en c73471 E
              refine J_iload (i := 4) (j := 3) dX2_look_68 rfl ?_
              refine J_iconst (v := 4) dX2_look_70 (by decide) ?_
              refine J_icmp_ge (tgt := 162) dX2_look_71 (by decide) (fun c74244 => ?_) (fun c74244 => ?_)
              · exact (bd_no (bd_le_lo (bd_lt_hi bw71152 (i_nle c73471) h4) c74244 (bd_c (v := 4) (lo := 4) (hi := 4) (by decide))) (by decide)).elim
              · replace E := xq_en c74244 E
                refine J_iconst (v := 0) dX2_look_74 (by decide) ?_
                refine J_istore (i := 5) (lw := [(5, .int 0), (0, .ref 57), (2, .int keeper), (3, .int mayGo), (4, .int w71152)]) dX2_look_75 (by decide) rfl ?_
                have lp75680 : ∀ (n75681 : Nat) (w75578 : Int32) (u75579 : Nat → Nat → Int32), Bd 0 512 w75578 → (∀ c, nin c [(58, 60), (66, 66)] = true → u75579 c = u71153 c) → (∀ j, j ≠ 0 → j ≠ 1 → j ≠ 2 → j ≠ 3 → j ≠ 4 → u75579 58 j = u71153 58 j) → AB u75579 66 0 511 → (512 - w75578.toInt).toNat < n75681 → Fx_O_look_44X_L77 (Fx_O_look_44X_L56 keeper mayGo g u2 n73468) keeper mayGo g w71152 n75681 w75578 u75579 = Fx_O_look_44X keeper mayGo u g → J x yX2_look cX2_look 6 none d 0 0 (Wd u g ex).length 77 [(0, .ref 57), (2, .int keeper), (3, .int mayGo), (4, .int w71152), (5, .int w75578)] [] (Wd u75579 g ex) 0 0 := by
                  intro n75681
                  induction n75681 with
                  | zero => intro w75578 u75579 bw75578 fr75580 fc75581 ab75582 hm75683 _; exact absurd hm75683 (Nat.not_lt_zero _)
                  | succ n75681 ih75682 =>
                    intro w75578 u75579 bw75578 fr75580 fc75581 ab75582 hm75683 E
                    replace E := Fx_O_look_44X_L77_s.symm.trans E
                    refine J_iload (i := 5) (j := 4) dX2_look_77 rfl ?_
                    refine J_aload_n (i := 0) (j := 0) dX2_look_79 rfl rfl ?_
                    refine J_get (C := RX2) (T := TX2) (Z := 6) (ci := 2) (f := 1) dX2_look_80 inG2 rfl (by decide) k363 wc_57 rfl ?_
                    refine J_callV (As := []) (rest := [.int w75578]) dX2_look_83 (c_H_allX (d := 0) (u := u75579) (g := g) (ex := ex)  (t := 61) (by decide) (by decide) (bd_r ((congrFun (fr75580 61 rfl) 0).trans ((congrFun (fr71154 61 rfl) 0).trans (congrFun (fr54145 61 (Nat.ne_of_beq_eq_false rfl)) 0))) h3) (bd_r ((congrFun (fr75580 61 rfl) 2).trans ((congrFun (fr71154 61 rfl) 2).trans (congrFun (fr54145 61 (Nat.ne_of_beq_eq_false rfl)) 2))) (bd_w (l := 0) (h := 4) (bd_lt_lo h4 (i_nle c73471) (bd_lt_hi bw71152 (i_nle c74244) (bd_c (v := 4) (lo := 4) (hi := 4) (by decide)))) (by decide)))) hq.n k866 k801 k802 wc_61 rfl rfl k89 k803 np_X1_all (Nat.le_trans (by decide) hd) (by decide) (Nat.le_refl _) (Nat.le_refl _) wlen rfl (Nat.le_of_ble_eq_true rfl) (fun r_ h_ p75684 => ?_)
                    obtain ⟨v75685, rfl, rfl, h75686, hx75687⟩ := p75684
                    replace E := xq_le hx75687 E
                    refine J_icmp_gt (tgt := 156) dX2_look_86 (by decide) (fun c75688 => ?_) (fun c75688 => ?_)
                    · replace E := xq_ep c75688 E
                      refine J_iinc (i := 4) (j := 3) (v := (w71152 + 1)) (lw := [(4, .int (w71152 + 1)), (0, .ref 57), (2, .int keeper), (3, .int mayGo), (5, .int w75578)]) dX2_look_156 rfl rfl (by decide) rfl ?_
                      refine J_goto (tgt := 56) dX2_look_159 (by decide) ?_
                      refine J_lv [1, 2, 3, 0] rfl ?_
                      exact ih73469 (w71152 + 1) u75579 (bd_w (l := 0) (h := 4) (bd_add (l := 1) (h := 4) (bd_lt_hi bw71152 (i_nle c73471) h4) (bd_c (v := 1) (lo := 1) (hi := 1) (by decide)) (by decide)) (by decide)) (fun c k_ => ((fr75580 c (nin_sub (M := [(58, 60), (66, 66)]) k_ rfl)).trans (fr71154 c (nin_sub (M := [(58, 60), (66, 66)]) k_ rfl)))) (fun j k0_ k1_ k2_ k3_ k4_ => ((fc75581 j k0_ k1_ k2_ k3_ k4_).trans (fc71155 j k0_ k1_ k2_ k3_ k4_))) ab75582 (mu_up 1 bw71152 rfl (by decide) (bd_w (l := 1) (h := 4) (bd_add (l := 1) (h := 4) (bd_lt_hi bw71152 (i_nle c73471) h4) (bd_c (v := 1) (lo := 1) (hi := 1) (by decide)) (by decide)) (by decide)) hm73470) E
                    · replace E := xq_en c75688 E
                      refine J_iload (i := 5) (j := 4) dX2_look_89 rfl ?_
                      refine J_sipush (v := 512) dX2_look_91 (by decide) ?_
                      refine J_icmp_ge (tgt := 156) dX2_look_94 (by decide) (fun c75720 => ?_) (fun c75720 => ?_)
                      · exact (bd_no (bd_le_lo (bd_le_hi bw75578 (i_nlt c75688) h75686) c75720 (bd_c (v := 512) (lo := 512) (hi := 512) (by decide))) (by decide)).elim
                      · replace E := xq_en c75720 E
                        refine J_iload (i := 5) (j := 4) dX2_look_97 rfl ?_
                        refine J_iload_n (i := 3) (j := 2) dX2_look_99 rfl rfl ?_
                        refine J_iconst (v := (-1)) dX2_look_100 (by decide) ?_
                        refine J_ixor dX2_look_101 ?_
                        refine J_iand dX2_look_102 ?_
                        have jn75768 : ∀ (u75764 : Nat → Nat → Int32), (∀ c, nin c [(58, 60), (66, 66)] = true → u75764 c = u75579 c) → (∀ j, j ≠ 0 → j ≠ 1 → j ≠ 2 → j ≠ 3 → j ≠ 4 → u75764 58 j = u75579 58 j) → AB u75764 66 0 511 → Fx_O_look_44X_J150 (Fx_O_look_44X_L77 (Fx_O_look_44X_L56 keeper mayGo g u2 n73468) keeper mayGo g w71152 n75681) w75578 u75764 = Fx_O_look_44X keeper mayGo u g → J x yX2_look cX2_look 6 none d 0 0 (Wd u g ex).length 150 [(0, .ref 57), (2, .int keeper), (3, .int mayGo), (4, .int w71152), (5, .int w75578)] [] (Wd u75764 g ex) 0 0 := by
                          intro u75764 fr75765 fc75766 ab75767 E
                          refine J_iinc (i := 5) (j := 4) (v := (w75578 + 1)) (lw := [(5, .int (w75578 + 1)), (0, .ref 57), (2, .int keeper), (3, .int mayGo), (4, .int w71152)]) dX2_look_150 rfl rfl (by decide) rfl ?_
                          refine J_goto (tgt := 77) dX2_look_153 (by decide) ?_
                          refine J_lv [1, 2, 3, 4, 0] rfl ?_
                          exact ih75682 (w75578 + 1) u75764 (bd_w (l := 0) (h := 512) (bd_add (l := 1) (h := 512) (bd_le_hi bw75578 (i_nlt c75688) h75686) (bd_c (v := 1) (lo := 1) (hi := 1) (by decide)) (by decide)) (by decide)) (fun c k_ => ((fr75765 c (nin_sub (M := [(58, 60), (66, 66)]) k_ rfl)).trans (fr75580 c (nin_sub (M := [(58, 60), (66, 66)]) k_ rfl)))) (fun j k0_ k1_ k2_ k3_ k4_ => ((fc75766 j k0_ k1_ k2_ k3_ k4_).trans (fc75581 j k0_ k1_ k2_ k3_ k4_))) ab75767 (mu_up 1 bw75578 rfl (by decide) (bd_w (l := 1) (h := 512) (bd_add (l := 1) (h := 512) (bd_le_hi bw75578 (i_nlt c75688) h75686) (bd_c (v := 1) (lo := 1) (hi := 1) (by decide)) (by decide)) (by decide)) hm75683) E
                        refine J_if_ne (tgt := 150) dX2_look_103 (by decide) (fun c75751 => ?_) (fun c75751 => ?_)
                        · replace E := xq_en c75751 E
                          refine J_lv [0, 1, 2, 3, 4] rfl ?_
                          exact jn75768 u75579 (fun c k_ => rfl) (fun j k0_ k1_ k2_ k3_ k4_ => rfl) ab75582 E
                        · replace E := xq_ep c75751 E
                          refine J_aload_n (i := 0) (j := 0) dX2_look_106 rfl rfl ?_
                          refine J_get (C := RX2) (T := TX2) (Z := 6) (ci := 2) (f := 0) dX2_look_107 inG2 rfl (by decide) k362 wc_57 rfl ?_
                          refine J_aload_n (i := 0) (j := 0) dX2_look_110 rfl rfl ?_
                          refine J_get (C := RX2) (T := TX2) (Z := 6) (ci := 2) (f := 1) dX2_look_111 inG2 rfl (by decide) k363 wc_57 rfl ?_
                          refine J_aload_n (i := 0) (j := 0) dX2_look_114 rfl rfl ?_
                          refine J_get (C := RX2) (T := TX2) (Z := 6) (ci := 2) (f := 1) dX2_look_115 inG2 rfl (by decide) k363 wc_57 rfl ?_
                          refine J_iload (i := 4) (j := 3) dX2_look_118 rfl ?_
                          refine J_callV (As := [.int w71152]) (rest := [.ref 61, .ref 58]) dX2_look_120 (c_H_stepsOfX (d := 0) (u := u75579) (g := g) (ex := ex) (rain := w71152) (t := 61) (by decide) (by decide) (bd_r ((congrFun (fr75580 61 rfl) 0).trans ((congrFun (fr71154 61 rfl) 0).trans (congrFun (fr54145 61 (Nat.ne_of_beq_eq_false rfl)) 0))) h3) (bd_r ((congrFun (fr75580 61 rfl) 2).trans ((congrFun (fr71154 61 rfl) 2).trans (congrFun (fr54145 61 (Nat.ne_of_beq_eq_false rfl)) 2))) (bd_w (l := 0) (h := 4) (bd_lt_lo h4 (i_nle c73471) (bd_lt_hi bw71152 (i_nle c74244) (bd_c (v := 4) (lo := 4) (hi := 4) (by decide)))) (by decide)))) hq.n k868 k716 k717 wc_61 rfl rfl k89 k718 np_X1_stepsOf (Nat.le_trans (by decide) hd) (by decide) (Nat.le_refl _) (Nat.le_refl _) wlen rfl (Nat.le_of_ble_eq_true rfl) (fun r_ h_ p75769 => ?_)
                          obtain ⟨v75770, rfl, rfl, hx75771⟩ := p75769
                          replace E := xq_le hx75771 E
                          refine J_iload (i := 5) (j := 4) dX2_look_123 rfl ?_
                          refine J_iload_n (i := 2) (j := 1) dX2_look_125 rfl rfl ?_
                          refine J_callV (As := [.ref 61, .int v75770, .int w75578, .int keeper]) (rest := []) dX2_look_126 (c_S58_runX (d := 2) (u := u75579) (g := g) (ex := ex) (steps := v75770) (banks := w75578) (keeper := keeper) (t := 61) (by decide) (by decide) (bd_r ((congrFun (fr75580 61 rfl) 0).trans ((congrFun (fr71154 61 rfl) 0).trans (congrFun (fr54145 61 (Nat.ne_of_beq_eq_false rfl)) 0))) h3) (bd_r ((congrFun (fr75580 61 rfl) 2).trans ((congrFun (fr71154 61 rfl) 2).trans (congrFun (fr54145 61 (Nat.ne_of_beq_eq_false rfl)) 2))) (bd_w (l := 0) (h := 4) (bd_lt_lo h4 (i_nle c73471) (bd_lt_hi bw71152 (i_nle c74244) (bd_c (v := 4) (lo := 4) (hi := 4) (by decide)))) (by decide)))) hq.n k869 k806 k807 wc_58 rfl rfl k94 k808 np_X5_run (Nat.le_trans (by decide) hd) (by decide) (Nat.le_refl _) (Nat.le_refl _) wlen rfl (Nat.le_of_ble_eq_true rfl) (fun r_ h_ p75772 => ?_)
                          obtain ⟨u75773, rfl, rfl, h75774, h75775, hx75776, fr75777, fc75778⟩ := p75772
                          replace E := xq_le hx75776 E
                          refine J_aload_n (i := 0) (j := 0) dX2_look_129 rfl rfl ?_
                          refine J_get (C := RX2) (T := TX2) (Z := 6) (ci := 2) (f := 2) dX2_look_130 inG2 rfl (by decide) k365 wc_57 rfl ?_
                          refine J_iload (i := 4) (j := 3) dX2_look_133 rfl ?_
                          refine J_sipush (v := 512) dX2_look_135 (by decide) ?_
                          refine J_imul dX2_look_138 ?_
                          refine J_iload (i := 5) (j := 4) dX2_look_139 rfl ?_
                          refine J_iadd dX2_look_141 ?_
                          refine J_aload_n (i := 0) (j := 0) dX2_look_142 rfl rfl ?_
                          refine J_get (C := RX2) (T := TX2) (Z := 6) (ci := 2) (f := 0) dX2_look_143 inG2 rfl (by decide) k362 wc_57 rfl ?_
                          refine J_getN (C := RX5) (T := TX5) (Z := 7) (ci := 5) (f := 1) dX2_look_146 inG5 rfl (by decide) k321 wc_58 rfl ?_
                          obtain ⟨u75779, e75780⟩ : ∃ z, z = ms u75773 66 (((w71152 * 512) + w75578).toNatClampNeg) (u75773 58 1) := ⟨_, rfl⟩
                          refine J_iast dX2_look_149 wc_66 (vin (bd_add (l := 0) (h := 2047) (bd_mul (l := 0) (h := 1536) (bd_lt_hi bw71152 (i_nle c73471) h4) (bd_c (v := 512) (lo := 512) (hi := 512) (by decide)) (by decide)) (bd_le_hi bw75578 (i_nlt c75688) h75686) (by decide)) (by decide)) (ws e75780 wk_66 rfl) ?_
                          replace E := xq_le e75780 E
                          refine J_lv [0, 1, 2, 3, 4] rfl ?_
                          exact jn75768 u75779 (fun c k_ => ((ms_c e75780 (nin_ne (a := 66) k_ rfl)).trans (fr75777 c (nin_sub (M := [(58, 60)]) k_ rfl)))) (fun j k0_ k1_ k2_ k3_ k4_ => ((congrFun (ms_c e75780 (Nat.ne_of_beq_eq_false rfl)) j).trans (fc75778 j k0_ k1_ k2_ k3_ k4_))) (ab_s e75780 (ab_c (fr75777 66 rfl) ab75582) h75775) E
                refine J_lv [1, 2, 3, 4, 0] rfl ?_
                exact lp75680 ((512 - (0 : Int32).toInt).toNat + 1) (0 : Int32) u71153 (bd_w (l := 0) (h := 512) (bd_c (v := 0) (lo := 0) (hi := 0) (by decide)) (by decide)) (fun c k_ => rfl) (fun j k0_ k1_ k2_ k3_ k4_ => rfl) ab71156 (Nat.lt_succ_self _) E
        refine J_lv [1, 2, 3, 0] rfl ?_
        exact lp73467 ((4 - (0 : Int32).toInt).toNat + 1) (0 : Int32) u54144 (bd_w (l := 0) (h := 4) (bd_c (v := 0) (lo := 0) (hi := 0) (by decide)) (by decide)) (fun c k_ => rfl) (fun j k0_ k1_ k2_ k3_ k4_ => rfl) (ab_c ((fr54145 66 (Nat.ne_of_beq_eq_false rfl)).trans (fr6 66 (Nat.ne_of_beq_eq_false rfl) (Nat.ne_of_beq_eq_false rfl) (Nat.ne_of_beq_eq_false rfl) (Nat.ne_of_beq_eq_false rfl) (Nat.ne_of_beq_eq_false rfl))) hp2) (Nat.lt_succ_self _) E
      · replace E := xq_en c64975 E
        refine J_iload (i := 4) (j := 3) dX2_look_23 rfl ?_
        refine J_sipush (v := 512) dX2_look_25 (by decide) ?_
        refine J_icmp_ge (tgt := 53) dX2_look_28 (by decide) (fun c75781 => ?_) (fun c75781 => ?_)
        · exact (bd_no (bd_le_lo (bd_le_hi bw54143 (i_nlt c64975) h64973) c75781 (bd_c (v := 512) (lo := 512) (hi := 512) (by decide))) (by decide)).elim
        · replace E := xq_en c75781 E
          refine J_aload_n (i := 0) (j := 0) dX2_look_31 rfl rfl ?_
          refine J_get (C := RX2) (T := TX2) (Z := 6) (ci := 2) (f := 3) dX2_look_32 inG2 rfl (by decide) k366 wc_57 rfl ?_
          refine J_iload (i := 4) (j := 3) dX2_look_35 rfl ?_
          refine J_aload_n (i := 0) (j := 0) dX2_look_37 rfl rfl ?_
          refine J_get (C := RX2) (T := TX2) (Z := 6) (ci := 2) (f := 1) dX2_look_38 inG2 rfl (by decide) k363 wc_57 rfl ?_
          refine J_iload (i := 4) (j := 3) dX2_look_41 rfl ?_
          refine J_callV (As := [.int w54143]) (rest := [.int w54143, .ref 67]) dX2_look_43 (c_H_harmOfX (d := 1) (u := u54144) (g := g) (ex := ex) (set := w54143) (t := 61) (by decide) (by decide) (bd_r (congrFun (fr54145 61 (Nat.ne_of_beq_eq_false rfl)) 0) h3) (bd_r (congrFun (fr54145 61 (Nat.ne_of_beq_eq_false rfl)) 2) h4)) hq.n k867 k836 k837 wc_61 rfl rfl k89 k838 np_X1_harmOf (Nat.le_trans (by decide) hd) (by decide) (Nat.le_refl _) (Nat.le_refl _) wlen rfl (Nat.le_of_ble_eq_true rfl) (fun r_ h_ p75787 => ?_)
          obtain ⟨v75788, rfl, rfl, hx75789⟩ := p75787
          replace E := xq_le hx75789 E
          obtain ⟨u75790, e75791⟩ : ∃ z, z = ms u54144 67 w54143.toNatClampNeg v75788 := ⟨_, rfl⟩
          refine J_iast dX2_look_46 wc_67 (vin (bd_le_hi bw54143 (i_nlt c64975) h64973) (by decide)) (ws e75791 wk_67 rfl) ?_
          replace E := xq_le e75791 E
          refine J_iinc (i := 4) (j := 3) (v := (w54143 + 1)) (lw := [(4, .int (w54143 + 1)), (0, .ref 57), (2, .int keeper), (3, .int mayGo)]) dX2_look_47 rfl rfl (by decide) rfl ?_
          refine J_goto (tgt := 11) dX2_look_50 (by decide) ?_
          refine J_lv [1, 2, 3, 0] rfl ?_
          exact ih64969 (w54143 + 1) u75790 (bd_w (l := 0) (h := 512) (bd_add (l := 1) (h := 512) (bd_le_hi bw54143 (i_nlt c64975) h64973) (bd_c (v := 1) (lo := 1) (hi := 1) (by decide)) (by decide)) (by decide)) (fun c k0_ => ((ms_c e75791 k0_).trans (fr54145 c k0_))) (mu_up 1 bw54143 rfl (by decide) (bd_w (l := 1) (h := 512) (bd_add (l := 1) (h := 512) (bd_le_hi bw54143 (i_nlt c64975) h64973) (bd_c (v := 1) (lo := 1) (hi := 1) (by decide)) (by decide)) (by decide)) hm64970) E
  refine J_lv [1, 3, 4, 0] rfl ?_
  exact lp64967 ((512 - (0 : Int32).toInt).toNat + 1) (0 : Int32) u2 (bd_w (l := 0) (h := 512) (bd_c (v := 0) (lo := 0) (hi := 0) (by decide)) (by decide)) (fun c k0_ => rfl) (Nat.lt_succ_self _) E
set_option maxRecDepth 100000 in
noncomputable def Fx_O_partsX (rain : Int32) (banks : Int32) (u : Nat → Nat → Int32) (g : Nat → Nat → Int64) : Int64 := xq_lt (Fx_O_isStormX rain banks u g) fun t2 => if t2 = true then (xq_lt (g 68 banks.toNatClampNeg) fun l7 => xq_lt (Fx_H_chanceOfX rain 61 u g) fun v9 => xq_lt v9.toInt64 fun l11 => xq_lt (l7 * l11) fun l12 => l12) else ((0 : Int64))
set_option maxHeartbeats 4000000 in
set_option maxRecDepth 100000 in
theorem c_O_partsX {d : Nat} {u : Nat → Nat → Int32} {g : Nat → Nat → Int64} {ex : List MC} {rain : Int32} {banks : Int32} (hd : 1 ≤ d) (hp0 : Bd 0 9 (u 61 0)) (hp1 : Bd 0 4 (u 61 2)) : CT con0 d 0 0 yX2_parts cX2_parts 3 (some .long) [.ref 57, .int rain, .int banks] (Wd u g ex) (fun r h2 => ∃ (z : Int64), r = some (.long z) ∧ h2 = Wd u g ex ∧ z = Fx_O_partsX rain banks u g) := by
  refine CT_of (by decide) (Nat.le_of_ble_eq_true rfl) (fun x hq => ?_)
  show J x yX2_parts cX2_parts 3 (some .long) d 0 0 (Wd u g ex).length 0 [(0, .ref 57), (1, .int rain), (2, .int banks)] [] (Wd u g ex) 0 0
  have E : Fx_O_partsX rain banks u g = Fx_O_partsX rain banks u g := rfl
  refine J_iload_n (i := 1) (j := 1) dX2_parts_0 rfl rfl ?_
  refine J_iload_n (i := 2) (j := 2) dX2_parts_1 rfl rfl ?_
  refine J_callS (As := [.int rain, .int banks]) (rest := []) dX2_parts_2 (c_O_isStormX (d := 0) (u := u) (g := g) (ex := ex) (rain := rain) (banks := banks)  (by decide) ) hq.n k887 k888 k96 k889 np_X2_isStorm (Nat.le_trans (by decide) hd) (by decide) (Nat.le_refl _) (Nat.le_refl _) wlen rfl (Nat.le_of_ble_eq_true rfl) (fun r_ h_ p1 => ?_)
  obtain ⟨t2, rfl, rfl, h3, h4, hx5⟩ := p1
  replace E := xq_le hx5 E
  refine J_ifB_eq (tgt := 27) dX2_parts_5 (by decide) (fun c6 => ?_) (fun c6 => ?_)
  · replace E := xq_ef c6 E
    refine J_lconst (v := 0) dX2_parts_27 (by decide) ?_
    exact J_lret hq dX2_parts_28 rfl wlen (Nat.le_refl _) (Nat.le_refl _) ⟨(0 : Int64), rfl, rfl, E⟩
  · replace E := xq_ep c6 E
    refine J_aload_n (i := 0) (j := 0) dX2_parts_8 rfl rfl ?_
    refine J_get (C := RX2) (T := TX2) (Z := 6) (ci := 2) (f := 4) dX2_parts_9 inG2 rfl (by decide) k367 wc_57 rfl ?_
    refine J_iload_n (i := 2) (j := 2) dX2_parts_12 rfl rfl ?_
    refine J_lald dX2_parts_13 wc_68 (vin (h4 c6) (by decide)) ?_
    refine J_topl (fun l7 ql7 => ?_)
    replace E := xq_le ql7 E
    refine J_aload_n (i := 0) (j := 0) dX2_parts_14 rfl rfl ?_
    refine J_get (C := RX2) (T := TX2) (Z := 6) (ci := 2) (f := 1) dX2_parts_15 inG2 rfl (by decide) k363 wc_57 rfl ?_
    refine J_iload_n (i := 1) (j := 1) dX2_parts_18 rfl rfl ?_
    refine J_callV (As := [.int rain]) (rest := [.long l7]) dX2_parts_19 (c_H_chanceOfX (d := 0) (u := u) (g := g) (ex := ex) (rain := rain) (t := 61) (by decide) (by decide) hp0 hp1) hq.n k890 k673 k674 wc_61 rfl rfl k89 k675 np_X1_chanceOf (Nat.le_trans (by decide) hd) (by decide) (Nat.le_refl _) (Nat.le_refl _) wlen rfl (Nat.le_of_ble_eq_true rfl) (fun r_ h_ p8 => ?_)
    obtain ⟨v9, rfl, rfl, hx10⟩ := p8
    replace E := xq_le hx10 E
    refine J_i2l dX2_parts_22 rfl ?_
    refine J_topl (fun l11 ql11 => ?_)
    replace E := xq_le ql11 E
    refine J_lmul dX2_parts_23 ?_
    refine J_topl (fun l12 ql12 => ?_)
    replace E := xq_le ql12 E
    refine J_goto (tgt := 28) dX2_parts_24 (by decide) ?_
    exact J_lret hq dX2_parts_28 rfl wlen (Nat.le_refl _) (Nat.le_refl _) ⟨l12, rfl, rfl, E⟩
set_option maxRecDepth 100000 in
noncomputable def Fx_O_wentByX (rain : Int32) (banks : Int32) (u : Nat → Nat → Int32) (g : Nat → Nat → Int64) : Int32 := xq_lt (Fx_O_isStormX rain banks u g) fun t2 => if t2 = true then (xq_lt (u 66 ((rain * 512) + banks).toNatClampNeg) fun v7 => v7) else ((0 : Int32))
set_option maxHeartbeats 4000000 in
set_option maxRecDepth 100000 in
theorem c_O_wentByX {d : Nat} {u : Nat → Nat → Int32} {g : Nat → Nat → Int64} {ex : List MC} {rain : Int32} {banks : Int32} (hd : 1 ≤ d) (hp0 : AB u 66 0 511) : CT con0 d 0 0 yX2_wentBy cX2_wentBy 3 (some .int) [.ref 57, .int rain, .int banks] (Wd u g ex) (fun r h2 => ∃ (z : Int32), r = some (.int z) ∧ h2 = Wd u g ex ∧ Bd 0 511 z ∧ z = Fx_O_wentByX rain banks u g) := by
  refine CT_of (by decide) (Nat.le_of_ble_eq_true rfl) (fun x hq => ?_)
  show J x yX2_wentBy cX2_wentBy 3 (some .int) d 0 0 (Wd u g ex).length 0 [(0, .ref 57), (1, .int rain), (2, .int banks)] [] (Wd u g ex) 0 0
  have E : Fx_O_wentByX rain banks u g = Fx_O_wentByX rain banks u g := rfl
  refine J_iload_n (i := 1) (j := 1) dX2_wentBy_0 rfl rfl ?_
  refine J_iload_n (i := 2) (j := 2) dX2_wentBy_1 rfl rfl ?_
  refine J_callS (As := [.int rain, .int banks]) (rest := []) dX2_wentBy_2 (c_O_isStormX (d := 0) (u := u) (g := g) (ex := ex) (rain := rain) (banks := banks)  (by decide) ) hq.n k887 k888 k96 k889 np_X2_isStorm (Nat.le_trans (by decide) hd) (by decide) (Nat.le_refl _) (Nat.le_refl _) wlen rfl (Nat.le_of_ble_eq_true rfl) (fun r_ h_ p1 => ?_)
  obtain ⟨t2, rfl, rfl, h3, h4, hx5⟩ := p1
  replace E := xq_le hx5 E
  refine J_ifB_eq (tgt := 23) dX2_wentBy_5 (by decide) (fun c6 => ?_) (fun c6 => ?_)
  · replace E := xq_ef c6 E
    refine J_iconst (v := 0) dX2_wentBy_23 (by decide) ?_
    exact J_iret hq dX2_wentBy_24 rfl wlen (Nat.le_refl _) (Nat.le_refl _) ⟨(0 : Int32), rfl, rfl, (bd_w (l := 0) (h := 511) (bd_c (v := 0) (lo := 0) (hi := 0) (by decide)) (by decide)), E⟩
  · replace E := xq_ep c6 E
    refine J_aload_n (i := 0) (j := 0) dX2_wentBy_8 rfl rfl ?_
    refine J_get (C := RX2) (T := TX2) (Z := 6) (ci := 2) (f := 2) dX2_wentBy_9 inG2 rfl (by decide) k365 wc_57 rfl ?_
    refine J_iload_n (i := 1) (j := 1) dX2_wentBy_12 rfl rfl ?_
    refine J_sipush (v := 512) dX2_wentBy_13 (by decide) ?_
    refine J_imul dX2_wentBy_16 ?_
    refine J_iload_n (i := 2) (j := 2) dX2_wentBy_17 rfl rfl ?_
    refine J_iadd dX2_wentBy_18 ?_
    refine J_iald dX2_wentBy_19 wc_66 (vin (bd_add (l := 0) (h := 2047) (bd_mul (l := 0) (h := 1536) (h3 c6) (bd_c (v := 512) (lo := 512) (hi := 512) (by decide)) (by decide)) (h4 c6) (by decide)) (by decide)) ?_
    refine J_topi (fun v7 qv7 => ?_)
    replace E := xq_le qv7 E
    refine J_goto (tgt := 24) dX2_wentBy_20 (by decide) ?_
    exact J_iret hq dX2_wentBy_24 rfl wlen (Nat.le_refl _) (Nat.le_refl _) ⟨v7, rfl, rfl, (bd_r qv7 (hp0 (((rain * 512) + banks).toNatClampNeg))), E⟩
set_option maxRecDepth 100000 in
noncomputable def Fx_O_meanOfX_J73 (ih_lp4991 : (Int64) → (Int32) → Int64) (w4929 : Int32) (w5043 : Int64) : Int64 := ih_lp4991 w5043 (w4929 + 1)
set_option maxRecDepth 100000 in
noncomputable def Fx_O_meanOfX_L20 (ih_lp4043 : (Int64) → (Int32) → Int64) (counted : Int32) (u : Nat → Nat → Int32) (g : Nat → Nat → Int64) (w3033 : Int32) (n_ : Nat) : (Int64) → (Int32) → Int64 := Nat.rec (motive := fun _ => (Int64) → (Int32) → Int64) (fun _ _ => default) (fun n_ ih_ w4928 w4929 => xq_lt (Fx_H_allX 61 u g) fun v4996 => if v4996 < w4929 then (ih_lp4043 w4928 (w3033 + 1)) else (xq_lt (Fx_O_partsX w3033 w4929 u g) fun l5029 => if (lg_cmp l5029 (0 : Int64)) ≤ (0 : Int32) then (Fx_O_meanOfX_J73 ih_ w4929 w4928) else (xq_lt (Fx_O_partsX w3033 w4929 u g) fun l5046 => xq_lt (Fx_O_wentByX w3033 w4929 u g) fun v5049 => xq_lt (u 67 (v5049 &&& counted).toNatClampNeg) fun v5052 => xq_lt v5052.toInt64 fun l5053 => xq_lt (l5046 * l5053) fun l5054 => xq_lt (w4928 + l5054) fun l5055 => Fx_O_meanOfX_J73 ih_ w4929 l5055))) n_
set_option maxRecDepth 100000 in
theorem Fx_O_meanOfX_L20_s {ih_lp4043 : (Int64) → (Int32) → Int64} {counted : Int32} {u : Nat → Nat → Int32} {g : Nat → Nat → Int64} {w3033 : Int32} {w4928 : Int64} {w4929 : Int32} {n_ : Nat} : Fx_O_meanOfX_L20 ih_lp4043 counted u g w3033 (n_ + 1) w4928 w4929 = xq_lt (Fx_H_allX 61 u g) fun v4996 => if v4996 < w4929 then (ih_lp4043 w4928 (w3033 + 1)) else (xq_lt (Fx_O_partsX w3033 w4929 u g) fun l5029 => if (lg_cmp l5029 (0 : Int64)) ≤ (0 : Int32) then (Fx_O_meanOfX_J73 (Fx_O_meanOfX_L20 ih_lp4043 counted u g w3033 n_) w4929 w4928) else (xq_lt (Fx_O_partsX w3033 w4929 u g) fun l5046 => xq_lt (Fx_O_wentByX w3033 w4929 u g) fun v5049 => xq_lt (u 67 (v5049 &&& counted).toNatClampNeg) fun v5052 => xq_lt v5052.toInt64 fun l5053 => xq_lt (l5046 * l5053) fun l5054 => xq_lt (w4928 + l5054) fun l5055 => Fx_O_meanOfX_J73 (Fx_O_meanOfX_L20 ih_lp4043 counted u g w3033 n_) w4929 l5055)) := rfl
set_option maxRecDepth 100000 in
noncomputable def Fx_O_meanOfX_L5 (counted : Int32) (u : Nat → Nat → Int32) (g : Nat → Nat → Int64) (n_ : Nat) : (Int64) → (Int32) → Int64 := Nat.rec (motive := fun _ => (Int64) → (Int32) → Int64) (fun _ _ => default) (fun n_ ih_ w3032 w3033 => if (u 61 2) ≤ w3033 then (w3032) else (Fx_O_meanOfX_L20 ih_ counted u g w3033 ((512 - (0 : Int32).toInt).toNat + 1) w3032 (0 : Int32))) n_
set_option maxRecDepth 100000 in
theorem Fx_O_meanOfX_L5_s {counted : Int32} {u : Nat → Nat → Int32} {g : Nat → Nat → Int64} {w3032 : Int64} {w3033 : Int32} {n_ : Nat} : Fx_O_meanOfX_L5 counted u g (n_ + 1) w3032 w3033 = if (u 61 2) ≤ w3033 then (w3032) else (Fx_O_meanOfX_L20 (Fx_O_meanOfX_L5 counted u g n_) counted u g w3033 ((512 - (0 : Int32).toInt).toNat + 1) w3032 (0 : Int32)) := rfl
set_option maxRecDepth 100000 in
noncomputable def Fx_O_meanOfX (counted : Int32) (u : Nat → Nat → Int32) (g : Nat → Nat → Int64) : Int64 := Fx_O_meanOfX_L5 counted u g ((4 - (0 : Int32).toInt).toNat + 1) (0 : Int64) (0 : Int32)
set_option maxHeartbeats 4000000 in
set_option maxRecDepth 100000 in
theorem c_O_meanOfX {d : Nat} {u : Nat → Nat → Int32} {g : Nat → Nat → Int64} {ex : List MC} {counted : Int32} (hd : 2 ≤ d) (hp0 : Bd 0 9 (u 61 0)) (hp1 : Bd 0 4 (u 61 2)) (hp2 : AB u 66 0 511) : CT con0 d 0 0 yX2_meanOf cX2_meanOf 6 (some .long) [.ref 57, .int counted] (Wd u g ex) (fun r h2 => ∃ (z : Int64), r = some (.long z) ∧ h2 = Wd u g ex ∧ z = Fx_O_meanOfX counted u g) := by
  refine CT_of (by decide) (Nat.le_of_ble_eq_true rfl) (fun x hq => ?_)
  show J x yX2_meanOf cX2_meanOf 6 (some .long) d 0 0 (Wd u g ex).length 0 [(0, .ref 57), (1, .int counted)] [] (Wd u g ex) 0 0
  have E : Fx_O_meanOfX counted u g = Fx_O_meanOfX counted u g := rfl
  refine J_lconst (v := 0) dX2_meanOf_0 (by decide) ?_
  refine J_lstore_n (i := 2) (lw := [(2, .long 0), (0, .ref 57), (1, .int counted)]) dX2_meanOf_1 rfl (by decide) rfl ?_
  refine J_iconst (v := 0) dX2_meanOf_2 (by decide) ?_
  refine J_istore (i := 4) (lw := [(4, .int 0), (2, .long 0), (0, .ref 57), (1, .int counted)]) dX2_meanOf_3 (by decide) rfl ?_
  have lp4043 : ∀ (n4044 : Nat) (w3032 : Int64) (w3033 : Int32), Bd 0 4 w3033 → (4 - w3033.toInt).toNat < n4044 → Fx_O_meanOfX_L5 counted u g n4044 w3032 w3033 = Fx_O_meanOfX counted u g → J x yX2_meanOf cX2_meanOf 6 (some .long) d 0 0 (Wd u g ex).length 5 [(0, .ref 57), (1, .int counted), (2, .long w3032), (4, .int w3033)] [] (Wd u g ex) 0 0 := by
    intro n4044
    induction n4044 with
    | zero => intro w3032 w3033 bw3033 hm4046 _; exact absurd hm4046 (Nat.not_lt_zero _)
    | succ n4044 ih4045 =>
      intro w3032 w3033 bw3033 hm4046 E
      replace E := Fx_O_meanOfX_L5_s.symm.trans E
      refine J_iload (i := 4) (j := 3) dX2_meanOf_5 rfl ?_
      refine J_aload_n (i := 0) (j := 0) dX2_meanOf_7 rfl rfl ?_
      refine J_get (C := RX2) (T := TX2) (Z := 6) (ci := 2) (f := 1) dX2_meanOf_8 inG2 rfl (by decide) k363 wc_57 rfl ?_
      refine J_getN (C := RX1) (T := TX1) (Z := 6) (ci := 1) (f := 2) dX2_meanOf_11 inG1 rfl (by decide) k139 wc_61 rfl ?_
      refine J_icmp_ge (tgt := 85) dX2_meanOf_14 (by decide) (fun c4047 => ?_) (fun c4047 => ?_)
      · replace E := xq_ep c4047 E
        refine J_lload_n (i := 2) (j := 2) dX2_meanOf_85 rfl rfl ?_
        exact J_lret hq dX2_meanOf_86 rfl wlen (Nat.le_refl _) (Nat.le_refl _) ⟨w3032, rfl, rfl, E⟩
      · replace E := xq_en c4047 E
        refine J_iconst (v := 0) dX2_meanOf_17 (by decide) ?_
        refine J_istore (i := 5) (lw := [(5, .int 0), (0, .ref 57), (1, .int counted), (2, .long w3032), (4, .int w3033)]) dX2_meanOf_18 (by decide) rfl ?_
        have lp4991 : ∀ (n4992 : Nat) (w4928 : Int64) (w4929 : Int32), Bd 0 512 w4929 → (512 - w4929.toInt).toNat < n4992 → Fx_O_meanOfX_L20 (Fx_O_meanOfX_L5 counted u g n4044) counted u g w3033 n4992 w4928 w4929 = Fx_O_meanOfX counted u g → J x yX2_meanOf cX2_meanOf 6 (some .long) d 0 0 (Wd u g ex).length 20 [(0, .ref 57), (1, .int counted), (2, .long w4928), (4, .int w3033), (5, .int w4929)] [] (Wd u g ex) 0 0 := by
          intro n4992
          induction n4992 with
          | zero => intro w4928 w4929 bw4929 hm4994 _; exact absurd hm4994 (Nat.not_lt_zero _)
          | succ n4992 ih4993 =>
            intro w4928 w4929 bw4929 hm4994 E
            replace E := Fx_O_meanOfX_L20_s.symm.trans E
            refine J_iload (i := 5) (j := 4) dX2_meanOf_20 rfl ?_
            refine J_aload_n (i := 0) (j := 0) dX2_meanOf_22 rfl rfl ?_
            refine J_get (C := RX2) (T := TX2) (Z := 6) (ci := 2) (f := 1) dX2_meanOf_23 inG2 rfl (by decide) k363 wc_57 rfl ?_
            refine J_callV (As := []) (rest := [.int w4929]) dX2_meanOf_26 (c_H_allX (d := 0) (u := u) (g := g) (ex := ex)  (t := 61) (by decide) (by decide) hp0 (bd_w (l := 0) (h := 4) (bd_lt_lo hp1 (i_nle c4047) bw3033) (by decide))) hq.n k866 k801 k802 wc_61 rfl rfl k89 k803 np_X1_all (Nat.le_trans (by decide) hd) (by decide) (Nat.le_refl _) (Nat.le_refl _) wlen rfl (Nat.le_of_ble_eq_true rfl) (fun r_ h_ p4995 => ?_)
            obtain ⟨v4996, rfl, rfl, h4997, hx4998⟩ := p4995
            replace E := xq_le hx4998 E
            refine J_icmp_gt (tgt := 79) dX2_meanOf_29 (by decide) (fun c4999 => ?_) (fun c4999 => ?_)
            · replace E := xq_ep c4999 E
              refine J_iinc (i := 4) (j := 3) (v := (w3033 + 1)) (lw := [(4, .int (w3033 + 1)), (0, .ref 57), (1, .int counted), (2, .long w4928), (5, .int w4929)]) dX2_meanOf_79 rfl rfl (by decide) rfl ?_
              refine J_goto (tgt := 5) dX2_meanOf_82 (by decide) ?_
              refine J_lv [1, 2, 3, 0] rfl ?_
              exact ih4045 w4928 (w3033 + 1) (bd_w (l := 0) (h := 4) (bd_add (l := 1) (h := 4) (bd_lt_hi bw3033 (i_nle c4047) hp1) (bd_c (v := 1) (lo := 1) (hi := 1) (by decide)) (by decide)) (by decide)) (mu_up 1 bw3033 rfl (by decide) (bd_w (l := 1) (h := 4) (bd_add (l := 1) (h := 4) (bd_lt_hi bw3033 (i_nle c4047) hp1) (bd_c (v := 1) (lo := 1) (hi := 1) (by decide)) (by decide)) (by decide)) hm4046) E
            · replace E := xq_en c4999 E
              refine J_aload_n (i := 0) (j := 0) dX2_meanOf_32 rfl rfl ?_
              refine J_iload (i := 4) (j := 3) dX2_meanOf_33 rfl ?_
              refine J_iload (i := 5) (j := 4) dX2_meanOf_35 rfl ?_
              refine J_callV (As := [.int w3033, .int w4929]) (rest := []) dX2_meanOf_37 (c_O_partsX (d := 1) (u := u) (g := g) (ex := ex) (rain := w3033) (banks := w4929)  (by decide) hp0 (bd_w (l := 0) (h := 4) (bd_lt_lo hp1 (i_nle c4047) bw3033) (by decide))) hq.n k883 k885 k24 wc_57 rfl rfl k96 k886 np_X2_parts (Nat.le_trans (by decide) hd) (by decide) (Nat.le_refl _) (Nat.le_refl _) wlen rfl (Nat.le_of_ble_eq_true rfl) (fun r_ h_ p5028 => ?_)
              obtain ⟨l5029, rfl, rfl, hx5030⟩ := p5028
              replace E := xq_le hx5030 E
              refine J_lconst (v := 0) dX2_meanOf_40 (by decide) ?_
              refine J_lcmp dX2_meanOf_41 ?_
              have jn5044 : ∀ (w5043 : Int64), Fx_O_meanOfX_J73 (Fx_O_meanOfX_L20 (Fx_O_meanOfX_L5 counted u g n4044) counted u g w3033 n4992) w4929 w5043 = Fx_O_meanOfX counted u g → J x yX2_meanOf cX2_meanOf 6 (some .long) d 0 0 (Wd u g ex).length 73 [(0, .ref 57), (1, .int counted), (2, .long w5043), (4, .int w3033), (5, .int w4929)] [] (Wd u g ex) 0 0 := by
                intro w5043 E
                refine J_iinc (i := 5) (j := 4) (v := (w4929 + 1)) (lw := [(5, .int (w4929 + 1)), (0, .ref 57), (1, .int counted), (2, .long w5043), (4, .int w3033)]) dX2_meanOf_73 rfl rfl (by decide) rfl ?_
                refine J_goto (tgt := 20) dX2_meanOf_76 (by decide) ?_
                refine J_lv [1, 2, 3, 4, 0] rfl ?_
                exact ih4993 w5043 (w4929 + 1) (bd_w (l := 0) (h := 512) (bd_add (l := 1) (h := 512) (bd_le_hi bw4929 (i_nlt c4999) h4997) (bd_c (v := 1) (lo := 1) (hi := 1) (by decide)) (by decide)) (by decide)) (mu_up 1 bw4929 rfl (by decide) (bd_w (l := 1) (h := 512) (bd_add (l := 1) (h := 512) (bd_le_hi bw4929 (i_nlt c4999) h4997) (bd_c (v := 1) (lo := 1) (hi := 1) (by decide)) (by decide)) (by decide)) hm4994) E
              refine J_if_le (tgt := 73) dX2_meanOf_42 (by decide) (fun c5031 => ?_) (fun c5031 => ?_)
              · replace E := xq_ep c5031 E
                refine J_lv [0, 1, 2, 3, 4] rfl ?_
                exact jn5044 w4928  E
              · replace E := xq_en c5031 E
                refine J_lload_n (i := 2) (j := 2) dX2_meanOf_45 rfl rfl ?_
                refine J_aload_n (i := 0) (j := 0) dX2_meanOf_46 rfl rfl ?_
                refine J_iload (i := 4) (j := 3) dX2_meanOf_47 rfl ?_
                refine J_iload (i := 5) (j := 4) dX2_meanOf_49 rfl ?_
                refine J_callV (As := [.int w3033, .int w4929]) (rest := [.long w4928]) dX2_meanOf_51 (c_O_partsX (d := 1) (u := u) (g := g) (ex := ex) (rain := w3033) (banks := w4929)  (by decide) hp0 (bd_w (l := 0) (h := 4) (bd_lt_lo hp1 (i_nle c4047) bw3033) (by decide))) hq.n k883 k885 k24 wc_57 rfl rfl k96 k886 np_X2_parts (Nat.le_trans (by decide) hd) (by decide) (Nat.le_refl _) (Nat.le_refl _) wlen rfl (Nat.le_of_ble_eq_true rfl) (fun r_ h_ p5045 => ?_)
                obtain ⟨l5046, rfl, rfl, hx5047⟩ := p5045
                replace E := xq_le hx5047 E
                refine J_aload_n (i := 0) (j := 0) dX2_meanOf_54 rfl rfl ?_
                refine J_get (C := RX2) (T := TX2) (Z := 6) (ci := 2) (f := 3) dX2_meanOf_55 inG2 rfl (by decide) k366 wc_57 rfl ?_
                refine J_aload_n (i := 0) (j := 0) dX2_meanOf_58 rfl rfl ?_
                refine J_iload (i := 4) (j := 3) dX2_meanOf_59 rfl ?_
                refine J_iload (i := 5) (j := 4) dX2_meanOf_61 rfl ?_
                refine J_callV (As := [.int w3033, .int w4929]) (rest := [.ref 67, .long l5046, .long w4928]) dX2_meanOf_63 (c_O_wentByX (d := 1) (u := u) (g := g) (ex := ex) (rain := w3033) (banks := w4929)  (by decide) hp2) hq.n k891 k893 k25 wc_57 rfl rfl k96 k894 np_X2_wentBy (Nat.le_trans (by decide) hd) (by decide) (Nat.le_refl _) (Nat.le_refl _) wlen rfl (Nat.le_of_ble_eq_true rfl) (fun r_ h_ p5048 => ?_)
                obtain ⟨v5049, rfl, rfl, h5050, hx5051⟩ := p5048
                replace E := xq_le hx5051 E
                refine J_iload_n (i := 1) (j := 1) dX2_meanOf_66 rfl rfl ?_
                refine J_iand dX2_meanOf_67 ?_
                refine J_iald dX2_meanOf_68 wc_67 (vin (bd_andl h5050 (by decide)) (by decide)) ?_
                refine J_topi (fun v5052 qv5052 => ?_)
                replace E := xq_le qv5052 E
                refine J_i2l dX2_meanOf_69 rfl ?_
                refine J_topl (fun l5053 ql5053 => ?_)
                replace E := xq_le ql5053 E
                refine J_lmul dX2_meanOf_70 ?_
                refine J_topl (fun l5054 ql5054 => ?_)
                replace E := xq_le ql5054 E
                refine J_ladd dX2_meanOf_71 ?_
                refine J_topl (fun l5055 ql5055 => ?_)
                replace E := xq_le ql5055 E
                refine J_lstore_n (i := 2) (lw := [(2, .long l5055), (0, .ref 57), (1, .int counted), (4, .int w3033), (5, .int w4929)]) dX2_meanOf_72 rfl (by decide) rfl ?_
                refine J_lv [1, 2, 0, 3, 4] rfl ?_
                exact jn5044 l5055  E
        refine J_lv [1, 2, 3, 4, 0] rfl ?_
        exact lp4991 ((512 - (0 : Int32).toInt).toNat + 1) w3032 (0 : Int32) (bd_w (l := 0) (h := 512) (bd_c (v := 0) (lo := 0) (hi := 0) (by decide)) (by decide)) (Nat.lt_succ_self _) E
  refine J_lv [2, 3, 1, 0] rfl ?_
  exact lp4043 ((4 - (0 : Int32).toInt).toNat + 1) (0 : Int64) (0 : Int32) (bd_w (l := 0) (h := 4) (bd_c (v := 0) (lo := 0) (hi := 0) (by decide)) (by decide)) (Nat.lt_succ_self _) E
set_option maxRecDepth 100000 in
noncomputable def Fx_C_meanMendedX (set : Int32) (u : Nat → Nat → Int32) (g : Nat → Nat → Int64) : Int64 × (Nat → Nat → Int64) := xq_lt (Fx_O_weighX set (0 : Int32) u g) fun g2 => xq_lt (Fx_H_allX 61 u g2) fun v5 => xq_lt (Fx_O_meanOfX v5 u g2) fun l9 => (l9, g2)
set_option maxHeartbeats 4000000 in
set_option maxRecDepth 100000 in
theorem c_C_meanMendedX {d : Nat} {u : Nat → Nat → Int32} {g : Nat → Nat → Int64} {ex : List MC} {set : Int32} (hd : 3 ≤ d) (hp0 : Bd 0 9 (u 61 0)) (hp1 : Bd 0 4 (u 61 2)) (hp2 : AB u 66 0 511) : CT con0 d 0 0 yX0_meanMended cX0_meanMended 2 (some .long) [.ref 56, .int set] (Wd u g ex) (fun r h2 => ∃ (z : Int64) (g2 : Nat → Nat → Int64), r = some (.long z) ∧ h2 = Wd u g2 ex ∧ (z, g2) = Fx_C_meanMendedX set u g) := by
  refine CT_of (by decide) (Nat.le_of_ble_eq_true rfl) (fun x hq => ?_)
  show J x yX0_meanMended cX0_meanMended 2 (some .long) d 0 0 (Wd u g ex).length 0 [(0, .ref 56), (1, .int set)] [] (Wd u g ex) 0 0
  have E : Fx_C_meanMendedX set u g = Fx_C_meanMendedX set u g := rfl
  refine J_aload_n (i := 0) (j := 0) dX0_meanMended_0 rfl rfl ?_
  refine J_get (C := RX0) (T := TX0) (Z := 10) (ci := 0) (f := 0) dX0_meanMended_1 inG0 rfl (by decide) k386 wc_56 rfl ?_
  refine J_iload_n (i := 1) (j := 1) dX0_meanMended_4 rfl rfl ?_
  refine J_iconst (v := 0) dX0_meanMended_5 (by decide) ?_
  refine J_callV (As := [.int set, .int 0]) (rest := []) dX0_meanMended_6 (c_O_weighX (d := 1) (u := u) (g := g) (ex := ex) (mended := set) (weaker := 0)  (by decide) hp0 hp1) hq.n k953 k871 k872 wc_57 rfl rfl k96 k873 np_X2_weigh (Nat.le_trans (by decide) hd) (by decide) (Nat.le_refl _) (Nat.le_refl _) wlen rfl (Nat.le_of_ble_eq_true rfl) (fun r_ h_ p1 => ?_)
  obtain ⟨g2, rfl, rfl, hx3⟩ := p1
  replace E := xq_le hx3 E
  refine J_aload_n (i := 0) (j := 0) dX0_meanMended_9 rfl rfl ?_
  refine J_get (C := RX0) (T := TX0) (Z := 10) (ci := 0) (f := 0) dX0_meanMended_10 inG0 rfl (by decide) k386 wc_56 rfl ?_
  refine J_aload_n (i := 0) (j := 0) dX0_meanMended_13 rfl rfl ?_
  refine J_get (C := RX0) (T := TX0) (Z := 10) (ci := 0) (f := 0) dX0_meanMended_14 inG0 rfl (by decide) k386 wc_56 rfl ?_
  refine J_getN (C := RX2) (T := TX2) (Z := 6) (ci := 2) (f := 1) dX0_meanMended_17 inG2 rfl (by decide) k364 wc_57 rfl ?_
  refine J_callV (As := []) (rest := [.ref 57]) dX0_meanMended_20 (c_H_allX (d := 0) (u := u) (g := g2) (ex := ex)  (t := 61) (by decide) (by decide) hp0 hp1) hq.n k954 k801 k802 wc_61 rfl rfl k89 k803 np_X1_all (Nat.le_trans (by decide) hd) (by decide) (Nat.le_refl _) (Nat.le_refl _) wlen rfl (Nat.le_of_ble_eq_true rfl) (fun r_ h_ p4 => ?_)
  obtain ⟨v5, rfl, rfl, h6, hx7⟩ := p4
  replace E := xq_le hx7 E
  refine J_callV (As := [.int v5]) (rest := []) dX0_meanMended_23 (c_O_meanOfX (d := 2) (u := u) (g := g2) (ex := ex) (counted := v5)  (by decide) hp0 hp1 hp2) hq.n k955 k908 k909 wc_57 rfl rfl k96 k910 np_X2_meanOf (Nat.le_trans (by decide) hd) (by decide) (Nat.le_refl _) (Nat.le_refl _) wlen rfl (Nat.le_of_ble_eq_true rfl) (fun r_ h_ p8 => ?_)
  obtain ⟨l9, rfl, rfl, hx10⟩ := p8
  replace E := xq_le hx10 E
  exact J_lret hq dX0_meanMended_26 rfl wlen (Nat.le_refl _) (Nat.le_refl _) ⟨l9, g2, rfl, rfl, E⟩
set_option maxRecDepth 100000 in
noncomputable def Fx_C_fewestDaysX_J85 (ih_lp502 : (Int32) → (Int32) → (Nat → Nat → Int64) → Int32 × (Nat → Nat → Int32) × (Nat → Nat → Int64)) (w429 : Int32) (w560 : Int32) (g561 : Nat → Nat → Int64) : Int32 × (Nat → Nat → Int32) × (Nat → Nat → Int64) := ih_lp502 w560 (w429 + 1) g561
set_option maxRecDepth 100000 in
noncomputable def Fx_C_fewestDaysX_L29 (ponds : Int32) (u6 : Nat → Nat → Int32) (l20 : Int64) (n_ : Nat) : (Int32) → (Int32) → (Nat → Nat → Int64) → Int32 × (Nat → Nat → Int32) × (Nat → Nat → Int64) := Nat.rec (motive := fun _ => (Int32) → (Int32) → (Nat → Nat → Int64) → Int32 × (Nat → Nat → Int32) × (Nat → Nat → Int64)) (fun _ _ _ => default) (fun n_ ih_ w428 w429 g430 => if ponds < w429 then ((w428, u6, g430)) else (xq_lt (Fx_H_daysToMendX w429 44 u6 g430) fun v543 => if (w429 &&& (ponds ^^^ (-1))) = (0 : Int32) then (if w428 = ((-1) : Int32) then (xq_c2 (Fx_C_meanMendedX w429 u6 g430) fun l565 g566 => xq_lt (l565 * (100 : Int64)) fun l568 => if (0 : Int32) < (lg_cmp l568 l20) then (Fx_C_fewestDaysX_J85 ih_ w429 w428 g566) else (Fx_C_fewestDaysX_J85 ih_ w429 v543 g566)) else (if w428 ≤ v543 then (Fx_C_fewestDaysX_J85 ih_ w429 w428 g430) else (xq_c2 (Fx_C_meanMendedX w429 u6 g430) fun l572 g573 => xq_lt (l572 * (100 : Int64)) fun l575 => if (0 : Int32) < (lg_cmp l575 l20) then (Fx_C_fewestDaysX_J85 ih_ w429 w428 g573) else (Fx_C_fewestDaysX_J85 ih_ w429 v543 g573)))) else (Fx_C_fewestDaysX_J85 ih_ w429 w428 g430))) n_
set_option maxRecDepth 100000 in
theorem Fx_C_fewestDaysX_L29_s {ponds : Int32} {u6 : Nat → Nat → Int32} {l20 : Int64} {w428 : Int32} {w429 : Int32} {g430 : Nat → Nat → Int64} {n_ : Nat} : Fx_C_fewestDaysX_L29 ponds u6 l20 (n_ + 1) w428 w429 g430 = if ponds < w429 then ((w428, u6, g430)) else (xq_lt (Fx_H_daysToMendX w429 44 u6 g430) fun v543 => if (w429 &&& (ponds ^^^ (-1))) = (0 : Int32) then (if w428 = ((-1) : Int32) then (xq_c2 (Fx_C_meanMendedX w429 u6 g430) fun l565 g566 => xq_lt (l565 * (100 : Int64)) fun l568 => if (0 : Int32) < (lg_cmp l568 l20) then (Fx_C_fewestDaysX_J85 (Fx_C_fewestDaysX_L29 ponds u6 l20 n_) w429 w428 g566) else (Fx_C_fewestDaysX_J85 (Fx_C_fewestDaysX_L29 ponds u6 l20 n_) w429 v543 g566)) else (if w428 ≤ v543 then (Fx_C_fewestDaysX_J85 (Fx_C_fewestDaysX_L29 ponds u6 l20 n_) w429 w428 g430) else (xq_c2 (Fx_C_meanMendedX w429 u6 g430) fun l572 g573 => xq_lt (l572 * (100 : Int64)) fun l575 => if (0 : Int32) < (lg_cmp l575 l20) then (Fx_C_fewestDaysX_J85 (Fx_C_fewestDaysX_L29 ponds u6 l20 n_) w429 w428 g573) else (Fx_C_fewestDaysX_J85 (Fx_C_fewestDaysX_L29 ponds u6 l20 n_) w429 v543 g573)))) else (Fx_C_fewestDaysX_J85 (Fx_C_fewestDaysX_L29 ponds u6 l20 n_) w429 w428 g430)) := rfl
set_option maxRecDepth 100000 in
noncomputable def Fx_C_fewestDaysX (ponds : Int32) (mm : Int32) (u : Nat → Nat → Int32) (g : Nat → Nat → Int64) : Int32 × (Nat → Nat → Int32) × (Nat → Nat → Int64) := xq_lt (Fx_H_weakX 44 u g) fun v2 => xq_c2 (Fx_O_look_44X ((-1) : Int32) v2 u g) fun u6 g7 => xq_c2 (Fx_C_meanMendedX (0 : Int32) u6 g7) fun l16 g17 => xq_lt mm.toInt64 fun l19 => xq_lt (l16 * l19) fun l20 => Fx_C_fewestDaysX_L29 ponds u6 l20 ((512 - (0 : Int32).toInt).toNat + 1) ((-1) : Int32) (0 : Int32) g17
set_option maxHeartbeats 4000000 in
set_option maxRecDepth 100000 in
theorem c_C_fewestDaysX {d : Nat} {u : Nat → Nat → Int32} {g : Nat → Nat → Int64} {ex : List MC} {ponds : Int32} {mm : Int32} (hd : 4 ≤ d) (hp0 : Bd 0 9 (u 44 0)) (hp1 : Bd 0 4 (u 44 2)) (hp2 : AB u 66 0 511) (hp3 : Bd 0 511 ponds) : CT con0 d 0 0 yX0_fewestDays cX0_fewestDays 9 (some .int) [.ref 56, .ref 44, .int ponds, .int mm] (Wd u g ex) (fun r h2 => ∃ (z : Int32) (u2 : Nat → Nat → Int32) (g2 : Nat → Nat → Int64), r = some (.int z) ∧ h2 = Wd u2 g2 ex ∧ Bd 0 9 (u2 61 0) ∧ Bd 0 4 (u2 61 2) ∧ AB u2 66 0 511 ∧ (z, u2, g2) = Fx_C_fewestDaysX ponds mm u g ∧ (∀ c, nin c [(58, 67)] = true → u2 c = u c) ∧ (∀ j, j ≠ 0 → j ≠ 1 → j ≠ 2 → j ≠ 3 → j ≠ 4 → u2 58 j = u 58 j) ∧ (∀ j, j ≠ 0 → j ≠ 2 → u2 61 j = u 61 j)) := by
  refine CT_of (by decide) (Nat.le_of_ble_eq_true rfl) (fun x hq => ?_)
  show J x yX0_fewestDays cX0_fewestDays 9 (some .int) d 0 0 (Wd u g ex).length 0 [(0, .ref 56), (1, .ref 44), (2, .int ponds), (3, .int mm)] [] (Wd u g ex) 0 0
  have E : Fx_C_fewestDaysX ponds mm u g = Fx_C_fewestDaysX ponds mm u g := rfl
  refine J_aload_n (i := 0) (j := 0) dX0_fewestDays_0 rfl rfl ?_
  refine J_get (C := RX0) (T := TX0) (Z := 10) (ci := 0) (f := 0) dX0_fewestDays_1 inG0 rfl (by decide) k386 wc_56 rfl ?_
  refine J_aload_n (i := 1) (j := 1) dX0_fewestDays_4 rfl rfl ?_
  refine J_iconst (v := (-1)) dX0_fewestDays_5 (by decide) ?_
  refine J_aload_n (i := 1) (j := 1) dX0_fewestDays_6 rfl rfl ?_
  refine J_callV (As := []) (rest := [.int (-1), .ref 44, .ref 57]) dX0_fewestDays_7 (c_H_weakX (d := 1) (u := u) (g := g) (ex := ex)  (t := 44) (by decide) (by decide) hp0 hp1) hq.n k947 k857 k858 wc_44 rfl rfl k89 k859 np_X1_weak (Nat.le_trans (by decide) hd) (by decide) (Nat.le_refl _) (Nat.le_refl _) wlen rfl (Nat.le_of_ble_eq_true rfl) (fun r_ h_ p1 => ?_)
  obtain ⟨v2, rfl, rfl, h3, hx4⟩ := p1
  replace E := xq_le hx4 E
  refine J_callV (As := [.ref 44, .int (-1), .int v2]) (rest := []) dX0_fewestDays_10 (c_O_look_44X (d := 3) (u := u) (g := g) (ex := ex) (keeper := (-1)) (mayGo := v2)  (by decide) hp0 hp1 hp2) hq.n k948 k862 k863 wc_57 rfl rfl k96 k864 np_X2_look (Nat.le_trans (by decide) hd) (by decide) (Nat.le_refl _) (Nat.le_refl _) wlen rfl (Nat.le_of_ble_eq_true rfl) (fun r_ h_ p5 => ?_)
  obtain ⟨u6, g7, rfl, rfl, h8, h9, h10, hx11, fr12, fc13, fc14⟩ := p5
  replace E := xq_e2 hx11 E
  refine J_aload_n (i := 0) (j := 0) dX0_fewestDays_13 rfl rfl ?_
  refine J_iconst (v := 0) dX0_fewestDays_14 (by decide) ?_
  refine J_callV (As := [.int 0]) (rest := []) dX0_fewestDays_15 (c_C_meanMendedX (d := 3) (u := u6) (g := g7) (ex := ex) (set := 0)  (by decide) h8 h9 h10) hq.n k949 k951 k27 wc_56 rfl rfl k95 k952 np_X0_meanMended (Nat.le_trans (by decide) hd) (by decide) (Nat.le_refl _) (Nat.le_refl _) wlen rfl (Nat.le_of_ble_eq_true rfl) (fun r_ h_ p15 => ?_)
  obtain ⟨l16, g17, rfl, rfl, hx18⟩ := p15
  replace E := xq_e2 hx18 E
  refine J_iload_n (i := 3) (j := 3) dX0_fewestDays_18 rfl rfl ?_
  refine J_i2l dX0_fewestDays_19 rfl ?_
  refine J_topl (fun l19 ql19 => ?_)
  replace E := xq_le ql19 E
  refine J_lmul dX0_fewestDays_20 ?_
  refine J_topl (fun l20 ql20 => ?_)
  replace E := xq_le ql20 E
  refine J_lstore (i := 4) (lw := [(4, .long l20), (0, .ref 56), (1, .ref 44), (2, .int ponds), (3, .int mm)]) dX0_fewestDays_21 (by decide) rfl ?_
  refine J_iconst (v := (-1)) dX0_fewestDays_23 (by decide) ?_
  refine J_istore (i := 6) (lw := [(6, .int (-1)), (4, .long l20), (0, .ref 56), (1, .ref 44), (2, .int ponds), (3, .int mm)]) dX0_fewestDays_24 (by decide) rfl ?_
  refine J_iconst (v := 0) dX0_fewestDays_26 (by decide) ?_
  refine J_istore (i := 7) (lw := [(7, .int 0), (6, .int (-1)), (4, .long l20), (0, .ref 56), (1, .ref 44), (2, .int ponds), (3, .int mm)]) dX0_fewestDays_27 (by decide) rfl ?_
  have lp502 : ∀ (n503 : Nat) (w428 : Int32) (w429 : Int32) (g430 : Nat → Nat → Int64), Bd 0 512 w429 → (512 - w429.toInt).toNat < n503 → Fx_C_fewestDaysX_L29 ponds u6 l20 n503 w428 w429 g430 = Fx_C_fewestDaysX ponds mm u g → J x yX0_fewestDays cX0_fewestDays 9 (some .int) d 0 0 (Wd u g ex).length 29 [(0, .ref 56), (1, .ref 44), (2, .int ponds), (4, .long l20), (6, .int w428), (7, .int w429)] [] (Wd u6 g430 ex) 0 0 := by
    intro n503
    induction n503 with
    | zero => intro w428 w429 g430 bw429 hm505 _; exact absurd hm505 (Nat.not_lt_zero _)
    | succ n503 ih504 =>
      intro w428 w429 g430 bw429 hm505 E
      replace E := Fx_C_fewestDaysX_L29_s.symm.trans E
      refine J_iload (i := 7) (j := 5) dX0_fewestDays_29 rfl ?_
      refine J_iload_n (i := 2) (j := 2) dX0_fewestDays_31 rfl rfl ?_
      refine J_icmp_gt (tgt := 91) dX0_fewestDays_32 (by decide) (fun c506 => ?_) (fun c506 => ?_)
      · replace E := xq_ep c506 E
        refine J_iload (i := 6) (j := 4) dX0_fewestDays_91 rfl ?_
        exact J_iret hq dX0_fewestDays_93 rfl wlen (Nat.le_refl _) (Nat.le_refl _) ⟨w428, u6, g430, rfl, rfl, h8, h9, h10, E, (fun c k_ => (fr12 c (nin_sub (M := [(58, 67)]) k_ rfl))), (fun j k0_ k1_ k2_ k3_ k4_ => (fc13 j k0_ k1_ k2_ k3_ k4_)), (fun j k0_ k2_ => (fc14 j k0_ k2_))⟩
      · replace E := xq_en c506 E
        refine J_aload_n (i := 1) (j := 1) dX0_fewestDays_35 rfl rfl ?_
        refine J_iload (i := 7) (j := 5) dX0_fewestDays_36 rfl ?_
        refine J_callV (As := [.int w429]) (rest := []) dX0_fewestDays_38 (c_H_daysToMendX (d := 1) (u := u6) (g := g430) (ex := ex) (set := w429) (t := 44) (by decide) (by decide) (bd_r (congrFun (fr12 44 rfl) 0) hp0) (bd_r (congrFun (fr12 44 rfl) 2) hp1)) hq.n k956 k957 k958 wc_44 rfl rfl k89 k959 np_X1_daysToMend (Nat.le_trans (by decide) hd) (by decide) (Nat.le_refl _) (Nat.le_refl _) wlen rfl (Nat.le_of_ble_eq_true rfl) (fun r_ h_ p542 => ?_)
        obtain ⟨v543, rfl, rfl, hx544⟩ := p542
        replace E := xq_le hx544 E
        refine J_istore (i := 8) (lw := [(8, .int v543), (0, .ref 56), (1, .ref 44), (2, .int ponds), (4, .long l20), (6, .int w428), (7, .int w429)]) dX0_fewestDays_41 (by decide) rfl ?_
        refine J_iload (i := 7) (j := 6) dX0_fewestDays_43 rfl ?_
        refine J_iload_n (i := 2) (j := 3) dX0_fewestDays_45 rfl rfl ?_
        refine J_iconst (v := (-1)) dX0_fewestDays_46 (by decide) ?_
        refine J_ixor dX0_fewestDays_47 ?_
        refine J_iand dX0_fewestDays_48 ?_
        have jn562 : ∀ (w560 : Int32) (g561 : Nat → Nat → Int64), Fx_C_fewestDaysX_J85 (Fx_C_fewestDaysX_L29 ponds u6 l20 n503) w429 w560 g561 = Fx_C_fewestDaysX ponds mm u g → J x yX0_fewestDays cX0_fewestDays 9 (some .int) d 0 0 (Wd u g ex).length 85 [(0, .ref 56), (1, .ref 44), (2, .int ponds), (4, .long l20), (6, .int w560), (7, .int w429)] [] (Wd u6 g561 ex) 0 0 := by
          intro w560 g561 E
          refine J_iinc (i := 7) (j := 5) (v := (w429 + 1)) (lw := [(7, .int (w429 + 1)), (0, .ref 56), (1, .ref 44), (2, .int ponds), (4, .long l20), (6, .int w560)]) dX0_fewestDays_85 rfl rfl (by decide) rfl ?_
          refine J_goto (tgt := 29) dX0_fewestDays_88 (by decide) ?_
          refine J_lv [1, 2, 3, 4, 5, 0] rfl ?_
          exact ih504 w560 (w429 + 1) g561 (bd_w (l := 0) (h := 512) (bd_add (l := 1) (h := 512) (bd_le_hi bw429 (i_nlt c506) hp3) (bd_c (v := 1) (lo := 1) (hi := 1) (by decide)) (by decide)) (by decide)) (mu_up 1 bw429 rfl (by decide) (bd_w (l := 1) (h := 512) (bd_add (l := 1) (h := 512) (bd_le_hi bw429 (i_nlt c506) hp3) (bd_c (v := 1) (lo := 1) (hi := 1) (by decide)) (by decide)) (by decide)) hm505) E
        refine J_if_ne (tgt := 85) dX0_fewestDays_49 (by decide) (fun c545 => ?_) (fun c545 => ?_)
        · replace E := xq_en c545 E
          refine J_lv [1, 2, 3, 4, 5, 6] rfl ?_
          exact jn562 w428 g430  E
        · replace E := xq_ep c545 E
          refine J_iload (i := 6) (j := 5) dX0_fewestDays_52 rfl ?_
          refine J_iconst (v := (-1)) dX0_fewestDays_54 (by decide) ?_
          refine J_icmp_eq (tgt := 65) dX0_fewestDays_55 (by decide) (fun c563 => ?_) (fun c563 => ?_)
          · replace E := xq_ep c563 E
            refine J_aload_n (i := 0) (j := 1) dX0_fewestDays_65 rfl rfl ?_
            refine J_iload (i := 7) (j := 6) dX0_fewestDays_66 rfl ?_
            refine J_callV (As := [.int w429]) (rest := []) dX0_fewestDays_68 (c_C_meanMendedX (d := 3) (u := u6) (g := g430) (ex := ex) (set := w429)  (by decide) h8 h9 h10) hq.n k949 k951 k27 wc_56 rfl rfl k95 k952 np_X0_meanMended (Nat.le_trans (by decide) hd) (by decide) (Nat.le_refl _) (Nat.le_refl _) wlen rfl (Nat.le_of_ble_eq_true rfl) (fun r_ h_ p564 => ?_)
            obtain ⟨l565, g566, rfl, rfl, hx567⟩ := p564
            replace E := xq_e2 hx567 E
            refine J_ldc2 (v := 100) dX0_fewestDays_71 k1240 ?_
            refine J_lmul dX0_fewestDays_74 ?_
            refine J_topl (fun l568 ql568 => ?_)
            replace E := xq_le ql568 E
            refine J_lload (i := 4) (j := 4) dX0_fewestDays_75 rfl ?_
            refine J_lcmp dX0_fewestDays_77 ?_
            refine J_if_gt (tgt := 85) dX0_fewestDays_78 (by decide) (fun c569 => ?_) (fun c569 => ?_)
            · replace E := xq_ep c569 E
              refine J_lv [1, 2, 3, 4, 5, 6] rfl ?_
              exact jn562 w428 g566  E
            · replace E := xq_en c569 E
              refine J_iload (i := 8) (j := 0) dX0_fewestDays_81 rfl ?_
              refine J_istore (i := 6) (lw := [(6, .int v543), (8, .int v543), (0, .ref 56), (1, .ref 44), (2, .int ponds), (4, .long l20), (7, .int w429)]) dX0_fewestDays_83 (by decide) rfl ?_
              refine J_lv [2, 3, 4, 5, 0, 6] rfl ?_
              exact jn562 v543 g566  E
          · replace E := xq_en c563 E
            refine J_iload (i := 8) (j := 0) dX0_fewestDays_58 rfl ?_
            refine J_iload (i := 6) (j := 5) dX0_fewestDays_60 rfl ?_
            refine J_icmp_ge (tgt := 85) dX0_fewestDays_62 (by decide) (fun c570 => ?_) (fun c570 => ?_)
            · replace E := xq_ep c570 E
              refine J_lv [1, 2, 3, 4, 5, 6] rfl ?_
              exact jn562 w428 g430  E
            · replace E := xq_en c570 E
              refine J_aload_n (i := 0) (j := 1) dX0_fewestDays_65 rfl rfl ?_
              refine J_iload (i := 7) (j := 6) dX0_fewestDays_66 rfl ?_
              refine J_callV (As := [.int w429]) (rest := []) dX0_fewestDays_68 (c_C_meanMendedX (d := 3) (u := u6) (g := g430) (ex := ex) (set := w429)  (by decide) h8 h9 h10) hq.n k949 k951 k27 wc_56 rfl rfl k95 k952 np_X0_meanMended (Nat.le_trans (by decide) hd) (by decide) (Nat.le_refl _) (Nat.le_refl _) wlen rfl (Nat.le_of_ble_eq_true rfl) (fun r_ h_ p571 => ?_)
              obtain ⟨l572, g573, rfl, rfl, hx574⟩ := p571
              replace E := xq_e2 hx574 E
              refine J_ldc2 (v := 100) dX0_fewestDays_71 k1240 ?_
              refine J_lmul dX0_fewestDays_74 ?_
              refine J_topl (fun l575 ql575 => ?_)
              replace E := xq_le ql575 E
              refine J_lload (i := 4) (j := 4) dX0_fewestDays_75 rfl ?_
              refine J_lcmp dX0_fewestDays_77 ?_
              refine J_if_gt (tgt := 85) dX0_fewestDays_78 (by decide) (fun c576 => ?_) (fun c576 => ?_)
              · replace E := xq_ep c576 E
                refine J_lv [1, 2, 3, 4, 5, 6] rfl ?_
                exact jn562 w428 g573  E
              · replace E := xq_en c576 E
                refine J_iload (i := 8) (j := 0) dX0_fewestDays_81 rfl ?_
                refine J_istore (i := 6) (lw := [(6, .int v543), (8, .int v543), (0, .ref 56), (1, .ref 44), (2, .int ponds), (4, .long l20), (7, .int w429)]) dX0_fewestDays_83 (by decide) rfl ?_
                refine J_lv [2, 3, 4, 5, 0, 6] rfl ?_
                exact jn562 v543 g573  E
  refine J_lv [3, 4, 5, 2, 1, 0] rfl ?_
  exact lp502 ((512 - (0 : Int32).toInt).toNat + 1) ((-1) : Int32) (0 : Int32) g17 (bd_w (l := 0) (h := 512) (bd_c (v := 0) (lo := 0) (hi := 0) (by decide)) (by decide)) (Nat.lt_succ_self _) E
set_option maxRecDepth 100000 in
noncomputable def Fx_P_canMendX (hill : Int32) (plan : Int32) (ponds : Int32) (limit : Int32) (most : Int32) (u : Nat → Nat → Int32) (g : Nat → Nat → Int64) : Bool × (Nat → Nat → Int32) := xq_c2 (Fx_P_laysX hill plan u g) fun t2 u3 => if t2 = true then (xq_lt (Fx_H_hasSetX ponds 44 u3 g) fun t13 => if t13 = true then (xq_lt (Fx_bitCountX ponds u3 g) fun v18 => if (5 : Int32) < v18 then ((false, u3)) else (if limit < (0 : Int32) then ((false, u3)) else (if most < limit then ((false, u3)) else ((true, u3))))) else ((false, u3))) else ((false, u3))
set_option maxHeartbeats 4000000 in
set_option maxRecDepth 100000 in
theorem c_P_canMendX {d : Nat} {u : Nat → Nat → Int32} {g : Nat → Nat → Int64} {ex : List MC} {hill : Int32} {plan : Int32} {ponds : Int32} {limit : Int32} {most : Int32} (hd : 5 ≤ d) (hp0 : Bd 0 2 (u 1 5)) (hp1 : Bd 0 3 (u 1 7)) (hp2 : Bd 0 9 (u 44 0)) (hp3 : Bd 0 4 (u 44 2)) (hp4 : Bd 0 9 (u 5 0)) (hp5 : Bd 0 4 (u 5 2)) (hp6 : Bd 0 9 (u 10 0)) (hp7 : Bd 0 4 (u 10 2)) (hp8 : Bd 0 12 (u 15 0)) (hp9 : Bd 0 12 (u 19 0)) (hp10 : Bd 0 12 (u 23 0)) (hp11 : Bd 0 12 (u 49 0)) (hp12 : AB u 45 (-1) 999) (hp13 : AB u 6 (-1) 999) (hp14 : AB u 11 (-1) 999) (hp15 : (KM u 15)) (hp16 : (KM u 19)) (hp17 : (KM u 23)) (hp18 : (KM u 49)) : CT con0 d 0 0 yX10_canMend cX10_canMend 6 (some .boolean) [.ref 0, .int hill, .int plan, .int ponds, .int limit, .int most] (Wd u g ex) (fun r h2 => ∃ (z : Bool) (u2 : Nat → Nat → Int32), r = some (.int (bI z)) ∧ h2 = Wd u2 g ex ∧ (z = true → Bd 0 511 ponds) ∧ Bd 0 9 (u2 44 0) ∧ Bd 0 4 (u2 44 2) ∧ AB u2 45 (-1) 999 ∧ (z, u2) = Fx_P_canMendX hill plan ponds limit most u g ∧ (∀ c, nin c [(43, 48)] = true → u2 c = u c) ∧ (∀ j, j ≠ 1 → j ≠ 2 → j ≠ 3 → u2 43 j = u 43 j) ∧ (∀ j, j ≠ 0 → j ≠ 2 → u2 44 j = u 44 j)) := by
  refine CT_of (by decide) (Nat.le_of_ble_eq_true rfl) (fun x hq => ?_)
  show J x yX10_canMend cX10_canMend 6 (some .boolean) d 0 0 (Wd u g ex).length 0 [(0, .ref 0), (1, .int hill), (2, .int plan), (3, .int ponds), (4, .int limit), (5, .int most)] [] (Wd u g ex) 0 0
  have E : Fx_P_canMendX hill plan ponds limit most u g = Fx_P_canMendX hill plan ponds limit most u g := rfl
  refine J_aload_n (i := 0) (j := 0) dX10_canMend_0 rfl rfl ?_
  refine J_iload_n (i := 1) (j := 1) dX10_canMend_1 rfl rfl ?_
  refine J_iload_n (i := 2) (j := 2) dX10_canMend_2 rfl rfl ?_
  refine J_callV (As := [.int hill, .int plan]) (rest := []) dX10_canMend_3 (c_P_laysX (d := 4) (u := u) (g := g) (ex := ex) (hill := hill) (plan := plan)  (by decide) hp0 hp1 hp2 hp3 hp4 hp5 hp6 hp7 hp8 hp9 hp10 hp11 hp12 hp13 hp14 hp15 hp16 hp17 hp18) hq.n k723 k725 k12 wc_0 rfl rfl k87 k726 np_X10_lays (Nat.le_trans (by decide) hd) (by decide) (Nat.le_refl _) (Nat.le_refl _) wlen rfl (Nat.le_of_ble_eq_true rfl) (fun r_ h_ p1 => ?_)
  obtain ⟨t2, u3, rfl, rfl, h4, h5, h6, hx7, fr8, fc9, fc10⟩ := p1
  replace E := xq_e2 hx7 E
  refine J_ifB_eq (tgt := 47) dX10_canMend_6 (by decide) (fun c11 => ?_) (fun c11 => ?_)
  · replace E := xq_ef c11 E
    refine J_iconst (v := 0) dX10_canMend_47 (by decide) ?_
    exact J_zret hq dX10_canMend_48 rfl rfl wlen (Nat.le_refl _) (Nat.le_refl _) ⟨false, u3, rfl, rfl, (fun q => absurd q (by decide)), h4, h5, h6, E, (fun c k_ => (fr8 c (nin_sub (M := [(43, 48)]) k_ rfl))), (fun j k1_ k2_ k3_ => (fc9 j k1_ k2_ k3_)), (fun j k0_ k2_ => (fc10 j k0_ k2_))⟩
  · replace E := xq_ep c11 E
    refine J_aload_n (i := 0) (j := 0) dX10_canMend_9 rfl rfl ?_
    refine J_get (C := RX10) (T := TX10) (Z := 10) (ci := 10) (f := 4) dX10_canMend_10 inG10 rfl (by decide) k427 wc_0 rfl ?_
    refine J_getN (C := RX4) (T := TX4) (Z := 4) (ci := 4) (f := 0) dX10_canMend_13 inG4 rfl (by decide) k295 wc_43 rfl ?_
    refine J_iload_n (i := 3) (j := 3) dX10_canMend_16 rfl rfl ?_
    refine J_callV (As := [.int ponds]) (rest := []) dX10_canMend_17 (c_H_hasSetX (d := 1) (u := u3) (g := g) (ex := ex) (set := ponds) (t := 44) (by decide) (by decide) h4 h5) hq.n k942 k797 k798 wc_44 rfl rfl k89 k799 np_X1_hasSet (Nat.le_trans (by decide) hd) (by decide) (Nat.le_refl _) (Nat.le_refl _) wlen rfl (Nat.le_of_ble_eq_true rfl) (fun r_ h_ p12 => ?_)
    obtain ⟨t13, rfl, rfl, h14, hx15⟩ := p12
    replace E := xq_le hx15 E
    refine J_ifB_eq (tgt := 47) dX10_canMend_20 (by decide) (fun c16 => ?_) (fun c16 => ?_)
    · replace E := xq_ef c16 E
      refine J_iconst (v := 0) dX10_canMend_47 (by decide) ?_
      exact J_zret hq dX10_canMend_48 rfl rfl wlen (Nat.le_refl _) (Nat.le_refl _) ⟨false, u3, rfl, rfl, (fun q => absurd q (by decide)), h4, h5, h6, E, (fun c k_ => (fr8 c (nin_sub (M := [(43, 48)]) k_ rfl))), (fun j k1_ k2_ k3_ => (fc9 j k1_ k2_ k3_)), (fun j k0_ k2_ => (fc10 j k0_ k2_))⟩
    · replace E := xq_ep c16 E
      refine J_iload_n (i := 3) (j := 3) dX10_canMend_23 rfl rfl ?_
      refine J_callS (As := [.int ponds]) (rest := []) dX10_canMend_24 (c_bitCountX (d := 0) (u := u3) (g := g) (ex := ex) (i := ponds)  (by decide) ) hq.n k928 k929 k105 k930 np_J6_bitCount_0f7a4 (Nat.le_trans (by decide) hd) (by decide) (Nat.le_refl _) (Nat.le_refl _) wlen rfl (Nat.le_of_ble_eq_true rfl) (fun r_ h_ p17 => ?_)
      obtain ⟨v18, rfl, rfl, h19, hx20⟩ := p17
      replace E := xq_le hx20 E
      refine J_iconst (v := 5) dX10_canMend_27 (by decide) ?_
      refine J_icmp_gt (tgt := 47) dX10_canMend_28 (by decide) (fun c21 => ?_) (fun c21 => ?_)
      · replace E := xq_ep c21 E
        refine J_iconst (v := 0) dX10_canMend_47 (by decide) ?_
        exact J_zret hq dX10_canMend_48 rfl rfl wlen (Nat.le_refl _) (Nat.le_refl _) ⟨false, u3, rfl, rfl, (fun q => absurd q (by decide)), h4, h5, h6, E, (fun c k_ => (fr8 c (nin_sub (M := [(43, 48)]) k_ rfl))), (fun j k1_ k2_ k3_ => (fc9 j k1_ k2_ k3_)), (fun j k0_ k2_ => (fc10 j k0_ k2_))⟩
      · replace E := xq_en c21 E
        refine J_iload (i := 4) (j := 4) dX10_canMend_31 rfl ?_
        refine J_if_lt (tgt := 47) dX10_canMend_33 (by decide) (fun c22 => ?_) (fun c22 => ?_)
        · replace E := xq_ep c22 E
          refine J_iconst (v := 0) dX10_canMend_47 (by decide) ?_
          exact J_zret hq dX10_canMend_48 rfl rfl wlen (Nat.le_refl _) (Nat.le_refl _) ⟨false, u3, rfl, rfl, (fun q => absurd q (by decide)), h4, h5, h6, E, (fun c k_ => (fr8 c (nin_sub (M := [(43, 48)]) k_ rfl))), (fun j k1_ k2_ k3_ => (fc9 j k1_ k2_ k3_)), (fun j k0_ k2_ => (fc10 j k0_ k2_))⟩
        · replace E := xq_en c22 E
          refine J_iload (i := 4) (j := 4) dX10_canMend_36 rfl ?_
          refine J_iload (i := 5) (j := 5) dX10_canMend_38 rfl ?_
          refine J_icmp_gt (tgt := 47) dX10_canMend_40 (by decide) (fun c23 => ?_) (fun c23 => ?_)
          · replace E := xq_ep c23 E
            refine J_iconst (v := 0) dX10_canMend_47 (by decide) ?_
            exact J_zret hq dX10_canMend_48 rfl rfl wlen (Nat.le_refl _) (Nat.le_refl _) ⟨false, u3, rfl, rfl, (fun q => absurd q (by decide)), h4, h5, h6, E, (fun c k_ => (fr8 c (nin_sub (M := [(43, 48)]) k_ rfl))), (fun j k1_ k2_ k3_ => (fc9 j k1_ k2_ k3_)), (fun j k0_ k2_ => (fc10 j k0_ k2_))⟩
          · replace E := xq_en c23 E
            refine J_iconst (v := 1) dX10_canMend_43 (by decide) ?_
            refine J_goto (tgt := 48) dX10_canMend_44 (by decide) ?_
            exact J_zret hq dX10_canMend_48 rfl rfl wlen (Nat.le_refl _) (Nat.le_refl _) ⟨true, u3, rfl, rfl, (fun qb => (h14 c16)), h4, h5, h6, E, (fun c k_ => (fr8 c (nin_sub (M := [(43, 48)]) k_ rfl))), (fun j k1_ k2_ k3_ => (fc9 j k1_ k2_ k3_)), (fun j k0_ k2_ => (fc10 j k0_ k2_))⟩
set_option maxRecDepth 100000 in
noncomputable def Fx_P_spendX (hill : Int32) (plan : Int32) (ponds : Int32) (mm : Int32) (u : Nat → Nat → Int32) (g : Nat → Nat → Int64) : Int32 × (Nat → Nat → Int32) × (Nat → Nat → Int64) := xq_c2 (Fx_P_canMendX hill plan ponds mm (100 : Int32) u g) fun t2 u3 => if t2 = true then (xq_c3 (Fx_C_fewestDaysX ponds mm u3 g) fun v14 u15 g16 => (v14, u15, g16)) else ((((-1) : Int32), u3, g))
set_option maxHeartbeats 4000000 in
set_option maxRecDepth 100000 in
theorem c_P_spendX {d : Nat} {u : Nat → Nat → Int32} {g : Nat → Nat → Int64} {ex : List MC} {hill : Int32} {plan : Int32} {ponds : Int32} {mm : Int32} (hd : 6 ≤ d) (hp0 : Bd 0 2 (u 1 5)) (hp1 : Bd 0 3 (u 1 7)) (hp2 : Bd 0 9 (u 44 0)) (hp3 : Bd 0 4 (u 44 2)) (hp4 : Bd 0 9 (u 5 0)) (hp5 : Bd 0 4 (u 5 2)) (hp6 : Bd 0 9 (u 10 0)) (hp7 : Bd 0 4 (u 10 2)) (hp8 : Bd 0 12 (u 15 0)) (hp9 : Bd 0 12 (u 19 0)) (hp10 : Bd 0 12 (u 23 0)) (hp11 : Bd 0 12 (u 49 0)) (hp12 : AB u 45 (-1) 999) (hp13 : AB u 6 (-1) 999) (hp14 : AB u 11 (-1) 999) (hp15 : (KM u 15)) (hp16 : (KM u 19)) (hp17 : (KM u 23)) (hp18 : (KM u 49)) (hp19 : Bd 0 9 (u 61 0)) (hp20 : Bd 0 4 (u 61 2)) (hp21 : AB u 66 0 511) : CT con0 d 0 0 yX10_spend cX10_spend 5 (some .int) [.ref 0, .int hill, .int plan, .int ponds, .int mm] (Wd u g ex) (fun r h2 => ∃ (z : Int32) (u2 : Nat → Nat → Int32) (g2 : Nat → Nat → Int64), r = some (.int z) ∧ h2 = Wd u2 g2 ex ∧ Bd 0 9 (u2 44 0) ∧ Bd 0 4 (u2 44 2) ∧ AB u2 45 (-1) 999 ∧ Bd 0 9 (u2 61 0) ∧ Bd 0 4 (u2 61 2) ∧ AB u2 66 0 511 ∧ (z, u2, g2) = Fx_P_spendX hill plan ponds mm u g ∧ (∀ c, nin c [(43, 48), (58, 67)] = true → u2 c = u c) ∧ (∀ j, j ≠ 1 → j ≠ 2 → j ≠ 3 → u2 43 j = u 43 j) ∧ (∀ j, j ≠ 0 → j ≠ 2 → u2 44 j = u 44 j) ∧ (∀ j, j ≠ 0 → j ≠ 1 → j ≠ 2 → j ≠ 3 → j ≠ 4 → u2 58 j = u 58 j) ∧ (∀ j, j ≠ 0 → j ≠ 2 → u2 61 j = u 61 j)) := by
  refine CT_of (by decide) (Nat.le_of_ble_eq_true rfl) (fun x hq => ?_)
  show J x yX10_spend cX10_spend 5 (some .int) d 0 0 (Wd u g ex).length 0 [(0, .ref 0), (1, .int hill), (2, .int plan), (3, .int ponds), (4, .int mm)] [] (Wd u g ex) 0 0
  have E : Fx_P_spendX hill plan ponds mm u g = Fx_P_spendX hill plan ponds mm u g := rfl
  refine J_aload_n (i := 0) (j := 0) dX10_spend_0 rfl rfl ?_
  refine J_iload_n (i := 1) (j := 1) dX10_spend_1 rfl rfl ?_
  refine J_iload_n (i := 2) (j := 2) dX10_spend_2 rfl rfl ?_
  refine J_iload_n (i := 3) (j := 3) dX10_spend_3 rfl rfl ?_
  refine J_iload (i := 4) (j := 4) dX10_spend_4 rfl ?_
  refine J_bipush (v := 100) dX10_spend_6 (by decide) ?_
  refine J_callV (As := [.int hill, .int plan, .int ponds, .int mm, .int 100]) (rest := []) dX10_spend_8 (c_P_canMendX (d := 5) (u := u) (g := g) (ex := ex) (hill := hill) (plan := plan) (ponds := ponds) (limit := mm) (most := 100)  (by decide) hp0 hp1 hp2 hp3 hp4 hp5 hp6 hp7 hp8 hp9 hp10 hp11 hp12 hp13 hp14 hp15 hp16 hp17 hp18) hq.n k938 k940 k26 wc_0 rfl rfl k87 k941 np_X10_canMend (Nat.le_trans (by decide) hd) (by decide) (Nat.le_refl _) (Nat.le_refl _) wlen rfl (Nat.le_of_ble_eq_true rfl) (fun r_ h_ p1 => ?_)
  obtain ⟨t2, u3, rfl, rfl, h4, h5, h6, h7, hx8, fr9, fc10, fc11⟩ := p1
  replace E := xq_e2 hx8 E
  refine J_ifB_eq (tgt := 34) dX10_spend_11 (by decide) (fun c12 => ?_) (fun c12 => ?_)
  · replace E := xq_ef c12 E
    refine J_iconst (v := (-1)) dX10_spend_34 (by decide) ?_
    exact J_iret hq dX10_spend_35 rfl wlen (Nat.le_refl _) (Nat.le_refl _) ⟨((-1) : Int32), u3, g, rfl, rfl, h5, h6, h7, (bd_r (congrFun (fr9 61 rfl) 0) hp19), (bd_r (congrFun (fr9 61 rfl) 2) hp20), (ab_c (fr9 66 rfl) hp21), E, (fun c k_ => (fr9 c (nin_sub (M := [(43, 48)]) k_ rfl))), (fun j k1_ k2_ k3_ => (fc10 j k1_ k2_ k3_)), (fun j k0_ k2_ => (fc11 j k0_ k2_)), (fun j k0_ k1_ k2_ k3_ k4_ => (congrFun (fr9 58 rfl) j)), (fun j k0_ k2_ => (congrFun (fr9 61 rfl) j))⟩
  · replace E := xq_ep c12 E
    refine J_aload_n (i := 0) (j := 0) dX10_spend_14 rfl rfl ?_
    refine J_get (C := RX10) (T := TX10) (Z := 10) (ci := 10) (f := 7) dX10_spend_15 inG10 rfl (by decide) k430 wc_0 rfl ?_
    refine J_aload_n (i := 0) (j := 0) dX10_spend_18 rfl rfl ?_
    refine J_get (C := RX10) (T := TX10) (Z := 10) (ci := 10) (f := 4) dX10_spend_19 inG10 rfl (by decide) k427 wc_0 rfl ?_
    refine J_getN (C := RX4) (T := TX4) (Z := 4) (ci := 4) (f := 0) dX10_spend_22 inG4 rfl (by decide) k295 wc_43 rfl ?_
    refine J_iload_n (i := 3) (j := 3) dX10_spend_25 rfl rfl ?_
    refine J_iload (i := 4) (j := 4) dX10_spend_26 rfl ?_
    refine J_callV (As := [.ref 44, .int ponds, .int mm]) (rest := []) dX10_spend_28 (c_C_fewestDaysX (d := 4) (u := u3) (g := g) (ex := ex) (ponds := ponds) (mm := mm)  (by decide) h5 h6 (ab_c (fr9 66 rfl) hp21) (h4 c12)) hq.n k1236 k1237 k1238 wc_56 rfl rfl k95 k1239 np_X0_fewestDays (Nat.le_trans (by decide) hd) (by decide) (Nat.le_refl _) (Nat.le_refl _) wlen rfl (Nat.le_of_ble_eq_true rfl) (fun r_ h_ p13 => ?_)
    obtain ⟨v14, u15, g16, rfl, rfl, h17, h18, h19, hx20, fr21, fc22, fc23⟩ := p13
    replace E := xq_e3 hx20 E
    refine J_goto (tgt := 35) dX10_spend_31 (by decide) ?_
    exact J_iret hq dX10_spend_35 rfl wlen (Nat.le_refl _) (Nat.le_refl _) ⟨v14, u15, g16, rfl, rfl, (bd_r (congrFun (fr21 44 rfl) 0) h5), (bd_r (congrFun (fr21 44 rfl) 2) h6), (ab_c (fr21 45 rfl) h7), h17, h18, h19, E, (fun c k_ => ((fr21 c (nin_sub (M := [(58, 67)]) k_ rfl)).trans (fr9 c (nin_sub (M := [(43, 48)]) k_ rfl)))), (fun j k1_ k2_ k3_ => ((congrFun (fr21 43 rfl) j).trans (fc10 j k1_ k2_ k3_))), (fun j k0_ k2_ => ((congrFun (fr21 44 rfl) j).trans (fc11 j k0_ k2_))), (fun j k0_ k1_ k2_ k3_ k4_ => ((fc22 j k0_ k1_ k2_ k3_ k4_).trans (congrFun (fr9 58 rfl) j))), (fun j k0_ k2_ => ((fc23 j k0_ k2_).trans (congrFun (fr9 61 rfl) j)))⟩
set_option maxRecDepth 100000 in
noncomputable def Fx_M_hasX (set : Int32) (k : Int32) (u : Nat → Nat → Int32) (g : Nat → Nat → Int64) : Bool := if ((set >>> (k &&& 31)) &&& 1) = (1 : Int32) then (true) else (false)
set_option maxHeartbeats 4000000 in
set_option maxRecDepth 100000 in
theorem c_M_hasX {d : Nat} {u : Nat → Nat → Int32} {g : Nat → Nat → Int64} {ex : List MC} {set : Int32} {k : Int32} (hd : 0 ≤ d)  : CT con0 d 0 0 yX11_has cX11_has 2 (some .boolean) [.int set, .int k] (Wd u g ex) (fun r h2 => ∃ (z : Bool), r = some (.int (bI z)) ∧ h2 = Wd u g ex ∧ z = Fx_M_hasX set k u g) := by
  refine CT_of (by decide) (Nat.le_of_ble_eq_true rfl) (fun x hq => ?_)
  show J x yX11_has cX11_has 2 (some .boolean) d 0 0 (Wd u g ex).length 0 [(0, .int set), (1, .int k)] [] (Wd u g ex) 0 0
  have E : Fx_M_hasX set k u g = Fx_M_hasX set k u g := rfl
  refine J_iload_n (i := 0) (j := 0) dX11_has_0 rfl rfl ?_
  refine J_iload_n (i := 1) (j := 1) dX11_has_1 rfl rfl ?_
  refine J_ishr dX11_has_2 ?_
  refine J_iconst (v := 1) dX11_has_3 (by decide) ?_
  refine J_iand dX11_has_4 ?_
  refine J_iconst (v := 1) dX11_has_5 (by decide) ?_
  refine J_icmp_ne (tgt := 13) dX11_has_6 (by decide) (fun c1 => ?_) (fun c1 => ?_)
  · replace E := xq_en c1 E
    refine J_iconst (v := 0) dX11_has_13 (by decide) ?_
    exact J_zret hq dX11_has_14 rfl rfl wlen (Nat.le_refl _) (Nat.le_refl _) ⟨false, rfl, rfl, E⟩
  · replace E := xq_ep c1 E
    refine J_iconst (v := 1) dX11_has_9 (by decide) ?_
    refine J_goto (tgt := 14) dX11_has_10 (by decide) ?_
    exact J_zret hq dX11_has_14 rfl rfl wlen (Nat.le_refl _) (Nat.le_refl _) ⟨true, rfl, rfl, E⟩
set_option maxRecDepth 100000 in
noncomputable def Fx_M_arePondsX (set : Int32) (u : Nat → Nat → Int32) (g : Nat → Nat → Int64) : Bool := if set < (0 : Int32) then (false) else (if (set >>> ((u 162 22) &&& 31)) = (0 : Int32) then (true) else (false))
set_option maxHeartbeats 4000000 in
set_option maxRecDepth 100000 in
theorem c_M_arePondsX {d : Nat} {u : Nat → Nat → Int32} {g : Nat → Nat → Int64} {ex : List MC} {set : Int32} (hd : 0 ≤ d) (hp0 : Bd 0 9 (u 162 22)) : CT con0 d 0 0 yX11_arePonds cX11_arePonds 2 (some .boolean) [.ref 162, .int set] (Wd u g ex) (fun r h2 => ∃ (z : Bool), r = some (.int (bI z)) ∧ h2 = Wd u g ex ∧ (z = true → Bd 0 511 set) ∧ z = Fx_M_arePondsX set u g) := by
  refine CT_of (by decide) (Nat.le_of_ble_eq_true rfl) (fun x hq => ?_)
  show J x yX11_arePonds cX11_arePonds 2 (some .boolean) d 0 0 (Wd u g ex).length 0 [(0, .ref 162), (1, .int set)] [] (Wd u g ex) 0 0
  have E : Fx_M_arePondsX set u g = Fx_M_arePondsX set u g := rfl
  refine J_iload_n (i := 1) (j := 1) dX11_arePonds_0 rfl rfl ?_
  refine J_if_lt (tgt := 17) dX11_arePonds_1 (by decide) (fun c1 => ?_) (fun c1 => ?_)
  · replace E := xq_ep c1 E
    refine J_iconst (v := 0) dX11_arePonds_17 (by decide) ?_
    exact J_zret hq dX11_arePonds_18 rfl rfl wlen (Nat.le_refl _) (Nat.le_refl _) ⟨false, rfl, rfl, (fun q => absurd q (by decide)), E⟩
  · replace E := xq_en c1 E
    refine J_iload_n (i := 1) (j := 1) dX11_arePonds_4 rfl rfl ?_
    refine J_aload_n (i := 0) (j := 0) dX11_arePonds_5 rfl rfl ?_
    refine J_get (C := RX11) (T := TX11) (Z := 43) (ci := 11) (f := 22) dX11_arePonds_6 inG11 rfl (by decide) k1286 wc_162 rfl ?_
    refine J_ishr dX11_arePonds_9 ?_
    refine J_if_ne (tgt := 17) dX11_arePonds_10 (by decide) (fun c2 => ?_) (fun c2 => ?_)
    · replace E := xq_en c2 E
      refine J_iconst (v := 0) dX11_arePonds_17 (by decide) ?_
      exact J_zret hq dX11_arePonds_18 rfl rfl wlen (Nat.le_refl _) (Nat.le_refl _) ⟨false, rfl, rfl, (fun q => absurd q (by decide)), E⟩
    · replace E := xq_ep c2 E
      refine J_iconst (v := 1) dX11_arePonds_13 (by decide) ?_
      refine J_goto (tgt := 18) dX11_arePonds_14 (by decide) ?_
      exact J_zret hq dX11_arePonds_18 rfl rfl wlen (Nat.le_refl _) (Nat.le_refl _) ⟨true, rfl, rfl, (fun _ => (arep (i_nlt c1) hp0 c2)), E⟩
set_option maxRecDepth 100000 in
noncomputable def Fx_M_setX (p : Int32) (what : Int32) (v : Int32) (u : Nat → Nat → Int32) (g : Nat → Nat → Int64) : (Nat → Nat → Int32) := xq_lt (ms u 172 ((((13 : Int32) + ((16 : Int32) * p)) + what).toNatClampNeg) v) fun u1 => u1
set_option maxHeartbeats 4000000 in
set_option maxRecDepth 100000 in
theorem c_M_setX {d : Nat} {u : Nat → Nat → Int32} {g : Nat → Nat → Int64} {ex : List MC} {p : Int32} {what : Int32} {v : Int32} (hd : 0 ≤ d) (hp0 : Bd 0 8 p) (hp1 : Bd 0 15 what) : CT con0 d 0 0 yX11_set cX11_set 4 none [.ref 162, .int p, .int what, .int v] (Wd u g ex) (fun r h2 => ∃ (u2 : Nat → Nat → Int32), r = none ∧ h2 = Wd u2 g ex ∧ (u2 = ms u 172 (13 + 16 * p + what).toNatClampNeg v) ∧ u2 = Fx_M_setX p what v u g ∧ (∀ c, c ≠ 172 → u2 c = u c)) := by
  refine CT_of (by decide) (Nat.le_of_ble_eq_true rfl) (fun x hq => ?_)
  show J x yX11_set cX11_set 4 none d 0 0 (Wd u g ex).length 0 [(0, .ref 162), (1, .int p), (2, .int what), (3, .int v)] [] (Wd u g ex) 0 0
  have E : Fx_M_setX p what v u g = Fx_M_setX p what v u g := rfl
  refine J_aload_n (i := 0) (j := 0) dX11_set_0 rfl rfl ?_
  refine J_get (C := RX11) (T := TX11) (Z := 43) (ci := 11) (f := 21) dX11_set_1 inG11 rfl (by decide) k1285 wc_162 rfl ?_
  refine J_bipush (v := 13) dX11_set_4 (by decide) ?_
  refine J_bipush (v := 16) dX11_set_6 (by decide) ?_
  refine J_iload_n (i := 1) (j := 1) dX11_set_8 rfl rfl ?_
  refine J_imul dX11_set_9 ?_
  refine J_iadd dX11_set_10 ?_
  refine J_iload_n (i := 2) (j := 2) dX11_set_11 rfl rfl ?_
  refine J_iadd dX11_set_12 ?_
  refine J_iload_n (i := 3) (j := 3) dX11_set_13 rfl rfl ?_
  obtain ⟨u1, e2⟩ : ∃ z, z = ms u 172 ((((13 : Int32) + ((16 : Int32) * p)) + what).toNatClampNeg) v := ⟨_, rfl⟩
  refine J_iast dX11_set_14 wc_172 (vin (bd_add (l := 13) (h := 156) (bd_add (l := 13) (h := 141) (bd_c (v := 13) (lo := 13) (hi := 13) (by decide)) (bd_mul (l := 0) (h := 128) (bd_c (v := 16) (lo := 16) (hi := 16) (by decide)) hp0 (by decide)) (by decide)) hp1 (by decide)) (by decide)) (ws e2 wk_172 rfl) ?_
  replace E := xq_le e2 E
  exact J_vret hq dX11_set_15 rfl wlen (Nat.le_refl _) (Nat.le_refl _) ⟨u1, rfl, rfl, e2, E, (fun c k0_ => (ms_c e2 k0_))⟩
set_option maxRecDepth 100000 in
noncomputable def Fx_M_hearsX_L2 (p : Int32) (u : Nat → Nat → Int32) (g : Nat → Nat → Int64) (n_ : Nat) : (Int32) → Bool := Nat.rec (motive := fun _ => (Int32) → Bool) (fun _ => default) (fun n_ ih_ w54 => if p ≤ w54 then (false) else (if (mof u p (12 : Int32)) = ((-1) : Int32) then (false) else (xq_lt (Fx_M_hasX (u 162 31) w54 u g) fun t80 => if t80 = true then (if (mof u w54 (8 : Int32)) = p then (if (mof u w54 (11 : Int32)) < (mof u p (12 : Int32)) then (ih_ (w54 + 1)) else (true)) else (if (mof u w54 (9 : Int32)) = p then (if (mof u w54 (11 : Int32)) < (mof u p (12 : Int32)) then (ih_ (w54 + 1)) else (true)) else (ih_ (w54 + 1)))) else (ih_ (w54 + 1))))) n_
set_option maxRecDepth 100000 in
theorem Fx_M_hearsX_L2_s {p : Int32} {u : Nat → Nat → Int32} {g : Nat → Nat → Int64} {w54 : Int32} {n_ : Nat} : Fx_M_hearsX_L2 p u g (n_ + 1) w54 = if p ≤ w54 then (false) else (if (mof u p (12 : Int32)) = ((-1) : Int32) then (false) else (xq_lt (Fx_M_hasX (u 162 31) w54 u g) fun t80 => if t80 = true then (if (mof u w54 (8 : Int32)) = p then (if (mof u w54 (11 : Int32)) < (mof u p (12 : Int32)) then ((Fx_M_hearsX_L2 p u g n_) (w54 + 1)) else (true)) else (if (mof u w54 (9 : Int32)) = p then (if (mof u w54 (11 : Int32)) < (mof u p (12 : Int32)) then ((Fx_M_hearsX_L2 p u g n_) (w54 + 1)) else (true)) else ((Fx_M_hearsX_L2 p u g n_) (w54 + 1)))) else ((Fx_M_hearsX_L2 p u g n_) (w54 + 1)))) := rfl
set_option maxRecDepth 100000 in
noncomputable def Fx_M_hearsX (p : Int32) (u : Nat → Nat → Int32) (g : Nat → Nat → Int64) : Bool := Fx_M_hearsX_L2 p u g ((8 - (0 : Int32).toInt).toNat + 1) (0 : Int32)
set_option maxHeartbeats 4000000 in
set_option maxRecDepth 100000 in
theorem c_M_hearsX {d : Nat} {u : Nat → Nat → Int32} {g : Nat → Nat → Int64} {ex : List MC} {p : Int32} (hd : 1 ≤ d) (hp0 : Bd 0 8 p) : CT con0 d 0 0 yX11_hears cX11_hears 3 (some .boolean) [.ref 162, .int p] (Wd u g ex) (fun r h2 => ∃ (z : Bool), r = some (.int (bI z)) ∧ h2 = Wd u g ex ∧ z = Fx_M_hearsX p u g) := by
  refine CT_of (by decide) (Nat.le_of_ble_eq_true rfl) (fun x hq => ?_)
  show J x yX11_hears cX11_hears 3 (some .boolean) d 0 0 (Wd u g ex).length 0 [(0, .ref 162), (1, .int p)] [] (Wd u g ex) 0 0
  have E : Fx_M_hearsX p u g = Fx_M_hearsX p u g := rfl
  refine J_iconst (v := 0) dX11_hears_0 (by decide) ?_
  refine J_istore_n (i := 2) (lw := [(2, .int 0), (0, .ref 162), (1, .int p)]) dX11_hears_1 rfl (by decide) rfl ?_
  have lp72 : ∀ (n73 : Nat) (w54 : Int32), Bd 0 8 w54 → (8 - w54.toInt).toNat < n73 → Fx_M_hearsX_L2 p u g n73 w54 = Fx_M_hearsX p u g → J x yX11_hears cX11_hears 3 (some .boolean) d 0 0 (Wd u g ex).length 2 [(0, .ref 162), (1, .int p), (2, .int w54)] [] (Wd u g ex) 0 0 := by
    intro n73
    induction n73 with
    | zero => intro w54 bw54 hm75 _; exact absurd hm75 (Nat.not_lt_zero _)
    | succ n73 ih74 =>
      intro w54 bw54 hm75 E
      replace E := Fx_M_hearsX_L2_s.symm.trans E
      refine J_iload_n (i := 2) (j := 2) dX11_hears_2 rfl rfl ?_
      refine J_iload_n (i := 1) (j := 1) dX11_hears_3 rfl rfl ?_
      refine J_icmp_ge (tgt := 76) dX11_hears_4 (by decide) (fun c76 => ?_) (fun c76 => ?_)
      · replace E := xq_ep c76 E
        refine J_iconst (v := 0) dX11_hears_76 (by decide) ?_
        exact J_zret hq dX11_hears_77 rfl rfl wlen (Nat.le_refl _) (Nat.le_refl _) ⟨false, rfl, rfl, E⟩
      · replace E := xq_en c76 E
        refine J_aload_n (i := 0) (j := 0) dX11_hears_7 rfl rfl ?_
        refine J_iload_n (i := 1) (j := 1) dX11_hears_8 rfl rfl ?_
        refine J_bipush (v := 12) dX11_hears_9 (by decide) ?_
        refine J_callV (As := [.int p, .int 12]) (rest := []) dX11_hears_11 (c_M_of (d := 0) (u := u) (g := g) (ex := ex) (p := p) (what := 12)  (by decide) (bd_w (l := 0) (h := 8) (bd_lt_lo hp0 (i_nle c76) bw54) (by decide)) (bd_w (l := 0) (h := 15) (bd_c (v := 12) (lo := 12) (hi := 12) (by decide)) (by decide))) hq.n k1515 k1517 k55 wc_162 rfl rfl k97 k1518 np_X11_of (Nat.le_trans (by decide) hd) (by decide) (Nat.le_refl _) (Nat.le_refl _) wlen rfl (Nat.le_of_ble_eq_true rfl) (fun r_ h_ p77 => ?_)
        obtain ⟨rfl, rfl⟩ := p77
        refine J_iconst (v := (-1)) dX11_hears_14 (by decide) ?_
        refine J_icmp_eq (tgt := 76) dX11_hears_15 (by decide) (fun c78 => ?_) (fun c78 => ?_)
        · replace E := xq_ep c78 E
          refine J_iconst (v := 0) dX11_hears_76 (by decide) ?_
          exact J_zret hq dX11_hears_77 rfl rfl wlen (Nat.le_refl _) (Nat.le_refl _) ⟨false, rfl, rfl, E⟩
        · replace E := xq_en c78 E
          refine J_aload_n (i := 0) (j := 0) dX11_hears_18 rfl rfl ?_
          refine J_get (C := RX11) (T := TX11) (Z := 43) (ci := 11) (f := 31) dX11_hears_19 inG11 rfl (by decide) k1295 wc_162 rfl ?_
          refine J_iload_n (i := 2) (j := 2) dX11_hears_22 rfl rfl ?_
          refine J_callS (As := [.int (u 162 31), .int w54]) (rest := []) dX11_hears_23 (c_M_hasX (d := 0) (u := u) (g := g) (ex := ex) (set := u 162 31) (k := w54)  (by decide) ) hq.n k1555 k1556 k97 k1557 np_X11_has (Nat.le_trans (by decide) hd) (by decide) (Nat.le_refl _) (Nat.le_refl _) wlen rfl (Nat.le_of_ble_eq_true rfl) (fun r_ h_ p79 => ?_)
          obtain ⟨t80, rfl, rfl, hx81⟩ := p79
          replace E := xq_le hx81 E
          refine J_ifB_eq (tgt := 70) dX11_hears_26 (by decide) (fun c82 => ?_) (fun c82 => ?_)
          · replace E := xq_ef c82 E
            refine J_iinc (i := 2) (j := 2) (v := (w54 + 1)) (lw := [(2, .int (w54 + 1)), (0, .ref 162), (1, .int p)]) dX11_hears_70 rfl rfl (by decide) rfl ?_
            refine J_goto (tgt := 2) dX11_hears_73 (by decide) ?_
            refine J_lv [1, 2, 0] rfl ?_
            exact ih74 (w54 + 1) (bd_w (l := 0) (h := 8) (bd_add (l := 1) (h := 8) (bd_lt_hi bw54 (i_nle c76) hp0) (bd_c (v := 1) (lo := 1) (hi := 1) (by decide)) (by decide)) (by decide)) (mu_up 1 bw54 rfl (by decide) (bd_w (l := 1) (h := 8) (bd_add (l := 1) (h := 8) (bd_lt_hi bw54 (i_nle c76) hp0) (bd_c (v := 1) (lo := 1) (hi := 1) (by decide)) (by decide)) (by decide)) hm75) E
          · replace E := xq_ep c82 E
            refine J_aload_n (i := 0) (j := 0) dX11_hears_29 rfl rfl ?_
            refine J_iload_n (i := 2) (j := 2) dX11_hears_30 rfl rfl ?_
            refine J_bipush (v := 8) dX11_hears_31 (by decide) ?_
            refine J_callV (As := [.int w54, .int 8]) (rest := []) dX11_hears_33 (c_M_of (d := 0) (u := u) (g := g) (ex := ex) (p := w54) (what := 8)  (by decide) (bd_w (l := 0) (h := 8) (bd_lt_hi bw54 (i_nle c76) hp0) (by decide)) (bd_w (l := 0) (h := 15) (bd_c (v := 8) (lo := 8) (hi := 8) (by decide)) (by decide))) hq.n k1515 k1517 k55 wc_162 rfl rfl k97 k1518 np_X11_of (Nat.le_trans (by decide) hd) (by decide) (Nat.le_refl _) (Nat.le_refl _) wlen rfl (Nat.le_of_ble_eq_true rfl) (fun r_ h_ p83 => ?_)
            obtain ⟨rfl, rfl⟩ := p83
            refine J_iload_n (i := 1) (j := 1) dX11_hears_36 rfl rfl ?_
            refine J_icmp_eq (tgt := 51) dX11_hears_37 (by decide) (fun c84 => ?_) (fun c84 => ?_)
            · replace E := xq_ep c84 E
              refine J_aload_n (i := 0) (j := 0) dX11_hears_51 rfl rfl ?_
              refine J_iload_n (i := 2) (j := 2) dX11_hears_52 rfl rfl ?_
              refine J_bipush (v := 11) dX11_hears_53 (by decide) ?_
              refine J_callV (As := [.int w54, .int 11]) (rest := []) dX11_hears_55 (c_M_of (d := 0) (u := u) (g := g) (ex := ex) (p := w54) (what := 11)  (by decide) (bd_w (l := 0) (h := 8) (bd_lt_hi bw54 (i_nle c76) hp0) (by decide)) (bd_w (l := 0) (h := 15) (bd_c (v := 11) (lo := 11) (hi := 11) (by decide)) (by decide))) hq.n k1515 k1517 k55 wc_162 rfl rfl k97 k1518 np_X11_of (Nat.le_trans (by decide) hd) (by decide) (Nat.le_refl _) (Nat.le_refl _) wlen rfl (Nat.le_of_ble_eq_true rfl) (fun r_ h_ p85 => ?_)
              obtain ⟨rfl, rfl⟩ := p85
              refine J_aload_n (i := 0) (j := 0) dX11_hears_58 rfl rfl ?_
              refine J_iload_n (i := 1) (j := 1) dX11_hears_59 rfl rfl ?_
              refine J_bipush (v := 12) dX11_hears_60 (by decide) ?_
              refine J_callV (As := [.int p, .int 12]) (rest := [.int (mof u w54 (11 : Int32))]) dX11_hears_62 (c_M_of (d := 0) (u := u) (g := g) (ex := ex) (p := p) (what := 12)  (by decide) (bd_w (l := 0) (h := 8) (bd_lt_lo hp0 (i_nle c76) bw54) (by decide)) (bd_w (l := 0) (h := 15) (bd_c (v := 12) (lo := 12) (hi := 12) (by decide)) (by decide))) hq.n k1515 k1517 k55 wc_162 rfl rfl k97 k1518 np_X11_of (Nat.le_trans (by decide) hd) (by decide) (Nat.le_refl _) (Nat.le_refl _) wlen rfl (Nat.le_of_ble_eq_true rfl) (fun r_ h_ p86 => ?_)
              obtain ⟨rfl, rfl⟩ := p86
              refine J_icmp_lt (tgt := 70) dX11_hears_65 (by decide) (fun c87 => ?_) (fun c87 => ?_)
              · replace E := xq_ep c87 E
                refine J_iinc (i := 2) (j := 2) (v := (w54 + 1)) (lw := [(2, .int (w54 + 1)), (0, .ref 162), (1, .int p)]) dX11_hears_70 rfl rfl (by decide) rfl ?_
                refine J_goto (tgt := 2) dX11_hears_73 (by decide) ?_
                refine J_lv [1, 2, 0] rfl ?_
                exact ih74 (w54 + 1) (bd_w (l := 0) (h := 8) (bd_add (l := 1) (h := 8) (bd_lt_hi bw54 (i_nle c76) hp0) (bd_c (v := 1) (lo := 1) (hi := 1) (by decide)) (by decide)) (by decide)) (mu_up 1 bw54 rfl (by decide) (bd_w (l := 1) (h := 8) (bd_add (l := 1) (h := 8) (bd_lt_hi bw54 (i_nle c76) hp0) (bd_c (v := 1) (lo := 1) (hi := 1) (by decide)) (by decide)) (by decide)) hm75) E
              · replace E := xq_en c87 E
                refine J_iconst (v := 1) dX11_hears_68 (by decide) ?_
                exact J_zret hq dX11_hears_69 rfl rfl wlen (Nat.le_refl _) (Nat.le_refl _) ⟨true, rfl, rfl, E⟩
            · replace E := xq_en c84 E
              refine J_aload_n (i := 0) (j := 0) dX11_hears_40 rfl rfl ?_
              refine J_iload_n (i := 2) (j := 2) dX11_hears_41 rfl rfl ?_
              refine J_bipush (v := 9) dX11_hears_42 (by decide) ?_
              refine J_callV (As := [.int w54, .int 9]) (rest := []) dX11_hears_44 (c_M_of (d := 0) (u := u) (g := g) (ex := ex) (p := w54) (what := 9)  (by decide) (bd_w (l := 0) (h := 8) (bd_lt_hi bw54 (i_nle c76) hp0) (by decide)) (bd_w (l := 0) (h := 15) (bd_c (v := 9) (lo := 9) (hi := 9) (by decide)) (by decide))) hq.n k1515 k1517 k55 wc_162 rfl rfl k97 k1518 np_X11_of (Nat.le_trans (by decide) hd) (by decide) (Nat.le_refl _) (Nat.le_refl _) wlen rfl (Nat.le_of_ble_eq_true rfl) (fun r_ h_ p88 => ?_)
              obtain ⟨rfl, rfl⟩ := p88
              refine J_iload_n (i := 1) (j := 1) dX11_hears_47 rfl rfl ?_
              refine J_icmp_ne (tgt := 70) dX11_hears_48 (by decide) (fun c89 => ?_) (fun c89 => ?_)
              · replace E := xq_en c89 E
                refine J_iinc (i := 2) (j := 2) (v := (w54 + 1)) (lw := [(2, .int (w54 + 1)), (0, .ref 162), (1, .int p)]) dX11_hears_70 rfl rfl (by decide) rfl ?_
                refine J_goto (tgt := 2) dX11_hears_73 (by decide) ?_
                refine J_lv [1, 2, 0] rfl ?_
                exact ih74 (w54 + 1) (bd_w (l := 0) (h := 8) (bd_add (l := 1) (h := 8) (bd_lt_hi bw54 (i_nle c76) hp0) (bd_c (v := 1) (lo := 1) (hi := 1) (by decide)) (by decide)) (by decide)) (mu_up 1 bw54 rfl (by decide) (bd_w (l := 1) (h := 8) (bd_add (l := 1) (h := 8) (bd_lt_hi bw54 (i_nle c76) hp0) (bd_c (v := 1) (lo := 1) (hi := 1) (by decide)) (by decide)) (by decide)) hm75) E
              · replace E := xq_ep c89 E
                refine J_aload_n (i := 0) (j := 0) dX11_hears_51 rfl rfl ?_
                refine J_iload_n (i := 2) (j := 2) dX11_hears_52 rfl rfl ?_
                refine J_bipush (v := 11) dX11_hears_53 (by decide) ?_
                refine J_callV (As := [.int w54, .int 11]) (rest := []) dX11_hears_55 (c_M_of (d := 0) (u := u) (g := g) (ex := ex) (p := w54) (what := 11)  (by decide) (bd_w (l := 0) (h := 8) (bd_lt_hi bw54 (i_nle c76) hp0) (by decide)) (bd_w (l := 0) (h := 15) (bd_c (v := 11) (lo := 11) (hi := 11) (by decide)) (by decide))) hq.n k1515 k1517 k55 wc_162 rfl rfl k97 k1518 np_X11_of (Nat.le_trans (by decide) hd) (by decide) (Nat.le_refl _) (Nat.le_refl _) wlen rfl (Nat.le_of_ble_eq_true rfl) (fun r_ h_ p90 => ?_)
                obtain ⟨rfl, rfl⟩ := p90
                refine J_aload_n (i := 0) (j := 0) dX11_hears_58 rfl rfl ?_
                refine J_iload_n (i := 1) (j := 1) dX11_hears_59 rfl rfl ?_
                refine J_bipush (v := 12) dX11_hears_60 (by decide) ?_
                refine J_callV (As := [.int p, .int 12]) (rest := [.int (mof u w54 (11 : Int32))]) dX11_hears_62 (c_M_of (d := 0) (u := u) (g := g) (ex := ex) (p := p) (what := 12)  (by decide) (bd_w (l := 0) (h := 8) (bd_lt_lo hp0 (i_nle c76) bw54) (by decide)) (bd_w (l := 0) (h := 15) (bd_c (v := 12) (lo := 12) (hi := 12) (by decide)) (by decide))) hq.n k1515 k1517 k55 wc_162 rfl rfl k97 k1518 np_X11_of (Nat.le_trans (by decide) hd) (by decide) (Nat.le_refl _) (Nat.le_refl _) wlen rfl (Nat.le_of_ble_eq_true rfl) (fun r_ h_ p91 => ?_)
                obtain ⟨rfl, rfl⟩ := p91
                refine J_icmp_lt (tgt := 70) dX11_hears_65 (by decide) (fun c92 => ?_) (fun c92 => ?_)
                · replace E := xq_ep c92 E
                  refine J_iinc (i := 2) (j := 2) (v := (w54 + 1)) (lw := [(2, .int (w54 + 1)), (0, .ref 162), (1, .int p)]) dX11_hears_70 rfl rfl (by decide) rfl ?_
                  refine J_goto (tgt := 2) dX11_hears_73 (by decide) ?_
                  refine J_lv [1, 2, 0] rfl ?_
                  exact ih74 (w54 + 1) (bd_w (l := 0) (h := 8) (bd_add (l := 1) (h := 8) (bd_lt_hi bw54 (i_nle c76) hp0) (bd_c (v := 1) (lo := 1) (hi := 1) (by decide)) (by decide)) (by decide)) (mu_up 1 bw54 rfl (by decide) (bd_w (l := 1) (h := 8) (bd_add (l := 1) (h := 8) (bd_lt_hi bw54 (i_nle c76) hp0) (bd_c (v := 1) (lo := 1) (hi := 1) (by decide)) (by decide)) (by decide)) hm75) E
                · replace E := xq_en c92 E
                  refine J_iconst (v := 1) dX11_hears_68 (by decide) ?_
                  exact J_zret hq dX11_hears_69 rfl rfl wlen (Nat.le_refl _) (Nat.le_refl _) ⟨true, rfl, rfl, E⟩
  refine J_lv [1, 2, 0] rfl ?_
  exact lp72 ((8 - (0 : Int32).toInt).toNat + 1) (0 : Int32) (bd_w (l := 0) (h := 8) (bd_c (v := 0) (lo := 0) (hi := 0) (by decide)) (by decide)) (Nat.lt_succ_self _) E
set_option maxRecDepth 100000 in
noncomputable def Fx_M_passX_J239 (p : Int32) (u49 : Nat → Nat → Int32) (w53 : Int32) : (Nat → Nat → Int32) := xq_lt (ms u49 175 p.toNatClampNeg w53) fun u55 => u55
set_option maxRecDepth 100000 in
noncomputable def Fx_M_passX_J214 (p : Int32) (u : Nat → Nat → Int32) (u36 : Nat → Nat → Int32) (w43 : Int32) (w47 : Int32) : (Nat → Nat → Int32) := xq_lt (ms u36 175 p.toNatClampNeg (w43 + w47)) fun u49 => if p = (u 162 26) then (Fx_M_passX_J239 p u49 (0 : Int32)) else (xq_lt (u49 175 p.toNatClampNeg) fun v57 => Fx_M_passX_J239 p u49 v57)
set_option maxRecDepth 100000 in
noncomputable def Fx_M_passX_J199 (p : Int32) (u : Nat → Nat → Int32) (t2 : Bool) (u36 : Nat → Nat → Int32) (w43 : Int32) : (Nat → Nat → Int32) := if t2 = true then (Fx_M_passX_J214 p u u36 w43 (mof u p (1 : Int32))) else (Fx_M_passX_J214 p u u36 w43 (0 : Int32))
set_option maxRecDepth 100000 in
noncomputable def Fx_M_passX_J163 (p : Int32) (u : Nat → Nat → Int32) (t2 : Bool) (u16 : Nat → Nat → Int32) (w23 : Int32) (w31 : Int32) (w34 : Int32) : (Nat → Nat → Int32) := xq_lt (ms u16 162 31 ((u 162 31) ||| w34)) fun u36 => if w31 = (0 : Int32) then (if (mof u p (15 : Int32)) = (1 : Int32) then (xq_lt (u36 173 p.toNatClampNeg) fun v62 => Fx_M_passX_J199 p u t2 u36 v62) else (Fx_M_passX_J199 p u t2 u36 w23)) else (xq_lt (u36 173 p.toNatClampNeg) fun v59 => Fx_M_passX_J199 p u t2 u36 v59)
set_option maxRecDepth 100000 in
noncomputable def Fx_M_passX_J144 (p : Int32) (u : Nat → Nat → Int32) (t2 : Bool) (u16 : Nat → Nat → Int32) (w23 : Int32) (w31 : Int32) : (Nat → Nat → Int32) := if w31 = (0 : Int32) then (Fx_M_passX_J163 p u t2 u16 w23 w31 (0 : Int32)) else (Fx_M_passX_J163 p u t2 u16 w23 w31 ((1 : Int32) <<< (p &&& 31)))
set_option maxRecDepth 100000 in
noncomputable def Fx_M_passX_J104 (p : Int32) (bank : Int32) (u : Nat → Nat → Int32) (t2 : Bool) (u16 : Nat → Nat → Int32) (w23 : Int32) : (Nat → Nat → Int32) := if (mof u p (15 : Int32)) = (0 : Int32) then (if p = (u 162 26) then (Fx_M_passX_J144 p u t2 u16 w23 (0 : Int32)) else (if bank = (0 : Int32) then (if w23 ≤ (mof u p (3 : Int32)) then (Fx_M_passX_J144 p u t2 u16 w23 (0 : Int32)) else (Fx_M_passX_J144 p u t2 u16 w23 (1 : Int32))) else (Fx_M_passX_J144 p u t2 u16 w23 (1 : Int32)))) else (Fx_M_passX_J144 p u t2 u16 w23 (0 : Int32))
set_option maxRecDepth 100000 in
noncomputable def Fx_M_passX_J70 (p : Int32) (steps : Int32) (bank : Int32) (u : Nat → Nat → Int32) (t2 : Bool) (u7 : Nat → Nat → Int32) (v11 : Int32) (w14 : Int32) : (Nat → Nat → Int32) := xq_lt (ms u7 173 p.toNatClampNeg ((((mof u p (1 : Int32)) + (steps * (mof u p (2 : Int32)))) + v11) - w14)) fun u16 => xq_lt (u16 173 p.toNatClampNeg) fun v18 => if v18 ≤ (mof u p (0 : Int32)) then (Fx_M_passX_J104 p bank u t2 u16 (0 : Int32)) else (xq_lt (u16 173 p.toNatClampNeg) fun v67 => Fx_M_passX_J104 p bank u t2 u16 (v67 - (mof u p (0 : Int32))))
set_option maxRecDepth 100000 in
noncomputable def Fx_M_passX_J24 (p : Int32) (steps : Int32) (bank : Int32) (u : Nat → Nat → Int32) (t2 : Bool) (w5 : Int32) : (Nat → Nat → Int32) := xq_lt (ms u 162 32 ((u 162 32) ||| w5)) fun u7 => xq_lt (u7 174 p.toNatClampNeg) fun v11 => if t2 = true then (Fx_M_passX_J70 p steps bank u t2 u7 v11 (mof u p (1 : Int32))) else (Fx_M_passX_J70 p steps bank u t2 u7 v11 (0 : Int32))
set_option maxRecDepth 100000 in
noncomputable def Fx_M_passX (p : Int32) (steps : Int32) (bank : Int32) (u : Nat → Nat → Int32) (g : Nat → Nat → Int64) : (Nat → Nat → Int32) := xq_lt (Fx_M_hearsX p u g) fun t2 => if t2 = true then (Fx_M_passX_J24 p steps bank u t2 ((1 : Int32) <<< (p &&& 31))) else (Fx_M_passX_J24 p steps bank u t2 (0 : Int32))
set_option maxHeartbeats 4000000 in
set_option maxRecDepth 100000 in
theorem c_M_passX {d : Nat} {u : Nat → Nat → Int32} {g : Nat → Nat → Int64} {ex : List MC} {p : Int32} {steps : Int32} {bank : Int32} (hd : 2 ≤ d) (hp0 : Bd 0 8 p) (hp1 : Bd 0 511 (u 162 31)) : CT con0 d 0 0 yX11_pass cX11_pass 7 none [.ref 162, .int p, .int steps, .int bank] (Wd u g ex) (fun r h2 => ∃ (u2 : Nat → Nat → Int32), r = none ∧ h2 = Wd u2 g ex ∧ Bd 0 511 (u2 162 31) ∧ u2 = Fx_M_passX p steps bank u g ∧ (∀ c, nin c [(162, 162), (173, 173), (175, 175)] = true → u2 c = u c) ∧ (∀ j, j ≠ 31 → j ≠ 32 → u2 162 j = u 162 j)) := by
  refine CT_of (by decide) (Nat.le_of_ble_eq_true rfl) (fun x hq => ?_)
  show J x yX11_pass cX11_pass 7 none d 0 0 (Wd u g ex).length 0 [(0, .ref 162), (1, .int p), (2, .int steps), (3, .int bank)] [] (Wd u g ex) 0 0
  have E : Fx_M_passX p steps bank u g = Fx_M_passX p steps bank u g := rfl
  refine J_aload_n (i := 0) (j := 0) dX11_pass_0 rfl rfl ?_
  refine J_iload_n (i := 1) (j := 1) dX11_pass_1 rfl rfl ?_
  refine J_callV (As := [.int p]) (rest := []) dX11_pass_2 (c_M_hearsX (d := 1) (u := u) (g := g) (ex := ex) (p := p)  (by decide) hp0) hq.n k1562 k1564 k63 wc_162 rfl rfl k97 k1565 np_X11_hears (Nat.le_trans (by decide) hd) (by decide) (Nat.le_refl _) (Nat.le_refl _) wlen rfl (Nat.le_of_ble_eq_true rfl) (fun r_ h_ p1 => ?_)
  obtain ⟨t2, rfl, rfl, hx3⟩ := p1
  replace E := xq_le hx3 E
  refine J_istore (i := 4) (lw := [(4, .int (bI t2)), (0, .ref 162), (1, .int p), (2, .int steps), (3, .int bank)]) dX11_pass_5 (by decide) rfl ?_
  refine J_aload_n (i := 0) (j := 1) dX11_pass_7 rfl rfl ?_
  refine J_dup dX11_pass_8 rfl ?_
  refine J_get (C := RX11) (T := TX11) (Z := 43) (ci := 11) (f := 32) dX11_pass_9 inG11 rfl (by decide) k1296 wc_162 rfl ?_
  refine J_iload (i := 4) (j := 0) dX11_pass_12 rfl ?_
  have jn6 : ∀ (w5 : Int32), Bd 0 256 w5 → Fx_M_passX_J24 p steps bank u t2 w5 = Fx_M_passX p steps bank u g → J x yX11_pass cX11_pass 7 none d 0 0 (Wd u g ex).length 24 [(0, .ref 162), (1, .int p), (2, .int steps), (3, .int bank), (4, .int (bI t2))] [.int w5, .int (u 162 32), .ref 162] (Wd u g ex) 0 0 := by
    intro w5 bw5 E
    refine J_ior dX11_pass_24 ?_
    obtain ⟨u7, e8⟩ : ∃ z, z = ms u 162 32 ((u 162 32) ||| w5) := ⟨_, rfl⟩
    refine J_put (C := RX11) (T := TX11) (Z := 43) (ci := 11) (f := 32) (ty0 := tyX11) dX11_pass_25 inG11 rfl tyX11_ok nmX11 (by decide) k1296 rfl rfl wc_162 (Nat.le_of_ble_eq_true rfl) (fun _ _ => ⟨rfl, rfl⟩) (ws e8 wk_162 rfl) ?_
    replace E := xq_le e8 E
    refine J_aload_n (i := 0) (j := 0) dX11_pass_28 rfl rfl ?_
    refine J_get (C := RX11) (T := TX11) (Z := 43) (ci := 11) (f := 28) dX11_pass_29 inG11 rfl (by decide) k1292 wc_162 rfl ?_
    refine J_iload_n (i := 1) (j := 1) dX11_pass_32 rfl rfl ?_
    refine J_aload_n (i := 0) (j := 0) dX11_pass_33 rfl rfl ?_
    refine J_iload_n (i := 1) (j := 1) dX11_pass_34 rfl rfl ?_
    refine J_iconst (v := 1) dX11_pass_35 (by decide) ?_
    refine J_callV (As := [.int p, .int 1]) (rest := [.int p, .ref 173]) dX11_pass_36 (c_M_of (d := 0) (u := u7) (g := g) (ex := ex) (p := p) (what := 1)  (by decide) hp0 (bd_w (l := 0) (h := 15) (bd_c (v := 1) (lo := 1) (hi := 1) (by decide)) (by decide))) hq.n k1515 k1517 k55 wc_162 rfl rfl k97 k1518 np_X11_of (Nat.le_trans (by decide) hd) (by decide) (Nat.le_refl _) (Nat.le_refl _) wlen rfl (Nat.le_of_ble_eq_true rfl) (fun r_ h_ p9 => ?_)
    obtain ⟨rfl, rfl⟩ := p9
    refine J_ci (v := (mof u p (1 : Int32))) (mof_c (ms_c e8 (Nat.ne_of_beq_eq_false rfl))) ?_
    refine J_iload_n (i := 2) (j := 2) dX11_pass_39 rfl rfl ?_
    refine J_aload_n (i := 0) (j := 0) dX11_pass_40 rfl rfl ?_
    refine J_iload_n (i := 1) (j := 1) dX11_pass_41 rfl rfl ?_
    refine J_iconst (v := 2) dX11_pass_42 (by decide) ?_
    refine J_callV (As := [.int p, .int 2]) (rest := [.int steps, .int (mof u p (1 : Int32)), .int p, .ref 173]) dX11_pass_43 (c_M_of (d := 0) (u := u7) (g := g) (ex := ex) (p := p) (what := 2)  (by decide) hp0 (bd_w (l := 0) (h := 15) (bd_c (v := 2) (lo := 2) (hi := 2) (by decide)) (by decide))) hq.n k1515 k1517 k55 wc_162 rfl rfl k97 k1518 np_X11_of (Nat.le_trans (by decide) hd) (by decide) (Nat.le_refl _) (Nat.le_refl _) wlen rfl (Nat.le_of_ble_eq_true rfl) (fun r_ h_ p10 => ?_)
    obtain ⟨rfl, rfl⟩ := p10
    refine J_ci (v := (mof u p (2 : Int32))) (mof_c (ms_c e8 (Nat.ne_of_beq_eq_false rfl))) ?_
    refine J_imul dX11_pass_46 ?_
    refine J_iadd dX11_pass_47 ?_
    refine J_aload_n (i := 0) (j := 0) dX11_pass_48 rfl rfl ?_
    refine J_get (C := RX11) (T := TX11) (Z := 43) (ci := 11) (f := 29) dX11_pass_49 inG11 rfl (by decide) k1293 wc_162 rfl ?_
    refine J_iload_n (i := 1) (j := 1) dX11_pass_52 rfl rfl ?_
    refine J_iald dX11_pass_53 wc_174 (vin hp0 (by decide)) ?_
    refine J_topi (fun v11 qv11 => ?_)
    replace E := xq_le qv11 E
    refine J_iadd dX11_pass_54 ?_
    refine J_iload (i := 4) (j := 4) dX11_pass_55 rfl ?_
    have jn15 : ∀ (w14 : Int32), Fx_M_passX_J70 p steps bank u t2 u7 v11 w14 = Fx_M_passX p steps bank u g → J x yX11_pass cX11_pass 7 none d 0 0 (Wd u g ex).length 70 [(0, .ref 162), (1, .int p), (3, .int bank), (4, .int (bI t2))] [.int w14, .int (((mof u p (1 : Int32)) + (steps * (mof u p (2 : Int32)))) + v11), .int p, .ref 173] (Wd u7 g ex) 0 0 := by
      intro w14 E
      refine J_isub dX11_pass_70 ?_
      obtain ⟨u16, e17⟩ : ∃ z, z = ms u7 173 p.toNatClampNeg ((((mof u p (1 : Int32)) + (steps * (mof u p (2 : Int32)))) + v11) - w14) := ⟨_, rfl⟩
      refine J_iast dX11_pass_71 wc_173 (vin hp0 (by decide)) (ws e17 wk_173 rfl) ?_
      replace E := xq_le e17 E
      refine J_aload_n (i := 0) (j := 0) dX11_pass_72 rfl rfl ?_
      refine J_get (C := RX11) (T := TX11) (Z := 43) (ci := 11) (f := 28) dX11_pass_73 inG11 rfl (by decide) k1292 wc_162 rfl ?_
      refine J_iload_n (i := 1) (j := 1) dX11_pass_76 rfl rfl ?_
      refine J_iald dX11_pass_77 wc_173 (vin hp0 (by decide)) ?_
      refine J_topi (fun v18 qv18 => ?_)
      replace E := xq_le qv18 E
      refine J_aload_n (i := 0) (j := 0) dX11_pass_78 rfl rfl ?_
      refine J_iload_n (i := 1) (j := 1) dX11_pass_79 rfl rfl ?_
      refine J_iconst (v := 0) dX11_pass_80 (by decide) ?_
      refine J_callV (As := [.int p, .int 0]) (rest := [.int v18]) dX11_pass_81 (c_M_of (d := 0) (u := u16) (g := g) (ex := ex) (p := p) (what := 0)  (by decide) hp0 (bd_w (l := 0) (h := 15) (bd_c (v := 0) (lo := 0) (hi := 0) (by decide)) (by decide))) hq.n k1515 k1517 k55 wc_162 rfl rfl k97 k1518 np_X11_of (Nat.le_trans (by decide) hd) (by decide) (Nat.le_refl _) (Nat.le_refl _) wlen rfl (Nat.le_of_ble_eq_true rfl) (fun r_ h_ p19 => ?_)
      obtain ⟨rfl, rfl⟩ := p19
      refine J_ci (v := (mof u p (0 : Int32))) (mof_c ((ms_c e17 (Nat.ne_of_beq_eq_false rfl)).trans (ms_c e8 (Nat.ne_of_beq_eq_false rfl)))) ?_
      have jn24 : ∀ (w23 : Int32), Fx_M_passX_J104 p bank u t2 u16 w23 = Fx_M_passX p steps bank u g → J x yX11_pass cX11_pass 7 none d 0 0 (Wd u g ex).length 104 [(0, .ref 162), (1, .int p), (3, .int bank), (4, .int (bI t2))] [.int w23] (Wd u16 g ex) 0 0 := by
        intro w23 E
        refine J_istore (i := 5) (lw := [(5, .int w23), (0, .ref 162), (1, .int p), (3, .int bank), (4, .int (bI t2))]) dX11_pass_104 (by decide) rfl ?_
        refine J_aload_n (i := 0) (j := 1) dX11_pass_106 rfl rfl ?_
        refine J_iload_n (i := 1) (j := 2) dX11_pass_107 rfl rfl ?_
        refine J_bipush (v := 15) dX11_pass_108 (by decide) ?_
        refine J_callV (As := [.int p, .int 15]) (rest := []) dX11_pass_110 (c_M_of (d := 0) (u := u16) (g := g) (ex := ex) (p := p) (what := 15)  (by decide) hp0 (bd_w (l := 0) (h := 15) (bd_c (v := 15) (lo := 15) (hi := 15) (by decide)) (by decide))) hq.n k1515 k1517 k55 wc_162 rfl rfl k97 k1518 np_X11_of (Nat.le_trans (by decide) hd) (by decide) (Nat.le_refl _) (Nat.le_refl _) wlen rfl (Nat.le_of_ble_eq_true rfl) (fun r_ h_ p25 => ?_)
        obtain ⟨rfl, rfl⟩ := p25
        refine J_ci (v := (mof u p (15 : Int32))) (mof_c ((ms_c e17 (Nat.ne_of_beq_eq_false rfl)).trans (ms_c e8 (Nat.ne_of_beq_eq_false rfl)))) ?_
        have jn32 : ∀ (w31 : Int32), Bd 0 1 w31 → Fx_M_passX_J144 p u t2 u16 w23 w31 = Fx_M_passX p steps bank u g → J x yX11_pass cX11_pass 7 none d 0 0 (Wd u g ex).length 144 [(0, .ref 162), (1, .int p), (4, .int (bI t2)), (5, .int w23)] [.int w31] (Wd u16 g ex) 0 0 := by
          intro w31 bw31 E
          refine J_istore (i := 6) (lw := [(6, .int w31), (0, .ref 162), (1, .int p), (4, .int (bI t2)), (5, .int w23)]) dX11_pass_144 (by decide) rfl ?_
          refine J_aload_n (i := 0) (j := 1) dX11_pass_146 rfl rfl ?_
          refine J_dup dX11_pass_147 rfl ?_
          refine J_get (C := RX11) (T := TX11) (Z := 43) (ci := 11) (f := 31) dX11_pass_148 inG11 rfl (by decide) k1295 wc_162 rfl ?_
          refine J_ci (v := u 162 31) ((congrFun (ms_c e17 (Nat.ne_of_beq_eq_false rfl)) 31).trans (ms_i e8 (Nat.ne_of_beq_eq_false rfl))) ?_
          refine J_iload (i := 6) (j := 0) dX11_pass_151 rfl ?_
          have jn35 : ∀ (w34 : Int32), Bd 0 256 w34 → Fx_M_passX_J163 p u t2 u16 w23 w31 w34 = Fx_M_passX p steps bank u g → J x yX11_pass cX11_pass 7 none d 0 0 (Wd u g ex).length 163 [(0, .ref 162), (1, .int p), (4, .int (bI t2)), (5, .int w23), (6, .int w31)] [.int w34, .int (u 162 31), .ref 162] (Wd u16 g ex) 0 0 := by
            intro w34 bw34 E
            refine J_ior dX11_pass_163 ?_
            obtain ⟨u36, e37⟩ : ∃ z, z = ms u16 162 31 ((u 162 31) ||| w34) := ⟨_, rfl⟩
            refine J_put (C := RX11) (T := TX11) (Z := 43) (ci := 11) (f := 31) (ty0 := tyX11) dX11_pass_164 inG11 rfl tyX11_ok nmX11 (by decide) k1295 rfl rfl wc_162 (Nat.le_of_ble_eq_true rfl) (fun _ _ => ⟨rfl, rfl⟩) (ws e37 wk_162 rfl) ?_
            replace E := xq_le e37 E
            refine J_aload_n (i := 0) (j := 0) dX11_pass_167 rfl rfl ?_
            refine J_get (C := RX11) (T := TX11) (Z := 43) (ci := 11) (f := 30) dX11_pass_168 inG11 rfl (by decide) k1294 wc_162 rfl ?_
            refine J_iload_n (i := 1) (j := 1) dX11_pass_171 rfl rfl ?_
            refine J_iload (i := 6) (j := 4) dX11_pass_172 rfl ?_
            have jn44 : ∀ (w43 : Int32), Fx_M_passX_J199 p u t2 u36 w43 = Fx_M_passX p steps bank u g → J x yX11_pass cX11_pass 7 none d 0 0 (Wd u g ex).length 199 [(0, .ref 162), (1, .int p), (4, .int (bI t2))] [.int w43, .int p, .ref 175] (Wd u36 g ex) 0 0 := by
              intro w43 E
              refine J_iload (i := 4) (j := 2) dX11_pass_199 rfl ?_
              have jn48 : ∀ (w47 : Int32), Fx_M_passX_J214 p u u36 w43 w47 = Fx_M_passX p steps bank u g → J x yX11_pass cX11_pass 7 none d 0 0 (Wd u g ex).length 214 [(0, .ref 162), (1, .int p)] [.int w47, .int w43, .int p, .ref 175] (Wd u36 g ex) 0 0 := by
                intro w47 E
                refine J_iadd dX11_pass_214 ?_
                obtain ⟨u49, e50⟩ : ∃ z, z = ms u36 175 p.toNatClampNeg (w43 + w47) := ⟨_, rfl⟩
                refine J_iast dX11_pass_215 wc_175 (vin hp0 (by decide)) (ws e50 wk_175 rfl) ?_
                replace E := xq_le e50 E
                refine J_aload_n (i := 0) (j := 0) dX11_pass_216 rfl rfl ?_
                refine J_get (C := RX11) (T := TX11) (Z := 43) (ci := 11) (f := 30) dX11_pass_217 inG11 rfl (by decide) k1294 wc_162 rfl ?_
                refine J_iload_n (i := 1) (j := 1) dX11_pass_220 rfl rfl ?_
                refine J_iload_n (i := 1) (j := 1) dX11_pass_221 rfl rfl ?_
                refine J_aload_n (i := 0) (j := 0) dX11_pass_222 rfl rfl ?_
                refine J_get (C := RX11) (T := TX11) (Z := 43) (ci := 11) (f := 26) dX11_pass_223 inG11 rfl (by decide) k1290 wc_162 rfl ?_
                refine J_ci (v := u 162 26) ((congrFun (ms_c e50 (Nat.ne_of_beq_eq_false rfl)) 26).trans ((ms_i e37 (Nat.ne_of_beq_eq_false rfl)).trans ((congrFun (ms_c e17 (Nat.ne_of_beq_eq_false rfl)) 26).trans (ms_i e8 (Nat.ne_of_beq_eq_false rfl))))) ?_
                have jn54 : ∀ (w53 : Int32), Fx_M_passX_J239 p u49 w53 = Fx_M_passX p steps bank u g → J x yX11_pass cX11_pass 7 none d 0 0 (Wd u g ex).length 239 [] [.int w53, .int p, .ref 175] (Wd u49 g ex) 0 0 := by
                  intro w53 E
                  obtain ⟨u55, e56⟩ : ∃ z, z = ms u49 175 p.toNatClampNeg w53 := ⟨_, rfl⟩
                  refine J_iast dX11_pass_239 wc_175 (vin hp0 (by decide)) (ws e56 wk_175 rfl) ?_
                  replace E := xq_le e56 E
                  exact J_vret hq dX11_pass_240 rfl wlen (Nat.le_refl _) (Nat.le_refl _) ⟨u55, rfl, rfl, (bd_r ((congrFun (ms_c e56 (Nat.ne_of_beq_eq_false rfl)) 31).trans ((congrFun (ms_c e50 (Nat.ne_of_beq_eq_false rfl)) 31).trans (ms_e e37))) (bd_or (k := 9) (h := 511) hp1 bw34 (by decide))), E, (fun c k_ => ((ms_c e56 (nin_ne (a := 175) k_ rfl)).trans ((ms_c e50 (nin_ne (a := 175) k_ rfl)).trans ((ms_c e37 (nin_ne (a := 162) k_ rfl)).trans ((ms_c e17 (nin_ne (a := 173) k_ rfl)).trans (ms_c e8 (nin_ne (a := 162) k_ rfl))))))), (fun j k31_ k32_ => ((congrFun (ms_c e56 (Nat.ne_of_beq_eq_false rfl)) j).trans ((congrFun (ms_c e50 (Nat.ne_of_beq_eq_false rfl)) j).trans ((ms_i e37 k31_).trans ((congrFun (ms_c e17 (Nat.ne_of_beq_eq_false rfl)) j).trans (ms_i e8 k32_))))))⟩
                refine J_icmp_ne (tgt := 233) dX11_pass_226 (by decide) (fun c51 => ?_) (fun c51 => ?_)
                · replace E := xq_en c51 E
                  refine J_aload_n (i := 0) (j := 0) dX11_pass_233 rfl rfl ?_
                  refine J_get (C := RX11) (T := TX11) (Z := 43) (ci := 11) (f := 30) dX11_pass_234 inG11 rfl (by decide) k1294 wc_162 rfl ?_
                  refine J_iload_n (i := 1) (j := 1) dX11_pass_237 rfl rfl ?_
                  refine J_iald dX11_pass_238 wc_175 (vin hp0 (by decide)) ?_
                  refine J_topi (fun v57 qv57 => ?_)
                  replace E := xq_le qv57 E
                  refine J_lv [] rfl ?_
                  exact jn54 v57  E
                · replace E := xq_ep c51 E
                  refine J_iconst (v := 0) dX11_pass_229 (by decide) ?_
                  refine J_goto (tgt := 239) dX11_pass_230 (by decide) ?_
                  refine J_lv [] rfl ?_
                  exact jn54 (0 : Int32)  E
              refine J_ifB_eq (tgt := 213) dX11_pass_201 (by decide) (fun c45 => ?_) (fun c45 => ?_)
              · replace E := xq_ef c45 E
                refine J_iconst (v := 0) dX11_pass_213 (by decide) ?_
                refine J_lv [0, 1] rfl ?_
                exact jn48 (0 : Int32)  E
              · replace E := xq_ep c45 E
                refine J_aload_n (i := 0) (j := 0) dX11_pass_204 rfl rfl ?_
                refine J_iload_n (i := 1) (j := 1) dX11_pass_205 rfl rfl ?_
                refine J_iconst (v := 1) dX11_pass_206 (by decide) ?_
                refine J_callV (As := [.int p, .int 1]) (rest := [.int w43, .int p, .ref 175]) dX11_pass_207 (c_M_of (d := 0) (u := u36) (g := g) (ex := ex) (p := p) (what := 1)  (by decide) hp0 (bd_w (l := 0) (h := 15) (bd_c (v := 1) (lo := 1) (hi := 1) (by decide)) (by decide))) hq.n k1515 k1517 k55 wc_162 rfl rfl k97 k1518 np_X11_of (Nat.le_trans (by decide) hd) (by decide) (Nat.le_refl _) (Nat.le_refl _) wlen rfl (Nat.le_of_ble_eq_true rfl) (fun r_ h_ p58 => ?_)
                obtain ⟨rfl, rfl⟩ := p58
                refine J_ci (v := (mof u p (1 : Int32))) (mof_c ((ms_c e37 (Nat.ne_of_beq_eq_false rfl)).trans ((ms_c e17 (Nat.ne_of_beq_eq_false rfl)).trans (ms_c e8 (Nat.ne_of_beq_eq_false rfl))))) ?_
                refine J_goto (tgt := 214) dX11_pass_210 (by decide) ?_
                refine J_lv [0, 1] rfl ?_
                exact jn48 (mof u p (1 : Int32))  E
            refine J_if_ne (tgt := 188) dX11_pass_174 (by decide) (fun c38 => ?_) (fun c38 => ?_)
            · replace E := xq_en c38 E
              refine J_aload_n (i := 0) (j := 0) dX11_pass_188 rfl rfl ?_
              refine J_get (C := RX11) (T := TX11) (Z := 43) (ci := 11) (f := 28) dX11_pass_189 inG11 rfl (by decide) k1292 wc_162 rfl ?_
              refine J_iload_n (i := 1) (j := 1) dX11_pass_192 rfl rfl ?_
              refine J_iald dX11_pass_193 wc_173 (vin hp0 (by decide)) ?_
              refine J_topi (fun v59 qv59 => ?_)
              replace E := xq_le qv59 E
              refine J_goto (tgt := 199) dX11_pass_194 (by decide) ?_
              refine J_lv [0, 1, 2] rfl ?_
              exact jn44 v59  E
            · replace E := xq_ep c38 E
              refine J_aload_n (i := 0) (j := 0) dX11_pass_177 rfl rfl ?_
              refine J_iload_n (i := 1) (j := 1) dX11_pass_178 rfl rfl ?_
              refine J_bipush (v := 15) dX11_pass_179 (by decide) ?_
              refine J_callV (As := [.int p, .int 15]) (rest := [.int p, .ref 175]) dX11_pass_181 (c_M_of (d := 0) (u := u36) (g := g) (ex := ex) (p := p) (what := 15)  (by decide) hp0 (bd_w (l := 0) (h := 15) (bd_c (v := 15) (lo := 15) (hi := 15) (by decide)) (by decide))) hq.n k1515 k1517 k55 wc_162 rfl rfl k97 k1518 np_X11_of (Nat.le_trans (by decide) hd) (by decide) (Nat.le_refl _) (Nat.le_refl _) wlen rfl (Nat.le_of_ble_eq_true rfl) (fun r_ h_ p60 => ?_)
              obtain ⟨rfl, rfl⟩ := p60
              refine J_ci (v := (mof u p (15 : Int32))) (mof_c ((ms_c e37 (Nat.ne_of_beq_eq_false rfl)).trans ((ms_c e17 (Nat.ne_of_beq_eq_false rfl)).trans (ms_c e8 (Nat.ne_of_beq_eq_false rfl))))) ?_
              refine J_iconst (v := 1) dX11_pass_184 (by decide) ?_
              refine J_icmp_ne (tgt := 197) dX11_pass_185 (by decide) (fun c61 => ?_) (fun c61 => ?_)
              · replace E := xq_en c61 E
                refine J_iload (i := 5) (j := 3) dX11_pass_197 rfl ?_
                refine J_lv [0, 1, 2] rfl ?_
                exact jn44 w23  E
              · replace E := xq_ep c61 E
                refine J_aload_n (i := 0) (j := 0) dX11_pass_188 rfl rfl ?_
                refine J_get (C := RX11) (T := TX11) (Z := 43) (ci := 11) (f := 28) dX11_pass_189 inG11 rfl (by decide) k1292 wc_162 rfl ?_
                refine J_iload_n (i := 1) (j := 1) dX11_pass_192 rfl rfl ?_
                refine J_iald dX11_pass_193 wc_173 (vin hp0 (by decide)) ?_
                refine J_topi (fun v62 qv62 => ?_)
                replace E := xq_le qv62 E
                refine J_goto (tgt := 199) dX11_pass_194 (by decide) ?_
                refine J_lv [0, 1, 2] rfl ?_
                exact jn44 v62  E
          refine J_if_eq (tgt := 162) dX11_pass_153 (by decide) (fun c33 => ?_) (fun c33 => ?_)
          · replace E := xq_ep c33 E
            refine J_iconst (v := 0) dX11_pass_162 (by decide) ?_
            refine J_lv [1, 2, 3, 4, 0] rfl ?_
            exact jn35 (0 : Int32) (bd_w (l := 0) (h := 256) (bd_c (v := 0) (lo := 0) (hi := 0) (by decide)) (by decide)) E
          · replace E := xq_en c33 E
            refine J_iconst (v := 1) dX11_pass_156 (by decide) ?_
            refine J_iload_n (i := 1) (j := 2) dX11_pass_157 rfl rfl ?_
            refine J_ishl dX11_pass_158 ?_
            refine J_goto (tgt := 163) dX11_pass_159 (by decide) ?_
            refine J_lv [1, 2, 3, 4, 0] rfl ?_
            exact jn35 ((1 : Int32) <<< (p &&& 31)) (bd_w (l := 0) (h := 256) (bd_shl (lo := 0) (hi := 8) (l := 1) (h := 256) hp0 (by decide)) (by decide)) E
        refine J_if_ne (tgt := 143) dX11_pass_113 (by decide) (fun c26 => ?_) (fun c26 => ?_)
        · replace E := xq_en c26 E
          refine J_iconst (v := 0) dX11_pass_143 (by decide) ?_
          refine J_lv [1, 2, 4, 0] rfl ?_
          exact jn32 (0 : Int32) (bd_w (l := 0) (h := 1) (bd_c (v := 0) (lo := 0) (hi := 0) (by decide)) (by decide)) E
        · replace E := xq_ep c26 E
          refine J_iload_n (i := 1) (j := 2) dX11_pass_116 rfl rfl ?_
          refine J_aload_n (i := 0) (j := 1) dX11_pass_117 rfl rfl ?_
          refine J_get (C := RX11) (T := TX11) (Z := 43) (ci := 11) (f := 26) dX11_pass_118 inG11 rfl (by decide) k1290 wc_162 rfl ?_
          refine J_ci (v := u 162 26) ((congrFun (ms_c e17 (Nat.ne_of_beq_eq_false rfl)) 26).trans (ms_i e8 (Nat.ne_of_beq_eq_false rfl))) ?_
          refine J_icmp_eq (tgt := 143) dX11_pass_121 (by decide) (fun c63 => ?_) (fun c63 => ?_)
          · replace E := xq_ep c63 E
            refine J_iconst (v := 0) dX11_pass_143 (by decide) ?_
            refine J_lv [1, 2, 4, 0] rfl ?_
            exact jn32 (0 : Int32) (bd_w (l := 0) (h := 1) (bd_c (v := 0) (lo := 0) (hi := 0) (by decide)) (by decide)) E
          · replace E := xq_en c63 E
            refine J_iload_n (i := 3) (j := 3) dX11_pass_124 rfl rfl ?_
            refine J_if_ne (tgt := 139) dX11_pass_125 (by decide) (fun c64 => ?_) (fun c64 => ?_)
            · replace E := xq_en c64 E
              refine J_iconst (v := 1) dX11_pass_139 (by decide) ?_
              refine J_goto (tgt := 144) dX11_pass_140 (by decide) ?_
              refine J_lv [1, 2, 4, 0] rfl ?_
              exact jn32 (1 : Int32) (bd_w (l := 0) (h := 1) (bd_c (v := 1) (lo := 1) (hi := 1) (by decide)) (by decide)) E
            · replace E := xq_ep c64 E
              refine J_iload (i := 5) (j := 0) dX11_pass_128 rfl ?_
              refine J_aload_n (i := 0) (j := 1) dX11_pass_130 rfl rfl ?_
              refine J_iload_n (i := 1) (j := 2) dX11_pass_131 rfl rfl ?_
              refine J_iconst (v := 3) dX11_pass_132 (by decide) ?_
              refine J_callV (As := [.int p, .int 3]) (rest := [.int w23]) dX11_pass_133 (c_M_of (d := 0) (u := u16) (g := g) (ex := ex) (p := p) (what := 3)  (by decide) hp0 (bd_w (l := 0) (h := 15) (bd_c (v := 3) (lo := 3) (hi := 3) (by decide)) (by decide))) hq.n k1515 k1517 k55 wc_162 rfl rfl k97 k1518 np_X11_of (Nat.le_trans (by decide) hd) (by decide) (Nat.le_refl _) (Nat.le_refl _) wlen rfl (Nat.le_of_ble_eq_true rfl) (fun r_ h_ p65 => ?_)
              obtain ⟨rfl, rfl⟩ := p65
              refine J_ci (v := (mof u p (3 : Int32))) (mof_c ((ms_c e17 (Nat.ne_of_beq_eq_false rfl)).trans (ms_c e8 (Nat.ne_of_beq_eq_false rfl)))) ?_
              refine J_icmp_le (tgt := 143) dX11_pass_136 (by decide) (fun c66 => ?_) (fun c66 => ?_)
              · replace E := xq_ep c66 E
                refine J_iconst (v := 0) dX11_pass_143 (by decide) ?_
                refine J_lv [1, 2, 4, 0] rfl ?_
                exact jn32 (0 : Int32) (bd_w (l := 0) (h := 1) (bd_c (v := 0) (lo := 0) (hi := 0) (by decide)) (by decide)) E
              · replace E := xq_en c66 E
                refine J_iconst (v := 1) dX11_pass_139 (by decide) ?_
                refine J_goto (tgt := 144) dX11_pass_140 (by decide) ?_
                refine J_lv [1, 2, 4, 0] rfl ?_
                exact jn32 (1 : Int32) (bd_w (l := 0) (h := 1) (bd_c (v := 1) (lo := 1) (hi := 1) (by decide)) (by decide)) E
      refine J_icmp_le (tgt := 103) dX11_pass_84 (by decide) (fun c20 => ?_) (fun c20 => ?_)
      · replace E := xq_ep c20 E
        refine J_iconst (v := 0) dX11_pass_103 (by decide) ?_
        refine J_lv [0, 1, 2, 3] rfl ?_
        exact jn24 (0 : Int32)  E
      · replace E := xq_en c20 E
        refine J_aload_n (i := 0) (j := 0) dX11_pass_87 rfl rfl ?_
        refine J_get (C := RX11) (T := TX11) (Z := 43) (ci := 11) (f := 28) dX11_pass_88 inG11 rfl (by decide) k1292 wc_162 rfl ?_
        refine J_iload_n (i := 1) (j := 1) dX11_pass_91 rfl rfl ?_
        refine J_iald dX11_pass_92 wc_173 (vin hp0 (by decide)) ?_
        refine J_topi (fun v67 qv67 => ?_)
        replace E := xq_le qv67 E
        refine J_aload_n (i := 0) (j := 0) dX11_pass_93 rfl rfl ?_
        refine J_iload_n (i := 1) (j := 1) dX11_pass_94 rfl rfl ?_
        refine J_iconst (v := 0) dX11_pass_95 (by decide) ?_
        refine J_callV (As := [.int p, .int 0]) (rest := [.int v67]) dX11_pass_96 (c_M_of (d := 0) (u := u16) (g := g) (ex := ex) (p := p) (what := 0)  (by decide) hp0 (bd_w (l := 0) (h := 15) (bd_c (v := 0) (lo := 0) (hi := 0) (by decide)) (by decide))) hq.n k1515 k1517 k55 wc_162 rfl rfl k97 k1518 np_X11_of (Nat.le_trans (by decide) hd) (by decide) (Nat.le_refl _) (Nat.le_refl _) wlen rfl (Nat.le_of_ble_eq_true rfl) (fun r_ h_ p68 => ?_)
        obtain ⟨rfl, rfl⟩ := p68
        refine J_ci (v := (mof u p (0 : Int32))) (mof_c ((ms_c e17 (Nat.ne_of_beq_eq_false rfl)).trans (ms_c e8 (Nat.ne_of_beq_eq_false rfl)))) ?_
        refine J_isub dX11_pass_99 ?_
        refine J_goto (tgt := 104) dX11_pass_100 (by decide) ?_
        refine J_lv [0, 1, 2, 3] rfl ?_
        exact jn24 (v67 - (mof u p (0 : Int32)))  E
    refine J_ifB_eq (tgt := 69) dX11_pass_57 (by decide) (fun c12 => ?_) (fun c12 => ?_)
    · replace E := xq_ef c12 E
      refine J_iconst (v := 0) dX11_pass_69 (by decide) ?_
      refine J_lv [0, 1, 3, 4] rfl ?_
      exact jn15 (0 : Int32)  E
    · replace E := xq_ep c12 E
      refine J_aload_n (i := 0) (j := 0) dX11_pass_60 rfl rfl ?_
      refine J_iload_n (i := 1) (j := 1) dX11_pass_61 rfl rfl ?_
      refine J_iconst (v := 1) dX11_pass_62 (by decide) ?_
      refine J_callV (As := [.int p, .int 1]) (rest := [.int (((mof u p (1 : Int32)) + (steps * (mof u p (2 : Int32)))) + v11), .int p, .ref 173]) dX11_pass_63 (c_M_of (d := 0) (u := u7) (g := g) (ex := ex) (p := p) (what := 1)  (by decide) hp0 (bd_w (l := 0) (h := 15) (bd_c (v := 1) (lo := 1) (hi := 1) (by decide)) (by decide))) hq.n k1515 k1517 k55 wc_162 rfl rfl k97 k1518 np_X11_of (Nat.le_trans (by decide) hd) (by decide) (Nat.le_refl _) (Nat.le_refl _) wlen rfl (Nat.le_of_ble_eq_true rfl) (fun r_ h_ p69 => ?_)
      obtain ⟨rfl, rfl⟩ := p69
      refine J_ci (v := (mof u p (1 : Int32))) (mof_c (ms_c e8 (Nat.ne_of_beq_eq_false rfl))) ?_
      refine J_goto (tgt := 70) dX11_pass_66 (by decide) ?_
      refine J_lv [0, 1, 3, 4] rfl ?_
      exact jn15 (mof u p (1 : Int32))  E
  refine J_ifB_eq (tgt := 23) dX11_pass_14 (by decide) (fun c4 => ?_) (fun c4 => ?_)
  · replace E := xq_ef c4 E
    refine J_iconst (v := 0) dX11_pass_23 (by decide) ?_
    refine J_lv [1, 2, 3, 4, 0] rfl ?_
    exact jn6 (0 : Int32) (bd_w (l := 0) (h := 256) (bd_c (v := 0) (lo := 0) (hi := 0) (by decide)) (by decide)) E
  · replace E := xq_ep c4 E
    refine J_iconst (v := 1) dX11_pass_17 (by decide) ?_
    refine J_iload_n (i := 1) (j := 2) dX11_pass_18 rfl rfl ?_
    refine J_ishl dX11_pass_19 ?_
    refine J_goto (tgt := 24) dX11_pass_20 (by decide) ?_
    refine J_lv [1, 2, 3, 4, 0] rfl ?_
    exact jn6 ((1 : Int32) <<< (p &&& 31)) (bd_w (l := 0) (h := 256) (bd_shl (lo := 0) (hi := 8) (l := 1) (h := 256) hp0 (by decide)) (by decide)) E
set_option maxRecDepth 100000 in
noncomputable def Fx_M_blowX_J177 (ih_lp582 : (Int32) → (Nat → Nat → Int32) → (Nat → Nat → Int32)) (w524 : Int32) (u621 : Nat → Nat → Int32) : (Nat → Nat → Int32) := ih_lp582 (w524 + 1) u621
set_option maxRecDepth 100000 in
noncomputable def Fx_M_blowX_J121 (ih_lp582 : (Int32) → (Nat → Nat → Int32) → (Nat → Nat → Int32)) (u : Nat → Nat → Int32) (w524 : Int32) (u525 : Nat → Nat → Int32) (w600 : Int32) (u608 : Nat → Nat → Int32) : (Nat → Nat → Int32) := if (mof u w524 (8 : Int32)) = ((-1) : Int32) then (xq_lt (u608 175 w524.toNatClampNeg) fun v625 => xq_lt (ms u608 162 33 ((u525 162 33) + (v625 - w600))) fun u626 => Fx_M_blowX_J177 ih_lp582 w524 u626) else (xq_lt (u608 174 (mof u w524 (8 : Int32)).toNatClampNeg) fun v629 => xq_lt (u608 175 w524.toNatClampNeg) fun v630 => xq_lt (ms u608 174 ((mof u w524 (8 : Int32)).toNatClampNeg) (v629 + (v630 - w600))) fun u631 => Fx_M_blowX_J177 ih_lp582 w524 u631)
set_option maxRecDepth 100000 in
noncomputable def Fx_M_blowX_J91 (ih_lp582 : (Int32) → (Nat → Nat → Int32) → (Nat → Nat → Int32)) (u : Nat → Nat → Int32) (w524 : Int32) (u525 : Nat → Nat → Int32) (u591 : Nat → Nat → Int32) (w600 : Int32) : (Nat → Nat → Int32) := if (mof u w524 (9 : Int32)) = ((-1) : Int32) then (Fx_M_blowX_J121 ih_lp582 u w524 u525 w600 u591) else (xq_lt (u591 174 (mof u w524 (9 : Int32)).toNatClampNeg) fun v634 => xq_lt (ms u591 174 ((mof u w524 (9 : Int32)).toNatClampNeg) (v634 + w600)) fun u635 => Fx_M_blowX_J121 ih_lp582 u w524 u525 w600 u635)
set_option maxRecDepth 100000 in
noncomputable def Fx_M_blowX_L40 (steps : Int32) (banks : Int32) (u : Nat → Nat → Int32) (g : Nat → Nat → Int64) (n_ : Nat) : (Int32) → (Nat → Nat → Int32) → (Nat → Nat → Int32) := Nat.rec (motive := fun _ => (Int32) → (Nat → Nat → Int32) → (Nat → Nat → Int32)) (fun _ _ => default) (fun n_ ih_ w524 u525 => if (u 162 22) ≤ w524 then (u525) else (xq_lt (Fx_M_hasX banks w524 u525 g) fun t588 => xq_lt (Fx_M_passX w524 steps (bI t588) u525 g) fun u591 => if (mof u w524 (9 : Int32)) = ((-1) : Int32) then (Fx_M_blowX_J91 ih_ u w524 u525 u591 (0 : Int32)) else (xq_lt (u591 175 w524.toNatClampNeg) fun v637 => Fx_M_blowX_J91 ih_ u w524 u525 u591 ((v637 * (mof u w524 (10 : Int32))) / 10)))) n_
set_option maxRecDepth 100000 in
theorem Fx_M_blowX_L40_s {steps : Int32} {banks : Int32} {u : Nat → Nat → Int32} {g : Nat → Nat → Int64} {w524 : Int32} {u525 : Nat → Nat → Int32} {n_ : Nat} : Fx_M_blowX_L40 steps banks u g (n_ + 1) w524 u525 = if (u 162 22) ≤ w524 then (u525) else (xq_lt (Fx_M_hasX banks w524 u525 g) fun t588 => xq_lt (Fx_M_passX w524 steps (bI t588) u525 g) fun u591 => if (mof u w524 (9 : Int32)) = ((-1) : Int32) then (Fx_M_blowX_J91 (Fx_M_blowX_L40 steps banks u g n_) u w524 u525 u591 (0 : Int32)) else (xq_lt (u591 175 w524.toNatClampNeg) fun v637 => Fx_M_blowX_J91 (Fx_M_blowX_L40 steps banks u g n_) u w524 u525 u591 ((v637 * (mof u w524 (10 : Int32))) / 10))) := rfl
set_option maxRecDepth 100000 in
noncomputable def Fx_M_blowX_L17 (steps : Int32) (banks : Int32) (u : Nat → Nat → Int32) (g : Nat → Nat → Int64) (n_ : Nat) : (Int32) → (Nat → Nat → Int32) → (Nat → Nat → Int32) := Nat.rec (motive := fun _ => (Int32) → (Nat → Nat → Int32) → (Nat → Nat → Int32)) (fun _ _ => default) (fun n_ ih_ w184 u185 => if (u 162 22) ≤ w184 then (Fx_M_blowX_L40 steps banks u g ((9 - (0 : Int32).toInt).toNat + 1) (0 : Int32) u185) else (xq_lt (ms u185 174 w184.toNatClampNeg 0) fun u639 => ih_ (w184 + 1) u639)) n_
set_option maxRecDepth 100000 in
theorem Fx_M_blowX_L17_s {steps : Int32} {banks : Int32} {u : Nat → Nat → Int32} {g : Nat → Nat → Int64} {w184 : Int32} {u185 : Nat → Nat → Int32} {n_ : Nat} : Fx_M_blowX_L17 steps banks u g (n_ + 1) w184 u185 = if (u 162 22) ≤ w184 then (Fx_M_blowX_L40 steps banks u g ((9 - (0 : Int32).toInt).toNat + 1) (0 : Int32) u185) else (xq_lt (ms u185 174 w184.toNatClampNeg 0) fun u639 => (Fx_M_blowX_L17 steps banks u g n_) (w184 + 1) u639) := rfl
set_option maxRecDepth 100000 in
noncomputable def Fx_M_blowX (steps : Int32) (banks : Int32) (u : Nat → Nat → Int32) (g : Nat → Nat → Int64) : (Nat → Nat → Int32) := xq_lt (ms u 162 31 0) fun u1 => xq_lt (ms u1 162 32 0) fun u3 => xq_lt (ms u3 162 33 0) fun u5 => Fx_M_blowX_L17 steps banks u g ((9 - (0 : Int32).toInt).toNat + 1) (0 : Int32) u5
set_option maxHeartbeats 4000000 in
set_option maxRecDepth 100000 in
theorem c_M_blowX {d : Nat} {u : Nat → Nat → Int32} {g : Nat → Nat → Int64} {ex : List MC} {steps : Int32} {banks : Int32} (hd : 3 ≤ d) (hp0 : Bd 0 9 (u 162 22)) (hp1 : (DN u)) : CT con0 d 0 0 yX11_blow cX11_blow 5 none [.ref 162, .int steps, .int banks] (Wd u g ex) (fun r h2 => ∃ (u2 : Nat → Nat → Int32), r = none ∧ h2 = Wd u2 g ex ∧ Bd 0 511 (u2 162 31) ∧ u2 = Fx_M_blowX steps banks u g ∧ (∀ c, nin c [(162, 162), (173, 175)] = true → u2 c = u c) ∧ (∀ j, j ≠ 31 → j ≠ 32 → j ≠ 33 → u2 162 j = u 162 j)) := by
  refine CT_of (by decide) (Nat.le_of_ble_eq_true rfl) (fun x hq => ?_)
  show J x yX11_blow cX11_blow 5 none d 0 0 (Wd u g ex).length 0 [(0, .ref 162), (1, .int steps), (2, .int banks)] [] (Wd u g ex) 0 0
  have E : Fx_M_blowX steps banks u g = Fx_M_blowX steps banks u g := rfl
  refine J_aload_n (i := 0) (j := 0) dX11_blow_0 rfl rfl ?_
  refine J_iconst (v := 0) dX11_blow_1 (by decide) ?_
  obtain ⟨u1, e2⟩ : ∃ z, z = ms u 162 31 0 := ⟨_, rfl⟩
  refine J_put (C := RX11) (T := TX11) (Z := 43) (ci := 11) (f := 31) (ty0 := tyX11) dX11_blow_2 inG11 rfl tyX11_ok nmX11 (by decide) k1295 rfl rfl wc_162 (Nat.le_of_ble_eq_true rfl) (fun _ _ => ⟨rfl, rfl⟩) (ws e2 wk_162 rfl) ?_
  replace E := xq_le e2 E
  refine J_aload_n (i := 0) (j := 0) dX11_blow_5 rfl rfl ?_
  refine J_iconst (v := 0) dX11_blow_6 (by decide) ?_
  obtain ⟨u3, e4⟩ : ∃ z, z = ms u1 162 32 0 := ⟨_, rfl⟩
  refine J_put (C := RX11) (T := TX11) (Z := 43) (ci := 11) (f := 32) (ty0 := tyX11) dX11_blow_7 inG11 rfl tyX11_ok nmX11 (by decide) k1296 rfl rfl wc_162 (Nat.le_of_ble_eq_true rfl) (fun _ _ => ⟨rfl, rfl⟩) (ws e4 wk_162 rfl) ?_
  replace E := xq_le e4 E
  refine J_aload_n (i := 0) (j := 0) dX11_blow_10 rfl rfl ?_
  refine J_iconst (v := 0) dX11_blow_11 (by decide) ?_
  obtain ⟨u5, e6⟩ : ∃ z, z = ms u3 162 33 0 := ⟨_, rfl⟩
  refine J_put (C := RX11) (T := TX11) (Z := 43) (ci := 11) (f := 33) (ty0 := tyX11) dX11_blow_12 inG11 rfl tyX11_ok nmX11 (by decide) k1297 rfl rfl wc_162 (Nat.le_of_ble_eq_true rfl) (fun _ _ => ⟨rfl, rfl⟩) (ws e6 wk_162 rfl) ?_
  replace E := xq_le e6 E
  refine J_iconst (v := 0) dX11_blow_15 (by decide) ?_
  refine J_istore_n (i := 3) (lw := [(3, .int 0), (0, .ref 162), (1, .int steps), (2, .int banks)]) dX11_blow_16 rfl (by decide) rfl ?_
  have lp412 : ∀ (n413 : Nat) (w184 : Int32) (u185 : Nat → Nat → Int32), Bd 0 9 w184 → (∀ c, c ≠ 174 → u185 c = u5 c) → (9 - w184.toInt).toNat < n413 → Fx_M_blowX_L17 steps banks u g n413 w184 u185 = Fx_M_blowX steps banks u g → J x yX11_blow cX11_blow 5 none d 0 0 (Wd u g ex).length 17 [(0, .ref 162), (1, .int steps), (2, .int banks), (3, .int w184)] [] (Wd u185 g ex) 0 0 := by
    intro n413
    induction n413 with
    | zero => intro w184 u185 bw184 fr186 hm415 _; exact absurd hm415 (Nat.not_lt_zero _)
    | succ n413 ih414 =>
      intro w184 u185 bw184 fr186 hm415 E
      replace E := Fx_M_blowX_L17_s.symm.trans E
      refine J_iload_n (i := 3) (j := 3) dX11_blow_17 rfl rfl ?_
      refine J_aload_n (i := 0) (j := 0) dX11_blow_18 rfl rfl ?_
      refine J_get (C := RX11) (T := TX11) (Z := 43) (ci := 11) (f := 22) dX11_blow_19 inG11 rfl (by decide) k1286 wc_162 rfl ?_
      refine J_ci (v := u 162 22) ((congrFun (fr186 162 (Nat.ne_of_beq_eq_false rfl)) 22).trans ((ms_i e6 (Nat.ne_of_beq_eq_false rfl)).trans ((ms_i e4 (Nat.ne_of_beq_eq_false rfl)).trans (ms_i e2 (Nat.ne_of_beq_eq_false rfl))))) ?_
      refine J_icmp_ge (tgt := 38) dX11_blow_22 (by decide) (fun c416 => ?_) (fun c416 => ?_)
      · replace E := xq_ep c416 E
        refine J_iconst (v := 0) dX11_blow_38 (by decide) ?_
        refine J_istore_n (i := 3) (lw := [(3, .int 0), (0, .ref 162), (1, .int steps), (2, .int banks)]) dX11_blow_39 rfl (by decide) rfl ?_
        have lp582 : ∀ (n583 : Nat) (w524 : Int32) (u525 : Nat → Nat → Int32), Bd 0 9 w524 → (∀ c, nin c [(162, 162), (173, 175)] = true → u525 c = u185 c) → (∀ j, j ≠ 31 → j ≠ 32 → j ≠ 33 → u525 162 j = u185 162 j) → Bd 0 511 (u525 162 31) → (9 - w524.toInt).toNat < n583 → Fx_M_blowX_L40 steps banks u g n583 w524 u525 = Fx_M_blowX steps banks u g → J x yX11_blow cX11_blow 5 none d 0 0 (Wd u g ex).length 40 [(0, .ref 162), (1, .int steps), (2, .int banks), (3, .int w524)] [] (Wd u525 g ex) 0 0 := by
          intro n583
          induction n583 with
          | zero => intro w524 u525 bw524 fr526 fc527 bm528 hm585 _; exact absurd hm585 (Nat.not_lt_zero _)
          | succ n583 ih584 =>
            intro w524 u525 bw524 fr526 fc527 bm528 hm585 E
            replace E := Fx_M_blowX_L40_s.symm.trans E
            refine J_iload_n (i := 3) (j := 3) dX11_blow_40 rfl rfl ?_
            refine J_aload_n (i := 0) (j := 0) dX11_blow_41 rfl rfl ?_
            refine J_get (C := RX11) (T := TX11) (Z := 43) (ci := 11) (f := 22) dX11_blow_42 inG11 rfl (by decide) k1286 wc_162 rfl ?_
            refine J_ci (v := u 162 22) ((fc527 22 (Nat.ne_of_beq_eq_false rfl) (Nat.ne_of_beq_eq_false rfl) (Nat.ne_of_beq_eq_false rfl)).trans ((congrFun (fr186 162 (Nat.ne_of_beq_eq_false rfl)) 22).trans ((ms_i e6 (Nat.ne_of_beq_eq_false rfl)).trans ((ms_i e4 (Nat.ne_of_beq_eq_false rfl)).trans (ms_i e2 (Nat.ne_of_beq_eq_false rfl)))))) ?_
            refine J_icmp_ge (tgt := 183) dX11_blow_45 (by decide) (fun c586 => ?_) (fun c586 => ?_)
            · replace E := xq_ep c586 E
              exact J_vret hq dX11_blow_183 rfl wlen (Nat.le_refl _) (Nat.le_refl _) ⟨u525, rfl, rfl, bm528, E, (fun c k_ => ((fr526 c (nin_sub (M := [(162, 162), (173, 175)]) k_ rfl)).trans ((fr186 c (nin_ne (a := 174) k_ rfl)).trans ((ms_c e6 (nin_ne (a := 162) k_ rfl)).trans ((ms_c e4 (nin_ne (a := 162) k_ rfl)).trans (ms_c e2 (nin_ne (a := 162) k_ rfl))))))), (fun j k31_ k32_ k33_ => ((fc527 j k31_ k32_ k33_).trans ((congrFun (fr186 162 (Nat.ne_of_beq_eq_false rfl)) j).trans ((ms_i e6 k33_).trans ((ms_i e4 k32_).trans (ms_i e2 k31_))))))⟩
            · replace E := xq_en c586 E
              refine J_aload_n (i := 0) (j := 0) dX11_blow_48 rfl rfl ?_
              refine J_iload_n (i := 3) (j := 3) dX11_blow_49 rfl rfl ?_
              refine J_iload_n (i := 1) (j := 1) dX11_blow_50 rfl rfl ?_
              refine J_iload_n (i := 2) (j := 2) dX11_blow_51 rfl rfl ?_
              refine J_iload_n (i := 3) (j := 3) dX11_blow_52 rfl rfl ?_
              refine J_callS (As := [.int banks, .int w524]) (rest := [.int steps, .int w524, .ref 162]) dX11_blow_53 (c_M_hasX (d := 0) (u := u525) (g := g) (ex := ex) (set := banks) (k := w524)  (by decide) ) hq.n k1555 k1556 k97 k1557 np_X11_has (Nat.le_trans (by decide) hd) (by decide) (Nat.le_refl _) (Nat.le_refl _) wlen rfl (Nat.le_of_ble_eq_true rfl) (fun r_ h_ p587 => ?_)
              obtain ⟨t588, rfl, rfl, hx589⟩ := p587
              replace E := xq_le hx589 E
              refine J_callV (As := [.int w524, .int steps, .int (bI t588)]) (rest := []) dX11_blow_56 (c_M_passX (d := 2) (u := u525) (g := g) (ex := ex) (p := w524) (steps := steps) (bank := bI t588)  (by decide) (bd_lt_hi bw524 (i_nle c586) hp0) bm528) hq.n k1558 k1560 k62 wc_162 rfl rfl k97 k1561 np_X11_pass (Nat.le_trans (by decide) hd) (by decide) (Nat.le_refl _) (Nat.le_refl _) wlen rfl (Nat.le_of_ble_eq_true rfl) (fun r_ h_ p590 => ?_)
              obtain ⟨u591, rfl, rfl, h592, hx593, fr594, fc595⟩ := p590
              replace E := xq_le hx593 E
              refine J_aload_n (i := 0) (j := 0) dX11_blow_59 rfl rfl ?_
              refine J_iload_n (i := 3) (j := 3) dX11_blow_60 rfl rfl ?_
              refine J_bipush (v := 9) dX11_blow_61 (by decide) ?_
              refine J_callV (As := [.int w524, .int 9]) (rest := []) dX11_blow_63 (c_M_of (d := 0) (u := u591) (g := g) (ex := ex) (p := w524) (what := 9)  (by decide) (bd_lt_hi bw524 (i_nle c586) hp0) (bd_w (l := 0) (h := 15) (bd_c (v := 9) (lo := 9) (hi := 9) (by decide)) (by decide))) hq.n k1515 k1517 k55 wc_162 rfl rfl k97 k1518 np_X11_of (Nat.le_trans (by decide) hd) (by decide) (Nat.le_refl _) (Nat.le_refl _) wlen rfl (Nat.le_of_ble_eq_true rfl) (fun r_ h_ p596 => ?_)
              obtain ⟨rfl, rfl⟩ := p596
              refine J_ci (v := (mof u w524 (9 : Int32))) (mof_c ((fr594 172 rfl).trans ((fr526 172 rfl).trans ((fr186 172 (Nat.ne_of_beq_eq_false rfl)).trans ((ms_c e6 (Nat.ne_of_beq_eq_false rfl)).trans ((ms_c e4 (Nat.ne_of_beq_eq_false rfl)).trans (ms_c e2 (Nat.ne_of_beq_eq_false rfl)))))))) ?_
              refine J_iconst (v := (-1)) dX11_blow_66 (by decide) ?_
              have jn601 : ∀ (w600 : Int32), Fx_M_blowX_J91 (Fx_M_blowX_L40 steps banks u g n583) u w524 u525 u591 w600 = Fx_M_blowX steps banks u g → J x yX11_blow cX11_blow 5 none d 0 0 (Wd u g ex).length 91 [(0, .ref 162), (1, .int steps), (2, .int banks), (3, .int w524)] [.int w600] (Wd u591 g ex) 0 0 := by
                intro w600 E
                refine J_istore (i := 4) (lw := [(4, .int w600), (0, .ref 162), (1, .int steps), (2, .int banks), (3, .int w524)]) dX11_blow_91 (by decide) rfl ?_
                refine J_aload_n (i := 0) (j := 1) dX11_blow_93 rfl rfl ?_
                refine J_iload_n (i := 3) (j := 4) dX11_blow_94 rfl rfl ?_
                refine J_bipush (v := 9) dX11_blow_95 (by decide) ?_
                refine J_callV (As := [.int w524, .int 9]) (rest := []) dX11_blow_97 (c_M_of (d := 0) (u := u591) (g := g) (ex := ex) (p := w524) (what := 9)  (by decide) (bd_lt_hi bw524 (i_nle c586) hp0) (bd_w (l := 0) (h := 15) (bd_c (v := 9) (lo := 9) (hi := 9) (by decide)) (by decide))) hq.n k1515 k1517 k55 wc_162 rfl rfl k97 k1518 np_X11_of (Nat.le_trans (by decide) hd) (by decide) (Nat.le_refl _) (Nat.le_refl _) wlen rfl (Nat.le_of_ble_eq_true rfl) (fun r_ h_ p602 => ?_)
                obtain ⟨rfl, rfl⟩ := p602
                refine J_ci (v := (mof u w524 (9 : Int32))) (mof_c ((fr594 172 rfl).trans ((fr526 172 rfl).trans ((fr186 172 (Nat.ne_of_beq_eq_false rfl)).trans ((ms_c e6 (Nat.ne_of_beq_eq_false rfl)).trans ((ms_c e4 (Nat.ne_of_beq_eq_false rfl)).trans (ms_c e2 (Nat.ne_of_beq_eq_false rfl)))))))) ?_
                refine J_iconst (v := (-1)) dX11_blow_100 (by decide) ?_
                have jn610 : ∀ (u608 : Nat → Nat → Int32), (∀ c, c ≠ 174 → u608 c = u591 c) → Fx_M_blowX_J121 (Fx_M_blowX_L40 steps banks u g n583) u w524 u525 w600 u608 = Fx_M_blowX steps banks u g → J x yX11_blow cX11_blow 5 none d 0 0 (Wd u g ex).length 121 [(0, .ref 162), (1, .int steps), (2, .int banks), (3, .int w524), (4, .int w600)] [] (Wd u608 g ex) 0 0 := by
                  intro u608 fr609 E
                  refine J_aload_n (i := 0) (j := 0) dX11_blow_121 rfl rfl ?_
                  refine J_iload_n (i := 3) (j := 3) dX11_blow_122 rfl rfl ?_
                  refine J_bipush (v := 8) dX11_blow_123 (by decide) ?_
                  refine J_callV (As := [.int w524, .int 8]) (rest := []) dX11_blow_125 (c_M_of (d := 0) (u := u608) (g := g) (ex := ex) (p := w524) (what := 8)  (by decide) (bd_lt_hi bw524 (i_nle c586) hp0) (bd_w (l := 0) (h := 15) (bd_c (v := 8) (lo := 8) (hi := 8) (by decide)) (by decide))) hq.n k1515 k1517 k55 wc_162 rfl rfl k97 k1518 np_X11_of (Nat.le_trans (by decide) hd) (by decide) (Nat.le_refl _) (Nat.le_refl _) wlen rfl (Nat.le_of_ble_eq_true rfl) (fun r_ h_ p611 => ?_)
                  obtain ⟨rfl, rfl⟩ := p611
                  refine J_ci (v := (mof u w524 (8 : Int32))) (mof_c ((fr609 172 (Nat.ne_of_beq_eq_false rfl)).trans ((fr594 172 rfl).trans ((fr526 172 rfl).trans ((fr186 172 (Nat.ne_of_beq_eq_false rfl)).trans ((ms_c e6 (Nat.ne_of_beq_eq_false rfl)).trans ((ms_c e4 (Nat.ne_of_beq_eq_false rfl)).trans (ms_c e2 (Nat.ne_of_beq_eq_false rfl))))))))) ?_
                  refine J_iconst (v := (-1)) dX11_blow_128 (by decide) ?_
                  have jn624 : ∀ (u621 : Nat → Nat → Int32), (∀ c, c ≠ 162 → c ≠ 174 → u621 c = u608 c) → (∀ j, j ≠ 33 → u621 162 j = u608 162 j) → Fx_M_blowX_J177 (Fx_M_blowX_L40 steps banks u g n583) w524 u621 = Fx_M_blowX steps banks u g → J x yX11_blow cX11_blow 5 none d 0 0 (Wd u g ex).length 177 [(0, .ref 162), (1, .int steps), (2, .int banks), (3, .int w524)] [] (Wd u621 g ex) 0 0 := by
                    intro u621 fr622 fc623 E
                    refine J_iinc (i := 3) (j := 3) (v := (w524 + 1)) (lw := [(3, .int (w524 + 1)), (0, .ref 162), (1, .int steps), (2, .int banks)]) dX11_blow_177 rfl rfl (by decide) rfl ?_
                    refine J_goto (tgt := 40) dX11_blow_180 (by decide) ?_
                    refine J_lv [1, 2, 3, 0] rfl ?_
                    exact ih584 (w524 + 1) u621 (bd_w (l := 0) (h := 9) (bd_add (l := 1) (h := 9) (bd_lt_hi bw524 (i_nle c586) hp0) (bd_c (v := 1) (lo := 1) (hi := 1) (by decide)) (by decide)) (by decide)) (fun c k_ => ((fr622 c (nin_ne (a := 162) k_ rfl) (nin_ne (a := 174) k_ rfl)).trans ((fr609 c (nin_ne (a := 174) k_ rfl)).trans ((fr594 c (nin_sub (M := [(162, 162), (173, 173), (175, 175)]) k_ rfl)).trans (fr526 c (nin_sub (M := [(162, 162), (173, 175)]) k_ rfl)))))) (fun j k31_ k32_ k33_ => ((fc623 j k33_).trans ((congrFun (fr609 162 (Nat.ne_of_beq_eq_false rfl)) j).trans ((fc595 j k31_ k32_).trans (fc527 j k31_ k32_ k33_))))) (bd_r ((fc623 31 (Nat.ne_of_beq_eq_false rfl)).trans (congrFun (fr609 162 (Nat.ne_of_beq_eq_false rfl)) 31)) h592) (mu_up 1 bw524 rfl (by decide) (bd_w (l := 1) (h := 9) (bd_add (l := 1) (h := 9) (bd_lt_hi bw524 (i_nle c586) hp0) (bd_c (v := 1) (lo := 1) (hi := 1) (by decide)) (by decide)) (by decide)) hm585) E
                  refine J_icmp_eq (tgt := 159) dX11_blow_129 (by decide) (fun c612 => ?_) (fun c612 => ?_)
                  · replace E := xq_ep c612 E
                    refine J_aload_n (i := 0) (j := 0) dX11_blow_159 rfl rfl ?_
                    refine J_dup dX11_blow_160 rfl ?_
                    refine J_get (C := RX11) (T := TX11) (Z := 43) (ci := 11) (f := 33) dX11_blow_161 inG11 rfl (by decide) k1297 wc_162 rfl ?_
                    refine J_ci (v := u525 162 33) ((congrFun (fr609 162 (Nat.ne_of_beq_eq_false rfl)) 33).trans (fc595 33 (Nat.ne_of_beq_eq_false rfl) (Nat.ne_of_beq_eq_false rfl))) ?_
                    refine J_aload_n (i := 0) (j := 0) dX11_blow_164 rfl rfl ?_
                    refine J_get (C := RX11) (T := TX11) (Z := 43) (ci := 11) (f := 30) dX11_blow_165 inG11 rfl (by decide) k1294 wc_162 rfl ?_
                    refine J_iload_n (i := 3) (j := 3) dX11_blow_168 rfl rfl ?_
                    refine J_iald dX11_blow_169 wc_175 (vin (bd_lt_hi bw524 (i_nle c586) hp0) (by decide)) ?_
                    refine J_topi (fun v625 qv625 => ?_)
                    replace E := xq_le qv625 E
                    refine J_iload (i := 4) (j := 4) dX11_blow_170 rfl ?_
                    refine J_isub dX11_blow_172 ?_
                    refine J_iadd dX11_blow_173 ?_
                    obtain ⟨u626, e627⟩ : ∃ z, z = ms u608 162 33 ((u525 162 33) + (v625 - w600)) := ⟨_, rfl⟩
                    refine J_put (C := RX11) (T := TX11) (Z := 43) (ci := 11) (f := 33) (ty0 := tyX11) dX11_blow_174 inG11 rfl tyX11_ok nmX11 (by decide) k1297 rfl rfl wc_162 (Nat.le_of_ble_eq_true rfl) (fun _ _ => ⟨rfl, rfl⟩) (ws e627 wk_162 rfl) ?_
                    replace E := xq_le e627 E
                    refine J_lv [0, 1, 2, 3] rfl ?_
                    exact jn624 u626 (fun c k0_ k1_ => (ms_c e627 k0_)) (fun j k33_ => (ms_i e627 k33_)) E
                  · replace E := xq_en c612 E
                    refine J_aload_n (i := 0) (j := 0) dX11_blow_132 rfl rfl ?_
                    refine J_get (C := RX11) (T := TX11) (Z := 43) (ci := 11) (f := 29) dX11_blow_133 inG11 rfl (by decide) k1293 wc_162 rfl ?_
                    refine J_aload_n (i := 0) (j := 0) dX11_blow_136 rfl rfl ?_
                    refine J_iload_n (i := 3) (j := 3) dX11_blow_137 rfl rfl ?_
                    refine J_bipush (v := 8) dX11_blow_138 (by decide) ?_
                    refine J_callV (As := [.int w524, .int 8]) (rest := [.ref 174]) dX11_blow_140 (c_M_of (d := 0) (u := u608) (g := g) (ex := ex) (p := w524) (what := 8)  (by decide) (bd_lt_hi bw524 (i_nle c586) hp0) (bd_w (l := 0) (h := 15) (bd_c (v := 8) (lo := 8) (hi := 8) (by decide)) (by decide))) hq.n k1515 k1517 k55 wc_162 rfl rfl k97 k1518 np_X11_of (Nat.le_trans (by decide) hd) (by decide) (Nat.le_refl _) (Nat.le_refl _) wlen rfl (Nat.le_of_ble_eq_true rfl) (fun r_ h_ p628 => ?_)
                    obtain ⟨rfl, rfl⟩ := p628
                    refine J_ci (v := (mof u w524 (8 : Int32))) (mof_c ((fr609 172 (Nat.ne_of_beq_eq_false rfl)).trans ((fr594 172 rfl).trans ((fr526 172 rfl).trans ((fr186 172 (Nat.ne_of_beq_eq_false rfl)).trans ((ms_c e6 (Nat.ne_of_beq_eq_false rfl)).trans ((ms_c e4 (Nat.ne_of_beq_eq_false rfl)).trans (ms_c e2 (Nat.ne_of_beq_eq_false rfl))))))))) ?_
                    refine J_dup2_11 dX11_blow_143 rfl rfl ?_
                    refine J_iald dX11_blow_144 wc_174 (vin (bd_ne_lo (dn_8 hp1 (bd_lt_hi bw524 (i_nle c586) hp0)) c612 (by decide)) (by decide)) ?_
                    refine J_topi (fun v629 qv629 => ?_)
                    replace E := xq_le qv629 E
                    refine J_aload_n (i := 0) (j := 0) dX11_blow_145 rfl rfl ?_
                    refine J_get (C := RX11) (T := TX11) (Z := 43) (ci := 11) (f := 30) dX11_blow_146 inG11 rfl (by decide) k1294 wc_162 rfl ?_
                    refine J_iload_n (i := 3) (j := 3) dX11_blow_149 rfl rfl ?_
                    refine J_iald dX11_blow_150 wc_175 (vin (bd_lt_hi bw524 (i_nle c586) hp0) (by decide)) ?_
                    refine J_topi (fun v630 qv630 => ?_)
                    replace E := xq_le qv630 E
                    refine J_iload (i := 4) (j := 4) dX11_blow_151 rfl ?_
                    refine J_isub dX11_blow_153 ?_
                    refine J_iadd dX11_blow_154 ?_
                    obtain ⟨u631, e632⟩ : ∃ z, z = ms u608 174 ((mof u w524 (8 : Int32)).toNatClampNeg) (v629 + (v630 - w600)) := ⟨_, rfl⟩
                    refine J_iast dX11_blow_155 wc_174 (vin (bd_ne_lo (dn_8 hp1 (bd_lt_hi bw524 (i_nle c586) hp0)) c612 (by decide)) (by decide)) (ws e632 wk_174 rfl) ?_
                    replace E := xq_le e632 E
                    refine J_goto (tgt := 177) dX11_blow_156 (by decide) ?_
                    refine J_lv [0, 1, 2, 3] rfl ?_
                    exact jn624 u631 (fun c k0_ k1_ => (ms_c e632 k1_)) (fun j k33_ => (congrFun (ms_c e632 (Nat.ne_of_beq_eq_false rfl)) j)) E
                refine J_icmp_eq (tgt := 121) dX11_blow_101 (by decide) (fun c603 => ?_) (fun c603 => ?_)
                · replace E := xq_ep c603 E
                  refine J_lv [1, 2, 3, 4, 0] rfl ?_
                  exact jn610 u591 (fun c k0_ => rfl) E
                · replace E := xq_en c603 E
                  refine J_aload_n (i := 0) (j := 1) dX11_blow_104 rfl rfl ?_
                  refine J_get (C := RX11) (T := TX11) (Z := 43) (ci := 11) (f := 29) dX11_blow_105 inG11 rfl (by decide) k1293 wc_162 rfl ?_
                  refine J_aload_n (i := 0) (j := 1) dX11_blow_108 rfl rfl ?_
                  refine J_iload_n (i := 3) (j := 4) dX11_blow_109 rfl rfl ?_
                  refine J_bipush (v := 9) dX11_blow_110 (by decide) ?_
                  refine J_callV (As := [.int w524, .int 9]) (rest := [.ref 174]) dX11_blow_112 (c_M_of (d := 0) (u := u591) (g := g) (ex := ex) (p := w524) (what := 9)  (by decide) (bd_lt_hi bw524 (i_nle c586) hp0) (bd_w (l := 0) (h := 15) (bd_c (v := 9) (lo := 9) (hi := 9) (by decide)) (by decide))) hq.n k1515 k1517 k55 wc_162 rfl rfl k97 k1518 np_X11_of (Nat.le_trans (by decide) hd) (by decide) (Nat.le_refl _) (Nat.le_refl _) wlen rfl (Nat.le_of_ble_eq_true rfl) (fun r_ h_ p633 => ?_)
                  obtain ⟨rfl, rfl⟩ := p633
                  refine J_ci (v := (mof u w524 (9 : Int32))) (mof_c ((fr594 172 rfl).trans ((fr526 172 rfl).trans ((fr186 172 (Nat.ne_of_beq_eq_false rfl)).trans ((ms_c e6 (Nat.ne_of_beq_eq_false rfl)).trans ((ms_c e4 (Nat.ne_of_beq_eq_false rfl)).trans (ms_c e2 (Nat.ne_of_beq_eq_false rfl)))))))) ?_
                  refine J_dup2_11 dX11_blow_115 rfl rfl ?_
                  refine J_iald dX11_blow_116 wc_174 (vin (bd_ne_lo (dn_9 hp1 (bd_lt_hi bw524 (i_nle c586) hp0)) c603 (by decide)) (by decide)) ?_
                  refine J_topi (fun v634 qv634 => ?_)
                  replace E := xq_le qv634 E
                  refine J_iload (i := 4) (j := 0) dX11_blow_117 rfl ?_
                  refine J_iadd dX11_blow_119 ?_
                  obtain ⟨u635, e636⟩ : ∃ z, z = ms u591 174 ((mof u w524 (9 : Int32)).toNatClampNeg) (v634 + w600) := ⟨_, rfl⟩
                  refine J_iast dX11_blow_120 wc_174 (vin (bd_ne_lo (dn_9 hp1 (bd_lt_hi bw524 (i_nle c586) hp0)) c603 (by decide)) (by decide)) (ws e636 wk_174 rfl) ?_
                  replace E := xq_le e636 E
                  refine J_lv [1, 2, 3, 4, 0] rfl ?_
                  exact jn610 u635 (fun c k0_ => (ms_c e636 k0_)) E
              refine J_icmp_ne (tgt := 74) dX11_blow_67 (by decide) (fun c597 => ?_) (fun c597 => ?_)
              · replace E := xq_en c597 E
                refine J_aload_n (i := 0) (j := 0) dX11_blow_74 rfl rfl ?_
                refine J_get (C := RX11) (T := TX11) (Z := 43) (ci := 11) (f := 30) dX11_blow_75 inG11 rfl (by decide) k1294 wc_162 rfl ?_
                refine J_iload_n (i := 3) (j := 3) dX11_blow_78 rfl rfl ?_
                refine J_iald dX11_blow_79 wc_175 (vin (bd_lt_hi bw524 (i_nle c586) hp0) (by decide)) ?_
                refine J_topi (fun v637 qv637 => ?_)
                replace E := xq_le qv637 E
                refine J_aload_n (i := 0) (j := 0) dX11_blow_80 rfl rfl ?_
                refine J_iload_n (i := 3) (j := 3) dX11_blow_81 rfl rfl ?_
                refine J_bipush (v := 10) dX11_blow_82 (by decide) ?_
                refine J_callV (As := [.int w524, .int 10]) (rest := [.int v637]) dX11_blow_84 (c_M_of (d := 0) (u := u591) (g := g) (ex := ex) (p := w524) (what := 10)  (by decide) (bd_lt_hi bw524 (i_nle c586) hp0) (bd_w (l := 0) (h := 15) (bd_c (v := 10) (lo := 10) (hi := 10) (by decide)) (by decide))) hq.n k1515 k1517 k55 wc_162 rfl rfl k97 k1518 np_X11_of (Nat.le_trans (by decide) hd) (by decide) (Nat.le_refl _) (Nat.le_refl _) wlen rfl (Nat.le_of_ble_eq_true rfl) (fun r_ h_ p638 => ?_)
                obtain ⟨rfl, rfl⟩ := p638
                refine J_ci (v := (mof u w524 (10 : Int32))) (mof_c ((fr594 172 rfl).trans ((fr526 172 rfl).trans ((fr186 172 (Nat.ne_of_beq_eq_false rfl)).trans ((ms_c e6 (Nat.ne_of_beq_eq_false rfl)).trans ((ms_c e4 (Nat.ne_of_beq_eq_false rfl)).trans (ms_c e2 (Nat.ne_of_beq_eq_false rfl)))))))) ?_
                refine J_imul dX11_blow_87 ?_
                refine J_bipush (v := 10) dX11_blow_88 (by decide) ?_
                refine J_idiv dX11_blow_90 (by decide) ?_
                refine J_lv [0, 1, 2, 3] rfl ?_
                exact jn601 ((v637 * (mof u w524 (10 : Int32))) / 10)  E
              · replace E := xq_ep c597 E
                refine J_iconst (v := 0) dX11_blow_70 (by decide) ?_
                refine J_goto (tgt := 91) dX11_blow_71 (by decide) ?_
                refine J_lv [0, 1, 2, 3] rfl ?_
                exact jn601 (0 : Int32)  E
        refine J_lv [1, 2, 3, 0] rfl ?_
        exact lp582 ((9 - (0 : Int32).toInt).toNat + 1) (0 : Int32) u185 (bd_w (l := 0) (h := 9) (bd_c (v := 0) (lo := 0) (hi := 0) (by decide)) (by decide)) (fun c k_ => rfl) (fun j k31_ k32_ k33_ => rfl) (bd_r ((congrFun (fr186 162 (Nat.ne_of_beq_eq_false rfl)) 31).trans ((ms_i e6 (Nat.ne_of_beq_eq_false rfl)).trans ((ms_i e4 (Nat.ne_of_beq_eq_false rfl)).trans (ms_e e2)))) (bd_w (l := 0) (h := 511) (bd_c (v := 0) (lo := 0) (hi := 0) (by decide)) (by decide))) (Nat.lt_succ_self _) E
      · replace E := xq_en c416 E
        refine J_aload_n (i := 0) (j := 0) dX11_blow_25 rfl rfl ?_
        refine J_get (C := RX11) (T := TX11) (Z := 43) (ci := 11) (f := 29) dX11_blow_26 inG11 rfl (by decide) k1293 wc_162 rfl ?_
        refine J_iload_n (i := 3) (j := 3) dX11_blow_29 rfl rfl ?_
        refine J_iconst (v := 0) dX11_blow_30 (by decide) ?_
        obtain ⟨u639, e640⟩ : ∃ z, z = ms u185 174 w184.toNatClampNeg 0 := ⟨_, rfl⟩
        refine J_iast dX11_blow_31 wc_174 (vin (bd_lt_hi bw184 (i_nle c416) hp0) (by decide)) (ws e640 wk_174 rfl) ?_
        replace E := xq_le e640 E
        refine J_iinc (i := 3) (j := 3) (v := (w184 + 1)) (lw := [(3, .int (w184 + 1)), (0, .ref 162), (1, .int steps), (2, .int banks)]) dX11_blow_32 rfl rfl (by decide) rfl ?_
        refine J_goto (tgt := 17) dX11_blow_35 (by decide) ?_
        refine J_lv [1, 2, 3, 0] rfl ?_
        exact ih414 (w184 + 1) u639 (bd_w (l := 0) (h := 9) (bd_add (l := 1) (h := 9) (bd_lt_hi bw184 (i_nle c416) hp0) (bd_c (v := 1) (lo := 1) (hi := 1) (by decide)) (by decide)) (by decide)) (fun c k0_ => ((ms_c e640 k0_).trans (fr186 c k0_))) (mu_up 1 bw184 rfl (by decide) (bd_w (l := 1) (h := 9) (bd_add (l := 1) (h := 9) (bd_lt_hi bw184 (i_nle c416) hp0) (bd_c (v := 1) (lo := 1) (hi := 1) (by decide)) (by decide)) (by decide)) hm415) E
  refine J_lv [1, 2, 3, 0] rfl ?_
  exact lp412 ((9 - (0 : Int32).toInt).toNat + 1) (0 : Int32) u5 (bd_w (l := 0) (h := 9) (bd_c (v := 0) (lo := 0) (hi := 0) (by decide)) (by decide)) (fun c k0_ => rfl) (Nat.lt_succ_self _) E
set_option maxRecDepth 100000 in
noncomputable def Fx_M_stepsOfX (rain : Int32) (u : Nat → Nat → Int32) (g : Nat → Nat → Int64) : Int32 := if (u 162 27) = (0 : Int32) then (xq_lt (u 172 ((5 : Int32) + ((2 : Int32) * rain)).toNatClampNeg) fun v2 => v2) else ((0 : Int32))
set_option maxHeartbeats 4000000 in
set_option maxRecDepth 100000 in
theorem c_M_stepsOfX {d : Nat} {u : Nat → Nat → Int32} {g : Nat → Nat → Int64} {ex : List MC} {rain : Int32} (hd : 0 ≤ d) (hp0 : Bd 0 75 rain) : CT con0 d 0 0 yX11_stepsOf cX11_stepsOf 2 (some .int) [.ref 162, .int rain] (Wd u g ex) (fun r h2 => ∃ (z : Int32), r = some (.int z) ∧ h2 = Wd u g ex ∧ z = Fx_M_stepsOfX rain u g) := by
  refine CT_of (by decide) (Nat.le_of_ble_eq_true rfl) (fun x hq => ?_)
  show J x yX11_stepsOf cX11_stepsOf 2 (some .int) d 0 0 (Wd u g ex).length 0 [(0, .ref 162), (1, .int rain)] [] (Wd u g ex) 0 0
  have E : Fx_M_stepsOfX rain u g = Fx_M_stepsOfX rain u g := rfl
  refine J_aload_n (i := 0) (j := 0) dX11_stepsOf_0 rfl rfl ?_
  refine J_get (C := RX11) (T := TX11) (Z := 43) (ci := 11) (f := 27) dX11_stepsOf_1 inG11 rfl (by decide) k1291 wc_162 rfl ?_
  refine J_if_eq (tgt := 11) dX11_stepsOf_4 (by decide) (fun c1 => ?_) (fun c1 => ?_)
  · replace E := xq_ep c1 E
    refine J_aload_n (i := 0) (j := 0) dX11_stepsOf_11 rfl rfl ?_
    refine J_get (C := RX11) (T := TX11) (Z := 43) (ci := 11) (f := 21) dX11_stepsOf_12 inG11 rfl (by decide) k1285 wc_162 rfl ?_
    refine J_iconst (v := 5) dX11_stepsOf_15 (by decide) ?_
    refine J_iconst (v := 2) dX11_stepsOf_16 (by decide) ?_
    refine J_iload_n (i := 1) (j := 1) dX11_stepsOf_17 rfl rfl ?_
    refine J_imul dX11_stepsOf_18 ?_
    refine J_iadd dX11_stepsOf_19 ?_
    refine J_iald dX11_stepsOf_20 wc_172 (vin (bd_add (l := 5) (h := 155) (bd_c (v := 5) (lo := 5) (hi := 5) (by decide)) (bd_mul (l := 0) (h := 150) (bd_c (v := 2) (lo := 2) (hi := 2) (by decide)) hp0 (by decide)) (by decide)) (by decide)) ?_
    refine J_topi (fun v2 qv2 => ?_)
    replace E := xq_le qv2 E
    exact J_iret hq dX11_stepsOf_21 rfl wlen (Nat.le_refl _) (Nat.le_refl _) ⟨v2, rfl, rfl, E⟩
  · replace E := xq_en c1 E
    refine J_iconst (v := 0) dX11_stepsOf_7 (by decide) ?_
    refine J_goto (tgt := 21) dX11_stepsOf_8 (by decide) ?_
    exact J_iret hq dX11_stepsOf_21 rfl wlen (Nat.le_refl _) (Nat.le_refl _) ⟨(0 : Int32), rfl, rfl, E⟩
set_option maxRecDepth 100000 in
noncomputable def Fx_M_harmOfX_J50 (ih_lp104 : (Int32) → (Int32) → Int32) (w69 : Int32) (w70 : Int32) (w134 : Int32) : Int32 := ih_lp104 (w69 + w134) (w70 + 1)
set_option maxRecDepth 100000 in
noncomputable def Fx_M_harmOfX_L4 (owner : Int32) (u : Nat → Nat → Int32) (g : Nat → Nat → Int64) (n_ : Nat) : (Int32) → (Int32) → Int32 := Nat.rec (motive := fun _ => (Int32) → (Int32) → Int32) (fun _ _ => default) (fun n_ ih_ w69 w70 => if (u 162 22) ≤ w70 then (w69) else (xq_lt (Fx_M_hasX (u 162 31) w70 u g) fun t126 => if t126 = true then (if owner = ((-1) : Int32) then (Fx_M_harmOfX_J50 ih_ w69 w70 (mof u w70 (5 : Int32))) else (if (mof u w70 (6 : Int32)) = owner then (Fx_M_harmOfX_J50 ih_ w69 w70 (mof u w70 (5 : Int32))) else (Fx_M_harmOfX_J50 ih_ w69 w70 (0 : Int32)))) else (Fx_M_harmOfX_J50 ih_ w69 w70 (0 : Int32)))) n_
set_option maxRecDepth 100000 in
theorem Fx_M_harmOfX_L4_s {owner : Int32} {u : Nat → Nat → Int32} {g : Nat → Nat → Int64} {w69 : Int32} {w70 : Int32} {n_ : Nat} : Fx_M_harmOfX_L4 owner u g (n_ + 1) w69 w70 = if (u 162 22) ≤ w70 then (w69) else (xq_lt (Fx_M_hasX (u 162 31) w70 u g) fun t126 => if t126 = true then (if owner = ((-1) : Int32) then (Fx_M_harmOfX_J50 (Fx_M_harmOfX_L4 owner u g n_) w69 w70 (mof u w70 (5 : Int32))) else (if (mof u w70 (6 : Int32)) = owner then (Fx_M_harmOfX_J50 (Fx_M_harmOfX_L4 owner u g n_) w69 w70 (mof u w70 (5 : Int32))) else (Fx_M_harmOfX_J50 (Fx_M_harmOfX_L4 owner u g n_) w69 w70 (0 : Int32)))) else (Fx_M_harmOfX_J50 (Fx_M_harmOfX_L4 owner u g n_) w69 w70 (0 : Int32))) := rfl
set_option maxRecDepth 100000 in
noncomputable def Fx_M_harmOfX (owner : Int32) (u : Nat → Nat → Int32) (g : Nat → Nat → Int64) : Int32 := Fx_M_harmOfX_L4 owner u g ((9 - (0 : Int32).toInt).toNat + 1) (0 : Int32) (0 : Int32)
set_option maxHeartbeats 4000000 in
set_option maxRecDepth 100000 in
theorem c_M_harmOfX {d : Nat} {u : Nat → Nat → Int32} {g : Nat → Nat → Int64} {ex : List MC} {owner : Int32} (hd : 1 ≤ d) (hp0 : Bd 0 9 (u 162 22)) : CT con0 d 0 0 yX11_harmOf cX11_harmOf 4 (some .int) [.ref 162, .int owner] (Wd u g ex) (fun r h2 => ∃ (z : Int32), r = some (.int z) ∧ h2 = Wd u g ex ∧ z = Fx_M_harmOfX owner u g) := by
  refine CT_of (by decide) (Nat.le_of_ble_eq_true rfl) (fun x hq => ?_)
  show J x yX11_harmOf cX11_harmOf 4 (some .int) d 0 0 (Wd u g ex).length 0 [(0, .ref 162), (1, .int owner)] [] (Wd u g ex) 0 0
  have E : Fx_M_harmOfX owner u g = Fx_M_harmOfX owner u g := rfl
  refine J_iconst (v := 0) dX11_harmOf_0 (by decide) ?_
  refine J_istore_n (i := 2) (lw := [(2, .int 0), (0, .ref 162), (1, .int owner)]) dX11_harmOf_1 rfl (by decide) rfl ?_
  refine J_iconst (v := 0) dX11_harmOf_2 (by decide) ?_
  refine J_istore_n (i := 3) (lw := [(3, .int 0), (2, .int 0), (0, .ref 162), (1, .int owner)]) dX11_harmOf_3 rfl (by decide) rfl ?_
  have lp104 : ∀ (n105 : Nat) (w69 : Int32) (w70 : Int32), Bd 0 9 w70 → (9 - w70.toInt).toNat < n105 → Fx_M_harmOfX_L4 owner u g n105 w69 w70 = Fx_M_harmOfX owner u g → J x yX11_harmOf cX11_harmOf 4 (some .int) d 0 0 (Wd u g ex).length 4 [(0, .ref 162), (1, .int owner), (2, .int w69), (3, .int w70)] [] (Wd u g ex) 0 0 := by
    intro n105
    induction n105 with
    | zero => intro w69 w70 bw70 hm107 _; exact absurd hm107 (Nat.not_lt_zero _)
    | succ n105 ih106 =>
      intro w69 w70 bw70 hm107 E
      replace E := Fx_M_harmOfX_L4_s.symm.trans E
      refine J_iload_n (i := 3) (j := 3) dX11_harmOf_4 rfl rfl ?_
      refine J_aload_n (i := 0) (j := 0) dX11_harmOf_5 rfl rfl ?_
      refine J_get (C := RX11) (T := TX11) (Z := 43) (ci := 11) (f := 22) dX11_harmOf_6 inG11 rfl (by decide) k1286 wc_162 rfl ?_
      refine J_icmp_ge (tgt := 58) dX11_harmOf_9 (by decide) (fun c108 => ?_) (fun c108 => ?_)
      · replace E := xq_ep c108 E
        refine J_iload_n (i := 2) (j := 2) dX11_harmOf_58 rfl rfl ?_
        exact J_iret hq dX11_harmOf_59 rfl wlen (Nat.le_refl _) (Nat.le_refl _) ⟨w69, rfl, rfl, E⟩
      · replace E := xq_en c108 E
        refine J_iload_n (i := 2) (j := 2) dX11_harmOf_12 rfl rfl ?_
        refine J_aload_n (i := 0) (j := 0) dX11_harmOf_13 rfl rfl ?_
        refine J_get (C := RX11) (T := TX11) (Z := 43) (ci := 11) (f := 31) dX11_harmOf_14 inG11 rfl (by decide) k1295 wc_162 rfl ?_
        refine J_iload_n (i := 3) (j := 3) dX11_harmOf_17 rfl rfl ?_
        refine J_callS (As := [.int (u 162 31), .int w70]) (rest := [.int w69]) dX11_harmOf_18 (c_M_hasX (d := 0) (u := u) (g := g) (ex := ex) (set := u 162 31) (k := w70)  (by decide) ) hq.n k1555 k1556 k97 k1557 np_X11_has (Nat.le_trans (by decide) hd) (by decide) (Nat.le_refl _) (Nat.le_refl _) wlen rfl (Nat.le_of_ble_eq_true rfl) (fun r_ h_ p125 => ?_)
        obtain ⟨t126, rfl, rfl, hx127⟩ := p125
        replace E := xq_le hx127 E
        have jn135 : ∀ (w134 : Int32), Fx_M_harmOfX_J50 (Fx_M_harmOfX_L4 owner u g n105) w69 w70 w134 = Fx_M_harmOfX owner u g → J x yX11_harmOf cX11_harmOf 4 (some .int) d 0 0 (Wd u g ex).length 50 [(0, .ref 162), (1, .int owner), (3, .int w70)] [.int w134, .int w69] (Wd u g ex) 0 0 := by
          intro w134 E
          refine J_iadd dX11_harmOf_50 ?_
          refine J_istore_n (i := 2) (lw := [(2, .int (w69 + w134)), (0, .ref 162), (1, .int owner), (3, .int w70)]) dX11_harmOf_51 rfl (by decide) rfl ?_
          refine J_iinc (i := 3) (j := 3) (v := (w70 + 1)) (lw := [(3, .int (w70 + 1)), (2, .int (w69 + w134)), (0, .ref 162), (1, .int owner)]) dX11_harmOf_52 rfl rfl (by decide) rfl ?_
          refine J_goto (tgt := 4) dX11_harmOf_55 (by decide) ?_
          refine J_lv [2, 3, 1, 0] rfl ?_
          exact ih106 (w69 + w134) (w70 + 1) (bd_w (l := 0) (h := 9) (bd_add (l := 1) (h := 9) (bd_lt_hi bw70 (i_nle c108) hp0) (bd_c (v := 1) (lo := 1) (hi := 1) (by decide)) (by decide)) (by decide)) (mu_up 1 bw70 rfl (by decide) (bd_w (l := 1) (h := 9) (bd_add (l := 1) (h := 9) (bd_lt_hi bw70 (i_nle c108) hp0) (bd_c (v := 1) (lo := 1) (hi := 1) (by decide)) (by decide)) (by decide)) hm107) E
        refine J_ifB_eq (tgt := 49) dX11_harmOf_21 (by decide) (fun c128 => ?_) (fun c128 => ?_)
        · replace E := xq_ef c128 E
          refine J_iconst (v := 0) dX11_harmOf_49 (by decide) ?_
          refine J_lv [0, 1, 3] rfl ?_
          exact jn135 (0 : Int32)  E
        · replace E := xq_ep c128 E
          refine J_iload_n (i := 1) (j := 1) dX11_harmOf_24 rfl rfl ?_
          refine J_iconst (v := (-1)) dX11_harmOf_25 (by decide) ?_
          refine J_icmp_eq (tgt := 40) dX11_harmOf_26 (by decide) (fun c136 => ?_) (fun c136 => ?_)
          · replace E := xq_ep c136 E
            refine J_aload_n (i := 0) (j := 0) dX11_harmOf_40 rfl rfl ?_
            refine J_iload_n (i := 3) (j := 3) dX11_harmOf_41 rfl rfl ?_
            refine J_iconst (v := 5) dX11_harmOf_42 (by decide) ?_
            refine J_callV (As := [.int w70, .int 5]) (rest := [.int w69]) dX11_harmOf_43 (c_M_of (d := 0) (u := u) (g := g) (ex := ex) (p := w70) (what := 5)  (by decide) (bd_lt_hi bw70 (i_nle c108) hp0) (bd_w (l := 0) (h := 15) (bd_c (v := 5) (lo := 5) (hi := 5) (by decide)) (by decide))) hq.n k1515 k1517 k55 wc_162 rfl rfl k97 k1518 np_X11_of (Nat.le_trans (by decide) hd) (by decide) (Nat.le_refl _) (Nat.le_refl _) wlen rfl (Nat.le_of_ble_eq_true rfl) (fun r_ h_ p137 => ?_)
            obtain ⟨rfl, rfl⟩ := p137
            refine J_goto (tgt := 50) dX11_harmOf_46 (by decide) ?_
            refine J_lv [0, 1, 3] rfl ?_
            exact jn135 (mof u w70 (5 : Int32))  E
          · replace E := xq_en c136 E
            refine J_aload_n (i := 0) (j := 0) dX11_harmOf_29 rfl rfl ?_
            refine J_iload_n (i := 3) (j := 3) dX11_harmOf_30 rfl rfl ?_
            refine J_bipush (v := 6) dX11_harmOf_31 (by decide) ?_
            refine J_callV (As := [.int w70, .int 6]) (rest := [.int w69]) dX11_harmOf_33 (c_M_of (d := 0) (u := u) (g := g) (ex := ex) (p := w70) (what := 6)  (by decide) (bd_lt_hi bw70 (i_nle c108) hp0) (bd_w (l := 0) (h := 15) (bd_c (v := 6) (lo := 6) (hi := 6) (by decide)) (by decide))) hq.n k1515 k1517 k55 wc_162 rfl rfl k97 k1518 np_X11_of (Nat.le_trans (by decide) hd) (by decide) (Nat.le_refl _) (Nat.le_refl _) wlen rfl (Nat.le_of_ble_eq_true rfl) (fun r_ h_ p138 => ?_)
            obtain ⟨rfl, rfl⟩ := p138
            refine J_iload_n (i := 1) (j := 1) dX11_harmOf_36 rfl rfl ?_
            refine J_icmp_ne (tgt := 49) dX11_harmOf_37 (by decide) (fun c139 => ?_) (fun c139 => ?_)
            · replace E := xq_en c139 E
              refine J_iconst (v := 0) dX11_harmOf_49 (by decide) ?_
              refine J_lv [0, 1, 3] rfl ?_
              exact jn135 (0 : Int32)  E
            · replace E := xq_ep c139 E
              refine J_aload_n (i := 0) (j := 0) dX11_harmOf_40 rfl rfl ?_
              refine J_iload_n (i := 3) (j := 3) dX11_harmOf_41 rfl rfl ?_
              refine J_iconst (v := 5) dX11_harmOf_42 (by decide) ?_
              refine J_callV (As := [.int w70, .int 5]) (rest := [.int w69]) dX11_harmOf_43 (c_M_of (d := 0) (u := u) (g := g) (ex := ex) (p := w70) (what := 5)  (by decide) (bd_lt_hi bw70 (i_nle c108) hp0) (bd_w (l := 0) (h := 15) (bd_c (v := 5) (lo := 5) (hi := 5) (by decide)) (by decide))) hq.n k1515 k1517 k55 wc_162 rfl rfl k97 k1518 np_X11_of (Nat.le_trans (by decide) hd) (by decide) (Nat.le_refl _) (Nat.le_refl _) wlen rfl (Nat.le_of_ble_eq_true rfl) (fun r_ h_ p140 => ?_)
              obtain ⟨rfl, rfl⟩ := p140
              refine J_goto (tgt := 50) dX11_harmOf_46 (by decide) ?_
              refine J_lv [0, 1, 3] rfl ?_
              exact jn135 (mof u w70 (5 : Int32))  E
  refine J_lv [2, 3, 1, 0] rfl ?_
  exact lp104 ((9 - (0 : Int32).toInt).toNat + 1) (0 : Int32) (0 : Int32) (bd_w (l := 0) (h := 9) (bd_c (v := 0) (lo := 0) (hi := 0) (by decide)) (by decide)) (Nat.lt_succ_self _) E
set_option maxRecDepth 100000 in
noncomputable def Fx_M_partsOfX_J58 (ih_lp100 : (Int64) → (Int32) → Int64) (w67 : Int64) (w68 : Int32) (w128 : Int64) : Int64 := xq_lt (w67 * w128) fun l130 => ih_lp100 l130 (w68 + 1)
set_option maxRecDepth 100000 in
noncomputable def Fx_M_partsOfX_L17 (banks : Int32) (u : Nat → Nat → Int32) (g : Nat → Nat → Int64) (n_ : Nat) : (Int64) → (Int32) → Int64 := Nat.rec (motive := fun _ => (Int64) → (Int32) → Int64) (fun _ _ => default) (fun n_ ih_ w67 w68 => if (u 162 22) ≤ w68 then (w67) else (xq_lt (Fx_M_hasX banks w68 u g) fun t121 => if t121 = true then (xq_lt ((mof u w68 (4 : Int32)).toInt64) fun l134 => Fx_M_partsOfX_J58 ih_ w67 w68 l134) else (xq_lt (((10 : Int32) - (mof u w68 (4 : Int32))).toInt64) fun l132 => Fx_M_partsOfX_J58 ih_ w67 w68 l132))) n_
set_option maxRecDepth 100000 in
theorem Fx_M_partsOfX_L17_s {banks : Int32} {u : Nat → Nat → Int32} {g : Nat → Nat → Int64} {w67 : Int64} {w68 : Int32} {n_ : Nat} : Fx_M_partsOfX_L17 banks u g (n_ + 1) w67 w68 = if (u 162 22) ≤ w68 then (w67) else (xq_lt (Fx_M_hasX banks w68 u g) fun t121 => if t121 = true then (xq_lt ((mof u w68 (4 : Int32)).toInt64) fun l134 => Fx_M_partsOfX_J58 (Fx_M_partsOfX_L17 banks u g n_) w67 w68 l134) else (xq_lt (((10 : Int32) - (mof u w68 (4 : Int32))).toInt64) fun l132 => Fx_M_partsOfX_J58 (Fx_M_partsOfX_L17 banks u g n_) w67 w68 l132)) := rfl
set_option maxRecDepth 100000 in
noncomputable def Fx_M_partsOfX (rain : Int32) (banks : Int32) (u : Nat → Nat → Int32) (g : Nat → Nat → Int64) : Int64 := xq_lt (u 172 (((5 : Int32) + ((2 : Int32) * rain)) + 1).toNatClampNeg) fun v1 => xq_lt v1.toInt64 fun l2 => Fx_M_partsOfX_L17 banks u g ((9 - (0 : Int32).toInt).toNat + 1) l2 (0 : Int32)
set_option maxHeartbeats 4000000 in
set_option maxRecDepth 100000 in
theorem c_M_partsOfX {d : Nat} {u : Nat → Nat → Int32} {g : Nat → Nat → Int64} {ex : List MC} {rain : Int32} {banks : Int32} (hd : 1 ≤ d) (hp0 : Bd 0 9 (u 162 22)) (hp1 : Bd (-1) 75 rain) : CT con0 d 0 0 yX11_partsOf cX11_partsOf 6 (some .long) [.ref 162, .int rain, .int banks] (Wd u g ex) (fun r h2 => ∃ (z : Int64), r = some (.long z) ∧ h2 = Wd u g ex ∧ z = Fx_M_partsOfX rain banks u g) := by
  refine CT_of (by decide) (Nat.le_of_ble_eq_true rfl) (fun x hq => ?_)
  show J x yX11_partsOf cX11_partsOf 6 (some .long) d 0 0 (Wd u g ex).length 0 [(0, .ref 162), (1, .int rain), (2, .int banks)] [] (Wd u g ex) 0 0
  have E : Fx_M_partsOfX rain banks u g = Fx_M_partsOfX rain banks u g := rfl
  refine J_aload_n (i := 0) (j := 0) dX11_partsOf_0 rfl rfl ?_
  refine J_get (C := RX11) (T := TX11) (Z := 43) (ci := 11) (f := 21) dX11_partsOf_1 inG11 rfl (by decide) k1285 wc_162 rfl ?_
  refine J_iconst (v := 5) dX11_partsOf_4 (by decide) ?_
  refine J_iconst (v := 2) dX11_partsOf_5 (by decide) ?_
  refine J_iload_n (i := 1) (j := 1) dX11_partsOf_6 rfl rfl ?_
  refine J_imul dX11_partsOf_7 ?_
  refine J_iadd dX11_partsOf_8 ?_
  refine J_iconst (v := 1) dX11_partsOf_9 (by decide) ?_
  refine J_iadd dX11_partsOf_10 ?_
  refine J_iald dX11_partsOf_11 wc_172 (vin (bd_add (l := 4) (h := 156) (bd_add (l := 3) (h := 155) (bd_c (v := 5) (lo := 5) (hi := 5) (by decide)) (bd_mulc (c := 2) (l := (-2)) (h := 150) hp1 (by decide)) (by decide)) (bd_c (v := 1) (lo := 1) (hi := 1) (by decide)) (by decide)) (by decide)) ?_
  refine J_topi (fun v1 qv1 => ?_)
  replace E := xq_le qv1 E
  refine J_i2l dX11_partsOf_12 rfl ?_
  refine J_topl (fun l2 ql2 => ?_)
  replace E := xq_le ql2 E
  refine J_lstore_n (i := 3) (lw := [(3, .long l2), (0, .ref 162), (1, .int rain), (2, .int banks)]) dX11_partsOf_13 rfl (by decide) rfl ?_
  refine J_iconst (v := 0) dX11_partsOf_14 (by decide) ?_
  refine J_istore (i := 5) (lw := [(5, .int 0), (3, .long l2), (0, .ref 162), (1, .int rain), (2, .int banks)]) dX11_partsOf_15 (by decide) rfl ?_
  have lp100 : ∀ (n101 : Nat) (w67 : Int64) (w68 : Int32), Bd 0 9 w68 → (9 - w68.toInt).toNat < n101 → Fx_M_partsOfX_L17 banks u g n101 w67 w68 = Fx_M_partsOfX rain banks u g → J x yX11_partsOf cX11_partsOf 6 (some .long) d 0 0 (Wd u g ex).length 17 [(0, .ref 162), (2, .int banks), (3, .long w67), (5, .int w68)] [] (Wd u g ex) 0 0 := by
    intro n101
    induction n101 with
    | zero => intro w67 w68 bw68 hm103 _; exact absurd hm103 (Nat.not_lt_zero _)
    | succ n101 ih102 =>
      intro w67 w68 bw68 hm103 E
      replace E := Fx_M_partsOfX_L17_s.symm.trans E
      refine J_iload (i := 5) (j := 3) dX11_partsOf_17 rfl ?_
      refine J_aload_n (i := 0) (j := 0) dX11_partsOf_19 rfl rfl ?_
      refine J_get (C := RX11) (T := TX11) (Z := 43) (ci := 11) (f := 22) dX11_partsOf_20 inG11 rfl (by decide) k1286 wc_162 rfl ?_
      refine J_icmp_ge (tgt := 66) dX11_partsOf_23 (by decide) (fun c104 => ?_) (fun c104 => ?_)
      · replace E := xq_ep c104 E
        refine J_lload_n (i := 3) (j := 2) dX11_partsOf_66 rfl rfl ?_
        exact J_lret hq dX11_partsOf_67 rfl wlen (Nat.le_refl _) (Nat.le_refl _) ⟨w67, rfl, rfl, E⟩
      · replace E := xq_en c104 E
        refine J_lload_n (i := 3) (j := 2) dX11_partsOf_26 rfl rfl ?_
        refine J_iload_n (i := 2) (j := 1) dX11_partsOf_27 rfl rfl ?_
        refine J_iload (i := 5) (j := 3) dX11_partsOf_28 rfl ?_
        refine J_callS (As := [.int banks, .int w68]) (rest := [.long w67]) dX11_partsOf_30 (c_M_hasX (d := 0) (u := u) (g := g) (ex := ex) (set := banks) (k := w68)  (by decide) ) hq.n k1555 k1556 k97 k1557 np_X11_has (Nat.le_trans (by decide) hd) (by decide) (Nat.le_refl _) (Nat.le_refl _) wlen rfl (Nat.le_of_ble_eq_true rfl) (fun r_ h_ p120 => ?_)
        obtain ⟨t121, rfl, rfl, hx122⟩ := p120
        replace E := xq_le hx122 E
        have jn129 : ∀ (w128 : Int64), Fx_M_partsOfX_J58 (Fx_M_partsOfX_L17 banks u g n101) w67 w68 w128 = Fx_M_partsOfX rain banks u g → J x yX11_partsOf cX11_partsOf 6 (some .long) d 0 0 (Wd u g ex).length 58 [(0, .ref 162), (2, .int banks), (5, .int w68)] [.long w128, .long w67] (Wd u g ex) 0 0 := by
          intro w128 E
          refine J_lmul dX11_partsOf_58 ?_
          refine J_topl (fun l130 ql130 => ?_)
          replace E := xq_le ql130 E
          refine J_lstore_n (i := 3) (lw := [(3, .long l130), (0, .ref 162), (2, .int banks), (5, .int w68)]) dX11_partsOf_59 rfl (by decide) rfl ?_
          refine J_iinc (i := 5) (j := 3) (v := (w68 + 1)) (lw := [(5, .int (w68 + 1)), (3, .long l130), (0, .ref 162), (2, .int banks)]) dX11_partsOf_60 rfl rfl (by decide) rfl ?_
          refine J_goto (tgt := 17) dX11_partsOf_63 (by decide) ?_
          refine J_lv [2, 3, 1, 0] rfl ?_
          exact ih102 l130 (w68 + 1) (bd_w (l := 0) (h := 9) (bd_add (l := 1) (h := 9) (bd_lt_hi bw68 (i_nle c104) hp0) (bd_c (v := 1) (lo := 1) (hi := 1) (by decide)) (by decide)) (by decide)) (mu_up 1 bw68 rfl (by decide) (bd_w (l := 1) (h := 9) (bd_add (l := 1) (h := 9) (bd_lt_hi bw68 (i_nle c104) hp0) (bd_c (v := 1) (lo := 1) (hi := 1) (by decide)) (by decide)) (by decide)) hm103) E
        refine J_ifB_eq (tgt := 47) dX11_partsOf_33 (by decide) (fun c123 => ?_) (fun c123 => ?_)
        · replace E := xq_ef c123 E
          refine J_bipush (v := 10) dX11_partsOf_47 (by decide) ?_
          refine J_aload_n (i := 0) (j := 0) dX11_partsOf_49 rfl rfl ?_
          refine J_iload (i := 5) (j := 3) dX11_partsOf_50 rfl ?_
          refine J_iconst (v := 4) dX11_partsOf_52 (by decide) ?_
          refine J_callV (As := [.int w68, .int 4]) (rest := [.int 10, .long w67]) dX11_partsOf_53 (c_M_of (d := 0) (u := u) (g := g) (ex := ex) (p := w68) (what := 4)  (by decide) (bd_lt_hi bw68 (i_nle c104) hp0) (bd_w (l := 0) (h := 15) (bd_c (v := 4) (lo := 4) (hi := 4) (by decide)) (by decide))) hq.n k1515 k1517 k55 wc_162 rfl rfl k97 k1518 np_X11_of (Nat.le_trans (by decide) hd) (by decide) (Nat.le_refl _) (Nat.le_refl _) wlen rfl (Nat.le_of_ble_eq_true rfl) (fun r_ h_ p131 => ?_)
          obtain ⟨rfl, rfl⟩ := p131
          refine J_isub dX11_partsOf_56 ?_
          refine J_i2l dX11_partsOf_57 rfl ?_
          refine J_topl (fun l132 ql132 => ?_)
          replace E := xq_le ql132 E
          refine J_lv [0, 1, 3] rfl ?_
          exact jn129 l132  E
        · replace E := xq_ep c123 E
          refine J_aload_n (i := 0) (j := 0) dX11_partsOf_36 rfl rfl ?_
          refine J_iload (i := 5) (j := 3) dX11_partsOf_37 rfl ?_
          refine J_iconst (v := 4) dX11_partsOf_39 (by decide) ?_
          refine J_callV (As := [.int w68, .int 4]) (rest := [.long w67]) dX11_partsOf_40 (c_M_of (d := 0) (u := u) (g := g) (ex := ex) (p := w68) (what := 4)  (by decide) (bd_lt_hi bw68 (i_nle c104) hp0) (bd_w (l := 0) (h := 15) (bd_c (v := 4) (lo := 4) (hi := 4) (by decide)) (by decide))) hq.n k1515 k1517 k55 wc_162 rfl rfl k97 k1518 np_X11_of (Nat.le_trans (by decide) hd) (by decide) (Nat.le_refl _) (Nat.le_refl _) wlen rfl (Nat.le_of_ble_eq_true rfl) (fun r_ h_ p133 => ?_)
          obtain ⟨rfl, rfl⟩ := p133
          refine J_i2l dX11_partsOf_43 rfl ?_
          refine J_topl (fun l134 ql134 => ?_)
          replace E := xq_le ql134 E
          refine J_goto (tgt := 58) dX11_partsOf_44 (by decide) ?_
          refine J_lv [0, 1, 3] rfl ?_
          exact jn129 l134  E
  refine J_lv [2, 4, 1, 0] rfl ?_
  exact lp100 ((9 - (0 : Int32).toInt).toNat + 1) l2 (0 : Int32) (bd_w (l := 0) (h := 9) (bd_c (v := 0) (lo := 0) (hi := 0) (by decide)) (by decide)) (Nat.lt_succ_self _) E
set_option maxRecDepth 100000 in
noncomputable def Fx_M_meanByX_J71 (ih_lp6823 : (Int64) → (Int32) → (Nat → Nat → Int32) → Int64 × (Nat → Nat → Int32)) (w6737 : Int32) (w6887 : Int64) (u6888 : Nat → Nat → Int32) : Int64 × (Nat → Nat → Int32) := ih_lp6823 w6887 (w6737 + 1) u6888
set_option maxRecDepth 100000 in
noncomputable def Fx_M_meanByX_L19 (ih_lp5527 : (Int64) → (Int32) → (Nat → Nat → Int32) → Int64 × (Nat → Nat → Int32)) (owner : Int32) (u : Nat → Nat → Int32) (g : Nat → Nat → Int64) (w4145 : Int32) (n_ : Nat) : (Int64) → (Int32) → (Nat → Nat → Int32) → Int64 × (Nat → Nat → Int32) := Nat.rec (motive := fun _ => (Int64) → (Int32) → (Nat → Nat → Int32) → Int64 × (Nat → Nat → Int32)) (fun _ _ _ => default) (fun n_ ih_ w6736 w6737 u6738 => if ((1 : Int32) <<< ((u 162 22) &&& 31)) ≤ w6737 then (ih_lp5527 w6736 (w4145 + 1) u6738) else (xq_lt (Fx_M_partsOfX w4145 w6737 u6738 g) fun l6869 => if (lg_cmp l6869 (0 : Int64)) ≤ (0 : Int32) then (Fx_M_meanByX_J71 ih_ w6737 w6736 u6738) else (xq_lt (Fx_M_stepsOfX w4145 u6738 g) fun v6894 => xq_lt (Fx_M_blowX v6894 w6737 u6738 g) fun u6897 => xq_lt (Fx_M_harmOfX owner u6897 g) fun v6903 => xq_lt v6903.toInt64 fun l6905 => xq_lt (l6869 * l6905) fun l6906 => xq_lt (w6736 + l6906) fun l6907 => Fx_M_meanByX_J71 ih_ w6737 l6907 u6897))) n_
set_option maxRecDepth 100000 in
theorem Fx_M_meanByX_L19_s {ih_lp5527 : (Int64) → (Int32) → (Nat → Nat → Int32) → Int64 × (Nat → Nat → Int32)} {owner : Int32} {u : Nat → Nat → Int32} {g : Nat → Nat → Int64} {w4145 : Int32} {w6736 : Int64} {w6737 : Int32} {u6738 : Nat → Nat → Int32} {n_ : Nat} : Fx_M_meanByX_L19 ih_lp5527 owner u g w4145 (n_ + 1) w6736 w6737 u6738 = if ((1 : Int32) <<< ((u 162 22) &&& 31)) ≤ w6737 then (ih_lp5527 w6736 (w4145 + 1) u6738) else (xq_lt (Fx_M_partsOfX w4145 w6737 u6738 g) fun l6869 => if (lg_cmp l6869 (0 : Int64)) ≤ (0 : Int32) then (Fx_M_meanByX_J71 (Fx_M_meanByX_L19 ih_lp5527 owner u g w4145 n_) w6737 w6736 u6738) else (xq_lt (Fx_M_stepsOfX w4145 u6738 g) fun v6894 => xq_lt (Fx_M_blowX v6894 w6737 u6738 g) fun u6897 => xq_lt (Fx_M_harmOfX owner u6897 g) fun v6903 => xq_lt v6903.toInt64 fun l6905 => xq_lt (l6869 * l6905) fun l6906 => xq_lt (w6736 + l6906) fun l6907 => Fx_M_meanByX_J71 (Fx_M_meanByX_L19 ih_lp5527 owner u g w4145 n_) w6737 l6907 u6897)) := rfl
set_option maxRecDepth 100000 in
noncomputable def Fx_M_meanByX_L5 (owner : Int32) (u : Nat → Nat → Int32) (g : Nat → Nat → Int64) (n_ : Nat) : (Int64) → (Int32) → (Nat → Nat → Int32) → Int64 × (Nat → Nat → Int32) := Nat.rec (motive := fun _ => (Int64) → (Int32) → (Nat → Nat → Int32) → Int64 × (Nat → Nat → Int32)) (fun _ _ _ => default) (fun n_ ih_ w4144 w4145 u4146 => if (u 172 1) ≤ w4145 then ((w4144, u4146)) else (Fx_M_meanByX_L19 ih_ owner u g w4145 ((512 - (0 : Int32).toInt).toNat + 1) w4144 (0 : Int32) u4146)) n_
set_option maxRecDepth 100000 in
theorem Fx_M_meanByX_L5_s {owner : Int32} {u : Nat → Nat → Int32} {g : Nat → Nat → Int64} {w4144 : Int64} {w4145 : Int32} {u4146 : Nat → Nat → Int32} {n_ : Nat} : Fx_M_meanByX_L5 owner u g (n_ + 1) w4144 w4145 u4146 = if (u 172 1) ≤ w4145 then ((w4144, u4146)) else (Fx_M_meanByX_L19 (Fx_M_meanByX_L5 owner u g n_) owner u g w4145 ((512 - (0 : Int32).toInt).toNat + 1) w4144 (0 : Int32) u4146) := rfl
set_option maxRecDepth 100000 in
noncomputable def Fx_M_meanByX (owner : Int32) (u : Nat → Nat → Int32) (g : Nat → Nat → Int64) : Int64 × (Nat → Nat → Int32) := Fx_M_meanByX_L5 owner u g ((4 - (0 : Int32).toInt).toNat + 1) (0 : Int64) (0 : Int32) u
set_option maxHeartbeats 4000000 in
set_option maxRecDepth 100000 in
theorem c_M_meanByX {d : Nat} {u : Nat → Nat → Int32} {g : Nat → Nat → Int64} {ex : List MC} {owner : Int32} (hd : 4 ≤ d) (hp0 : Bd 0 9 (u 162 22)) (hp1 : (RC u)) (hp2 : (DN u)) (hp3 : Bd 0 511 (u 162 31)) : CT con0 d 0 0 yX11_meanBy cX11_meanBy 8 (some .long) [.ref 162, .int owner] (Wd u g ex) (fun r h2 => ∃ (z : Int64) (u2 : Nat → Nat → Int32), r = some (.long z) ∧ h2 = Wd u2 g ex ∧ Bd 0 511 (u2 162 31) ∧ (z, u2) = Fx_M_meanByX owner u g ∧ (∀ c, nin c [(162, 162), (173, 175)] = true → u2 c = u c) ∧ (∀ j, j ≠ 31 → j ≠ 32 → j ≠ 33 → u2 162 j = u 162 j)) := by
  refine CT_of (by decide) (Nat.le_of_ble_eq_true rfl) (fun x hq => ?_)
  show J x yX11_meanBy cX11_meanBy 8 (some .long) d 0 0 (Wd u g ex).length 0 [(0, .ref 162), (1, .int owner)] [] (Wd u g ex) 0 0
  have E : Fx_M_meanByX owner u g = Fx_M_meanByX owner u g := rfl
  refine J_lconst (v := 0) dX11_meanBy_0 (by decide) ?_
  refine J_lstore_n (i := 2) (lw := [(2, .long 0), (0, .ref 162), (1, .int owner)]) dX11_meanBy_1 rfl (by decide) rfl ?_
  refine J_iconst (v := 0) dX11_meanBy_2 (by decide) ?_
  refine J_istore (i := 4) (lw := [(4, .int 0), (2, .long 0), (0, .ref 162), (1, .int owner)]) dX11_meanBy_3 (by decide) rfl ?_
  have lp5527 : ∀ (n5528 : Nat) (w4144 : Int64) (w4145 : Int32) (u4146 : Nat → Nat → Int32), Bd 0 4 w4145 → (∀ c, nin c [(162, 162), (173, 175)] = true → u4146 c = u c) → (∀ j, j ≠ 31 → j ≠ 32 → j ≠ 33 → u4146 162 j = u 162 j) → Bd 0 511 (u4146 162 31) → (4 - w4145.toInt).toNat < n5528 → Fx_M_meanByX_L5 owner u g n5528 w4144 w4145 u4146 = Fx_M_meanByX owner u g → J x yX11_meanBy cX11_meanBy 8 (some .long) d 0 0 (Wd u g ex).length 5 [(0, .ref 162), (1, .int owner), (2, .long w4144), (4, .int w4145)] [] (Wd u4146 g ex) 0 0 := by
    intro n5528
    induction n5528 with
    | zero => intro w4144 w4145 u4146 bw4145 fr4147 fc4148 bm4149 hm5530 _; exact absurd hm5530 (Nat.not_lt_zero _)
    | succ n5528 ih5529 =>
      intro w4144 w4145 u4146 bw4145 fr4147 fc4148 bm4149 hm5530 E
      replace E := Fx_M_meanByX_L5_s.symm.trans E
      refine J_iload (i := 4) (j := 3) dX11_meanBy_5 rfl ?_
      refine J_aload_n (i := 0) (j := 0) dX11_meanBy_7 rfl rfl ?_
      refine J_get (C := RX11) (T := TX11) (Z := 43) (ci := 11) (f := 21) dX11_meanBy_8 inG11 rfl (by decide) k1285 wc_162 rfl ?_
      refine J_iconst (v := 1) dX11_meanBy_11 (by decide) ?_
      refine J_iald dX11_meanBy_12 wc_172 (vin (bd_c (v := 1) (lo := 1) (hi := 1) (by decide)) (by decide)) ?_
      refine J_ci (v := u 172 1) (congrFun (fr4147 172 rfl) 1) ?_
      refine J_icmp_ge (tgt := 83) dX11_meanBy_13 (by decide) (fun c5531 => ?_) (fun c5531 => ?_)
      · replace E := xq_ep c5531 E
        refine J_lload_n (i := 2) (j := 2) dX11_meanBy_83 rfl rfl ?_
        exact J_lret hq dX11_meanBy_84 rfl wlen (Nat.le_refl _) (Nat.le_refl _) ⟨w4144, u4146, rfl, rfl, bm4149, E, (fun c k_ => (fr4147 c (nin_sub (M := [(162, 162), (173, 175)]) k_ rfl))), (fun j k31_ k32_ k33_ => (fc4148 j k31_ k32_ k33_))⟩
      · replace E := xq_en c5531 E
        refine J_iconst (v := 0) dX11_meanBy_16 (by decide) ?_
        refine J_istore (i := 5) (lw := [(5, .int 0), (0, .ref 162), (1, .int owner), (2, .long w4144), (4, .int w4145)]) dX11_meanBy_17 (by decide) rfl ?_
        have lp6823 : ∀ (n6824 : Nat) (w6736 : Int64) (w6737 : Int32) (u6738 : Nat → Nat → Int32), Bd 0 512 w6737 → (∀ c, nin c [(162, 162), (173, 175)] = true → u6738 c = u4146 c) → (∀ j, j ≠ 31 → j ≠ 32 → j ≠ 33 → u6738 162 j = u4146 162 j) → Bd 0 511 (u6738 162 31) → (512 - w6737.toInt).toNat < n6824 → Fx_M_meanByX_L19 (Fx_M_meanByX_L5 owner u g n5528) owner u g w4145 n6824 w6736 w6737 u6738 = Fx_M_meanByX owner u g → J x yX11_meanBy cX11_meanBy 8 (some .long) d 0 0 (Wd u g ex).length 19 [(0, .ref 162), (1, .int owner), (2, .long w6736), (4, .int w4145), (5, .int w6737)] [] (Wd u6738 g ex) 0 0 := by
          intro n6824
          induction n6824 with
          | zero => intro w6736 w6737 u6738 bw6737 fr6739 fc6740 bm6741 hm6826 _; exact absurd hm6826 (Nat.not_lt_zero _)
          | succ n6824 ih6825 =>
            intro w6736 w6737 u6738 bw6737 fr6739 fc6740 bm6741 hm6826 E
            replace E := Fx_M_meanByX_L19_s.symm.trans E
            refine J_iload (i := 5) (j := 4) dX11_meanBy_19 rfl ?_
            refine J_iconst (v := 1) dX11_meanBy_21 (by decide) ?_
            refine J_aload_n (i := 0) (j := 0) dX11_meanBy_22 rfl rfl ?_
            refine J_get (C := RX11) (T := TX11) (Z := 43) (ci := 11) (f := 22) dX11_meanBy_23 inG11 rfl (by decide) k1286 wc_162 rfl ?_
            refine J_ci (v := u 162 22) ((fc6740 22 (Nat.ne_of_beq_eq_false rfl) (Nat.ne_of_beq_eq_false rfl) (Nat.ne_of_beq_eq_false rfl)).trans (fc4148 22 (Nat.ne_of_beq_eq_false rfl) (Nat.ne_of_beq_eq_false rfl) (Nat.ne_of_beq_eq_false rfl))) ?_
            refine J_ishl dX11_meanBy_26 ?_
            refine J_icmp_ge (tgt := 77) dX11_meanBy_27 (by decide) (fun c6827 => ?_) (fun c6827 => ?_)
            · replace E := xq_ep c6827 E
              refine J_iinc (i := 4) (j := 3) (v := (w4145 + 1)) (lw := [(4, .int (w4145 + 1)), (0, .ref 162), (1, .int owner), (2, .long w6736), (5, .int w6737)]) dX11_meanBy_77 rfl rfl (by decide) rfl ?_
              refine J_goto (tgt := 5) dX11_meanBy_80 (by decide) ?_
              refine J_lv [1, 2, 3, 0] rfl ?_
              exact ih5529 w6736 (w4145 + 1) u6738 (bd_w (l := 0) (h := 4) (bd_add (l := 1) (h := 4) (bd_lt_hi bw4145 (i_nle c5531) (hp1).1) (bd_c (v := 1) (lo := 1) (hi := 1) (by decide)) (by decide)) (by decide)) (fun c k_ => ((fr6739 c (nin_sub (M := [(162, 162), (173, 175)]) k_ rfl)).trans (fr4147 c (nin_sub (M := [(162, 162), (173, 175)]) k_ rfl)))) (fun j k31_ k32_ k33_ => ((fc6740 j k31_ k32_ k33_).trans (fc4148 j k31_ k32_ k33_))) bm6741 (mu_up 1 bw4145 rfl (by decide) (bd_w (l := 1) (h := 4) (bd_add (l := 1) (h := 4) (bd_lt_hi bw4145 (i_nle c5531) (hp1).1) (bd_c (v := 1) (lo := 1) (hi := 1) (by decide)) (by decide)) (by decide)) hm5530) E
            · replace E := xq_en c6827 E
              refine J_aload_n (i := 0) (j := 0) dX11_meanBy_30 rfl rfl ?_
              refine J_iload (i := 4) (j := 3) dX11_meanBy_31 rfl ?_
              refine J_iload (i := 5) (j := 4) dX11_meanBy_33 rfl ?_
              refine J_callV (As := [.int w4145, .int w6737]) (rest := []) dX11_meanBy_35 (c_M_partsOfX (d := 1) (u := u6738) (g := g) (ex := ex) (rain := w4145) (banks := w6737)  (by decide) (bd_r ((fc6740 22 (Nat.ne_of_beq_eq_false rfl) (Nat.ne_of_beq_eq_false rfl) (Nat.ne_of_beq_eq_false rfl)).trans (fc4148 22 (Nat.ne_of_beq_eq_false rfl) (Nat.ne_of_beq_eq_false rfl) (Nat.ne_of_beq_eq_false rfl))) hp0) (bd_w (l := (-1)) (h := 75) (bd_lt_hi bw4145 (i_nle c5531) (hp1).1) (by decide))) hq.n k1579 k1581 k66 wc_162 rfl rfl k97 k1582 np_X11_partsOf (Nat.le_trans (by decide) hd) (by decide) (Nat.le_refl _) (Nat.le_refl _) wlen rfl (Nat.le_of_ble_eq_true rfl) (fun r_ h_ p6868 => ?_)
              obtain ⟨l6869, rfl, rfl, hx6870⟩ := p6868
              replace E := xq_le hx6870 E
              refine J_lstore (i := 6) (lw := [(6, .long l6869), (0, .ref 162), (1, .int owner), (2, .long w6736), (4, .int w4145), (5, .int w6737)]) dX11_meanBy_38 (by decide) rfl ?_
              refine J_lload (i := 6) (j := 0) dX11_meanBy_40 rfl ?_
              refine J_lconst (v := 0) dX11_meanBy_42 (by decide) ?_
              refine J_lcmp dX11_meanBy_43 ?_
              have jn6892 : ∀ (w6887 : Int64) (u6888 : Nat → Nat → Int32), (∀ c, nin c [(162, 162), (173, 175)] = true → u6888 c = u6738 c) → (∀ j, j ≠ 31 → j ≠ 32 → j ≠ 33 → u6888 162 j = u6738 162 j) → Bd 0 511 (u6888 162 31) → Fx_M_meanByX_J71 (Fx_M_meanByX_L19 (Fx_M_meanByX_L5 owner u g n5528) owner u g w4145 n6824) w6737 w6887 u6888 = Fx_M_meanByX owner u g → J x yX11_meanBy cX11_meanBy 8 (some .long) d 0 0 (Wd u g ex).length 71 [(0, .ref 162), (1, .int owner), (2, .long w6887), (4, .int w4145), (5, .int w6737)] [] (Wd u6888 g ex) 0 0 := by
                intro w6887 u6888 fr6889 fc6890 bm6891 E
                refine J_iinc (i := 5) (j := 4) (v := (w6737 + 1)) (lw := [(5, .int (w6737 + 1)), (0, .ref 162), (1, .int owner), (2, .long w6887), (4, .int w4145)]) dX11_meanBy_71 rfl rfl (by decide) rfl ?_
                refine J_goto (tgt := 19) dX11_meanBy_74 (by decide) ?_
                refine J_lv [1, 2, 3, 4, 0] rfl ?_
                exact ih6825 w6887 (w6737 + 1) u6888 (bd_w (l := 0) (h := 512) (bd_add (l := 1) (h := 512) (bd_lt_hi bw6737 (i_nle c6827) (bd_shl (lo := 0) (hi := 9) (l := 1) (h := 512) hp0 (by decide))) (bd_c (v := 1) (lo := 1) (hi := 1) (by decide)) (by decide)) (by decide)) (fun c k_ => ((fr6889 c (nin_sub (M := [(162, 162), (173, 175)]) k_ rfl)).trans (fr6739 c (nin_sub (M := [(162, 162), (173, 175)]) k_ rfl)))) (fun j k31_ k32_ k33_ => ((fc6890 j k31_ k32_ k33_).trans (fc6740 j k31_ k32_ k33_))) bm6891 (mu_up 1 bw6737 rfl (by decide) (bd_w (l := 1) (h := 512) (bd_add (l := 1) (h := 512) (bd_lt_hi bw6737 (i_nle c6827) (bd_shl (lo := 0) (hi := 9) (l := 1) (h := 512) hp0 (by decide))) (bd_c (v := 1) (lo := 1) (hi := 1) (by decide)) (by decide)) (by decide)) hm6826) E
              refine J_if_le (tgt := 71) dX11_meanBy_44 (by decide) (fun c6871 => ?_) (fun c6871 => ?_)
              · replace E := xq_ep c6871 E
                refine J_lv [1, 2, 3, 4, 5] rfl ?_
                exact jn6892 w6736 u6738 (fun c k_ => rfl) (fun j k31_ k32_ k33_ => rfl) bm6741 E
              · replace E := xq_en c6871 E
                refine J_aload_n (i := 0) (j := 1) dX11_meanBy_47 rfl rfl ?_
                refine J_aload_n (i := 0) (j := 1) dX11_meanBy_48 rfl rfl ?_
                refine J_iload (i := 4) (j := 4) dX11_meanBy_49 rfl ?_
                refine J_callV (As := [.int w4145]) (rest := [.ref 162]) dX11_meanBy_51 (c_M_stepsOfX (d := 0) (u := u6738) (g := g) (ex := ex) (rain := w4145)  (by decide) (bd_w (l := 0) (h := 75) (bd_lt_hi bw4145 (i_nle c5531) (hp1).1) (by decide))) hq.n k1547 k1549 k60 wc_162 rfl rfl k97 k1550 np_X11_stepsOf (Nat.le_trans (by decide) hd) (by decide) (Nat.le_refl _) (Nat.le_refl _) wlen rfl (Nat.le_of_ble_eq_true rfl) (fun r_ h_ p6893 => ?_)
                obtain ⟨v6894, rfl, rfl, hx6895⟩ := p6893
                replace E := xq_le hx6895 E
                refine J_iload (i := 5) (j := 5) dX11_meanBy_54 rfl ?_
                refine J_callV (As := [.int v6894, .int w6737]) (rest := []) dX11_meanBy_56 (c_M_blowX (d := 3) (u := u6738) (g := g) (ex := ex) (steps := v6894) (banks := w6737)  (by decide) (bd_r ((fc6740 22 (Nat.ne_of_beq_eq_false rfl) (Nat.ne_of_beq_eq_false rfl) (Nat.ne_of_beq_eq_false rfl)).trans (fc4148 22 (Nat.ne_of_beq_eq_false rfl) (Nat.ne_of_beq_eq_false rfl) (Nat.ne_of_beq_eq_false rfl))) hp0) (dn_c ((fr6739 172 rfl).trans (fr4147 172 rfl)) hp2)) hq.n k1551 k1553 k61 wc_162 rfl rfl k97 k1554 np_X11_blow (Nat.le_trans (by decide) hd) (by decide) (Nat.le_refl _) (Nat.le_refl _) wlen rfl (Nat.le_of_ble_eq_true rfl) (fun r_ h_ p6896 => ?_)
                obtain ⟨u6897, rfl, rfl, h6898, hx6899, fr6900, fc6901⟩ := p6896
                replace E := xq_le hx6899 E
                refine J_lload_n (i := 2) (j := 3) dX11_meanBy_59 rfl rfl ?_
                refine J_lload (i := 6) (j := 0) dX11_meanBy_60 rfl ?_
                refine J_aload_n (i := 0) (j := 1) dX11_meanBy_62 rfl rfl ?_
                refine J_iload_n (i := 1) (j := 2) dX11_meanBy_63 rfl rfl ?_
                refine J_callV (As := [.int owner]) (rest := [.long l6869, .long w6736]) dX11_meanBy_64 (c_M_harmOfX (d := 1) (u := u6897) (g := g) (ex := ex) (owner := owner)  (by decide) (bd_r ((fc6901 22 (Nat.ne_of_beq_eq_false rfl) (Nat.ne_of_beq_eq_false rfl) (Nat.ne_of_beq_eq_false rfl)).trans ((fc6740 22 (Nat.ne_of_beq_eq_false rfl) (Nat.ne_of_beq_eq_false rfl) (Nat.ne_of_beq_eq_false rfl)).trans (fc4148 22 (Nat.ne_of_beq_eq_false rfl) (Nat.ne_of_beq_eq_false rfl) (Nat.ne_of_beq_eq_false rfl)))) hp0)) hq.n k1570 k1572 k65 wc_162 rfl rfl k97 k1573 np_X11_harmOf (Nat.le_trans (by decide) hd) (by decide) (Nat.le_refl _) (Nat.le_refl _) wlen rfl (Nat.le_of_ble_eq_true rfl) (fun r_ h_ p6902 => ?_)
                obtain ⟨v6903, rfl, rfl, hx6904⟩ := p6902
                replace E := xq_le hx6904 E
                refine J_i2l dX11_meanBy_67 rfl ?_
                refine J_topl (fun l6905 ql6905 => ?_)
                replace E := xq_le ql6905 E
                refine J_lmul dX11_meanBy_68 ?_
                refine J_topl (fun l6906 ql6906 => ?_)
                replace E := xq_le ql6906 E
                refine J_ladd dX11_meanBy_69 ?_
                refine J_topl (fun l6907 ql6907 => ?_)
                replace E := xq_le ql6907 E
                refine J_lstore_n (i := 2) (lw := [(2, .long l6907), (6, .long l6869), (0, .ref 162), (1, .int owner), (4, .int w4145), (5, .int w6737)]) dX11_meanBy_70 rfl (by decide) rfl ?_
                refine J_lv [2, 3, 0, 4, 5] rfl ?_
                exact jn6892 l6907 u6897 (fun c k_ => (fr6900 c (nin_sub (M := [(162, 162), (173, 175)]) k_ rfl))) (fun j k31_ k32_ k33_ => (fc6901 j k31_ k32_ k33_)) h6898 E
        refine J_lv [1, 2, 3, 4, 0] rfl ?_
        exact lp6823 ((512 - (0 : Int32).toInt).toNat + 1) w4144 (0 : Int32) u4146 (bd_w (l := 0) (h := 512) (bd_c (v := 0) (lo := 0) (hi := 0) (by decide)) (by decide)) (fun c k_ => rfl) (fun j k31_ k32_ k33_ => rfl) bm4149 (Nat.lt_succ_self _) E
  refine J_lv [2, 3, 1, 0] rfl ?_
  exact lp5527 ((4 - (0 : Int32).toInt).toNat + 1) (0 : Int64) (0 : Int32) u (bd_w (l := 0) (h := 4) (bd_c (v := 0) (lo := 0) (hi := 0) (by decide)) (by decide)) (fun c k_ => rfl) (fun j k31_ k32_ k33_ => rfl) hp3 (Nat.lt_succ_self _) E
set_option maxRecDepth 100000 in
noncomputable def Fx_M_keepChancesX_L2 (u : Nat → Nat → Int32) (n_ : Nat) : (Int32) → (Nat → Nat → Int32) → (Nat → Nat → Int32) := Nat.rec (motive := fun _ => (Int32) → (Nat → Nat → Int32) → (Nat → Nat → Int32)) (fun _ _ => default) (fun n_ ih_ w13 u14 => if (u 162 22) ≤ w13 then (u14) else (xq_lt (ms u14 177 w13.toNatClampNeg (mof u w13 (4 : Int32))) fun u27 => ih_ (w13 + 1) u27)) n_
set_option maxRecDepth 100000 in
theorem Fx_M_keepChancesX_L2_s {u : Nat → Nat → Int32} {w13 : Int32} {u14 : Nat → Nat → Int32} {n_ : Nat} : Fx_M_keepChancesX_L2 u (n_ + 1) w13 u14 = if (u 162 22) ≤ w13 then (u14) else (xq_lt (ms u14 177 w13.toNatClampNeg (mof u w13 (4 : Int32))) fun u27 => (Fx_M_keepChancesX_L2 u n_) (w13 + 1) u27) := rfl
set_option maxRecDepth 100000 in
noncomputable def Fx_M_keepChancesX (u : Nat → Nat → Int32) (g : Nat → Nat → Int64) : (Nat → Nat → Int32) := Fx_M_keepChancesX_L2 u ((9 - (0 : Int32).toInt).toNat + 1) (0 : Int32) u
set_option maxHeartbeats 4000000 in
set_option maxRecDepth 100000 in
theorem c_M_keepChancesX {d : Nat} {u : Nat → Nat → Int32} {g : Nat → Nat → Int64} {ex : List MC}  (hd : 1 ≤ d) (hp0 : Bd 0 9 (u 162 22)) (hp1 : AB u 172 (-1) 999) (hp2 : AB u 177 (-1) 999) : CT con0 d 0 0 yX11_keepChances cX11_keepChances 2 none [.ref 162] (Wd u g ex) (fun r h2 => ∃ (u2 : Nat → Nat → Int32), r = none ∧ h2 = Wd u2 g ex ∧ AB u2 177 (-1) 999 ∧ u2 = Fx_M_keepChancesX u g ∧ (∀ c, c ≠ 177 → u2 c = u c)) := by
  refine CT_of (by decide) (Nat.le_of_ble_eq_true rfl) (fun x hq => ?_)
  show J x yX11_keepChances cX11_keepChances 2 none d 0 0 (Wd u g ex).length 0 [(0, .ref 162)] [] (Wd u g ex) 0 0
  have E : Fx_M_keepChancesX u g = Fx_M_keepChancesX u g := rfl
  refine J_iconst (v := 0) dX11_keepChances_0 (by decide) ?_
  refine J_istore_n (i := 1) (lw := [(1, .int 0), (0, .ref 162)]) dX11_keepChances_1 rfl (by decide) rfl ?_
  have lp21 : ∀ (n22 : Nat) (w13 : Int32) (u14 : Nat → Nat → Int32), Bd 0 9 w13 → (∀ c, c ≠ 177 → u14 c = u c) → AB u14 177 (-1) 999 → (9 - w13.toInt).toNat < n22 → Fx_M_keepChancesX_L2 u n22 w13 u14 = Fx_M_keepChancesX u g → J x yX11_keepChances cX11_keepChances 2 none d 0 0 (Wd u g ex).length 2 [(0, .ref 162), (1, .int w13)] [] (Wd u14 g ex) 0 0 := by
    intro n22
    induction n22 with
    | zero => intro w13 u14 bw13 fr15 ab16 hm24 _; exact absurd hm24 (Nat.not_lt_zero _)
    | succ n22 ih23 =>
      intro w13 u14 bw13 fr15 ab16 hm24 E
      replace E := Fx_M_keepChancesX_L2_s.symm.trans E
      refine J_iload_n (i := 1) (j := 1) dX11_keepChances_2 rfl rfl ?_
      refine J_aload_n (i := 0) (j := 0) dX11_keepChances_3 rfl rfl ?_
      refine J_get (C := RX11) (T := TX11) (Z := 43) (ci := 11) (f := 22) dX11_keepChances_4 inG11 rfl (by decide) k1286 wc_162 rfl ?_
      refine J_ci (v := u 162 22) (congrFun (fr15 162 (Nat.ne_of_beq_eq_false rfl)) 22) ?_
      refine J_icmp_ge (tgt := 28) dX11_keepChances_7 (by decide) (fun c25 => ?_) (fun c25 => ?_)
      · replace E := xq_ep c25 E
        exact J_vret hq dX11_keepChances_28 rfl wlen (Nat.le_refl _) (Nat.le_refl _) ⟨u14, rfl, rfl, ab16, E, (fun c k0_ => (fr15 c k0_))⟩
      · replace E := xq_en c25 E
        refine J_aload_n (i := 0) (j := 0) dX11_keepChances_10 rfl rfl ?_
        refine J_get (C := RX11) (T := TX11) (Z := 43) (ci := 11) (f := 35) dX11_keepChances_11 inG11 rfl (by decide) k1299 wc_162 rfl ?_
        refine J_iload_n (i := 1) (j := 1) dX11_keepChances_14 rfl rfl ?_
        refine J_aload_n (i := 0) (j := 0) dX11_keepChances_15 rfl rfl ?_
        refine J_iload_n (i := 1) (j := 1) dX11_keepChances_16 rfl rfl ?_
        refine J_iconst (v := 4) dX11_keepChances_17 (by decide) ?_
        refine J_callV (As := [.int w13, .int 4]) (rest := [.int w13, .ref 177]) dX11_keepChances_18 (c_M_of (d := 0) (u := u14) (g := g) (ex := ex) (p := w13) (what := 4)  (by decide) (bd_lt_hi bw13 (i_nle c25) hp0) (bd_w (l := 0) (h := 15) (bd_c (v := 4) (lo := 4) (hi := 4) (by decide)) (by decide))) hq.n k1515 k1517 k55 wc_162 rfl rfl k97 k1518 np_X11_of (Nat.le_trans (by decide) hd) (by decide) (Nat.le_refl _) (Nat.le_refl _) wlen rfl (Nat.le_of_ble_eq_true rfl) (fun r_ h_ p26 => ?_)
        obtain ⟨rfl, rfl⟩ := p26
        refine J_ci (v := (mof u w13 (4 : Int32))) (mof_c (fr15 172 (Nat.ne_of_beq_eq_false rfl))) ?_
        obtain ⟨u27, e28⟩ : ∃ z, z = ms u14 177 w13.toNatClampNeg (mof u w13 (4 : Int32)) := ⟨_, rfl⟩
        refine J_iast dX11_keepChances_21 wc_177 (vin (bd_lt_hi bw13 (i_nle c25) hp0) (by decide)) (ws e28 wk_177 rfl) ?_
        replace E := xq_le e28 E
        refine J_iinc (i := 1) (j := 1) (v := (w13 + 1)) (lw := [(1, .int (w13 + 1)), (0, .ref 162)]) dX11_keepChances_22 rfl rfl (by decide) rfl ?_
        refine J_goto (tgt := 2) dX11_keepChances_25 (by decide) ?_
        refine J_lv [1, 0] rfl ?_
        exact ih23 (w13 + 1) u27 (bd_w (l := 0) (h := 9) (bd_add (l := 1) (h := 9) (bd_lt_hi bw13 (i_nle c25) hp0) (bd_c (v := 1) (lo := 1) (hi := 1) (by decide)) (by decide)) (by decide)) (fun c k0_ => ((ms_c e28 k0_).trans (fr15 c k0_))) (ab_s e28 ab16 (hp1 _)) (mu_up 1 bw13 rfl (by decide) (bd_w (l := 1) (h := 9) (bd_add (l := 1) (h := 9) (bd_lt_hi bw13 (i_nle c25) hp0) (bd_c (v := 1) (lo := 1) (hi := 1) (by decide)) (by decide)) (by decide)) hm24) E
  refine J_lv [1, 0] rfl ?_
  exact lp21 ((9 - (0 : Int32).toInt).toNat + 1) (0 : Int32) u (bd_w (l := 0) (h := 9) (bd_c (v := 0) (lo := 0) (hi := 0) (by decide)) (by decide)) (fun c k0_ => rfl) hp2 (Nat.lt_succ_self _) E
set_option maxRecDepth 100000 in
noncomputable def Fx_M_costOfX_J38 (ih_lp52 : (Int32) → (Int32) → Int32) (w33 : Int32) (w34 : Int32) (w70 : Int32) : Int32 := ih_lp52 (w33 + w70) (w34 + 1)
set_option maxRecDepth 100000 in
noncomputable def Fx_M_costOfX_L4 (set : Int32) (u : Nat → Nat → Int32) (g : Nat → Nat → Int64) (n_ : Nat) : (Int32) → (Int32) → Int32 := Nat.rec (motive := fun _ => (Int32) → (Int32) → Int32) (fun _ _ => default) (fun n_ ih_ w33 w34 => if (u 162 22) ≤ w34 then (w33) else (xq_lt (Fx_M_hasX set w34 u g) fun t66 => if t66 = true then (xq_lt (u 177 w34.toNatClampNeg) fun v72 => Fx_M_costOfX_J38 ih_ w33 w34 (v72 * (u 172 2))) else (Fx_M_costOfX_J38 ih_ w33 w34 (0 : Int32)))) n_
set_option maxRecDepth 100000 in
theorem Fx_M_costOfX_L4_s {set : Int32} {u : Nat → Nat → Int32} {g : Nat → Nat → Int64} {w33 : Int32} {w34 : Int32} {n_ : Nat} : Fx_M_costOfX_L4 set u g (n_ + 1) w33 w34 = if (u 162 22) ≤ w34 then (w33) else (xq_lt (Fx_M_hasX set w34 u g) fun t66 => if t66 = true then (xq_lt (u 177 w34.toNatClampNeg) fun v72 => Fx_M_costOfX_J38 (Fx_M_costOfX_L4 set u g n_) w33 w34 (v72 * (u 172 2))) else (Fx_M_costOfX_J38 (Fx_M_costOfX_L4 set u g n_) w33 w34 (0 : Int32))) := rfl
set_option maxRecDepth 100000 in
noncomputable def Fx_M_costOfX (set : Int32) (u : Nat → Nat → Int32) (g : Nat → Nat → Int64) : Int32 := Fx_M_costOfX_L4 set u g ((9 - (0 : Int32).toInt).toNat + 1) (0 : Int32) (0 : Int32)
set_option maxHeartbeats 4000000 in
set_option maxRecDepth 100000 in
theorem c_M_costOfX {d : Nat} {u : Nat → Nat → Int32} {g : Nat → Nat → Int64} {ex : List MC} {set : Int32} (hd : 1 ≤ d) (hp0 : Bd 0 9 (u 162 22)) : CT con0 d 0 0 yX11_costOf cX11_costOf 4 (some .int) [.ref 162, .int set] (Wd u g ex) (fun r h2 => ∃ (z : Int32), r = some (.int z) ∧ h2 = Wd u g ex ∧ z = Fx_M_costOfX set u g) := by
  refine CT_of (by decide) (Nat.le_of_ble_eq_true rfl) (fun x hq => ?_)
  show J x yX11_costOf cX11_costOf 4 (some .int) d 0 0 (Wd u g ex).length 0 [(0, .ref 162), (1, .int set)] [] (Wd u g ex) 0 0
  have E : Fx_M_costOfX set u g = Fx_M_costOfX set u g := rfl
  refine J_iconst (v := 0) dX11_costOf_0 (by decide) ?_
  refine J_istore_n (i := 2) (lw := [(2, .int 0), (0, .ref 162), (1, .int set)]) dX11_costOf_1 rfl (by decide) rfl ?_
  refine J_iconst (v := 0) dX11_costOf_2 (by decide) ?_
  refine J_istore_n (i := 3) (lw := [(3, .int 0), (2, .int 0), (0, .ref 162), (1, .int set)]) dX11_costOf_3 rfl (by decide) rfl ?_
  have lp52 : ∀ (n53 : Nat) (w33 : Int32) (w34 : Int32), Bd 0 9 w34 → (9 - w34.toInt).toNat < n53 → Fx_M_costOfX_L4 set u g n53 w33 w34 = Fx_M_costOfX set u g → J x yX11_costOf cX11_costOf 4 (some .int) d 0 0 (Wd u g ex).length 4 [(0, .ref 162), (1, .int set), (2, .int w33), (3, .int w34)] [] (Wd u g ex) 0 0 := by
    intro n53
    induction n53 with
    | zero => intro w33 w34 bw34 hm55 _; exact absurd hm55 (Nat.not_lt_zero _)
    | succ n53 ih54 =>
      intro w33 w34 bw34 hm55 E
      replace E := Fx_M_costOfX_L4_s.symm.trans E
      refine J_iload_n (i := 3) (j := 3) dX11_costOf_4 rfl rfl ?_
      refine J_aload_n (i := 0) (j := 0) dX11_costOf_5 rfl rfl ?_
      refine J_get (C := RX11) (T := TX11) (Z := 43) (ci := 11) (f := 22) dX11_costOf_6 inG11 rfl (by decide) k1286 wc_162 rfl ?_
      refine J_icmp_ge (tgt := 46) dX11_costOf_9 (by decide) (fun c56 => ?_) (fun c56 => ?_)
      · replace E := xq_ep c56 E
        refine J_iload_n (i := 2) (j := 2) dX11_costOf_46 rfl rfl ?_
        exact J_iret hq dX11_costOf_47 rfl wlen (Nat.le_refl _) (Nat.le_refl _) ⟨w33, rfl, rfl, E⟩
      · replace E := xq_en c56 E
        refine J_iload_n (i := 2) (j := 2) dX11_costOf_12 rfl rfl ?_
        refine J_iload_n (i := 1) (j := 1) dX11_costOf_13 rfl rfl ?_
        refine J_iload_n (i := 3) (j := 3) dX11_costOf_14 rfl rfl ?_
        refine J_callS (As := [.int set, .int w34]) (rest := [.int w33]) dX11_costOf_15 (c_M_hasX (d := 0) (u := u) (g := g) (ex := ex) (set := set) (k := w34)  (by decide) ) hq.n k1555 k1556 k97 k1557 np_X11_has (Nat.le_trans (by decide) hd) (by decide) (Nat.le_refl _) (Nat.le_refl _) wlen rfl (Nat.le_of_ble_eq_true rfl) (fun r_ h_ p65 => ?_)
        obtain ⟨t66, rfl, rfl, hx67⟩ := p65
        replace E := xq_le hx67 E
        have jn71 : ∀ (w70 : Int32), Fx_M_costOfX_J38 (Fx_M_costOfX_L4 set u g n53) w33 w34 w70 = Fx_M_costOfX set u g → J x yX11_costOf cX11_costOf 4 (some .int) d 0 0 (Wd u g ex).length 38 [(0, .ref 162), (1, .int set), (3, .int w34)] [.int w70, .int w33] (Wd u g ex) 0 0 := by
          intro w70 E
          refine J_iadd dX11_costOf_38 ?_
          refine J_istore_n (i := 2) (lw := [(2, .int (w33 + w70)), (0, .ref 162), (1, .int set), (3, .int w34)]) dX11_costOf_39 rfl (by decide) rfl ?_
          refine J_iinc (i := 3) (j := 3) (v := (w34 + 1)) (lw := [(3, .int (w34 + 1)), (2, .int (w33 + w70)), (0, .ref 162), (1, .int set)]) dX11_costOf_40 rfl rfl (by decide) rfl ?_
          refine J_goto (tgt := 4) dX11_costOf_43 (by decide) ?_
          refine J_lv [2, 3, 1, 0] rfl ?_
          exact ih54 (w33 + w70) (w34 + 1) (bd_w (l := 0) (h := 9) (bd_add (l := 1) (h := 9) (bd_lt_hi bw34 (i_nle c56) hp0) (bd_c (v := 1) (lo := 1) (hi := 1) (by decide)) (by decide)) (by decide)) (mu_up 1 bw34 rfl (by decide) (bd_w (l := 1) (h := 9) (bd_add (l := 1) (h := 9) (bd_lt_hi bw34 (i_nle c56) hp0) (bd_c (v := 1) (lo := 1) (hi := 1) (by decide)) (by decide)) (by decide)) hm55) E
        refine J_ifB_eq (tgt := 37) dX11_costOf_18 (by decide) (fun c68 => ?_) (fun c68 => ?_)
        · replace E := xq_ef c68 E
          refine J_iconst (v := 0) dX11_costOf_37 (by decide) ?_
          refine J_lv [0, 1, 3] rfl ?_
          exact jn71 (0 : Int32)  E
        · replace E := xq_ep c68 E
          refine J_aload_n (i := 0) (j := 0) dX11_costOf_21 rfl rfl ?_
          refine J_get (C := RX11) (T := TX11) (Z := 43) (ci := 11) (f := 35) dX11_costOf_22 inG11 rfl (by decide) k1299 wc_162 rfl ?_
          refine J_iload_n (i := 3) (j := 3) dX11_costOf_25 rfl rfl ?_
          refine J_iald dX11_costOf_26 wc_177 (vin (bd_lt_hi bw34 (i_nle c56) hp0) (by decide)) ?_
          refine J_topi (fun v72 qv72 => ?_)
          replace E := xq_le qv72 E
          refine J_aload_n (i := 0) (j := 0) dX11_costOf_27 rfl rfl ?_
          refine J_get (C := RX11) (T := TX11) (Z := 43) (ci := 11) (f := 21) dX11_costOf_28 inG11 rfl (by decide) k1285 wc_162 rfl ?_
          refine J_iconst (v := 2) dX11_costOf_31 (by decide) ?_
          refine J_iald dX11_costOf_32 wc_172 (vin (bd_c (v := 2) (lo := 2) (hi := 2) (by decide)) (by decide)) ?_
          refine J_ci (v := u 172 2) rfl ?_
          refine J_imul dX11_costOf_33 ?_
          refine J_goto (tgt := 38) dX11_costOf_34 (by decide) ?_
          refine J_lv [0, 1, 3] rfl ?_
          exact jn71 (v72 * (u 172 2))  E
  refine J_lv [2, 3, 1, 0] rfl ?_
  exact lp52 ((9 - (0 : Int32).toInt).toNat + 1) (0 : Int32) (0 : Int32) (bd_w (l := 0) (h := 9) (bd_c (v := 0) (lo := 0) (hi := 0) (by decide)) (by decide)) (Nat.lt_succ_self _) E
set_option maxRecDepth 100000 in
noncomputable def Fx_M_doesX (what : Int32) (p : Int32) (much : Int32) (u : Nat → Nat → Int32) (g : Nat → Nat → Int64) : Bool × (Nat → Nat → Int32) := if what = (4 : Int32) then (if (u 162 22) ≤ p then ((false, u)) else (if (mof u p (15 : Int32)) = (1 : Int32) then ((false, u)) else (if what = 0 then (default) else (if what = 1 then (default) else (if what = 2 then (default) else (if what = 3 then (default) else (xq_lt (ms u 162 25 ((u 162 25) + ((mof u p (1 : Int32)) * (mof u p (7 : Int32))))) fun u10 => xq_lt (Fx_M_setX p (1 : Int32) (0 : Int32) u10 g) fun u13 => xq_lt (Fx_M_setX p (0 : Int32) (0 : Int32) u13 g) fun u18 => xq_lt (Fx_M_setX p (4 : Int32) (0 : Int32) u18 g) fun u23 => xq_lt (Fx_M_setX p (15 : Int32) (1 : Int32) u23 g) fun u28 => (true, u28)))))))) else (if (u 162 22) ≤ p then ((false, u)) else (if (mof u p (15 : Int32)) = (1 : Int32) then ((false, u)) else (if what = 0 then (if much ≤ (mof u p (4 : Int32)) then (xq_lt (Fx_M_setX p (4 : Int32) ((mof u p (4 : Int32)) - much) u g) fun u40 => xq_lt (ms u40 162 24 ((u 162 24) + (much * (u40 172 2)))) fun u44 => (true, u44)) else ((false, u))) else (if what = 1 then (if much ≤ (mof u p (1 : Int32)) then (xq_lt (Fx_M_setX p (1 : Int32) ((mof u p (1 : Int32)) - much) u g) fun u51 => xq_lt (ms u51 162 25 ((u 162 25) + (much * (mof u51 p (7 : Int32))))) fun u56 => (true, u56)) else ((false, u))) else (if what = 2 then (if ((mof u p (3 : Int32)) + much) ≤ (24 : Int32) then (xq_lt (Fx_M_setX p (3 : Int32) ((mof u p (3 : Int32)) + much) u g) fun u63 => xq_lt (ms u63 162 24 ((u 162 24) + (much * (u63 172 3)))) fun u67 => (true, u67)) else ((false, u))) else (if what = 3 then (xq_lt (Fx_M_inEX much (p + 1) ((u 162 22) - 1) u g) fun t71 => if t71 = true then (xq_lt (Fx_M_setX p (8 : Int32) much u g) fun u78 => xq_lt (ms u78 162 24 ((u 162 24) + (u78 172 4))) fun u82 => (true, u82)) else ((false, u))) else (xq_lt (ms u 162 25 ((u 162 25) + ((mof u p (1 : Int32)) * (mof u p (7 : Int32))))) fun u86 => xq_lt (Fx_M_setX p (1 : Int32) (0 : Int32) u86 g) fun u89 => xq_lt (Fx_M_setX p (0 : Int32) (0 : Int32) u89 g) fun u94 => xq_lt (Fx_M_setX p (4 : Int32) (0 : Int32) u94 g) fun u99 => xq_lt (Fx_M_setX p (15 : Int32) (1 : Int32) u99 g) fun u104 => (true, u104))))))))
set_option maxHeartbeats 4000000 in
set_option maxRecDepth 100000 in
theorem c_M_doesX {d : Nat} {u : Nat → Nat → Int32} {g : Nat → Nat → Int64} {ex : List MC} {what : Int32} {p : Int32} {much : Int32} (hd : 1 ≤ d) (hp0 : Bd 0 9 (u 162 22)) (hp1 : Bd 0 999 p) (hp2 : (what = 4 ∨ Bd 0 999 much)) (hp3 : AB u 172 (-1) 999) (hp4 : (DN u)) (hp5 : (RC u)) (hp6 : (N0 u)) : CT con0 d 0 0 yX11_does cX11_does 4 (some .boolean) [.ref 162, .int what, .int p, .int much] (Wd u g ex) (fun r h2 => ∃ (z : Bool) (u2 : Nat → Nat → Int32), r = some (.int (bI z)) ∧ h2 = Wd u2 g ex ∧ AB u2 172 (-1) 999 ∧ (DN u2) ∧ (RC u2) ∧ (N0 u2) ∧ (z, u2) = Fx_M_doesX what p much u g ∧ (∀ c, c ≠ 162 → c ≠ 172 → u2 c = u c) ∧ (∀ j, j ≠ 24 → j ≠ 25 → u2 162 j = u 162 j)) := by
  refine CT_of (by decide) (Nat.le_of_ble_eq_true rfl) (fun x hq => ?_)
  show J x yX11_does cX11_does 4 (some .boolean) d 0 0 (Wd u g ex).length 0 [(0, .ref 162), (1, .int what), (2, .int p), (3, .int much)] [] (Wd u g ex) 0 0
  have E : Fx_M_doesX what p much u g = Fx_M_doesX what p much u g := rfl
  by_cases hk : what = 4
  · replace E := xq_ep hk E
    refine J_iload_n (i := 2) (j := 2) dX11_does_0 rfl rfl ?_
    refine J_aload_n (i := 0) (j := 0) dX11_does_1 rfl rfl ?_
    refine J_get (C := RX11) (T := TX11) (Z := 43) (ci := 11) (f := 22) dX11_does_2 inG11 rfl (by decide) k1286 wc_162 rfl ?_
    refine J_icmp_ge (tgt := 19) dX11_does_5 (by decide) (fun c1 => ?_) (fun c1 => ?_)
    · replace E := xq_ep c1 E
      refine J_iconst (v := 0) dX11_does_19 (by decide) ?_
      exact J_zret hq dX11_does_20 rfl rfl wlen (Nat.le_refl _) (Nat.le_refl _) ⟨false, u, rfl, rfl, hp3, hp4, hp5, hp6, E, (fun c k0_ k1_ => rfl), (fun j k24_ k25_ => rfl)⟩
    · replace E := xq_en c1 E
      refine J_aload_n (i := 0) (j := 0) dX11_does_8 rfl rfl ?_
      refine J_iload_n (i := 2) (j := 2) dX11_does_9 rfl rfl ?_
      refine J_bipush (v := 15) dX11_does_10 (by decide) ?_
      refine J_callV (As := [.int p, .int 15]) (rest := []) dX11_does_12 (c_M_of (d := 0) (u := u) (g := g) (ex := ex) (p := p) (what := 15)  (by decide) (bd_lt_hi hp1 (i_nle c1) hp0) (bd_w (l := 0) (h := 15) (bd_c (v := 15) (lo := 15) (hi := 15) (by decide)) (by decide))) hq.n k1515 k1517 k55 wc_162 rfl rfl k97 k1518 np_X11_of (Nat.le_trans (by decide) hd) (by decide) (Nat.le_refl _) (Nat.le_refl _) wlen rfl (Nat.le_of_ble_eq_true rfl) (fun r_ h_ p2 => ?_)
      obtain ⟨rfl, rfl⟩ := p2
      refine J_iconst (v := 1) dX11_does_15 (by decide) ?_
      refine J_icmp_ne (tgt := 21) dX11_does_16 (by decide) (fun c3 => ?_) (fun c3 => ?_)
      · replace E := xq_en c3 E
        refine J_iload_n (i := 1) (j := 1) dX11_does_21 rfl rfl ?_
        by_cases c4 : what = 0
        · exact (bd_neq c4 (bd_r hk (bd_c (v := 4) (lo := 4) (hi := 4) (by decide))) (bd_c (v := 0) (lo := 0) (hi := 0) (by decide)) (by decide)).elim
        replace E := xq_en c4 E
        by_cases c5 : what = 1
        · exact (bd_neq c5 (bd_r hk (bd_c (v := 4) (lo := 4) (hi := 4) (by decide))) (bd_c (v := 1) (lo := 1) (hi := 1) (by decide)) (by decide)).elim
        replace E := xq_en c5 E
        by_cases c6 : what = 2
        · exact (bd_neq c6 (bd_r hk (bd_c (v := 4) (lo := 4) (hi := 4) (by decide))) (bd_c (v := 2) (lo := 2) (hi := 2) (by decide)) (by decide)).elim
        replace E := xq_en c6 E
        by_cases c7 : what = 3
        · exact (bd_neq c7 (bd_r hk (bd_c (v := 4) (lo := 4) (hi := 4) (by decide))) (bd_c (v := 3) (lo := 3) (hi := 3) (by decide)) (by decide)).elim
        replace E := xq_en c7 E
        · refine J_tableOut (tgt := 234) dX11_does_22 (by have e0 := int_ne (k := 0) c4 (by decide); have e1 := int_ne (k := 1) c5 (by decide); have e2 := int_ne (k := 2) c6 (by decide); have e3 := int_ne (k := 3) c7 (by decide); omega) (by decide) ?_
          refine J_aload_n (i := 0) (j := 0) dX11_does_234 rfl rfl ?_
          refine J_dup dX11_does_235 rfl ?_
          refine J_get (C := RX11) (T := TX11) (Z := 43) (ci := 11) (f := 25) dX11_does_236 inG11 rfl (by decide) k1289 wc_162 rfl ?_
          refine J_aload_n (i := 0) (j := 0) dX11_does_239 rfl rfl ?_
          refine J_iload_n (i := 2) (j := 2) dX11_does_240 rfl rfl ?_
          refine J_iconst (v := 1) dX11_does_241 (by decide) ?_
          refine J_callV (As := [.int p, .int 1]) (rest := [.int (u 162 25), .ref 162]) dX11_does_242 (c_M_of (d := 0) (u := u) (g := g) (ex := ex) (p := p) (what := 1)  (by decide) (bd_lt_hi hp1 (i_nle c1) hp0) (bd_w (l := 0) (h := 15) (bd_c (v := 1) (lo := 1) (hi := 1) (by decide)) (by decide))) hq.n k1515 k1517 k55 wc_162 rfl rfl k97 k1518 np_X11_of (Nat.le_trans (by decide) hd) (by decide) (Nat.le_refl _) (Nat.le_refl _) wlen rfl (Nat.le_of_ble_eq_true rfl) (fun r_ h_ p8 => ?_)
          obtain ⟨rfl, rfl⟩ := p8
          refine J_aload_n (i := 0) (j := 0) dX11_does_245 rfl rfl ?_
          refine J_iload_n (i := 2) (j := 2) dX11_does_246 rfl rfl ?_
          refine J_bipush (v := 7) dX11_does_247 (by decide) ?_
          refine J_callV (As := [.int p, .int 7]) (rest := [.int (mof u p (1 : Int32)), .int (u 162 25), .ref 162]) dX11_does_249 (c_M_of (d := 0) (u := u) (g := g) (ex := ex) (p := p) (what := 7)  (by decide) (bd_lt_hi hp1 (i_nle c1) hp0) (bd_w (l := 0) (h := 15) (bd_c (v := 7) (lo := 7) (hi := 7) (by decide)) (by decide))) hq.n k1515 k1517 k55 wc_162 rfl rfl k97 k1518 np_X11_of (Nat.le_trans (by decide) hd) (by decide) (Nat.le_refl _) (Nat.le_refl _) wlen rfl (Nat.le_of_ble_eq_true rfl) (fun r_ h_ p9 => ?_)
          obtain ⟨rfl, rfl⟩ := p9
          refine J_imul dX11_does_252 ?_
          refine J_iadd dX11_does_253 ?_
          obtain ⟨u10, e11⟩ : ∃ z, z = ms u 162 25 ((u 162 25) + ((mof u p (1 : Int32)) * (mof u p (7 : Int32)))) := ⟨_, rfl⟩
          refine J_put (C := RX11) (T := TX11) (Z := 43) (ci := 11) (f := 25) (ty0 := tyX11) dX11_does_254 inG11 rfl tyX11_ok nmX11 (by decide) k1289 rfl rfl wc_162 (Nat.le_of_ble_eq_true rfl) (fun _ _ => ⟨rfl, rfl⟩) (ws e11 wk_162 rfl) ?_
          replace E := xq_le e11 E
          refine J_aload_n (i := 0) (j := 0) dX11_does_257 rfl rfl ?_
          refine J_iload_n (i := 2) (j := 2) dX11_does_258 rfl rfl ?_
          refine J_iconst (v := 1) dX11_does_259 (by decide) ?_
          refine J_iconst (v := 0) dX11_does_260 (by decide) ?_
          refine J_callV (As := [.int p, .int 1, .int 0]) (rest := []) dX11_does_261 (c_M_setX (d := 0) (u := u10) (g := g) (ex := ex) (p := p) (what := 1) (v := 0)  (by decide) (bd_lt_hi hp1 (i_nle c1) hp0) (bd_w (l := 0) (h := 15) (bd_c (v := 1) (lo := 1) (hi := 1) (by decide)) (by decide))) hq.n k1519 k1521 k56 wc_162 rfl rfl k97 k1522 np_X11_set (Nat.le_trans (by decide) hd) (by decide) (Nat.le_refl _) (Nat.le_refl _) wlen rfl (Nat.le_of_ble_eq_true rfl) (fun r_ h_ p12 => ?_)
          obtain ⟨u13, rfl, rfl, h14, hx15, fr16⟩ := p12
          replace E := xq_le hx15 E
          refine J_aload_n (i := 0) (j := 0) dX11_does_264 rfl rfl ?_
          refine J_iload_n (i := 2) (j := 2) dX11_does_265 rfl rfl ?_
          refine J_iconst (v := 0) dX11_does_266 (by decide) ?_
          refine J_iconst (v := 0) dX11_does_267 (by decide) ?_
          refine J_callV (As := [.int p, .int 0, .int 0]) (rest := []) dX11_does_268 (c_M_setX (d := 0) (u := u13) (g := g) (ex := ex) (p := p) (what := 0) (v := 0)  (by decide) (bd_lt_hi hp1 (i_nle c1) hp0) (bd_w (l := 0) (h := 15) (bd_c (v := 0) (lo := 0) (hi := 0) (by decide)) (by decide))) hq.n k1519 k1521 k56 wc_162 rfl rfl k97 k1522 np_X11_set (Nat.le_trans (by decide) hd) (by decide) (Nat.le_refl _) (Nat.le_refl _) wlen rfl (Nat.le_of_ble_eq_true rfl) (fun r_ h_ p17 => ?_)
          obtain ⟨u18, rfl, rfl, h19, hx20, fr21⟩ := p17
          replace E := xq_le hx20 E
          refine J_aload_n (i := 0) (j := 0) dX11_does_271 rfl rfl ?_
          refine J_iload_n (i := 2) (j := 2) dX11_does_272 rfl rfl ?_
          refine J_iconst (v := 4) dX11_does_273 (by decide) ?_
          refine J_iconst (v := 0) dX11_does_274 (by decide) ?_
          refine J_callV (As := [.int p, .int 4, .int 0]) (rest := []) dX11_does_275 (c_M_setX (d := 0) (u := u18) (g := g) (ex := ex) (p := p) (what := 4) (v := 0)  (by decide) (bd_lt_hi hp1 (i_nle c1) hp0) (bd_w (l := 0) (h := 15) (bd_c (v := 4) (lo := 4) (hi := 4) (by decide)) (by decide))) hq.n k1519 k1521 k56 wc_162 rfl rfl k97 k1522 np_X11_set (Nat.le_trans (by decide) hd) (by decide) (Nat.le_refl _) (Nat.le_refl _) wlen rfl (Nat.le_of_ble_eq_true rfl) (fun r_ h_ p22 => ?_)
          obtain ⟨u23, rfl, rfl, h24, hx25, fr26⟩ := p22
          replace E := xq_le hx25 E
          refine J_aload_n (i := 0) (j := 0) dX11_does_278 rfl rfl ?_
          refine J_iload_n (i := 2) (j := 2) dX11_does_279 rfl rfl ?_
          refine J_bipush (v := 15) dX11_does_280 (by decide) ?_
          refine J_iconst (v := 1) dX11_does_282 (by decide) ?_
          refine J_callV (As := [.int p, .int 15, .int 1]) (rest := []) dX11_does_283 (c_M_setX (d := 0) (u := u23) (g := g) (ex := ex) (p := p) (what := 15) (v := 1)  (by decide) (bd_lt_hi hp1 (i_nle c1) hp0) (bd_w (l := 0) (h := 15) (bd_c (v := 15) (lo := 15) (hi := 15) (by decide)) (by decide))) hq.n k1519 k1521 k56 wc_162 rfl rfl k97 k1522 np_X11_set (Nat.le_trans (by decide) hd) (by decide) (Nat.le_refl _) (Nat.le_refl _) wlen rfl (Nat.le_of_ble_eq_true rfl) (fun r_ h_ p27 => ?_)
          obtain ⟨u28, rfl, rfl, h29, hx30, fr31⟩ := p27
          replace E := xq_le hx30 E
          refine J_iconst (v := 1) dX11_does_286 (by decide) ?_
          exact J_zret hq dX11_does_287 rfl rfl wlen (Nat.le_refl _) (Nat.le_refl _) ⟨true, u28, rfl, rfl, (ab_s h29 (ab_s h24 (ab_s h19 (ab_s h14 (ab_c (ms_c e11 (Nat.ne_of_beq_eq_false rfl)) hp3) (bd_w (l := (-1)) (h := 999) (bd_c (v := 0) (lo := 0) (hi := 0) (by decide)) (by decide))) (bd_w (l := (-1)) (h := 999) (bd_c (v := 0) (lo := 0) (hi := 0) (by decide)) (by decide))) (bd_w (l := (-1)) (h := 999) (bd_c (v := 0) (lo := 0) (hi := 0) (by decide)) (by decide))) (bd_w (l := (-1)) (h := 999) (bd_c (v := 1) (lo := 1) (hi := 1) (by decide)) (by decide))), (dn_s h29 (bd_lt_hi hp1 (i_nle c1) hp0) (by decide) (dn_s h24 (bd_lt_hi hp1 (i_nle c1) hp0) (by decide) (dn_s h19 (bd_lt_hi hp1 (i_nle c1) hp0) (by decide) (dn_s h14 (bd_lt_hi hp1 (i_nle c1) hp0) (by decide) (dn_c (ms_c e11 (Nat.ne_of_beq_eq_false rfl)) hp4))))), (rc_s h29 (bd_lt_hi hp1 (i_nle c1) hp0) (bd_w (l := 0) (h := 15) (bd_c (v := 15) (lo := 15) (hi := 15) (by decide)) (by decide)) (rc_s h24 (bd_lt_hi hp1 (i_nle c1) hp0) (bd_w (l := 0) (h := 15) (bd_c (v := 4) (lo := 4) (hi := 4) (by decide)) (by decide)) (rc_s h19 (bd_lt_hi hp1 (i_nle c1) hp0) (bd_w (l := 0) (h := 15) (bd_c (v := 0) (lo := 0) (hi := 0) (by decide)) (by decide)) (rc_s h14 (bd_lt_hi hp1 (i_nle c1) hp0) (bd_w (l := 0) (h := 15) (bd_c (v := 1) (lo := 1) (hi := 1) (by decide)) (by decide)) (rc_c (ms_c e11 (Nat.ne_of_beq_eq_false rfl)) hp5))))), (n0_s h29 (bd_lt_hi hp1 (i_nle c1) hp0) (bd_w (l := 0) (h := 15) (bd_c (v := 15) (lo := 15) (hi := 15) (by decide)) (by decide)) (n0_s h24 (bd_lt_hi hp1 (i_nle c1) hp0) (bd_w (l := 0) (h := 15) (bd_c (v := 4) (lo := 4) (hi := 4) (by decide)) (by decide)) (n0_s h19 (bd_lt_hi hp1 (i_nle c1) hp0) (bd_w (l := 0) (h := 15) (bd_c (v := 0) (lo := 0) (hi := 0) (by decide)) (by decide)) (n0_s h14 (bd_lt_hi hp1 (i_nle c1) hp0) (bd_w (l := 0) (h := 15) (bd_c (v := 1) (lo := 1) (hi := 1) (by decide)) (by decide)) (n0_c (ms_c e11 (Nat.ne_of_beq_eq_false rfl)) hp6))))), E, (fun c k0_ k1_ => ((ms_c h29 k1_).trans ((ms_c h24 k1_).trans ((ms_c h19 k1_).trans ((ms_c h14 k1_).trans (ms_c e11 k0_)))))), (fun j k24_ k25_ => ((congrFun (ms_c h29 (Nat.ne_of_beq_eq_false rfl)) j).trans ((congrFun (ms_c h24 (Nat.ne_of_beq_eq_false rfl)) j).trans ((congrFun (ms_c h19 (Nat.ne_of_beq_eq_false rfl)) j).trans ((congrFun (ms_c h14 (Nat.ne_of_beq_eq_false rfl)) j).trans (ms_i e11 k25_))))))⟩
      · replace E := xq_ep c3 E
        refine J_iconst (v := 0) dX11_does_19 (by decide) ?_
        exact J_zret hq dX11_does_20 rfl rfl wlen (Nat.le_refl _) (Nat.le_refl _) ⟨false, u, rfl, rfl, hp3, hp4, hp5, hp6, E, (fun c k0_ k1_ => rfl), (fun j k24_ k25_ => rfl)⟩
  · replace E := xq_en hk E
    have hk2 := hp2.resolve_left hk
    refine J_iload_n (i := 2) (j := 2) dX11_does_0 rfl rfl ?_
    refine J_aload_n (i := 0) (j := 0) dX11_does_1 rfl rfl ?_
    refine J_get (C := RX11) (T := TX11) (Z := 43) (ci := 11) (f := 22) dX11_does_2 inG11 rfl (by decide) k1286 wc_162 rfl ?_
    refine J_icmp_ge (tgt := 19) dX11_does_5 (by decide) (fun c32 => ?_) (fun c32 => ?_)
    · replace E := xq_ep c32 E
      refine J_iconst (v := 0) dX11_does_19 (by decide) ?_
      exact J_zret hq dX11_does_20 rfl rfl wlen (Nat.le_refl _) (Nat.le_refl _) ⟨false, u, rfl, rfl, hp3, hp4, hp5, hp6, E, (fun c k0_ k1_ => rfl), (fun j k24_ k25_ => rfl)⟩
    · replace E := xq_en c32 E
      refine J_aload_n (i := 0) (j := 0) dX11_does_8 rfl rfl ?_
      refine J_iload_n (i := 2) (j := 2) dX11_does_9 rfl rfl ?_
      refine J_bipush (v := 15) dX11_does_10 (by decide) ?_
      refine J_callV (As := [.int p, .int 15]) (rest := []) dX11_does_12 (c_M_of (d := 0) (u := u) (g := g) (ex := ex) (p := p) (what := 15)  (by decide) (bd_lt_hi hp1 (i_nle c32) hp0) (bd_w (l := 0) (h := 15) (bd_c (v := 15) (lo := 15) (hi := 15) (by decide)) (by decide))) hq.n k1515 k1517 k55 wc_162 rfl rfl k97 k1518 np_X11_of (Nat.le_trans (by decide) hd) (by decide) (Nat.le_refl _) (Nat.le_refl _) wlen rfl (Nat.le_of_ble_eq_true rfl) (fun r_ h_ p33 => ?_)
      obtain ⟨rfl, rfl⟩ := p33
      refine J_iconst (v := 1) dX11_does_15 (by decide) ?_
      refine J_icmp_ne (tgt := 21) dX11_does_16 (by decide) (fun c34 => ?_) (fun c34 => ?_)
      · replace E := xq_en c34 E
        refine J_iload_n (i := 1) (j := 1) dX11_does_21 rfl rfl ?_
        by_cases c35 : what = 0
        · replace E := xq_ep c35 E
          refine J_ci (v := 0) c35 ?_
          refine J_tableIn (tgt := 52) (off := 30) dX11_does_22 (by decide) (by decide) (by decide) (by decide) ?_
          refine J_aload_n (i := 0) (j := 0) dX11_does_52 rfl rfl ?_
          refine J_iload_n (i := 2) (j := 2) dX11_does_53 rfl rfl ?_
          refine J_iconst (v := 4) dX11_does_54 (by decide) ?_
          refine J_callV (As := [.int p, .int 4]) (rest := []) dX11_does_55 (c_M_of (d := 0) (u := u) (g := g) (ex := ex) (p := p) (what := 4)  (by decide) (bd_lt_hi hp1 (i_nle c32) hp0) (bd_w (l := 0) (h := 15) (bd_c (v := 4) (lo := 4) (hi := 4) (by decide)) (by decide))) hq.n k1515 k1517 k55 wc_162 rfl rfl k97 k1518 np_X11_of (Nat.le_trans (by decide) hd) (by decide) (Nat.le_refl _) (Nat.le_refl _) wlen rfl (Nat.le_of_ble_eq_true rfl) (fun r_ h_ p36 => ?_)
          obtain ⟨rfl, rfl⟩ := p36
          refine J_iload_n (i := 3) (j := 3) dX11_does_58 rfl rfl ?_
          refine J_icmp_ge (tgt := 64) dX11_does_59 (by decide) (fun c37 => ?_) (fun c37 => ?_)
          · replace E := xq_ep c37 E
            refine J_aload_n (i := 0) (j := 0) dX11_does_64 rfl rfl ?_
            refine J_iload_n (i := 2) (j := 2) dX11_does_65 rfl rfl ?_
            refine J_iconst (v := 4) dX11_does_66 (by decide) ?_
            refine J_aload_n (i := 0) (j := 0) dX11_does_67 rfl rfl ?_
            refine J_iload_n (i := 2) (j := 2) dX11_does_68 rfl rfl ?_
            refine J_iconst (v := 4) dX11_does_69 (by decide) ?_
            refine J_callV (As := [.int p, .int 4]) (rest := [.int 4, .int p, .ref 162]) dX11_does_70 (c_M_of (d := 0) (u := u) (g := g) (ex := ex) (p := p) (what := 4)  (by decide) (bd_lt_hi hp1 (i_nle c32) hp0) (bd_w (l := 0) (h := 15) (bd_c (v := 4) (lo := 4) (hi := 4) (by decide)) (by decide))) hq.n k1515 k1517 k55 wc_162 rfl rfl k97 k1518 np_X11_of (Nat.le_trans (by decide) hd) (by decide) (Nat.le_refl _) (Nat.le_refl _) wlen rfl (Nat.le_of_ble_eq_true rfl) (fun r_ h_ p38 => ?_)
            obtain ⟨rfl, rfl⟩ := p38
            refine J_iload_n (i := 3) (j := 3) dX11_does_73 rfl rfl ?_
            refine J_isub dX11_does_74 ?_
            refine J_callV (As := [.int p, .int 4, .int ((mof u p (4 : Int32)) - much)]) (rest := []) dX11_does_75 (c_M_setX (d := 0) (u := u) (g := g) (ex := ex) (p := p) (what := 4) (v := ((mof u p (4 : Int32)) - much))  (by decide) (bd_lt_hi hp1 (i_nle c32) hp0) (bd_w (l := 0) (h := 15) (bd_c (v := 4) (lo := 4) (hi := 4) (by decide)) (by decide))) hq.n k1519 k1521 k56 wc_162 rfl rfl k97 k1522 np_X11_set (Nat.le_trans (by decide) hd) (by decide) (Nat.le_refl _) (Nat.le_refl _) wlen rfl (Nat.le_of_ble_eq_true rfl) (fun r_ h_ p39 => ?_)
            obtain ⟨u40, rfl, rfl, h41, hx42, fr43⟩ := p39
            replace E := xq_le hx42 E
            refine J_aload_n (i := 0) (j := 0) dX11_does_78 rfl rfl ?_
            refine J_dup dX11_does_79 rfl ?_
            refine J_get (C := RX11) (T := TX11) (Z := 43) (ci := 11) (f := 24) dX11_does_80 inG11 rfl (by decide) k1288 wc_162 rfl ?_
            refine J_ci (v := u 162 24) (congrFun (ms_c h41 (Nat.ne_of_beq_eq_false rfl)) 24) ?_
            refine J_iload_n (i := 3) (j := 3) dX11_does_83 rfl rfl ?_
            refine J_aload_n (i := 0) (j := 0) dX11_does_84 rfl rfl ?_
            refine J_get (C := RX11) (T := TX11) (Z := 43) (ci := 11) (f := 21) dX11_does_85 inG11 rfl (by decide) k1285 wc_162 rfl ?_
            refine J_iconst (v := 2) dX11_does_88 (by decide) ?_
            refine J_iald dX11_does_89 wc_172 (vin (bd_c (v := 2) (lo := 2) (hi := 2) (by decide)) (by decide)) ?_
            refine J_ci (v := u40 172 2) rfl ?_
            refine J_imul dX11_does_90 ?_
            refine J_iadd dX11_does_91 ?_
            obtain ⟨u44, e45⟩ : ∃ z, z = ms u40 162 24 ((u 162 24) + (much * (u40 172 2))) := ⟨_, rfl⟩
            refine J_put (C := RX11) (T := TX11) (Z := 43) (ci := 11) (f := 24) (ty0 := tyX11) dX11_does_92 inG11 rfl tyX11_ok nmX11 (by decide) k1288 rfl rfl wc_162 (Nat.le_of_ble_eq_true rfl) (fun _ _ => ⟨rfl, rfl⟩) (ws e45 wk_162 rfl) ?_
            replace E := xq_le e45 E
            refine J_iconst (v := 1) dX11_does_95 (by decide) ?_
            exact J_zret hq dX11_does_96 rfl rfl wlen (Nat.le_refl _) (Nat.le_refl _) ⟨true, u44, rfl, rfl, (ab_c (ms_c e45 (Nat.ne_of_beq_eq_false rfl)) (ab_s h41 hp3 (bd_w (l := (-1)) (h := 999) (bd_subl (h := 999) (bd_le_lo (hp3 _) c37 hk2) hk2 c37 (by decide)) (by decide)))), (dn_c (ms_c e45 (Nat.ne_of_beq_eq_false rfl)) (dn_s h41 (bd_lt_hi hp1 (i_nle c32) hp0) (by decide) hp4)), (rc_c (ms_c e45 (Nat.ne_of_beq_eq_false rfl)) (rc_s h41 (bd_lt_hi hp1 (i_nle c32) hp0) (bd_w (l := 0) (h := 15) (bd_c (v := 4) (lo := 4) (hi := 4) (by decide)) (by decide)) hp5)), (n0_c (ms_c e45 (Nat.ne_of_beq_eq_false rfl)) (n0_s h41 (bd_lt_hi hp1 (i_nle c32) hp0) (bd_w (l := 0) (h := 15) (bd_c (v := 4) (lo := 4) (hi := 4) (by decide)) (by decide)) hp6)), E, (fun c k0_ k1_ => ((ms_c e45 k0_).trans (ms_c h41 k1_))), (fun j k24_ k25_ => ((ms_i e45 k24_).trans (congrFun (ms_c h41 (Nat.ne_of_beq_eq_false rfl)) j)))⟩
          · replace E := xq_en c37 E
            refine J_iconst (v := 0) dX11_does_62 (by decide) ?_
            exact J_zret hq dX11_does_63 rfl rfl wlen (Nat.le_refl _) (Nat.le_refl _) ⟨false, u, rfl, rfl, hp3, hp4, hp5, hp6, E, (fun c k0_ k1_ => rfl), (fun j k24_ k25_ => rfl)⟩
        replace E := xq_en c35 E
        by_cases c46 : what = 1
        · replace E := xq_ep c46 E
          refine J_ci (v := 1) c46 ?_
          refine J_tableIn (tgt := 97) (off := 75) dX11_does_22 (by decide) (by decide) (by decide) (by decide) ?_
          refine J_aload_n (i := 0) (j := 0) dX11_does_97 rfl rfl ?_
          refine J_iload_n (i := 2) (j := 2) dX11_does_98 rfl rfl ?_
          refine J_iconst (v := 1) dX11_does_99 (by decide) ?_
          refine J_callV (As := [.int p, .int 1]) (rest := []) dX11_does_100 (c_M_of (d := 0) (u := u) (g := g) (ex := ex) (p := p) (what := 1)  (by decide) (bd_lt_hi hp1 (i_nle c32) hp0) (bd_w (l := 0) (h := 15) (bd_c (v := 1) (lo := 1) (hi := 1) (by decide)) (by decide))) hq.n k1515 k1517 k55 wc_162 rfl rfl k97 k1518 np_X11_of (Nat.le_trans (by decide) hd) (by decide) (Nat.le_refl _) (Nat.le_refl _) wlen rfl (Nat.le_of_ble_eq_true rfl) (fun r_ h_ p47 => ?_)
          obtain ⟨rfl, rfl⟩ := p47
          refine J_iload_n (i := 3) (j := 3) dX11_does_103 rfl rfl ?_
          refine J_icmp_ge (tgt := 109) dX11_does_104 (by decide) (fun c48 => ?_) (fun c48 => ?_)
          · replace E := xq_ep c48 E
            refine J_aload_n (i := 0) (j := 0) dX11_does_109 rfl rfl ?_
            refine J_iload_n (i := 2) (j := 2) dX11_does_110 rfl rfl ?_
            refine J_iconst (v := 1) dX11_does_111 (by decide) ?_
            refine J_aload_n (i := 0) (j := 0) dX11_does_112 rfl rfl ?_
            refine J_iload_n (i := 2) (j := 2) dX11_does_113 rfl rfl ?_
            refine J_iconst (v := 1) dX11_does_114 (by decide) ?_
            refine J_callV (As := [.int p, .int 1]) (rest := [.int 1, .int p, .ref 162]) dX11_does_115 (c_M_of (d := 0) (u := u) (g := g) (ex := ex) (p := p) (what := 1)  (by decide) (bd_lt_hi hp1 (i_nle c32) hp0) (bd_w (l := 0) (h := 15) (bd_c (v := 1) (lo := 1) (hi := 1) (by decide)) (by decide))) hq.n k1515 k1517 k55 wc_162 rfl rfl k97 k1518 np_X11_of (Nat.le_trans (by decide) hd) (by decide) (Nat.le_refl _) (Nat.le_refl _) wlen rfl (Nat.le_of_ble_eq_true rfl) (fun r_ h_ p49 => ?_)
            obtain ⟨rfl, rfl⟩ := p49
            refine J_iload_n (i := 3) (j := 3) dX11_does_118 rfl rfl ?_
            refine J_isub dX11_does_119 ?_
            refine J_callV (As := [.int p, .int 1, .int ((mof u p (1 : Int32)) - much)]) (rest := []) dX11_does_120 (c_M_setX (d := 0) (u := u) (g := g) (ex := ex) (p := p) (what := 1) (v := ((mof u p (1 : Int32)) - much))  (by decide) (bd_lt_hi hp1 (i_nle c32) hp0) (bd_w (l := 0) (h := 15) (bd_c (v := 1) (lo := 1) (hi := 1) (by decide)) (by decide))) hq.n k1519 k1521 k56 wc_162 rfl rfl k97 k1522 np_X11_set (Nat.le_trans (by decide) hd) (by decide) (Nat.le_refl _) (Nat.le_refl _) wlen rfl (Nat.le_of_ble_eq_true rfl) (fun r_ h_ p50 => ?_)
            obtain ⟨u51, rfl, rfl, h52, hx53, fr54⟩ := p50
            replace E := xq_le hx53 E
            refine J_aload_n (i := 0) (j := 0) dX11_does_123 rfl rfl ?_
            refine J_dup dX11_does_124 rfl ?_
            refine J_get (C := RX11) (T := TX11) (Z := 43) (ci := 11) (f := 25) dX11_does_125 inG11 rfl (by decide) k1289 wc_162 rfl ?_
            refine J_ci (v := u 162 25) (congrFun (ms_c h52 (Nat.ne_of_beq_eq_false rfl)) 25) ?_
            refine J_iload_n (i := 3) (j := 3) dX11_does_128 rfl rfl ?_
            refine J_aload_n (i := 0) (j := 0) dX11_does_129 rfl rfl ?_
            refine J_iload_n (i := 2) (j := 2) dX11_does_130 rfl rfl ?_
            refine J_bipush (v := 7) dX11_does_131 (by decide) ?_
            refine J_callV (As := [.int p, .int 7]) (rest := [.int much, .int (u 162 25), .ref 162]) dX11_does_133 (c_M_of (d := 0) (u := u51) (g := g) (ex := ex) (p := p) (what := 7)  (by decide) (bd_lt_hi hp1 (i_nle c32) hp0) (bd_w (l := 0) (h := 15) (bd_c (v := 7) (lo := 7) (hi := 7) (by decide)) (by decide))) hq.n k1515 k1517 k55 wc_162 rfl rfl k97 k1518 np_X11_of (Nat.le_trans (by decide) hd) (by decide) (Nat.le_refl _) (Nat.le_refl _) wlen rfl (Nat.le_of_ble_eq_true rfl) (fun r_ h_ p55 => ?_)
            obtain ⟨rfl, rfl⟩ := p55
            refine J_imul dX11_does_136 ?_
            refine J_iadd dX11_does_137 ?_
            obtain ⟨u56, e57⟩ : ∃ z, z = ms u51 162 25 ((u 162 25) + (much * (mof u51 p (7 : Int32)))) := ⟨_, rfl⟩
            refine J_put (C := RX11) (T := TX11) (Z := 43) (ci := 11) (f := 25) (ty0 := tyX11) dX11_does_138 inG11 rfl tyX11_ok nmX11 (by decide) k1289 rfl rfl wc_162 (Nat.le_of_ble_eq_true rfl) (fun _ _ => ⟨rfl, rfl⟩) (ws e57 wk_162 rfl) ?_
            replace E := xq_le e57 E
            refine J_iconst (v := 1) dX11_does_141 (by decide) ?_
            exact J_zret hq dX11_does_142 rfl rfl wlen (Nat.le_refl _) (Nat.le_refl _) ⟨true, u56, rfl, rfl, (ab_c (ms_c e57 (Nat.ne_of_beq_eq_false rfl)) (ab_s h52 hp3 (bd_w (l := (-1)) (h := 999) (bd_subl (h := 999) (bd_le_lo (hp3 _) c48 hk2) hk2 c48 (by decide)) (by decide)))), (dn_c (ms_c e57 (Nat.ne_of_beq_eq_false rfl)) (dn_s h52 (bd_lt_hi hp1 (i_nle c32) hp0) (by decide) hp4)), (rc_c (ms_c e57 (Nat.ne_of_beq_eq_false rfl)) (rc_s h52 (bd_lt_hi hp1 (i_nle c32) hp0) (bd_w (l := 0) (h := 15) (bd_c (v := 1) (lo := 1) (hi := 1) (by decide)) (by decide)) hp5)), (n0_c (ms_c e57 (Nat.ne_of_beq_eq_false rfl)) (n0_s h52 (bd_lt_hi hp1 (i_nle c32) hp0) (bd_w (l := 0) (h := 15) (bd_c (v := 1) (lo := 1) (hi := 1) (by decide)) (by decide)) hp6)), E, (fun c k0_ k1_ => ((ms_c e57 k0_).trans (ms_c h52 k1_))), (fun j k24_ k25_ => ((ms_i e57 k25_).trans (congrFun (ms_c h52 (Nat.ne_of_beq_eq_false rfl)) j)))⟩
          · replace E := xq_en c48 E
            refine J_iconst (v := 0) dX11_does_107 (by decide) ?_
            exact J_zret hq dX11_does_108 rfl rfl wlen (Nat.le_refl _) (Nat.le_refl _) ⟨false, u, rfl, rfl, hp3, hp4, hp5, hp6, E, (fun c k0_ k1_ => rfl), (fun j k24_ k25_ => rfl)⟩
        replace E := xq_en c46 E
        by_cases c58 : what = 2
        · replace E := xq_ep c58 E
          refine J_ci (v := 2) c58 ?_
          refine J_tableIn (tgt := 143) (off := 121) dX11_does_22 (by decide) (by decide) (by decide) (by decide) ?_
          refine J_aload_n (i := 0) (j := 0) dX11_does_143 rfl rfl ?_
          refine J_iload_n (i := 2) (j := 2) dX11_does_144 rfl rfl ?_
          refine J_iconst (v := 3) dX11_does_145 (by decide) ?_
          refine J_callV (As := [.int p, .int 3]) (rest := []) dX11_does_146 (c_M_of (d := 0) (u := u) (g := g) (ex := ex) (p := p) (what := 3)  (by decide) (bd_lt_hi hp1 (i_nle c32) hp0) (bd_w (l := 0) (h := 15) (bd_c (v := 3) (lo := 3) (hi := 3) (by decide)) (by decide))) hq.n k1515 k1517 k55 wc_162 rfl rfl k97 k1518 np_X11_of (Nat.le_trans (by decide) hd) (by decide) (Nat.le_refl _) (Nat.le_refl _) wlen rfl (Nat.le_of_ble_eq_true rfl) (fun r_ h_ p59 => ?_)
          obtain ⟨rfl, rfl⟩ := p59
          refine J_iload_n (i := 3) (j := 3) dX11_does_149 rfl rfl ?_
          refine J_iadd dX11_does_150 ?_
          refine J_bipush (v := 24) dX11_does_151 (by decide) ?_
          refine J_icmp_le (tgt := 158) dX11_does_153 (by decide) (fun c60 => ?_) (fun c60 => ?_)
          · replace E := xq_ep c60 E
            refine J_aload_n (i := 0) (j := 0) dX11_does_158 rfl rfl ?_
            refine J_iload_n (i := 2) (j := 2) dX11_does_159 rfl rfl ?_
            refine J_iconst (v := 3) dX11_does_160 (by decide) ?_
            refine J_aload_n (i := 0) (j := 0) dX11_does_161 rfl rfl ?_
            refine J_iload_n (i := 2) (j := 2) dX11_does_162 rfl rfl ?_
            refine J_iconst (v := 3) dX11_does_163 (by decide) ?_
            refine J_callV (As := [.int p, .int 3]) (rest := [.int 3, .int p, .ref 162]) dX11_does_164 (c_M_of (d := 0) (u := u) (g := g) (ex := ex) (p := p) (what := 3)  (by decide) (bd_lt_hi hp1 (i_nle c32) hp0) (bd_w (l := 0) (h := 15) (bd_c (v := 3) (lo := 3) (hi := 3) (by decide)) (by decide))) hq.n k1515 k1517 k55 wc_162 rfl rfl k97 k1518 np_X11_of (Nat.le_trans (by decide) hd) (by decide) (Nat.le_refl _) (Nat.le_refl _) wlen rfl (Nat.le_of_ble_eq_true rfl) (fun r_ h_ p61 => ?_)
            obtain ⟨rfl, rfl⟩ := p61
            refine J_iload_n (i := 3) (j := 3) dX11_does_167 rfl rfl ?_
            refine J_iadd dX11_does_168 ?_
            refine J_callV (As := [.int p, .int 3, .int ((mof u p (3 : Int32)) + much)]) (rest := []) dX11_does_169 (c_M_setX (d := 0) (u := u) (g := g) (ex := ex) (p := p) (what := 3) (v := ((mof u p (3 : Int32)) + much))  (by decide) (bd_lt_hi hp1 (i_nle c32) hp0) (bd_w (l := 0) (h := 15) (bd_c (v := 3) (lo := 3) (hi := 3) (by decide)) (by decide))) hq.n k1519 k1521 k56 wc_162 rfl rfl k97 k1522 np_X11_set (Nat.le_trans (by decide) hd) (by decide) (Nat.le_refl _) (Nat.le_refl _) wlen rfl (Nat.le_of_ble_eq_true rfl) (fun r_ h_ p62 => ?_)
            obtain ⟨u63, rfl, rfl, h64, hx65, fr66⟩ := p62
            replace E := xq_le hx65 E
            refine J_aload_n (i := 0) (j := 0) dX11_does_172 rfl rfl ?_
            refine J_dup dX11_does_173 rfl ?_
            refine J_get (C := RX11) (T := TX11) (Z := 43) (ci := 11) (f := 24) dX11_does_174 inG11 rfl (by decide) k1288 wc_162 rfl ?_
            refine J_ci (v := u 162 24) (congrFun (ms_c h64 (Nat.ne_of_beq_eq_false rfl)) 24) ?_
            refine J_iload_n (i := 3) (j := 3) dX11_does_177 rfl rfl ?_
            refine J_aload_n (i := 0) (j := 0) dX11_does_178 rfl rfl ?_
            refine J_get (C := RX11) (T := TX11) (Z := 43) (ci := 11) (f := 21) dX11_does_179 inG11 rfl (by decide) k1285 wc_162 rfl ?_
            refine J_iconst (v := 3) dX11_does_182 (by decide) ?_
            refine J_iald dX11_does_183 wc_172 (vin (bd_c (v := 3) (lo := 3) (hi := 3) (by decide)) (by decide)) ?_
            refine J_ci (v := u63 172 3) rfl ?_
            refine J_imul dX11_does_184 ?_
            refine J_iadd dX11_does_185 ?_
            obtain ⟨u67, e68⟩ : ∃ z, z = ms u63 162 24 ((u 162 24) + (much * (u63 172 3))) := ⟨_, rfl⟩
            refine J_put (C := RX11) (T := TX11) (Z := 43) (ci := 11) (f := 24) (ty0 := tyX11) dX11_does_186 inG11 rfl tyX11_ok nmX11 (by decide) k1288 rfl rfl wc_162 (Nat.le_of_ble_eq_true rfl) (fun _ _ => ⟨rfl, rfl⟩) (ws e68 wk_162 rfl) ?_
            replace E := xq_le e68 E
            refine J_iconst (v := 1) dX11_does_189 (by decide) ?_
            exact J_zret hq dX11_does_190 rfl rfl wlen (Nat.le_refl _) (Nat.le_refl _) ⟨true, u67, rfl, rfl, (ab_c (ms_c e68 (Nat.ne_of_beq_eq_false rfl)) (ab_s h64 hp3 (bd_w (l := (-1)) (h := 999) (bd_le_hi (bd_add (l := (-1)) (h := 1998) (hp3 _) hk2 (by decide)) c60 (bd_c (v := 24) (lo := 24) (hi := 24) (by decide))) (by decide)))), (dn_c (ms_c e68 (Nat.ne_of_beq_eq_false rfl)) (dn_s h64 (bd_lt_hi hp1 (i_nle c32) hp0) (by decide) hp4)), (rc_c (ms_c e68 (Nat.ne_of_beq_eq_false rfl)) (rc_s h64 (bd_lt_hi hp1 (i_nle c32) hp0) (bd_w (l := 0) (h := 15) (bd_c (v := 3) (lo := 3) (hi := 3) (by decide)) (by decide)) hp5)), (n0_c (ms_c e68 (Nat.ne_of_beq_eq_false rfl)) (n0_s h64 (bd_lt_hi hp1 (i_nle c32) hp0) (bd_w (l := 0) (h := 15) (bd_c (v := 3) (lo := 3) (hi := 3) (by decide)) (by decide)) hp6)), E, (fun c k0_ k1_ => ((ms_c e68 k0_).trans (ms_c h64 k1_))), (fun j k24_ k25_ => ((ms_i e68 k24_).trans (congrFun (ms_c h64 (Nat.ne_of_beq_eq_false rfl)) j)))⟩
          · replace E := xq_en c60 E
            refine J_iconst (v := 0) dX11_does_156 (by decide) ?_
            exact J_zret hq dX11_does_157 rfl rfl wlen (Nat.le_refl _) (Nat.le_refl _) ⟨false, u, rfl, rfl, hp3, hp4, hp5, hp6, E, (fun c k0_ k1_ => rfl), (fun j k24_ k25_ => rfl)⟩
        replace E := xq_en c58 E
        by_cases c69 : what = 3
        · replace E := xq_ep c69 E
          refine J_ci (v := 3) c69 ?_
          refine J_tableIn (tgt := 191) (off := 169) dX11_does_22 (by decide) (by decide) (by decide) (by decide) ?_
          refine J_iload_n (i := 3) (j := 3) dX11_does_191 rfl rfl ?_
          refine J_iload_n (i := 2) (j := 2) dX11_does_192 rfl rfl ?_
          refine J_iconst (v := 1) dX11_does_193 (by decide) ?_
          refine J_iadd dX11_does_194 ?_
          refine J_aload_n (i := 0) (j := 0) dX11_does_195 rfl rfl ?_
          refine J_get (C := RX11) (T := TX11) (Z := 43) (ci := 11) (f := 22) dX11_does_196 inG11 rfl (by decide) k1286 wc_162 rfl ?_
          refine J_iconst (v := 1) dX11_does_199 (by decide) ?_
          refine J_isub dX11_does_200 ?_
          refine J_callS (As := [.int much, .int (p + 1), .int ((u 162 22) - 1)]) (rest := []) dX11_does_201 (c_M_inEX (d := 0) (u := u) (g := g) (ex := ex) (v := much) (low := (p + 1)) (high := ((u 162 22) - 1))  (by decide) ) hq.n k1406 k1407 k97 k1408 np_X11_in (Nat.le_trans (by decide) hd) (by decide) (Nat.le_refl _) (Nat.le_refl _) wlen rfl (Nat.le_of_ble_eq_true rfl) (fun r_ h_ p70 => ?_)
          obtain ⟨t71, rfl, rfl, h72, h73, h74, hx75⟩ := p70
          replace E := xq_le hx75 E
          refine J_ifB_ne (tgt := 209) dX11_does_204 (by decide) (fun c76 => ?_) (fun c76 => ?_)
          · replace E := xq_ep c76 E
            refine J_aload_n (i := 0) (j := 0) dX11_does_209 rfl rfl ?_
            refine J_iload_n (i := 2) (j := 2) dX11_does_210 rfl rfl ?_
            refine J_bipush (v := 8) dX11_does_211 (by decide) ?_
            refine J_iload_n (i := 3) (j := 3) dX11_does_213 rfl rfl ?_
            refine J_callV (As := [.int p, .int 8, .int much]) (rest := []) dX11_does_214 (c_M_setX (d := 0) (u := u) (g := g) (ex := ex) (p := p) (what := 8) (v := much)  (by decide) (bd_w (l := 0) (h := 8) (bd_adc (c := 1) (h := 7) (bd_lt_hi hp1 (i_nle c32) hp0) (h72 c76) (bd_le_hi hk2 (h73 c76) (bd_sub (l := 0) (h := 8) (bd_lt_lo hp0 (i_nle c32) hp1) (bd_c (v := 1) (lo := 1) (hi := 1) (by decide)) (by decide))) (by decide)) (by decide)) (bd_w (l := 0) (h := 15) (bd_c (v := 8) (lo := 8) (hi := 8) (by decide)) (by decide))) hq.n k1519 k1521 k56 wc_162 rfl rfl k97 k1522 np_X11_set (Nat.le_trans (by decide) hd) (by decide) (Nat.le_refl _) (Nat.le_refl _) wlen rfl (Nat.le_of_ble_eq_true rfl) (fun r_ h_ p77 => ?_)
            obtain ⟨u78, rfl, rfl, h79, hx80, fr81⟩ := p77
            replace E := xq_le hx80 E
            refine J_aload_n (i := 0) (j := 0) dX11_does_217 rfl rfl ?_
            refine J_dup dX11_does_218 rfl ?_
            refine J_get (C := RX11) (T := TX11) (Z := 43) (ci := 11) (f := 24) dX11_does_219 inG11 rfl (by decide) k1288 wc_162 rfl ?_
            refine J_ci (v := u 162 24) (congrFun (ms_c h79 (Nat.ne_of_beq_eq_false rfl)) 24) ?_
            refine J_aload_n (i := 0) (j := 0) dX11_does_222 rfl rfl ?_
            refine J_get (C := RX11) (T := TX11) (Z := 43) (ci := 11) (f := 21) dX11_does_223 inG11 rfl (by decide) k1285 wc_162 rfl ?_
            refine J_iconst (v := 4) dX11_does_226 (by decide) ?_
            refine J_iald dX11_does_227 wc_172 (vin (bd_c (v := 4) (lo := 4) (hi := 4) (by decide)) (by decide)) ?_
            refine J_ci (v := u78 172 4) rfl ?_
            refine J_iadd dX11_does_228 ?_
            obtain ⟨u82, e83⟩ : ∃ z, z = ms u78 162 24 ((u 162 24) + (u78 172 4)) := ⟨_, rfl⟩
            refine J_put (C := RX11) (T := TX11) (Z := 43) (ci := 11) (f := 24) (ty0 := tyX11) dX11_does_229 inG11 rfl tyX11_ok nmX11 (by decide) k1288 rfl rfl wc_162 (Nat.le_of_ble_eq_true rfl) (fun _ _ => ⟨rfl, rfl⟩) (ws e83 wk_162 rfl) ?_
            replace E := xq_le e83 E
            refine J_iconst (v := 1) dX11_does_232 (by decide) ?_
            exact J_zret hq dX11_does_233 rfl rfl wlen (Nat.le_refl _) (Nat.le_refl _) ⟨true, u82, rfl, rfl, (ab_c (ms_c e83 (Nat.ne_of_beq_eq_false rfl)) (ab_s h79 hp3 (bd_w (l := (-1)) (h := 999) (bd_le_hi (bd_le_lo hk2 (h72 c76) (bd_add (l := 1) (h := 9) (bd_lt_hi hp1 (i_nle c32) hp0) (bd_c (v := 1) (lo := 1) (hi := 1) (by decide)) (by decide))) (h73 c76) (bd_sub (l := 0) (h := 8) (bd_lt_lo hp0 (i_nle c32) (bd_adc (c := 1) (h := 998) hp1 (h72 c76) hk2 (by decide))) (bd_c (v := 1) (lo := 1) (hi := 1) (by decide)) (by decide))) (by decide)))), (dn_c (ms_c e83 (Nat.ne_of_beq_eq_false rfl)) (dn_s8 h79 (bd_w (l := 0) (h := 8) (bd_adc (c := 1) (h := 7) (bd_lt_hi hp1 (i_nle c32) hp0) (h72 c76) (bd_le_hi hk2 (h73 c76) (bd_sub (l := 0) (h := 8) (bd_lt_lo hp0 (i_nle c32) hp1) (bd_c (v := 1) (lo := 1) (hi := 1) (by decide)) (by decide))) (by decide)) (by decide)) (bd_w (l := 0) (h := 15) (bd_c (v := 8) (lo := 8) (hi := 8) (by decide)) (by decide)) (bd_w (l := (-1)) (h := 8) (bd_le_hi (bd_le_lo hk2 (h72 c76) (bd_add (l := 1) (h := 9) (bd_lt_hi hp1 (i_nle c32) hp0) (bd_c (v := 1) (lo := 1) (hi := 1) (by decide)) (by decide))) (h73 c76) (bd_sub (l := 0) (h := 8) (bd_lt_lo hp0 (i_nle c32) (bd_adc (c := 1) (h := 998) hp1 (h72 c76) hk2 (by decide))) (bd_c (v := 1) (lo := 1) (hi := 1) (by decide)) (by decide))) (by decide)) hp4)), (rc_c (ms_c e83 (Nat.ne_of_beq_eq_false rfl)) (rc_s h79 (bd_w (l := 0) (h := 8) (bd_adc (c := 1) (h := 7) (bd_lt_hi hp1 (i_nle c32) hp0) (h72 c76) (bd_le_hi hk2 (h73 c76) (bd_sub (l := 0) (h := 8) (bd_lt_lo hp0 (i_nle c32) hp1) (bd_c (v := 1) (lo := 1) (hi := 1) (by decide)) (by decide))) (by decide)) (by decide)) (bd_w (l := 0) (h := 15) (bd_c (v := 8) (lo := 8) (hi := 8) (by decide)) (by decide)) hp5)), (n0_c (ms_c e83 (Nat.ne_of_beq_eq_false rfl)) (n0_s h79 (bd_w (l := 0) (h := 8) (bd_adc (c := 1) (h := 7) (bd_lt_hi hp1 (i_nle c32) hp0) (h72 c76) (bd_le_hi hk2 (h73 c76) (bd_sub (l := 0) (h := 8) (bd_lt_lo hp0 (i_nle c32) hp1) (bd_c (v := 1) (lo := 1) (hi := 1) (by decide)) (by decide))) (by decide)) (by decide)) (bd_w (l := 0) (h := 15) (bd_c (v := 8) (lo := 8) (hi := 8) (by decide)) (by decide)) hp6)), E, (fun c k0_ k1_ => ((ms_c e83 k0_).trans (ms_c h79 k1_))), (fun j k24_ k25_ => ((ms_i e83 k24_).trans (congrFun (ms_c h79 (Nat.ne_of_beq_eq_false rfl)) j)))⟩
          · replace E := xq_ef c76 E
            refine J_iconst (v := 0) dX11_does_207 (by decide) ?_
            exact J_zret hq dX11_does_208 rfl rfl wlen (Nat.le_refl _) (Nat.le_refl _) ⟨false, u, rfl, rfl, hp3, hp4, hp5, hp6, E, (fun c k0_ k1_ => rfl), (fun j k24_ k25_ => rfl)⟩
        replace E := xq_en c69 E
        · refine J_tableOut (tgt := 234) dX11_does_22 (by have e0 := int_ne (k := 0) c35 (by decide); have e1 := int_ne (k := 1) c46 (by decide); have e2 := int_ne (k := 2) c58 (by decide); have e3 := int_ne (k := 3) c69 (by decide); omega) (by decide) ?_
          refine J_aload_n (i := 0) (j := 0) dX11_does_234 rfl rfl ?_
          refine J_dup dX11_does_235 rfl ?_
          refine J_get (C := RX11) (T := TX11) (Z := 43) (ci := 11) (f := 25) dX11_does_236 inG11 rfl (by decide) k1289 wc_162 rfl ?_
          refine J_aload_n (i := 0) (j := 0) dX11_does_239 rfl rfl ?_
          refine J_iload_n (i := 2) (j := 2) dX11_does_240 rfl rfl ?_
          refine J_iconst (v := 1) dX11_does_241 (by decide) ?_
          refine J_callV (As := [.int p, .int 1]) (rest := [.int (u 162 25), .ref 162]) dX11_does_242 (c_M_of (d := 0) (u := u) (g := g) (ex := ex) (p := p) (what := 1)  (by decide) (bd_lt_hi hp1 (i_nle c32) hp0) (bd_w (l := 0) (h := 15) (bd_c (v := 1) (lo := 1) (hi := 1) (by decide)) (by decide))) hq.n k1515 k1517 k55 wc_162 rfl rfl k97 k1518 np_X11_of (Nat.le_trans (by decide) hd) (by decide) (Nat.le_refl _) (Nat.le_refl _) wlen rfl (Nat.le_of_ble_eq_true rfl) (fun r_ h_ p84 => ?_)
          obtain ⟨rfl, rfl⟩ := p84
          refine J_aload_n (i := 0) (j := 0) dX11_does_245 rfl rfl ?_
          refine J_iload_n (i := 2) (j := 2) dX11_does_246 rfl rfl ?_
          refine J_bipush (v := 7) dX11_does_247 (by decide) ?_
          refine J_callV (As := [.int p, .int 7]) (rest := [.int (mof u p (1 : Int32)), .int (u 162 25), .ref 162]) dX11_does_249 (c_M_of (d := 0) (u := u) (g := g) (ex := ex) (p := p) (what := 7)  (by decide) (bd_lt_hi hp1 (i_nle c32) hp0) (bd_w (l := 0) (h := 15) (bd_c (v := 7) (lo := 7) (hi := 7) (by decide)) (by decide))) hq.n k1515 k1517 k55 wc_162 rfl rfl k97 k1518 np_X11_of (Nat.le_trans (by decide) hd) (by decide) (Nat.le_refl _) (Nat.le_refl _) wlen rfl (Nat.le_of_ble_eq_true rfl) (fun r_ h_ p85 => ?_)
          obtain ⟨rfl, rfl⟩ := p85
          refine J_imul dX11_does_252 ?_
          refine J_iadd dX11_does_253 ?_
          obtain ⟨u86, e87⟩ : ∃ z, z = ms u 162 25 ((u 162 25) + ((mof u p (1 : Int32)) * (mof u p (7 : Int32)))) := ⟨_, rfl⟩
          refine J_put (C := RX11) (T := TX11) (Z := 43) (ci := 11) (f := 25) (ty0 := tyX11) dX11_does_254 inG11 rfl tyX11_ok nmX11 (by decide) k1289 rfl rfl wc_162 (Nat.le_of_ble_eq_true rfl) (fun _ _ => ⟨rfl, rfl⟩) (ws e87 wk_162 rfl) ?_
          replace E := xq_le e87 E
          refine J_aload_n (i := 0) (j := 0) dX11_does_257 rfl rfl ?_
          refine J_iload_n (i := 2) (j := 2) dX11_does_258 rfl rfl ?_
          refine J_iconst (v := 1) dX11_does_259 (by decide) ?_
          refine J_iconst (v := 0) dX11_does_260 (by decide) ?_
          refine J_callV (As := [.int p, .int 1, .int 0]) (rest := []) dX11_does_261 (c_M_setX (d := 0) (u := u86) (g := g) (ex := ex) (p := p) (what := 1) (v := 0)  (by decide) (bd_lt_hi hp1 (i_nle c32) hp0) (bd_w (l := 0) (h := 15) (bd_c (v := 1) (lo := 1) (hi := 1) (by decide)) (by decide))) hq.n k1519 k1521 k56 wc_162 rfl rfl k97 k1522 np_X11_set (Nat.le_trans (by decide) hd) (by decide) (Nat.le_refl _) (Nat.le_refl _) wlen rfl (Nat.le_of_ble_eq_true rfl) (fun r_ h_ p88 => ?_)
          obtain ⟨u89, rfl, rfl, h90, hx91, fr92⟩ := p88
          replace E := xq_le hx91 E
          refine J_aload_n (i := 0) (j := 0) dX11_does_264 rfl rfl ?_
          refine J_iload_n (i := 2) (j := 2) dX11_does_265 rfl rfl ?_
          refine J_iconst (v := 0) dX11_does_266 (by decide) ?_
          refine J_iconst (v := 0) dX11_does_267 (by decide) ?_
          refine J_callV (As := [.int p, .int 0, .int 0]) (rest := []) dX11_does_268 (c_M_setX (d := 0) (u := u89) (g := g) (ex := ex) (p := p) (what := 0) (v := 0)  (by decide) (bd_lt_hi hp1 (i_nle c32) hp0) (bd_w (l := 0) (h := 15) (bd_c (v := 0) (lo := 0) (hi := 0) (by decide)) (by decide))) hq.n k1519 k1521 k56 wc_162 rfl rfl k97 k1522 np_X11_set (Nat.le_trans (by decide) hd) (by decide) (Nat.le_refl _) (Nat.le_refl _) wlen rfl (Nat.le_of_ble_eq_true rfl) (fun r_ h_ p93 => ?_)
          obtain ⟨u94, rfl, rfl, h95, hx96, fr97⟩ := p93
          replace E := xq_le hx96 E
          refine J_aload_n (i := 0) (j := 0) dX11_does_271 rfl rfl ?_
          refine J_iload_n (i := 2) (j := 2) dX11_does_272 rfl rfl ?_
          refine J_iconst (v := 4) dX11_does_273 (by decide) ?_
          refine J_iconst (v := 0) dX11_does_274 (by decide) ?_
          refine J_callV (As := [.int p, .int 4, .int 0]) (rest := []) dX11_does_275 (c_M_setX (d := 0) (u := u94) (g := g) (ex := ex) (p := p) (what := 4) (v := 0)  (by decide) (bd_lt_hi hp1 (i_nle c32) hp0) (bd_w (l := 0) (h := 15) (bd_c (v := 4) (lo := 4) (hi := 4) (by decide)) (by decide))) hq.n k1519 k1521 k56 wc_162 rfl rfl k97 k1522 np_X11_set (Nat.le_trans (by decide) hd) (by decide) (Nat.le_refl _) (Nat.le_refl _) wlen rfl (Nat.le_of_ble_eq_true rfl) (fun r_ h_ p98 => ?_)
          obtain ⟨u99, rfl, rfl, h100, hx101, fr102⟩ := p98
          replace E := xq_le hx101 E
          refine J_aload_n (i := 0) (j := 0) dX11_does_278 rfl rfl ?_
          refine J_iload_n (i := 2) (j := 2) dX11_does_279 rfl rfl ?_
          refine J_bipush (v := 15) dX11_does_280 (by decide) ?_
          refine J_iconst (v := 1) dX11_does_282 (by decide) ?_
          refine J_callV (As := [.int p, .int 15, .int 1]) (rest := []) dX11_does_283 (c_M_setX (d := 0) (u := u99) (g := g) (ex := ex) (p := p) (what := 15) (v := 1)  (by decide) (bd_lt_hi hp1 (i_nle c32) hp0) (bd_w (l := 0) (h := 15) (bd_c (v := 15) (lo := 15) (hi := 15) (by decide)) (by decide))) hq.n k1519 k1521 k56 wc_162 rfl rfl k97 k1522 np_X11_set (Nat.le_trans (by decide) hd) (by decide) (Nat.le_refl _) (Nat.le_refl _) wlen rfl (Nat.le_of_ble_eq_true rfl) (fun r_ h_ p103 => ?_)
          obtain ⟨u104, rfl, rfl, h105, hx106, fr107⟩ := p103
          replace E := xq_le hx106 E
          refine J_iconst (v := 1) dX11_does_286 (by decide) ?_
          exact J_zret hq dX11_does_287 rfl rfl wlen (Nat.le_refl _) (Nat.le_refl _) ⟨true, u104, rfl, rfl, (ab_s h105 (ab_s h100 (ab_s h95 (ab_s h90 (ab_c (ms_c e87 (Nat.ne_of_beq_eq_false rfl)) hp3) (bd_w (l := (-1)) (h := 999) (bd_c (v := 0) (lo := 0) (hi := 0) (by decide)) (by decide))) (bd_w (l := (-1)) (h := 999) (bd_c (v := 0) (lo := 0) (hi := 0) (by decide)) (by decide))) (bd_w (l := (-1)) (h := 999) (bd_c (v := 0) (lo := 0) (hi := 0) (by decide)) (by decide))) (bd_w (l := (-1)) (h := 999) (bd_c (v := 1) (lo := 1) (hi := 1) (by decide)) (by decide))), (dn_s h105 (bd_lt_hi hp1 (i_nle c32) hp0) (by decide) (dn_s h100 (bd_lt_hi hp1 (i_nle c32) hp0) (by decide) (dn_s h95 (bd_lt_hi hp1 (i_nle c32) hp0) (by decide) (dn_s h90 (bd_lt_hi hp1 (i_nle c32) hp0) (by decide) (dn_c (ms_c e87 (Nat.ne_of_beq_eq_false rfl)) hp4))))), (rc_s h105 (bd_lt_hi hp1 (i_nle c32) hp0) (bd_w (l := 0) (h := 15) (bd_c (v := 15) (lo := 15) (hi := 15) (by decide)) (by decide)) (rc_s h100 (bd_lt_hi hp1 (i_nle c32) hp0) (bd_w (l := 0) (h := 15) (bd_c (v := 4) (lo := 4) (hi := 4) (by decide)) (by decide)) (rc_s h95 (bd_lt_hi hp1 (i_nle c32) hp0) (bd_w (l := 0) (h := 15) (bd_c (v := 0) (lo := 0) (hi := 0) (by decide)) (by decide)) (rc_s h90 (bd_lt_hi hp1 (i_nle c32) hp0) (bd_w (l := 0) (h := 15) (bd_c (v := 1) (lo := 1) (hi := 1) (by decide)) (by decide)) (rc_c (ms_c e87 (Nat.ne_of_beq_eq_false rfl)) hp5))))), (n0_s h105 (bd_lt_hi hp1 (i_nle c32) hp0) (bd_w (l := 0) (h := 15) (bd_c (v := 15) (lo := 15) (hi := 15) (by decide)) (by decide)) (n0_s h100 (bd_lt_hi hp1 (i_nle c32) hp0) (bd_w (l := 0) (h := 15) (bd_c (v := 4) (lo := 4) (hi := 4) (by decide)) (by decide)) (n0_s h95 (bd_lt_hi hp1 (i_nle c32) hp0) (bd_w (l := 0) (h := 15) (bd_c (v := 0) (lo := 0) (hi := 0) (by decide)) (by decide)) (n0_s h90 (bd_lt_hi hp1 (i_nle c32) hp0) (bd_w (l := 0) (h := 15) (bd_c (v := 1) (lo := 1) (hi := 1) (by decide)) (by decide)) (n0_c (ms_c e87 (Nat.ne_of_beq_eq_false rfl)) hp6))))), E, (fun c k0_ k1_ => ((ms_c h105 k1_).trans ((ms_c h100 k1_).trans ((ms_c h95 k1_).trans ((ms_c h90 k1_).trans (ms_c e87 k0_)))))), (fun j k24_ k25_ => ((congrFun (ms_c h105 (Nat.ne_of_beq_eq_false rfl)) j).trans ((congrFun (ms_c h100 (Nat.ne_of_beq_eq_false rfl)) j).trans ((congrFun (ms_c h95 (Nat.ne_of_beq_eq_false rfl)) j).trans ((congrFun (ms_c h90 (Nat.ne_of_beq_eq_false rfl)) j).trans (ms_i e87 k25_))))))⟩
      · replace E := xq_ep c34 E
        refine J_iconst (v := 0) dX11_does_19 (by decide) ?_
        exact J_zret hq dX11_does_20 rfl rfl wlen (Nat.le_refl _) (Nat.le_refl _) ⟨false, u, rfl, rfl, hp3, hp4, hp5, hp6, E, (fun c k0_ k1_ => rfl), (fun j k24_ k25_ => rfl)⟩
set_option maxRecDepth 100000 in
noncomputable def Fx_M_layX_L25 (h : Int32) (plan : Int32) (n_ : Nat) : (Int32) → (Nat → Nat → Int32) → Bool × (Nat → Nat → Int32) := Nat.rec (motive := fun _ => (Int32) → (Nat → Nat → Int32) → Bool × (Nat → Nat → Int32)) (fun _ _ => default) (fun n_ ih_ w83 u84 => if (157 : Int32) ≤ w83 then (xq_lt (ms u84 162 22 (u84 172 0)) fun u124 => xq_lt (ms u124 162 23 0) fun u126 => xq_lt (ms u126 162 24 0) fun u128 => xq_lt (ms u128 162 25 0) fun u130 => xq_lt (ms u130 162 26 (-1)) fun u132 => xq_lt (ms u132 162 27 0) fun u134 => if plan = ((-1) : Int32) then ((true, u134)) else (default)) else (xq_lt (u84 168 (((157 : Int32) * h) + w83).toNatClampNeg) fun v137 => xq_lt (ms u84 172 w83.toNatClampNeg v137) fun u138 => ih_ (w83 + 1) u138)) n_
set_option maxRecDepth 100000 in
theorem Fx_M_layX_L25_s {h : Int32} {plan : Int32} {w83 : Int32} {u84 : Nat → Nat → Int32} {n_ : Nat} : Fx_M_layX_L25 h plan (n_ + 1) w83 u84 = if (157 : Int32) ≤ w83 then (xq_lt (ms u84 162 22 (u84 172 0)) fun u124 => xq_lt (ms u124 162 23 0) fun u126 => xq_lt (ms u126 162 24 0) fun u128 => xq_lt (ms u128 162 25 0) fun u130 => xq_lt (ms u130 162 26 (-1)) fun u132 => xq_lt (ms u132 162 27 0) fun u134 => if plan = ((-1) : Int32) then ((true, u134)) else (default)) else (xq_lt (u84 168 (((157 : Int32) * h) + w83).toNatClampNeg) fun v137 => xq_lt (ms u84 172 w83.toNatClampNeg v137) fun u138 => (Fx_M_layX_L25 h plan n_) (w83 + 1) u138) := rfl
set_option maxRecDepth 100000 in
noncomputable def Fx_M_layX_J188 (u1256 : Nat → Nat → Int32) : Bool × (Nat → Nat → Int32) := (true, u1256)
set_option maxRecDepth 100000 in
noncomputable def Fx_M_layX_L102 (plan : Int32) (g : Nat → Nat → Int64) (n_ : Nat) : (Int32) → (Nat → Nat → Int32) → Bool × (Nat → Nat → Int32) := Nat.rec (motive := fun _ => (Int32) → (Nat → Nat → Int32) → Bool × (Nat → Nat → Int32)) (fun _ _ => default) (fun n_ ih_ w1172 u1173 => if w1172 = (0 : Int32) then (Fx_M_layX_J188 u1173) else (xq_lt (u1173 169 ((37 : Int32) * plan).toNatClampNeg) fun v1265 => if v1265 ≤ (u1173 162 23) then (Fx_M_layX_J188 u1173) else (xq_lt (u1173 169 ((((37 : Int32) * plan) + 1) + ((3 : Int32) * (u1173 162 23))).toNatClampNeg) fun v1267 => xq_lt (u1173 169 (((((37 : Int32) * plan) + 1) + ((3 : Int32) * (u1173 162 23))) + 1).toNatClampNeg) fun v1268 => xq_lt (u1173 169 (((((37 : Int32) * plan) + 1) + ((3 : Int32) * (u1173 162 23))) + 2).toNatClampNeg) fun v1269 => xq_c2 (Fx_M_doesX v1267 v1268 v1269 u1173 g) fun t1271 u1272 => if t1271 = true then (xq_lt (ms u1272 162 23 ((u1173 162 23) + 1)) fun u1283 => ih_ (bI t1271) u1283) else (xq_lt (ms u1272 162 23 ((u1173 162 23) + 0)) fun u1281 => Fx_M_layX_J188 u1281)))) n_
set_option maxRecDepth 100000 in
theorem Fx_M_layX_L102_s {plan : Int32} {g : Nat → Nat → Int64} {w1172 : Int32} {u1173 : Nat → Nat → Int32} {n_ : Nat} : Fx_M_layX_L102 plan g (n_ + 1) w1172 u1173 = if w1172 = (0 : Int32) then (Fx_M_layX_J188 u1173) else (xq_lt (u1173 169 ((37 : Int32) * plan).toNatClampNeg) fun v1265 => if v1265 ≤ (u1173 162 23) then (Fx_M_layX_J188 u1173) else (xq_lt (u1173 169 ((((37 : Int32) * plan) + 1) + ((3 : Int32) * (u1173 162 23))).toNatClampNeg) fun v1267 => xq_lt (u1173 169 (((((37 : Int32) * plan) + 1) + ((3 : Int32) * (u1173 162 23))) + 1).toNatClampNeg) fun v1268 => xq_lt (u1173 169 (((((37 : Int32) * plan) + 1) + ((3 : Int32) * (u1173 162 23))) + 2).toNatClampNeg) fun v1269 => xq_c2 (Fx_M_doesX v1267 v1268 v1269 u1173 g) fun t1271 u1272 => if t1271 = true then (xq_lt (ms u1272 162 23 ((u1173 162 23) + 1)) fun u1283 => (Fx_M_layX_L102 plan g n_) (bI t1271) u1283) else (xq_lt (ms u1272 162 23 ((u1173 162 23) + 0)) fun u1281 => Fx_M_layX_J188 u1281))) := rfl
set_option maxRecDepth 100000 in
noncomputable def Fx_M_layX_L25b (h : Int32) (plan : Int32) (g : Nat → Nat → Int64) (n_ : Nat) : (Int32) → (Nat → Nat → Int32) → Bool × (Nat → Nat → Int32) := Nat.rec (motive := fun _ => (Int32) → (Nat → Nat → Int32) → Bool × (Nat → Nat → Int32)) (fun _ _ => default) (fun n_ ih_ w557 u558 => if (157 : Int32) ≤ w557 then (xq_lt (ms u558 162 22 (u558 172 0)) fun u935 => xq_lt (ms u935 162 23 0) fun u937 => xq_lt (ms u937 162 24 0) fun u939 => xq_lt (ms u939 162 25 0) fun u941 => xq_lt (ms u941 162 26 (-1)) fun u943 => xq_lt (ms u943 162 27 0) fun u945 => if plan = ((-1) : Int32) then (default) else (Fx_M_layX_L102 plan g ((12 - (u945 162 23).toInt).toNat + 1) (1 : Int32) u945)) else (xq_lt (u558 168 (((157 : Int32) * h) + w557).toNatClampNeg) fun v1285 => xq_lt (ms u558 172 w557.toNatClampNeg v1285) fun u1286 => ih_ (w557 + 1) u1286)) n_
set_option maxRecDepth 100000 in
theorem Fx_M_layX_L25b_s {h : Int32} {plan : Int32} {g : Nat → Nat → Int64} {w557 : Int32} {u558 : Nat → Nat → Int32} {n_ : Nat} : Fx_M_layX_L25b h plan g (n_ + 1) w557 u558 = if (157 : Int32) ≤ w557 then (xq_lt (ms u558 162 22 (u558 172 0)) fun u935 => xq_lt (ms u935 162 23 0) fun u937 => xq_lt (ms u937 162 24 0) fun u939 => xq_lt (ms u939 162 25 0) fun u941 => xq_lt (ms u941 162 26 (-1)) fun u943 => xq_lt (ms u943 162 27 0) fun u945 => if plan = ((-1) : Int32) then (default) else (Fx_M_layX_L102 plan g ((12 - (u945 162 23).toInt).toNat + 1) (1 : Int32) u945)) else (xq_lt (u558 168 (((157 : Int32) * h) + w557).toNatClampNeg) fun v1285 => xq_lt (ms u558 172 w557.toNatClampNeg v1285) fun u1286 => (Fx_M_layX_L25b h plan g n_) (w557 + 1) u1286) := rfl
set_option maxRecDepth 100000 in
noncomputable def Fx_M_layX (h : Int32) (plan : Int32) (u : Nat → Nat → Int32) (g : Nat → Nat → Int64) : Bool × (Nat → Nat → Int32) := xq_lt (Fx_M_isHillX h u g) fun t2 => if t2 = true then (if plan = ((-1) : Int32) then (Fx_M_layX_L25 h plan ((157 - (0 : Int32).toInt).toNat + 1) (0 : Int32) u) else (xq_lt (Fx_M_isPlanX plan u g) fun t141 => if t141 = true then (Fx_M_layX_L25b h plan g ((157 - (0 : Int32).toInt).toNat + 1) (0 : Int32) u) else ((false, u)))) else ((false, u))
set_option maxHeartbeats 4000000 in
set_option maxRecDepth 100000 in
theorem c_M_layX {d : Nat} {u : Nat → Nat → Int32} {g : Nat → Nat → Int64} {ex : List MC} {h : Int32} {plan : Int32} (hd : 2 ≤ d) (hp0 : (MY u)) (hp1 : AB u 168 (-1) 999) (hp2 : (HD u)) (hp3 : (HC u)) (hp4 : (PL u)) (hp5 : (N0 u)) (hp6 : (DN u)) (hp7 : Bd 0 9 (u 162 22)) : CT con0 d 0 0 yX11_lay cX11_lay 5 (some .boolean) [.ref 162, .int h, .int plan] (Wd u g ex) (fun r h2 => ∃ (z : Bool) (u2 : Nat → Nat → Int32), r = some (.int (bI z)) ∧ h2 = Wd u2 g ex ∧ Bd 0 9 (u2 162 22) ∧ (DN u2) ∧ (N0 u2) ∧ (z = true → RC u2 ∧ AB u2 172 (-1) 999) ∧ (z, u2) = Fx_M_layX h plan u g ∧ (∀ c, c ≠ 162 → c ≠ 172 → u2 c = u c) ∧ (∀ j, j ≠ 22 → j ≠ 23 → j ≠ 24 → j ≠ 25 → j ≠ 26 → j ≠ 27 → u2 162 j = u 162 j)) := by
  refine CT_of (by decide) (Nat.le_of_ble_eq_true rfl) (fun x hq => ?_)
  show J x yX11_lay cX11_lay 5 (some .boolean) d 0 0 (Wd u g ex).length 0 [(0, .ref 162), (1, .int h), (2, .int plan)] [] (Wd u g ex) 0 0
  have E : Fx_M_layX h plan u g = Fx_M_layX h plan u g := rfl
  refine J_aload_n (i := 0) (j := 0) dX11_lay_0 rfl rfl ?_
  refine J_iload_n (i := 1) (j := 1) dX11_lay_1 rfl rfl ?_
  refine J_callV (As := [.int h]) (rest := []) dX11_lay_2 (c_M_isHillX (d := 1) (u := u) (g := g) (ex := ex) (h := h)  (by decide) (hp0 0 (by decide)).1) hq.n k1495 k1497 k51 wc_162 rfl rfl k97 k1498 np_X11_isHill (Nat.le_trans (by decide) hd) (by decide) (Nat.le_refl _) (Nat.le_refl _) wlen rfl (Nat.le_of_ble_eq_true rfl) (fun r_ h_ p1 => ?_)
  obtain ⟨t2, rfl, rfl, h3, h4, hx5⟩ := p1
  replace E := xq_le hx5 E
  refine J_ifB_eq (tgt := 21) dX11_lay_5 (by decide) (fun c6 => ?_) (fun c6 => ?_)
  · replace E := xq_ef c6 E
    refine J_iconst (v := 0) dX11_lay_21 (by decide) ?_
    exact J_zret hq dX11_lay_22 rfl rfl wlen (Nat.le_refl _) (Nat.le_refl _) ⟨false, u, rfl, rfl, hp7, hp6, hp5, (fun q => absurd q (by decide)), E, (fun c k0_ k1_ => rfl), (fun j k22_ k23_ k24_ k25_ k26_ k27_ => rfl)⟩
  · replace E := xq_ep c6 E
    refine J_iload_n (i := 2) (j := 2) dX11_lay_8 rfl rfl ?_
    refine J_iconst (v := (-1)) dX11_lay_9 (by decide) ?_
    refine J_icmp_eq (tgt := 23) dX11_lay_10 (by decide) (fun c7 => ?_) (fun c7 => ?_)
    · replace E := xq_ep c7 E
      refine J_iconst (v := 0) dX11_lay_23 (by decide) ?_
      refine J_istore_n (i := 3) (lw := [(3, .int 0), (0, .ref 162), (1, .int h), (2, .int plan)]) dX11_lay_24 rfl (by decide) rfl ?_
      have lp111 : ∀ (n112 : Nat) (w83 : Int32) (u84 : Nat → Nat → Int32), Bd 0 157 w83 → (∀ c, c ≠ 172 → u84 c = u c) → N0 u84 → CPY u84 u h w83 → (157 - w83.toInt).toNat < n112 → Fx_M_layX_L25 h plan n112 w83 u84 = Fx_M_layX h plan u g → J x yX11_lay cX11_lay 5 (some .boolean) d 0 0 (Wd u g ex).length 25 [(0, .ref 162), (1, .int h), (2, .int plan), (3, .int w83)] [] (Wd u84 g ex) 0 0 := by
        intro n112
        induction n112 with
        | zero => intro w83 u84 bw83 fr85 rf86 hI115 hm114 _; exact absurd hm114 (Nat.not_lt_zero _)
        | succ n112 ih113 =>
          intro w83 u84 bw83 fr85 rf86 hI115 hm114 E
          replace E := Fx_M_layX_L25_s.symm.trans E
          refine J_iload_n (i := 3) (j := 3) dX11_lay_25 rfl rfl ?_
          refine J_sipush (v := 157) dX11_lay_26 (by decide) ?_
          refine J_icmp_ge (tgt := 56) dX11_lay_29 (by decide) (fun c116 => ?_) (fun c116 => ?_)
          · replace E := xq_ep c116 E
            have hy120 := lay_dn hI115 (bd_le_lo bw83 c116 (bd_c (v := 157) (lo := 157) (hi := 157) (by decide))) (bd_w (l := 0) (h := 7) (h3 c6) (by decide)) hp2
            have hy121 := lay_p hI115 (bd_le_lo bw83 c116 (bd_c (v := 157) (lo := 157) (hi := 157) (by decide))) (bd_w (l := 0) (h := 7) (h3 c6) (by decide)) hp2
            have hy122 := lay_ab hI115 (bd_le_lo bw83 c116 (bd_c (v := 157) (lo := 157) (hi := 157) (by decide))) hp1 rf86
            have hy123 := lay_rc hI115 (bd_le_lo bw83 c116 (bd_c (v := 157) (lo := 157) (hi := 157) (by decide))) (h3 c6) hp3 (h4 c6)
            refine J_aload_n (i := 0) (j := 0) dX11_lay_56 rfl rfl ?_
            refine J_aload_n (i := 0) (j := 0) dX11_lay_57 rfl rfl ?_
            refine J_get (C := RX11) (T := TX11) (Z := 43) (ci := 11) (f := 21) dX11_lay_58 inG11 rfl (by decide) k1285 wc_162 rfl ?_
            refine J_iconst (v := 0) dX11_lay_61 (by decide) ?_
            refine J_iald dX11_lay_62 wc_172 (vin (bd_c (v := 0) (lo := 0) (hi := 0) (by decide)) (by decide)) ?_
            refine J_ci (v := u84 172 0) rfl ?_
            obtain ⟨u124, e125⟩ : ∃ z, z = ms u84 162 22 (u84 172 0) := ⟨_, rfl⟩
            refine J_put (C := RX11) (T := TX11) (Z := 43) (ci := 11) (f := 22) (ty0 := tyX11) dX11_lay_63 inG11 rfl tyX11_ok nmX11 (by decide) k1286 rfl rfl wc_162 (Nat.le_of_ble_eq_true rfl) (fun _ _ => ⟨rfl, rfl⟩) (ws e125 wk_162 rfl) ?_
            replace E := xq_le e125 E
            refine J_aload_n (i := 0) (j := 0) dX11_lay_66 rfl rfl ?_
            refine J_iconst (v := 0) dX11_lay_67 (by decide) ?_
            obtain ⟨u126, e127⟩ : ∃ z, z = ms u124 162 23 0 := ⟨_, rfl⟩
            refine J_put (C := RX11) (T := TX11) (Z := 43) (ci := 11) (f := 23) (ty0 := tyX11) dX11_lay_68 inG11 rfl tyX11_ok nmX11 (by decide) k1287 rfl rfl wc_162 (Nat.le_of_ble_eq_true rfl) (fun _ _ => ⟨rfl, rfl⟩) (ws e127 wk_162 rfl) ?_
            replace E := xq_le e127 E
            refine J_aload_n (i := 0) (j := 0) dX11_lay_71 rfl rfl ?_
            refine J_iconst (v := 0) dX11_lay_72 (by decide) ?_
            obtain ⟨u128, e129⟩ : ∃ z, z = ms u126 162 24 0 := ⟨_, rfl⟩
            refine J_put (C := RX11) (T := TX11) (Z := 43) (ci := 11) (f := 24) (ty0 := tyX11) dX11_lay_73 inG11 rfl tyX11_ok nmX11 (by decide) k1288 rfl rfl wc_162 (Nat.le_of_ble_eq_true rfl) (fun _ _ => ⟨rfl, rfl⟩) (ws e129 wk_162 rfl) ?_
            replace E := xq_le e129 E
            refine J_aload_n (i := 0) (j := 0) dX11_lay_76 rfl rfl ?_
            refine J_iconst (v := 0) dX11_lay_77 (by decide) ?_
            obtain ⟨u130, e131⟩ : ∃ z, z = ms u128 162 25 0 := ⟨_, rfl⟩
            refine J_put (C := RX11) (T := TX11) (Z := 43) (ci := 11) (f := 25) (ty0 := tyX11) dX11_lay_78 inG11 rfl tyX11_ok nmX11 (by decide) k1289 rfl rfl wc_162 (Nat.le_of_ble_eq_true rfl) (fun _ _ => ⟨rfl, rfl⟩) (ws e131 wk_162 rfl) ?_
            replace E := xq_le e131 E
            refine J_aload_n (i := 0) (j := 0) dX11_lay_81 rfl rfl ?_
            refine J_iconst (v := (-1)) dX11_lay_82 (by decide) ?_
            obtain ⟨u132, e133⟩ : ∃ z, z = ms u130 162 26 (-1) := ⟨_, rfl⟩
            refine J_put (C := RX11) (T := TX11) (Z := 43) (ci := 11) (f := 26) (ty0 := tyX11) dX11_lay_83 inG11 rfl tyX11_ok nmX11 (by decide) k1290 rfl rfl wc_162 (Nat.le_of_ble_eq_true rfl) (fun _ _ => ⟨rfl, rfl⟩) (ws e133 wk_162 rfl) ?_
            replace E := xq_le e133 E
            refine J_aload_n (i := 0) (j := 0) dX11_lay_86 rfl rfl ?_
            refine J_iconst (v := 0) dX11_lay_87 (by decide) ?_
            obtain ⟨u134, e135⟩ : ∃ z, z = ms u132 162 27 0 := ⟨_, rfl⟩
            refine J_put (C := RX11) (T := TX11) (Z := 43) (ci := 11) (f := 27) (ty0 := tyX11) dX11_lay_88 inG11 rfl tyX11_ok nmX11 (by decide) k1291 rfl rfl wc_162 (Nat.le_of_ble_eq_true rfl) (fun _ _ => ⟨rfl, rfl⟩) (ws e135 wk_162 rfl) ?_
            replace E := xq_le e135 E
            refine J_iload_n (i := 2) (j := 2) dX11_lay_91 rfl rfl ?_
            refine J_iconst (v := (-1)) dX11_lay_92 (by decide) ?_
            refine J_icmp_eq (tgt := 100) dX11_lay_93 (by decide) (fun c136 => ?_) (fun c136 => ?_)
            · replace E := xq_ep c136 E
              refine J_iconst (v := 0) dX11_lay_100 (by decide) ?_
              refine J_istore_n (i := 3) (lw := [(3, .int 0), (0, .ref 162), (1, .int h), (2, .int plan)]) dX11_lay_101 rfl (by decide) rfl ?_
              refine J_iload_n (i := 3) (j := 0) dX11_lay_102 rfl rfl ?_
              refine J_if_eq (tgt := 188) dX11_lay_103 (by decide) (fun _ => ?_) (fun q => absurd (by decide) q)
              refine J_iconst (v := 1) dX11_lay_188 (by decide) ?_
              exact J_zret hq dX11_lay_189 rfl rfl wlen (Nat.le_refl _) (Nat.le_refl _) ⟨true, u134, rfl, rfl, (bd_r ((ms_i e135 (Nat.ne_of_beq_eq_false rfl)).trans ((ms_i e133 (Nat.ne_of_beq_eq_false rfl)).trans ((ms_i e131 (Nat.ne_of_beq_eq_false rfl)).trans ((ms_i e129 (Nat.ne_of_beq_eq_false rfl)).trans ((ms_i e127 (Nat.ne_of_beq_eq_false rfl)).trans (ms_e e125)))))) hy121), (dn_c ((ms_c e135 (Nat.ne_of_beq_eq_false rfl)).trans ((ms_c e133 (Nat.ne_of_beq_eq_false rfl)).trans ((ms_c e131 (Nat.ne_of_beq_eq_false rfl)).trans ((ms_c e129 (Nat.ne_of_beq_eq_false rfl)).trans ((ms_c e127 (Nat.ne_of_beq_eq_false rfl)).trans (ms_c e125 (Nat.ne_of_beq_eq_false rfl))))))) hy120), (n0_c ((ms_c e135 (Nat.ne_of_beq_eq_false rfl)).trans ((ms_c e133 (Nat.ne_of_beq_eq_false rfl)).trans ((ms_c e131 (Nat.ne_of_beq_eq_false rfl)).trans ((ms_c e129 (Nat.ne_of_beq_eq_false rfl)).trans ((ms_c e127 (Nat.ne_of_beq_eq_false rfl)).trans (ms_c e125 (Nat.ne_of_beq_eq_false rfl))))))) rf86), (fun _ => ⟨(rc_c ((ms_c e135 (Nat.ne_of_beq_eq_false rfl)).trans ((ms_c e133 (Nat.ne_of_beq_eq_false rfl)).trans ((ms_c e131 (Nat.ne_of_beq_eq_false rfl)).trans ((ms_c e129 (Nat.ne_of_beq_eq_false rfl)).trans ((ms_c e127 (Nat.ne_of_beq_eq_false rfl)).trans (ms_c e125 (Nat.ne_of_beq_eq_false rfl))))))) hy123), (ab_c ((ms_c e135 (Nat.ne_of_beq_eq_false rfl)).trans ((ms_c e133 (Nat.ne_of_beq_eq_false rfl)).trans ((ms_c e131 (Nat.ne_of_beq_eq_false rfl)).trans ((ms_c e129 (Nat.ne_of_beq_eq_false rfl)).trans ((ms_c e127 (Nat.ne_of_beq_eq_false rfl)).trans (ms_c e125 (Nat.ne_of_beq_eq_false rfl))))))) hy122)⟩), E, (fun c k0_ k1_ => ((ms_c e135 k0_).trans ((ms_c e133 k0_).trans ((ms_c e131 k0_).trans ((ms_c e129 k0_).trans ((ms_c e127 k0_).trans ((ms_c e125 k0_).trans (fr85 c k1_)))))))), (fun j k22_ k23_ k24_ k25_ k26_ k27_ => ((ms_i e135 k27_).trans ((ms_i e133 k26_).trans ((ms_i e131 k25_).trans ((ms_i e129 k24_).trans ((ms_i e127 k23_).trans ((ms_i e125 k22_).trans (congrFun (fr85 162 (Nat.ne_of_beq_eq_false rfl)) j))))))))⟩
            · exact (bd_no (bd_ne_lo (bd_r c7 (bd_c (v := (-1)) (lo := (-1)) (hi := (-1)) (by decide))) c136 (by decide)) (by decide)).elim
          · replace E := xq_en c116 E
            refine J_aload_n (i := 0) (j := 0) dX11_lay_32 rfl rfl ?_
            refine J_get (C := RX11) (T := TX11) (Z := 43) (ci := 11) (f := 21) dX11_lay_33 inG11 rfl (by decide) k1285 wc_162 rfl ?_
            refine J_iload_n (i := 3) (j := 3) dX11_lay_36 rfl rfl ?_
            refine J_aload_n (i := 0) (j := 0) dX11_lay_37 rfl rfl ?_
            refine J_get (C := RX11) (T := TX11) (Z := 43) (ci := 11) (f := 6) dX11_lay_38 inG11 rfl (by decide) k1270 wc_162 rfl ?_
            refine J_sipush (v := 157) dX11_lay_41 (by decide) ?_
            refine J_iload_n (i := 1) (j := 1) dX11_lay_44 rfl rfl ?_
            refine J_imul dX11_lay_45 ?_
            refine J_iload_n (i := 3) (j := 3) dX11_lay_46 rfl rfl ?_
            refine J_iadd dX11_lay_47 ?_
            refine J_iald dX11_lay_48 wc_168 (vin (bd_add (l := 0) (h := 313) (bd_mul (l := 0) (h := 157) (bd_c (v := 157) (lo := 157) (hi := 157) (by decide)) (h3 c6) (by decide)) (bd_lt_hi bw83 (i_nle c116) (bd_c (v := 157) (lo := 157) (hi := 157) (by decide))) (by decide)) (by decide)) ?_
            refine J_topi (fun v137 qv137 => ?_)
            replace E := xq_le qv137 E
            obtain ⟨u138, e139⟩ : ∃ z, z = ms u84 172 w83.toNatClampNeg v137 := ⟨_, rfl⟩
            refine J_iast dX11_lay_49 wc_172 (vin (bd_lt_hi bw83 (i_nle c116) (bd_c (v := 157) (lo := 157) (hi := 157) (by decide))) (by decide)) (ws e139 wk_172 rfl) ?_
            replace E := xq_le e139 E
            refine J_iinc (i := 3) (j := 3) (v := (w83 + 1)) (lw := [(3, .int (w83 + 1)), (0, .ref 162), (1, .int h), (2, .int plan)]) dX11_lay_50 rfl rfl (by decide) rfl ?_
            refine J_goto (tgt := 25) dX11_lay_53 (by decide) ?_
            refine J_lv [1, 2, 3, 0] rfl ?_
            exact ih113 (w83 + 1) u138 (bd_w (l := 0) (h := 157) (bd_add (l := 1) (h := 157) (bd_lt_hi bw83 (i_nle c116) (bd_c (v := 157) (lo := 157) (hi := 157) (by decide))) (bd_c (v := 1) (lo := 1) (hi := 1) (by decide)) (by decide)) (by decide)) (fun c k0_ => ((ms_c e139 k0_).trans (fr85 c k0_))) (n0_k e139 (bd_lt_hi bw83 (i_nle c116) (bd_c (v := 157) (lo := 157) (hi := 157) (by decide))) (by decide) rf86) (cpy_s (bd_w (l := 0) (h := 7) (h3 c6) (by decide)) (bd_lt_hi bw83 (i_nle c116) (bd_c (v := 157) (lo := 157) (hi := 157) (by decide))) e139 (qv137.trans (congrFun (fr85 168 (Nat.ne_of_beq_eq_false rfl)) _)) hI115) (mu_up 1 bw83 rfl (by decide) (bd_w (l := 1) (h := 157) (bd_add (l := 1) (h := 157) (bd_lt_hi bw83 (i_nle c116) (bd_c (v := 157) (lo := 157) (hi := 157) (by decide))) (bd_c (v := 1) (lo := 1) (hi := 1) (by decide)) (by decide)) (by decide)) hm114) E
      refine J_lv [1, 2, 3, 0] rfl ?_
      exact lp111 ((157 - (0 : Int32).toInt).toNat + 1) (0 : Int32) u (bd_w (l := 0) (h := 157) (bd_c (v := 0) (lo := 0) (hi := 0) (by decide)) (by decide)) (fun c k0_ => rfl) hp5 cpy_0 (Nat.lt_succ_self _) E
    · replace E := xq_en c7 E
      refine J_aload_n (i := 0) (j := 0) dX11_lay_13 rfl rfl ?_
      refine J_iload_n (i := 2) (j := 2) dX11_lay_14 rfl rfl ?_
      refine J_callV (As := [.int plan]) (rest := []) dX11_lay_15 (c_M_isPlanX (d := 1) (u := u) (g := g) (ex := ex) (p := plan)  (by decide) (hp0 0 (by decide)).2) hq.n k1507 k1509 k53 wc_162 rfl rfl k97 k1510 np_X11_isPlan (Nat.le_trans (by decide) hd) (by decide) (Nat.le_refl _) (Nat.le_refl _) wlen rfl (Nat.le_of_ble_eq_true rfl) (fun r_ h_ p140 => ?_)
      obtain ⟨t141, rfl, rfl, h142, hx143⟩ := p140
      replace E := xq_le hx143 E
      refine J_ifB_ne (tgt := 23) dX11_lay_18 (by decide) (fun c144 => ?_) (fun c144 => ?_)
      · replace E := xq_ep c144 E
        refine J_iconst (v := 0) dX11_lay_23 (by decide) ?_
        refine J_istore_n (i := 3) (lw := [(3, .int 0), (0, .ref 162), (1, .int h), (2, .int plan)]) dX11_lay_24 rfl (by decide) rfl ?_
        have lp922 : ∀ (n923 : Nat) (w557 : Int32) (u558 : Nat → Nat → Int32), Bd 0 157 w557 → (∀ c, c ≠ 172 → u558 c = u c) → N0 u558 → CPY u558 u h w557 → (157 - w557.toInt).toNat < n923 → Fx_M_layX_L25b h plan g n923 w557 u558 = Fx_M_layX h plan u g → J x yX11_lay cX11_lay 5 (some .boolean) d 0 0 (Wd u g ex).length 25 [(0, .ref 162), (1, .int h), (2, .int plan), (3, .int w557)] [] (Wd u558 g ex) 0 0 := by
          intro n923
          induction n923 with
          | zero => intro w557 u558 bw557 fr559 rf560 hI926 hm925 _; exact absurd hm925 (Nat.not_lt_zero _)
          | succ n923 ih924 =>
            intro w557 u558 bw557 fr559 rf560 hI926 hm925 E
            replace E := Fx_M_layX_L25b_s.symm.trans E
            refine J_iload_n (i := 3) (j := 3) dX11_lay_25 rfl rfl ?_
            refine J_sipush (v := 157) dX11_lay_26 (by decide) ?_
            refine J_icmp_ge (tgt := 56) dX11_lay_29 (by decide) (fun c927 => ?_) (fun c927 => ?_)
            · replace E := xq_ep c927 E
              have hy931 := lay_dn hI926 (bd_le_lo bw557 c927 (bd_c (v := 157) (lo := 157) (hi := 157) (by decide))) (bd_w (l := 0) (h := 7) (h3 c6) (by decide)) hp2
              have hy932 := lay_p hI926 (bd_le_lo bw557 c927 (bd_c (v := 157) (lo := 157) (hi := 157) (by decide))) (bd_w (l := 0) (h := 7) (h3 c6) (by decide)) hp2
              have hy933 := lay_ab hI926 (bd_le_lo bw557 c927 (bd_c (v := 157) (lo := 157) (hi := 157) (by decide))) hp1 rf560
              have hy934 := lay_rc hI926 (bd_le_lo bw557 c927 (bd_c (v := 157) (lo := 157) (hi := 157) (by decide))) (h3 c6) hp3 (h4 c6)
              refine J_aload_n (i := 0) (j := 0) dX11_lay_56 rfl rfl ?_
              refine J_aload_n (i := 0) (j := 0) dX11_lay_57 rfl rfl ?_
              refine J_get (C := RX11) (T := TX11) (Z := 43) (ci := 11) (f := 21) dX11_lay_58 inG11 rfl (by decide) k1285 wc_162 rfl ?_
              refine J_iconst (v := 0) dX11_lay_61 (by decide) ?_
              refine J_iald dX11_lay_62 wc_172 (vin (bd_c (v := 0) (lo := 0) (hi := 0) (by decide)) (by decide)) ?_
              refine J_ci (v := u558 172 0) rfl ?_
              obtain ⟨u935, e936⟩ : ∃ z, z = ms u558 162 22 (u558 172 0) := ⟨_, rfl⟩
              refine J_put (C := RX11) (T := TX11) (Z := 43) (ci := 11) (f := 22) (ty0 := tyX11) dX11_lay_63 inG11 rfl tyX11_ok nmX11 (by decide) k1286 rfl rfl wc_162 (Nat.le_of_ble_eq_true rfl) (fun _ _ => ⟨rfl, rfl⟩) (ws e936 wk_162 rfl) ?_
              replace E := xq_le e936 E
              refine J_aload_n (i := 0) (j := 0) dX11_lay_66 rfl rfl ?_
              refine J_iconst (v := 0) dX11_lay_67 (by decide) ?_
              obtain ⟨u937, e938⟩ : ∃ z, z = ms u935 162 23 0 := ⟨_, rfl⟩
              refine J_put (C := RX11) (T := TX11) (Z := 43) (ci := 11) (f := 23) (ty0 := tyX11) dX11_lay_68 inG11 rfl tyX11_ok nmX11 (by decide) k1287 rfl rfl wc_162 (Nat.le_of_ble_eq_true rfl) (fun _ _ => ⟨rfl, rfl⟩) (ws e938 wk_162 rfl) ?_
              replace E := xq_le e938 E
              refine J_aload_n (i := 0) (j := 0) dX11_lay_71 rfl rfl ?_
              refine J_iconst (v := 0) dX11_lay_72 (by decide) ?_
              obtain ⟨u939, e940⟩ : ∃ z, z = ms u937 162 24 0 := ⟨_, rfl⟩
              refine J_put (C := RX11) (T := TX11) (Z := 43) (ci := 11) (f := 24) (ty0 := tyX11) dX11_lay_73 inG11 rfl tyX11_ok nmX11 (by decide) k1288 rfl rfl wc_162 (Nat.le_of_ble_eq_true rfl) (fun _ _ => ⟨rfl, rfl⟩) (ws e940 wk_162 rfl) ?_
              replace E := xq_le e940 E
              refine J_aload_n (i := 0) (j := 0) dX11_lay_76 rfl rfl ?_
              refine J_iconst (v := 0) dX11_lay_77 (by decide) ?_
              obtain ⟨u941, e942⟩ : ∃ z, z = ms u939 162 25 0 := ⟨_, rfl⟩
              refine J_put (C := RX11) (T := TX11) (Z := 43) (ci := 11) (f := 25) (ty0 := tyX11) dX11_lay_78 inG11 rfl tyX11_ok nmX11 (by decide) k1289 rfl rfl wc_162 (Nat.le_of_ble_eq_true rfl) (fun _ _ => ⟨rfl, rfl⟩) (ws e942 wk_162 rfl) ?_
              replace E := xq_le e942 E
              refine J_aload_n (i := 0) (j := 0) dX11_lay_81 rfl rfl ?_
              refine J_iconst (v := (-1)) dX11_lay_82 (by decide) ?_
              obtain ⟨u943, e944⟩ : ∃ z, z = ms u941 162 26 (-1) := ⟨_, rfl⟩
              refine J_put (C := RX11) (T := TX11) (Z := 43) (ci := 11) (f := 26) (ty0 := tyX11) dX11_lay_83 inG11 rfl tyX11_ok nmX11 (by decide) k1290 rfl rfl wc_162 (Nat.le_of_ble_eq_true rfl) (fun _ _ => ⟨rfl, rfl⟩) (ws e944 wk_162 rfl) ?_
              replace E := xq_le e944 E
              refine J_aload_n (i := 0) (j := 0) dX11_lay_86 rfl rfl ?_
              refine J_iconst (v := 0) dX11_lay_87 (by decide) ?_
              obtain ⟨u945, e946⟩ : ∃ z, z = ms u943 162 27 0 := ⟨_, rfl⟩
              refine J_put (C := RX11) (T := TX11) (Z := 43) (ci := 11) (f := 27) (ty0 := tyX11) dX11_lay_88 inG11 rfl tyX11_ok nmX11 (by decide) k1291 rfl rfl wc_162 (Nat.le_of_ble_eq_true rfl) (fun _ _ => ⟨rfl, rfl⟩) (ws e946 wk_162 rfl) ?_
              replace E := xq_le e946 E
              refine J_iload_n (i := 2) (j := 2) dX11_lay_91 rfl rfl ?_
              refine J_iconst (v := (-1)) dX11_lay_92 (by decide) ?_
              refine J_icmp_eq (tgt := 100) dX11_lay_93 (by decide) (fun c947 => ?_) (fun c947 => ?_)
              · exact (bd_neq c947 (h142 c144) (bd_c (v := (-1)) (lo := (-1)) (hi := (-1)) (by decide)) (by decide)).elim
              · replace E := xq_en c947 E
                refine J_iconst (v := 1) dX11_lay_96 (by decide) ?_
                refine J_goto (tgt := 101) dX11_lay_97 (by decide) ?_
                refine J_istore_n (i := 3) (lw := [(3, .int 1), (0, .ref 162), (1, .int h), (2, .int plan)]) dX11_lay_101 rfl (by decide) rfl ?_
                have lp1231 : ∀ (n1232 : Nat) (w1172 : Int32) (u1173 : Nat → Nat → Int32), Bd 0 1 w1172 → (∀ c, c ≠ 162 → c ≠ 172 → u1173 c = u945 c) → (∀ j, j ≠ 23 → j ≠ 24 → j ≠ 25 → u1173 162 j = u945 162 j) → Bd 0 12 (u1173 162 23) → AB u1173 172 (-1) 999 → DN u1173 → N0 u1173 → RC u1173 → (12 - (u1173 162 23).toInt).toNat < n1232 → Fx_M_layX_L102 plan g n1232 w1172 u1173 = Fx_M_layX h plan u g → J x yX11_lay cX11_lay 5 (some .boolean) d 0 0 (Wd u g ex).length 102 [(0, .ref 162), (2, .int plan), (3, .int w1172)] [] (Wd u1173 g ex) 0 0 := by
                  intro n1232
                  induction n1232 with
                  | zero => intro w1172 u1173 bw1172 fr1174 fc1175 bm1176 ab1177 rf1178 rf1179 rf1180 hm1234 _; exact absurd hm1234 (Nat.not_lt_zero _)
                  | succ n1232 ih1233 =>
                    intro w1172 u1173 bw1172 fr1174 fc1175 bm1176 ab1177 rf1178 rf1179 rf1180 hm1234 E
                    replace E := Fx_M_layX_L102_s.symm.trans E
                    refine J_iload_n (i := 3) (j := 2) dX11_lay_102 rfl rfl ?_
                    have jn1264 : ∀ (u1256 : Nat → Nat → Int32), (∀ c, c ≠ 162 → c ≠ 172 → u1256 c = u1173 c) → (∀ j, j ≠ 23 → j ≠ 24 → j ≠ 25 → u1256 162 j = u1173 162 j) → Bd 0 12 (u1256 162 23) → AB u1256 172 (-1) 999 → DN u1256 → N0 u1256 → RC u1256 → Fx_M_layX_J188 u1256 = Fx_M_layX h plan u g → J x yX11_lay cX11_lay 5 (some .boolean) d 0 0 (Wd u g ex).length 188 [] [] (Wd u1256 g ex) 0 0 := by
                      intro u1256 fr1257 fc1258 bm1259 ab1260 rf1261 rf1262 rf1263 E
                      refine J_iconst (v := 1) dX11_lay_188 (by decide) ?_
                      exact J_zret hq dX11_lay_189 rfl rfl wlen (Nat.le_refl _) (Nat.le_refl _) ⟨true, u1256, rfl, rfl, (bd_r ((fc1258 22 (Nat.ne_of_beq_eq_false rfl) (Nat.ne_of_beq_eq_false rfl) (Nat.ne_of_beq_eq_false rfl)).trans ((fc1175 22 (Nat.ne_of_beq_eq_false rfl) (Nat.ne_of_beq_eq_false rfl) (Nat.ne_of_beq_eq_false rfl)).trans ((ms_i e946 (Nat.ne_of_beq_eq_false rfl)).trans ((ms_i e944 (Nat.ne_of_beq_eq_false rfl)).trans ((ms_i e942 (Nat.ne_of_beq_eq_false rfl)).trans ((ms_i e940 (Nat.ne_of_beq_eq_false rfl)).trans ((ms_i e938 (Nat.ne_of_beq_eq_false rfl)).trans (ms_e e936)))))))) hy932), rf1261, rf1262, (fun _ => ⟨rf1263, ab1260⟩), E, (fun c k0_ k1_ => ((fr1257 c k0_ k1_).trans ((fr1174 c k0_ k1_).trans ((ms_c e946 k0_).trans ((ms_c e944 k0_).trans ((ms_c e942 k0_).trans ((ms_c e940 k0_).trans ((ms_c e938 k0_).trans ((ms_c e936 k0_).trans (fr559 c k1_)))))))))), (fun j k22_ k23_ k24_ k25_ k26_ k27_ => ((fc1258 j k23_ k24_ k25_).trans ((fc1175 j k23_ k24_ k25_).trans ((ms_i e946 k27_).trans ((ms_i e944 k26_).trans ((ms_i e942 k25_).trans ((ms_i e940 k24_).trans ((ms_i e938 k23_).trans ((ms_i e936 k22_).trans (congrFun (fr559 162 (Nat.ne_of_beq_eq_false rfl)) j))))))))))⟩
                    refine J_if_eq (tgt := 188) dX11_lay_103 (by decide) (fun c1235 => ?_) (fun c1235 => ?_)
                    · replace E := xq_ep c1235 E
                      refine J_lv [] rfl ?_
                      exact jn1264 u1173 (fun c k0_ k1_ => rfl) (fun j k23_ k24_ k25_ => rfl) bm1176 ab1177 rf1178 rf1179 rf1180 E
                    · replace E := xq_en c1235 E
                      refine J_aload_n (i := 0) (j := 0) dX11_lay_106 rfl rfl ?_
                      refine J_get (C := RX11) (T := TX11) (Z := 43) (ci := 11) (f := 23) dX11_lay_107 inG11 rfl (by decide) k1287 wc_162 rfl ?_
                      refine J_aload_n (i := 0) (j := 0) dX11_lay_110 rfl rfl ?_
                      refine J_get (C := RX11) (T := TX11) (Z := 43) (ci := 11) (f := 7) dX11_lay_111 inG11 rfl (by decide) k1271 wc_162 rfl ?_
                      refine J_bipush (v := 37) dX11_lay_114 (by decide) ?_
                      refine J_iload_n (i := 2) (j := 1) dX11_lay_116 rfl rfl ?_
                      refine J_imul dX11_lay_117 ?_
                      refine J_iald dX11_lay_118 wc_169 (vin (bd_mul (l := 0) (h := 74) (bd_c (v := 37) (lo := 37) (hi := 37) (by decide)) (h142 c144) (by decide)) (by decide)) ?_
                      refine J_topi (fun v1265 qv1265 => ?_)
                      replace E := xq_le qv1265 E
                      refine J_icmp_ge (tgt := 188) dX11_lay_119 (by decide) (fun c1266 => ?_) (fun c1266 => ?_)
                      · replace E := xq_ep c1266 E
                        refine J_lv [] rfl ?_
                        exact jn1264 u1173 (fun c k0_ k1_ => rfl) (fun j k23_ k24_ k25_ => rfl) bm1176 ab1177 rf1178 rf1179 rf1180 E
                      · replace E := xq_en c1266 E
                        refine J_bipush (v := 37) dX11_lay_122 (by decide) ?_
                        refine J_iload_n (i := 2) (j := 1) dX11_lay_124 rfl rfl ?_
                        refine J_imul dX11_lay_125 ?_
                        refine J_iconst (v := 1) dX11_lay_126 (by decide) ?_
                        refine J_iadd dX11_lay_127 ?_
                        refine J_iconst (v := 3) dX11_lay_128 (by decide) ?_
                        refine J_aload_n (i := 0) (j := 0) dX11_lay_129 rfl rfl ?_
                        refine J_get (C := RX11) (T := TX11) (Z := 43) (ci := 11) (f := 23) dX11_lay_130 inG11 rfl (by decide) k1287 wc_162 rfl ?_
                        refine J_imul dX11_lay_133 ?_
                        refine J_iadd dX11_lay_134 ?_
                        refine J_istore (i := 4) (lw := [(4, .int ((((37 : Int32) * plan) + 1) + ((3 : Int32) * (u1173 162 23)))), (0, .ref 162), (2, .int plan), (3, .int w1172)]) dX11_lay_135 (by decide) rfl ?_
                        refine J_aload_n (i := 0) (j := 1) dX11_lay_137 rfl rfl ?_
                        refine J_aload_n (i := 0) (j := 1) dX11_lay_138 rfl rfl ?_
                        refine J_get (C := RX11) (T := TX11) (Z := 43) (ci := 11) (f := 7) dX11_lay_139 inG11 rfl (by decide) k1271 wc_162 rfl ?_
                        refine J_iload (i := 4) (j := 0) dX11_lay_142 rfl ?_
                        refine J_iald dX11_lay_144 wc_169 (vin (bd_add (l := 1) (h := 108) (bd_add (l := 1) (h := 75) (bd_mul (l := 0) (h := 74) (bd_c (v := 37) (lo := 37) (hi := 37) (by decide)) (h142 c144) (by decide)) (bd_c (v := 1) (lo := 1) (hi := 1) (by decide)) (by decide)) (bd_mul (l := 0) (h := 33) (bd_c (v := 3) (lo := 3) (hi := 3) (by decide)) (bd_lt_hi bm1176 (i_nle c1266) (pl_cnt (pl_c ((fr1174 169 (Nat.ne_of_beq_eq_false rfl) (Nat.ne_of_beq_eq_false rfl)).trans ((ms_c e946 (Nat.ne_of_beq_eq_false rfl)).trans ((ms_c e944 (Nat.ne_of_beq_eq_false rfl)).trans ((ms_c e942 (Nat.ne_of_beq_eq_false rfl)).trans ((ms_c e940 (Nat.ne_of_beq_eq_false rfl)).trans ((ms_c e938 (Nat.ne_of_beq_eq_false rfl)).trans ((ms_c e936 (Nat.ne_of_beq_eq_false rfl)).trans (fr559 169 (Nat.ne_of_beq_eq_false rfl))))))))) hp4) (bd_w (l := 0) (h := 11) (h142 c144) (by decide)) qv1265)) (by decide)) (by decide)) (by decide)) ?_
                        refine J_topi (fun v1267 qv1267 => ?_)
                        replace E := xq_le qv1267 E
                        refine J_aload_n (i := 0) (j := 1) dX11_lay_145 rfl rfl ?_
                        refine J_get (C := RX11) (T := TX11) (Z := 43) (ci := 11) (f := 7) dX11_lay_146 inG11 rfl (by decide) k1271 wc_162 rfl ?_
                        refine J_iload (i := 4) (j := 0) dX11_lay_149 rfl ?_
                        refine J_iconst (v := 1) dX11_lay_151 (by decide) ?_
                        refine J_iadd dX11_lay_152 ?_
                        refine J_iald dX11_lay_153 wc_169 (vin (bd_add (l := 2) (h := 109) (bd_add (l := 1) (h := 108) (bd_add (l := 1) (h := 75) (bd_mul (l := 0) (h := 74) (bd_c (v := 37) (lo := 37) (hi := 37) (by decide)) (h142 c144) (by decide)) (bd_c (v := 1) (lo := 1) (hi := 1) (by decide)) (by decide)) (bd_mul (l := 0) (h := 33) (bd_c (v := 3) (lo := 3) (hi := 3) (by decide)) (bd_lt_hi bm1176 (i_nle c1266) (pl_cnt (pl_c ((fr1174 169 (Nat.ne_of_beq_eq_false rfl) (Nat.ne_of_beq_eq_false rfl)).trans ((ms_c e946 (Nat.ne_of_beq_eq_false rfl)).trans ((ms_c e944 (Nat.ne_of_beq_eq_false rfl)).trans ((ms_c e942 (Nat.ne_of_beq_eq_false rfl)).trans ((ms_c e940 (Nat.ne_of_beq_eq_false rfl)).trans ((ms_c e938 (Nat.ne_of_beq_eq_false rfl)).trans ((ms_c e936 (Nat.ne_of_beq_eq_false rfl)).trans (fr559 169 (Nat.ne_of_beq_eq_false rfl))))))))) hp4) (bd_w (l := 0) (h := 11) (h142 c144) (by decide)) qv1265)) (by decide)) (by decide)) (bd_c (v := 1) (lo := 1) (hi := 1) (by decide)) (by decide)) (by decide)) ?_
                        refine J_topi (fun v1268 qv1268 => ?_)
                        replace E := xq_le qv1268 E
                        refine J_aload_n (i := 0) (j := 1) dX11_lay_154 rfl rfl ?_
                        refine J_get (C := RX11) (T := TX11) (Z := 43) (ci := 11) (f := 7) dX11_lay_155 inG11 rfl (by decide) k1271 wc_162 rfl ?_
                        refine J_iload (i := 4) (j := 0) dX11_lay_158 rfl ?_
                        refine J_iconst (v := 2) dX11_lay_160 (by decide) ?_
                        refine J_iadd dX11_lay_161 ?_
                        refine J_iald dX11_lay_162 wc_169 (vin (bd_add (l := 3) (h := 110) (bd_add (l := 1) (h := 108) (bd_add (l := 1) (h := 75) (bd_mul (l := 0) (h := 74) (bd_c (v := 37) (lo := 37) (hi := 37) (by decide)) (h142 c144) (by decide)) (bd_c (v := 1) (lo := 1) (hi := 1) (by decide)) (by decide)) (bd_mul (l := 0) (h := 33) (bd_c (v := 3) (lo := 3) (hi := 3) (by decide)) (bd_lt_hi bm1176 (i_nle c1266) (pl_cnt (pl_c ((fr1174 169 (Nat.ne_of_beq_eq_false rfl) (Nat.ne_of_beq_eq_false rfl)).trans ((ms_c e946 (Nat.ne_of_beq_eq_false rfl)).trans ((ms_c e944 (Nat.ne_of_beq_eq_false rfl)).trans ((ms_c e942 (Nat.ne_of_beq_eq_false rfl)).trans ((ms_c e940 (Nat.ne_of_beq_eq_false rfl)).trans ((ms_c e938 (Nat.ne_of_beq_eq_false rfl)).trans ((ms_c e936 (Nat.ne_of_beq_eq_false rfl)).trans (fr559 169 (Nat.ne_of_beq_eq_false rfl))))))))) hp4) (bd_w (l := 0) (h := 11) (h142 c144) (by decide)) qv1265)) (by decide)) (by decide)) (bd_c (v := 2) (lo := 2) (hi := 2) (by decide)) (by decide)) (by decide)) ?_
                        refine J_topi (fun v1269 qv1269 => ?_)
                        replace E := xq_le qv1269 E
                        refine J_callV (As := [.int v1267, .int v1268, .int v1269]) (rest := []) dX11_lay_163 (c_M_doesX (d := 1) (u := u1173) (g := g) (ex := ex) (what := v1267) (p := v1268) (much := v1269)  (by decide) (bd_r ((fc1175 22 (Nat.ne_of_beq_eq_false rfl) (Nat.ne_of_beq_eq_false rfl) (Nat.ne_of_beq_eq_false rfl)).trans ((ms_i e946 (Nat.ne_of_beq_eq_false rfl)).trans ((ms_i e944 (Nat.ne_of_beq_eq_false rfl)).trans ((ms_i e942 (Nat.ne_of_beq_eq_false rfl)).trans ((ms_i e940 (Nat.ne_of_beq_eq_false rfl)).trans ((ms_i e938 (Nat.ne_of_beq_eq_false rfl)).trans (ms_e e936))))))) hy932) ((pl_at (pl_c ((fr1174 169 (Nat.ne_of_beq_eq_false rfl) (Nat.ne_of_beq_eq_false rfl)).trans ((ms_c e946 (Nat.ne_of_beq_eq_false rfl)).trans ((ms_c e944 (Nat.ne_of_beq_eq_false rfl)).trans ((ms_c e942 (Nat.ne_of_beq_eq_false rfl)).trans ((ms_c e940 (Nat.ne_of_beq_eq_false rfl)).trans ((ms_c e938 (Nat.ne_of_beq_eq_false rfl)).trans ((ms_c e936 (Nat.ne_of_beq_eq_false rfl)).trans (fr559 169 (Nat.ne_of_beq_eq_false rfl))))))))) hp4) (bd_w (l := 0) (h := 11) (h142 c144) (by decide)) (bd_lt_hi bm1176 (i_nle c1266) (pl_cnt (pl_c ((fr1174 169 (Nat.ne_of_beq_eq_false rfl) (Nat.ne_of_beq_eq_false rfl)).trans ((ms_c e946 (Nat.ne_of_beq_eq_false rfl)).trans ((ms_c e944 (Nat.ne_of_beq_eq_false rfl)).trans ((ms_c e942 (Nat.ne_of_beq_eq_false rfl)).trans ((ms_c e940 (Nat.ne_of_beq_eq_false rfl)).trans ((ms_c e938 (Nat.ne_of_beq_eq_false rfl)).trans ((ms_c e936 (Nat.ne_of_beq_eq_false rfl)).trans (fr559 169 (Nat.ne_of_beq_eq_false rfl))))))))) hp4) (bd_w (l := 0) (h := 11) (h142 c144) (by decide)) qv1265)) qv1267 qv1268 qv1269)).2 ((pl_at (pl_c ((fr1174 169 (Nat.ne_of_beq_eq_false rfl) (Nat.ne_of_beq_eq_false rfl)).trans ((ms_c e946 (Nat.ne_of_beq_eq_false rfl)).trans ((ms_c e944 (Nat.ne_of_beq_eq_false rfl)).trans ((ms_c e942 (Nat.ne_of_beq_eq_false rfl)).trans ((ms_c e940 (Nat.ne_of_beq_eq_false rfl)).trans ((ms_c e938 (Nat.ne_of_beq_eq_false rfl)).trans ((ms_c e936 (Nat.ne_of_beq_eq_false rfl)).trans (fr559 169 (Nat.ne_of_beq_eq_false rfl))))))))) hp4) (bd_w (l := 0) (h := 11) (h142 c144) (by decide)) (bd_lt_hi bm1176 (i_nle c1266) (pl_cnt (pl_c ((fr1174 169 (Nat.ne_of_beq_eq_false rfl) (Nat.ne_of_beq_eq_false rfl)).trans ((ms_c e946 (Nat.ne_of_beq_eq_false rfl)).trans ((ms_c e944 (Nat.ne_of_beq_eq_false rfl)).trans ((ms_c e942 (Nat.ne_of_beq_eq_false rfl)).trans ((ms_c e940 (Nat.ne_of_beq_eq_false rfl)).trans ((ms_c e938 (Nat.ne_of_beq_eq_false rfl)).trans ((ms_c e936 (Nat.ne_of_beq_eq_false rfl)).trans (fr559 169 (Nat.ne_of_beq_eq_false rfl))))))))) hp4) (bd_w (l := 0) (h := 11) (h142 c144) (by decide)) qv1265)) qv1267 qv1268 qv1269)).1 ab1177 rf1178 rf1180 rf1179) hq.n k1511 k1513 k54 wc_162 rfl rfl k97 k1514 np_X11_does (Nat.le_trans (by decide) hd) (by decide) (Nat.le_refl _) (Nat.le_refl _) wlen rfl (Nat.le_of_ble_eq_true rfl) (fun r_ h_ p1270 => ?_)
                        obtain ⟨t1271, u1272, rfl, rfl, h1273, h1274, h1275, h1276, hx1277, fr1278, fc1279⟩ := p1270
                        replace E := xq_e2 hx1277 E
                        refine J_istore_n (i := 3) (lw := [(3, .int (bI t1271)), (4, .int ((((37 : Int32) * plan) + 1) + ((3 : Int32) * (u1173 162 23)))), (0, .ref 162), (2, .int plan)]) dX11_lay_166 rfl (by decide) rfl ?_
                        refine J_aload_n (i := 0) (j := 2) dX11_lay_167 rfl rfl ?_
                        refine J_dup dX11_lay_168 rfl ?_
                        refine J_get (C := RX11) (T := TX11) (Z := 43) (ci := 11) (f := 23) dX11_lay_169 inG11 rfl (by decide) k1287 wc_162 rfl ?_
                        refine J_ci (v := u1173 162 23) (fc1279 23 (Nat.ne_of_beq_eq_false rfl) (Nat.ne_of_beq_eq_false rfl)) ?_
                        refine J_iload_n (i := 3) (j := 0) dX11_lay_172 rfl rfl ?_
                        refine J_ifB_eq (tgt := 180) dX11_lay_173 (by decide) (fun c1280 => ?_) (fun c1280 => ?_)
                        · replace E := xq_ef c1280 E
                          refine J_iconst (v := 0) dX11_lay_180 (by decide) ?_
                          refine J_iadd dX11_lay_181 ?_
                          obtain ⟨u1281, e1282⟩ : ∃ z, z = ms u1272 162 23 ((u1173 162 23) + 0) := ⟨_, rfl⟩
                          refine J_put (C := RX11) (T := TX11) (Z := 43) (ci := 11) (f := 23) (ty0 := tyX11) dX11_lay_182 inG11 rfl tyX11_ok nmX11 (by decide) k1287 rfl rfl wc_162 (Nat.le_of_ble_eq_true rfl) (fun _ _ => ⟨rfl, rfl⟩) (ws e1282 wk_162 rfl) ?_
                          replace E := xq_le e1282 E
                          refine J_goto (tgt := 102) dX11_lay_185 (by decide) ?_
                          refine J_iload_n (i := 3) (j := 0) dX11_lay_102 rfl rfl ?_
                          refine J_ifB_eq (tgt := 188) dX11_lay_103 (by decide) (fun _ => ?_) (fun q => absurd (c1280.symm.trans q) (by decide))
                          refine J_lv [] rfl ?_
                          exact jn1264 u1281 (fun c k0_ k1_ => ((ms_c e1282 k0_).trans (fr1278 c k0_ k1_))) (fun j k23_ k24_ k25_ => ((ms_i e1282 k23_).trans (fc1279 j k24_ k25_))) (bd_r (ms_e e1282) (bd_w (l := 0) (h := 12) (bd_add (l := 0) (h := 11) (bd_lt_hi bm1176 (i_nle c1266) (pl_cnt (pl_c ((fr1174 169 (Nat.ne_of_beq_eq_false rfl) (Nat.ne_of_beq_eq_false rfl)).trans ((ms_c e946 (Nat.ne_of_beq_eq_false rfl)).trans ((ms_c e944 (Nat.ne_of_beq_eq_false rfl)).trans ((ms_c e942 (Nat.ne_of_beq_eq_false rfl)).trans ((ms_c e940 (Nat.ne_of_beq_eq_false rfl)).trans ((ms_c e938 (Nat.ne_of_beq_eq_false rfl)).trans ((ms_c e936 (Nat.ne_of_beq_eq_false rfl)).trans (fr559 169 (Nat.ne_of_beq_eq_false rfl))))))))) hp4) (bd_w (l := 0) (h := 11) (h142 c144) (by decide)) qv1265)) (bd_c (v := 0) (lo := 0) (hi := 0) (by decide)) (by decide)) (by decide))) (ab_c (ms_c e1282 (Nat.ne_of_beq_eq_false rfl)) h1273) (dn_c (ms_c e1282 (Nat.ne_of_beq_eq_false rfl)) h1274) (n0_c (ms_c e1282 (Nat.ne_of_beq_eq_false rfl)) h1276) (rc_c (ms_c e1282 (Nat.ne_of_beq_eq_false rfl)) h1275) E
                        · replace E := xq_ep c1280 E
                          refine J_iconst (v := 1) dX11_lay_176 (by decide) ?_
                          refine J_goto (tgt := 181) dX11_lay_177 (by decide) ?_
                          refine J_iadd dX11_lay_181 ?_
                          obtain ⟨u1283, e1284⟩ : ∃ z, z = ms u1272 162 23 ((u1173 162 23) + 1) := ⟨_, rfl⟩
                          refine J_put (C := RX11) (T := TX11) (Z := 43) (ci := 11) (f := 23) (ty0 := tyX11) dX11_lay_182 inG11 rfl tyX11_ok nmX11 (by decide) k1287 rfl rfl wc_162 (Nat.le_of_ble_eq_true rfl) (fun _ _ => ⟨rfl, rfl⟩) (ws e1284 wk_162 rfl) ?_
                          replace E := xq_le e1284 E
                          refine J_goto (tgt := 102) dX11_lay_185 (by decide) ?_
                          refine J_lv [2, 3, 0] rfl ?_
                          exact ih1233 (bI t1271) u1283 (bd_bI t1271) (fun c k0_ k1_ => ((ms_c e1284 k0_).trans ((fr1278 c k0_ k1_).trans (fr1174 c k0_ k1_)))) (fun j k23_ k24_ k25_ => ((ms_i e1284 k23_).trans ((fc1279 j k24_ k25_).trans (fc1175 j k23_ k24_ k25_)))) (bd_r (ms_e e1284) (bd_w (l := 0) (h := 12) (bd_add (l := 1) (h := 12) (bd_lt_hi bm1176 (i_nle c1266) (pl_cnt (pl_c ((fr1174 169 (Nat.ne_of_beq_eq_false rfl) (Nat.ne_of_beq_eq_false rfl)).trans ((ms_c e946 (Nat.ne_of_beq_eq_false rfl)).trans ((ms_c e944 (Nat.ne_of_beq_eq_false rfl)).trans ((ms_c e942 (Nat.ne_of_beq_eq_false rfl)).trans ((ms_c e940 (Nat.ne_of_beq_eq_false rfl)).trans ((ms_c e938 (Nat.ne_of_beq_eq_false rfl)).trans ((ms_c e936 (Nat.ne_of_beq_eq_false rfl)).trans (fr559 169 (Nat.ne_of_beq_eq_false rfl))))))))) hp4) (bd_w (l := 0) (h := 11) (h142 c144) (by decide)) qv1265)) (bd_c (v := 1) (lo := 1) (hi := 1) (by decide)) (by decide)) (by decide))) (ab_c (ms_c e1284 (Nat.ne_of_beq_eq_false rfl)) h1273) (dn_c (ms_c e1284 (Nat.ne_of_beq_eq_false rfl)) h1274) (n0_c (ms_c e1284 (Nat.ne_of_beq_eq_false rfl)) h1276) (rc_c (ms_c e1284 (Nat.ne_of_beq_eq_false rfl)) h1275) (mu_up 1 bm1176 (ms_e e1284) (by decide) (bd_w (l := 1) (h := 12) (bd_r (ms_e e1284) (bd_add (l := 1) (h := 12) (bd_lt_hi bm1176 (i_nle c1266) (pl_cnt (pl_c ((fr1174 169 (Nat.ne_of_beq_eq_false rfl) (Nat.ne_of_beq_eq_false rfl)).trans ((ms_c e946 (Nat.ne_of_beq_eq_false rfl)).trans ((ms_c e944 (Nat.ne_of_beq_eq_false rfl)).trans ((ms_c e942 (Nat.ne_of_beq_eq_false rfl)).trans ((ms_c e940 (Nat.ne_of_beq_eq_false rfl)).trans ((ms_c e938 (Nat.ne_of_beq_eq_false rfl)).trans ((ms_c e936 (Nat.ne_of_beq_eq_false rfl)).trans (fr559 169 (Nat.ne_of_beq_eq_false rfl))))))))) hp4) (bd_w (l := 0) (h := 11) (h142 c144) (by decide)) qv1265)) (bd_c (v := 1) (lo := 1) (hi := 1) (by decide)) (by decide))) (by decide)) hm1234) E
                refine J_lv [1, 3, 0] rfl ?_
                exact lp1231 ((12 - (u945 162 23).toInt).toNat + 1) (1 : Int32) u945 (bd_w (l := 0) (h := 1) (bd_c (v := 1) (lo := 1) (hi := 1) (by decide)) (by decide)) (fun c k0_ k1_ => rfl) (fun j k23_ k24_ k25_ => rfl) (bd_r ((ms_i e946 (Nat.ne_of_beq_eq_false rfl)).trans ((ms_i e944 (Nat.ne_of_beq_eq_false rfl)).trans ((ms_i e942 (Nat.ne_of_beq_eq_false rfl)).trans ((ms_i e940 (Nat.ne_of_beq_eq_false rfl)).trans (ms_e e938))))) (bd_w (l := 0) (h := 12) (bd_c (v := 0) (lo := 0) (hi := 0) (by decide)) (by decide))) (ab_c ((ms_c e946 (Nat.ne_of_beq_eq_false rfl)).trans ((ms_c e944 (Nat.ne_of_beq_eq_false rfl)).trans ((ms_c e942 (Nat.ne_of_beq_eq_false rfl)).trans ((ms_c e940 (Nat.ne_of_beq_eq_false rfl)).trans ((ms_c e938 (Nat.ne_of_beq_eq_false rfl)).trans (ms_c e936 (Nat.ne_of_beq_eq_false rfl))))))) hy933) (dn_c ((ms_c e946 (Nat.ne_of_beq_eq_false rfl)).trans ((ms_c e944 (Nat.ne_of_beq_eq_false rfl)).trans ((ms_c e942 (Nat.ne_of_beq_eq_false rfl)).trans ((ms_c e940 (Nat.ne_of_beq_eq_false rfl)).trans ((ms_c e938 (Nat.ne_of_beq_eq_false rfl)).trans (ms_c e936 (Nat.ne_of_beq_eq_false rfl))))))) hy931) (n0_c ((ms_c e946 (Nat.ne_of_beq_eq_false rfl)).trans ((ms_c e944 (Nat.ne_of_beq_eq_false rfl)).trans ((ms_c e942 (Nat.ne_of_beq_eq_false rfl)).trans ((ms_c e940 (Nat.ne_of_beq_eq_false rfl)).trans ((ms_c e938 (Nat.ne_of_beq_eq_false rfl)).trans (ms_c e936 (Nat.ne_of_beq_eq_false rfl))))))) rf560) (rc_c ((ms_c e946 (Nat.ne_of_beq_eq_false rfl)).trans ((ms_c e944 (Nat.ne_of_beq_eq_false rfl)).trans ((ms_c e942 (Nat.ne_of_beq_eq_false rfl)).trans ((ms_c e940 (Nat.ne_of_beq_eq_false rfl)).trans ((ms_c e938 (Nat.ne_of_beq_eq_false rfl)).trans (ms_c e936 (Nat.ne_of_beq_eq_false rfl))))))) hy934) (Nat.lt_succ_self _) E
            · replace E := xq_en c927 E
              refine J_aload_n (i := 0) (j := 0) dX11_lay_32 rfl rfl ?_
              refine J_get (C := RX11) (T := TX11) (Z := 43) (ci := 11) (f := 21) dX11_lay_33 inG11 rfl (by decide) k1285 wc_162 rfl ?_
              refine J_iload_n (i := 3) (j := 3) dX11_lay_36 rfl rfl ?_
              refine J_aload_n (i := 0) (j := 0) dX11_lay_37 rfl rfl ?_
              refine J_get (C := RX11) (T := TX11) (Z := 43) (ci := 11) (f := 6) dX11_lay_38 inG11 rfl (by decide) k1270 wc_162 rfl ?_
              refine J_sipush (v := 157) dX11_lay_41 (by decide) ?_
              refine J_iload_n (i := 1) (j := 1) dX11_lay_44 rfl rfl ?_
              refine J_imul dX11_lay_45 ?_
              refine J_iload_n (i := 3) (j := 3) dX11_lay_46 rfl rfl ?_
              refine J_iadd dX11_lay_47 ?_
              refine J_iald dX11_lay_48 wc_168 (vin (bd_add (l := 0) (h := 313) (bd_mul (l := 0) (h := 157) (bd_c (v := 157) (lo := 157) (hi := 157) (by decide)) (h3 c6) (by decide)) (bd_lt_hi bw557 (i_nle c927) (bd_c (v := 157) (lo := 157) (hi := 157) (by decide))) (by decide)) (by decide)) ?_
              refine J_topi (fun v1285 qv1285 => ?_)
              replace E := xq_le qv1285 E
              obtain ⟨u1286, e1287⟩ : ∃ z, z = ms u558 172 w557.toNatClampNeg v1285 := ⟨_, rfl⟩
              refine J_iast dX11_lay_49 wc_172 (vin (bd_lt_hi bw557 (i_nle c927) (bd_c (v := 157) (lo := 157) (hi := 157) (by decide))) (by decide)) (ws e1287 wk_172 rfl) ?_
              replace E := xq_le e1287 E
              refine J_iinc (i := 3) (j := 3) (v := (w557 + 1)) (lw := [(3, .int (w557 + 1)), (0, .ref 162), (1, .int h), (2, .int plan)]) dX11_lay_50 rfl rfl (by decide) rfl ?_
              refine J_goto (tgt := 25) dX11_lay_53 (by decide) ?_
              refine J_lv [1, 2, 3, 0] rfl ?_
              exact ih924 (w557 + 1) u1286 (bd_w (l := 0) (h := 157) (bd_add (l := 1) (h := 157) (bd_lt_hi bw557 (i_nle c927) (bd_c (v := 157) (lo := 157) (hi := 157) (by decide))) (bd_c (v := 1) (lo := 1) (hi := 1) (by decide)) (by decide)) (by decide)) (fun c k0_ => ((ms_c e1287 k0_).trans (fr559 c k0_))) (n0_k e1287 (bd_lt_hi bw557 (i_nle c927) (bd_c (v := 157) (lo := 157) (hi := 157) (by decide))) (by decide) rf560) (cpy_s (bd_w (l := 0) (h := 7) (h3 c6) (by decide)) (bd_lt_hi bw557 (i_nle c927) (bd_c (v := 157) (lo := 157) (hi := 157) (by decide))) e1287 (qv1285.trans (congrFun (fr559 168 (Nat.ne_of_beq_eq_false rfl)) _)) hI926) (mu_up 1 bw557 rfl (by decide) (bd_w (l := 1) (h := 157) (bd_add (l := 1) (h := 157) (bd_lt_hi bw557 (i_nle c927) (bd_c (v := 157) (lo := 157) (hi := 157) (by decide))) (bd_c (v := 1) (lo := 1) (hi := 1) (by decide)) (by decide)) (by decide)) hm925) E
        refine J_lv [1, 2, 3, 0] rfl ?_
        exact lp922 ((157 - (0 : Int32).toInt).toNat + 1) (0 : Int32) u (bd_w (l := 0) (h := 157) (bd_c (v := 0) (lo := 0) (hi := 0) (by decide)) (by decide)) (fun c k0_ => rfl) hp5 cpy_0 (Nat.lt_succ_self _) E
      · replace E := xq_ef c144 E
        refine J_iconst (v := 0) dX11_lay_21 (by decide) ?_
        exact J_zret hq dX11_lay_22 rfl rfl wlen (Nat.le_refl _) (Nat.le_refl _) ⟨false, u, rfl, rfl, hp7, hp6, hp5, (fun q => absurd q (by decide)), E, (fun c k0_ k1_ => rfl), (fun j k22_ k23_ k24_ k25_ k26_ k27_ => rfl)⟩
set_option maxRecDepth 100000 in
noncomputable def Fx_M_mendAllNX_J31 (ih_lp55 : (Int32) → (Nat → Nat → Int32) → (Nat → Nat → Int32)) (g : Nat → Nat → Int64) (w34 : Int32) (u35 : Nat → Nat → Int32) (w65 : Int32) : (Nat → Nat → Int32) := xq_lt (Fx_M_setX w34 (4 : Int32) w65 u35 g) fun u68 => ih_lp55 (w34 + 1) u68
set_option maxRecDepth 100000 in
noncomputable def Fx_M_mendAllNX_L2 (set : Int32) (u : Nat → Nat → Int32) (g : Nat → Nat → Int64) (n_ : Nat) : (Int32) → (Nat → Nat → Int32) → (Nat → Nat → Int32) := Nat.rec (motive := fun _ => (Int32) → (Nat → Nat → Int32) → (Nat → Nat → Int32)) (fun _ _ => default) (fun n_ ih_ w34 u35 => if (u 162 22) ≤ w34 then (u35) else (xq_lt (Fx_M_hasX set w34 u35 g) fun t61 => if t61 = true then (Fx_M_mendAllNX_J31 ih_ g w34 u35 (0 : Int32)) else (xq_lt (u35 177 w34.toNatClampNeg) fun v72 => Fx_M_mendAllNX_J31 ih_ g w34 u35 v72))) n_
set_option maxRecDepth 100000 in
theorem Fx_M_mendAllNX_L2_s {set : Int32} {u : Nat → Nat → Int32} {g : Nat → Nat → Int64} {w34 : Int32} {u35 : Nat → Nat → Int32} {n_ : Nat} : Fx_M_mendAllNX_L2 set u g (n_ + 1) w34 u35 = if (u 162 22) ≤ w34 then (u35) else (xq_lt (Fx_M_hasX set w34 u35 g) fun t61 => if t61 = true then (Fx_M_mendAllNX_J31 (Fx_M_mendAllNX_L2 set u g n_) g w34 u35 (0 : Int32)) else (xq_lt (u35 177 w34.toNatClampNeg) fun v72 => Fx_M_mendAllNX_J31 (Fx_M_mendAllNX_L2 set u g n_) g w34 u35 v72)) := rfl
set_option maxRecDepth 100000 in
noncomputable def Fx_M_mendAllNX (set : Int32) (u : Nat → Nat → Int32) (g : Nat → Nat → Int64) : (Nat → Nat → Int32) := Fx_M_mendAllNX_L2 set u g ((9 - (0 : Int32).toInt).toNat + 1) (0 : Int32) u
set_option maxHeartbeats 4000000 in
set_option maxRecDepth 100000 in
theorem c_M_mendAllNX {d : Nat} {u : Nat → Nat → Int32} {g : Nat → Nat → Int64} {ex : List MC} {set : Int32} (hd : 1 ≤ d) (hp0 : Bd 0 9 (u 162 22)) (hp1 : AB u 172 (-1) 999) (hp2 : AB u 177 (-1) 999) (hp3 : (DN u)) (hp4 : (RC u)) (hp5 : (N0 u)) : CT con0 d 0 0 yX11_mendAll cX11_mendAll 3 none [.ref 162, .int set] (Wd u g ex) (fun r h2 => ∃ (u2 : Nat → Nat → Int32), r = none ∧ h2 = Wd u2 g ex ∧ AB u2 172 (-1) 999 ∧ (DN u2) ∧ (RC u2) ∧ (N0 u2) ∧ u2 = Fx_M_mendAllNX set u g ∧ (∀ c, c ≠ 172 → u2 c = u c)) := by
  refine CT_of (by decide) (Nat.le_of_ble_eq_true rfl) (fun x hq => ?_)
  show J x yX11_mendAll cX11_mendAll 3 none d 0 0 (Wd u g ex).length 0 [(0, .ref 162), (1, .int set)] [] (Wd u g ex) 0 0
  have E : Fx_M_mendAllNX set u g = Fx_M_mendAllNX set u g := rfl
  refine J_iconst (v := 0) dX11_mendAll_0 (by decide) ?_
  refine J_istore_n (i := 2) (lw := [(2, .int 0), (0, .ref 162), (1, .int set)]) dX11_mendAll_1 rfl (by decide) rfl ?_
  have lp55 : ∀ (n56 : Nat) (w34 : Int32) (u35 : Nat → Nat → Int32), Bd 0 9 w34 → (∀ c, c ≠ 172 → u35 c = u c) → AB u35 172 (-1) 999 → DN u35 → N0 u35 → RC u35 → (9 - w34.toInt).toNat < n56 → Fx_M_mendAllNX_L2 set u g n56 w34 u35 = Fx_M_mendAllNX set u g → J x yX11_mendAll cX11_mendAll 3 none d 0 0 (Wd u g ex).length 2 [(0, .ref 162), (1, .int set), (2, .int w34)] [] (Wd u35 g ex) 0 0 := by
    intro n56
    induction n56 with
    | zero => intro w34 u35 bw34 fr36 ab37 rf38 rf39 rf40 hm58 _; exact absurd hm58 (Nat.not_lt_zero _)
    | succ n56 ih57 =>
      intro w34 u35 bw34 fr36 ab37 rf38 rf39 rf40 hm58 E
      replace E := Fx_M_mendAllNX_L2_s.symm.trans E
      refine J_iload_n (i := 2) (j := 2) dX11_mendAll_2 rfl rfl ?_
      refine J_aload_n (i := 0) (j := 0) dX11_mendAll_3 rfl rfl ?_
      refine J_get (C := RX11) (T := TX11) (Z := 43) (ci := 11) (f := 22) dX11_mendAll_4 inG11 rfl (by decide) k1286 wc_162 rfl ?_
      refine J_ci (v := u 162 22) (congrFun (fr36 162 (Nat.ne_of_beq_eq_false rfl)) 22) ?_
      refine J_icmp_ge (tgt := 40) dX11_mendAll_7 (by decide) (fun c59 => ?_) (fun c59 => ?_)
      · replace E := xq_ep c59 E
        exact J_vret hq dX11_mendAll_40 rfl wlen (Nat.le_refl _) (Nat.le_refl _) ⟨u35, rfl, rfl, ab37, rf38, rf40, rf39, E, (fun c k0_ => (fr36 c k0_))⟩
      · replace E := xq_en c59 E
        refine J_aload_n (i := 0) (j := 0) dX11_mendAll_10 rfl rfl ?_
        refine J_iload_n (i := 2) (j := 2) dX11_mendAll_11 rfl rfl ?_
        refine J_iconst (v := 4) dX11_mendAll_12 (by decide) ?_
        refine J_iload_n (i := 1) (j := 1) dX11_mendAll_13 rfl rfl ?_
        refine J_iload_n (i := 2) (j := 2) dX11_mendAll_14 rfl rfl ?_
        refine J_callS (As := [.int set, .int w34]) (rest := [.int 4, .int w34, .ref 162]) dX11_mendAll_15 (c_M_hasX (d := 0) (u := u35) (g := g) (ex := ex) (set := set) (k := w34)  (by decide) ) hq.n k1555 k1556 k97 k1557 np_X11_has (Nat.le_trans (by decide) hd) (by decide) (Nat.le_refl _) (Nat.le_refl _) wlen rfl (Nat.le_of_ble_eq_true rfl) (fun r_ h_ p60 => ?_)
        obtain ⟨t61, rfl, rfl, hx62⟩ := p60
        replace E := xq_le hx62 E
        have jn66 : ∀ (w65 : Int32), Bd (-1) 999 w65 → Fx_M_mendAllNX_J31 (Fx_M_mendAllNX_L2 set u g n56) g w34 u35 w65 = Fx_M_mendAllNX set u g → J x yX11_mendAll cX11_mendAll 3 none d 0 0 (Wd u g ex).length 31 [(0, .ref 162), (1, .int set), (2, .int w34)] [.int w65, .int 4, .int w34, .ref 162] (Wd u35 g ex) 0 0 := by
          intro w65 bw65 E
          refine J_callV (As := [.int w34, .int 4, .int w65]) (rest := []) dX11_mendAll_31 (c_M_setX (d := 0) (u := u35) (g := g) (ex := ex) (p := w34) (what := 4) (v := w65)  (by decide) (bd_lt_hi bw34 (i_nle c59) hp0) (bd_w (l := 0) (h := 15) (bd_c (v := 4) (lo := 4) (hi := 4) (by decide)) (by decide))) hq.n k1519 k1521 k56 wc_162 rfl rfl k97 k1522 np_X11_set (Nat.le_trans (by decide) hd) (by decide) (Nat.le_refl _) (Nat.le_refl _) wlen rfl (Nat.le_of_ble_eq_true rfl) (fun r_ h_ p67 => ?_)
          obtain ⟨u68, rfl, rfl, h69, hx70, fr71⟩ := p67
          replace E := xq_le hx70 E
          refine J_iinc (i := 2) (j := 2) (v := (w34 + 1)) (lw := [(2, .int (w34 + 1)), (0, .ref 162), (1, .int set)]) dX11_mendAll_34 rfl rfl (by decide) rfl ?_
          refine J_goto (tgt := 2) dX11_mendAll_37 (by decide) ?_
          refine J_lv [1, 2, 0] rfl ?_
          exact ih57 (w34 + 1) u68 (bd_w (l := 0) (h := 9) (bd_add (l := 1) (h := 9) (bd_lt_hi bw34 (i_nle c59) hp0) (bd_c (v := 1) (lo := 1) (hi := 1) (by decide)) (by decide)) (by decide)) (fun c k0_ => ((ms_c h69 k0_).trans (fr36 c k0_))) (ab_s h69 ab37 bw65) (dn_s h69 (bd_lt_hi bw34 (i_nle c59) hp0) (by decide) rf38) (n0_s h69 (bd_lt_hi bw34 (i_nle c59) hp0) (bd_w (l := 0) (h := 15) (bd_c (v := 4) (lo := 4) (hi := 4) (by decide)) (by decide)) rf39) (rc_s h69 (bd_lt_hi bw34 (i_nle c59) hp0) (bd_w (l := 0) (h := 15) (bd_c (v := 4) (lo := 4) (hi := 4) (by decide)) (by decide)) rf40) (mu_up 1 bw34 rfl (by decide) (bd_w (l := 1) (h := 9) (bd_add (l := 1) (h := 9) (bd_lt_hi bw34 (i_nle c59) hp0) (bd_c (v := 1) (lo := 1) (hi := 1) (by decide)) (by decide)) (by decide)) hm58) E
        refine J_ifB_eq (tgt := 25) dX11_mendAll_18 (by decide) (fun c63 => ?_) (fun c63 => ?_)
        · replace E := xq_ef c63 E
          refine J_aload_n (i := 0) (j := 0) dX11_mendAll_25 rfl rfl ?_
          refine J_get (C := RX11) (T := TX11) (Z := 43) (ci := 11) (f := 35) dX11_mendAll_26 inG11 rfl (by decide) k1299 wc_162 rfl ?_
          refine J_iload_n (i := 2) (j := 2) dX11_mendAll_29 rfl rfl ?_
          refine J_iald dX11_mendAll_30 wc_177 (vin (bd_lt_hi bw34 (i_nle c59) hp0) (by decide)) ?_
          refine J_topi (fun v72 qv72 => ?_)
          replace E := xq_le qv72 E
          refine J_lv [0, 1, 2] rfl ?_
          exact jn66 v72 (bd_r qv72 ((ab_c (fr36 177 (Nat.ne_of_beq_eq_false rfl)) hp2) w34.toNatClampNeg)) E
        · replace E := xq_ep c63 E
          refine J_iconst (v := 0) dX11_mendAll_21 (by decide) ?_
          refine J_goto (tgt := 31) dX11_mendAll_22 (by decide) ?_
          refine J_lv [0, 1, 2] rfl ?_
          exact jn66 (0 : Int32) (bd_w (l := (-1)) (h := 999) (bd_c (v := 0) (lo := 0) (hi := 0) (by decide)) (by decide)) E
  refine J_lv [1, 2, 0] rfl ?_
  exact lp55 ((9 - (0 : Int32).toInt).toNat + 1) (0 : Int32) u (bd_w (l := 0) (h := 9) (bd_c (v := 0) (lo := 0) (hi := 0) (by decide)) (by decide)) (fun c k0_ => rfl) hp1 hp3 hp5 hp4 (Nat.lt_succ_self _) E
set_option maxRecDepth 100000 in
noncomputable def Fx_M_meanMendedNX (set : Int32) (owner : Int32) (u : Nat → Nat → Int32) (g : Nat → Nat → Int64) : Int64 × (Nat → Nat → Int32) := xq_lt (Fx_M_mendAllNX set u g) fun u2 => xq_c2 (Fx_M_meanByX owner u2 g) fun l10 u11 => xq_lt (Fx_M_mendAllNX (0 : Int32) u11 g) fun u17 => (l10, u17)
set_option maxHeartbeats 4000000 in
set_option maxRecDepth 100000 in
theorem c_M_meanMendedNX {d : Nat} {u : Nat → Nat → Int32} {g : Nat → Nat → Int64} {ex : List MC} {set : Int32} {owner : Int32} (hd : 5 ≤ d) (hp0 : Bd 0 9 (u 162 22)) (hp1 : (RC u)) (hp2 : (DN u)) (hp3 : Bd 0 511 (u 162 31)) (hp4 : AB u 172 (-1) 999) (hp5 : AB u 177 (-1) 999) (hp6 : (N0 u)) : CT con0 d 0 0 yX11_meanMended cX11_meanMended 5 (some .long) [.ref 162, .int set, .int owner] (Wd u g ex) (fun r h2 => ∃ (z : Int64) (u2 : Nat → Nat → Int32), r = some (.long z) ∧ h2 = Wd u2 g ex ∧ Bd 0 511 (u2 162 31) ∧ AB u2 172 (-1) 999 ∧ (DN u2) ∧ (RC u2) ∧ (N0 u2) ∧ (z, u2) = Fx_M_meanMendedNX set owner u g ∧ (∀ c, nin c [(162, 162), (172, 175)] = true → u2 c = u c) ∧ (∀ j, j ≠ 31 → j ≠ 32 → j ≠ 33 → u2 162 j = u 162 j)) := by
  refine CT_of (by decide) (Nat.le_of_ble_eq_true rfl) (fun x hq => ?_)
  show J x yX11_meanMended cX11_meanMended 5 (some .long) d 0 0 (Wd u g ex).length 0 [(0, .ref 162), (1, .int set), (2, .int owner)] [] (Wd u g ex) 0 0
  have E : Fx_M_meanMendedNX set owner u g = Fx_M_meanMendedNX set owner u g := rfl
  refine J_aload_n (i := 0) (j := 0) dX11_meanMended_0 rfl rfl ?_
  refine J_iload_n (i := 1) (j := 1) dX11_meanMended_1 rfl rfl ?_
  refine J_callV (As := [.int set]) (rest := []) dX11_meanMended_2 (c_M_mendAllNX (d := 1) (u := u) (g := g) (ex := ex) (set := set)  (by decide) hp0 hp4 hp5 hp2 hp1 hp6) hq.n k1631 k1633 k73 wc_162 rfl rfl k97 k1634 np_X11_mendAll (Nat.le_trans (by decide) hd) (by decide) (Nat.le_refl _) (Nat.le_refl _) wlen rfl (Nat.le_of_ble_eq_true rfl) (fun r_ h_ p1 => ?_)
  obtain ⟨u2, rfl, rfl, h3, h4, h5, h6, hx7, fr8⟩ := p1
  replace E := xq_le hx7 E
  refine J_aload_n (i := 0) (j := 0) dX11_meanMended_5 rfl rfl ?_
  refine J_iload_n (i := 2) (j := 2) dX11_meanMended_6 rfl rfl ?_
  refine J_callV (As := [.int owner]) (rest := []) dX11_meanMended_7 (c_M_meanByX (d := 4) (u := u2) (g := g) (ex := ex) (owner := owner)  (by decide) (bd_r (congrFun (fr8 162 (Nat.ne_of_beq_eq_false rfl)) 22) hp0) h5 h4 (bd_r (congrFun (fr8 162 (Nat.ne_of_beq_eq_false rfl)) 31) hp3)) hq.n k1596 k1598 k68 wc_162 rfl rfl k97 k1599 np_X11_meanBy (Nat.le_trans (by decide) hd) (by decide) (Nat.le_refl _) (Nat.le_refl _) wlen rfl (Nat.le_of_ble_eq_true rfl) (fun r_ h_ p9 => ?_)
  obtain ⟨l10, u11, rfl, rfl, h12, hx13, fr14, fc15⟩ := p9
  replace E := xq_e2 hx13 E
  refine J_lstore_n (i := 3) (lw := [(3, .long l10), (0, .ref 162), (1, .int set), (2, .int owner)]) dX11_meanMended_10 rfl (by decide) rfl ?_
  refine J_aload_n (i := 0) (j := 1) dX11_meanMended_11 rfl rfl ?_
  refine J_iconst (v := 0) dX11_meanMended_12 (by decide) ?_
  refine J_callV (As := [.int 0]) (rest := []) dX11_meanMended_13 (c_M_mendAllNX (d := 1) (u := u11) (g := g) (ex := ex) (set := 0)  (by decide) (bd_r ((fc15 22 (Nat.ne_of_beq_eq_false rfl) (Nat.ne_of_beq_eq_false rfl) (Nat.ne_of_beq_eq_false rfl)).trans (congrFun (fr8 162 (Nat.ne_of_beq_eq_false rfl)) 22)) hp0) (ab_c (fr14 172 rfl) h3) (ab_c ((fr14 177 rfl).trans (fr8 177 (Nat.ne_of_beq_eq_false rfl))) hp5) (dn_c (fr14 172 rfl) h4) (rc_c (fr14 172 rfl) h5) (n0_c (fr14 172 rfl) h6)) hq.n k1631 k1633 k73 wc_162 rfl rfl k97 k1634 np_X11_mendAll (Nat.le_trans (by decide) hd) (by decide) (Nat.le_refl _) (Nat.le_refl _) wlen rfl (Nat.le_of_ble_eq_true rfl) (fun r_ h_ p16 => ?_)
  obtain ⟨u17, rfl, rfl, h18, h19, h20, h21, hx22, fr23⟩ := p16
  replace E := xq_le hx22 E
  refine J_lload_n (i := 3) (j := 0) dX11_meanMended_16 rfl rfl ?_
  exact J_lret hq dX11_meanMended_17 rfl wlen (Nat.le_refl _) (Nat.le_refl _) ⟨l10, u17, rfl, rfl, (bd_r (congrFun (fr23 162 (Nat.ne_of_beq_eq_false rfl)) 31) h12), h18, h19, h20, h21, E, (fun c k_ => ((fr23 c (nin_ne (a := 172) k_ rfl)).trans ((fr14 c (nin_sub (M := [(162, 162), (173, 175)]) k_ rfl)).trans (fr8 c (nin_ne (a := 172) k_ rfl))))), (fun j k31_ k32_ k33_ => ((congrFun (fr23 162 (Nat.ne_of_beq_eq_false rfl)) j).trans ((fc15 j k31_ k32_ k33_).trans (congrFun (fr8 162 (Nat.ne_of_beq_eq_false rfl)) j))))⟩
set_option maxRecDepth 100000 in
noncomputable def Fx_M_canMendX (h : Int32) (plan : Int32) (set : Int32) (left : Int32) (u : Nat → Nat → Int32) (g : Nat → Nat → Int64) : Bool × (Nat → Nat → Int32) := xq_c2 (Fx_M_layX h plan u g) fun t2 u3 => if t2 = true then (xq_lt (Fx_M_arePondsX set u3 g) fun t13 => if t13 = true then (if (5 : Int32) < (onesN set 9) then ((false, u3)) else (xq_lt (Fx_M_inEX left (0 : Int32) (9999 : Int32) u3 g) fun t20 => if t20 = true then (xq_lt (Fx_M_keepChancesX u3 g) fun u27 => (true, u27)) else ((false, u3)))) else ((false, u3))) else ((false, u3))
set_option maxHeartbeats 4000000 in
set_option maxRecDepth 100000 in
theorem c_M_canMendX {d : Nat} {u : Nat → Nat → Int32} {g : Nat → Nat → Int64} {ex : List MC} {h : Int32} {plan : Int32} {set : Int32} {left : Int32} (hd : 3 ≤ d) (hp0 : (MY u)) (hp1 : AB u 168 (-1) 999) (hp2 : (HD u)) (hp3 : (HC u)) (hp4 : (PL u)) (hp5 : (N0 u)) (hp6 : (DN u)) (hp7 : Bd 0 9 (u 162 22)) (hp8 : Bd 0 511 (u 162 31)) (hp9 : AB u 177 (-1) 999) : CT con0 d 0 0 yX11_canMend cX11_canMend 5 (some .boolean) [.ref 162, .int h, .int plan, .int set, .int left] (Wd u g ex) (fun r h2 => ∃ (z : Bool) (u2 : Nat → Nat → Int32), r = some (.int (bI z)) ∧ h2 = Wd u2 g ex ∧ (z = true → Bd 0 511 set) ∧ Bd 0 9 (u2 162 22) ∧ (DN u2) ∧ (N0 u2) ∧ AB u2 177 (-1) 999 ∧ (z = true → RC u2 ∧ AB u2 172 (-1) 999) ∧ (z, u2) = Fx_M_canMendX h plan set left u g ∧ (∀ c, nin c [(162, 162), (172, 172), (177, 177)] = true → u2 c = u c) ∧ (∀ j, j ≠ 22 → j ≠ 23 → j ≠ 24 → j ≠ 25 → j ≠ 26 → j ≠ 27 → u2 162 j = u 162 j)) := by
  refine CT_of (by decide) (Nat.le_of_ble_eq_true rfl) (fun x hq => ?_)
  show J x yX11_canMend cX11_canMend 5 (some .boolean) d 0 0 (Wd u g ex).length 0 [(0, .ref 162), (1, .int h), (2, .int plan), (3, .int set), (4, .int left)] [] (Wd u g ex) 0 0
  have E : Fx_M_canMendX h plan set left u g = Fx_M_canMendX h plan set left u g := rfl
  refine J_aload_n (i := 0) (j := 0) dX11_canMend_0 rfl rfl ?_
  refine J_iload_n (i := 1) (j := 1) dX11_canMend_1 rfl rfl ?_
  refine J_iload_n (i := 2) (j := 2) dX11_canMend_2 rfl rfl ?_
  refine J_callV (As := [.int h, .int plan]) (rest := []) dX11_canMend_3 (c_M_layX (d := 2) (u := u) (g := g) (ex := ex) (h := h) (plan := plan)  (by decide) hp0 hp1 hp2 hp3 hp4 hp5 hp6 hp7) hq.n k1503 k1505 k52 wc_162 rfl rfl k97 k1506 np_X11_lay (Nat.le_trans (by decide) hd) (by decide) (Nat.le_refl _) (Nat.le_refl _) wlen rfl (Nat.le_of_ble_eq_true rfl) (fun r_ h_ p1 => ?_)
  obtain ⟨t2, u3, rfl, rfl, h4, h5, h6, h7, hx8, fr9, fc10⟩ := p1
  replace E := xq_e2 hx8 E
  refine J_ifB_eq (tgt := 37) dX11_canMend_6 (by decide) (fun c11 => ?_) (fun c11 => ?_)
  · replace E := xq_ef c11 E
    refine J_iconst (v := 0) dX11_canMend_37 (by decide) ?_
    exact J_zret hq dX11_canMend_38 rfl rfl wlen (Nat.le_refl _) (Nat.le_refl _) ⟨false, u3, rfl, rfl, (fun q => absurd q (by decide)), h4, h5, h6, (ab_c (fr9 177 (Nat.ne_of_beq_eq_false rfl) (Nat.ne_of_beq_eq_false rfl)) hp9), (fun q => absurd q (by decide)), E, (fun c k_ => (fr9 c (nin_ne (a := 162) k_ rfl) (nin_ne (a := 172) k_ rfl))), (fun j k22_ k23_ k24_ k25_ k26_ k27_ => (fc10 j k22_ k23_ k24_ k25_ k26_ k27_))⟩
  · replace E := xq_ep c11 E
    refine J_aload_n (i := 0) (j := 0) dX11_canMend_9 rfl rfl ?_
    refine J_iload_n (i := 3) (j := 3) dX11_canMend_10 rfl rfl ?_
    refine J_callV (As := [.int set]) (rest := []) dX11_canMend_11 (c_M_arePondsX (d := 0) (u := u3) (g := g) (ex := ex) (set := set)  (by decide) h4) hq.n k1543 k1545 k59 wc_162 rfl rfl k97 k1546 np_X11_arePonds (Nat.le_trans (by decide) hd) (by decide) (Nat.le_refl _) (Nat.le_refl _) wlen rfl (Nat.le_of_ble_eq_true rfl) (fun r_ h_ p12 => ?_)
    obtain ⟨t13, rfl, rfl, h14, hx15⟩ := p12
    replace E := xq_le hx15 E
    refine J_ifB_eq (tgt := 37) dX11_canMend_14 (by decide) (fun c16 => ?_) (fun c16 => ?_)
    · replace E := xq_ef c16 E
      refine J_iconst (v := 0) dX11_canMend_37 (by decide) ?_
      exact J_zret hq dX11_canMend_38 rfl rfl wlen (Nat.le_refl _) (Nat.le_refl _) ⟨false, u3, rfl, rfl, (fun q => absurd q (by decide)), h4, h5, h6, (ab_c (fr9 177 (Nat.ne_of_beq_eq_false rfl) (Nat.ne_of_beq_eq_false rfl)) hp9), (fun q => absurd q (by decide)), E, (fun c k_ => (fr9 c (nin_ne (a := 162) k_ rfl) (nin_ne (a := 172) k_ rfl))), (fun j k22_ k23_ k24_ k25_ k26_ k27_ => (fc10 j k22_ k23_ k24_ k25_ k26_ k27_))⟩
    · replace E := xq_ep c16 E
      refine J_iload_n (i := 3) (j := 3) dX11_canMend_17 rfl rfl ?_
      refine J_callS (As := [.int set]) (rest := []) dX11_canMend_18 (c_M_ones (d := 0) (u := u3) (g := g) (ex := ex) (set := set)  (by decide) ) hq.n k1608 k1609 k97 k1610 np_X11_ones (Nat.le_trans (by decide) hd) (by decide) (Nat.le_refl _) (Nat.le_refl _) wlen rfl (Nat.le_of_ble_eq_true rfl) (fun r_ h_ p17 => ?_)
      obtain ⟨rfl, rfl⟩ := p17
      refine J_iconst (v := 5) dX11_canMend_21 (by decide) ?_
      refine J_icmp_gt (tgt := 37) dX11_canMend_22 (by decide) (fun c18 => ?_) (fun c18 => ?_)
      · replace E := xq_ep c18 E
        refine J_iconst (v := 0) dX11_canMend_37 (by decide) ?_
        exact J_zret hq dX11_canMend_38 rfl rfl wlen (Nat.le_refl _) (Nat.le_refl _) ⟨false, u3, rfl, rfl, (fun q => absurd q (by decide)), h4, h5, h6, (ab_c (fr9 177 (Nat.ne_of_beq_eq_false rfl) (Nat.ne_of_beq_eq_false rfl)) hp9), (fun q => absurd q (by decide)), E, (fun c k_ => (fr9 c (nin_ne (a := 162) k_ rfl) (nin_ne (a := 172) k_ rfl))), (fun j k22_ k23_ k24_ k25_ k26_ k27_ => (fc10 j k22_ k23_ k24_ k25_ k26_ k27_))⟩
      · replace E := xq_en c18 E
        refine J_iload (i := 4) (j := 4) dX11_canMend_25 rfl ?_
        refine J_iconst (v := 0) dX11_canMend_27 (by decide) ?_
        refine J_sipush (v := 9999) dX11_canMend_28 (by decide) ?_
        refine J_callS (As := [.int left, .int 0, .int 9999]) (rest := []) dX11_canMend_31 (c_M_inEX (d := 0) (u := u3) (g := g) (ex := ex) (v := left) (low := 0) (high := 9999)  (by decide) ) hq.n k1406 k1407 k97 k1408 np_X11_in (Nat.le_trans (by decide) hd) (by decide) (Nat.le_refl _) (Nat.le_refl _) wlen rfl (Nat.le_of_ble_eq_true rfl) (fun r_ h_ p19 => ?_)
        obtain ⟨t20, rfl, rfl, h21, h22, h23, hx24⟩ := p19
        replace E := xq_le hx24 E
        refine J_ifB_ne (tgt := 39) dX11_canMend_34 (by decide) (fun c25 => ?_) (fun c25 => ?_)
        · replace E := xq_ep c25 E
          refine J_aload_n (i := 0) (j := 0) dX11_canMend_39 rfl rfl ?_
          refine J_callV (As := []) (rest := []) dX11_canMend_40 (c_M_keepChancesX (d := 1) (u := u3) (g := g) (ex := ex)   (by decide) h4 (h7 c11).2 (ab_c (fr9 177 (Nat.ne_of_beq_eq_false rfl) (Nat.ne_of_beq_eq_false rfl)) hp9)) hq.n k1619 k1621 k70 wc_162 rfl rfl k97 k1622 np_X11_keepChances (Nat.le_trans (by decide) hd) (by decide) (Nat.le_refl _) (Nat.le_refl _) wlen rfl (Nat.le_of_ble_eq_true rfl) (fun r_ h_ p26 => ?_)
          obtain ⟨u27, rfl, rfl, h28, hx29, fr30⟩ := p26
          replace E := xq_le hx29 E
          refine J_iconst (v := 1) dX11_canMend_43 (by decide) ?_
          exact J_zret hq dX11_canMend_44 rfl rfl wlen (Nat.le_refl _) (Nat.le_refl _) ⟨true, u27, rfl, rfl, (fun qb => (h14 c16)), (bd_r (congrFun (fr30 162 (Nat.ne_of_beq_eq_false rfl)) 22) h4), (dn_c (fr30 172 (Nat.ne_of_beq_eq_false rfl)) h5), (n0_c (fr30 172 (Nat.ne_of_beq_eq_false rfl)) h6), h28, (fun _ => ⟨(rc_c (fr30 172 (Nat.ne_of_beq_eq_false rfl)) (h7 c11).1), (ab_c (fr30 172 (Nat.ne_of_beq_eq_false rfl)) (h7 c11).2)⟩), E, (fun c k_ => ((fr30 c (nin_ne (a := 177) k_ rfl)).trans (fr9 c (nin_ne (a := 162) k_ rfl) (nin_ne (a := 172) k_ rfl)))), (fun j k22_ k23_ k24_ k25_ k26_ k27_ => ((congrFun (fr30 162 (Nat.ne_of_beq_eq_false rfl)) j).trans (fc10 j k22_ k23_ k24_ k25_ k26_ k27_)))⟩
        · replace E := xq_ef c25 E
          refine J_iconst (v := 0) dX11_canMend_37 (by decide) ?_
          exact J_zret hq dX11_canMend_38 rfl rfl wlen (Nat.le_refl _) (Nat.le_refl _) ⟨false, u3, rfl, rfl, (fun q => absurd q (by decide)), h4, h5, h6, (ab_c (fr9 177 (Nat.ne_of_beq_eq_false rfl) (Nat.ne_of_beq_eq_false rfl)) hp9), (fun q => absurd q (by decide)), E, (fun c k_ => (fr9 c (nin_ne (a := 162) k_ rfl) (nin_ne (a := 172) k_ rfl))), (fun j k22_ k23_ k24_ k25_ k26_ k27_ => (fc10 j k22_ k23_ k24_ k25_ k26_ k27_))⟩
set_option maxRecDepth 100000 in
noncomputable def Fx_M_spendX_J103 (ih_lp1189 : (Int32) → (Int32) → (Nat → Nat → Int32) → Int32 × (Nat → Nat → Int32)) (w1009 : Int32) (w1317 : Int32) (u1318 : Nat → Nat → Int32) : Int32 × (Nat → Nat → Int32) := ih_lp1189 w1317 (w1009 + 1) u1318
set_option maxRecDepth 100000 in
noncomputable def Fx_M_spendX_L46 (ponds : Int32) (g : Nat → Nat → Int64) (l31 : Int64) (n_ : Nat) : (Int32) → (Int32) → (Nat → Nat → Int32) → Int32 × (Nat → Nat → Int32) := Nat.rec (motive := fun _ => (Int32) → (Int32) → (Nat → Nat → Int32) → Int32 × (Nat → Nat → Int32)) (fun _ _ _ => default) (fun n_ ih_ w1008 w1009 u1010 => if ponds < w1009 then ((w1008, u1010)) else (if (w1009 &&& (ponds ^^^ (-1))) = (0 : Int32) then (if w1008 = ((-1) : Int32) then (xq_c2 (Fx_M_meanMendedNX w1009 ((-1) : Int32) u1010 g) fun l1329 u1330 => xq_lt ((100 : Int64) * l1329) fun l1339 => if (0 : Int32) < (lg_cmp l1339 l31) then (Fx_M_spendX_J103 ih_ w1009 w1008 u1330) else (xq_lt (Fx_M_costOfX w1009 u1330 g) fun v1342 => Fx_M_spendX_J103 ih_ w1009 v1342 u1330)) else (xq_lt (Fx_M_costOfX w1009 u1010 g) fun v1345 => if w1008 ≤ v1345 then (Fx_M_spendX_J103 ih_ w1009 w1008 u1010) else (xq_c2 (Fx_M_meanMendedNX w1009 ((-1) : Int32) u1010 g) fun l1349 u1350 => xq_lt ((100 : Int64) * l1349) fun l1359 => if (0 : Int32) < (lg_cmp l1359 l31) then (Fx_M_spendX_J103 ih_ w1009 w1008 u1350) else (xq_lt (Fx_M_costOfX w1009 u1350 g) fun v1362 => Fx_M_spendX_J103 ih_ w1009 v1362 u1350)))) else (Fx_M_spendX_J103 ih_ w1009 w1008 u1010))) n_
set_option maxRecDepth 100000 in
theorem Fx_M_spendX_L46_s {ponds : Int32} {g : Nat → Nat → Int64} {l31 : Int64} {w1008 : Int32} {w1009 : Int32} {u1010 : Nat → Nat → Int32} {n_ : Nat} : Fx_M_spendX_L46 ponds g l31 (n_ + 1) w1008 w1009 u1010 = if ponds < w1009 then ((w1008, u1010)) else (if (w1009 &&& (ponds ^^^ (-1))) = (0 : Int32) then (if w1008 = ((-1) : Int32) then (xq_c2 (Fx_M_meanMendedNX w1009 ((-1) : Int32) u1010 g) fun l1329 u1330 => xq_lt ((100 : Int64) * l1329) fun l1339 => if (0 : Int32) < (lg_cmp l1339 l31) then (Fx_M_spendX_J103 (Fx_M_spendX_L46 ponds g l31 n_) w1009 w1008 u1330) else (xq_lt (Fx_M_costOfX w1009 u1330 g) fun v1342 => Fx_M_spendX_J103 (Fx_M_spendX_L46 ponds g l31 n_) w1009 v1342 u1330)) else (xq_lt (Fx_M_costOfX w1009 u1010 g) fun v1345 => if w1008 ≤ v1345 then (Fx_M_spendX_J103 (Fx_M_spendX_L46 ponds g l31 n_) w1009 w1008 u1010) else (xq_c2 (Fx_M_meanMendedNX w1009 ((-1) : Int32) u1010 g) fun l1349 u1350 => xq_lt ((100 : Int64) * l1349) fun l1359 => if (0 : Int32) < (lg_cmp l1359 l31) then (Fx_M_spendX_J103 (Fx_M_spendX_L46 ponds g l31 n_) w1009 w1008 u1350) else (xq_lt (Fx_M_costOfX w1009 u1350 g) fun v1362 => Fx_M_spendX_J103 (Fx_M_spendX_L46 ponds g l31 n_) w1009 v1362 u1350)))) else (Fx_M_spendX_J103 (Fx_M_spendX_L46 ponds g l31 n_) w1009 w1008 u1010)) := rfl
set_option maxRecDepth 100000 in
noncomputable def Fx_M_spendX (hill : Int32) (plan : Int32) (ponds : Int32) (mm : Int32) (u : Nat → Nat → Int32) (g : Nat → Nat → Int64) : Int32 × (Nat → Nat → Int32) := xq_lt (ms u 162 0 0) fun u1 => xq_c2 (Fx_M_canMendX hill plan ponds (0 : Int32) u1 g) fun t4 u5 => if t4 = true then (xq_lt (Fx_M_inEX mm (0 : Int32) (100 : Int32) u5 g) fun t17 => if t17 = true then (xq_lt mm.toInt64 fun l23 => xq_c2 (Fx_M_meanByX ((-1) : Int32) u5 g) fun l25 u26 => xq_lt (l23 * l25) fun l31 => Fx_M_spendX_L46 ponds g l31 ((512 - (0 : Int32).toInt).toNat + 1) ((-1) : Int32) (0 : Int32) u26) else ((((-1) : Int32), u5))) else ((((-1) : Int32), u5))
set_option maxHeartbeats 4000000 in
set_option maxRecDepth 100000 in
theorem c_M_spendX {d : Nat} {u : Nat → Nat → Int32} {g : Nat → Nat → Int64} {ex : List MC} {hill : Int32} {plan : Int32} {ponds : Int32} {mm : Int32} (hd : 6 ≤ d) (hp0 : (MY u)) (hp1 : AB u 168 (-1) 999) (hp2 : (HD u)) (hp3 : (HC u)) (hp4 : (PL u)) (hp5 : (N0 u)) (hp6 : (DN u)) (hp7 : Bd 0 9 (u 162 22)) (hp8 : Bd 0 511 (u 162 31)) (hp9 : AB u 177 (-1) 999) : CT con0 d 0 0 yX11_spend cX11_spend 9 (some .int) [.ref 162, .int hill, .int plan, .int ponds, .int mm] (Wd u g ex) (fun r h2 => ∃ (z : Int32) (u2 : Nat → Nat → Int32), r = some (.int z) ∧ h2 = Wd u2 g ex ∧ Bd 0 9 (u2 162 22) ∧ (DN u2) ∧ (N0 u2) ∧ Bd 0 511 (u2 162 31) ∧ AB u2 177 (-1) 999 ∧ (z, u2) = Fx_M_spendX hill plan ponds mm u g ∧ (∀ c, nin c [(162, 162), (172, 175), (177, 177)] = true → u2 c = u c) ∧ (∀ j, j ≠ 0 → j ≠ 22 → j ≠ 23 → j ≠ 24 → j ≠ 25 → j ≠ 26 → j ≠ 27 → j ≠ 31 → j ≠ 32 → j ≠ 33 → u2 162 j = u 162 j)) := by
  refine CT_of (by decide) (Nat.le_of_ble_eq_true rfl) (fun x hq => ?_)
  show J x yX11_spend cX11_spend 9 (some .int) d 0 0 (Wd u g ex).length 0 [(0, .ref 162), (1, .int hill), (2, .int plan), (3, .int ponds), (4, .int mm)] [] (Wd u g ex) 0 0
  have E : Fx_M_spendX hill plan ponds mm u g = Fx_M_spendX hill plan ponds mm u g := rfl
  refine J_aload_n (i := 0) (j := 0) dX11_spend_0 rfl rfl ?_
  refine J_iconst (v := 0) dX11_spend_1 (by decide) ?_
  obtain ⟨u1, e2⟩ : ∃ z, z = ms u 162 0 0 := ⟨_, rfl⟩
  refine J_put (C := RX11) (T := TX11) (Z := 43) (ci := 11) (f := 0) (ty0 := tyX11) dX11_spend_2 inG11 rfl tyX11_ok nmX11 (by decide) k1264 rfl rfl wc_162 (Nat.le_of_ble_eq_true rfl) (fun _ _ => ⟨rfl, rfl⟩) (ws e2 wk_162 rfl) ?_
  replace E := xq_le e2 E
  refine J_aload_n (i := 0) (j := 0) dX11_spend_5 rfl rfl ?_
  refine J_iload_n (i := 1) (j := 1) dX11_spend_6 rfl rfl ?_
  refine J_iload_n (i := 2) (j := 2) dX11_spend_7 rfl rfl ?_
  refine J_iload_n (i := 3) (j := 3) dX11_spend_8 rfl rfl ?_
  refine J_iconst (v := 0) dX11_spend_9 (by decide) ?_
  refine J_callV (As := [.int hill, .int plan, .int ponds, .int 0]) (rest := []) dX11_spend_10 (c_M_canMendX (d := 3) (u := u1) (g := g) (ex := ex) (h := hill) (plan := plan) (set := ponds) (left := 0)  (by decide) (my_c (ms_c e2 (Nat.ne_of_beq_eq_false rfl)) hp0) (ab_c (ms_c e2 (Nat.ne_of_beq_eq_false rfl)) hp1) (hd_c (ms_c e2 (Nat.ne_of_beq_eq_false rfl)) hp2) (hc_c (ms_c e2 (Nat.ne_of_beq_eq_false rfl)) (ms_c e2 (Nat.ne_of_beq_eq_false rfl)) hp3) (pl_c (ms_c e2 (Nat.ne_of_beq_eq_false rfl)) hp4) (n0_c (ms_c e2 (Nat.ne_of_beq_eq_false rfl)) hp5) (dn_c (ms_c e2 (Nat.ne_of_beq_eq_false rfl)) hp6) (bd_r (ms_i e2 (Nat.ne_of_beq_eq_false rfl)) hp7) (bd_r (ms_i e2 (Nat.ne_of_beq_eq_false rfl)) hp8) (ab_c (ms_c e2 (Nat.ne_of_beq_eq_false rfl)) hp9)) hq.n k1615 k1617 k69 wc_162 rfl rfl k97 k1618 np_X11_canMend (Nat.le_trans (by decide) hd) (by decide) (Nat.le_refl _) (Nat.le_refl _) wlen rfl (Nat.le_of_ble_eq_true rfl) (fun r_ h_ p3 => ?_)
  obtain ⟨t4, u5, rfl, rfl, h6, h7, h8, h9, h10, h11, hx12, fr13, fc14⟩ := p3
  replace E := xq_e2 hx12 E
  refine J_ifB_eq (tgt := 27) dX11_spend_13 (by decide) (fun c15 => ?_) (fun c15 => ?_)
  · replace E := xq_ef c15 E
    refine J_iconst (v := (-1)) dX11_spend_27 (by decide) ?_
    exact J_iret hq dX11_spend_28 rfl wlen (Nat.le_refl _) (Nat.le_refl _) ⟨((-1) : Int32), u5, rfl, rfl, h7, h8, h9, (bd_r ((fc14 31 (Nat.ne_of_beq_eq_false rfl) (Nat.ne_of_beq_eq_false rfl) (Nat.ne_of_beq_eq_false rfl) (Nat.ne_of_beq_eq_false rfl) (Nat.ne_of_beq_eq_false rfl) (Nat.ne_of_beq_eq_false rfl)).trans (ms_i e2 (Nat.ne_of_beq_eq_false rfl))) hp8), h10, E, (fun c k_ => ((fr13 c (nin_sub (M := [(162, 162), (172, 172), (177, 177)]) k_ rfl)).trans (ms_c e2 (nin_ne (a := 162) k_ rfl)))), (fun j k0_ k22_ k23_ k24_ k25_ k26_ k27_ k31_ k32_ k33_ => ((fc14 j k22_ k23_ k24_ k25_ k26_ k27_).trans (ms_i e2 k0_)))⟩
  · replace E := xq_ep c15 E
    refine J_iload (i := 4) (j := 4) dX11_spend_16 rfl ?_
    refine J_iconst (v := 0) dX11_spend_18 (by decide) ?_
    refine J_bipush (v := 100) dX11_spend_19 (by decide) ?_
    refine J_callS (As := [.int mm, .int 0, .int 100]) (rest := []) dX11_spend_21 (c_M_inEX (d := 0) (u := u5) (g := g) (ex := ex) (v := mm) (low := 0) (high := 100)  (by decide) ) hq.n k1406 k1407 k97 k1408 np_X11_in (Nat.le_trans (by decide) hd) (by decide) (Nat.le_refl _) (Nat.le_refl _) wlen rfl (Nat.le_of_ble_eq_true rfl) (fun r_ h_ p16 => ?_)
    obtain ⟨t17, rfl, rfl, h18, h19, h20, hx21⟩ := p16
    replace E := xq_le hx21 E
    refine J_ifB_ne (tgt := 29) dX11_spend_24 (by decide) (fun c22 => ?_) (fun c22 => ?_)
    · replace E := xq_ep c22 E
      refine J_iload (i := 4) (j := 4) dX11_spend_29 rfl ?_
      refine J_i2l dX11_spend_31 rfl ?_
      refine J_topl (fun l23 ql23 => ?_)
      replace E := xq_le ql23 E
      refine J_aload_n (i := 0) (j := 0) dX11_spend_32 rfl rfl ?_
      refine J_iconst (v := (-1)) dX11_spend_33 (by decide) ?_
      refine J_callV (As := [.int (-1)]) (rest := [.long l23]) dX11_spend_34 (c_M_meanByX (d := 4) (u := u5) (g := g) (ex := ex) (owner := (-1))  (by decide) h7 (h11 c15).1 h8 (bd_r ((fc14 31 (Nat.ne_of_beq_eq_false rfl) (Nat.ne_of_beq_eq_false rfl) (Nat.ne_of_beq_eq_false rfl) (Nat.ne_of_beq_eq_false rfl) (Nat.ne_of_beq_eq_false rfl) (Nat.ne_of_beq_eq_false rfl)).trans (ms_i e2 (Nat.ne_of_beq_eq_false rfl))) hp8)) hq.n k1596 k1598 k68 wc_162 rfl rfl k97 k1599 np_X11_meanBy (Nat.le_trans (by decide) hd) (by decide) (Nat.le_refl _) (Nat.le_refl _) wlen rfl (Nat.le_of_ble_eq_true rfl) (fun r_ h_ p24 => ?_)
      obtain ⟨l25, u26, rfl, rfl, h27, hx28, fr29, fc30⟩ := p24
      replace E := xq_e2 hx28 E
      refine J_lmul dX11_spend_37 ?_
      refine J_topl (fun l31 ql31 => ?_)
      replace E := xq_le ql31 E
      refine J_lstore (i := 5) (lw := [(5, .long l31), (0, .ref 162), (1, .int hill), (2, .int plan), (3, .int ponds), (4, .int mm)]) dX11_spend_38 (by decide) rfl ?_
      refine J_iconst (v := (-1)) dX11_spend_40 (by decide) ?_
      refine J_istore (i := 7) (lw := [(7, .int (-1)), (5, .long l31), (0, .ref 162), (1, .int hill), (2, .int plan), (3, .int ponds), (4, .int mm)]) dX11_spend_41 (by decide) rfl ?_
      refine J_iconst (v := 0) dX11_spend_43 (by decide) ?_
      refine J_istore (i := 8) (lw := [(8, .int 0), (7, .int (-1)), (5, .long l31), (0, .ref 162), (1, .int hill), (2, .int plan), (3, .int ponds), (4, .int mm)]) dX11_spend_44 (by decide) rfl ?_
      have lp1189 : ∀ (n1190 : Nat) (w1008 : Int32) (w1009 : Int32) (u1010 : Nat → Nat → Int32), Bd 0 512 w1009 → (∀ c, nin c [(162, 162), (172, 175)] = true → u1010 c = u26 c) → (∀ j, j ≠ 31 → j ≠ 32 → j ≠ 33 → u1010 162 j = u26 162 j) → Bd 0 511 (u1010 162 31) → AB u1010 172 (-1) 999 → DN u1010 → N0 u1010 → RC u1010 → (512 - w1009.toInt).toNat < n1190 → Fx_M_spendX_L46 ponds g l31 n1190 w1008 w1009 u1010 = Fx_M_spendX hill plan ponds mm u g → J x yX11_spend cX11_spend 9 (some .int) d 0 0 (Wd u g ex).length 46 [(0, .ref 162), (3, .int ponds), (5, .long l31), (7, .int w1008), (8, .int w1009)] [] (Wd u1010 g ex) 0 0 := by
        intro n1190
        induction n1190 with
        | zero => intro w1008 w1009 u1010 bw1009 fr1011 fc1012 bm1013 ab1014 rf1015 rf1016 rf1017 hm1192 _; exact absurd hm1192 (Nat.not_lt_zero _)
        | succ n1190 ih1191 =>
          intro w1008 w1009 u1010 bw1009 fr1011 fc1012 bm1013 ab1014 rf1015 rf1016 rf1017 hm1192 E
          replace E := Fx_M_spendX_L46_s.symm.trans E
          refine J_iload (i := 8) (j := 4) dX11_spend_46 rfl ?_
          refine J_iload_n (i := 3) (j := 1) dX11_spend_48 rfl rfl ?_
          refine J_icmp_gt (tgt := 109) dX11_spend_49 (by decide) (fun c1193 => ?_) (fun c1193 => ?_)
          · replace E := xq_ep c1193 E
            refine J_iload (i := 7) (j := 3) dX11_spend_109 rfl ?_
            exact J_iret hq dX11_spend_111 rfl wlen (Nat.le_refl _) (Nat.le_refl _) ⟨w1008, u1010, rfl, rfl, (bd_r ((fc1012 22 (Nat.ne_of_beq_eq_false rfl) (Nat.ne_of_beq_eq_false rfl) (Nat.ne_of_beq_eq_false rfl)).trans (fc30 22 (Nat.ne_of_beq_eq_false rfl) (Nat.ne_of_beq_eq_false rfl) (Nat.ne_of_beq_eq_false rfl))) h7), rf1015, rf1016, bm1013, (ab_c ((fr1011 177 rfl).trans (fr29 177 rfl)) h10), E, (fun c k_ => ((fr1011 c (nin_sub (M := [(162, 162), (172, 175)]) k_ rfl)).trans ((fr29 c (nin_sub (M := [(162, 162), (173, 175)]) k_ rfl)).trans ((fr13 c (nin_sub (M := [(162, 162), (172, 172), (177, 177)]) k_ rfl)).trans (ms_c e2 (nin_ne (a := 162) k_ rfl)))))), (fun j k0_ k22_ k23_ k24_ k25_ k26_ k27_ k31_ k32_ k33_ => ((fc1012 j k31_ k32_ k33_).trans ((fc30 j k31_ k32_ k33_).trans ((fc14 j k22_ k23_ k24_ k25_ k26_ k27_).trans (ms_i e2 k0_)))))⟩
          · replace E := xq_en c1193 E
            refine J_iload (i := 8) (j := 4) dX11_spend_52 rfl ?_
            refine J_iload_n (i := 3) (j := 1) dX11_spend_54 rfl rfl ?_
            refine J_iconst (v := (-1)) dX11_spend_55 (by decide) ?_
            refine J_ixor dX11_spend_56 ?_
            refine J_iand dX11_spend_57 ?_
            have jn1326 : ∀ (w1317 : Int32) (u1318 : Nat → Nat → Int32), (∀ c, nin c [(162, 162), (172, 175)] = true → u1318 c = u1010 c) → (∀ j, j ≠ 31 → j ≠ 32 → j ≠ 33 → u1318 162 j = u1010 162 j) → Bd 0 511 (u1318 162 31) → AB u1318 172 (-1) 999 → DN u1318 → N0 u1318 → RC u1318 → Fx_M_spendX_J103 (Fx_M_spendX_L46 ponds g l31 n1190) w1009 w1317 u1318 = Fx_M_spendX hill plan ponds mm u g → J x yX11_spend cX11_spend 9 (some .int) d 0 0 (Wd u g ex).length 103 [(0, .ref 162), (3, .int ponds), (5, .long l31), (7, .int w1317), (8, .int w1009)] [] (Wd u1318 g ex) 0 0 := by
              intro w1317 u1318 fr1319 fc1320 bm1321 ab1322 rf1323 rf1324 rf1325 E
              refine J_iinc (i := 8) (j := 4) (v := (w1009 + 1)) (lw := [(8, .int (w1009 + 1)), (0, .ref 162), (3, .int ponds), (5, .long l31), (7, .int w1317)]) dX11_spend_103 rfl rfl (by decide) rfl ?_
              refine J_goto (tgt := 46) dX11_spend_106 (by decide) ?_
              refine J_lv [1, 2, 3, 4, 0] rfl ?_
              exact ih1191 w1317 (w1009 + 1) u1318 (bd_w (l := 0) (h := 512) (bd_add (l := 1) (h := 512) (bd_le_hi bw1009 (i_nlt c1193) (h6 c15)) (bd_c (v := 1) (lo := 1) (hi := 1) (by decide)) (by decide)) (by decide)) (fun c k_ => ((fr1319 c (nin_sub (M := [(162, 162), (172, 175)]) k_ rfl)).trans (fr1011 c (nin_sub (M := [(162, 162), (172, 175)]) k_ rfl)))) (fun j k31_ k32_ k33_ => ((fc1320 j k31_ k32_ k33_).trans (fc1012 j k31_ k32_ k33_))) bm1321 ab1322 rf1323 rf1324 rf1325 (mu_up 1 bw1009 rfl (by decide) (bd_w (l := 1) (h := 512) (bd_add (l := 1) (h := 512) (bd_le_hi bw1009 (i_nlt c1193) (h6 c15)) (bd_c (v := 1) (lo := 1) (hi := 1) (by decide)) (by decide)) (by decide)) hm1192) E
            refine J_if_ne (tgt := 103) dX11_spend_58 (by decide) (fun c1279 => ?_) (fun c1279 => ?_)
            · replace E := xq_en c1279 E
              refine J_lv [0, 1, 2, 3, 4] rfl ?_
              exact jn1326 w1008 u1010 (fun c k_ => rfl) (fun j k31_ k32_ k33_ => rfl) bm1013 ab1014 rf1015 rf1016 rf1017 E
            · replace E := xq_ep c1279 E
              refine J_iload (i := 7) (j := 3) dX11_spend_61 rfl ?_
              refine J_iconst (v := (-1)) dX11_spend_63 (by decide) ?_
              refine J_icmp_eq (tgt := 78) dX11_spend_64 (by decide) (fun c1327 => ?_) (fun c1327 => ?_)
              · replace E := xq_ep c1327 E
                refine J_ldc2 (v := 100) dX11_spend_78 k1587 ?_
                refine J_aload_n (i := 0) (j := 0) dX11_spend_81 rfl rfl ?_
                refine J_iload (i := 8) (j := 4) dX11_spend_82 rfl ?_
                refine J_iconst (v := (-1)) dX11_spend_84 (by decide) ?_
                refine J_callV (As := [.int w1009, .int (-1)]) (rest := [.long 100]) dX11_spend_85 (c_M_meanMendedNX (d := 5) (u := u1010) (g := g) (ex := ex) (set := w1009) (owner := (-1))  (by decide) (bd_r ((fc1012 22 (Nat.ne_of_beq_eq_false rfl) (Nat.ne_of_beq_eq_false rfl) (Nat.ne_of_beq_eq_false rfl)).trans (fc30 22 (Nat.ne_of_beq_eq_false rfl) (Nat.ne_of_beq_eq_false rfl) (Nat.ne_of_beq_eq_false rfl))) h7) rf1017 rf1015 bm1013 ab1014 (ab_c ((fr1011 177 rfl).trans (fr29 177 rfl)) h10) rf1016) hq.n k1627 k1629 k72 wc_162 rfl rfl k97 k1630 np_X11_meanMended (Nat.le_trans (by decide) hd) (by decide) (Nat.le_refl _) (Nat.le_refl _) wlen rfl (Nat.le_of_ble_eq_true rfl) (fun r_ h_ p1328 => ?_)
                obtain ⟨l1329, u1330, rfl, rfl, h1331, h1332, h1333, h1334, h1335, hx1336, fr1337, fc1338⟩ := p1328
                replace E := xq_e2 hx1336 E
                refine J_lmul dX11_spend_88 ?_
                refine J_topl (fun l1339 ql1339 => ?_)
                replace E := xq_le ql1339 E
                refine J_lload (i := 5) (j := 2) dX11_spend_89 rfl ?_
                refine J_lcmp dX11_spend_91 ?_
                refine J_if_gt (tgt := 103) dX11_spend_92 (by decide) (fun c1340 => ?_) (fun c1340 => ?_)
                · replace E := xq_ep c1340 E
                  refine J_lv [0, 1, 2, 3, 4] rfl ?_
                  exact jn1326 w1008 u1330 (fun c k_ => (fr1337 c (nin_sub (M := [(162, 162), (172, 175)]) k_ rfl))) (fun j k31_ k32_ k33_ => (fc1338 j k31_ k32_ k33_)) h1331 h1332 h1333 h1335 h1334 E
                · replace E := xq_en c1340 E
                  refine J_aload_n (i := 0) (j := 0) dX11_spend_95 rfl rfl ?_
                  refine J_iload (i := 8) (j := 4) dX11_spend_96 rfl ?_
                  refine J_callV (As := [.int w1009]) (rest := []) dX11_spend_98 (c_M_costOfX (d := 1) (u := u1330) (g := g) (ex := ex) (set := w1009)  (by decide) (bd_r ((fc1338 22 (Nat.ne_of_beq_eq_false rfl) (Nat.ne_of_beq_eq_false rfl) (Nat.ne_of_beq_eq_false rfl)).trans ((fc1012 22 (Nat.ne_of_beq_eq_false rfl) (Nat.ne_of_beq_eq_false rfl) (Nat.ne_of_beq_eq_false rfl)).trans (fc30 22 (Nat.ne_of_beq_eq_false rfl) (Nat.ne_of_beq_eq_false rfl) (Nat.ne_of_beq_eq_false rfl)))) h7)) hq.n k1623 k1625 k71 wc_162 rfl rfl k97 k1626 np_X11_costOf (Nat.le_trans (by decide) hd) (by decide) (Nat.le_refl _) (Nat.le_refl _) wlen rfl (Nat.le_of_ble_eq_true rfl) (fun r_ h_ p1341 => ?_)
                  obtain ⟨v1342, rfl, rfl, hx1343⟩ := p1341
                  replace E := xq_le hx1343 E
                  refine J_istore (i := 7) (lw := [(7, .int v1342), (0, .ref 162), (3, .int ponds), (5, .long l31), (8, .int w1009)]) dX11_spend_101 (by decide) rfl ?_
                  refine J_lv [1, 2, 3, 0, 4] rfl ?_
                  exact jn1326 v1342 u1330 (fun c k_ => (fr1337 c (nin_sub (M := [(162, 162), (172, 175)]) k_ rfl))) (fun j k31_ k32_ k33_ => (fc1338 j k31_ k32_ k33_)) h1331 h1332 h1333 h1335 h1334 E
              · replace E := xq_en c1327 E
                refine J_aload_n (i := 0) (j := 0) dX11_spend_67 rfl rfl ?_
                refine J_iload (i := 8) (j := 4) dX11_spend_68 rfl ?_
                refine J_callV (As := [.int w1009]) (rest := []) dX11_spend_70 (c_M_costOfX (d := 1) (u := u1010) (g := g) (ex := ex) (set := w1009)  (by decide) (bd_r ((fc1012 22 (Nat.ne_of_beq_eq_false rfl) (Nat.ne_of_beq_eq_false rfl) (Nat.ne_of_beq_eq_false rfl)).trans (fc30 22 (Nat.ne_of_beq_eq_false rfl) (Nat.ne_of_beq_eq_false rfl) (Nat.ne_of_beq_eq_false rfl))) h7)) hq.n k1623 k1625 k71 wc_162 rfl rfl k97 k1626 np_X11_costOf (Nat.le_trans (by decide) hd) (by decide) (Nat.le_refl _) (Nat.le_refl _) wlen rfl (Nat.le_of_ble_eq_true rfl) (fun r_ h_ p1344 => ?_)
                obtain ⟨v1345, rfl, rfl, hx1346⟩ := p1344
                replace E := xq_le hx1346 E
                refine J_iload (i := 7) (j := 3) dX11_spend_73 rfl ?_
                refine J_icmp_ge (tgt := 103) dX11_spend_75 (by decide) (fun c1347 => ?_) (fun c1347 => ?_)
                · replace E := xq_ep c1347 E
                  refine J_lv [0, 1, 2, 3, 4] rfl ?_
                  exact jn1326 w1008 u1010 (fun c k_ => rfl) (fun j k31_ k32_ k33_ => rfl) bm1013 ab1014 rf1015 rf1016 rf1017 E
                · replace E := xq_en c1347 E
                  refine J_ldc2 (v := 100) dX11_spend_78 k1587 ?_
                  refine J_aload_n (i := 0) (j := 0) dX11_spend_81 rfl rfl ?_
                  refine J_iload (i := 8) (j := 4) dX11_spend_82 rfl ?_
                  refine J_iconst (v := (-1)) dX11_spend_84 (by decide) ?_
                  refine J_callV (As := [.int w1009, .int (-1)]) (rest := [.long 100]) dX11_spend_85 (c_M_meanMendedNX (d := 5) (u := u1010) (g := g) (ex := ex) (set := w1009) (owner := (-1))  (by decide) (bd_r ((fc1012 22 (Nat.ne_of_beq_eq_false rfl) (Nat.ne_of_beq_eq_false rfl) (Nat.ne_of_beq_eq_false rfl)).trans (fc30 22 (Nat.ne_of_beq_eq_false rfl) (Nat.ne_of_beq_eq_false rfl) (Nat.ne_of_beq_eq_false rfl))) h7) rf1017 rf1015 bm1013 ab1014 (ab_c ((fr1011 177 rfl).trans (fr29 177 rfl)) h10) rf1016) hq.n k1627 k1629 k72 wc_162 rfl rfl k97 k1630 np_X11_meanMended (Nat.le_trans (by decide) hd) (by decide) (Nat.le_refl _) (Nat.le_refl _) wlen rfl (Nat.le_of_ble_eq_true rfl) (fun r_ h_ p1348 => ?_)
                  obtain ⟨l1349, u1350, rfl, rfl, h1351, h1352, h1353, h1354, h1355, hx1356, fr1357, fc1358⟩ := p1348
                  replace E := xq_e2 hx1356 E
                  refine J_lmul dX11_spend_88 ?_
                  refine J_topl (fun l1359 ql1359 => ?_)
                  replace E := xq_le ql1359 E
                  refine J_lload (i := 5) (j := 2) dX11_spend_89 rfl ?_
                  refine J_lcmp dX11_spend_91 ?_
                  refine J_if_gt (tgt := 103) dX11_spend_92 (by decide) (fun c1360 => ?_) (fun c1360 => ?_)
                  · replace E := xq_ep c1360 E
                    refine J_lv [0, 1, 2, 3, 4] rfl ?_
                    exact jn1326 w1008 u1350 (fun c k_ => (fr1357 c (nin_sub (M := [(162, 162), (172, 175)]) k_ rfl))) (fun j k31_ k32_ k33_ => (fc1358 j k31_ k32_ k33_)) h1351 h1352 h1353 h1355 h1354 E
                  · replace E := xq_en c1360 E
                    refine J_aload_n (i := 0) (j := 0) dX11_spend_95 rfl rfl ?_
                    refine J_iload (i := 8) (j := 4) dX11_spend_96 rfl ?_
                    refine J_callV (As := [.int w1009]) (rest := []) dX11_spend_98 (c_M_costOfX (d := 1) (u := u1350) (g := g) (ex := ex) (set := w1009)  (by decide) (bd_r ((fc1358 22 (Nat.ne_of_beq_eq_false rfl) (Nat.ne_of_beq_eq_false rfl) (Nat.ne_of_beq_eq_false rfl)).trans ((fc1012 22 (Nat.ne_of_beq_eq_false rfl) (Nat.ne_of_beq_eq_false rfl) (Nat.ne_of_beq_eq_false rfl)).trans (fc30 22 (Nat.ne_of_beq_eq_false rfl) (Nat.ne_of_beq_eq_false rfl) (Nat.ne_of_beq_eq_false rfl)))) h7)) hq.n k1623 k1625 k71 wc_162 rfl rfl k97 k1626 np_X11_costOf (Nat.le_trans (by decide) hd) (by decide) (Nat.le_refl _) (Nat.le_refl _) wlen rfl (Nat.le_of_ble_eq_true rfl) (fun r_ h_ p1361 => ?_)
                    obtain ⟨v1362, rfl, rfl, hx1363⟩ := p1361
                    replace E := xq_le hx1363 E
                    refine J_istore (i := 7) (lw := [(7, .int v1362), (0, .ref 162), (3, .int ponds), (5, .long l31), (8, .int w1009)]) dX11_spend_101 (by decide) rfl ?_
                    refine J_lv [1, 2, 3, 0, 4] rfl ?_
                    exact jn1326 v1362 u1350 (fun c k_ => (fr1357 c (nin_sub (M := [(162, 162), (172, 175)]) k_ rfl))) (fun j k31_ k32_ k33_ => (fc1358 j k31_ k32_ k33_)) h1351 h1352 h1353 h1355 h1354 E
      refine J_lv [3, 6, 2, 1, 0] rfl ?_
      exact lp1189 ((512 - (0 : Int32).toInt).toNat + 1) ((-1) : Int32) (0 : Int32) u26 (bd_w (l := 0) (h := 512) (bd_c (v := 0) (lo := 0) (hi := 0) (by decide)) (by decide)) (fun c k_ => rfl) (fun j k31_ k32_ k33_ => rfl) h27 (ab_c (fr29 172 rfl) (h11 c15).2) (dn_c (fr29 172 rfl) h8) (n0_c (fr29 172 rfl) h9) (rc_c (fr29 172 rfl) (h11 c15).1) (Nat.lt_succ_self _) E
    · replace E := xq_ef c22 E
      refine J_iconst (v := (-1)) dX11_spend_27 (by decide) ?_
      exact J_iret hq dX11_spend_28 rfl wlen (Nat.le_refl _) (Nat.le_refl _) ⟨((-1) : Int32), u5, rfl, rfl, h7, h8, h9, (bd_r ((fc14 31 (Nat.ne_of_beq_eq_false rfl) (Nat.ne_of_beq_eq_false rfl) (Nat.ne_of_beq_eq_false rfl) (Nat.ne_of_beq_eq_false rfl) (Nat.ne_of_beq_eq_false rfl) (Nat.ne_of_beq_eq_false rfl)).trans (ms_i e2 (Nat.ne_of_beq_eq_false rfl))) hp8), h10, E, (fun c k_ => ((fr13 c (nin_sub (M := [(162, 162), (172, 172), (177, 177)]) k_ rfl)).trans (ms_c e2 (nin_ne (a := 162) k_ rfl)))), (fun j k0_ k22_ k23_ k24_ k25_ k26_ k27_ k31_ k32_ k33_ => ((fc14 j k22_ k23_ k24_ k25_ k26_ k27_).trans (ms_i e2 k0_)))⟩
